section
variable {p : Program} {l : Launch} {e : Env} {s : State} {m : MethodId} {args : Array Value} {below : List Frame} {meth : Method} {c : Code} {D : va_G} {cs : Nat → ClassId} {B0 : Nat} {kt : (Nat → Nat) × (Nat → Nat)} {α : Nat → Nat → Nat} {Lv : Nat → Nat → Prop}
def f_X0_add (g0 : Nat) (g1 : Nat) (S : St) : Option (St) := ck (¬ (gi S 14 g0 0) = 0) (bv (rmI (gi S 14 g0 3) (gi S 14 g0 0)) (fun q_2 => ck (cpok 0 (q_2 * 4) 4 4 (gn S 15 g0) = true) (bv (ai S 15 g0 (va_cpy (gi S 26 g1) (gi S 15 g0) (nn 0) (nn (q_2 * 4)) (nn 4))) (fun S_4 => bv (si S_4 14 g0 3 ((gi S_4 14 g0 3) + 1)) (fun S_5 => some S_5)))))
set_option maxRecDepth 100000 in
set_option maxHeartbeats 4000000 in
theorem b_X0_add (hc : Cx p s m args meth c cX0_add 2 "PumpCrossing$Boards" D cs B0 kt Lv) (hr : meth.sig.returnType = none)  {o : St}  {S : St} {g0 : Nat} {g1 : Nat} (hL0 : Lv 14 g0) (hL1 : Lv 26 g1) {H : Heap} {locs : List Loc} {ls : Array Slot} (hf : f_X0_add g0 g1 S = some o) (hd : Dy s D cs B0 α Lv S H locs) (hl : lv_has ls 2 [(0, .ref (α 14 g0)), (1, .ref (α 26 g1))]) : W p l e (Rm 2 0 0) s m args below meth c H locs 0 0 (MQ below (Qv D cs B0 α Lv o) args s 0 0 (AB B0)) (F0 m 0 ls []) := by
  unfold f_X0_add at hf
  refine lv_aload_n hc.x hc.b dX0_add_0 rfl (lv_at hl 1 rfl) ?_
  refine lv_iconst (v := 0) hc.x hc.b dX0_add_1 (by decide) ?_
  refine lv_aload_n hc.x hc.b dX0_add_2 rfl (lv_at hl 0 rfl) ?_
  refine fg_14_1 hc hd hL0 tw_77 dX0_add_3 ?_
  refine lv_aload_n hc.x hc.b dX0_add_6 rfl (lv_at hl 0 rfl) ?_
  refine fg_14_3 hc hd hL0 tw_80 dX0_add_7 ?_
  refine lv_aload_n hc.x hc.b dX0_add_10 rfl (lv_at hl 0 rfl) ?_
  refine fg_14_0 hc hd hL0 tw_76 dX0_add_11 ?_
  obtain ⟨hn_1, hf⟩ := ck_s hf
  refine lv_irem hc.x hc.b dX0_add_14 hn_1 ?_
  refine lv_topi (fun q_2 eq_2 => ?_)
  have hf := bv_n eq_2 hf
  refine lv_iconst (v := 4) hc.x hc.b dX0_add_15 (by decide) ?_
  refine lv_imul hc.x hc.b dX0_add_16 ?_
  refine lv_iconst (v := 4) hc.x hc.b dX0_add_17 (by decide) ?_
  obtain ⟨hi_3, hf⟩ := ck_s hf
  refine r_copyi hc hd hl.1 tw_836 hL1 (cl_14_prices hc.cl hL0) rfl (fun _ => rfl) hi_3 (Nat.le_of_ble_eq_true rfl) (Nat.le_of_ble_eq_true rfl) dX0_add_18 (fun H locs hd => ?_)
  obtain ⟨S_4, hd, hf⟩ := nmD hd hf
  refine lv_aload_n hc.x hc.b dX0_add_21 rfl (lv_at hl 0 rfl) ?_
  refine lv_dup hc.x hc.b dX0_add_22 rfl ?_
  refine fg_14_3 hc hd hL0 tw_80 dX0_add_23 ?_
  refine lv_iconst (v := 1) hc.x hc.b dX0_add_26 (by decide) ?_
  refine lv_iadd hc.x hc.b dX0_add_27 ?_
  refine fp_14_3 hc hd hL0 tw_80 dX0_add_28 (fun H locs hd => ?_)
  obtain ⟨S_5, hd, hf⟩ := nmD hd hf
  cases hf
  exact r_vret hc hd hr dX0_add_31
theorem c_X0_add (l : Launch) (D : va_G) (cs : Nat → ClassId) (B0 : Nat) (kt : (Nat → Nat) × (Nat → Nat)) (α : Nat → Nat → Nat) (Lv : Nat → Nat → Prop) (S : St) (g0 : Nat) (g1 : Nat) (hcl : Cl Lv) (hL0 : Lv 14 g0) (hL1 : Lv 26 g1) {o : St} (hf : f_X0_add g0 g1 S = some o) : Met l yX0_add (wz yX0_add cX0_add 2 none) (Rm 2 0 0) (Pz D cs B0 kt α Lv S [.ref (α 14 g0), .ref (α 26 g1)]) (Qv D cs B0 α Lv o) 0 0 (AB B0) := met_of (by decide) rfl hcl (Nat.le_of_ble_eq_true rfl) (fun p e s m below meth c hc hr hd ls hl => b_X0_add hc hr hL0 hL1 hf hd hl)
theorem my_X0_add : MyV yX0_add "PumpCrossing$Boards" cX0_add 2 none 1 := ⟨tw_833, tw_834, tw_4, tw_835, by decide +kernel⟩
def f_X0_at (g0 : Nat) (x1 : Int32) (x2 : Int32) (S : St) : Option (Int32) := bv (fun (v_1 : Int32) => some v_1) (fun J_2 => br (0 ≤ x2) (ck (¬ (gi S 14 g0 0) = 0) (bv (rmI x2 (gi S 14 g0 0)) (fun q_5 => ck (inb ((q_5 * 4) + x1) (gn S 15 g0) = true) (J_2 (gi S 15 g0 (nn ((q_5 * 4) + x1))))))) (ck (inb x1 4 = true) (J_2 (gi S 16 g0 (nn x1)))))
set_option maxRecDepth 100000 in
set_option maxHeartbeats 4000000 in
theorem b_X0_at (hc : Cx p s m args meth c cX0_at 3 "PumpCrossing$Boards" D cs B0 kt Lv) (hr : meth.sig.returnType = some .int)  {o : Int32}  {S : St} {g0 : Nat} {x1 : Int32} {x2 : Int32} (hL0 : Lv 14 g0) {H : Heap} {locs : List Loc} {ls : Array Slot} (hf : f_X0_at g0 x1 x2 S = some o) (hd : Dy s D cs B0 α Lv S H locs) (hl : lv_has ls 3 [(0, .ref (α 14 g0)), (1, .int x1), (2, .int x2)]) : W p l e (Rm 0 0 0) s m args below meth c H locs 0 0 (MQ below (Qi D cs B0 α Lv o S) args s 0 0 (AB B0)) (F0 m 0 ls []) := by
  unfold f_X0_at at hf
  refine lv_iload_n hc.x hc.b dX0_at_0 rfl (lv_at hl 2 rfl) ?_
  refine jn_s (P := fun J_2 => ∀ (v_1 : Int32) (H : Heap) (locs : List Loc) (ls : Array Slot), J_2 v_1 = some o → Dy s D cs B0 α Lv S H locs → lv_has ls 3 [] → W p l e (Rm 0 0 0) s m args below meth c H locs 0 0 (MQ below (Qi D cs B0 α Lv o S) args s 0 0 (AB B0)) (F0 m 28 ls [.int v_1])) hf ?_ (fun J_2 hJ_2 hf => ?_)
  · intro v_1 H locs ls hf hd hl
    cases hf
    exact r_iret hc hd hr dX0_at_28
  refine lv_if_ge (tgt := 13) hc.x hc.b dX0_at_1 (by decide) (fun c_3 => ?_) (fun c_3 => ?_)
  · have hf := br_y c_3 hf
    refine lv_aload_n hc.x hc.b dX0_at_13 rfl (lv_at hl 0 rfl) ?_
    refine fg_14_1 hc hd hL0 tw_77 dX0_at_14 ?_
    refine lv_iload_n hc.x hc.b dX0_at_17 rfl (lv_at hl 2 rfl) ?_
    refine lv_aload_n hc.x hc.b dX0_at_18 rfl (lv_at hl 0 rfl) ?_
    refine fg_14_0 hc hd hL0 tw_76 dX0_at_19 ?_
    obtain ⟨hn_4, hf⟩ := ck_s hf
    refine lv_irem hc.x hc.b dX0_at_22 hn_4 ?_
    refine lv_topi (fun q_5 eq_5 => ?_)
    have hf := bv_n eq_5 hf
    refine lv_iconst (v := 4) hc.x hc.b dX0_at_23 (by decide) ?_
    refine lv_imul hc.x hc.b dX0_at_24 ?_
    refine lv_iload_n hc.x hc.b dX0_at_25 rfl (lv_at hl 1 rfl) ?_
    refine lv_iadd hc.x hc.b dX0_at_26 ?_
    obtain ⟨hi_6, hf⟩ := ck_s hf
    refine r_iald hc hd (cl_14_prices hc.cl hL0) rfl hi_6 dX0_at_27 ?_
    exact hJ_2 (gi S 15 g0 (nn ((q_5 * 4) + x1))) _ _ _ hf hd (lv_sub hl [] rfl)
  · have hf := br_n c_3 hf
    refine lv_aload_n hc.x hc.b dX0_at_4 rfl (lv_at hl 0 rfl) ?_
    refine fg_14_2 hc hd hL0 tw_78 dX0_at_5 ?_
    refine lv_iload_n hc.x hc.b dX0_at_8 rfl (lv_at hl 1 rfl) ?_
    obtain ⟨hi_7, hf⟩ := ck_s hf
    refine r_iald hc hd (cl_14_ahead hc.cl hL0) rfl hi_7 dX0_at_9 ?_
    refine lv_goto (tgt := 28) hc.x hc.b dX0_at_10 (by decide) ?_
    exact hJ_2 (gi S 16 g0 (nn x1)) _ _ _ hf hd (lv_sub hl [] rfl)
theorem c_X0_at (l : Launch) (D : va_G) (cs : Nat → ClassId) (B0 : Nat) (kt : (Nat → Nat) × (Nat → Nat)) (α : Nat → Nat → Nat) (Lv : Nat → Nat → Prop) (S : St) (g0 : Nat) (x1 : Int32) (x2 : Int32) (hcl : Cl Lv) (hL0 : Lv 14 g0) {o : Int32} (hf : f_X0_at g0 x1 x2 S = some o) : Met l yX0_at (wz yX0_at cX0_at 3 (some .int)) (Rm 0 0 0) (Pz D cs B0 kt α Lv S [.ref (α 14 g0), .int x1, .int x2]) (Qi D cs B0 α Lv o S) 0 0 (AB B0) := met_of (by decide) rfl hcl (Nat.le_of_ble_eq_true rfl) (fun p e s m below meth c hc hr hd ls hl => b_X0_at hc hr hL0 hf hd hl)
theorem my_X0_at : MyV yX0_at "PumpCrossing$Boards" cX0_at 3 (some .int) 2 := ⟨tw_414, tw_415, tw_4, tw_416, by decide +kernel⟩
def f_X0_kept (g0 : Nat) (S : St) : Option (Int32) := bv (mnI (gi S 14 g0 3) (gi S 14 g0 0)) (fun q_1 => some q_1)
set_option maxRecDepth 100000 in
set_option maxHeartbeats 4000000 in
theorem b_X0_kept (hc : Cx p s m args meth c cX0_kept 1 "PumpCrossing$Boards" D cs B0 kt Lv) (hr : meth.sig.returnType = some .int)  {o : Int32}  {S : St} {g0 : Nat} (hL0 : Lv 14 g0) {H : Heap} {locs : List Loc} {ls : Array Slot} (hf : f_X0_kept g0 S = some o) (hd : Dy s D cs B0 α Lv S H locs) (hl : lv_has ls 1 [(0, .ref (α 14 g0))]) : W p l e (Rm 2 0 0) s m args below meth c H locs 0 0 (MQ below (Qi D cs B0 α Lv o S) args s 0 0 (AB B0)) (F0 m 0 ls []) := by
  unfold f_X0_kept at hf
  refine lv_aload_n hc.x hc.b dX0_kept_0 rfl (lv_at hl 0 rfl) ?_
  refine fg_14_3 hc hd hL0 tw_80 dX0_kept_1 ?_
  refine lv_aload_n hc.x hc.b dX0_kept_4 rfl (lv_at hl 0 rfl) ?_
  refine fg_14_0 hc hd hL0 tw_76 dX0_kept_5 ?_
  refine r_min hc hl.1 tw_406 (Nat.le_of_ble_eq_true rfl) (Nat.le_of_ble_eq_true rfl) (Nat.zero_le _) (Nat.zero_le _) dX0_kept_8 ?_
  refine lv_topi (fun q_1 eq_1 => ?_)
  have hf := bv_n eq_1 hf
  cases hf
  exact r_iret hc hd hr dX0_kept_11
theorem c_X0_kept (l : Launch) (D : va_G) (cs : Nat → ClassId) (B0 : Nat) (kt : (Nat → Nat) × (Nat → Nat)) (α : Nat → Nat → Nat) (Lv : Nat → Nat → Prop) (S : St) (g0 : Nat) (hcl : Cl Lv) (hL0 : Lv 14 g0) {o : Int32} (hf : f_X0_kept g0 S = some o) : Met l yX0_kept (wz yX0_kept cX0_kept 1 (some .int)) (Rm 2 0 0) (Pz D cs B0 kt α Lv S [.ref (α 14 g0)]) (Qi D cs B0 α Lv o S) 0 0 (AB B0) := met_of (by decide) rfl hcl (Nat.le_of_ble_eq_true rfl) (fun p e s m below meth c hc hr hd ls hl => b_X0_kept hc hr hL0 hf hd hl)
theorem my_X0_kept : MyV yX0_kept "PumpCrossing$Boards" cX0_kept 1 (some .int) 0 := ⟨tw_403, tw_404, tw_4, tw_405, by decide +kernel⟩
def f_X0_copyFrom (g0 : Nat) (g1 : Nat) (S : St) : Option (St) := bv (si S 14 g0 3 (gi S 14 g1 3)) (fun S_1 => ck (cpok 0 0 4 4 4 = true) (bv (ai S_1 16 g0 (va_cpy (gi S_1 16 g1) (gi S_1 16 g0) (nn 0) (nn 0) (nn 4))) (fun S_3 => on (f_X0_kept g1 S_3) (fun r_5 => bv (mnI (r_5 * 4) (Int32.ofNat (gn S_3 15 g0))) (fun q_6 => ck (cpok 0 0 q_6 (gn S_3 15 g1) (gn S_3 15 g0) = true) (bv (ai S_3 15 g0 (va_cpy (gi S_3 15 g1) (gi S_3 15 g0) (nn 0) (nn 0) (nn q_6))) (fun S_8 => some S_8)))))))
set_option maxRecDepth 100000 in
set_option maxHeartbeats 4000000 in
theorem b_X0_copyFrom (hc : Cx p s m args meth c cX0_copyFrom 3 "PumpCrossing$Boards" D cs B0 kt Lv) (hr : meth.sig.returnType = none)  {o : St}  {S : St} {g0 : Nat} {g1 : Nat} (hL0 : Lv 14 g0) (hL1 : Lv 14 g1) {H : Heap} {locs : List Loc} {ls : Array Slot} (hf : f_X0_copyFrom g0 g1 S = some o) (hd : Dy s D cs B0 α Lv S H locs) (hl : lv_has ls 3 [(0, .ref (α 14 g0)), (1, .ref (α 14 g1))]) : W p l e (Rm 3 0 0) s m args below meth c H locs 0 0 (MQ below (Qv D cs B0 α Lv o) args s 0 0 (AB B0)) (F0 m 0 ls []) := by
  unfold f_X0_copyFrom at hf
  refine lv_aload_n hc.x hc.b dX0_copyFrom_0 rfl (lv_at hl 0 rfl) ?_
  refine lv_aload_n hc.x hc.b dX0_copyFrom_1 rfl (lv_at hl 1 rfl) ?_
  refine fg_14_3 hc hd hL1 tw_80 dX0_copyFrom_2 ?_
  refine fp_14_3 hc hd hL0 tw_80 dX0_copyFrom_5 (fun H locs hd => ?_)
  obtain ⟨S_1, hd, hf⟩ := nmD hd hf
  refine lv_aload_n hc.x hc.b dX0_copyFrom_8 rfl (lv_at hl 1 rfl) ?_
  refine fg_14_2 hc hd hL1 tw_78 dX0_copyFrom_9 ?_
  refine lv_iconst (v := 0) hc.x hc.b dX0_copyFrom_12 (by decide) ?_
  refine lv_aload_n hc.x hc.b dX0_copyFrom_13 rfl (lv_at hl 0 rfl) ?_
  refine fg_14_2 hc hd hL0 tw_78 dX0_copyFrom_14 ?_
  refine lv_iconst (v := 0) hc.x hc.b dX0_copyFrom_17 (by decide) ?_
  refine lv_iconst (v := 4) hc.x hc.b dX0_copyFrom_18 (by decide) ?_
  obtain ⟨hi_2, hf⟩ := ck_s hf
  refine r_copyi hc hd hl.1 tw_836 (cl_14_ahead hc.cl hL1) (cl_14_ahead hc.cl hL0) rfl (fun _ => rfl) hi_2 (Nat.le_of_ble_eq_true rfl) (Nat.le_of_ble_eq_true rfl) dX0_copyFrom_19 (fun H locs hd => ?_)
  obtain ⟨S_3, hd, hf⟩ := nmD hd hf
  refine lv_aload_n hc.x hc.b dX0_copyFrom_22 rfl (lv_at hl 1 rfl) ?_
  obtain ⟨r_5, hq_4, hf⟩ := on_s hf
  refine k_i (k_runV hc hd my_X0_kept tw_402 hL1 rfl rfl rfl (c_X0_kept l D cs B0 kt α Lv S_3 g1 hc.cl hL1  hq_4) rfl rfl hl.1 (Nat.le_of_ble_eq_true rfl) ⟨Nat.le_of_ble_eq_true rfl, Nat.le_of_ble_eq_true rfl, Nat.zero_le _, Nat.zero_le _⟩ dX0_copyFrom_23) hd (fun H locs hd => ?_)
  refine lv_iconst (v := 4) hc.x hc.b dX0_copyFrom_26 (by decide) ?_
  refine lv_imul hc.x hc.b dX0_copyFrom_27 ?_
  refine lv_aload_n hc.x hc.b dX0_copyFrom_28 rfl (lv_at hl 0 rfl) ?_
  refine fg_14_1 hc hd hL0 tw_77 dX0_copyFrom_29 ?_
  refine r_alen hc hd (cl_14_prices hc.cl hL0) (t0 := 0) rfl rfl dX0_copyFrom_32 ?_
  refine r_min hc hl.1 tw_406 (Nat.le_of_ble_eq_true rfl) (Nat.le_of_ble_eq_true rfl) (Nat.zero_le _) (Nat.zero_le _) dX0_copyFrom_33 ?_
  refine lv_topi (fun q_6 eq_6 => ?_)
  have hf := bv_n eq_6 hf
  refine lv_istore_n (lv' := [(2, .int q_6), (0, .ref (α 14 g0)), (1, .ref (α 14 g1))]) hc.x hc.b dX0_copyFrom_36 rfl hl (by decide) rfl (fun ls hl => ?_)
  refine lv_aload_n hc.x hc.b dX0_copyFrom_37 rfl (lv_at hl 2 rfl) ?_
  refine fg_14_1 hc hd hL1 tw_77 dX0_copyFrom_38 ?_
  refine lv_iconst (v := 0) hc.x hc.b dX0_copyFrom_41 (by decide) ?_
  refine lv_aload_n hc.x hc.b dX0_copyFrom_42 rfl (lv_at hl 1 rfl) ?_
  refine fg_14_1 hc hd hL0 tw_77 dX0_copyFrom_43 ?_
  refine lv_iconst (v := 0) hc.x hc.b dX0_copyFrom_46 (by decide) ?_
  refine lv_iload_n hc.x hc.b dX0_copyFrom_47 rfl (lv_at hl 0 rfl) ?_
  obtain ⟨hi_7, hf⟩ := ck_s hf
  refine r_copyi hc hd hl.1 tw_836 (cl_14_prices hc.cl hL1) (cl_14_prices hc.cl hL0) rfl (fun _ => rfl) hi_7 (Nat.le_of_ble_eq_true rfl) (Nat.le_of_ble_eq_true rfl) dX0_copyFrom_48 (fun H locs hd => ?_)
  obtain ⟨S_8, hd, hf⟩ := nmD hd hf
  cases hf
  exact r_vret hc hd hr dX0_copyFrom_51
theorem c_X0_copyFrom (l : Launch) (D : va_G) (cs : Nat → ClassId) (B0 : Nat) (kt : (Nat → Nat) × (Nat → Nat)) (α : Nat → Nat → Nat) (Lv : Nat → Nat → Prop) (S : St) (g0 : Nat) (g1 : Nat) (hcl : Cl Lv) (hL0 : Lv 14 g0) (hL1 : Lv 14 g1) {o : St} (hf : f_X0_copyFrom g0 g1 S = some o) : Met l yX0_copyFrom (wz yX0_copyFrom cX0_copyFrom 3 none) (Rm 3 0 0) (Pz D cs B0 kt α Lv S [.ref (α 14 g0), .ref (α 14 g1)]) (Qv D cs B0 α Lv o) 0 0 (AB B0) := met_of (by decide) rfl hcl (Nat.le_of_ble_eq_true rfl) (fun p e s m below meth c hc hr hd ls hl => b_X0_copyFrom hc hr hL0 hL1 hf hd hl)
theorem my_X0_copyFrom : MyV yX0_copyFrom "PumpCrossing$Boards" cX0_copyFrom 3 none 1 := ⟨tw_1283, tw_1284, tw_4, tw_1285, by decide +kernel⟩
def f_X0_first (g0 : Nat) (S : St) : Option (Int32) := on (f_X0_kept g0 S) (fun r_2 => some ((gi S 14 g0 3) - r_2))
set_option maxRecDepth 100000 in
set_option maxHeartbeats 4000000 in
theorem b_X0_first (hc : Cx p s m args meth c cX0_first 1 "PumpCrossing$Boards" D cs B0 kt Lv) (hr : meth.sig.returnType = some .int)  {o : Int32}  {S : St} {g0 : Nat} (hL0 : Lv 14 g0) {H : Heap} {locs : List Loc} {ls : Array Slot} (hf : f_X0_first g0 S = some o) (hd : Dy s D cs B0 α Lv S H locs) (hl : lv_has ls 1 [(0, .ref (α 14 g0))]) : W p l e (Rm 3 0 0) s m args below meth c H locs 0 0 (MQ below (Qi D cs B0 α Lv o S) args s 0 0 (AB B0)) (F0 m 0 ls []) := by
  unfold f_X0_first at hf
  refine lv_aload_n hc.x hc.b dX0_first_0 rfl (lv_at hl 0 rfl) ?_
  refine fg_14_3 hc hd hL0 tw_80 dX0_first_1 ?_
  refine lv_aload_n hc.x hc.b dX0_first_4 rfl (lv_at hl 0 rfl) ?_
  obtain ⟨r_2, hq_1, hf⟩ := on_s hf
  refine k_i (k_runV hc hd my_X0_kept tw_402 hL0 rfl rfl rfl (c_X0_kept l D cs B0 kt α Lv S g0 hc.cl hL0  hq_1) rfl rfl hl.1 (Nat.le_of_ble_eq_true rfl) ⟨Nat.le_of_ble_eq_true rfl, Nat.le_of_ble_eq_true rfl, Nat.zero_le _, Nat.zero_le _⟩ dX0_first_5) hd (fun H locs hd => ?_)
  refine lv_isub hc.x hc.b dX0_first_8 ?_
  cases hf
  exact r_iret hc hd hr dX0_first_9
theorem c_X0_first (l : Launch) (D : va_G) (cs : Nat → ClassId) (B0 : Nat) (kt : (Nat → Nat) × (Nat → Nat)) (α : Nat → Nat → Nat) (Lv : Nat → Nat → Prop) (S : St) (g0 : Nat) (hcl : Cl Lv) (hL0 : Lv 14 g0) {o : Int32} (hf : f_X0_first g0 S = some o) : Met l yX0_first (wz yX0_first cX0_first 1 (some .int)) (Rm 3 0 0) (Pz D cs B0 kt α Lv S [.ref (α 14 g0)]) (Qi D cs B0 α Lv o S) 0 0 (AB B0) := met_of (by decide) rfl hcl (Nat.le_of_ble_eq_true rfl) (fun p e s m below meth c hc hr hd ls hl => b_X0_first hc hr hL0 hf hd hl)
theorem my_X0_first : MyV yX0_first "PumpCrossing$Boards" cX0_first 1 (some .int) 0 := ⟨tw_869, tw_870, tw_4, tw_871, by decide +kernel⟩
def f_X0_has (g0 : Nat) (x1 : Int32) (S : St) : Option (Int32) := on (f_X0_first g0 S) (fun r_2 => bv (fun (v_3 : Int32) => ck (v_3 = 0 ∨ v_3 = 1) (some v_3)) (fun J_4 => bv (fun (_u : Unit) => J_4 0) (fun J_5 => br (x1 < r_2) (J_5 ()) (br ((gi S 14 g0 3) ≤ x1) (J_5 ()) (J_4 1)))))
set_option maxRecDepth 100000 in
set_option maxHeartbeats 4000000 in
theorem b_X0_has (hc : Cx p s m args meth c cX0_has 2 "PumpCrossing$Boards" D cs B0 kt Lv) (hr : meth.sig.returnType = some .boolean)  {o : Int32}  {S : St} {g0 : Nat} {x1 : Int32} (hL0 : Lv 14 g0) {H : Heap} {locs : List Loc} {ls : Array Slot} (hf : f_X0_has g0 x1 S = some o) (hd : Dy s D cs B0 α Lv S H locs) (hl : lv_has ls 2 [(0, .ref (α 14 g0)), (1, .int x1)]) : W p l e (Rm 4 0 0) s m args below meth c H locs 0 0 (MQ below (Qi D cs B0 α Lv o S) args s 0 0 (AB B0)) (F0 m 0 ls []) := by
  unfold f_X0_has at hf
  refine lv_iload_n hc.x hc.b dX0_has_0 rfl (lv_at hl 1 rfl) ?_
  refine lv_aload_n hc.x hc.b dX0_has_1 rfl (lv_at hl 0 rfl) ?_
  obtain ⟨r_2, hq_1, hf⟩ := on_s hf
  refine k_i (k_runV hc hd my_X0_first tw_868 hL0 rfl rfl rfl (c_X0_first l D cs B0 kt α Lv S g0 hc.cl hL0  hq_1) rfl rfl hl.1 (Nat.le_of_ble_eq_true rfl) ⟨Nat.le_of_ble_eq_true rfl, Nat.le_of_ble_eq_true rfl, Nat.zero_le _, Nat.zero_le _⟩ dX0_has_2) hd (fun H locs hd => ?_)
  refine jn_s (P := fun J_4 => ∀ (v_3 : Int32) (H : Heap) (locs : List Loc) (ls : Array Slot), J_4 v_3 = some o → Dy s D cs B0 α Lv S H locs → lv_has ls 2 [] → W p l e (Rm 4 0 0) s m args below meth c H locs 0 0 (MQ below (Qi D cs B0 α Lv o S) args s 0 0 (AB B0)) (F0 m 21 ls [.int v_3])) hf ?_ (fun J_4 hJ_4 hf => ?_)
  · intro v_3 H locs ls hf hd hl
    obtain ⟨hz, hf⟩ := ck_s hf
    cases hf
    exact r_zret hc hd hr hz dX0_has_21
  refine jn_s (P := fun J_5 => ∀ (_u : Unit) (H : Heap) (locs : List Loc) (ls : Array Slot), J_5 _u = some o → Dy s D cs B0 α Lv S H locs → lv_has ls 2 [] → W p l e (Rm 4 0 0) s m args below meth c H locs 0 0 (MQ below (Qi D cs B0 α Lv o S) args s 0 0 (AB B0)) (F0 m 20 ls [])) hf ?_ (fun J_5 hJ_5 hf => ?_)
  · intro _u H locs ls hf hd hl
    refine lv_iconst (v := 0) hc.x hc.b dX0_has_20 (by decide) ?_
    exact hJ_4 0 _ _ _ hf hd (lv_sub hl [] rfl)
  refine lv_icmp_lt (tgt := 20) hc.x hc.b dX0_has_5 (by decide) (fun c_6 => ?_) (fun c_6 => ?_)
  · have hf := br_y c_6 hf
    exact hJ_5 ()  _ _ _ hf hd (lv_sub hl [] rfl)
  · have hf := br_n c_6 hf
    refine lv_iload_n hc.x hc.b dX0_has_8 rfl (lv_at hl 1 rfl) ?_
    refine lv_aload_n hc.x hc.b dX0_has_9 rfl (lv_at hl 0 rfl) ?_
    refine fg_14_3 hc hd hL0 tw_80 dX0_has_10 ?_
    refine lv_icmp_ge (tgt := 20) hc.x hc.b dX0_has_13 (by decide) (fun c_7 => ?_) (fun c_7 => ?_)
    · have hf := br_y c_7 hf
      exact hJ_5 ()  _ _ _ hf hd (lv_sub hl [] rfl)
    · have hf := br_n c_7 hf
      refine lv_iconst (v := 1) hc.x hc.b dX0_has_16 (by decide) ?_
      refine lv_goto (tgt := 21) hc.x hc.b dX0_has_17 (by decide) ?_
      exact hJ_4 1 _ _ _ hf hd (lv_sub hl [] rfl)
theorem c_X0_has (l : Launch) (D : va_G) (cs : Nat → ClassId) (B0 : Nat) (kt : (Nat → Nat) × (Nat → Nat)) (α : Nat → Nat → Nat) (Lv : Nat → Nat → Prop) (S : St) (g0 : Nat) (x1 : Int32) (hcl : Cl Lv) (hL0 : Lv 14 g0) {o : Int32} (hf : f_X0_has g0 x1 S = some o) : Met l yX0_has (wz yX0_has cX0_has 2 (some .boolean)) (Rm 4 0 0) (Pz D cs B0 kt α Lv S [.ref (α 14 g0), .int x1]) (Qi D cs B0 α Lv o S) 0 0 (AB B0) := met_of (by decide) rfl hcl (Nat.le_of_ble_eq_true rfl) (fun p e s m below meth c hc hr hd ls hl => b_X0_has hc hr hL0 hf hd hl)
theorem my_X0_has : MyV yX0_has "PumpCrossing$Boards" cX0_has 2 (some .boolean) 1 := ⟨tw_865, tw_866, tw_4, tw_867, by decide +kernel⟩
def f_X0_wentUp (g0 : Nat) (x1 : Int32) (x2 : Int32) (S : St) : Option (Int32) := on (f_X0_at g0 x1 x2 S) (fun r_2 => on (f_X0_at g0 x1 (x2 - 1) S) (fun r_4 => bv (fun (v_5 : Int32) => ck (v_5 = 0 ∨ v_5 = 1) (some v_5)) (fun J_6 => br (r_2 ≤ r_4) (J_6 0) (J_6 1))))
set_option maxRecDepth 100000 in
set_option maxHeartbeats 4000000 in
theorem b_X0_wentUp (hc : Cx p s m args meth c cX0_wentUp 3 "PumpCrossing$Boards" D cs B0 kt Lv) (hr : meth.sig.returnType = some .boolean)  {o : Int32}  {S : St} {g0 : Nat} {x1 : Int32} {x2 : Int32} (hL0 : Lv 14 g0) {H : Heap} {locs : List Loc} {ls : Array Slot} (hf : f_X0_wentUp g0 x1 x2 S = some o) (hd : Dy s D cs B0 α Lv S H locs) (hl : lv_has ls 3 [(0, .ref (α 14 g0)), (1, .int x1), (2, .int x2)]) : W p l e (Rm 1 0 0) s m args below meth c H locs 0 0 (MQ below (Qi D cs B0 α Lv o S) args s 0 0 (AB B0)) (F0 m 0 ls []) := by
  unfold f_X0_wentUp at hf
  refine lv_aload_n hc.x hc.b dX0_wentUp_0 rfl (lv_at hl 0 rfl) ?_
  refine lv_iload_n hc.x hc.b dX0_wentUp_1 rfl (lv_at hl 1 rfl) ?_
  refine lv_iload_n hc.x hc.b dX0_wentUp_2 rfl (lv_at hl 2 rfl) ?_
  obtain ⟨r_2, hq_1, hf⟩ := on_s hf
  refine k_i (k_runV hc hd my_X0_at tw_413 hL0 rfl rfl rfl (c_X0_at l D cs B0 kt α Lv S g0 x1 x2 hc.cl hL0  hq_1) rfl rfl hl.1 (Nat.le_of_ble_eq_true rfl) ⟨Nat.le_of_ble_eq_true rfl, Nat.le_of_ble_eq_true rfl, Nat.zero_le _, Nat.zero_le _⟩ dX0_wentUp_3) hd (fun H locs hd => ?_)
  refine lv_aload_n hc.x hc.b dX0_wentUp_6 rfl (lv_at hl 0 rfl) ?_
  refine lv_iload_n hc.x hc.b dX0_wentUp_7 rfl (lv_at hl 1 rfl) ?_
  refine lv_iload_n hc.x hc.b dX0_wentUp_8 rfl (lv_at hl 2 rfl) ?_
  refine lv_iconst (v := 1) hc.x hc.b dX0_wentUp_9 (by decide) ?_
  refine lv_isub hc.x hc.b dX0_wentUp_10 ?_
  obtain ⟨r_4, hq_3, hf⟩ := on_s hf
  refine k_i (k_runV hc hd my_X0_at tw_413 hL0 rfl rfl rfl (c_X0_at l D cs B0 kt α Lv S g0 x1 (x2 - 1) hc.cl hL0  hq_3) rfl rfl hl.1 (Nat.le_of_ble_eq_true rfl) ⟨Nat.le_of_ble_eq_true rfl, Nat.le_of_ble_eq_true rfl, Nat.zero_le _, Nat.zero_le _⟩ dX0_wentUp_11) hd (fun H locs hd => ?_)
  refine jn_s (P := fun J_6 => ∀ (v_5 : Int32) (H : Heap) (locs : List Loc) (ls : Array Slot), J_6 v_5 = some o → Dy s D cs B0 α Lv S H locs → lv_has ls 3 [] → W p l e (Rm 1 0 0) s m args below meth c H locs 0 0 (MQ below (Qi D cs B0 α Lv o S) args s 0 0 (AB B0)) (F0 m 22 ls [.int v_5])) hf ?_ (fun J_6 hJ_6 hf => ?_)
  · intro v_5 H locs ls hf hd hl
    obtain ⟨hz, hf⟩ := ck_s hf
    cases hf
    exact r_zret hc hd hr hz dX0_wentUp_22
  refine lv_icmp_le (tgt := 21) hc.x hc.b dX0_wentUp_14 (by decide) (fun c_7 => ?_) (fun c_7 => ?_)
  · have hf := br_y c_7 hf
    refine lv_iconst (v := 0) hc.x hc.b dX0_wentUp_21 (by decide) ?_
    exact hJ_6 0 _ _ _ hf hd (lv_sub hl [] rfl)
  · have hf := br_n c_7 hf
    refine lv_iconst (v := 1) hc.x hc.b dX0_wentUp_17 (by decide) ?_
    refine lv_goto (tgt := 22) hc.x hc.b dX0_wentUp_18 (by decide) ?_
    exact hJ_6 1 _ _ _ hf hd (lv_sub hl [] rfl)
theorem c_X0_wentUp (l : Launch) (D : va_G) (cs : Nat → ClassId) (B0 : Nat) (kt : (Nat → Nat) × (Nat → Nat)) (α : Nat → Nat → Nat) (Lv : Nat → Nat → Prop) (S : St) (g0 : Nat) (x1 : Int32) (x2 : Int32) (hcl : Cl Lv) (hL0 : Lv 14 g0) {o : Int32} (hf : f_X0_wentUp g0 x1 x2 S = some o) : Met l yX0_wentUp (wz yX0_wentUp cX0_wentUp 3 (some .boolean)) (Rm 1 0 0) (Pz D cs B0 kt α Lv S [.ref (α 14 g0), .int x1, .int x2]) (Qi D cs B0 α Lv o S) 0 0 (AB B0) := met_of (by decide) rfl hcl (Nat.le_of_ble_eq_true rfl) (fun p e s m below meth c hc hr hd ls hl => b_X0_wentUp hc hr hL0 hf hd hl)
theorem my_X0_wentUp : MyV yX0_wentUp "PumpCrossing$Boards" cX0_wentUp 3 (some .boolean) 2 := ⟨tw_919, (in_sel 17 (by decide +kernel) (by decide +kernel)), tw_4, tw_920, by decide +kernel⟩
def f_X0_wentUpBehind_4 (g0 : Nat) (x1 : Int32) (x2 : Int32) (S : St) (K : Unit → Option (Int32)) : Nat → Int32 → Option (Int32)
  | 0, _ => none
  | n + 1, x3 => br ((x2 + 6) < x3) (K ()) (on (f_X0_wentUp g0 x1 x3 S) (fun r_4 => br (r_4 = 0) (bv (x3 + 1) (fun x3_6 => f_X0_wentUpBehind_4 g0 x1 x2 S K n x3_6)) (some 1)))
def f_X0_wentUpBehind (g0 : Nat) (x1 : Int32) (x2 : Int32) (S : St) : Option (Int32) := bv (x2 + 1) (fun x3_1 => f_X0_wentUpBehind_4 g0 x1 x2 S (fun (_u : Unit) => some 0) FU x3_1)
set_option maxRecDepth 100000 in
set_option maxHeartbeats 4000000 in
theorem w_X0_wentUpBehind_4 (hc : Cx p s m args meth c cX0_wentUpBehind 4 "PumpCrossing$Boards" D cs B0 kt Lv) (hr : meth.sig.returnType = some .boolean) {o : Int32}  {g0 : Nat} {x1 : Int32} {x2 : Int32} {S : St} {K : Unit → Option (Int32)} (hL0 : Lv 14 g0) (hK : ∀ (_u : Unit) (H : Heap) (locs : List Loc) (ls : Array Slot), K _u = some o → Dy s D cs B0 α Lv S H locs → lv_has ls 4 [] → W p l e (Rm 2 0 0) s m args below meth c H locs 0 0 (MQ below (Qi D cs B0 α Lv o S) args s 0 0 (AB B0)) (F0 m 29 ls [])) : ∀ (n : Nat) (x3 : Int32) (H : Heap) (locs : List Loc) (ls : Array Slot), f_X0_wentUpBehind_4 g0 x1 x2 S K n x3 = some o → Dy s D cs B0 α Lv S H locs → lv_has ls 4 [(0, .ref (α 14 g0)), (1, .int x1), (2, .int x2), (3, .int x3)] → W p l e (Rm 2 0 0) s m args below meth c H locs 0 0 (MQ below (Qi D cs B0 α Lv o S) args s 0 0 (AB B0)) (F0 m 4 ls []) := by
  intro n
  induction n with
  | zero =>
    intro x3 H locs ls hf
    rw [f_X0_wentUpBehind_4] at hf
    cases hf
  | succ n ih =>
    intro x3 H locs ls hf hd hl
    rw [f_X0_wentUpBehind_4] at hf
    refine lv_iload_n hc.x hc.b dX0_wentUpBehind_4 rfl (lv_at hl 3 rfl) ?_
    refine lv_iload_n hc.x hc.b dX0_wentUpBehind_5 rfl (lv_at hl 2 rfl) ?_
    refine lv_bipush (v := 6) hc.x hc.b dX0_wentUpBehind_6 (by decide) ?_
    refine lv_iadd hc.x hc.b dX0_wentUpBehind_8 ?_
    refine lv_icmp_gt (tgt := 29) hc.x hc.b dX0_wentUpBehind_9 (by decide) (fun c_2 => ?_) (fun c_2 => ?_)
    · have hf := br_y c_2 hf
      exact hK ()  _ _ _ hf hd (lv_sub hl [] rfl)
    · have hf := br_n c_2 hf
      refine lv_aload_n hc.x hc.b dX0_wentUpBehind_12 rfl (lv_at hl 0 rfl) ?_
      refine lv_iload_n hc.x hc.b dX0_wentUpBehind_13 rfl (lv_at hl 1 rfl) ?_
      refine lv_iload_n hc.x hc.b dX0_wentUpBehind_14 rfl (lv_at hl 3 rfl) ?_
      obtain ⟨r_4, hq_3, hf⟩ := on_s hf
      refine k_i (k_runV hc hd my_X0_wentUp tw_917 hL0 rfl rfl rfl (c_X0_wentUp l D cs B0 kt α Lv S g0 x1 x3 hc.cl hL0  hq_3) rfl rfl hl.1 (Nat.le_of_ble_eq_true rfl) ⟨Nat.le_of_ble_eq_true rfl, Nat.le_of_ble_eq_true rfl, Nat.zero_le _, Nat.zero_le _⟩ dX0_wentUpBehind_15) hd (fun H locs hd => ?_)
      refine lv_if_eq (tgt := 23) hc.x hc.b dX0_wentUpBehind_18 (by decide) (fun c_5 => ?_) (fun c_5 => ?_)
      · have hf := br_y c_5 hf
        obtain ⟨x3_6, ex3_6⟩ : ∃ z : Int32, z = x3 + 1 := ⟨_, rfl⟩
        have hf := bv_n ex3_6 hf
        refine lv_iinc (v := x3_6) (lv' := [(3, .int x3_6), (0, .ref (α 14 g0)), (1, .int x1), (2, .int x2)]) hc.x hc.b dX0_wentUpBehind_23 hl (k := 3) rfl (by rw [ex3_6]; rfl) (by decide) rfl (fun ls hl => ?_)
        refine lv_goto (tgt := 4) hc.x hc.b dX0_wentUpBehind_26 (by decide) ?_
        exact ih x3_6 _ _ _ hf hd (lv_sub hl [1, 2, 3, 0] rfl)
      · have hf := br_n c_5 hf
        refine lv_iconst (v := 1) hc.x hc.b dX0_wentUpBehind_21 (by decide) ?_
        cases hf
        exact r_zret hc hd hr (Or.inr rfl) dX0_wentUpBehind_22
set_option maxRecDepth 100000 in
set_option maxHeartbeats 4000000 in
theorem b_X0_wentUpBehind (hc : Cx p s m args meth c cX0_wentUpBehind 4 "PumpCrossing$Boards" D cs B0 kt Lv) (hr : meth.sig.returnType = some .boolean)  {o : Int32}  {S : St} {g0 : Nat} {x1 : Int32} {x2 : Int32} (hL0 : Lv 14 g0) {H : Heap} {locs : List Loc} {ls : Array Slot} (hf : f_X0_wentUpBehind g0 x1 x2 S = some o) (hd : Dy s D cs B0 α Lv S H locs) (hl : lv_has ls 4 [(0, .ref (α 14 g0)), (1, .int x1), (2, .int x2)]) : W p l e (Rm 2 0 0) s m args below meth c H locs 0 0 (MQ below (Qi D cs B0 α Lv o S) args s 0 0 (AB B0)) (F0 m 0 ls []) := by
  unfold f_X0_wentUpBehind at hf
  refine lv_iload_n hc.x hc.b dX0_wentUpBehind_0 rfl (lv_at hl 2 rfl) ?_
  refine lv_iconst (v := 1) hc.x hc.b dX0_wentUpBehind_1 (by decide) ?_
  refine lv_iadd hc.x hc.b dX0_wentUpBehind_2 ?_
  refine lv_topi (fun x3_1 ex3_1 => ?_)
  have hf := bv_n ex3_1 hf
  refine lv_istore_n (lv' := [(3, .int x3_1), (0, .ref (α 14 g0)), (1, .int x1), (2, .int x2)]) hc.x hc.b dX0_wentUpBehind_3 rfl hl (by decide) rfl (fun ls hl => ?_)
  refine w_X0_wentUpBehind_4 hc hr hL0 ?_ _ _ _ _ _ hf hd (lv_sub hl [1, 2, 3, 0] rfl)
  intro _u H locs ls hf hd hl
  refine lv_iconst (v := 0) hc.x hc.b dX0_wentUpBehind_29 (by decide) ?_
  cases hf
  exact r_zret hc hd hr (Or.inl rfl) dX0_wentUpBehind_30
theorem c_X0_wentUpBehind (l : Launch) (D : va_G) (cs : Nat → ClassId) (B0 : Nat) (kt : (Nat → Nat) × (Nat → Nat)) (α : Nat → Nat → Nat) (Lv : Nat → Nat → Prop) (S : St) (g0 : Nat) (x1 : Int32) (x2 : Int32) (hcl : Cl Lv) (hL0 : Lv 14 g0) {o : Int32} (hf : f_X0_wentUpBehind g0 x1 x2 S = some o) : Met l yX0_wentUpBehind (wz yX0_wentUpBehind cX0_wentUpBehind 4 (some .boolean)) (Rm 2 0 0) (Pz D cs B0 kt α Lv S [.ref (α 14 g0), .int x1, .int x2]) (Qi D cs B0 α Lv o S) 0 0 (AB B0) := met_of (by decide) rfl hcl (Nat.le_of_ble_eq_true rfl) (fun p e s m below meth c hc hr hd ls hl => b_X0_wentUpBehind hc hr hL0 hf hd hl)
theorem my_X0_wentUpBehind : MyV yX0_wentUpBehind "PumpCrossing$Boards" cX0_wentUpBehind 4 (some .boolean) 2 := ⟨tw_928, (in_sel 18 (by decide +kernel) (by decide +kernel)), tw_4, tw_929, by decide +kernel⟩
def f_X0_isFollowed_16 (g0 : Nat) (x1 : Int32) (x2 : Int32) (x3 : Int32) (S : St) (K : Unit → Option (Int32)) : Nat → Int32 → Option (Int32)
  | 0, _ => none
  | n + 1, x4 => br (x3 ≤ x4) (K ()) (bv (fun (_u : Unit) => bv (x4 + 1) (fun x4_6 => f_X0_isFollowed_16 g0 x1 x2 x3 S K n x4_6)) (fun J_5 => br (x4 = x1) (J_5 ()) (on (f_X0_wentUpBehind g0 x4 x2 S) (fun r_9 => br (r_9 = 0) (some 0) (J_5 ())))))
def f_X0_isFollowed (g0 : Nat) (x1 : Int32) (x2 : Int32) (x3 : Int32) (S : St) : Option (Int32) := on (f_X0_has g0 (x2 + 6) S) (fun r_2 => br (r_2 = 0) (some 0) (f_X0_isFollowed_16 g0 x1 x2 x3 S (fun (_u : Unit) => some 1) FU 0))
set_option maxRecDepth 100000 in
set_option maxHeartbeats 4000000 in
theorem w_X0_isFollowed_16 (hc : Cx p s m args meth c cX0_isFollowed 5 "PumpCrossing$Boards" D cs B0 kt Lv) (hr : meth.sig.returnType = some .boolean) {o : Int32}  {g0 : Nat} {x1 : Int32} {x2 : Int32} {x3 : Int32} {S : St} {K : Unit → Option (Int32)} (hL0 : Lv 14 g0) (hK : ∀ (_u : Unit) (H : Heap) (locs : List Loc) (ls : Array Slot), K _u = some o → Dy s D cs B0 α Lv S H locs → lv_has ls 5 [] → W p l e (Rm 5 0 0) s m args below meth c H locs 0 0 (MQ below (Qi D cs B0 α Lv o S) args s 0 0 (AB B0)) (F0 m 46 ls [])) : ∀ (n : Nat) (x4 : Int32) (H : Heap) (locs : List Loc) (ls : Array Slot), f_X0_isFollowed_16 g0 x1 x2 x3 S K n x4 = some o → Dy s D cs B0 α Lv S H locs → lv_has ls 5 [(0, .ref (α 14 g0)), (1, .int x1), (2, .int x2), (3, .int x3), (4, .int x4)] → W p l e (Rm 5 0 0) s m args below meth c H locs 0 0 (MQ below (Qi D cs B0 α Lv o S) args s 0 0 (AB B0)) (F0 m 16 ls []) := by
  intro n
  induction n with
  | zero =>
    intro x4 H locs ls hf
    rw [f_X0_isFollowed_16] at hf
    cases hf
  | succ n ih =>
    intro x4 H locs ls hf hd hl
    rw [f_X0_isFollowed_16] at hf
    refine lv_iload hc.x hc.b dX0_isFollowed_16 (lv_at hl 4 rfl) ?_
    refine lv_iload_n hc.x hc.b dX0_isFollowed_18 rfl (lv_at hl 3 rfl) ?_
    refine lv_icmp_ge (tgt := 46) hc.x hc.b dX0_isFollowed_19 (by decide) (fun c_4 => ?_) (fun c_4 => ?_)
    · have hf := br_y c_4 hf
      exact hK ()  _ _ _ hf hd (lv_sub hl [] rfl)
    · have hf := br_n c_4 hf
      refine lv_iload hc.x hc.b dX0_isFollowed_22 (lv_at hl 4 rfl) ?_
      refine lv_iload_n hc.x hc.b dX0_isFollowed_24 rfl (lv_at hl 1 rfl) ?_
      refine jn_s (P := fun J_5 => ∀ (_u : Unit) (H : Heap) (locs : List Loc) (ls : Array Slot), J_5 _u = some o → Dy s D cs B0 α Lv S H locs → lv_has ls 5 [(0, .ref (α 14 g0)), (1, .int x1), (2, .int x2), (3, .int x3), (4, .int x4)] → W p l e (Rm 5 0 0) s m args below meth c H locs 0 0 (MQ below (Qi D cs B0 α Lv o S) args s 0 0 (AB B0)) (F0 m 40 ls [])) hf ?_ (fun J_5 hJ_5 hf => ?_)
      · intro _u H locs ls hf hd hl
        obtain ⟨x4_6, ex4_6⟩ : ∃ z : Int32, z = x4 + 1 := ⟨_, rfl⟩
        have hf := bv_n ex4_6 hf
        refine lv_iinc (v := x4_6) (lv' := [(4, .int x4_6), (0, .ref (α 14 g0)), (1, .int x1), (2, .int x2), (3, .int x3)]) hc.x hc.b dX0_isFollowed_40 hl (k := 4) rfl (by rw [ex4_6]; rfl) (by decide) rfl (fun ls hl => ?_)
        refine lv_goto (tgt := 16) hc.x hc.b dX0_isFollowed_43 (by decide) ?_
        exact ih x4_6 _ _ _ hf hd (lv_sub hl [1, 2, 3, 4, 0] rfl)
      refine lv_icmp_eq (tgt := 40) hc.x hc.b dX0_isFollowed_25 (by decide) (fun c_7 => ?_) (fun c_7 => ?_)
      · have hf := br_y c_7 hf
        exact hJ_5 ()  _ _ _ hf hd (lv_sub hl [0, 1, 2, 3, 4] rfl)
      · have hf := br_n c_7 hf
        refine lv_aload_n hc.x hc.b dX0_isFollowed_28 rfl (lv_at hl 0 rfl) ?_
        refine lv_iload hc.x hc.b dX0_isFollowed_29 (lv_at hl 4 rfl) ?_
        refine lv_iload_n hc.x hc.b dX0_isFollowed_31 rfl (lv_at hl 2 rfl) ?_
        obtain ⟨r_9, hq_8, hf⟩ := on_s hf
        refine k_i (k_runV hc hd my_X0_wentUpBehind tw_926 hL0 rfl rfl rfl (c_X0_wentUpBehind l D cs B0 kt α Lv S g0 x4 x2 hc.cl hL0  hq_8) rfl rfl hl.1 (Nat.le_of_ble_eq_true rfl) ⟨Nat.le_of_ble_eq_true rfl, Nat.le_of_ble_eq_true rfl, Nat.zero_le _, Nat.zero_le _⟩ dX0_isFollowed_32) hd (fun H locs hd => ?_)
        refine lv_if_ne (tgt := 40) hc.x hc.b dX0_isFollowed_35 (by decide) (fun c_10 => ?_) (fun c_10 => ?_)
        · have hf := br_n c_10 hf
          exact hJ_5 ()  _ _ _ hf hd (lv_sub hl [0, 1, 2, 3, 4] rfl)
        · have hf := br_y c_10 hf
          refine lv_iconst (v := 0) hc.x hc.b dX0_isFollowed_38 (by decide) ?_
          cases hf
          exact r_zret hc hd hr (Or.inl rfl) dX0_isFollowed_39
set_option maxRecDepth 100000 in
set_option maxHeartbeats 4000000 in
theorem b_X0_isFollowed (hc : Cx p s m args meth c cX0_isFollowed 5 "PumpCrossing$Boards" D cs B0 kt Lv) (hr : meth.sig.returnType = some .boolean)  {o : Int32}  {S : St} {g0 : Nat} {x1 : Int32} {x2 : Int32} {x3 : Int32} (hL0 : Lv 14 g0) {H : Heap} {locs : List Loc} {ls : Array Slot} (hf : f_X0_isFollowed g0 x1 x2 x3 S = some o) (hd : Dy s D cs B0 α Lv S H locs) (hl : lv_has ls 5 [(0, .ref (α 14 g0)), (1, .int x1), (2, .int x2), (3, .int x3)]) : W p l e (Rm 5 0 0) s m args below meth c H locs 0 0 (MQ below (Qi D cs B0 α Lv o S) args s 0 0 (AB B0)) (F0 m 0 ls []) := by
  unfold f_X0_isFollowed at hf
  refine lv_aload_n hc.x hc.b dX0_isFollowed_0 rfl (lv_at hl 0 rfl) ?_
  refine lv_iload_n hc.x hc.b dX0_isFollowed_1 rfl (lv_at hl 2 rfl) ?_
  refine lv_bipush (v := 6) hc.x hc.b dX0_isFollowed_2 (by decide) ?_
  refine lv_iadd hc.x hc.b dX0_isFollowed_4 ?_
  obtain ⟨r_2, hq_1, hf⟩ := on_s hf
  refine k_i (k_runV hc hd my_X0_has tw_925 hL0 rfl rfl rfl (c_X0_has l D cs B0 kt α Lv S g0 (x2 + 6) hc.cl hL0  hq_1) rfl rfl hl.1 (Nat.le_of_ble_eq_true rfl) ⟨Nat.le_of_ble_eq_true rfl, Nat.le_of_ble_eq_true rfl, Nat.zero_le _, Nat.zero_le _⟩ dX0_isFollowed_5) hd (fun H locs hd => ?_)
  refine lv_if_ne (tgt := 13) hc.x hc.b dX0_isFollowed_8 (by decide) (fun c_3 => ?_) (fun c_3 => ?_)
  · have hf := br_n c_3 hf
    refine lv_iconst (v := 0) hc.x hc.b dX0_isFollowed_13 (by decide) ?_
    refine lv_istore (lv' := [(4, .int 0), (0, .ref (α 14 g0)), (1, .int x1), (2, .int x2), (3, .int x3)]) hc.x hc.b dX0_isFollowed_14 hl (by decide) rfl (fun ls hl => ?_)
    refine w_X0_isFollowed_16 hc hr hL0 ?_ _ _ _ _ _ hf hd (lv_sub hl [1, 2, 3, 4, 0] rfl)
    intro _u H locs ls hf hd hl
    refine lv_iconst (v := 1) hc.x hc.b dX0_isFollowed_46 (by decide) ?_
    cases hf
    exact r_zret hc hd hr (Or.inr rfl) dX0_isFollowed_47
  · have hf := br_y c_3 hf
    refine lv_iconst (v := 0) hc.x hc.b dX0_isFollowed_11 (by decide) ?_
    cases hf
    exact r_zret hc hd hr (Or.inl rfl) dX0_isFollowed_12
theorem c_X0_isFollowed (l : Launch) (D : va_G) (cs : Nat → ClassId) (B0 : Nat) (kt : (Nat → Nat) × (Nat → Nat)) (α : Nat → Nat → Nat) (Lv : Nat → Nat → Prop) (S : St) (g0 : Nat) (x1 : Int32) (x2 : Int32) (x3 : Int32) (hcl : Cl Lv) (hL0 : Lv 14 g0) {o : Int32} (hf : f_X0_isFollowed g0 x1 x2 x3 S = some o) : Met l yX0_isFollowed (wz yX0_isFollowed cX0_isFollowed 5 (some .boolean)) (Rm 5 0 0) (Pz D cs B0 kt α Lv S [.ref (α 14 g0), .int x1, .int x2, .int x3]) (Qi D cs B0 α Lv o S) 0 0 (AB B0) := met_of (by decide) rfl hcl (Nat.le_of_ble_eq_true rfl) (fun p e s m below meth c hc hr hd ls hl => b_X0_isFollowed hc hr hL0 hf hd hl)
theorem my_X0_isFollowed : MyV yX0_isFollowed "PumpCrossing$Boards" cX0_isFollowed 5 (some .boolean) 3 := ⟨tw_922, tw_923, tw_4, tw_924, by decide +kernel⟩
def f_X0_isLead_3 (g0 : Nat) (x1 : Int32) (x2 : Int32) (x3 : Int32) (S : St) (K : Unit → Option (Int32)) : Nat → Int32 → Option (Int32)
  | 0, _ => none
  | n + 1, x4 => br (x3 ≤ x4) (K ()) (on (f_X0_wentUp g0 x4 x2 S) (fun r_3 => bv (fun (v_4 : Int32) => bv (fun (_u : Unit) => some 0) (fun J_6 => br (r_3 = v_4) (on (f_X0_wentUp g0 x4 (x2 - 1) S) (fun r_9 => br (r_9 = 0) (bv (x4 + 1) (fun x4_11 => f_X0_isLead_3 g0 x1 x2 x3 S K n x4_11)) (J_6 ()))) (J_6 ()))) (fun J_5 => br (x4 = x1) (J_5 1) (J_5 0))))
def f_X0_isLead (g0 : Nat) (x1 : Int32) (x2 : Int32) (x3 : Int32) (S : St) : Option (Int32) := f_X0_isLead_3 g0 x1 x2 x3 S (fun (_u : Unit) => some 1) FU 0
set_option maxRecDepth 100000 in
set_option maxHeartbeats 4000000 in
theorem w_X0_isLead_3 (hc : Cx p s m args meth c cX0_isLead 5 "PumpCrossing$Boards" D cs B0 kt Lv) (hr : meth.sig.returnType = some .boolean) {o : Int32}  {g0 : Nat} {x1 : Int32} {x2 : Int32} {x3 : Int32} {S : St} {K : Unit → Option (Int32)} (hL0 : Lv 14 g0) (hK : ∀ (_u : Unit) (H : Heap) (locs : List Loc) (ls : Array Slot), K _u = some o → Dy s D cs B0 α Lv S H locs → lv_has ls 5 [] → W p l e (Rm 2 0 0) s m args below meth c H locs 0 0 (MQ below (Qi D cs B0 α Lv o S) args s 0 0 (AB B0)) (F0 m 50 ls [])) : ∀ (n : Nat) (x4 : Int32) (H : Heap) (locs : List Loc) (ls : Array Slot), f_X0_isLead_3 g0 x1 x2 x3 S K n x4 = some o → Dy s D cs B0 α Lv S H locs → lv_has ls 5 [(0, .ref (α 14 g0)), (1, .int x1), (2, .int x2), (3, .int x3), (4, .int x4)] → W p l e (Rm 2 0 0) s m args below meth c H locs 0 0 (MQ below (Qi D cs B0 α Lv o S) args s 0 0 (AB B0)) (F0 m 3 ls []) := by
  intro n
  induction n with
  | zero =>
    intro x4 H locs ls hf
    rw [f_X0_isLead_3] at hf
    cases hf
  | succ n ih =>
    intro x4 H locs ls hf hd hl
    rw [f_X0_isLead_3] at hf
    refine lv_iload hc.x hc.b dX0_isLead_3 (lv_at hl 4 rfl) ?_
    refine lv_iload_n hc.x hc.b dX0_isLead_5 rfl (lv_at hl 3 rfl) ?_
    refine lv_icmp_ge (tgt := 50) hc.x hc.b dX0_isLead_6 (by decide) (fun c_1 => ?_) (fun c_1 => ?_)
    · have hf := br_y c_1 hf
      exact hK ()  _ _ _ hf hd (lv_sub hl [] rfl)
    · have hf := br_n c_1 hf
      refine lv_aload_n hc.x hc.b dX0_isLead_9 rfl (lv_at hl 0 rfl) ?_
      refine lv_iload hc.x hc.b dX0_isLead_10 (lv_at hl 4 rfl) ?_
      refine lv_iload_n hc.x hc.b dX0_isLead_12 rfl (lv_at hl 2 rfl) ?_
      obtain ⟨r_3, hq_2, hf⟩ := on_s hf
      refine k_i (k_runV hc hd my_X0_wentUp tw_917 hL0 rfl rfl rfl (c_X0_wentUp l D cs B0 kt α Lv S g0 x4 x2 hc.cl hL0  hq_2) rfl rfl hl.1 (Nat.le_of_ble_eq_true rfl) ⟨Nat.le_of_ble_eq_true rfl, Nat.le_of_ble_eq_true rfl, Nat.zero_le _, Nat.zero_le _⟩ dX0_isLead_13) hd (fun H locs hd => ?_)
      refine lv_iload hc.x hc.b dX0_isLead_16 (lv_at hl 4 rfl) ?_
      refine lv_iload_n hc.x hc.b dX0_isLead_18 rfl (lv_at hl 1 rfl) ?_
      refine jn_s (P := fun J_5 => ∀ (v_4 : Int32) (H : Heap) (locs : List Loc) (ls : Array Slot), J_5 v_4 = some o → Dy s D cs B0 α Lv S H locs → lv_has ls 5 [(0, .ref (α 14 g0)), (1, .int x1), (2, .int x2), (3, .int x3), (4, .int x4)] → W p l e (Rm 2 0 0) s m args below meth c H locs 0 0 (MQ below (Qi D cs B0 α Lv o S) args s 0 0 (AB B0)) (F0 m 27 ls [.int v_4, .int r_3])) hf ?_ (fun J_5 hJ_5 hf => ?_)
      · intro v_4 H locs ls hf hd hl
        refine jn_s (P := fun J_6 => ∀ (_u : Unit) (H : Heap) (locs : List Loc) (ls : Array Slot), J_6 _u = some o → Dy s D cs B0 α Lv S H locs → lv_has ls 5 [] → W p l e (Rm 2 0 0) s m args below meth c H locs 0 0 (MQ below (Qi D cs B0 α Lv o S) args s 0 0 (AB B0)) (F0 m 42 ls [])) hf ?_ (fun J_6 hJ_6 hf => ?_)
        · intro _u H locs ls hf hd hl
          refine lv_iconst (v := 0) hc.x hc.b dX0_isLead_42 (by decide) ?_
          cases hf
          exact r_zret hc hd hr (Or.inl rfl) dX0_isLead_43
        refine lv_icmp_ne (tgt := 42) hc.x hc.b dX0_isLead_27 (by decide) (fun c_7 => ?_) (fun c_7 => ?_)
        · have hf := br_n c_7 hf
          exact hJ_6 ()  _ _ _ hf hd (lv_sub hl [] rfl)
        · have hf := br_y c_7 hf
          refine lv_aload_n hc.x hc.b dX0_isLead_30 rfl (lv_at hl 0 rfl) ?_
          refine lv_iload hc.x hc.b dX0_isLead_31 (lv_at hl 4 rfl) ?_
          refine lv_iload_n hc.x hc.b dX0_isLead_33 rfl (lv_at hl 2 rfl) ?_
          refine lv_iconst (v := 1) hc.x hc.b dX0_isLead_34 (by decide) ?_
          refine lv_isub hc.x hc.b dX0_isLead_35 ?_
          obtain ⟨r_9, hq_8, hf⟩ := on_s hf
          refine k_i (k_runV hc hd my_X0_wentUp tw_917 hL0 rfl rfl rfl (c_X0_wentUp l D cs B0 kt α Lv S g0 x4 (x2 - 1) hc.cl hL0  hq_8) rfl rfl hl.1 (Nat.le_of_ble_eq_true rfl) ⟨Nat.le_of_ble_eq_true rfl, Nat.le_of_ble_eq_true rfl, Nat.zero_le _, Nat.zero_le _⟩ dX0_isLead_36) hd (fun H locs hd => ?_)
          refine lv_if_eq (tgt := 44) hc.x hc.b dX0_isLead_39 (by decide) (fun c_10 => ?_) (fun c_10 => ?_)
          · have hf := br_y c_10 hf
            obtain ⟨x4_11, ex4_11⟩ : ∃ z : Int32, z = x4 + 1 := ⟨_, rfl⟩
            have hf := bv_n ex4_11 hf
            refine lv_iinc (v := x4_11) (lv' := [(4, .int x4_11), (0, .ref (α 14 g0)), (1, .int x1), (2, .int x2), (3, .int x3)]) hc.x hc.b dX0_isLead_44 hl (k := 4) rfl (by rw [ex4_11]; rfl) (by decide) rfl (fun ls hl => ?_)
            refine lv_goto (tgt := 3) hc.x hc.b dX0_isLead_47 (by decide) ?_
            exact ih x4_11 _ _ _ hf hd (lv_sub hl [1, 2, 3, 4, 0] rfl)
          · have hf := br_n c_10 hf
            exact hJ_6 ()  _ _ _ hf hd (lv_sub hl [] rfl)
      refine lv_icmp_ne (tgt := 26) hc.x hc.b dX0_isLead_19 (by decide) (fun c_12 => ?_) (fun c_12 => ?_)
      · have hf := br_n c_12 hf
        refine lv_iconst (v := 0) hc.x hc.b dX0_isLead_26 (by decide) ?_
        exact hJ_5 0 _ _ _ hf hd (lv_sub hl [0, 1, 2, 3, 4] rfl)
      · have hf := br_y c_12 hf
        refine lv_iconst (v := 1) hc.x hc.b dX0_isLead_22 (by decide) ?_
        refine lv_goto (tgt := 27) hc.x hc.b dX0_isLead_23 (by decide) ?_
        exact hJ_5 1 _ _ _ hf hd (lv_sub hl [0, 1, 2, 3, 4] rfl)
set_option maxRecDepth 100000 in
set_option maxHeartbeats 4000000 in
theorem b_X0_isLead (hc : Cx p s m args meth c cX0_isLead 5 "PumpCrossing$Boards" D cs B0 kt Lv) (hr : meth.sig.returnType = some .boolean)  {o : Int32}  {S : St} {g0 : Nat} {x1 : Int32} {x2 : Int32} {x3 : Int32} (hL0 : Lv 14 g0) {H : Heap} {locs : List Loc} {ls : Array Slot} (hf : f_X0_isLead g0 x1 x2 x3 S = some o) (hd : Dy s D cs B0 α Lv S H locs) (hl : lv_has ls 5 [(0, .ref (α 14 g0)), (1, .int x1), (2, .int x2), (3, .int x3)]) : W p l e (Rm 2 0 0) s m args below meth c H locs 0 0 (MQ below (Qi D cs B0 α Lv o S) args s 0 0 (AB B0)) (F0 m 0 ls []) := by
  unfold f_X0_isLead at hf
  refine lv_iconst (v := 0) hc.x hc.b dX0_isLead_0 (by decide) ?_
  refine lv_istore (lv' := [(4, .int 0), (0, .ref (α 14 g0)), (1, .int x1), (2, .int x2), (3, .int x3)]) hc.x hc.b dX0_isLead_1 hl (by decide) rfl (fun ls hl => ?_)
  refine w_X0_isLead_3 hc hr hL0 ?_ _ _ _ _ _ hf hd (lv_sub hl [1, 2, 3, 4, 0] rfl)
  intro _u H locs ls hf hd hl
  refine lv_iconst (v := 1) hc.x hc.b dX0_isLead_50 (by decide) ?_
  cases hf
  exact r_zret hc hd hr (Or.inr rfl) dX0_isLead_51
theorem c_X0_isLead (l : Launch) (D : va_G) (cs : Nat → ClassId) (B0 : Nat) (kt : (Nat → Nat) × (Nat → Nat)) (α : Nat → Nat → Nat) (Lv : Nat → Nat → Prop) (S : St) (g0 : Nat) (x1 : Int32) (x2 : Int32) (x3 : Int32) (hcl : Cl Lv) (hL0 : Lv 14 g0) {o : Int32} (hf : f_X0_isLead g0 x1 x2 x3 S = some o) : Met l yX0_isLead (wz yX0_isLead cX0_isLead 5 (some .boolean)) (Rm 2 0 0) (Pz D cs B0 kt α Lv S [.ref (α 14 g0), .int x1, .int x2, .int x3]) (Qi D cs B0 α Lv o S) 0 0 (AB B0) := met_of (by decide) rfl hcl (Nat.le_of_ble_eq_true rfl) (fun p e s m below meth c hc hr hd ls hl => b_X0_isLead hc hr hL0 hf hd hl)
theorem my_X0_isLead : MyV yX0_isLead "PumpCrossing$Boards" cX0_isLead 5 (some .boolean) 3 := ⟨tw_914, tw_915, tw_4, tw_916, by decide +kernel⟩
def f_X0_isRound_18 (g0 : Nat) (x1 : Int32) (x2 : Int32) (x3 : Int32) (S : St) (K : Unit → Option (Int32)) : Nat → Int32 → Option (Int32)
  | 0, _ => none
  | n + 1, x4 => br (x2 ≤ x4) (K ()) (on (f_X0_at g0 x4 x3 S) (fun r_5 => on (f_X0_at g0 x4 (x3 - x1) S) (fun r_7 => br (r_5 = r_7) (bv (x4 + 1) (fun x4_9 => f_X0_isRound_18 g0 x1 x2 x3 S K n x4_9)) (some 0))))
def f_X0_isRound_7 (g0 : Nat) (x1 : Int32) (x2 : Int32) (S : St) (K : Unit → Option (Int32)) : Nat → Int32 → Option (Int32)
  | 0, _ => none
  | n + 1, x3 => br ((gi S 14 g0 3) ≤ x3) (K ()) (f_X0_isRound_18 g0 x1 x2 x3 S (fun (_u : Unit) => bv (x3 + 1) (fun x3_10 => f_X0_isRound_7 g0 x1 x2 S K n x3_10)) FU 0)
def f_X0_isRound (g0 : Nat) (x1 : Int32) (x2 : Int32) (S : St) : Option (Int32) := bv ((gi S 14 g0 3) - x1) (fun x3_1 => f_X0_isRound_7 g0 x1 x2 S (fun (_u : Unit) => some 1) FU x3_1)
set_option maxRecDepth 100000 in
set_option maxHeartbeats 4000000 in
theorem w_X0_isRound_18 (hc : Cx p s m args meth c cX0_isRound 5 "PumpCrossing$Boards" D cs B0 kt Lv) (hr : meth.sig.returnType = some .boolean) {o : Int32}  {g0 : Nat} {x1 : Int32} {x2 : Int32} {x3 : Int32} {S : St} {K : Unit → Option (Int32)} (hL0 : Lv 14 g0) (hK : ∀ (_u : Unit) (H : Heap) (locs : List Loc) (ls : Array Slot), K _u = some o → Dy s D cs B0 α Lv S H locs → lv_has ls 5 [(0, .ref (α 14 g0)), (1, .int x1), (2, .int x2), (3, .int x3)] → W p l e (Rm 1 0 0) s m args below meth c H locs 0 0 (MQ below (Qi D cs B0 α Lv o S) args s 0 0 (AB B0)) (F0 m 51 ls [])) : ∀ (n : Nat) (x4 : Int32) (H : Heap) (locs : List Loc) (ls : Array Slot), f_X0_isRound_18 g0 x1 x2 x3 S K n x4 = some o → Dy s D cs B0 α Lv S H locs → lv_has ls 5 [(0, .ref (α 14 g0)), (1, .int x1), (2, .int x2), (3, .int x3), (4, .int x4)] → W p l e (Rm 1 0 0) s m args below meth c H locs 0 0 (MQ below (Qi D cs B0 α Lv o S) args s 0 0 (AB B0)) (F0 m 18 ls []) := by
  intro n
  induction n with
  | zero =>
    intro x4 H locs ls hf
    rw [f_X0_isRound_18] at hf
    cases hf
  | succ n ih =>
    intro x4 H locs ls hf hd hl
    rw [f_X0_isRound_18] at hf
    refine lv_iload hc.x hc.b dX0_isRound_18 (lv_at hl 4 rfl) ?_
    refine lv_iload_n hc.x hc.b dX0_isRound_20 rfl (lv_at hl 2 rfl) ?_
    refine lv_icmp_ge (tgt := 51) hc.x hc.b dX0_isRound_21 (by decide) (fun c_3 => ?_) (fun c_3 => ?_)
    · have hf := br_y c_3 hf
      exact hK ()  _ _ _ hf hd (lv_sub hl [0, 1, 2, 3] rfl)
    · have hf := br_n c_3 hf
      refine lv_aload_n hc.x hc.b dX0_isRound_24 rfl (lv_at hl 0 rfl) ?_
      refine lv_iload hc.x hc.b dX0_isRound_25 (lv_at hl 4 rfl) ?_
      refine lv_iload_n hc.x hc.b dX0_isRound_27 rfl (lv_at hl 3 rfl) ?_
      obtain ⟨r_5, hq_4, hf⟩ := on_s hf
      refine k_i (k_runV hc hd my_X0_at tw_413 hL0 rfl rfl rfl (c_X0_at l D cs B0 kt α Lv S g0 x4 x3 hc.cl hL0  hq_4) rfl rfl hl.1 (Nat.le_of_ble_eq_true rfl) ⟨Nat.le_of_ble_eq_true rfl, Nat.le_of_ble_eq_true rfl, Nat.zero_le _, Nat.zero_le _⟩ dX0_isRound_28) hd (fun H locs hd => ?_)
      refine lv_aload_n hc.x hc.b dX0_isRound_31 rfl (lv_at hl 0 rfl) ?_
      refine lv_iload hc.x hc.b dX0_isRound_32 (lv_at hl 4 rfl) ?_
      refine lv_iload_n hc.x hc.b dX0_isRound_34 rfl (lv_at hl 3 rfl) ?_
      refine lv_iload_n hc.x hc.b dX0_isRound_35 rfl (lv_at hl 1 rfl) ?_
      refine lv_isub hc.x hc.b dX0_isRound_36 ?_
      obtain ⟨r_7, hq_6, hf⟩ := on_s hf
      refine k_i (k_runV hc hd my_X0_at tw_413 hL0 rfl rfl rfl (c_X0_at l D cs B0 kt α Lv S g0 x4 (x3 - x1) hc.cl hL0  hq_6) rfl rfl hl.1 (Nat.le_of_ble_eq_true rfl) ⟨Nat.le_of_ble_eq_true rfl, Nat.le_of_ble_eq_true rfl, Nat.zero_le _, Nat.zero_le _⟩ dX0_isRound_37) hd (fun H locs hd => ?_)
      refine lv_icmp_eq (tgt := 45) hc.x hc.b dX0_isRound_40 (by decide) (fun c_8 => ?_) (fun c_8 => ?_)
      · have hf := br_y c_8 hf
        obtain ⟨x4_9, ex4_9⟩ : ∃ z : Int32, z = x4 + 1 := ⟨_, rfl⟩
        have hf := bv_n ex4_9 hf
        refine lv_iinc (v := x4_9) (lv' := [(4, .int x4_9), (0, .ref (α 14 g0)), (1, .int x1), (2, .int x2), (3, .int x3)]) hc.x hc.b dX0_isRound_45 hl (k := 4) rfl (by rw [ex4_9]; rfl) (by decide) rfl (fun ls hl => ?_)
        refine lv_goto (tgt := 18) hc.x hc.b dX0_isRound_48 (by decide) ?_
        exact ih x4_9 _ _ _ hf hd (lv_sub hl [1, 2, 3, 4, 0] rfl)
      · have hf := br_n c_8 hf
        refine lv_iconst (v := 0) hc.x hc.b dX0_isRound_43 (by decide) ?_
        cases hf
        exact r_zret hc hd hr (Or.inl rfl) dX0_isRound_44
set_option maxRecDepth 100000 in
set_option maxHeartbeats 4000000 in
theorem w_X0_isRound_7 (hc : Cx p s m args meth c cX0_isRound 5 "PumpCrossing$Boards" D cs B0 kt Lv) (hr : meth.sig.returnType = some .boolean) {o : Int32}  {g0 : Nat} {x1 : Int32} {x2 : Int32} {S : St} {K : Unit → Option (Int32)} (hL0 : Lv 14 g0) (hK : ∀ (_u : Unit) (H : Heap) (locs : List Loc) (ls : Array Slot), K _u = some o → Dy s D cs B0 α Lv S H locs → lv_has ls 5 [] → W p l e (Rm 1 0 0) s m args below meth c H locs 0 0 (MQ below (Qi D cs B0 α Lv o S) args s 0 0 (AB B0)) (F0 m 57 ls [])) : ∀ (n : Nat) (x3 : Int32) (H : Heap) (locs : List Loc) (ls : Array Slot), f_X0_isRound_7 g0 x1 x2 S K n x3 = some o → Dy s D cs B0 α Lv S H locs → lv_has ls 5 [(0, .ref (α 14 g0)), (1, .int x1), (2, .int x2), (3, .int x3)] → W p l e (Rm 1 0 0) s m args below meth c H locs 0 0 (MQ below (Qi D cs B0 α Lv o S) args s 0 0 (AB B0)) (F0 m 7 ls []) := by
  intro n
  induction n with
  | zero =>
    intro x3 H locs ls hf
    rw [f_X0_isRound_7] at hf
    cases hf
  | succ n ih =>
    intro x3 H locs ls hf hd hl
    rw [f_X0_isRound_7] at hf
    refine lv_iload_n hc.x hc.b dX0_isRound_7 rfl (lv_at hl 3 rfl) ?_
    refine lv_aload_n hc.x hc.b dX0_isRound_8 rfl (lv_at hl 0 rfl) ?_
    refine fg_14_3 hc hd hL0 tw_80 dX0_isRound_9 ?_
    refine lv_icmp_ge (tgt := 57) hc.x hc.b dX0_isRound_12 (by decide) (fun c_2 => ?_) (fun c_2 => ?_)
    · have hf := br_y c_2 hf
      exact hK ()  _ _ _ hf hd (lv_sub hl [] rfl)
    · have hf := br_n c_2 hf
      refine lv_iconst (v := 0) hc.x hc.b dX0_isRound_15 (by decide) ?_
      refine lv_istore (lv' := [(4, .int 0), (0, .ref (α 14 g0)), (1, .int x1), (2, .int x2), (3, .int x3)]) hc.x hc.b dX0_isRound_16 hl (by decide) rfl (fun ls hl => ?_)
      refine w_X0_isRound_18 hc hr hL0 ?_ _ _ _ _ _ hf hd (lv_sub hl [1, 2, 3, 4, 0] rfl)
      intro _u H locs ls hf hd hl
      obtain ⟨x3_10, ex3_10⟩ : ∃ z : Int32, z = x3 + 1 := ⟨_, rfl⟩
      have hf := bv_n ex3_10 hf
      refine lv_iinc (v := x3_10) (lv' := [(3, .int x3_10), (0, .ref (α 14 g0)), (1, .int x1), (2, .int x2)]) hc.x hc.b dX0_isRound_51 hl (k := 3) rfl (by rw [ex3_10]; rfl) (by decide) rfl (fun ls hl => ?_)
      refine lv_goto (tgt := 7) hc.x hc.b dX0_isRound_54 (by decide) ?_
      exact ih x3_10 _ _ _ hf hd (lv_sub hl [1, 2, 3, 0] rfl)
set_option maxRecDepth 100000 in
set_option maxHeartbeats 4000000 in
theorem b_X0_isRound (hc : Cx p s m args meth c cX0_isRound 5 "PumpCrossing$Boards" D cs B0 kt Lv) (hr : meth.sig.returnType = some .boolean)  {o : Int32}  {S : St} {g0 : Nat} {x1 : Int32} {x2 : Int32} (hL0 : Lv 14 g0) {H : Heap} {locs : List Loc} {ls : Array Slot} (hf : f_X0_isRound g0 x1 x2 S = some o) (hd : Dy s D cs B0 α Lv S H locs) (hl : lv_has ls 5 [(0, .ref (α 14 g0)), (1, .int x1), (2, .int x2)]) : W p l e (Rm 1 0 0) s m args below meth c H locs 0 0 (MQ below (Qi D cs B0 α Lv o S) args s 0 0 (AB B0)) (F0 m 0 ls []) := by
  unfold f_X0_isRound at hf
  refine lv_aload_n hc.x hc.b dX0_isRound_0 rfl (lv_at hl 0 rfl) ?_
  refine fg_14_3 hc hd hL0 tw_80 dX0_isRound_1 ?_
  refine lv_iload_n hc.x hc.b dX0_isRound_4 rfl (lv_at hl 1 rfl) ?_
  refine lv_isub hc.x hc.b dX0_isRound_5 ?_
  refine lv_topi (fun x3_1 ex3_1 => ?_)
  have hf := bv_n ex3_1 hf
  refine lv_istore_n (lv' := [(3, .int x3_1), (0, .ref (α 14 g0)), (1, .int x1), (2, .int x2)]) hc.x hc.b dX0_isRound_6 rfl hl (by decide) rfl (fun ls hl => ?_)
  refine w_X0_isRound_7 hc hr hL0 ?_ _ _ _ _ _ hf hd (lv_sub hl [1, 2, 3, 0] rfl)
  intro _u H locs ls hf hd hl
  refine lv_iconst (v := 1) hc.x hc.b dX0_isRound_57 (by decide) ?_
  cases hf
  exact r_zret hc hd hr (Or.inr rfl) dX0_isRound_58
theorem c_X0_isRound (l : Launch) (D : va_G) (cs : Nat → ClassId) (B0 : Nat) (kt : (Nat → Nat) × (Nat → Nat)) (α : Nat → Nat → Nat) (Lv : Nat → Nat → Prop) (S : St) (g0 : Nat) (x1 : Int32) (x2 : Int32) (hcl : Cl Lv) (hL0 : Lv 14 g0) {o : Int32} (hf : f_X0_isRound g0 x1 x2 S = some o) : Met l yX0_isRound (wz yX0_isRound cX0_isRound 5 (some .boolean)) (Rm 1 0 0) (Pz D cs B0 kt α Lv S [.ref (α 14 g0), .int x1, .int x2]) (Qi D cs B0 α Lv o S) 0 0 (AB B0) := met_of (by decide) rfl hcl (Nat.le_of_ble_eq_true rfl) (fun p e s m below meth c hc hr hd ls hl => b_X0_isRound hc hr hL0 hf hd hl)
theorem my_X0_isRound : MyV yX0_isRound "PumpCrossing$Boards" cX0_isRound 5 (some .boolean) 2 := ⟨tw_411, (in_sel 0 (by decide +kernel) (by decide +kernel)), tw_4, tw_412, by decide +kernel⟩
def f_X0_leastRound_2 (g0 : Nat) (x1 : Int32) (S : St) (K : Unit → Option (Int32)) : Nat → Int32 → Option (Int32)
  | 0, _ => none
  | n + 1, x2 => br (100 < x2) (K ()) (on (f_X0_kept g0 S) (fun r_3 => br (r_3 < (2 * x2)) (K ()) (on (f_X0_isRound g0 x2 x1 S) (fun r_6 => br (r_6 = 0) (bv (x2 + 1) (fun x2_8 => f_X0_leastRound_2 g0 x1 S K n x2_8)) (some x2)))))
def f_X0_leastRound (g0 : Nat) (x1 : Int32) (S : St) : Option (Int32) := f_X0_leastRound_2 g0 x1 S (fun (_u : Unit) => some ((-1))) FU 1
set_option maxRecDepth 100000 in
set_option maxHeartbeats 4000000 in
theorem w_X0_leastRound_2 (hc : Cx p s m args meth c cX0_leastRound 3 "PumpCrossing$Boards" D cs B0 kt Lv) (hr : meth.sig.returnType = some .int) {o : Int32}  {g0 : Nat} {x1 : Int32} {S : St} {K : Unit → Option (Int32)} (hL0 : Lv 14 g0) (hK : ∀ (_u : Unit) (H : Heap) (locs : List Loc) (ls : Array Slot), K _u = some o → Dy s D cs B0 α Lv S H locs → lv_has ls 3 [] → W p l e (Rm 3 0 0) s m args below meth c H locs 0 0 (MQ below (Qi D cs B0 α Lv o S) args s 0 0 (AB B0)) (F0 m 35 ls [])) : ∀ (n : Nat) (x2 : Int32) (H : Heap) (locs : List Loc) (ls : Array Slot), f_X0_leastRound_2 g0 x1 S K n x2 = some o → Dy s D cs B0 α Lv S H locs → lv_has ls 3 [(0, .ref (α 14 g0)), (1, .int x1), (2, .int x2)] → W p l e (Rm 3 0 0) s m args below meth c H locs 0 0 (MQ below (Qi D cs B0 α Lv o S) args s 0 0 (AB B0)) (F0 m 2 ls []) := by
  intro n
  induction n with
  | zero =>
    intro x2 H locs ls hf
    rw [f_X0_leastRound_2] at hf
    cases hf
  | succ n ih =>
    intro x2 H locs ls hf hd hl
    rw [f_X0_leastRound_2] at hf
    refine lv_iload_n hc.x hc.b dX0_leastRound_2 rfl (lv_at hl 2 rfl) ?_
    refine lv_bipush (v := 100) hc.x hc.b dX0_leastRound_3 (by decide) ?_
    refine lv_icmp_gt (tgt := 35) hc.x hc.b dX0_leastRound_5 (by decide) (fun c_1 => ?_) (fun c_1 => ?_)
    · have hf := br_y c_1 hf
      exact hK ()  _ _ _ hf hd (lv_sub hl [] rfl)
    · have hf := br_n c_1 hf
      refine lv_iconst (v := 2) hc.x hc.b dX0_leastRound_8 (by decide) ?_
      refine lv_iload_n hc.x hc.b dX0_leastRound_9 rfl (lv_at hl 2 rfl) ?_
      refine lv_imul hc.x hc.b dX0_leastRound_10 ?_
      refine lv_aload_n hc.x hc.b dX0_leastRound_11 rfl (lv_at hl 0 rfl) ?_
      obtain ⟨r_3, hq_2, hf⟩ := on_s hf
      refine k_i (k_runV hc hd my_X0_kept tw_402 hL0 rfl rfl rfl (c_X0_kept l D cs B0 kt α Lv S g0 hc.cl hL0  hq_2) rfl rfl hl.1 (Nat.le_of_ble_eq_true rfl) ⟨Nat.le_of_ble_eq_true rfl, Nat.le_of_ble_eq_true rfl, Nat.zero_le _, Nat.zero_le _⟩ dX0_leastRound_12) hd (fun H locs hd => ?_)
      refine lv_icmp_gt (tgt := 35) hc.x hc.b dX0_leastRound_15 (by decide) (fun c_4 => ?_) (fun c_4 => ?_)
      · have hf := br_y c_4 hf
        exact hK ()  _ _ _ hf hd (lv_sub hl [] rfl)
      · have hf := br_n c_4 hf
        refine lv_aload_n hc.x hc.b dX0_leastRound_18 rfl (lv_at hl 0 rfl) ?_
        refine lv_iload_n hc.x hc.b dX0_leastRound_19 rfl (lv_at hl 2 rfl) ?_
        refine lv_iload_n hc.x hc.b dX0_leastRound_20 rfl (lv_at hl 1 rfl) ?_
        obtain ⟨r_6, hq_5, hf⟩ := on_s hf
        refine k_i (k_runV hc hd my_X0_isRound tw_409 hL0 rfl rfl rfl (c_X0_isRound l D cs B0 kt α Lv S g0 x2 x1 hc.cl hL0  hq_5) rfl rfl hl.1 (Nat.le_of_ble_eq_true rfl) ⟨Nat.le_of_ble_eq_true rfl, Nat.le_of_ble_eq_true rfl, Nat.zero_le _, Nat.zero_le _⟩ dX0_leastRound_21) hd (fun H locs hd => ?_)
        refine lv_if_eq (tgt := 29) hc.x hc.b dX0_leastRound_24 (by decide) (fun c_7 => ?_) (fun c_7 => ?_)
        · have hf := br_y c_7 hf
          obtain ⟨x2_8, ex2_8⟩ : ∃ z : Int32, z = x2 + 1 := ⟨_, rfl⟩
          have hf := bv_n ex2_8 hf
          refine lv_iinc (v := x2_8) (lv' := [(2, .int x2_8), (0, .ref (α 14 g0)), (1, .int x1)]) hc.x hc.b dX0_leastRound_29 hl (k := 2) rfl (by rw [ex2_8]; rfl) (by decide) rfl (fun ls hl => ?_)
          refine lv_goto (tgt := 2) hc.x hc.b dX0_leastRound_32 (by decide) ?_
          exact ih x2_8 _ _ _ hf hd (lv_sub hl [1, 2, 0] rfl)
        · have hf := br_n c_7 hf
          refine lv_iload_n hc.x hc.b dX0_leastRound_27 rfl (lv_at hl 2 rfl) ?_
          cases hf
          exact r_iret hc hd hr dX0_leastRound_28
set_option maxRecDepth 100000 in
set_option maxHeartbeats 4000000 in
theorem b_X0_leastRound (hc : Cx p s m args meth c cX0_leastRound 3 "PumpCrossing$Boards" D cs B0 kt Lv) (hr : meth.sig.returnType = some .int)  {o : Int32}  {S : St} {g0 : Nat} {x1 : Int32} (hL0 : Lv 14 g0) {H : Heap} {locs : List Loc} {ls : Array Slot} (hf : f_X0_leastRound g0 x1 S = some o) (hd : Dy s D cs B0 α Lv S H locs) (hl : lv_has ls 3 [(0, .ref (α 14 g0)), (1, .int x1)]) : W p l e (Rm 3 0 0) s m args below meth c H locs 0 0 (MQ below (Qi D cs B0 α Lv o S) args s 0 0 (AB B0)) (F0 m 0 ls []) := by
  unfold f_X0_leastRound at hf
  refine lv_iconst (v := 1) hc.x hc.b dX0_leastRound_0 (by decide) ?_
  refine lv_istore_n (lv' := [(2, .int 1), (0, .ref (α 14 g0)), (1, .int x1)]) hc.x hc.b dX0_leastRound_1 rfl hl (by decide) rfl (fun ls hl => ?_)
  refine w_X0_leastRound_2 hc hr hL0 ?_ _ _ _ _ _ hf hd (lv_sub hl [1, 2, 0] rfl)
  intro _u H locs ls hf hd hl
  refine lv_iconst (v := (-1)) hc.x hc.b dX0_leastRound_35 (by decide) ?_
  cases hf
  exact r_iret hc hd hr dX0_leastRound_36
theorem c_X0_leastRound (l : Launch) (D : va_G) (cs : Nat → ClassId) (B0 : Nat) (kt : (Nat → Nat) × (Nat → Nat)) (α : Nat → Nat → Nat) (Lv : Nat → Nat → Prop) (S : St) (g0 : Nat) (x1 : Int32) (hcl : Cl Lv) (hL0 : Lv 14 g0) {o : Int32} (hf : f_X0_leastRound g0 x1 S = some o) : Met l yX0_leastRound (wz yX0_leastRound cX0_leastRound 3 (some .int)) (Rm 3 0 0) (Pz D cs B0 kt α Lv S [.ref (α 14 g0), .int x1]) (Qi D cs B0 α Lv o S) 0 0 (AB B0) := met_of (by decide) rfl hcl (Nat.le_of_ble_eq_true rfl) (fun p e s m below meth c hc hr hd ls hl => b_X0_leastRound hc hr hL0 hf hd hl)
theorem my_X0_leastRound : MyV yX0_leastRound "PumpCrossing$Boards" cX0_leastRound 3 (some .int) 1 := ⟨tw_399, tw_400, tw_4, tw_401, by decide +kernel⟩
def f_X11_pair (x0 : Int32) (x1 : Int32) (S : St) : Option (Int32) := some ((10 * x0) + x1)
set_option maxRecDepth 100000 in
set_option maxHeartbeats 4000000 in
theorem b_X11_pair (hc : Cx p s m args meth c cX11_pair 2 "PumpCrossing" D cs B0 kt Lv) (hr : meth.sig.returnType = some .int)  {o : Int32}  {S : St} {x0 : Int32} {x1 : Int32}  {H : Heap} {locs : List Loc} {ls : Array Slot} (hf : f_X11_pair x0 x1 S = some o) (hd : Dy s D cs B0 α Lv S H locs) (hl : lv_has ls 2 [(0, .int x0), (1, .int x1)]) : W p l e (Rm 0 0 0) s m args below meth c H locs 0 0 (MQ below (Qi D cs B0 α Lv o S) args s 0 0 (AB B0)) (F0 m 0 ls []) := by
  unfold f_X11_pair at hf
  refine lv_bipush (v := 10) hc.x hc.b dX11_pair_0 (by decide) ?_
  refine lv_iload_n hc.x hc.b dX11_pair_2 rfl (lv_at hl 0 rfl) ?_
  refine lv_imul hc.x hc.b dX11_pair_3 ?_
  refine lv_iload_n hc.x hc.b dX11_pair_4 rfl (lv_at hl 1 rfl) ?_
  refine lv_iadd hc.x hc.b dX11_pair_5 ?_
  cases hf
  exact r_iret hc hd hr dX11_pair_6
theorem c_X11_pair (l : Launch) (D : va_G) (cs : Nat → ClassId) (B0 : Nat) (kt : (Nat → Nat) × (Nat → Nat)) (α : Nat → Nat → Nat) (Lv : Nat → Nat → Prop) (S : St) (x0 : Int32) (x1 : Int32) (hcl : Cl Lv)  {o : Int32} (hf : f_X11_pair x0 x1 S = some o) : Met l yX11_pair (wz yX11_pair cX11_pair 2 (some .int)) (Rm 0 0 0) (Pz D cs B0 kt α Lv S [.int x0, .int x1]) (Qi D cs B0 α Lv o S) 0 0 (AB B0) := met_of (by decide) rfl hcl (Nat.le_of_ble_eq_true rfl) (fun p e s m below meth c hc hr hd ls hl => b_X11_pair hc hr  hf hd hl)
theorem my_X11_pair : MyS yX11_pair cX11_pair 2 (some .int) 2 := ⟨tw_1038, tw_1, tw_1039, by decide +kernel⟩
def f_X11_sinceIn (x0 : Int32) (x1 : Int32) (S : St) : Option (Int32) := bv (fun (v_1 : Int32) => bv (mnI v_1 99) (fun q_3 => some q_3)) (fun J_2 => br (x1 = ((-1))) (J_2 (x0 + 1)) (J_2 (x0 - x1)))
set_option maxRecDepth 100000 in
set_option maxHeartbeats 4000000 in
theorem b_X11_sinceIn (hc : Cx p s m args meth c cX11_sinceIn 3 "PumpCrossing" D cs B0 kt Lv) (hr : meth.sig.returnType = some .int)  {o : Int32}  {S : St} {x0 : Int32} {x1 : Int32}  {H : Heap} {locs : List Loc} {ls : Array Slot} (hf : f_X11_sinceIn x0 x1 S = some o) (hd : Dy s D cs B0 α Lv S H locs) (hl : lv_has ls 3 [(0, .int x0), (1, .int x1)]) : W p l e (Rm 2 0 0) s m args below meth c H locs 0 0 (MQ below (Qi D cs B0 α Lv o S) args s 0 0 (AB B0)) (F0 m 0 ls []) := by
  unfold f_X11_sinceIn at hf
  refine lv_iload_n hc.x hc.b dX11_sinceIn_0 rfl (lv_at hl 1 rfl) ?_
  refine lv_iconst (v := (-1)) hc.x hc.b dX11_sinceIn_1 (by decide) ?_
  refine jn_s (P := fun J_2 => ∀ (v_1 : Int32) (H : Heap) (locs : List Loc) (ls : Array Slot), J_2 v_1 = some o → Dy s D cs B0 α Lv S H locs → lv_has ls 3 [] → W p l e (Rm 2 0 0) s m args below meth c H locs 0 0 (MQ below (Qi D cs B0 α Lv o S) args s 0 0 (AB B0)) (F0 m 14 ls [.int v_1])) hf ?_ (fun J_2 hJ_2 hf => ?_)
  · intro v_1 H locs ls hf hd hl
    refine lv_istore_n (lv' := [(2, .int v_1)]) hc.x hc.b dX11_sinceIn_14 rfl hl (by decide) rfl (fun ls hl => ?_)
    refine lv_iload_n hc.x hc.b dX11_sinceIn_15 rfl (lv_at hl 0 rfl) ?_
    refine lv_bipush (v := 99) hc.x hc.b dX11_sinceIn_16 (by decide) ?_
    refine r_min hc hl.1 tw_768 (Nat.le_of_ble_eq_true rfl) (Nat.le_of_ble_eq_true rfl) (Nat.zero_le _) (Nat.zero_le _) dX11_sinceIn_18 ?_
    refine lv_topi (fun q_3 eq_3 => ?_)
    have hf := bv_n eq_3 hf
    cases hf
    exact r_iret hc hd hr dX11_sinceIn_21
  refine lv_icmp_ne (tgt := 11) hc.x hc.b dX11_sinceIn_2 (by decide) (fun c_4 => ?_) (fun c_4 => ?_)
  · have hf := br_n c_4 hf
    refine lv_iload_n hc.x hc.b dX11_sinceIn_11 rfl (lv_at hl 0 rfl) ?_
    refine lv_iload_n hc.x hc.b dX11_sinceIn_12 rfl (lv_at hl 1 rfl) ?_
    refine lv_isub hc.x hc.b dX11_sinceIn_13 ?_
    exact hJ_2 (x0 - x1) _ _ _ hf hd (lv_sub hl [] rfl)
  · have hf := br_y c_4 hf
    refine lv_iload_n hc.x hc.b dX11_sinceIn_5 rfl (lv_at hl 0 rfl) ?_
    refine lv_iconst (v := 1) hc.x hc.b dX11_sinceIn_6 (by decide) ?_
    refine lv_iadd hc.x hc.b dX11_sinceIn_7 ?_
    refine lv_goto (tgt := 14) hc.x hc.b dX11_sinceIn_8 (by decide) ?_
    exact hJ_2 (x0 + 1) _ _ _ hf hd (lv_sub hl [] rfl)
theorem c_X11_sinceIn (l : Launch) (D : va_G) (cs : Nat → ClassId) (B0 : Nat) (kt : (Nat → Nat) × (Nat → Nat)) (α : Nat → Nat → Nat) (Lv : Nat → Nat → Prop) (S : St) (x0 : Int32) (x1 : Int32) (hcl : Cl Lv)  {o : Int32} (hf : f_X11_sinceIn x0 x1 S = some o) : Met l yX11_sinceIn (wz yX11_sinceIn cX11_sinceIn 3 (some .int)) (Rm 2 0 0) (Pz D cs B0 kt α Lv S [.int x0, .int x1]) (Qi D cs B0 α Lv o S) 0 0 (AB B0) := met_of (by decide) rfl hcl (Nat.le_of_ble_eq_true rfl) (fun p e s m below meth c hc hr hd ls hl => b_X11_sinceIn hc hr  hf hd hl)
theorem my_X11_sinceIn : MyS yX11_sinceIn cX11_sinceIn 3 (some .int) 2 := ⟨tw_774, tw_1, tw_775, by decide +kernel⟩
end
