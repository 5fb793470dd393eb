section
variable {p : Program} {l : Launch} {e : Env} {s : State} {m : MethodId} {args : Array Value} {below : List Frame} {meth : Method} {c : Code} {D : va_G} {cs : Nat → ClassId} {B0 : Nat} {kt : (Nat → Nat) × (Nat → Nat)} {α : Nat → Nat → Nat} {Lv : Nat → Nat → Prop}
def f_X2_addLevel (g0 : Nat) (x1 : Int32) (S : St) : Option (Int32 × St) := br ((gi S 2 g0 14) < 8) (ck (inb (gi S 2 g0 14) 8 = true) (bv (si S 21 g0 (nn (gi S 2 g0 14)) x1) (fun S_3 => bv (gi S_3 2 g0 14) (fun q_4 => bv (si S_3 2 g0 14 (q_4 + 1)) (fun S_5 => some (q_4, S_5)))))) (some ((-1), S))
set_option maxRecDepth 100000 in
set_option maxHeartbeats 4000000 in
theorem b_X2_addLevel (hc : Cx p s m args meth c cX2_addLevel 2 "PumpCrossing$Crossing" D cs B0 kt Lv) (hr : meth.sig.returnType = some .int)  {o : Int32 × St}  {S : St} {g0 : Nat} {x1 : Int32} (hL0 : Lv 2 g0) {H : Heap} {locs : List Loc} {ls : Array Slot} (hf : f_X2_addLevel g0 x1 S = some o) (hd : Dy s D cs B0 α Lv S H locs) (hl : lv_has ls 2 [(0, .ref (α 2 g0)), (1, .int x1)]) : W p l e (Rm 0 0 0) s m args below meth c H locs 0 0 (MQ below (Qi D cs B0 α Lv o.1 o.2) args s 0 0 (AB B0)) (F0 m 0 ls []) := by
  unfold f_X2_addLevel at hf
  refine lv_aload_n hc.x hc.b dX2_addLevel_0 rfl (lv_at hl 0 rfl) ?_
  refine fg_2_14 hc hd hL0 tw_167 dX2_addLevel_1 ?_
  refine lv_bipush (v := 8) hc.x hc.b dX2_addLevel_4 (by decide) ?_
  refine lv_icmp_lt (tgt := 11) hc.x hc.b dX2_addLevel_6 (by decide) (fun c_1 => ?_) (fun c_1 => ?_)
  · have hf := br_y c_1 hf
    refine lv_aload_n hc.x hc.b dX2_addLevel_11 rfl (lv_at hl 0 rfl) ?_
    refine fg_2_13 hc hd hL0 tw_163 dX2_addLevel_12 ?_
    refine lv_aload_n hc.x hc.b dX2_addLevel_15 rfl (lv_at hl 0 rfl) ?_
    refine fg_2_14 hc hd hL0 tw_167 dX2_addLevel_16 ?_
    refine lv_iload_n hc.x hc.b dX2_addLevel_19 rfl (lv_at hl 1 rfl) ?_
    obtain ⟨hi_2, hf⟩ := ck_s hf
    refine r_iast hc hd (cl_2_levels hc.cl hL0) (fun _ => rfl) hi_2 dX2_addLevel_20 (fun H locs hd => ?_)
    obtain ⟨S_3, hd, hf⟩ := nmD hd hf
    refine lv_aload_n hc.x hc.b dX2_addLevel_21 rfl (lv_at hl 0 rfl) ?_
    refine lv_dup hc.x hc.b dX2_addLevel_22 rfl ?_
    refine fg_2_14 hc hd hL0 tw_167 dX2_addLevel_23 ?_
    refine lv_topi (fun q_4 eq_4 => ?_)
    have hf := bv_n eq_4 hf
    refine lv_dup_x1 hc.x hc.b dX2_addLevel_26 rfl rfl ?_
    refine lv_iconst (v := 1) hc.x hc.b dX2_addLevel_27 (by decide) ?_
    refine lv_iadd hc.x hc.b dX2_addLevel_28 ?_
    refine fp_2_14 hc hd hL0 tw_167 dX2_addLevel_29 (fun H locs hd => ?_)
    obtain ⟨S_5, hd, hf⟩ := nmD hd hf
    cases hf
    exact r_iret hc hd hr dX2_addLevel_32
  · have hf := br_n c_1 hf
    refine lv_iconst (v := (-1)) hc.x hc.b dX2_addLevel_9 (by decide) ?_
    cases hf
    exact r_iret hc hd hr dX2_addLevel_10
theorem c_X2_addLevel (l : Launch) (D : va_G) (cs : Nat → ClassId) (B0 : Nat) (kt : (Nat → Nat) × (Nat → Nat)) (α : Nat → Nat → Nat) (Lv : Nat → Nat → Prop) (S : St) (g0 : Nat) (x1 : Int32) (hcl : Cl Lv) (hL0 : Lv 2 g0) {o : Int32 × St} (hf : f_X2_addLevel g0 x1 S = some o) : Met l yX2_addLevel (wz yX2_addLevel cX2_addLevel 2 (some .int)) (Rm 0 0 0) (Pz D cs B0 kt α Lv S [.ref (α 2 g0), .int x1]) (Qi D cs B0 α Lv o.1 o.2) 0 0 (AB B0) := met_of (by decide) rfl hcl (Nat.le_of_ble_eq_true rfl) (fun p e s m below meth c hc hr hd ls hl => b_X2_addLevel hc hr hL0 hf hd hl)
theorem my_X2_addLevel : MyV yX2_addLevel "PumpCrossing$Crossing" cX2_addLevel 2 (some .int) 1 := ⟨tw_960, tw_961, tw_2, tw_962, by decide +kernel⟩
def f_X2_addStation (g0 : Nat) (x1 : Int32) (x2 : Int32) (x3 : Int32) (S : St) : Option (Int32 × St) := br ((gi S 2 g0 0) < 4) (bv (gi S 2 g0 0) (fun q_2 => bv (si S 2 g0 0 (q_2 + 1)) (fun S_3 => ck (inb q_2 4 = true) (bv (si S_3 3 g0 (nn q_2) x1) (fun S_5 => ck (inb q_2 4 = true) (bv (si S_5 4 g0 (nn q_2) x3) (fun S_7 => ck (inb q_2 4 = true) (bv (si S_7 5 g0 (nn q_2) ((-1))) (fun S_9 => ck (inb q_2 4 = true) (bv (si S_9 16 ((2 * g0)) (nn q_2) x2) (fun S_11 => some (q_2, S_11)))))))))))) (some ((-1), S))
set_option maxRecDepth 100000 in
set_option maxHeartbeats 4000000 in
theorem b_X2_addStation (hc : Cx p s m args meth c cX2_addStation 5 "PumpCrossing$Crossing" D cs B0 kt Lv) (hr : meth.sig.returnType = some .int)  {o : Int32 × St}  {S : St} {g0 : Nat} {x1 : Int32} {x2 : Int32} {x3 : Int32} (hL0 : Lv 2 g0) {H : Heap} {locs : List Loc} {ls : Array Slot} (hf : f_X2_addStation g0 x1 x2 x3 S = some o) (hd : Dy s D cs B0 α Lv S H locs) (hl : lv_has ls 5 [(0, .ref (α 2 g0)), (1, .int x1), (2, .int x2), (3, .int x3)]) : W p l e (Rm 0 0 0) s m args below meth c H locs 0 0 (MQ below (Qi D cs B0 α Lv o.1 o.2) args s 0 0 (AB B0)) (F0 m 0 ls []) := by
  unfold f_X2_addStation at hf
  refine lv_aload_n hc.x hc.b dX2_addStation_0 rfl (lv_at hl 0 rfl) ?_
  refine fg_2_0 hc hd hL0 tw_135 dX2_addStation_1 ?_
  refine lv_iconst (v := 4) hc.x hc.b dX2_addStation_4 (by decide) ?_
  refine lv_icmp_lt (tgt := 10) hc.x hc.b dX2_addStation_5 (by decide) (fun c_1 => ?_) (fun c_1 => ?_)
  · have hf := br_y c_1 hf
    refine lv_aload_n hc.x hc.b dX2_addStation_10 rfl (lv_at hl 0 rfl) ?_
    refine lv_dup hc.x hc.b dX2_addStation_11 rfl ?_
    refine fg_2_0 hc hd hL0 tw_135 dX2_addStation_12 ?_
    refine lv_topi (fun q_2 eq_2 => ?_)
    have hf := bv_n eq_2 hf
    refine lv_dup_x1 hc.x hc.b dX2_addStation_15 rfl rfl ?_
    refine lv_iconst (v := 1) hc.x hc.b dX2_addStation_16 (by decide) ?_
    refine lv_iadd hc.x hc.b dX2_addStation_17 ?_
    refine fp_2_0 hc hd hL0 tw_135 dX2_addStation_18 (fun H locs hd => ?_)
    obtain ⟨S_3, hd, hf⟩ := nmD hd hf
    refine lv_istore (lv' := [(4, .int q_2), (0, .ref (α 2 g0)), (1, .int x1), (2, .int x2), (3, .int x3)]) hc.x hc.b dX2_addStation_21 hl (by decide) rfl (fun ls hl => ?_)
    refine lv_aload_n hc.x hc.b dX2_addStation_23 rfl (lv_at hl 1 rfl) ?_
    refine fg_2_1 hc hd hL0 tw_137 dX2_addStation_24 ?_
    refine lv_iload hc.x hc.b dX2_addStation_27 (lv_at hl 0 rfl) ?_
    refine lv_iload_n hc.x hc.b dX2_addStation_29 rfl (lv_at hl 2 rfl) ?_
    obtain ⟨hi_4, hf⟩ := ck_s hf
    refine r_iast hc hd (cl_2_costs hc.cl hL0) (fun _ => rfl) hi_4 dX2_addStation_30 (fun H locs hd => ?_)
    obtain ⟨S_5, hd, hf⟩ := nmD hd hf
    refine lv_aload_n hc.x hc.b dX2_addStation_31 rfl (lv_at hl 1 rfl) ?_
    refine fg_2_2 hc hd hL0 tw_140 dX2_addStation_32 ?_
    refine lv_iload hc.x hc.b dX2_addStation_35 (lv_at hl 0 rfl) ?_
    refine lv_iload_n hc.x hc.b dX2_addStation_37 rfl (lv_at hl 4 rfl) ?_
    obtain ⟨hi_6, hf⟩ := ck_s hf
    refine r_iast hc hd (cl_2_lates hc.cl hL0) (fun _ => rfl) hi_6 dX2_addStation_38 (fun H locs hd => ?_)
    obtain ⟨S_7, hd, hf⟩ := nmD hd hf
    refine lv_aload_n hc.x hc.b dX2_addStation_39 rfl (lv_at hl 1 rfl) ?_
    refine fg_2_3 hc hd hL0 tw_142 dX2_addStation_40 ?_
    refine lv_iload hc.x hc.b dX2_addStation_43 (lv_at hl 0 rfl) ?_
    refine lv_iconst (v := (-1)) hc.x hc.b dX2_addStation_45 (by decide) ?_
    obtain ⟨hi_8, hf⟩ := ck_s hf
    refine r_iast hc hd (cl_2_changedIn hc.cl hL0) (fun _ => rfl) hi_8 dX2_addStation_46 (fun H locs hd => ?_)
    obtain ⟨S_9, hd, hf⟩ := nmD hd hf
    refine lv_aload_n hc.x hc.b dX2_addStation_47 rfl (lv_at hl 1 rfl) ?_
    refine fg_2_10 hc hd hL0 tw_157 dX2_addStation_48 ?_
    refine fg_14_2 hc hd (cl_2_hours hc.cl hL0) tw_79 dX2_addStation_51 ?_
    refine lv_iload hc.x hc.b dX2_addStation_54 (lv_at hl 0 rfl) ?_
    refine lv_iload_n hc.x hc.b dX2_addStation_56 rfl (lv_at hl 3 rfl) ?_
    obtain ⟨hi_10, hf⟩ := ck_s hf
    refine r_iast hc hd (cl_14_ahead hc.cl (cl_2_hours hc.cl hL0)) (fun _ => rfl) hi_10 dX2_addStation_57 (fun H locs hd => ?_)
    obtain ⟨S_11, hd, hf⟩ := nmD hd hf
    refine lv_iload hc.x hc.b dX2_addStation_58 (lv_at hl 0 rfl) ?_
    cases hf
    exact r_iret hc hd hr dX2_addStation_60
  · have hf := br_n c_1 hf
    refine lv_iconst (v := (-1)) hc.x hc.b dX2_addStation_8 (by decide) ?_
    cases hf
    exact r_iret hc hd hr dX2_addStation_9
theorem c_X2_addStation (l : Launch) (D : va_G) (cs : Nat → ClassId) (B0 : Nat) (kt : (Nat → Nat) × (Nat → Nat)) (α : Nat → Nat → Nat) (Lv : Nat → Nat → Prop) (S : St) (g0 : Nat) (x1 : Int32) (x2 : Int32) (x3 : Int32) (hcl : Cl Lv) (hL0 : Lv 2 g0) {o : Int32 × St} (hf : f_X2_addStation g0 x1 x2 x3 S = some o) : Met l yX2_addStation (wz yX2_addStation cX2_addStation 5 (some .int)) (Rm 0 0 0) (Pz D cs B0 kt α Lv S [.ref (α 2 g0), .int x1, .int x2, .int x3]) (Qi D cs B0 α Lv o.1 o.2) 0 0 (AB B0) := met_of (by decide) rfl hcl (Nat.le_of_ble_eq_true rfl) (fun p e s m below meth c hc hr hd ls hl => b_X2_addStation hc hr hL0 hf hd hl)
theorem my_X2_addStation : MyV yX2_addStation "PumpCrossing$Crossing" cX2_addStation 5 (some .int) 3 := ⟨tw_548, tw_549, tw_2, tw_550, by decide +kernel⟩
def f_X2_addTold (g0 : Nat) (g1 : Nat) (S : St) : Option (Int32 × St) := br ((gi S 14 (2 * g0 + 1) 3) < 60) (bv (fun  (S_2 : St) => on (f_X0_add (2 * g0 + 1) g1 S_2) (fun S_5 => some (gi S_5 14 (2 * g0 + 1) 3, S_5))) (fun J_3 => br ((gi S 14 (2 * g0 + 1) 3) = 0) (ck (cpok 0 0 4 4 4 = true) (bv (ai S 16 ((2 * g0 + 1)) (va_cpy (gi S 26 g1) (gi S 16 ((2 * g0 + 1))) (nn 0) (nn 0) (nn 4))) (fun S_8 => J_3 S_8))) (J_3 S))) (some ((-1), S))
set_option maxRecDepth 100000 in
set_option maxHeartbeats 4000000 in
theorem b_X2_addTold (hc : Cx p s m args meth c cX2_addTold 2 "PumpCrossing$Crossing" D cs B0 kt Lv) (hr : meth.sig.returnType = some .int)  {o : Int32 × St}  {S : St} {g0 : Nat} {g1 : Nat} (hL0 : Lv 2 g0) (hL1 : Lv 26 g1) {H : Heap} {locs : List Loc} {ls : Array Slot} (hf : f_X2_addTold g0 g1 S = some o) (hd : Dy s D cs B0 α Lv S H locs) (hl : lv_has ls 2 [(0, .ref (α 2 g0)), (1, .ref (α 26 g1))]) : W p l e (Rm 3 0 0) s m args below meth c H locs 0 0 (MQ below (Qi D cs B0 α Lv o.1 o.2) args s 0 0 (AB B0)) (F0 m 0 ls []) := by
  unfold f_X2_addTold at hf
  refine lv_aload_n hc.x hc.b dX2_addTold_0 rfl (lv_at hl 0 rfl) ?_
  refine fg_2_11 hc hd hL0 tw_159 dX2_addTold_1 ?_
  refine fg_14_3 hc hd (cl_2_told hc.cl hL0) tw_82 dX2_addTold_4 ?_
  refine lv_bipush (v := 60) hc.x hc.b dX2_addTold_7 (by decide) ?_
  refine lv_icmp_lt (tgt := 14) hc.x hc.b dX2_addTold_9 (by decide) (fun c_1 => ?_) (fun c_1 => ?_)
  · have hf := br_y c_1 hf
    refine lv_aload_n hc.x hc.b dX2_addTold_14 rfl (lv_at hl 0 rfl) ?_
    refine fg_2_11 hc hd hL0 tw_159 dX2_addTold_15 ?_
    refine fg_14_3 hc hd (cl_2_told hc.cl hL0) tw_82 dX2_addTold_18 ?_
    refine jn_s (P := fun J_3 => ∀  (S_2 : St) (H : Heap) (locs : List Loc) (ls : Array Slot), J_3 S_2 = some o → Dy s D cs B0 α Lv S_2 H locs → lv_has ls 2 [(0, .ref (α 2 g0)), (1, .ref (α 26 g1))] → W p l e (Rm 3 0 0) s m args below meth c H locs 0 0 (MQ below (Qi D cs B0 α Lv o.1 o.2) args s 0 0 (AB B0)) (F0 m 38 ls [])) hf ?_ (fun J_3 hJ_3 hf => ?_)
    · intro S_2 H locs ls hf hd hl
      refine lv_aload_n hc.x hc.b dX2_addTold_38 rfl (lv_at hl 0 rfl) ?_
      refine fg_2_11 hc hd hL0 tw_159 dX2_addTold_39 ?_
      refine lv_aload_n hc.x hc.b dX2_addTold_42 rfl (lv_at hl 1 rfl) ?_
      obtain ⟨S_5, hq_4, hf⟩ := on_s hf
      refine k_v (k_runV hc hd my_X0_add tw_832 (cl_2_told hc.cl hL0) rfl rfl rfl (c_X0_add l D cs B0 kt α Lv S_2 (2 * g0 + 1) g1 hc.cl (cl_2_told hc.cl hL0) hL1  hq_4) rfl rfl hl.1 (Nat.le_of_ble_eq_true rfl) ⟨Nat.le_of_ble_eq_true rfl, Nat.le_of_ble_eq_true rfl, Nat.zero_le _, Nat.zero_le _⟩ dX2_addTold_43) hd (fun H locs hd => ?_)
      refine lv_aload_n hc.x hc.b dX2_addTold_46 rfl (lv_at hl 0 rfl) ?_
      refine fg_2_11 hc hd hL0 tw_159 dX2_addTold_47 ?_
      refine fg_14_3 hc hd (cl_2_told hc.cl hL0) tw_82 dX2_addTold_50 ?_
      cases hf
      exact r_iret hc hd hr dX2_addTold_53
    refine lv_if_ne (tgt := 38) hc.x hc.b dX2_addTold_21 (by decide) (fun c_6 => ?_) (fun c_6 => ?_)
    · have hf := br_n c_6 hf
      exact hJ_3 S _ _ _ hf hd (lv_sub hl [0, 1] rfl)
    · have hf := br_y c_6 hf
      refine lv_aload_n hc.x hc.b dX2_addTold_24 rfl (lv_at hl 1 rfl) ?_
      refine lv_iconst (v := 0) hc.x hc.b dX2_addTold_25 (by decide) ?_
      refine lv_aload_n hc.x hc.b dX2_addTold_26 rfl (lv_at hl 0 rfl) ?_
      refine fg_2_11 hc hd hL0 tw_159 dX2_addTold_27 ?_
      refine fg_14_2 hc hd (cl_2_told hc.cl hL0) tw_79 dX2_addTold_30 ?_
      refine lv_iconst (v := 0) hc.x hc.b dX2_addTold_33 (by decide) ?_
      refine lv_iconst (v := 4) hc.x hc.b dX2_addTold_34 (by decide) ?_
      obtain ⟨hi_7, hf⟩ := ck_s hf
      refine r_copyi hc hd hl.1 tw_1223 hL1 (cl_14_ahead hc.cl (cl_2_told hc.cl hL0)) rfl (fun _ => rfl) hi_7 (Nat.le_of_ble_eq_true rfl) (Nat.le_of_ble_eq_true rfl) dX2_addTold_35 (fun H locs hd => ?_)
      obtain ⟨S_8, hd, hf⟩ := nmD hd hf
      exact hJ_3 S_8 _ _ _ hf hd (lv_sub hl [0, 1] rfl)
  · have hf := br_n c_1 hf
    refine lv_iconst (v := (-1)) hc.x hc.b dX2_addTold_12 (by decide) ?_
    cases hf
    exact r_iret hc hd hr dX2_addTold_13
theorem c_X2_addTold (l : Launch) (D : va_G) (cs : Nat → ClassId) (B0 : Nat) (kt : (Nat → Nat) × (Nat → Nat)) (α : Nat → Nat → Nat) (Lv : Nat → Nat → Prop) (S : St) (g0 : Nat) (g1 : Nat) (hcl : Cl Lv) (hL0 : Lv 2 g0) (hL1 : Lv 26 g1) {o : Int32 × St} (hf : f_X2_addTold g0 g1 S = some o) : Met l yX2_addTold (wz yX2_addTold cX2_addTold 2 (some .int)) (Rm 3 0 0) (Pz D cs B0 kt α Lv S [.ref (α 2 g0), .ref (α 26 g1)]) (Qi D cs B0 α Lv o.1 o.2) 0 0 (AB B0) := met_of (by decide) rfl hcl (Nat.le_of_ble_eq_true rfl) (fun p e s m below meth c hc hr hd ls hl => b_X2_addTold hc hr hL0 hL1 hf hd hl)
theorem my_X2_addTold : MyV yX2_addTold "PumpCrossing$Crossing" cX2_addTold 2 (some .int) 1 := ⟨tw_1220, tw_1221, tw_2, tw_1222, by decide +kernel⟩
def f_X2_copyFrom_119 (g0 : Nat) (g1 : Nat) (K : St → Option (St)) : Nat → Int32 → St → Option (St)
  | 0, _, _ => none
  | n + 1, x2, S => br (4 ≤ x2) (K S) (ck (inb x2 4 = true) (ck (inb x2 4 = true) (bv (sr S 8 g0 (nn x2) (gr S 8 g1 (nn x2))) (fun S_20 => bv (x2 + 1) (fun x2_21 => f_X2_copyFrom_119 g0 g1 K n x2_21 S_20)))))
def f_X2_copyFrom (g0 : Nat) (g1 : Nat) (S : St) : Option (St) := bv (si S 2 g0 0 (gi S 2 g1 0)) (fun S_1 => bv (sl S_1 2 g0 6 (gl S_1 2 g1 6)) (fun S_2 => bv (sr S_2 2 g0 8 (gr S_2 2 g1 8)) (fun S_3 => bv (si S_3 2 g0 14 (gi S_3 2 g1 14)) (fun S_4 => ck (cpok 0 0 4 4 4 = true) (bv (ai S_4 3 g0 (va_cpy (gi S_4 3 g1) (gi S_4 3 g0) (nn 0) (nn 0) (nn 4))) (fun S_6 => ck (cpok 0 0 4 4 4 = true) (bv (ai S_6 4 g0 (va_cpy (gi S_6 4 g1) (gi S_6 4 g0) (nn 0) (nn 0) (nn 4))) (fun S_8 => ck (cpok 0 0 4 4 4 = true) (bv (ai S_8 5 g0 (va_cpy (gi S_8 5 g1) (gi S_8 5 g0) (nn 0) (nn 0) (nn 4))) (fun S_10 => ck (cpok 0 0 4 4 4 = true) (bv (al S_10 6 g0 (va_cpy (gl S_10 6 g1) (gl S_10 6 g0) (nn 0) (nn 0) (nn 4))) (fun S_12 => ck (cpok 0 0 4 4 4 = true) (bv (al S_12 7 g0 (va_cpy (gl S_12 7 g1) (gl S_12 7 g0) (nn 0) (nn 0) (nn 4))) (fun S_14 => ck (cpok 0 0 8 8 8 = true) (bv (ai S_14 21 g0 (va_cpy (gi S_14 21 g1) (gi S_14 21 g0) (nn 0) (nn 0) (nn 8))) (fun S_16 => f_X2_copyFrom_119 g0 g1 (fun  (S_22 : St) => on (f_X3_copyFrom g0 g1 S_22) (fun S_24 => on (f_X0_copyFrom (2 * g0) (2 * g1) S_24) (fun S_26 => on (f_X0_copyFrom (2 * g0 + 1) (2 * g1 + 1) S_26) (fun S_28 => on (f_X1_copyFrom g0 g1 S_28) (fun S_30 => on (f_X8_copyFrom g0 g1 S_30) (fun S_32 => some S_32)))))) FU 0 S_16))))))))))))))))
set_option maxRecDepth 100000 in
set_option maxHeartbeats 4000000 in
theorem w_X2_copyFrom_119 (hc : Cx p s m args meth c cX2_copyFrom 3 "PumpCrossing$Crossing" D cs B0 kt Lv) (hr : meth.sig.returnType = none) {o : St}  {g0 : Nat} {g1 : Nat} {K : St → Option (St)} (hL0 : Lv 2 g0) (hL1 : Lv 2 g1) (hK : ∀  (S : St) (H : Heap) (locs : List Loc) (ls : Array Slot), K S = some o → Dy s D cs B0 α Lv S H locs → lv_has ls 3 [(0, .ref (α 2 g0)), (1, .ref (α 2 g1))] → W p l e (Rm 4 0 0) s m args below meth c H locs 0 0 (MQ below (Qv D cs B0 α Lv o) args s 0 0 (AB B0)) (F0 m 142 ls [])) : ∀ (n : Nat) (x2 : Int32) (S : St) (H : Heap) (locs : List Loc) (ls : Array Slot), f_X2_copyFrom_119 g0 g1 K n x2 S = some o → Dy s D cs B0 α Lv S H locs → lv_has ls 3 [(0, .ref (α 2 g0)), (1, .ref (α 2 g1)), (2, .int x2)] → W p l e (Rm 4 0 0) s m args below meth c H locs 0 0 (MQ below (Qv D cs B0 α Lv o) args s 0 0 (AB B0)) (F0 m 119 ls []) := by
  intro n
  induction n with
  | zero =>
    intro x2 S H locs ls hf
    rw [f_X2_copyFrom_119] at hf
    cases hf
  | succ n ih =>
    intro x2 S H locs ls hf hd hl
    rw [f_X2_copyFrom_119] at hf
    refine lv_iload_n hc.x hc.b dX2_copyFrom_119 rfl (lv_at hl 2 rfl) ?_
    refine lv_iconst (v := 4) hc.x hc.b dX2_copyFrom_120 (by decide) ?_
    refine lv_icmp_ge (tgt := 142) hc.x hc.b dX2_copyFrom_121 (by decide) (fun c_17 => ?_) (fun c_17 => ?_)
    · have hf := br_y c_17 hf
      exact hK S _ _ _ hf hd (lv_sub hl [0, 1] rfl)
    · have hf := br_n c_17 hf
      refine lv_aload_n hc.x hc.b dX2_copyFrom_124 rfl (lv_at hl 0 rfl) ?_
      refine fg_2_7 hc hd hL0 tw_150 dX2_copyFrom_125 ?_
      refine lv_iload_n hc.x hc.b dX2_copyFrom_128 rfl (lv_at hl 2 rfl) ?_
      refine lv_aload_n hc.x hc.b dX2_copyFrom_129 rfl (lv_at hl 1 rfl) ?_
      refine fg_2_7 hc hd hL1 tw_150 dX2_copyFrom_130 ?_
      refine lv_iload_n hc.x hc.b dX2_copyFrom_133 rfl (lv_at hl 2 rfl) ?_
      obtain ⟨hi_18, hf⟩ := ck_s hf
      refine r_aald hc hd (cl_2_rules hc.cl hL1) (t0 := 5) rfl rfl rfl hi_18 dX2_copyFrom_134 ?_
      obtain ⟨hi_19, hf⟩ := ck_s hf
      refine r_aast (v := gr S 8 g1 (nn x2)) hc hd (cl_2_rules hc.cl hL0) (t0 := 5) (kt' := 32) (ci := 7) (rC := (RX7, TX7, 2)) (Or.inr (Or.inr ⟨rfl, rfl⟩)) (fun _ => rfl) rfl rfl (fun _ => ⟨_, rfl⟩) (fun r h => hd.2.2.2.2.2.2 _ _ r (cl_2_rules hc.cl hL1) h) hi_19 dX2_copyFrom_135 (fun H locs hd => ?_)
      obtain ⟨S_20, hd, hf⟩ := nmD hd hf
      obtain ⟨x2_21, ex2_21⟩ : ∃ z : Int32, z = x2 + 1 := ⟨_, rfl⟩
      have hf := bv_n ex2_21 hf
      refine lv_iinc (v := x2_21) (lv' := [(2, .int x2_21), (0, .ref (α 2 g0)), (1, .ref (α 2 g1))]) hc.x hc.b dX2_copyFrom_136 hl (k := 2) rfl (by rw [ex2_21]; rfl) (by decide) rfl (fun ls hl => ?_)
      refine lv_goto (tgt := 119) hc.x hc.b dX2_copyFrom_139 (by decide) ?_
      exact ih x2_21 S_20 _ _ _ hf hd (lv_sub hl [1, 2, 0] rfl)
set_option maxRecDepth 100000 in
set_option maxHeartbeats 4000000 in
theorem b_X2_copyFrom (hc : Cx p s m args meth c cX2_copyFrom 3 "PumpCrossing$Crossing" D cs B0 kt Lv) (hr : meth.sig.returnType = none)  {o : St}  {S : St} {g0 : Nat} {g1 : Nat} (hL0 : Lv 2 g0) (hL1 : Lv 2 g1) {H : Heap} {locs : List Loc} {ls : Array Slot} (hf : f_X2_copyFrom g0 g1 S = some o) (hd : Dy s D cs B0 α Lv S H locs) (hl : lv_has ls 3 [(0, .ref (α 2 g0)), (1, .ref (α 2 g1))]) : W p l e (Rm 4 0 0) s m args below meth c H locs 0 0 (MQ below (Qv D cs B0 α Lv o) args s 0 0 (AB B0)) (F0 m 0 ls []) := by
  unfold f_X2_copyFrom at hf
  refine lv_aload_n hc.x hc.b dX2_copyFrom_0 rfl (lv_at hl 0 rfl) ?_
  refine lv_aload_n hc.x hc.b dX2_copyFrom_1 rfl (lv_at hl 1 rfl) ?_
  refine fg_2_0 hc hd hL1 tw_135 dX2_copyFrom_2 ?_
  refine fp_2_0 hc hd hL0 tw_135 dX2_copyFrom_5 (fun H locs hd => ?_)
  obtain ⟨S_1, hd, hf⟩ := nmD hd hf
  refine lv_aload_n hc.x hc.b dX2_copyFrom_8 rfl (lv_at hl 0 rfl) ?_
  refine lv_aload_n hc.x hc.b dX2_copyFrom_9 rfl (lv_at hl 1 rfl) ?_
  refine fg_2_6 hc hd hL1 tw_148 dX2_copyFrom_10 ?_
  refine fp_2_6 hc hd hL0 tw_148 dX2_copyFrom_13 (fun H locs hd => ?_)
  obtain ⟨S_2, hd, hf⟩ := nmD hd hf
  refine lv_aload_n hc.x hc.b dX2_copyFrom_16 rfl (lv_at hl 0 rfl) ?_
  refine lv_aload_n hc.x hc.b dX2_copyFrom_17 rfl (lv_at hl 1 rfl) ?_
  refine fg_2_8 hc hd hL1 tw_152 dX2_copyFrom_18 ?_
  refine fp_2_8 hc hd hL0 tw_152 (fun r h => hd.2.2.2.2.2.1 _ _ r hL1 h) dX2_copyFrom_21 (fun H locs hd => ?_)
  obtain ⟨S_3, hd, hf⟩ := nmD hd hf
  refine lv_aload_n hc.x hc.b dX2_copyFrom_24 rfl (lv_at hl 0 rfl) ?_
  refine lv_aload_n hc.x hc.b dX2_copyFrom_25 rfl (lv_at hl 1 rfl) ?_
  refine fg_2_14 hc hd hL1 tw_167 dX2_copyFrom_26 ?_
  refine fp_2_14 hc hd hL0 tw_167 dX2_copyFrom_29 (fun H locs hd => ?_)
  obtain ⟨S_4, hd, hf⟩ := nmD hd hf
  refine lv_aload_n hc.x hc.b dX2_copyFrom_32 rfl (lv_at hl 1 rfl) ?_
  refine fg_2_1 hc hd hL1 tw_137 dX2_copyFrom_33 ?_
  refine lv_iconst (v := 0) hc.x hc.b dX2_copyFrom_36 (by decide) ?_
  refine lv_aload_n hc.x hc.b dX2_copyFrom_37 rfl (lv_at hl 0 rfl) ?_
  refine fg_2_1 hc hd hL0 tw_137 dX2_copyFrom_38 ?_
  refine lv_iconst (v := 0) hc.x hc.b dX2_copyFrom_41 (by decide) ?_
  refine lv_iconst (v := 4) hc.x hc.b dX2_copyFrom_42 (by decide) ?_
  obtain ⟨hi_5, hf⟩ := ck_s hf
  refine r_copyi hc hd hl.1 tw_1223 (cl_2_costs hc.cl hL1) (cl_2_costs hc.cl hL0) rfl (fun _ => rfl) hi_5 (Nat.le_of_ble_eq_true rfl) (Nat.le_of_ble_eq_true rfl) dX2_copyFrom_43 (fun H locs hd => ?_)
  obtain ⟨S_6, hd, hf⟩ := nmD hd hf
  refine lv_aload_n hc.x hc.b dX2_copyFrom_46 rfl (lv_at hl 1 rfl) ?_
  refine fg_2_2 hc hd hL1 tw_140 dX2_copyFrom_47 ?_
  refine lv_iconst (v := 0) hc.x hc.b dX2_copyFrom_50 (by decide) ?_
  refine lv_aload_n hc.x hc.b dX2_copyFrom_51 rfl (lv_at hl 0 rfl) ?_
  refine fg_2_2 hc hd hL0 tw_140 dX2_copyFrom_52 ?_
  refine lv_iconst (v := 0) hc.x hc.b dX2_copyFrom_55 (by decide) ?_
  refine lv_iconst (v := 4) hc.x hc.b dX2_copyFrom_56 (by decide) ?_
  obtain ⟨hi_7, hf⟩ := ck_s hf
  refine r_copyi hc hd hl.1 tw_1223 (cl_2_lates hc.cl hL1) (cl_2_lates hc.cl hL0) rfl (fun _ => rfl) hi_7 (Nat.le_of_ble_eq_true rfl) (Nat.le_of_ble_eq_true rfl) dX2_copyFrom_57 (fun H locs hd => ?_)
  obtain ⟨S_8, hd, hf⟩ := nmD hd hf
  refine lv_aload_n hc.x hc.b dX2_copyFrom_60 rfl (lv_at hl 1 rfl) ?_
  refine fg_2_3 hc hd hL1 tw_142 dX2_copyFrom_61 ?_
  refine lv_iconst (v := 0) hc.x hc.b dX2_copyFrom_64 (by decide) ?_
  refine lv_aload_n hc.x hc.b dX2_copyFrom_65 rfl (lv_at hl 0 rfl) ?_
  refine fg_2_3 hc hd hL0 tw_142 dX2_copyFrom_66 ?_
  refine lv_iconst (v := 0) hc.x hc.b dX2_copyFrom_69 (by decide) ?_
  refine lv_iconst (v := 4) hc.x hc.b dX2_copyFrom_70 (by decide) ?_
  obtain ⟨hi_9, hf⟩ := ck_s hf
  refine r_copyi hc hd hl.1 tw_1223 (cl_2_changedIn hc.cl hL1) (cl_2_changedIn hc.cl hL0) rfl (fun _ => rfl) hi_9 (Nat.le_of_ble_eq_true rfl) (Nat.le_of_ble_eq_true rfl) dX2_copyFrom_71 (fun H locs hd => ?_)
  obtain ⟨S_10, hd, hf⟩ := nmD hd hf
  refine lv_aload_n hc.x hc.b dX2_copyFrom_74 rfl (lv_at hl 1 rfl) ?_
  refine fg_2_4 hc hd hL1 tw_144 dX2_copyFrom_75 ?_
  refine lv_iconst (v := 0) hc.x hc.b dX2_copyFrom_78 (by decide) ?_
  refine lv_aload_n hc.x hc.b dX2_copyFrom_79 rfl (lv_at hl 0 rfl) ?_
  refine fg_2_4 hc hd hL0 tw_144 dX2_copyFrom_80 ?_
  refine lv_iconst (v := 0) hc.x hc.b dX2_copyFrom_83 (by decide) ?_
  refine lv_iconst (v := 4) hc.x hc.b dX2_copyFrom_84 (by decide) ?_
  obtain ⟨hi_11, hf⟩ := ck_s hf
  refine r_copyl hc hd hl.1 tw_1223 (cl_2_profit hc.cl hL1) (cl_2_profit hc.cl hL0) rfl (fun _ => rfl) hi_11 (Nat.le_of_ble_eq_true rfl) (Nat.le_of_ble_eq_true rfl) dX2_copyFrom_85 (fun H locs hd => ?_)
  obtain ⟨S_12, hd, hf⟩ := nmD hd hf
  refine lv_aload_n hc.x hc.b dX2_copyFrom_88 rfl (lv_at hl 1 rfl) ?_
  refine fg_2_5 hc hd hL1 tw_146 dX2_copyFrom_89 ?_
  refine lv_iconst (v := 0) hc.x hc.b dX2_copyFrom_92 (by decide) ?_
  refine lv_aload_n hc.x hc.b dX2_copyFrom_93 rfl (lv_at hl 0 rfl) ?_
  refine fg_2_5 hc hd hL0 tw_146 dX2_copyFrom_94 ?_
  refine lv_iconst (v := 0) hc.x hc.b dX2_copyFrom_97 (by decide) ?_
  refine lv_iconst (v := 4) hc.x hc.b dX2_copyFrom_98 (by decide) ?_
  obtain ⟨hi_13, hf⟩ := ck_s hf
  refine r_copyl hc hd hl.1 tw_1223 (cl_2_sold hc.cl hL1) (cl_2_sold hc.cl hL0) rfl (fun _ => rfl) hi_13 (Nat.le_of_ble_eq_true rfl) (Nat.le_of_ble_eq_true rfl) dX2_copyFrom_99 (fun H locs hd => ?_)
  obtain ⟨S_14, hd, hf⟩ := nmD hd hf
  refine lv_aload_n hc.x hc.b dX2_copyFrom_102 rfl (lv_at hl 1 rfl) ?_
  refine fg_2_13 hc hd hL1 tw_163 dX2_copyFrom_103 ?_
  refine lv_iconst (v := 0) hc.x hc.b dX2_copyFrom_106 (by decide) ?_
  refine lv_aload_n hc.x hc.b dX2_copyFrom_107 rfl (lv_at hl 0 rfl) ?_
  refine fg_2_13 hc hd hL0 tw_163 dX2_copyFrom_108 ?_
  refine lv_iconst (v := 0) hc.x hc.b dX2_copyFrom_111 (by decide) ?_
  refine lv_bipush (v := 8) hc.x hc.b dX2_copyFrom_112 (by decide) ?_
  obtain ⟨hi_15, hf⟩ := ck_s hf
  refine r_copyi hc hd hl.1 tw_1223 (cl_2_levels hc.cl hL1) (cl_2_levels hc.cl hL0) rfl (fun _ => rfl) hi_15 (Nat.le_of_ble_eq_true rfl) (Nat.le_of_ble_eq_true rfl) dX2_copyFrom_114 (fun H locs hd => ?_)
  obtain ⟨S_16, hd, hf⟩ := nmD hd hf
  refine lv_iconst (v := 0) hc.x hc.b dX2_copyFrom_117 (by decide) ?_
  refine lv_istore_n (lv' := [(2, .int 0), (0, .ref (α 2 g0)), (1, .ref (α 2 g1))]) hc.x hc.b dX2_copyFrom_118 rfl hl (by decide) rfl (fun ls hl => ?_)
  refine w_X2_copyFrom_119 hc hr hL0 hL1 ?_ _ _ _ _ _ _ hf hd (lv_sub hl [1, 2, 0] rfl)
  intro S_22 H locs ls hf hd hl
  refine lv_aload_n hc.x hc.b dX2_copyFrom_142 rfl (lv_at hl 0 rfl) ?_
  refine fg_2_9 hc hd hL0 tw_154 dX2_copyFrom_143 ?_
  refine lv_aload_n hc.x hc.b dX2_copyFrom_146 rfl (lv_at hl 1 rfl) ?_
  refine fg_2_9 hc hd hL1 tw_154 dX2_copyFrom_147 ?_
  obtain ⟨S_24, hq_23, hf⟩ := on_s hf
  refine k_v (k_runV hc hd my_X3_copyFrom tw_1277 (cl_2_drivers hc.cl hL0) rfl rfl rfl (c_X3_copyFrom l D cs B0 kt α Lv S_22 g0 g1 hc.cl (cl_2_drivers hc.cl hL0) (cl_2_drivers hc.cl hL1)  hq_23) rfl rfl hl.1 (Nat.le_of_ble_eq_true rfl) ⟨Nat.le_of_ble_eq_true rfl, Nat.le_of_ble_eq_true rfl, Nat.zero_le _, Nat.zero_le _⟩ dX2_copyFrom_150) hd (fun H locs hd => ?_)
  refine lv_aload_n hc.x hc.b dX2_copyFrom_153 rfl (lv_at hl 0 rfl) ?_
  refine fg_2_10 hc hd hL0 tw_157 dX2_copyFrom_154 ?_
  refine lv_aload_n hc.x hc.b dX2_copyFrom_157 rfl (lv_at hl 1 rfl) ?_
  refine fg_2_10 hc hd hL1 tw_157 dX2_copyFrom_158 ?_
  obtain ⟨S_26, hq_25, hf⟩ := on_s hf
  refine k_v (k_runV hc hd my_X0_copyFrom tw_1282 (cl_2_hours hc.cl hL0) rfl rfl rfl (c_X0_copyFrom l D cs B0 kt α Lv S_24 (2 * g0) (2 * g1) hc.cl (cl_2_hours hc.cl hL0) (cl_2_hours hc.cl hL1)  hq_25) rfl rfl hl.1 (Nat.le_of_ble_eq_true rfl) ⟨Nat.le_of_ble_eq_true rfl, Nat.le_of_ble_eq_true rfl, Nat.zero_le _, Nat.zero_le _⟩ dX2_copyFrom_161) hd (fun H locs hd => ?_)
  refine lv_aload_n hc.x hc.b dX2_copyFrom_164 rfl (lv_at hl 0 rfl) ?_
  refine fg_2_11 hc hd hL0 tw_159 dX2_copyFrom_165 ?_
  refine lv_aload_n hc.x hc.b dX2_copyFrom_168 rfl (lv_at hl 1 rfl) ?_
  refine fg_2_11 hc hd hL1 tw_159 dX2_copyFrom_169 ?_
  obtain ⟨S_28, hq_27, hf⟩ := on_s hf
  refine k_v (k_runV hc hd my_X0_copyFrom tw_1282 (cl_2_told hc.cl hL0) rfl rfl rfl (c_X0_copyFrom l D cs B0 kt α Lv S_26 (2 * g0 + 1) (2 * g1 + 1) hc.cl (cl_2_told hc.cl hL0) (cl_2_told hc.cl hL1)  hq_27) rfl rfl hl.1 (Nat.le_of_ble_eq_true rfl) ⟨Nat.le_of_ble_eq_true rfl, Nat.le_of_ble_eq_true rfl, Nat.zero_le _, Nat.zero_le _⟩ dX2_copyFrom_172) hd (fun H locs hd => ?_)
  refine lv_aload_n hc.x hc.b dX2_copyFrom_175 rfl (lv_at hl 0 rfl) ?_
  refine fg_2_12 hc hd hL0 tw_161 dX2_copyFrom_176 ?_
  refine lv_aload_n hc.x hc.b dX2_copyFrom_179 rfl (lv_at hl 1 rfl) ?_
  refine fg_2_12 hc hd hL1 tw_161 dX2_copyFrom_180 ?_
  obtain ⟨S_30, hq_29, hf⟩ := on_s hf
  refine k_v (k_runV hc hd my_X1_copyFrom tw_1286 (cl_2_changes hc.cl hL0) rfl rfl rfl (c_X1_copyFrom l D cs B0 kt α Lv S_28 g0 g1 hc.cl (cl_2_changes hc.cl hL0) (cl_2_changes hc.cl hL1)  hq_29) rfl rfl hl.1 (Nat.le_of_ble_eq_true rfl) ⟨Nat.le_of_ble_eq_true rfl, Nat.le_of_ble_eq_true rfl, Nat.zero_le _, Nat.zero_le _⟩ dX2_copyFrom_183) hd (fun H locs hd => ?_)
  refine lv_aload_n hc.x hc.b dX2_copyFrom_186 rfl (lv_at hl 0 rfl) ?_
  refine fg_2_15 hc hd hL0 tw_169 dX2_copyFrom_187 ?_
  refine lv_aload_n hc.x hc.b dX2_copyFrom_190 rfl (lv_at hl 1 rfl) ?_
  refine fg_2_15 hc hd hL1 tw_169 dX2_copyFrom_191 ?_
  obtain ⟨S_32, hq_31, hf⟩ := on_s hf
  refine k_v (k_runV hc hd my_X8_copyFrom tw_1290 (cl_2_stories hc.cl hL0) rfl rfl rfl (c_X8_copyFrom l D cs B0 kt α Lv S_30 g0 g1 hc.cl (cl_2_stories hc.cl hL0) (cl_2_stories hc.cl hL1)  hq_31) rfl rfl hl.1 (Nat.le_of_ble_eq_true rfl) ⟨Nat.le_of_ble_eq_true rfl, Nat.le_of_ble_eq_true rfl, Nat.zero_le _, Nat.zero_le _⟩ dX2_copyFrom_194) hd (fun H locs hd => ?_)
  cases hf
  exact r_vret hc hd hr dX2_copyFrom_197
theorem c_X2_copyFrom (l : Launch) (D : va_G) (cs : Nat → ClassId) (B0 : Nat) (kt : (Nat → Nat) × (Nat → Nat)) (α : Nat → Nat → Nat) (Lv : Nat → Nat → Prop) (S : St) (g0 : Nat) (g1 : Nat) (hcl : Cl Lv) (hL0 : Lv 2 g0) (hL1 : Lv 2 g1) {o : St} (hf : f_X2_copyFrom g0 g1 S = some o) : Met l yX2_copyFrom (wz yX2_copyFrom cX2_copyFrom 3 none) (Rm 4 0 0) (Pz D cs B0 kt α Lv S [.ref (α 2 g0), .ref (α 2 g1)]) (Qv D cs B0 α Lv o) 0 0 (AB B0) := met_of (by decide) rfl hcl (Nat.le_of_ble_eq_true rfl) (fun p e s m below meth c hc hr hd ls hl => b_X2_copyFrom hc hr hL0 hL1 hf hd hl)
theorem my_X2_copyFrom : MyV yX2_copyFrom "PumpCrossing$Crossing" cX2_copyFrom 3 none 1 := ⟨tw_1274, tw_1275, tw_2, tw_1276, by decide +kernel⟩
def f_X2_lookAtOthers_16 (g0 : Nat) (g1 : Nat) (x2 : Int32) (x3 : Int32) (K : Int32 → Int32 → Int32 → Int32 → St → Option (St)) : Nat → Int32 → Int32 → Int32 → Int32 → Int32 → St → Option (St)
  | 0, _, _, _, _, _, _ => none
  | n + 1, x4, x5, x6, x7, x8, S => br ((gi S 2 g0 0) ≤ x8) (K x4 x5 x6 x7 S) (bv (fun (x4_2 : Int32) (x5_3 : Int32) (x6_4 : Int32) (x7_5 : Int32) (S_6 : St) => bv (x8 + 1) (fun x8_8 => f_X2_lookAtOthers_16 g0 g1 x2 x3 K n x4_2 x5_3 x6_4 x7_5 x8_8 S_6)) (fun J_7 => br (x8 = x2) (J_7 x4 x5 x6 x7 S) (on (f_X0_at g1 x8 x3 S) (fun r_11 => on (f_X0_at g1 x8 (x3 - 1) S) (fun r_13 => bv (mnI x4 r_11) (fun q_14 => bv (mxI x5 r_11) (fun q_15 => bv (fun (v_16 : Int32) (S_17 : St) => bv (x6 + v_16) (fun x6_19 => bv (fun (v_20 : Int32) (S_21 : St) => bv (x7 + v_20) (fun x7_23 => J_7 q_14 q_15 x6_19 x7_23 S_21)) (fun J_22 => br (r_13 ≤ r_11) (J_22 0 S_17) (J_22 1 S_17)))) (fun J_18 => br (r_11 ≤ r_13) (J_18 0 S) (J_18 1 S)))))))))
def f_X2_lookAtOthers (g0 : Nat) (g1 : Nat) (x2 : Int32) (x3 : Int32) (S : St) : Option (St) := f_X2_lookAtOthers_16 g0 g1 x2 x3 (fun (x4_26 : Int32) (x5_27 : Int32) (x6_28 : Int32) (x7_29 : Int32) (S_30 : St) => bv (fun (v_31 : Int32) (S_32 : St) => bv (fun (v_34 : Int32) (S_35 : St) => ck (inb 1 9 = true) (bv (si S_35 27 g0 (nn 1) v_34) (fun S_38 => bv (fun (v_39 : Int32) (S_40 : St) => ck (inb 2 9 = true) (bv (si S_40 27 g0 (nn 2) v_39) (fun S_43 => ck (inb 7 9 = true) (bv (si S_43 27 g0 (nn 7) x6_28) (fun S_45 => ck (inb 8 9 = true) (bv (si S_45 27 g0 (nn 8) x7_29) (fun S_47 => some S_47))))))) (fun J_41 => br (v_31 = 0) (J_41 x5_27 S_38) (ck (inb 0 9 = true) (J_41 (gi S_38 27 g0 (nn 0)) S_38)))))) (fun J_36 => br (v_31 = 0) (J_36 x4_26 S_32) (ck (inb 0 9 = true) (J_36 (gi S_32 27 g0 (nn 0)) S_32)))) (fun J_33 => br (x5_27 = ((-1))) (J_33 1 S_30) (J_33 0 S_30))) FU 100 ((-1)) 0 0 0 S
set_option maxRecDepth 100000 in
set_option maxHeartbeats 4000000 in
theorem w_X2_lookAtOthers_16 (hc : Cx p s m args meth c cX2_lookAtOthers 11 "PumpCrossing$Crossing" D cs B0 kt Lv) (hr : meth.sig.returnType = none) {o : St}  {g0 : Nat} {g1 : Nat} {x2 : Int32} {x3 : Int32} {K : Int32 → Int32 → Int32 → Int32 → St → Option (St)} (hL0 : Lv 2 g0) (hL1 : Lv 14 g1) (hK : ∀ (k4 : Int32) (k5 : Int32) (k6 : Int32) (k7 : Int32) (S : St) (H : Heap) (locs : List Loc) (ls : Array Slot), K k4 k5 k6 k7 S = some o → Dy s D cs B0 α Lv S H locs → lv_has ls 11 [(0, .ref (α 2 g0)), (4, .int k4), (5, .int k5), (6, .int k6), (7, .int k7)] → W p l e (Rm 2 0 0) s m args below meth c H locs 0 0 (MQ below (Qv D cs B0 α Lv o) args s 0 0 (AB B0)) (F0 m 109 ls [])) : ∀ (n : Nat) (x4 : Int32) (x5 : Int32) (x6 : Int32) (x7 : Int32) (x8 : Int32) (S : St) (H : Heap) (locs : List Loc) (ls : Array Slot), f_X2_lookAtOthers_16 g0 g1 x2 x3 K n x4 x5 x6 x7 x8 S = some o → Dy s D cs B0 α Lv S H locs → lv_has ls 11 [(0, .ref (α 2 g0)), (1, .ref (α 14 g1)), (2, .int x2), (3, .int x3), (4, .int x4), (5, .int x5), (6, .int x6), (7, .int x7), (8, .int x8)] → W p l e (Rm 2 0 0) s m args below meth c H locs 0 0 (MQ below (Qv D cs B0 α Lv o) args s 0 0 (AB B0)) (F0 m 16 ls []) := by
  intro n
  induction n with
  | zero =>
    intro x4 x5 x6 x7 x8 S H locs ls hf
    rw [f_X2_lookAtOthers_16] at hf
    cases hf
  | succ n ih =>
    intro x4 x5 x6 x7 x8 S H locs ls hf hd hl
    rw [f_X2_lookAtOthers_16] at hf
    refine lv_iload hc.x hc.b dX2_lookAtOthers_16 (lv_at hl 8 rfl) ?_
    refine lv_aload_n hc.x hc.b dX2_lookAtOthers_18 rfl (lv_at hl 0 rfl) ?_
    refine fg_2_0 hc hd hL0 tw_135 dX2_lookAtOthers_19 ?_
    refine lv_icmp_ge (tgt := 109) hc.x hc.b dX2_lookAtOthers_22 (by decide) (fun c_1 => ?_) (fun c_1 => ?_)
    · have hf := br_y c_1 hf
      exact hK x4 x5 x6 x7 S _ _ _ hf hd (lv_sub hl [0, 4, 5, 6, 7] rfl)
    · have hf := br_n c_1 hf
      refine lv_iload hc.x hc.b dX2_lookAtOthers_25 (lv_at hl 8 rfl) ?_
      refine lv_iload_n hc.x hc.b dX2_lookAtOthers_27 rfl (lv_at hl 2 rfl) ?_
      refine jn_s (P := fun J_7 => ∀ (x4_2 : Int32) (x5_3 : Int32) (x6_4 : Int32) (x7_5 : Int32) (S_6 : St) (H : Heap) (locs : List Loc) (ls : Array Slot), J_7 x4_2 x5_3 x6_4 x7_5 S_6 = some o → Dy s D cs B0 α Lv S_6 H locs → lv_has ls 11 [(0, .ref (α 2 g0)), (1, .ref (α 14 g1)), (2, .int x2), (3, .int x3), (4, .int x4_2), (5, .int x5_3), (6, .int x6_4), (7, .int x7_5), (8, .int x8)] → W p l e (Rm 2 0 0) s m args below meth c H locs 0 0 (MQ below (Qv D cs B0 α Lv o) args s 0 0 (AB B0)) (F0 m 103 ls [])) hf ?_ (fun J_7 hJ_7 hf => ?_)
      · intro x4_2 x5_3 x6_4 x7_5 S_6 H locs ls hf hd hl
        obtain ⟨x8_8, ex8_8⟩ : ∃ z : Int32, z = x8 + 1 := ⟨_, rfl⟩
        have hf := bv_n ex8_8 hf
        refine lv_iinc (v := x8_8) (lv' := [(8, .int x8_8), (0, .ref (α 2 g0)), (1, .ref (α 14 g1)), (2, .int x2), (3, .int x3), (4, .int x4_2), (5, .int x5_3), (6, .int x6_4), (7, .int x7_5)]) hc.x hc.b dX2_lookAtOthers_103 hl (k := 8) rfl (by rw [ex8_8]; rfl) (by decide) rfl (fun ls hl => ?_)
        refine lv_goto (tgt := 16) hc.x hc.b dX2_lookAtOthers_106 (by decide) ?_
        exact ih x4_2 x5_3 x6_4 x7_5 x8_8 S_6 _ _ _ hf hd (lv_sub hl [1, 2, 3, 4, 5, 6, 7, 8, 0] rfl)
      refine lv_icmp_eq (tgt := 103) hc.x hc.b dX2_lookAtOthers_28 (by decide) (fun c_9 => ?_) (fun c_9 => ?_)
      · have hf := br_y c_9 hf
        exact hJ_7 x4 x5 x6 x7 S _ _ _ hf hd (lv_sub hl [0, 1, 2, 3, 4, 5, 6, 7, 8] rfl)
      · have hf := br_n c_9 hf
        refine lv_aload_n hc.x hc.b dX2_lookAtOthers_31 rfl (lv_at hl 1 rfl) ?_
        refine lv_iload hc.x hc.b dX2_lookAtOthers_32 (lv_at hl 8 rfl) ?_
        refine lv_iload_n hc.x hc.b dX2_lookAtOthers_34 rfl (lv_at hl 3 rfl) ?_
        obtain ⟨r_11, hq_10, hf⟩ := on_s hf
        refine k_i (k_runV hc hd my_X0_at tw_784 hL1 rfl rfl rfl (c_X0_at l D cs B0 kt α Lv S g1 x8 x3 hc.cl hL1  hq_10) rfl rfl hl.1 (Nat.le_of_ble_eq_true rfl) ⟨Nat.le_of_ble_eq_true rfl, Nat.le_of_ble_eq_true rfl, Nat.zero_le _, Nat.zero_le _⟩ dX2_lookAtOthers_35) hd (fun H locs hd => ?_)
        refine lv_istore (lv' := [(9, .int r_11), (0, .ref (α 2 g0)), (1, .ref (α 14 g1)), (2, .int x2), (3, .int x3), (4, .int x4), (5, .int x5), (6, .int x6), (7, .int x7), (8, .int x8)]) hc.x hc.b dX2_lookAtOthers_38 hl (by decide) rfl (fun ls hl => ?_)
        refine lv_aload_n hc.x hc.b dX2_lookAtOthers_40 rfl (lv_at hl 2 rfl) ?_
        refine lv_iload hc.x hc.b dX2_lookAtOthers_41 (lv_at hl 9 rfl) ?_
        refine lv_iload_n hc.x hc.b dX2_lookAtOthers_43 rfl (lv_at hl 4 rfl) ?_
        refine lv_iconst (v := 1) hc.x hc.b dX2_lookAtOthers_44 (by decide) ?_
        refine lv_isub hc.x hc.b dX2_lookAtOthers_45 ?_
        obtain ⟨r_13, hq_12, hf⟩ := on_s hf
        refine k_i (k_runV hc hd my_X0_at tw_784 hL1 rfl rfl rfl (c_X0_at l D cs B0 kt α Lv S g1 x8 (x3 - 1) hc.cl hL1  hq_12) rfl rfl hl.1 (Nat.le_of_ble_eq_true rfl) ⟨Nat.le_of_ble_eq_true rfl, Nat.le_of_ble_eq_true rfl, Nat.zero_le _, Nat.zero_le _⟩ dX2_lookAtOthers_46) hd (fun H locs hd => ?_)
        refine lv_istore (lv' := [(10, .int r_13), (9, .int r_11), (0, .ref (α 2 g0)), (1, .ref (α 14 g1)), (2, .int x2), (3, .int x3), (4, .int x4), (5, .int x5), (6, .int x6), (7, .int x7), (8, .int x8)]) hc.x hc.b dX2_lookAtOthers_49 hl (by decide) rfl (fun ls hl => ?_)
        refine lv_iload hc.x hc.b dX2_lookAtOthers_51 (lv_at hl 6 rfl) ?_
        refine lv_iload hc.x hc.b dX2_lookAtOthers_53 (lv_at hl 1 rfl) ?_
        refine r_min hc hl.1 tw_789 (Nat.le_of_ble_eq_true rfl) (Nat.le_of_ble_eq_true rfl) (Nat.zero_le _) (Nat.zero_le _) dX2_lookAtOthers_55 ?_
        refine lv_topi (fun q_14 eq_14 => ?_)
        have hf := bv_n eq_14 hf
        refine lv_istore (lv' := [(4, .int q_14), (10, .int r_13), (9, .int r_11), (0, .ref (α 2 g0)), (1, .ref (α 14 g1)), (2, .int x2), (3, .int x3), (5, .int x5), (6, .int x6), (7, .int x7), (8, .int x8)]) hc.x hc.b dX2_lookAtOthers_58 hl (by decide) rfl (fun ls hl => ?_)
        refine lv_iload hc.x hc.b dX2_lookAtOthers_60 (lv_at hl 7 rfl) ?_
        refine lv_iload hc.x hc.b dX2_lookAtOthers_62 (lv_at hl 2 rfl) ?_
        refine r_max hc hl.1 tw_790 (Nat.le_of_ble_eq_true rfl) (Nat.le_of_ble_eq_true rfl) (Nat.zero_le _) (Nat.zero_le _) dX2_lookAtOthers_64 ?_
        refine lv_topi (fun q_15 eq_15 => ?_)
        have hf := bv_n eq_15 hf
        refine lv_istore (lv' := [(5, .int q_15), (4, .int q_14), (10, .int r_13), (9, .int r_11), (0, .ref (α 2 g0)), (1, .ref (α 14 g1)), (2, .int x2), (3, .int x3), (6, .int x6), (7, .int x7), (8, .int x8)]) hc.x hc.b dX2_lookAtOthers_67 hl (by decide) rfl (fun ls hl => ?_)
        refine lv_iload hc.x hc.b dX2_lookAtOthers_69 (lv_at hl 8 rfl) ?_
        refine lv_iload hc.x hc.b dX2_lookAtOthers_71 (lv_at hl 3 rfl) ?_
        refine lv_iload hc.x hc.b dX2_lookAtOthers_73 (lv_at hl 2 rfl) ?_
        refine jn_s (P := fun J_18 => ∀ (v_16 : Int32) (S_17 : St) (H : Heap) (locs : List Loc) (ls : Array Slot), J_18 v_16 S_17 = some o → Dy s D cs B0 α Lv S_17 H locs → lv_has ls 11 [(0, .ref (α 2 g0)), (1, .ref (α 14 g1)), (2, .int x2), (3, .int x3), (4, .int q_14), (5, .int q_15), (7, .int x7), (8, .int x8), (9, .int r_11), (10, .int r_13)] → W p l e (Rm 2 0 0) s m args below meth c H locs 0 0 (MQ below (Qv D cs B0 α Lv o) args s 0 0 (AB B0)) (F0 m 83 ls [.int v_16, .int x6])) hf ?_ (fun J_18 hJ_18 hf => ?_)
        · intro v_16 S_17 H locs ls hf hd hl
          refine lv_iadd hc.x hc.b dX2_lookAtOthers_83 ?_
          refine lv_topi (fun x6_19 ex6_19 => ?_)
          have hf := bv_n ex6_19 hf
          refine lv_istore (lv' := [(6, .int x6_19), (0, .ref (α 2 g0)), (1, .ref (α 14 g1)), (2, .int x2), (3, .int x3), (4, .int q_14), (5, .int q_15), (7, .int x7), (8, .int x8), (9, .int r_11), (10, .int r_13)]) hc.x hc.b dX2_lookAtOthers_84 hl (by decide) rfl (fun ls hl => ?_)
          refine lv_iload hc.x hc.b dX2_lookAtOthers_86 (lv_at hl 7 rfl) ?_
          refine lv_iload hc.x hc.b dX2_lookAtOthers_88 (lv_at hl 9 rfl) ?_
          refine lv_iload hc.x hc.b dX2_lookAtOthers_90 (lv_at hl 10 rfl) ?_
          refine jn_s (P := fun J_22 => ∀ (v_20 : Int32) (S_21 : St) (H : Heap) (locs : List Loc) (ls : Array Slot), J_22 v_20 S_21 = some o → Dy s D cs B0 α Lv S_21 H locs → lv_has ls 11 [(0, .ref (α 2 g0)), (1, .ref (α 14 g1)), (2, .int x2), (3, .int x3), (4, .int q_14), (5, .int q_15), (6, .int x6_19), (8, .int x8)] → W p l e (Rm 2 0 0) s m args below meth c H locs 0 0 (MQ below (Qv D cs B0 α Lv o) args s 0 0 (AB B0)) (F0 m 100 ls [.int v_20, .int x7])) hf ?_ (fun J_22 hJ_22 hf => ?_)
          · intro v_20 S_21 H locs ls hf hd hl
            refine lv_iadd hc.x hc.b dX2_lookAtOthers_100 ?_
            refine lv_topi (fun x7_23 ex7_23 => ?_)
            have hf := bv_n ex7_23 hf
            refine lv_istore (lv' := [(7, .int x7_23), (0, .ref (α 2 g0)), (1, .ref (α 14 g1)), (2, .int x2), (3, .int x3), (4, .int q_14), (5, .int q_15), (6, .int x6_19), (8, .int x8)]) hc.x hc.b dX2_lookAtOthers_101 hl (by decide) rfl (fun ls hl => ?_)
            exact hJ_7 q_14 q_15 x6_19 x7_23 S_21 _ _ _ hf hd (lv_sub hl [1, 2, 3, 4, 5, 6, 7, 0, 8] rfl)
          refine lv_icmp_ge (tgt := 99) hc.x hc.b dX2_lookAtOthers_92 (by decide) (fun c_24 => ?_) (fun c_24 => ?_)
          · have hf := br_y c_24 hf
            refine lv_iconst (v := 0) hc.x hc.b dX2_lookAtOthers_99 (by decide) ?_
            exact hJ_22 0 S_17 _ _ _ hf hd (lv_sub hl [1, 2, 3, 4, 5, 6, 0, 8] rfl)
          · have hf := br_n c_24 hf
            refine lv_iconst (v := 1) hc.x hc.b dX2_lookAtOthers_95 (by decide) ?_
            refine lv_goto (tgt := 100) hc.x hc.b dX2_lookAtOthers_96 (by decide) ?_
            exact hJ_22 1 S_17 _ _ _ hf hd (lv_sub hl [1, 2, 3, 4, 5, 6, 0, 8] rfl)
        refine lv_icmp_le (tgt := 82) hc.x hc.b dX2_lookAtOthers_75 (by decide) (fun c_25 => ?_) (fun c_25 => ?_)
        · have hf := br_y c_25 hf
          refine lv_iconst (v := 0) hc.x hc.b dX2_lookAtOthers_82 (by decide) ?_
          exact hJ_18 0 S _ _ _ hf hd (lv_sub hl [4, 5, 6, 7, 1, 0, 9, 10, 3, 2] rfl)
        · have hf := br_n c_25 hf
          refine lv_iconst (v := 1) hc.x hc.b dX2_lookAtOthers_78 (by decide) ?_
          refine lv_goto (tgt := 83) hc.x hc.b dX2_lookAtOthers_79 (by decide) ?_
          exact hJ_18 1 S _ _ _ hf hd (lv_sub hl [4, 5, 6, 7, 1, 0, 9, 10, 3, 2] rfl)
set_option maxRecDepth 100000 in
set_option maxHeartbeats 4000000 in
theorem b_X2_lookAtOthers (hc : Cx p s m args meth c cX2_lookAtOthers 11 "PumpCrossing$Crossing" D cs B0 kt Lv) (hr : meth.sig.returnType = none)  {o : St}  {S : St} {g0 : Nat} {g1 : Nat} {x2 : Int32} {x3 : Int32} (hL0 : Lv 2 g0) (hL1 : Lv 14 g1) {H : Heap} {locs : List Loc} {ls : Array Slot} (hf : f_X2_lookAtOthers g0 g1 x2 x3 S = some o) (hd : Dy s D cs B0 α Lv S H locs) (hl : lv_has ls 11 [(0, .ref (α 2 g0)), (1, .ref (α 14 g1)), (2, .int x2), (3, .int x3)]) : W p l e (Rm 2 0 0) s m args below meth c H locs 0 0 (MQ below (Qv D cs B0 α Lv o) args s 0 0 (AB B0)) (F0 m 0 ls []) := by
  unfold f_X2_lookAtOthers at hf
  refine lv_bipush (v := 100) hc.x hc.b dX2_lookAtOthers_0 (by decide) ?_
  refine lv_istore (lv' := [(4, .int 100), (0, .ref (α 2 g0)), (1, .ref (α 14 g1)), (2, .int x2), (3, .int x3)]) hc.x hc.b dX2_lookAtOthers_2 hl (by decide) rfl (fun ls hl => ?_)
  refine lv_iconst (v := (-1)) hc.x hc.b dX2_lookAtOthers_4 (by decide) ?_
  refine lv_istore (lv' := [(5, .int ((-1))), (4, .int 100), (0, .ref (α 2 g0)), (1, .ref (α 14 g1)), (2, .int x2), (3, .int x3)]) hc.x hc.b dX2_lookAtOthers_5 hl (by decide) rfl (fun ls hl => ?_)
  refine lv_iconst (v := 0) hc.x hc.b dX2_lookAtOthers_7 (by decide) ?_
  refine lv_istore (lv' := [(6, .int 0), (5, .int ((-1))), (4, .int 100), (0, .ref (α 2 g0)), (1, .ref (α 14 g1)), (2, .int x2), (3, .int x3)]) hc.x hc.b dX2_lookAtOthers_8 hl (by decide) rfl (fun ls hl => ?_)
  refine lv_iconst (v := 0) hc.x hc.b dX2_lookAtOthers_10 (by decide) ?_
  refine lv_istore (lv' := [(7, .int 0), (6, .int 0), (5, .int ((-1))), (4, .int 100), (0, .ref (α 2 g0)), (1, .ref (α 14 g1)), (2, .int x2), (3, .int x3)]) hc.x hc.b dX2_lookAtOthers_11 hl (by decide) rfl (fun ls hl => ?_)
  refine lv_iconst (v := 0) hc.x hc.b dX2_lookAtOthers_13 (by decide) ?_
  refine lv_istore (lv' := [(8, .int 0), (7, .int 0), (6, .int 0), (5, .int ((-1))), (4, .int 100), (0, .ref (α 2 g0)), (1, .ref (α 14 g1)), (2, .int x2), (3, .int x3)]) hc.x hc.b dX2_lookAtOthers_14 hl (by decide) rfl (fun ls hl => ?_)
  refine w_X2_lookAtOthers_16 hc hr hL0 hL1 ?_ _ _ _ _ _ _ _ _ _ _ hf hd (lv_sub hl [5, 6, 7, 8, 4, 3, 2, 1, 0] rfl)
  intro x4_26 x5_27 x6_28 x7_29 S_30 H locs ls hf hd hl
  refine lv_iload hc.x hc.b dX2_lookAtOthers_109 (lv_at hl 2 rfl) ?_
  refine lv_iconst (v := (-1)) hc.x hc.b dX2_lookAtOthers_111 (by decide) ?_
  refine jn_s (P := fun J_33 => ∀ (v_31 : Int32) (S_32 : St) (H : Heap) (locs : List Loc) (ls : Array Slot), J_33 v_31 S_32 = some o → Dy s D cs B0 α Lv S_32 H locs → lv_has ls 11 [(0, .ref (α 2 g0)), (4, .int x4_26), (5, .int x5_27), (6, .int x6_28), (7, .int x7_29)] → W p l e (Rm 2 0 0) s m args below meth c H locs 0 0 (MQ below (Qv D cs B0 α Lv o) args s 0 0 (AB B0)) (F0 m 120 ls [.int v_31])) hf ?_ (fun J_33 hJ_33 hf => ?_)
  · intro v_31 S_32 H locs ls hf hd hl
    refine lv_istore (lv' := [(8, .int v_31), (0, .ref (α 2 g0)), (4, .int x4_26), (5, .int x5_27), (6, .int x6_28), (7, .int x7_29)]) hc.x hc.b dX2_lookAtOthers_120 hl (by decide) rfl (fun ls hl => ?_)
    refine lv_aload_n hc.x hc.b dX2_lookAtOthers_122 rfl (lv_at hl 1 rfl) ?_
    refine fg_2_17 hc hd hL0 tw_173 dX2_lookAtOthers_123 ?_
    refine lv_iconst (v := 1) hc.x hc.b dX2_lookAtOthers_126 (by decide) ?_
    refine lv_iload hc.x hc.b dX2_lookAtOthers_127 (lv_at hl 0 rfl) ?_
    refine jn_s (P := fun J_36 => ∀ (v_34 : Int32) (S_35 : St) (H : Heap) (locs : List Loc) (ls : Array Slot), J_36 v_34 S_35 = some o → Dy s D cs B0 α Lv S_35 H locs → lv_has ls 11 [(0, .ref (α 2 g0)), (5, .int x5_27), (6, .int x6_28), (7, .int x7_29), (8, .int v_31)] → W p l e (Rm 2 0 0) s m args below meth c H locs 0 0 (MQ below (Qv D cs B0 α Lv o) args s 0 0 (AB B0)) (F0 m 143 ls [.int v_34, .int 1, .ref (α 27 g0)])) hf ?_ (fun J_36 hJ_36 hf => ?_)
    · intro v_34 S_35 H locs ls hf hd hl
      obtain ⟨hi_37, hf⟩ := ck_s hf
      refine r_iast hc hd (cl_2_seen hc.cl hL0) (fun _ => rfl) hi_37 dX2_lookAtOthers_143 (fun H locs hd => ?_)
      obtain ⟨S_38, hd, hf⟩ := nmD hd hf
      refine lv_aload_n hc.x hc.b dX2_lookAtOthers_144 rfl (lv_at hl 0 rfl) ?_
      refine fg_2_17 hc hd hL0 tw_173 dX2_lookAtOthers_145 ?_
      refine lv_iconst (v := 2) hc.x hc.b dX2_lookAtOthers_148 (by decide) ?_
      refine lv_iload hc.x hc.b dX2_lookAtOthers_149 (lv_at hl 4 rfl) ?_
      refine jn_s (P := fun J_41 => ∀ (v_39 : Int32) (S_40 : St) (H : Heap) (locs : List Loc) (ls : Array Slot), J_41 v_39 S_40 = some o → Dy s D cs B0 α Lv S_40 H locs → lv_has ls 11 [(0, .ref (α 2 g0)), (6, .int x6_28), (7, .int x7_29)] → W p l e (Rm 2 0 0) s m args below meth c H locs 0 0 (MQ below (Qv D cs B0 α Lv o) args s 0 0 (AB B0)) (F0 m 165 ls [.int v_39, .int 2, .ref (α 27 g0)])) hf ?_ (fun J_41 hJ_41 hf => ?_)
      · intro v_39 S_40 H locs ls hf hd hl
        obtain ⟨hi_42, hf⟩ := ck_s hf
        refine r_iast hc hd (cl_2_seen hc.cl hL0) (fun _ => rfl) hi_42 dX2_lookAtOthers_165 (fun H locs hd => ?_)
        obtain ⟨S_43, hd, hf⟩ := nmD hd hf
        refine lv_aload_n hc.x hc.b dX2_lookAtOthers_166 rfl (lv_at hl 0 rfl) ?_
        refine fg_2_17 hc hd hL0 tw_173 dX2_lookAtOthers_167 ?_
        refine lv_bipush (v := 7) hc.x hc.b dX2_lookAtOthers_170 (by decide) ?_
        refine lv_iload hc.x hc.b dX2_lookAtOthers_172 (lv_at hl 1 rfl) ?_
        obtain ⟨hi_44, hf⟩ := ck_s hf
        refine r_iast hc hd (cl_2_seen hc.cl hL0) (fun _ => rfl) hi_44 dX2_lookAtOthers_174 (fun H locs hd => ?_)
        obtain ⟨S_45, hd, hf⟩ := nmD hd hf
        refine lv_aload_n hc.x hc.b dX2_lookAtOthers_175 rfl (lv_at hl 0 rfl) ?_
        refine fg_2_17 hc hd hL0 tw_173 dX2_lookAtOthers_176 ?_
        refine lv_bipush (v := 8) hc.x hc.b dX2_lookAtOthers_179 (by decide) ?_
        refine lv_iload hc.x hc.b dX2_lookAtOthers_181 (lv_at hl 2 rfl) ?_
        obtain ⟨hi_46, hf⟩ := ck_s hf
        refine r_iast hc hd (cl_2_seen hc.cl hL0) (fun _ => rfl) hi_46 dX2_lookAtOthers_183 (fun H locs hd => ?_)
        obtain ⟨S_47, hd, hf⟩ := nmD hd hf
        cases hf
        exact r_vret hc hd hr dX2_lookAtOthers_184
      refine lv_if_eq (tgt := 163) hc.x hc.b dX2_lookAtOthers_151 (by decide) (fun c_48 => ?_) (fun c_48 => ?_)
      · have hf := br_y c_48 hf
        refine lv_iload hc.x hc.b dX2_lookAtOthers_163 (lv_at hl 1 rfl) ?_
        exact hJ_41 x5_27 S_38 _ _ _ hf hd (lv_sub hl [0, 2, 3] rfl)
      · have hf := br_n c_48 hf
        refine lv_aload_n hc.x hc.b dX2_lookAtOthers_154 rfl (lv_at hl 0 rfl) ?_
        refine fg_2_17 hc hd hL0 tw_173 dX2_lookAtOthers_155 ?_
        refine lv_iconst (v := 0) hc.x hc.b dX2_lookAtOthers_158 (by decide) ?_
        obtain ⟨hi_49, hf⟩ := ck_s hf
        refine r_iald hc hd (cl_2_seen hc.cl hL0) rfl hi_49 dX2_lookAtOthers_159 ?_
        refine lv_goto (tgt := 165) hc.x hc.b dX2_lookAtOthers_160 (by decide) ?_
        exact hJ_41 (gi S_38 27 g0 (nn 0)) S_38 _ _ _ hf hd (lv_sub hl [0, 2, 3] rfl)
    refine lv_if_eq (tgt := 141) hc.x hc.b dX2_lookAtOthers_129 (by decide) (fun c_50 => ?_) (fun c_50 => ?_)
    · have hf := br_y c_50 hf
      refine lv_iload hc.x hc.b dX2_lookAtOthers_141 (lv_at hl 2 rfl) ?_
      exact hJ_36 x4_26 S_32 _ _ _ hf hd (lv_sub hl [1, 3, 4, 5, 0] rfl)
    · have hf := br_n c_50 hf
      refine lv_aload_n hc.x hc.b dX2_lookAtOthers_132 rfl (lv_at hl 1 rfl) ?_
      refine fg_2_17 hc hd hL0 tw_173 dX2_lookAtOthers_133 ?_
      refine lv_iconst (v := 0) hc.x hc.b dX2_lookAtOthers_136 (by decide) ?_
      obtain ⟨hi_51, hf⟩ := ck_s hf
      refine r_iald hc hd (cl_2_seen hc.cl hL0) rfl hi_51 dX2_lookAtOthers_137 ?_
      refine lv_goto (tgt := 143) hc.x hc.b dX2_lookAtOthers_138 (by decide) ?_
      exact hJ_36 (gi S_32 27 g0 (nn 0)) S_32 _ _ _ hf hd (lv_sub hl [1, 3, 4, 5, 0] rfl)
  refine lv_icmp_ne (tgt := 119) hc.x hc.b dX2_lookAtOthers_112 (by decide) (fun c_52 => ?_) (fun c_52 => ?_)
  · have hf := br_n c_52 hf
    refine lv_iconst (v := 0) hc.x hc.b dX2_lookAtOthers_119 (by decide) ?_
    exact hJ_33 0 S_30 _ _ _ hf hd (lv_sub hl [0, 1, 2, 3, 4] rfl)
  · have hf := br_y c_52 hf
    refine lv_iconst (v := 1) hc.x hc.b dX2_lookAtOthers_115 (by decide) ?_
    refine lv_goto (tgt := 120) hc.x hc.b dX2_lookAtOthers_116 (by decide) ?_
    exact hJ_33 1 S_30 _ _ _ hf hd (lv_sub hl [0, 1, 2, 3, 4] rfl)
theorem c_X2_lookAtOthers (l : Launch) (D : va_G) (cs : Nat → ClassId) (B0 : Nat) (kt : (Nat → Nat) × (Nat → Nat)) (α : Nat → Nat → Nat) (Lv : Nat → Nat → Prop) (S : St) (g0 : Nat) (g1 : Nat) (x2 : Int32) (x3 : Int32) (hcl : Cl Lv) (hL0 : Lv 2 g0) (hL1 : Lv 14 g1) {o : St} (hf : f_X2_lookAtOthers g0 g1 x2 x3 S = some o) : Met l yX2_lookAtOthers (wz yX2_lookAtOthers cX2_lookAtOthers 11 none) (Rm 2 0 0) (Pz D cs B0 kt α Lv S [.ref (α 2 g0), .ref (α 14 g1), .int x2, .int x3]) (Qv D cs B0 α Lv o) 0 0 (AB B0) := met_of (by decide) rfl hcl (Nat.le_of_ble_eq_true rfl) (fun p e s m below meth c hc hr hd ls hl => b_X2_lookAtOthers hc hr hL0 hL1 hf hd hl)
theorem my_X2_lookAtOthers : MyV yX2_lookAtOthers "PumpCrossing$Crossing" cX2_lookAtOthers 11 none 3 := ⟨tw_787, (in_sel 13 (by decide +kernel) (by decide +kernel)), tw_2, tw_788, by decide +kernel⟩
def f_X2_look (g0 : Nat) (g1 : Nat) (x2 : Int32) (x3 : Int32) (x4 : Int32) (S : St) : Option (St) := on (f_X0_at g1 x2 (x3 - 1) S) (fun r_2 => ck (inb 0 9 = true) (bv (si S 27 g0 (nn 0) r_2) (fun S_4 => ck (inb x2 4 = true) (ck (inb 3 9 = true) (bv (si S_4 27 g0 (nn 3) (gi S_4 3 g0 (nn x2))) (fun S_7 => bv (rmI x3 24) (fun q_8 => ck (inb 4 9 = true) (bv (si S_7 27 g0 (nn 4) q_8) (fun S_10 => bv (dvI x3 24) (fun q_11 => bv (rmI q_11 7) (fun q_12 => ck (inb 5 9 = true) (bv (si S_10 27 g0 (nn 5) q_12) (fun S_14 => ck (inb 6 9 = true) (bv (si S_14 27 g0 (nn 6) x4) (fun S_16 => ck (inb x2 4 = true) (on (f_X2_lookAtOthers g0 g1 x2 ((x3 - 1) - (gi S_16 4 g0 (nn x2))) S_16) (fun S_19 => some S_19)))))))))))))))))
set_option maxRecDepth 100000 in
set_option maxHeartbeats 4000000 in
theorem b_X2_look (hc : Cx p s m args meth c cX2_look 5 "PumpCrossing$Crossing" D cs B0 kt Lv) (hr : meth.sig.returnType = none)  {o : St}  {S : St} {g0 : Nat} {g1 : Nat} {x2 : Int32} {x3 : Int32} {x4 : Int32} (hL0 : Lv 2 g0) (hL1 : Lv 14 g1) {H : Heap} {locs : List Loc} {ls : Array Slot} (hf : f_X2_look g0 g1 x2 x3 x4 S = some o) (hd : Dy s D cs B0 α Lv S H locs) (hl : lv_has ls 5 [(0, .ref (α 2 g0)), (1, .ref (α 14 g1)), (2, .int x2), (3, .int x3), (4, .int x4)]) : W p l e (Rm 3 0 0) s m args below meth c H locs 0 0 (MQ below (Qv D cs B0 α Lv o) args s 0 0 (AB B0)) (F0 m 0 ls []) := by
  unfold f_X2_look at hf
  refine lv_aload_n hc.x hc.b dX2_look_0 rfl (lv_at hl 0 rfl) ?_
  refine fg_2_17 hc hd hL0 tw_173 dX2_look_1 ?_
  refine lv_iconst (v := 0) hc.x hc.b dX2_look_4 (by decide) ?_
  refine lv_aload_n hc.x hc.b dX2_look_5 rfl (lv_at hl 1 rfl) ?_
  refine lv_iload_n hc.x hc.b dX2_look_6 rfl (lv_at hl 2 rfl) ?_
  refine lv_iload_n hc.x hc.b dX2_look_7 rfl (lv_at hl 3 rfl) ?_
  refine lv_iconst (v := 1) hc.x hc.b dX2_look_8 (by decide) ?_
  refine lv_isub hc.x hc.b dX2_look_9 ?_
  obtain ⟨r_2, hq_1, hf⟩ := on_s hf
  refine k_i (k_runV hc hd my_X0_at tw_784 hL1 rfl rfl rfl (c_X0_at l D cs B0 kt α Lv S g1 x2 (x3 - 1) hc.cl hL1  hq_1) rfl rfl hl.1 (Nat.le_of_ble_eq_true rfl) ⟨Nat.le_of_ble_eq_true rfl, Nat.le_of_ble_eq_true rfl, Nat.zero_le _, Nat.zero_le _⟩ dX2_look_10) hd (fun H locs hd => ?_)
  obtain ⟨hi_3, hf⟩ := ck_s hf
  refine r_iast hc hd (cl_2_seen hc.cl hL0) (fun _ => rfl) hi_3 dX2_look_13 (fun H locs hd => ?_)
  obtain ⟨S_4, hd, hf⟩ := nmD hd hf
  refine lv_aload_n hc.x hc.b dX2_look_14 rfl (lv_at hl 0 rfl) ?_
  refine fg_2_17 hc hd hL0 tw_173 dX2_look_15 ?_
  refine lv_iconst (v := 3) hc.x hc.b dX2_look_18 (by decide) ?_
  refine lv_aload_n hc.x hc.b dX2_look_19 rfl (lv_at hl 0 rfl) ?_
  refine fg_2_1 hc hd hL0 tw_137 dX2_look_20 ?_
  refine lv_iload_n hc.x hc.b dX2_look_23 rfl (lv_at hl 2 rfl) ?_
  obtain ⟨hi_5, hf⟩ := ck_s hf
  refine r_iald hc hd (cl_2_costs hc.cl hL0) rfl hi_5 dX2_look_24 ?_
  obtain ⟨hi_6, hf⟩ := ck_s hf
  refine r_iast hc hd (cl_2_seen hc.cl hL0) (fun _ => rfl) hi_6 dX2_look_25 (fun H locs hd => ?_)
  obtain ⟨S_7, hd, hf⟩ := nmD hd hf
  refine lv_aload_n hc.x hc.b dX2_look_26 rfl (lv_at hl 0 rfl) ?_
  refine fg_2_17 hc hd hL0 tw_173 dX2_look_27 ?_
  refine lv_iconst (v := 4) hc.x hc.b dX2_look_30 (by decide) ?_
  refine lv_iload_n hc.x hc.b dX2_look_31 rfl (lv_at hl 3 rfl) ?_
  refine lv_bipush (v := 24) hc.x hc.b dX2_look_32 (by decide) ?_
  refine lv_irem hc.x hc.b dX2_look_34 (by decide) ?_
  refine lv_topi (fun q_8 eq_8 => ?_)
  have hf := bv_n eq_8 hf
  obtain ⟨hi_9, hf⟩ := ck_s hf
  refine r_iast hc hd (cl_2_seen hc.cl hL0) (fun _ => rfl) hi_9 dX2_look_35 (fun H locs hd => ?_)
  obtain ⟨S_10, hd, hf⟩ := nmD hd hf
  refine lv_aload_n hc.x hc.b dX2_look_36 rfl (lv_at hl 0 rfl) ?_
  refine fg_2_17 hc hd hL0 tw_173 dX2_look_37 ?_
  refine lv_iconst (v := 5) hc.x hc.b dX2_look_40 (by decide) ?_
  refine lv_iload_n hc.x hc.b dX2_look_41 rfl (lv_at hl 3 rfl) ?_
  refine lv_bipush (v := 24) hc.x hc.b dX2_look_42 (by decide) ?_
  refine lv_idiv hc.x hc.b dX2_look_44 (by decide) ?_
  refine lv_topi (fun q_11 eq_11 => ?_)
  have hf := bv_n eq_11 hf
  refine lv_bipush (v := 7) hc.x hc.b dX2_look_45 (by decide) ?_
  refine lv_irem hc.x hc.b dX2_look_47 (by decide) ?_
  refine lv_topi (fun q_12 eq_12 => ?_)
  have hf := bv_n eq_12 hf
  obtain ⟨hi_13, hf⟩ := ck_s hf
  refine r_iast hc hd (cl_2_seen hc.cl hL0) (fun _ => rfl) hi_13 dX2_look_48 (fun H locs hd => ?_)
  obtain ⟨S_14, hd, hf⟩ := nmD hd hf
  refine lv_aload_n hc.x hc.b dX2_look_49 rfl (lv_at hl 0 rfl) ?_
  refine fg_2_17 hc hd hL0 tw_173 dX2_look_50 ?_
  refine lv_bipush (v := 6) hc.x hc.b dX2_look_53 (by decide) ?_
  refine lv_iload hc.x hc.b dX2_look_55 (lv_at hl 4 rfl) ?_
  obtain ⟨hi_15, hf⟩ := ck_s hf
  refine r_iast hc hd (cl_2_seen hc.cl hL0) (fun _ => rfl) hi_15 dX2_look_57 (fun H locs hd => ?_)
  obtain ⟨S_16, hd, hf⟩ := nmD hd hf
  refine lv_aload_n hc.x hc.b dX2_look_58 rfl (lv_at hl 0 rfl) ?_
  refine lv_aload_n hc.x hc.b dX2_look_59 rfl (lv_at hl 1 rfl) ?_
  refine lv_iload_n hc.x hc.b dX2_look_60 rfl (lv_at hl 2 rfl) ?_
  refine lv_iload_n hc.x hc.b dX2_look_61 rfl (lv_at hl 3 rfl) ?_
  refine lv_iconst (v := 1) hc.x hc.b dX2_look_62 (by decide) ?_
  refine lv_isub hc.x hc.b dX2_look_63 ?_
  refine lv_aload_n hc.x hc.b dX2_look_64 rfl (lv_at hl 0 rfl) ?_
  refine fg_2_2 hc hd hL0 tw_140 dX2_look_65 ?_
  refine lv_iload_n hc.x hc.b dX2_look_68 rfl (lv_at hl 2 rfl) ?_
  obtain ⟨hi_17, hf⟩ := ck_s hf
  refine r_iald hc hd (cl_2_lates hc.cl hL0) rfl hi_17 dX2_look_69 ?_
  refine lv_isub hc.x hc.b dX2_look_70 ?_
  obtain ⟨S_19, hq_18, hf⟩ := on_s hf
  refine k_v (k_runV hc hd my_X2_lookAtOthers tw_785 hL0 rfl rfl rfl (c_X2_lookAtOthers l D cs B0 kt α Lv S_16 g0 g1 x2 ((x3 - 1) - (gi S_16 4 g0 (nn x2))) hc.cl hL0 hL1  hq_18) rfl rfl hl.1 (Nat.le_of_ble_eq_true rfl) ⟨Nat.le_of_ble_eq_true rfl, Nat.le_of_ble_eq_true rfl, Nat.zero_le _, Nat.zero_le _⟩ dX2_look_71) hd (fun H locs hd => ?_)
  cases hf
  exact r_vret hc hd hr dX2_look_74
theorem c_X2_look (l : Launch) (D : va_G) (cs : Nat → ClassId) (B0 : Nat) (kt : (Nat → Nat) × (Nat → Nat)) (α : Nat → Nat → Nat) (Lv : Nat → Nat → Prop) (S : St) (g0 : Nat) (g1 : Nat) (x2 : Int32) (x3 : Int32) (x4 : Int32) (hcl : Cl Lv) (hL0 : Lv 2 g0) (hL1 : Lv 14 g1) {o : St} (hf : f_X2_look g0 g1 x2 x3 x4 S = some o) : Met l yX2_look (wz yX2_look cX2_look 5 none) (Rm 3 0 0) (Pz D cs B0 kt α Lv S [.ref (α 2 g0), .ref (α 14 g1), .int x2, .int x3, .int x4]) (Qv D cs B0 α Lv o) 0 0 (AB B0) := met_of (by decide) rfl hcl (Nat.le_of_ble_eq_true rfl) (fun p e s m below meth c hc hr hd ls hl => b_X2_look hc hr hL0 hL1 hf hd hl)
theorem my_X2_look : MyV yX2_look "PumpCrossing$Crossing" cX2_look 5 none 4 := ⟨tw_782, (in_sel 12 (by decide +kernel) (by decide +kernel)), tw_2, tw_783, by decide +kernel⟩
def f_X2_decide (g0 : Nat) (g1 : Nat) (x2 : Int32) (x3 : Int32) (x4 : Int32) (S : St) : Option (Int32 × St) := on (f_X2_look g0 g1 x2 x3 x4 S) (fun S_2 => ck (inb x2 4 = true) (bv (fun (v_4 : Int32) (S_5 : St) => bv (fun (v_7 : Int32) (S_8 : St) => some (v_7, S_8)) (fun J_9 => oz (gr S_5 2 g0 8) (on (f_X5_bounded v_4 S_5) (fun r_14 => J_9 r_14 S_5)) (fun g_11 => on (f_X5_allowed g_11 v_4 g0 S_5) (fun r_16 => J_9 r_16 S_5)))) (fun J_6 => oz (gr S_2 8 g0 (nn x2)) (ck (inb 0 9 = true) (J_6 (gi S_2 27 g0 (nn 0)) S_2)) (fun g_18 => on (f_X7_wanted g_18 g0 S_2) (fun r_22 => J_6 r_22 S_2)))))
set_option maxRecDepth 100000 in
set_option maxHeartbeats 4000000 in
theorem b_X2_decide (hc : Cx p s m args meth c cX2_decide 7 "PumpCrossing$Crossing" D cs B0 kt Lv) (hr : meth.sig.returnType = some .int)  {o : Int32 × St}  {S : St} {g0 : Nat} {g1 : Nat} {x2 : Int32} {x3 : Int32} {x4 : Int32} (hL0 : Lv 2 g0) (hL1 : Lv 14 g1) {H : Heap} {locs : List Loc} {ls : Array Slot} (hf : f_X2_decide g0 g1 x2 x3 x4 S = some o) (hd : Dy s D cs B0 α Lv S H locs) (hl : lv_has ls 7 [(0, .ref (α 2 g0)), (1, .ref (α 14 g1)), (2, .int x2), (3, .int x3), (4, .int x4)]) : W p l e (Rm 4 0 0) s m args below meth c H locs 0 0 (MQ below (Qi D cs B0 α Lv o.1 o.2) args s 0 0 (AB B0)) (F0 m 0 ls []) := by
  unfold f_X2_decide at hf
  refine lv_aload_n hc.x hc.b dX2_decide_0 rfl (lv_at hl 0 rfl) ?_
  refine lv_aload_n hc.x hc.b dX2_decide_1 rfl (lv_at hl 1 rfl) ?_
  refine lv_iload_n hc.x hc.b dX2_decide_2 rfl (lv_at hl 2 rfl) ?_
  refine lv_iload_n hc.x hc.b dX2_decide_3 rfl (lv_at hl 3 rfl) ?_
  refine lv_iload hc.x hc.b dX2_decide_4 (lv_at hl 4 rfl) ?_
  obtain ⟨S_2, hq_1, hf⟩ := on_s hf
  refine k_v (k_runV hc hd my_X2_look tw_780 hL0 rfl rfl rfl (c_X2_look l D cs B0 kt α Lv S g0 g1 x2 x3 x4 hc.cl hL0 hL1  hq_1) rfl rfl hl.1 (Nat.le_of_ble_eq_true rfl) ⟨Nat.le_of_ble_eq_true rfl, Nat.le_of_ble_eq_true rfl, Nat.zero_le _, Nat.zero_le _⟩ dX2_decide_6) hd (fun H locs hd => ?_)
  refine lv_aload_n hc.x hc.b dX2_decide_9 rfl (lv_at hl 0 rfl) ?_
  refine fg_2_7 hc hd hL0 tw_150 dX2_decide_10 ?_
  refine lv_iload_n hc.x hc.b dX2_decide_13 rfl (lv_at hl 2 rfl) ?_
  obtain ⟨hi_3, hf⟩ := ck_s hf
  refine r_aald hc hd (cl_2_rules hc.cl hL0) (t0 := 5) rfl rfl rfl hi_3 dX2_decide_14 ?_
  refine r_as (lv' := [(5, va_rf (Option.map (α 32) (gr S_2 8 g0 (nn x2)))), (0, .ref (α 2 g0)), (1, .ref (α 14 g1)), (2, .int x2), (3, .int x3), (4, .int x4)]) hc dX2_decide_15 hl (by decide) rfl (fun ls hl => ?_)
  refine r_al hc dX2_decide_17 (lv_at hl 0 rfl) ?_
  refine jn_s (P := fun J_6 => ∀ (v_4 : Int32) (S_5 : St) (H : Heap) (locs : List Loc) (ls : Array Slot), J_6 v_4 S_5 = some o → Dy s D cs B0 α Lv S_5 H locs → lv_has ls 7 [(0, .ref (α 2 g0))] → W p l e (Rm 4 0 0) s m args below meth c H locs 0 0 (MQ below (Qi D cs B0 α Lv o.1 o.2) args s 0 0 (AB B0)) (F0 m 40 ls [.int v_4])) hf ?_ (fun J_6 hJ_6 hf => ?_)
  · intro v_4 S_5 H locs ls hf hd hl
    refine lv_istore (lv' := [(6, .int v_4), (0, .ref (α 2 g0))]) hc.x hc.b dX2_decide_40 hl (by decide) rfl (fun ls hl => ?_)
    refine lv_aload_n hc.x hc.b dX2_decide_42 rfl (lv_at hl 1 rfl) ?_
    refine fg_2_8 hc hd hL0 tw_152 dX2_decide_43 ?_
    refine jn_s (P := fun J_9 => ∀ (v_7 : Int32) (S_8 : St) (H : Heap) (locs : List Loc) (ls : Array Slot), J_9 v_7 S_8 = some o → Dy s D cs B0 α Lv S_8 H locs → lv_has ls 7 [] → W p l e (Rm 4 0 0) s m args below meth c H locs 0 0 (MQ below (Qi D cs B0 α Lv o.1 o.2) args s 0 0 (AB B0)) (F0 m 70 ls [.int v_7])) hf ?_ (fun J_9 hJ_9 hf => ?_)
    · intro v_7 S_8 H locs ls hf hd hl
      cases hf
      exact r_iret hc hd hr dX2_decide_70
    refine r_ifnonnull (tgt := 57) hc dX2_decide_46 (by decide) (fun c_10 => ?_) (fun g_11 c_10 => ?_)
    · have hf := oz_n c_10 hf
      have hl := lv_sub hl [0, 1] rfl
      refine lv_iload hc.x hc.b dX2_decide_49 (lv_at hl 0 rfl) ?_
      obtain ⟨r_14, hq_13, hf⟩ := on_s hf
      refine k_i (k_runS hc hd my_X5_bounded tw_818 (c_X5_bounded l D cs B0 kt α Lv S_5 v_4 hc.cl   hq_13) rfl rfl hl.1 (Nat.le_of_ble_eq_true rfl) ⟨Nat.le_of_ble_eq_true rfl, Nat.le_of_ble_eq_true rfl, Nat.zero_le _, Nat.zero_le _⟩ dX2_decide_51) hd (fun H locs hd => ?_)
      refine lv_goto (tgt := 70) hc.x hc.b dX2_decide_54 (by decide) ?_
      exact hJ_9 r_14 S_5 _ _ _ hf hd (lv_sub hl [] rfl)
    · have hf := oz_s c_10 hf
      have hL_12 := (hd.2.2.2.2.2.1 _ _ _ hL0 c_10)
      refine lv_aload_n hc.x hc.b dX2_decide_57 rfl (lv_at hl 1 rfl) ?_
      refine fg_2_8 hc hd hL0 tw_152 dX2_decide_58 ?_
      rw [c_10]
      show W p l e (Rm 4 0 0) s m args below meth c H locs 0 0 (MQ below (Qi D cs B0 α Lv o.1 o.2) args s 0 0 (AB B0)) (F0 m 61 ls [.ref (α 35 g_11)])
      refine lv_iload hc.x hc.b dX2_decide_61 (lv_at hl 0 rfl) ?_
      refine lv_aload_n hc.x hc.b dX2_decide_63 rfl (lv_at hl 1 rfl) ?_
      refine fg_2_17 hc hd hL0 tw_173 dX2_decide_64 ?_
      obtain ⟨r_16, hq_15, hf⟩ := on_s hf
      refine k_i (k_runV hc hd my_X5_allowed tw_823 hL_12 rfl rfl rfl (c_X5_allowed l D cs B0 kt α Lv S_5 g_11 v_4 g0 hc.cl hL_12 (cl_2_seen hc.cl hL0)  hq_15) rfl rfl hl.1 (Nat.le_of_ble_eq_true rfl) ⟨Nat.le_of_ble_eq_true rfl, Nat.le_of_ble_eq_true rfl, Nat.zero_le _, Nat.zero_le _⟩ dX2_decide_67) hd (fun H locs hd => ?_)
      exact hJ_9 r_16 S_5 _ _ _ hf hd (lv_sub hl [] rfl)
  refine r_ifnonnull (tgt := 31) hc dX2_decide_19 (by decide) (fun c_17 => ?_) (fun g_18 c_17 => ?_)
  · have hf := oz_n c_17 hf
    have hl := lv_sub hl [1, 2, 3, 4, 5] rfl
    refine lv_aload_n hc.x hc.b dX2_decide_22 rfl (lv_at hl 0 rfl) ?_
    refine fg_2_17 hc hd hL0 tw_173 dX2_decide_23 ?_
    refine lv_iconst (v := 0) hc.x hc.b dX2_decide_26 (by decide) ?_
    obtain ⟨hi_20, hf⟩ := ck_s hf
    refine r_iald hc hd (cl_2_seen hc.cl hL0) rfl hi_20 dX2_decide_27 ?_
    refine lv_goto (tgt := 40) hc.x hc.b dX2_decide_28 (by decide) ?_
    exact hJ_6 (gi S_2 27 g0 (nn 0)) S_2 _ _ _ hf hd (lv_sub hl [0] rfl)
  · have hf := oz_s c_17 hf
    have hL_19 := (hd.2.2.2.2.2.2 _ _ _ (cl_2_rules hc.cl hL0) c_17)
    rw [c_17] at hl
    have hl : lv_has ls 7 [(5, .ref (α 32 g_18)), (0, .ref (α 2 g0)), (1, .ref (α 14 g1)), (2, .int x2), (3, .int x3), (4, .int x4)] := hl
    refine lv_aload hc.x hc.b dX2_decide_31 (lv_at hl 0 rfl) ?_
    refine lv_aload_n hc.x hc.b dX2_decide_33 rfl (lv_at hl 1 rfl) ?_
    refine fg_2_17 hc hd hL0 tw_173 dX2_decide_34 ?_
    obtain ⟨r_22, hq_21, hf⟩ := on_s hf
    refine k_i (k_runV hc hd my_X7_wanted tw_793 hL_19 rfl rfl rfl (c_X7_wanted l D cs B0 kt α Lv S_2 g_18 g0 hc.cl hL_19 (cl_2_seen hc.cl hL0)  hq_21) rfl rfl hl.1 (Nat.le_of_ble_eq_true rfl) ⟨Nat.le_of_ble_eq_true rfl, Nat.le_of_ble_eq_true rfl, Nat.zero_le _, Nat.zero_le _⟩ dX2_decide_37) hd (fun H locs hd => ?_)
    exact hJ_6 r_22 S_2 _ _ _ hf hd (lv_sub hl [1] rfl)
theorem c_X2_decide (l : Launch) (D : va_G) (cs : Nat → ClassId) (B0 : Nat) (kt : (Nat → Nat) × (Nat → Nat)) (α : Nat → Nat → Nat) (Lv : Nat → Nat → Prop) (S : St) (g0 : Nat) (g1 : Nat) (x2 : Int32) (x3 : Int32) (x4 : Int32) (hcl : Cl Lv) (hL0 : Lv 2 g0) (hL1 : Lv 14 g1) {o : Int32 × St} (hf : f_X2_decide g0 g1 x2 x3 x4 S = some o) : Met l yX2_decide (wz yX2_decide cX2_decide 7 (some .int)) (Rm 4 0 0) (Pz D cs B0 kt α Lv S [.ref (α 2 g0), .ref (α 14 g1), .int x2, .int x3, .int x4]) (Qi D cs B0 α Lv o.1 o.2) 0 0 (AB B0) := met_of (by decide) rfl hcl (Nat.le_of_ble_eq_true rfl) (fun p e s m below meth c hc hr hd ls hl => b_X2_decide hc hr hL0 hL1 hf hd hl)
theorem my_X2_decide : MyV yX2_decide "PumpCrossing$Crossing" cX2_decide 7 (some .int) 4 := ⟨tw_777, tw_778, tw_2, tw_779, by decide +kernel⟩
def f_X2_firstMisfit_4 (g0 : Nat) (x1 : Int32) (K : St → Option (Int32 × St)) : Nat → Int32 → Int32 → St → Option (Int32 × St)
  | 0, _, _, _ => none
  | n + 1, x2, x3, S => br ((gi S 14 (2 * g0 + 1) 3) ≤ x3) (K S) (on (f_X0_at (2 * g0 + 1) x1 x3 S) (fun r_3 => on (f_X11_sinceIn x3 x2 S) (fun r_5 => on2 (f_X2_decide g0 (2 * g0 + 1) x1 x3 r_5 S) (fun r_8 S_7 => br (r_3 = r_8) (on (f_X0_at (2 * g0 + 1) x1 (x3 - 1) S_7) (fun r_11 => bv (fun (x2_12 : Int32) (S_13 : St) => bv (x3 + 1) (fun x3_15 => f_X2_firstMisfit_4 g0 x1 K n x2_12 x3_15 S_13)) (fun J_14 => br (r_3 = r_11) (J_14 x2 S_7) (J_14 x3 S_7)))) (some (x3, S_7))))))
def f_X2_firstMisfit (g0 : Nat) (x1 : Int32) (S : St) : Option (Int32 × St) := f_X2_firstMisfit_4 g0 x1 (fun  (S_17 : St) => some ((-1), S_17)) FU ((-1)) 1 S
set_option maxRecDepth 100000 in
set_option maxHeartbeats 4000000 in
theorem w_X2_firstMisfit_4 (hc : Cx p s m args meth c cX2_firstMisfit 5 "PumpCrossing$Crossing" D cs B0 kt Lv) (hr : meth.sig.returnType = some .int) {o : Int32 × St}  {g0 : Nat} {x1 : Int32} {K : St → Option (Int32 × St)} (hL0 : Lv 2 g0) (hK : ∀  (S : St) (H : Heap) (locs : List Loc) (ls : Array Slot), K S = some o → Dy s D cs B0 α Lv S H locs → lv_has ls 5 [] → W p l e (Rm 5 0 0) s m args below meth c H locs 0 0 (MQ below (Qi D cs B0 α Lv o.1 o.2) args s 0 0 (AB B0)) (F0 m 72 ls [])) : ∀ (n : Nat) (x2 : Int32) (x3 : Int32) (S : St) (H : Heap) (locs : List Loc) (ls : Array Slot), f_X2_firstMisfit_4 g0 x1 K n x2 x3 S = some o → Dy s D cs B0 α Lv S H locs → lv_has ls 5 [(0, .ref (α 2 g0)), (1, .int x1), (2, .int x2), (3, .int x3)] → W p l e (Rm 5 0 0) s m args below meth c H locs 0 0 (MQ below (Qi D cs B0 α Lv o.1 o.2) args s 0 0 (AB B0)) (F0 m 4 ls []) := by
  intro n
  induction n with
  | zero =>
    intro x2 x3 S H locs ls hf
    rw [f_X2_firstMisfit_4] at hf
    cases hf
  | succ n ih =>
    intro x2 x3 S H locs ls hf hd hl
    rw [f_X2_firstMisfit_4] at hf
    refine lv_iload_n hc.x hc.b dX2_firstMisfit_4 rfl (lv_at hl 3 rfl) ?_
    refine lv_aload_n hc.x hc.b dX2_firstMisfit_5 rfl (lv_at hl 0 rfl) ?_
    refine fg_2_11 hc hd hL0 tw_159 dX2_firstMisfit_6 ?_
    refine fg_14_3 hc hd (cl_2_told hc.cl hL0) tw_82 dX2_firstMisfit_9 ?_
    refine lv_icmp_ge (tgt := 72) hc.x hc.b dX2_firstMisfit_12 (by decide) (fun c_1 => ?_) (fun c_1 => ?_)
    · have hf := br_y c_1 hf
      exact hK S _ _ _ hf hd (lv_sub hl [] rfl)
    · have hf := br_n c_1 hf
      refine lv_aload_n hc.x hc.b dX2_firstMisfit_15 rfl (lv_at hl 0 rfl) ?_
      refine fg_2_11 hc hd hL0 tw_159 dX2_firstMisfit_16 ?_
      refine lv_iload_n hc.x hc.b dX2_firstMisfit_19 rfl (lv_at hl 1 rfl) ?_
      refine lv_iload_n hc.x hc.b dX2_firstMisfit_20 rfl (lv_at hl 3 rfl) ?_
      obtain ⟨r_3, hq_2, hf⟩ := on_s hf
      refine k_i (k_runV hc hd my_X0_at tw_784 (cl_2_told hc.cl hL0) rfl rfl rfl (c_X0_at l D cs B0 kt α Lv S (2 * g0 + 1) x1 x3 hc.cl (cl_2_told hc.cl hL0)  hq_2) rfl rfl hl.1 (Nat.le_of_ble_eq_true rfl) ⟨Nat.le_of_ble_eq_true rfl, Nat.le_of_ble_eq_true rfl, Nat.zero_le _, Nat.zero_le _⟩ dX2_firstMisfit_21) hd (fun H locs hd => ?_)
      refine lv_istore (lv' := [(4, .int r_3), (0, .ref (α 2 g0)), (1, .int x1), (2, .int x2), (3, .int x3)]) hc.x hc.b dX2_firstMisfit_24 hl (by decide) rfl (fun ls hl => ?_)
      refine lv_iload hc.x hc.b dX2_firstMisfit_26 (lv_at hl 0 rfl) ?_
      refine lv_aload_n hc.x hc.b dX2_firstMisfit_28 rfl (lv_at hl 1 rfl) ?_
      refine lv_aload_n hc.x hc.b dX2_firstMisfit_29 rfl (lv_at hl 1 rfl) ?_
      refine fg_2_11 hc hd hL0 tw_159 dX2_firstMisfit_30 ?_
      refine lv_iload_n hc.x hc.b dX2_firstMisfit_33 rfl (lv_at hl 2 rfl) ?_
      refine lv_iload_n hc.x hc.b dX2_firstMisfit_34 rfl (lv_at hl 4 rfl) ?_
      refine lv_iload_n hc.x hc.b dX2_firstMisfit_35 rfl (lv_at hl 4 rfl) ?_
      refine lv_iload_n hc.x hc.b dX2_firstMisfit_36 rfl (lv_at hl 3 rfl) ?_
      obtain ⟨r_5, hq_4, hf⟩ := on_s hf
      refine k_i (k_runSN hc hd my_X11_sinceIn hc.kc.2.2.2.2.2.1 (c_X11_sinceIn l D cs B0 kt α Lv S x3 x2 hc.cl   hq_4) rfl rfl hl.1 (Nat.le_of_ble_eq_true rfl) ⟨Nat.le_of_ble_eq_true rfl, Nat.le_of_ble_eq_true rfl, Nat.zero_le _, Nat.zero_le _⟩ dX2_firstMisfit_37) hd (fun H locs hd => ?_)
      obtain ⟨r_8, S_7, hq_6, hf⟩ := on2_s hf
      refine k_i (k_runV hc hd my_X2_decide tw_776 hL0 rfl rfl rfl (c_X2_decide l D cs B0 kt α Lv S g0 (2 * g0 + 1) x1 x3 r_5 hc.cl hL0 (cl_2_told hc.cl hL0)  hq_6) rfl rfl hl.1 (Nat.le_of_ble_eq_true rfl) ⟨Nat.le_of_ble_eq_true rfl, Nat.le_of_ble_eq_true rfl, Nat.zero_le _, Nat.zero_le _⟩ dX2_firstMisfit_40) hd (fun H locs hd => ?_)
      refine lv_icmp_eq (tgt := 48) hc.x hc.b dX2_firstMisfit_43 (by decide) (fun c_9 => ?_) (fun c_9 => ?_)
      · have hf := br_y c_9 hf
        refine lv_iload hc.x hc.b dX2_firstMisfit_48 (lv_at hl 0 rfl) ?_
        refine lv_aload_n hc.x hc.b dX2_firstMisfit_50 rfl (lv_at hl 1 rfl) ?_
        refine fg_2_11 hc hd hL0 tw_159 dX2_firstMisfit_51 ?_
        refine lv_iload_n hc.x hc.b dX2_firstMisfit_54 rfl (lv_at hl 2 rfl) ?_
        refine lv_iload_n hc.x hc.b dX2_firstMisfit_55 rfl (lv_at hl 4 rfl) ?_
        refine lv_iconst (v := 1) hc.x hc.b dX2_firstMisfit_56 (by decide) ?_
        refine lv_isub hc.x hc.b dX2_firstMisfit_57 ?_
        obtain ⟨r_11, hq_10, hf⟩ := on_s hf
        refine k_i (k_runV hc hd my_X0_at tw_784 (cl_2_told hc.cl hL0) rfl rfl rfl (c_X0_at l D cs B0 kt α Lv S_7 (2 * g0 + 1) x1 (x3 - 1) hc.cl (cl_2_told hc.cl hL0)  hq_10) rfl rfl hl.1 (Nat.le_of_ble_eq_true rfl) ⟨Nat.le_of_ble_eq_true rfl, Nat.le_of_ble_eq_true rfl, Nat.zero_le _, Nat.zero_le _⟩ dX2_firstMisfit_58) hd (fun H locs hd => ?_)
        refine jn_s (P := fun J_14 => ∀ (x2_12 : Int32) (S_13 : St) (H : Heap) (locs : List Loc) (ls : Array Slot), J_14 x2_12 S_13 = some o → Dy s D cs B0 α Lv S_13 H locs → lv_has ls 5 [(0, .ref (α 2 g0)), (1, .int x1), (2, .int x2_12), (3, .int x3)] → W p l e (Rm 5 0 0) s m args below meth c H locs 0 0 (MQ below (Qi D cs B0 α Lv o.1 o.2) args s 0 0 (AB B0)) (F0 m 66 ls [])) hf ?_ (fun J_14 hJ_14 hf => ?_)
        · intro x2_12 S_13 H locs ls hf hd hl
          obtain ⟨x3_15, ex3_15⟩ : ∃ z : Int32, z = x3 + 1 := ⟨_, rfl⟩
          have hf := bv_n ex3_15 hf
          refine lv_iinc (v := x3_15) (lv' := [(3, .int x3_15), (0, .ref (α 2 g0)), (1, .int x1), (2, .int x2_12)]) hc.x hc.b dX2_firstMisfit_66 hl (k := 3) rfl (by rw [ex3_15]; rfl) (by decide) rfl (fun ls hl => ?_)
          refine lv_goto (tgt := 4) hc.x hc.b dX2_firstMisfit_69 (by decide) ?_
          exact ih x2_12 x3_15 S_13 _ _ _ hf hd (lv_sub hl [1, 2, 3, 0] rfl)
        refine lv_icmp_eq (tgt := 66) hc.x hc.b dX2_firstMisfit_61 (by decide) (fun c_16 => ?_) (fun c_16 => ?_)
        · have hf := br_y c_16 hf
          exact hJ_14 x2 S_7 _ _ _ hf hd (lv_sub hl [1, 2, 3, 4] rfl)
        · have hf := br_n c_16 hf
          refine lv_iload_n hc.x hc.b dX2_firstMisfit_64 rfl (lv_at hl 4 rfl) ?_
          refine lv_istore_n (lv' := [(2, .int x3), (4, .int r_3), (0, .ref (α 2 g0)), (1, .int x1), (3, .int x3)]) hc.x hc.b dX2_firstMisfit_65 rfl hl (by decide) rfl (fun ls hl => ?_)
          exact hJ_14 x3 S_7 _ _ _ hf hd (lv_sub hl [2, 3, 0, 4] rfl)
      · have hf := br_n c_9 hf
        refine lv_iload_n hc.x hc.b dX2_firstMisfit_46 rfl (lv_at hl 4 rfl) ?_
        cases hf
        exact r_iret hc hd hr dX2_firstMisfit_47
set_option maxRecDepth 100000 in
set_option maxHeartbeats 4000000 in
theorem b_X2_firstMisfit (hc : Cx p s m args meth c cX2_firstMisfit 5 "PumpCrossing$Crossing" D cs B0 kt Lv) (hr : meth.sig.returnType = some .int)  {o : Int32 × St}  {S : St} {g0 : Nat} {x1 : Int32} (hL0 : Lv 2 g0) {H : Heap} {locs : List Loc} {ls : Array Slot} (hf : f_X2_firstMisfit g0 x1 S = some o) (hd : Dy s D cs B0 α Lv S H locs) (hl : lv_has ls 5 [(0, .ref (α 2 g0)), (1, .int x1)]) : W p l e (Rm 5 0 0) s m args below meth c H locs 0 0 (MQ below (Qi D cs B0 α Lv o.1 o.2) args s 0 0 (AB B0)) (F0 m 0 ls []) := by
  unfold f_X2_firstMisfit at hf
  refine lv_iconst (v := (-1)) hc.x hc.b dX2_firstMisfit_0 (by decide) ?_
  refine lv_istore_n (lv' := [(2, .int ((-1))), (0, .ref (α 2 g0)), (1, .int x1)]) hc.x hc.b dX2_firstMisfit_1 rfl hl (by decide) rfl (fun ls hl => ?_)
  refine lv_iconst (v := 1) hc.x hc.b dX2_firstMisfit_2 (by decide) ?_
  refine lv_istore_n (lv' := [(3, .int 1), (2, .int ((-1))), (0, .ref (α 2 g0)), (1, .int x1)]) hc.x hc.b dX2_firstMisfit_3 rfl hl (by decide) rfl (fun ls hl => ?_)
  refine w_X2_firstMisfit_4 hc hr hL0 ?_ _ _ _ _ _ _ _ hf hd (lv_sub hl [2, 3, 1, 0] rfl)
  intro S_17 H locs ls hf hd hl
  refine lv_iconst (v := (-1)) hc.x hc.b dX2_firstMisfit_72 (by decide) ?_
  cases hf
  exact r_iret hc hd hr dX2_firstMisfit_73
theorem c_X2_firstMisfit (l : Launch) (D : va_G) (cs : Nat → ClassId) (B0 : Nat) (kt : (Nat → Nat) × (Nat → Nat)) (α : Nat → Nat → Nat) (Lv : Nat → Nat → Prop) (S : St) (g0 : Nat) (x1 : Int32) (hcl : Cl Lv) (hL0 : Lv 2 g0) {o : Int32 × St} (hf : f_X2_firstMisfit g0 x1 S = some o) : Met l yX2_firstMisfit (wz yX2_firstMisfit cX2_firstMisfit 5 (some .int)) (Rm 5 0 0) (Pz D cs B0 kt α Lv S [.ref (α 2 g0), .int x1]) (Qi D cs B0 α Lv o.1 o.2) 0 0 (AB B0) := met_of (by decide) rfl hcl (Nat.le_of_ble_eq_true rfl) (fun p e s m below meth c hc hr hd ls hl => b_X2_firstMisfit hc hr hL0 hf hd hl)
theorem my_X2_firstMisfit : MyV yX2_firstMisfit "PumpCrossing$Crossing" cX2_firstMisfit 5 (some .int) 1 := ⟨tw_1232, tw_1233, tw_2, tw_1234, by decide +kernel⟩
def f_X2_known (g0 : Nat) (S : St) : Option (Int32) := bv (fun (v_1 : Int32) => some v_1) (fun J_2 => bv (fun (_u : Unit) => J_2 0) (fun J_3 => oz (gr S 2 g0 8) (J_3 ()) (fun g_5 => br ((gi S 35 g_5 4) = 0) (J_3 ()) (J_2 (((1 : Int32) <<< ((gi S 2 g0 0) &&& 31)) - 1)))))
set_option maxRecDepth 100000 in
set_option maxHeartbeats 4000000 in
theorem b_X2_known (hc : Cx p s m args meth c cX2_known 1 "PumpCrossing$Crossing" D cs B0 kt Lv) (hr : meth.sig.returnType = some .int)  {o : Int32}  {S : St} {g0 : Nat} (hL0 : Lv 2 g0) {H : Heap} {locs : List Loc} {ls : Array Slot} (hf : f_X2_known g0 S = some o) (hd : Dy s D cs B0 α Lv S H locs) (hl : lv_has ls 1 [(0, .ref (α 2 g0))]) : W p l e (Rm 0 0 0) s m args below meth c H locs 0 0 (MQ below (Qi D cs B0 α Lv o S) args s 0 0 (AB B0)) (F0 m 0 ls []) := by
  unfold f_X2_known at hf
  refine lv_aload_n hc.x hc.b dX2_known_0 rfl (lv_at hl 0 rfl) ?_
  refine fg_2_8 hc hd hL0 tw_152 dX2_known_1 ?_
  refine jn_s (P := fun J_2 => ∀ (v_1 : Int32) (H : Heap) (locs : List Loc) (ls : Array Slot), J_2 v_1 = some o → Dy s D cs B0 α Lv S H locs → lv_has ls 1 [] → W p l e (Rm 0 0 0) s m args below meth c H locs 0 0 (MQ below (Qi D cs B0 α Lv o S) args s 0 0 (AB B0)) (F0 m 29 ls [.int v_1])) hf ?_ (fun J_2 hJ_2 hf => ?_)
  · intro v_1 H locs ls hf hd hl
    cases hf
    exact r_iret hc hd hr dX2_known_29
  refine jn_s (P := fun J_3 => ∀ (_u : Unit) (H : Heap) (locs : List Loc) (ls : Array Slot), J_3 _u = some o → Dy s D cs B0 α Lv S H locs → lv_has ls 1 [] → W p l e (Rm 0 0 0) s m args below meth c H locs 0 0 (MQ below (Qi D cs B0 α Lv o S) args s 0 0 (AB B0)) (F0 m 28 ls [])) hf ?_ (fun J_3 hJ_3 hf => ?_)
  · intro _u H locs ls hf hd hl
    refine lv_iconst (v := 0) hc.x hc.b dX2_known_28 (by decide) ?_
    exact hJ_2 0 _ _ _ hf hd (lv_sub hl [] rfl)
  refine r_ifnull (tgt := 28) hc dX2_known_4 (by decide) (fun c_4 => ?_) (fun g_5 c_4 => ?_)
  · have hf := oz_n c_4 hf
    have hl := lv_sub hl [0] rfl
    exact hJ_3 ()  _ _ _ hf hd (lv_sub hl [] rfl)
  · have hf := oz_s c_4 hf
    have hL_6 := (hd.2.2.2.2.2.1 _ _ _ hL0 c_4)
    refine lv_aload_n hc.x hc.b dX2_known_7 rfl (lv_at hl 0 rfl) ?_
    refine fg_2_8 hc hd hL0 tw_152 dX2_known_8 ?_
    rw [c_4]
    show W p l e (Rm 0 0 0) s m args below meth c H locs 0 0 (MQ below (Qi D cs B0 α Lv o S) args s 0 0 (AB B0)) (F0 m 11 ls [.ref (α 35 g_5)])
    refine fg_35_4 hc hd hL_6 tw_749 dX2_known_11 ?_
    refine lv_if_eq (tgt := 28) hc.x hc.b dX2_known_14 (by decide) (fun c_7 => ?_) (fun c_7 => ?_)
    · have hf := br_y c_7 hf
      exact hJ_3 ()  _ _ _ hf hd (lv_sub hl [] rfl)
    · have hf := br_n c_7 hf
      refine lv_iconst (v := 1) hc.x hc.b dX2_known_17 (by decide) ?_
      refine lv_aload_n hc.x hc.b dX2_known_18 rfl (lv_at hl 0 rfl) ?_
      refine fg_2_0 hc hd hL0 tw_135 dX2_known_19 ?_
      refine lv_ishl hc.x hc.b dX2_known_22 ?_
      refine lv_iconst (v := 1) hc.x hc.b dX2_known_23 (by decide) ?_
      refine lv_isub hc.x hc.b dX2_known_24 ?_
      refine lv_goto (tgt := 29) hc.x hc.b dX2_known_25 (by decide) ?_
      exact hJ_2 (((1 : Int32) <<< ((gi S 2 g0 0) &&& 31)) - 1) _ _ _ hf hd (lv_sub hl [] rfl)
theorem c_X2_known (l : Launch) (D : va_G) (cs : Nat → ClassId) (B0 : Nat) (kt : (Nat → Nat) × (Nat → Nat)) (α : Nat → Nat → Nat) (Lv : Nat → Nat → Prop) (S : St) (g0 : Nat) (hcl : Cl Lv) (hL0 : Lv 2 g0) {o : Int32} (hf : f_X2_known g0 S = some o) : Met l yX2_known (wz yX2_known cX2_known 1 (some .int)) (Rm 0 0 0) (Pz D cs B0 kt α Lv S [.ref (α 2 g0)]) (Qi D cs B0 α Lv o S) 0 0 (AB B0) := met_of (by decide) rfl hcl (Nat.le_of_ble_eq_true rfl) (fun p e s m below meth c hc hr hd ls hl => b_X2_known hc hr hL0 hf hd hl)
theorem my_X2_known : MyV yX2_known "PumpCrossing$Crossing" cX2_known 1 (some .int) 0 := ⟨tw_838, tw_839, tw_2, tw_840, by decide +kernel⟩
def f_X2_priceNow (g0 : Nat) (x1 : Int32) (S : St) : Option (Int32) := on (f_X0_at (2 * g0) x1 ((gi S 14 (2 * g0) 3) - 1) S) (fun r_2 => some r_2)
set_option maxRecDepth 100000 in
set_option maxHeartbeats 4000000 in
theorem b_X2_priceNow (hc : Cx p s m args meth c cX2_priceNow 2 "PumpCrossing$Crossing" D cs B0 kt Lv) (hr : meth.sig.returnType = some .int)  {o : Int32}  {S : St} {g0 : Nat} {x1 : Int32} (hL0 : Lv 2 g0) {H : Heap} {locs : List Loc} {ls : Array Slot} (hf : f_X2_priceNow g0 x1 S = some o) (hd : Dy s D cs B0 α Lv S H locs) (hl : lv_has ls 2 [(0, .ref (α 2 g0)), (1, .int x1)]) : W p l e (Rm 1 0 0) s m args below meth c H locs 0 0 (MQ below (Qi D cs B0 α Lv o S) args s 0 0 (AB B0)) (F0 m 0 ls []) := by
  unfold f_X2_priceNow at hf
  refine lv_aload_n hc.x hc.b dX2_priceNow_0 rfl (lv_at hl 0 rfl) ?_
  refine fg_2_10 hc hd hL0 tw_157 dX2_priceNow_1 ?_
  refine lv_iload_n hc.x hc.b dX2_priceNow_4 rfl (lv_at hl 1 rfl) ?_
  refine lv_aload_n hc.x hc.b dX2_priceNow_5 rfl (lv_at hl 0 rfl) ?_
  refine fg_2_10 hc hd hL0 tw_157 dX2_priceNow_6 ?_
  refine fg_14_3 hc hd (cl_2_hours hc.cl hL0) tw_82 dX2_priceNow_9 ?_
  refine lv_iconst (v := 1) hc.x hc.b dX2_priceNow_12 (by decide) ?_
  refine lv_isub hc.x hc.b dX2_priceNow_13 ?_
  obtain ⟨r_2, hq_1, hf⟩ := on_s hf
  refine k_i (k_runV hc hd my_X0_at tw_784 (cl_2_hours hc.cl hL0) rfl rfl rfl (c_X0_at l D cs B0 kt α Lv S (2 * g0) x1 ((gi S 14 (2 * g0) 3) - 1) hc.cl (cl_2_hours hc.cl hL0)  hq_1) rfl rfl hl.1 (Nat.le_of_ble_eq_true rfl) ⟨Nat.le_of_ble_eq_true rfl, Nat.le_of_ble_eq_true rfl, Nat.zero_le _, Nat.zero_le _⟩ dX2_priceNow_14) hd (fun H locs hd => ?_)
  cases hf
  exact r_iret hc hd hr dX2_priceNow_17
theorem c_X2_priceNow (l : Launch) (D : va_G) (cs : Nat → ClassId) (B0 : Nat) (kt : (Nat → Nat) × (Nat → Nat)) (α : Nat → Nat → Nat) (Lv : Nat → Nat → Prop) (S : St) (g0 : Nat) (x1 : Int32) (hcl : Cl Lv) (hL0 : Lv 2 g0) {o : Int32} (hf : f_X2_priceNow g0 x1 S = some o) : Met l yX2_priceNow (wz yX2_priceNow cX2_priceNow 2 (some .int)) (Rm 1 0 0) (Pz D cs B0 kt α Lv S [.ref (α 2 g0), .int x1]) (Qi D cs B0 α Lv o S) 0 0 (AB B0) := met_of (by decide) rfl hcl (Nat.le_of_ble_eq_true rfl) (fun p e s m below meth c hc hr hd ls hl => b_X2_priceNow hc hr hL0 hf hd hl)
theorem my_X2_priceNow : MyV yX2_priceNow "PumpCrossing$Crossing" cX2_priceNow 2 (some .int) 1 := ⟨tw_829, tw_830, tw_2, tw_831, by decide +kernel⟩
def f_X2_sell (g0 : Nat) (x1 : Int32) (x2 : Int32) (S : St) : Option (St) := ck (inb x1 4 = true) (ck (inb x1 4 = true) (ck (inb x1 4 = true) (ck (inb x1 4 = true) (bv (sl S 6 g0 (nn x1) ((gl S 6 g0 (nn x1)) + (Int32.toInt64 (x2 * ((gi S 26 (g0 + 1) (nn x1)) - (gi S 3 g0 (nn x1))))))) (fun S_5 => ck (inb x1 4 = true) (ck (inb x1 4 = true) (bv (sl S_5 7 g0 (nn x1) ((gl S_5 7 g0 (nn x1)) + (Int32.toInt64 x2))) (fun S_8 => ck (inb x1 4 = true) (bv (sl S_8 2 g0 6 ((gl S_8 2 g0 6) + (Int32.toInt64 (x2 * (gi S_8 26 (g0 + 1) (nn x1)))))) (fun S_10 => some S_10))))))))))
set_option maxRecDepth 100000 in
set_option maxHeartbeats 4000000 in
theorem b_X2_sell (hc : Cx p s m args meth c cX2_sell 3 "PumpCrossing$Crossing" D cs B0 kt Lv) (hr : meth.sig.returnType = none)  {o : St}  {S : St} {g0 : Nat} {x1 : Int32} {x2 : Int32} (hL0 : Lv 2 g0) {H : Heap} {locs : List Loc} {ls : Array Slot} (hf : f_X2_sell g0 x1 x2 S = some o) (hd : Dy s D cs B0 α Lv S H locs) (hl : lv_has ls 3 [(0, .ref (α 2 g0)), (1, .int x1), (2, .int x2)]) : W p l e (Rm 0 0 0) s m args below meth c H locs 0 0 (MQ below (Qv D cs B0 α Lv o) args s 0 0 (AB B0)) (F0 m 0 ls []) := by
  unfold f_X2_sell at hf
  refine lv_aload_n hc.x hc.b dX2_sell_0 rfl (lv_at hl 0 rfl) ?_
  refine fg_2_4 hc hd hL0 tw_144 dX2_sell_1 ?_
  refine lv_iload_n hc.x hc.b dX2_sell_4 rfl (lv_at hl 1 rfl) ?_
  refine lv_dup2_11 hc.x hc.b dX2_sell_5 rfl rfl ?_
  obtain ⟨hi_1, hf⟩ := ck_s hf
  refine r_lald hc hd (cl_2_profit hc.cl hL0) rfl hi_1 dX2_sell_6 ?_
  refine lv_iload_n hc.x hc.b dX2_sell_7 rfl (lv_at hl 2 rfl) ?_
  refine lv_aload_n hc.x hc.b dX2_sell_8 rfl (lv_at hl 0 rfl) ?_
  refine fg_2_16 hc hd hL0 tw_171 dX2_sell_9 ?_
  refine lv_iload_n hc.x hc.b dX2_sell_12 rfl (lv_at hl 1 rfl) ?_
  obtain ⟨hi_2, hf⟩ := ck_s hf
  refine r_iald hc hd (cl_2_row hc.cl hL0) rfl hi_2 dX2_sell_13 ?_
  refine lv_aload_n hc.x hc.b dX2_sell_14 rfl (lv_at hl 0 rfl) ?_
  refine fg_2_1 hc hd hL0 tw_137 dX2_sell_15 ?_
  refine lv_iload_n hc.x hc.b dX2_sell_18 rfl (lv_at hl 1 rfl) ?_
  obtain ⟨hi_3, hf⟩ := ck_s hf
  refine r_iald hc hd (cl_2_costs hc.cl hL0) rfl hi_3 dX2_sell_19 ?_
  refine lv_isub hc.x hc.b dX2_sell_20 ?_
  refine lv_imul hc.x hc.b dX2_sell_21 ?_
  refine lv_i2l (v := Int32.toInt64 (x2 * ((gi S 26 (g0 + 1) (nn x1)) - (gi S 3 g0 (nn x1))))) hc.x hc.b dX2_sell_22 rfl ?_
  refine lv_ladd hc.x hc.b dX2_sell_23 ?_
  obtain ⟨hi_4, hf⟩ := ck_s hf
  refine r_last hc hd (cl_2_profit hc.cl hL0) (fun _ => rfl) hi_4 dX2_sell_24 (fun H locs hd => ?_)
  obtain ⟨S_5, hd, hf⟩ := nmD hd hf
  refine lv_aload_n hc.x hc.b dX2_sell_25 rfl (lv_at hl 0 rfl) ?_
  refine fg_2_5 hc hd hL0 tw_146 dX2_sell_26 ?_
  refine lv_iload_n hc.x hc.b dX2_sell_29 rfl (lv_at hl 1 rfl) ?_
  refine lv_dup2_11 hc.x hc.b dX2_sell_30 rfl rfl ?_
  obtain ⟨hi_6, hf⟩ := ck_s hf
  refine r_lald hc hd (cl_2_sold hc.cl hL0) rfl hi_6 dX2_sell_31 ?_
  refine lv_iload_n hc.x hc.b dX2_sell_32 rfl (lv_at hl 2 rfl) ?_
  refine lv_i2l (v := Int32.toInt64 x2) hc.x hc.b dX2_sell_33 rfl ?_
  refine lv_ladd hc.x hc.b dX2_sell_34 ?_
  obtain ⟨hi_7, hf⟩ := ck_s hf
  refine r_last hc hd (cl_2_sold hc.cl hL0) (fun _ => rfl) hi_7 dX2_sell_35 (fun H locs hd => ?_)
  obtain ⟨S_8, hd, hf⟩ := nmD hd hf
  refine lv_aload_n hc.x hc.b dX2_sell_36 rfl (lv_at hl 0 rfl) ?_
  refine lv_dup hc.x hc.b dX2_sell_37 rfl ?_
  refine fg_2_6 hc hd hL0 tw_148 dX2_sell_38 ?_
  refine lv_iload_n hc.x hc.b dX2_sell_41 rfl (lv_at hl 2 rfl) ?_
  refine lv_aload_n hc.x hc.b dX2_sell_42 rfl (lv_at hl 0 rfl) ?_
  refine fg_2_16 hc hd hL0 tw_171 dX2_sell_43 ?_
  refine lv_iload_n hc.x hc.b dX2_sell_46 rfl (lv_at hl 1 rfl) ?_
  obtain ⟨hi_9, hf⟩ := ck_s hf
  refine r_iald hc hd (cl_2_row hc.cl hL0) rfl hi_9 dX2_sell_47 ?_
  refine lv_imul hc.x hc.b dX2_sell_48 ?_
  refine lv_i2l (v := Int32.toInt64 (x2 * (gi S_8 26 (g0 + 1) (nn x1)))) hc.x hc.b dX2_sell_49 rfl ?_
  refine lv_ladd hc.x hc.b dX2_sell_50 ?_
  refine fp_2_6 hc hd hL0 tw_148 dX2_sell_51 (fun H locs hd => ?_)
  obtain ⟨S_10, hd, hf⟩ := nmD hd hf
  cases hf
  exact r_vret hc hd hr dX2_sell_54
theorem c_X2_sell (l : Launch) (D : va_G) (cs : Nat → ClassId) (B0 : Nat) (kt : (Nat → Nat) × (Nat → Nat)) (α : Nat → Nat → Nat) (Lv : Nat → Nat → Prop) (S : St) (g0 : Nat) (x1 : Int32) (x2 : Int32) (hcl : Cl Lv) (hL0 : Lv 2 g0) {o : St} (hf : f_X2_sell g0 x1 x2 S = some o) : Met l yX2_sell (wz yX2_sell cX2_sell 3 none) (Rm 0 0 0) (Pz D cs B0 kt α Lv S [.ref (α 2 g0), .int x1, .int x2]) (Qv D cs B0 α Lv o) 0 0 (AB B0) := met_of (by decide) rfl hcl (Nat.le_of_ble_eq_true rfl) (fun p e s m below meth c hc hr hd ls hl => b_X2_sell hc hr hL0 hf hd hl)
theorem my_X2_sell : MyV yX2_sell "PumpCrossing$Crossing" cX2_sell 3 none 2 := ⟨tw_847, (in_sel 16 (by decide +kernel) (by decide +kernel)), tw_2, tw_848, by decide +kernel⟩
def f_X2_runHour_10 (g0 : Nat) (x1 : Int32) (K : St → Option (St)) : Nat → Int32 → St → Option (St)
  | 0, _, _ => none
  | n + 1, x2, S => br ((gi S 2 g0 0) ≤ x2) (K S) (ck (inb x2 4 = true) (on (f_X11_sinceIn x1 (gi S 5 g0 (nn x2)) S) (fun r_5 => on2 (f_X2_decide g0 (2 * g0) x2 x1 r_5 S) (fun r_8 S_7 => ck (inb x2 4 = true) (bv (si S_7 26 (g0 + 1) (nn x2) r_8) (fun S_10 => bv (x2 + 1) (fun x2_11 => f_X2_runHour_10 g0 x1 K n x2_11 S_10)))))))
def f_X2_runHour_52 (g0 : Nat) (x1 : Int32) (K : St → Option (St)) : Nat → Int32 → St → Option (St)
  | 0, _, _ => none
  | n + 1, x2, S => br ((gi S 2 g0 0) ≤ x2) (K S) (ck (inb x2 4 = true) (on (f_X2_priceNow g0 x2 S) (fun r_16 => bv (fun  (S_17 : St) => bv (x2 + 1) (fun x2_19 => f_X2_runHour_52 g0 x1 K n x2_19 S_17)) (fun J_18 => br ((gi S 26 (g0 + 1) (nn x2)) = r_16) (J_18 S) (ck (inb x2 4 = true) (bv (si S 5 g0 (nn x2) x1) (fun S_22 => J_18 S_22)))))))
def f_X2_runHour_105 (g0 : Nat) (x2 : Int32) (K : St → Option (St)) : Nat → Int32 → St → Option (St)
  | 0, _, _ => none
  | n + 1, x3, S => br ((gi S 9 g0 0) ≤ x3) (K S) (on (f_X3_placeOf g0 x3 (g0 + 1) x2 S) (fun r_30 => ck (inb x3 6 = true) (on (f_X2_sell g0 r_30 (gi S 10 g0 (nn x3)) S) (fun S_33 => bv (x3 + 1) (fun x3_34 => f_X2_runHour_105 g0 x2 K n x3_34 S_33)))))
def f_X2_runHour (g0 : Nat) (S : St) : Option (St) := bv (gi S 14 (2 * g0) 3) (fun x1_1 => f_X2_runHour_10 g0 x1_1 (fun  (S_12 : St) => f_X2_runHour_52 g0 x1_1 (fun  (S_23 : St) => on (f_X0_add (2 * g0) (g0 + 1) S_23) (fun S_25 => on (f_X2_known g0 S_25) (fun r_27 => f_X2_runHour_105 g0 r_27 (fun  (S_35 : St) => some S_35) FU 0 S_25))) FU 0 S_12) FU 0 S)
set_option maxRecDepth 100000 in
set_option maxHeartbeats 4000000 in
theorem w_X2_runHour_10 (hc : Cx p s m args meth c cX2_runHour 4 "PumpCrossing$Crossing" D cs B0 kt Lv) (hr : meth.sig.returnType = none) {o : St}  {g0 : Nat} {x1 : Int32} {K : St → Option (St)} (hL0 : Lv 2 g0) (hK : ∀  (S : St) (H : Heap) (locs : List Loc) (ls : Array Slot), K S = some o → Dy s D cs B0 α Lv S H locs → lv_has ls 4 [(0, .ref (α 2 g0)), (1, .int x1)] → W p l e (Rm 5 0 0) s m args below meth c H locs 0 0 (MQ below (Qv D cs B0 α Lv o) args s 0 0 (AB B0)) (F0 m 50 ls [])) : ∀ (n : Nat) (x2 : Int32) (S : St) (H : Heap) (locs : List Loc) (ls : Array Slot), f_X2_runHour_10 g0 x1 K n x2 S = some o → Dy s D cs B0 α Lv S H locs → lv_has ls 4 [(0, .ref (α 2 g0)), (1, .int x1), (2, .int x2)] → W p l e (Rm 5 0 0) s m args below meth c H locs 0 0 (MQ below (Qv D cs B0 α Lv o) args s 0 0 (AB B0)) (F0 m 10 ls []) := by
  intro n
  induction n with
  | zero =>
    intro x2 S H locs ls hf
    rw [f_X2_runHour_10] at hf
    cases hf
  | succ n ih =>
    intro x2 S H locs ls hf hd hl
    rw [f_X2_runHour_10] at hf
    refine lv_iload_n hc.x hc.b dX2_runHour_10 rfl (lv_at hl 2 rfl) ?_
    refine lv_aload_n hc.x hc.b dX2_runHour_11 rfl (lv_at hl 0 rfl) ?_
    refine fg_2_0 hc hd hL0 tw_135 dX2_runHour_12 ?_
    refine lv_icmp_ge (tgt := 50) hc.x hc.b dX2_runHour_15 (by decide) (fun c_2 => ?_) (fun c_2 => ?_)
    · have hf := br_y c_2 hf
      exact hK S _ _ _ hf hd (lv_sub hl [0, 1] rfl)
    · have hf := br_n c_2 hf
      refine lv_aload_n hc.x hc.b dX2_runHour_18 rfl (lv_at hl 0 rfl) ?_
      refine fg_2_16 hc hd hL0 tw_171 dX2_runHour_19 ?_
      refine lv_iload_n hc.x hc.b dX2_runHour_22 rfl (lv_at hl 2 rfl) ?_
      refine lv_aload_n hc.x hc.b dX2_runHour_23 rfl (lv_at hl 0 rfl) ?_
      refine lv_aload_n hc.x hc.b dX2_runHour_24 rfl (lv_at hl 0 rfl) ?_
      refine fg_2_10 hc hd hL0 tw_157 dX2_runHour_25 ?_
      refine lv_iload_n hc.x hc.b dX2_runHour_28 rfl (lv_at hl 2 rfl) ?_
      refine lv_iload_n hc.x hc.b dX2_runHour_29 rfl (lv_at hl 1 rfl) ?_
      refine lv_iload_n hc.x hc.b dX2_runHour_30 rfl (lv_at hl 1 rfl) ?_
      refine lv_aload_n hc.x hc.b dX2_runHour_31 rfl (lv_at hl 0 rfl) ?_
      refine fg_2_3 hc hd hL0 tw_142 dX2_runHour_32 ?_
      refine lv_iload_n hc.x hc.b dX2_runHour_35 rfl (lv_at hl 2 rfl) ?_
      obtain ⟨hi_3, hf⟩ := ck_s hf
      refine r_iald hc hd (cl_2_changedIn hc.cl hL0) rfl hi_3 dX2_runHour_36 ?_
      obtain ⟨r_5, hq_4, hf⟩ := on_s hf
      refine k_i (k_runSN hc hd my_X11_sinceIn hc.kc.2.2.2.2.2.1 (c_X11_sinceIn l D cs B0 kt α Lv S x1 (gi S 5 g0 (nn x2)) hc.cl   hq_4) rfl rfl hl.1 (Nat.le_of_ble_eq_true rfl) ⟨Nat.le_of_ble_eq_true rfl, Nat.le_of_ble_eq_true rfl, Nat.zero_le _, Nat.zero_le _⟩ dX2_runHour_37) hd (fun H locs hd => ?_)
      obtain ⟨r_8, S_7, hq_6, hf⟩ := on2_s hf
      refine k_i (k_runV hc hd my_X2_decide tw_776 hL0 rfl rfl rfl (c_X2_decide l D cs B0 kt α Lv S g0 (2 * g0) x2 x1 r_5 hc.cl hL0 (cl_2_hours hc.cl hL0)  hq_6) rfl rfl hl.1 (Nat.le_of_ble_eq_true rfl) ⟨Nat.le_of_ble_eq_true rfl, Nat.le_of_ble_eq_true rfl, Nat.zero_le _, Nat.zero_le _⟩ dX2_runHour_40) hd (fun H locs hd => ?_)
      obtain ⟨hi_9, hf⟩ := ck_s hf
      refine r_iast hc hd (cl_2_row hc.cl hL0) (fun _ => rfl) hi_9 dX2_runHour_43 (fun H locs hd => ?_)
      obtain ⟨S_10, hd, hf⟩ := nmD hd hf
      obtain ⟨x2_11, ex2_11⟩ : ∃ z : Int32, z = x2 + 1 := ⟨_, rfl⟩
      have hf := bv_n ex2_11 hf
      refine lv_iinc (v := x2_11) (lv' := [(2, .int x2_11), (0, .ref (α 2 g0)), (1, .int x1)]) hc.x hc.b dX2_runHour_44 hl (k := 2) rfl (by rw [ex2_11]; rfl) (by decide) rfl (fun ls hl => ?_)
      refine lv_goto (tgt := 10) hc.x hc.b dX2_runHour_47 (by decide) ?_
      exact ih x2_11 S_10 _ _ _ hf hd (lv_sub hl [1, 2, 0] rfl)
set_option maxRecDepth 100000 in
set_option maxHeartbeats 4000000 in
theorem w_X2_runHour_52 (hc : Cx p s m args meth c cX2_runHour 4 "PumpCrossing$Crossing" D cs B0 kt Lv) (hr : meth.sig.returnType = none) {o : St}  {g0 : Nat} {x1 : Int32} {K : St → Option (St)} (hL0 : Lv 2 g0) (hK : ∀  (S : St) (H : Heap) (locs : List Loc) (ls : Array Slot), K S = some o → Dy s D cs B0 α Lv S H locs → lv_has ls 4 [(0, .ref (α 2 g0))] → W p l e (Rm 5 0 0) s m args below meth c H locs 0 0 (MQ below (Qv D cs B0 α Lv o) args s 0 0 (AB B0)) (F0 m 87 ls [])) : ∀ (n : Nat) (x2 : Int32) (S : St) (H : Heap) (locs : List Loc) (ls : Array Slot), f_X2_runHour_52 g0 x1 K n x2 S = some o → Dy s D cs B0 α Lv S H locs → lv_has ls 4 [(0, .ref (α 2 g0)), (1, .int x1), (2, .int x2)] → W p l e (Rm 5 0 0) s m args below meth c H locs 0 0 (MQ below (Qv D cs B0 α Lv o) args s 0 0 (AB B0)) (F0 m 52 ls []) := by
  intro n
  induction n with
  | zero =>
    intro x2 S H locs ls hf
    rw [f_X2_runHour_52] at hf
    cases hf
  | succ n ih =>
    intro x2 S H locs ls hf hd hl
    rw [f_X2_runHour_52] at hf
    refine lv_iload_n hc.x hc.b dX2_runHour_52 rfl (lv_at hl 2 rfl) ?_
    refine lv_aload_n hc.x hc.b dX2_runHour_53 rfl (lv_at hl 0 rfl) ?_
    refine fg_2_0 hc hd hL0 tw_135 dX2_runHour_54 ?_
    refine lv_icmp_ge (tgt := 87) hc.x hc.b dX2_runHour_57 (by decide) (fun c_13 => ?_) (fun c_13 => ?_)
    · have hf := br_y c_13 hf
      exact hK S _ _ _ hf hd (lv_sub hl [0] rfl)
    · have hf := br_n c_13 hf
      refine lv_aload_n hc.x hc.b dX2_runHour_60 rfl (lv_at hl 0 rfl) ?_
      refine fg_2_16 hc hd hL0 tw_171 dX2_runHour_61 ?_
      refine lv_iload_n hc.x hc.b dX2_runHour_64 rfl (lv_at hl 2 rfl) ?_
      obtain ⟨hi_14, hf⟩ := ck_s hf
      refine r_iald hc hd (cl_2_row hc.cl hL0) rfl hi_14 dX2_runHour_65 ?_
      refine lv_aload_n hc.x hc.b dX2_runHour_66 rfl (lv_at hl 0 rfl) ?_
      refine lv_iload_n hc.x hc.b dX2_runHour_67 rfl (lv_at hl 2 rfl) ?_
      obtain ⟨r_16, hq_15, hf⟩ := on_s hf
      refine k_i (k_runV hc hd my_X2_priceNow tw_828 hL0 rfl rfl rfl (c_X2_priceNow l D cs B0 kt α Lv S g0 x2 hc.cl hL0  hq_15) rfl rfl hl.1 (Nat.le_of_ble_eq_true rfl) ⟨Nat.le_of_ble_eq_true rfl, Nat.le_of_ble_eq_true rfl, Nat.zero_le _, Nat.zero_le _⟩ dX2_runHour_68) hd (fun H locs hd => ?_)
      refine jn_s (P := fun J_18 => ∀  (S_17 : St) (H : Heap) (locs : List Loc) (ls : Array Slot), J_18 S_17 = some o → Dy s D cs B0 α Lv S_17 H locs → lv_has ls 4 [(0, .ref (α 2 g0)), (1, .int x1), (2, .int x2)] → W p l e (Rm 5 0 0) s m args below meth c H locs 0 0 (MQ below (Qv D cs B0 α Lv o) args s 0 0 (AB B0)) (F0 m 81 ls [])) hf ?_ (fun J_18 hJ_18 hf => ?_)
      · intro S_17 H locs ls hf hd hl
        obtain ⟨x2_19, ex2_19⟩ : ∃ z : Int32, z = x2 + 1 := ⟨_, rfl⟩
        have hf := bv_n ex2_19 hf
        refine lv_iinc (v := x2_19) (lv' := [(2, .int x2_19), (0, .ref (α 2 g0)), (1, .int x1)]) hc.x hc.b dX2_runHour_81 hl (k := 2) rfl (by rw [ex2_19]; rfl) (by decide) rfl (fun ls hl => ?_)
        refine lv_goto (tgt := 52) hc.x hc.b dX2_runHour_84 (by decide) ?_
        exact ih x2_19 S_17 _ _ _ hf hd (lv_sub hl [1, 2, 0] rfl)
      refine lv_icmp_eq (tgt := 81) hc.x hc.b dX2_runHour_71 (by decide) (fun c_20 => ?_) (fun c_20 => ?_)
      · have hf := br_y c_20 hf
        exact hJ_18 S _ _ _ hf hd (lv_sub hl [0, 1, 2] rfl)
      · have hf := br_n c_20 hf
        refine lv_aload_n hc.x hc.b dX2_runHour_74 rfl (lv_at hl 0 rfl) ?_
        refine fg_2_3 hc hd hL0 tw_142 dX2_runHour_75 ?_
        refine lv_iload_n hc.x hc.b dX2_runHour_78 rfl (lv_at hl 2 rfl) ?_
        refine lv_iload_n hc.x hc.b dX2_runHour_79 rfl (lv_at hl 1 rfl) ?_
        obtain ⟨hi_21, hf⟩ := ck_s hf
        refine r_iast hc hd (cl_2_changedIn hc.cl hL0) (fun _ => rfl) hi_21 dX2_runHour_80 (fun H locs hd => ?_)
        obtain ⟨S_22, hd, hf⟩ := nmD hd hf
        exact hJ_18 S_22 _ _ _ hf hd (lv_sub hl [0, 1, 2] rfl)
set_option maxRecDepth 100000 in
set_option maxHeartbeats 4000000 in
theorem w_X2_runHour_105 (hc : Cx p s m args meth c cX2_runHour 4 "PumpCrossing$Crossing" D cs B0 kt Lv) (hr : meth.sig.returnType = none) {o : St}  {g0 : Nat} {x2 : Int32} {K : St → Option (St)} (hL0 : Lv 2 g0) (hK : ∀  (S : St) (H : Heap) (locs : List Loc) (ls : Array Slot), K S = some o → Dy s D cs B0 α Lv S H locs → lv_has ls 4 [] → W p l e (Rm 5 0 0) s m args below meth c H locs 0 0 (MQ below (Qv D cs B0 α Lv o) args s 0 0 (AB B0)) (F0 m 148 ls [])) : ∀ (n : Nat) (x3 : Int32) (S : St) (H : Heap) (locs : List Loc) (ls : Array Slot), f_X2_runHour_105 g0 x2 K n x3 S = some o → Dy s D cs B0 α Lv S H locs → lv_has ls 4 [(0, .ref (α 2 g0)), (2, .int x2), (3, .int x3)] → W p l e (Rm 5 0 0) s m args below meth c H locs 0 0 (MQ below (Qv D cs B0 α Lv o) args s 0 0 (AB B0)) (F0 m 105 ls []) := by
  intro n
  induction n with
  | zero =>
    intro x3 S H locs ls hf
    rw [f_X2_runHour_105] at hf
    cases hf
  | succ n ih =>
    intro x3 S H locs ls hf hd hl
    rw [f_X2_runHour_105] at hf
    refine lv_iload_n hc.x hc.b dX2_runHour_105 rfl (lv_at hl 2 rfl) ?_
    refine lv_aload_n hc.x hc.b dX2_runHour_106 rfl (lv_at hl 0 rfl) ?_
    refine fg_2_9 hc hd hL0 tw_154 dX2_runHour_107 ?_
    refine fg_9_0 hc hd (cl_2_drivers hc.cl hL0) tw_50 dX2_runHour_110 ?_
    refine lv_icmp_ge (tgt := 148) hc.x hc.b dX2_runHour_113 (by decide) (fun c_28 => ?_) (fun c_28 => ?_)
    · have hf := br_y c_28 hf
      exact hK S _ _ _ hf hd (lv_sub hl [] rfl)
    · have hf := br_n c_28 hf
      refine lv_aload_n hc.x hc.b dX2_runHour_116 rfl (lv_at hl 0 rfl) ?_
      refine lv_aload_n hc.x hc.b dX2_runHour_117 rfl (lv_at hl 0 rfl) ?_
      refine fg_2_9 hc hd hL0 tw_154 dX2_runHour_118 ?_
      refine lv_iload_n hc.x hc.b dX2_runHour_121 rfl (lv_at hl 2 rfl) ?_
      refine lv_aload_n hc.x hc.b dX2_runHour_122 rfl (lv_at hl 0 rfl) ?_
      refine fg_2_16 hc hd hL0 tw_171 dX2_runHour_123 ?_
      refine lv_iload_n hc.x hc.b dX2_runHour_126 rfl (lv_at hl 1 rfl) ?_
      obtain ⟨r_30, hq_29, hf⟩ := on_s hf
      refine k_i (k_runV hc hd my_X3_placeOf tw_841 (cl_2_drivers hc.cl hL0) rfl rfl rfl (c_X3_placeOf l D cs B0 kt α Lv S g0 x3 (g0 + 1) x2 hc.cl (cl_2_drivers hc.cl hL0) (cl_2_row hc.cl hL0)  hq_29) rfl rfl hl.1 (Nat.le_of_ble_eq_true rfl) ⟨Nat.le_of_ble_eq_true rfl, Nat.le_of_ble_eq_true rfl, Nat.zero_le _, Nat.zero_le _⟩ dX2_runHour_127) hd (fun H locs hd => ?_)
      refine lv_aload_n hc.x hc.b dX2_runHour_130 rfl (lv_at hl 0 rfl) ?_
      refine fg_2_9 hc hd hL0 tw_154 dX2_runHour_131 ?_
      refine fg_9_1 hc hd (cl_2_drivers hc.cl hL0) tw_53 dX2_runHour_134 ?_
      refine lv_iload_n hc.x hc.b dX2_runHour_137 rfl (lv_at hl 2 rfl) ?_
      obtain ⟨hi_31, hf⟩ := ck_s hf
      refine r_iald hc hd (cl_9_many hc.cl (cl_2_drivers hc.cl hL0)) rfl hi_31 dX2_runHour_138 ?_
      obtain ⟨S_33, hq_32, hf⟩ := on_s hf
      refine k_v (k_runV hc hd my_X2_sell tw_845 hL0 rfl rfl rfl (c_X2_sell l D cs B0 kt α Lv S g0 r_30 (gi S 10 g0 (nn x3)) hc.cl hL0  hq_32) rfl rfl hl.1 (Nat.le_of_ble_eq_true rfl) ⟨Nat.le_of_ble_eq_true rfl, Nat.le_of_ble_eq_true rfl, Nat.zero_le _, Nat.zero_le _⟩ dX2_runHour_139) hd (fun H locs hd => ?_)
      obtain ⟨x3_34, ex3_34⟩ : ∃ z : Int32, z = x3 + 1 := ⟨_, rfl⟩
      have hf := bv_n ex3_34 hf
      refine lv_iinc (v := x3_34) (lv' := [(3, .int x3_34), (0, .ref (α 2 g0)), (2, .int x2)]) hc.x hc.b dX2_runHour_142 hl (k := 2) rfl (by rw [ex3_34]; rfl) (by decide) rfl (fun ls hl => ?_)
      refine lv_goto (tgt := 105) hc.x hc.b dX2_runHour_145 (by decide) ?_
      exact ih x3_34 S_33 _ _ _ hf hd (lv_sub hl [1, 2, 0] rfl)
set_option maxRecDepth 100000 in
set_option maxHeartbeats 4000000 in
theorem b_X2_runHour (hc : Cx p s m args meth c cX2_runHour 4 "PumpCrossing$Crossing" D cs B0 kt Lv) (hr : meth.sig.returnType = none)  {o : St}  {S : St} {g0 : Nat} (hL0 : Lv 2 g0) {H : Heap} {locs : List Loc} {ls : Array Slot} (hf : f_X2_runHour g0 S = some o) (hd : Dy s D cs B0 α Lv S H locs) (hl : lv_has ls 4 [(0, .ref (α 2 g0))]) : W p l e (Rm 5 0 0) s m args below meth c H locs 0 0 (MQ below (Qv D cs B0 α Lv o) args s 0 0 (AB B0)) (F0 m 0 ls []) := by
  unfold f_X2_runHour at hf
  refine lv_aload_n hc.x hc.b dX2_runHour_0 rfl (lv_at hl 0 rfl) ?_
  refine fg_2_10 hc hd hL0 tw_157 dX2_runHour_1 ?_
  refine fg_14_3 hc hd (cl_2_hours hc.cl hL0) tw_82 dX2_runHour_4 ?_
  refine lv_topi (fun x1_1 ex1_1 => ?_)
  have hf := bv_n ex1_1 hf
  refine lv_istore_n (lv' := [(1, .int x1_1), (0, .ref (α 2 g0))]) hc.x hc.b dX2_runHour_7 rfl hl (by decide) rfl (fun ls hl => ?_)
  refine lv_iconst (v := 0) hc.x hc.b dX2_runHour_8 (by decide) ?_
  refine lv_istore_n (lv' := [(2, .int 0), (1, .int x1_1), (0, .ref (α 2 g0))]) hc.x hc.b dX2_runHour_9 rfl hl (by decide) rfl (fun ls hl => ?_)
  refine w_X2_runHour_10 hc hr hL0 ?_ _ _ _ _ _ _ hf hd (lv_sub hl [2, 1, 0] rfl)
  intro S_12 H locs ls hf hd hl
  refine lv_iconst (v := 0) hc.x hc.b dX2_runHour_50 (by decide) ?_
  refine lv_istore_n (lv' := [(2, .int 0), (0, .ref (α 2 g0)), (1, .int x1_1)]) hc.x hc.b dX2_runHour_51 rfl hl (by decide) rfl (fun ls hl => ?_)
  refine w_X2_runHour_52 hc hr hL0 ?_ _ _ _ _ _ _ hf hd (lv_sub hl [1, 2, 0] rfl)
  intro S_23 H locs ls hf hd hl
  refine lv_aload_n hc.x hc.b dX2_runHour_87 rfl (lv_at hl 0 rfl) ?_
  refine fg_2_10 hc hd hL0 tw_157 dX2_runHour_88 ?_
  refine lv_aload_n hc.x hc.b dX2_runHour_91 rfl (lv_at hl 0 rfl) ?_
  refine fg_2_16 hc hd hL0 tw_171 dX2_runHour_92 ?_
  obtain ⟨S_25, hq_24, hf⟩ := on_s hf
  refine k_v (k_runV hc hd my_X0_add tw_832 (cl_2_hours hc.cl hL0) rfl rfl rfl (c_X0_add l D cs B0 kt α Lv S_23 (2 * g0) (g0 + 1) hc.cl (cl_2_hours hc.cl hL0) (cl_2_row hc.cl hL0)  hq_24) rfl rfl hl.1 (Nat.le_of_ble_eq_true rfl) ⟨Nat.le_of_ble_eq_true rfl, Nat.le_of_ble_eq_true rfl, Nat.zero_le _, Nat.zero_le _⟩ dX2_runHour_95) hd (fun H locs hd => ?_)
  refine lv_aload_n hc.x hc.b dX2_runHour_98 rfl (lv_at hl 0 rfl) ?_
  obtain ⟨r_27, hq_26, hf⟩ := on_s hf
  refine k_i (k_runV hc hd my_X2_known tw_837 hL0 rfl rfl rfl (c_X2_known l D cs B0 kt α Lv S_25 g0 hc.cl hL0  hq_26) rfl rfl hl.1 (Nat.le_of_ble_eq_true rfl) ⟨Nat.le_of_ble_eq_true rfl, Nat.le_of_ble_eq_true rfl, Nat.zero_le _, Nat.zero_le _⟩ dX2_runHour_99) hd (fun H locs hd => ?_)
  refine lv_istore_n (lv' := [(2, .int r_27), (0, .ref (α 2 g0))]) hc.x hc.b dX2_runHour_102 rfl hl (by decide) rfl (fun ls hl => ?_)
  refine lv_iconst (v := 0) hc.x hc.b dX2_runHour_103 (by decide) ?_
  refine lv_istore_n (lv' := [(3, .int 0), (2, .int r_27), (0, .ref (α 2 g0))]) hc.x hc.b dX2_runHour_104 rfl hl (by decide) rfl (fun ls hl => ?_)
  refine w_X2_runHour_105 hc hr hL0 ?_ _ _ _ _ _ _ hf hd (lv_sub hl [2, 1, 0] rfl)
  intro S_35 H locs ls hf hd hl
  cases hf
  exact r_vret hc hd hr dX2_runHour_148
theorem c_X2_runHour (l : Launch) (D : va_G) (cs : Nat → ClassId) (B0 : Nat) (kt : (Nat → Nat) × (Nat → Nat)) (α : Nat → Nat → Nat) (Lv : Nat → Nat → Prop) (S : St) (g0 : Nat) (hcl : Cl Lv) (hL0 : Lv 2 g0) {o : St} (hf : f_X2_runHour g0 S = some o) : Met l yX2_runHour (wz yX2_runHour cX2_runHour 4 none) (Rm 5 0 0) (Pz D cs B0 kt α Lv S [.ref (α 2 g0)]) (Qv D cs B0 α Lv o) 0 0 (AB B0) := met_of (by decide) rfl hcl (Nat.le_of_ble_eq_true rfl) (fun p e s m below meth c hc hr hd ls hl => b_X2_runHour hc hr hL0 hf hd hl)
theorem my_X2_runHour : MyV yX2_runHour "PumpCrossing$Crossing" cX2_runHour 4 none 0 := ⟨tw_770, tw_771, tw_2, tw_772, by decide +kernel⟩
def f_X2_takePricesNow_2 (g0 : Nat) (g1 : Nat) (K : St → Option (St)) : Nat → Int32 → St → Option (St)
  | 0, _, _ => none
  | n + 1, x2, S => br ((gi S 2 g0 0) ≤ x2) (K S) (on (f_X2_priceNow g0 x2 S) (fun r_3 => ck (inb x2 4 = true) (bv (si S 26 g1 (nn x2) r_3) (fun S_5 => bv (x2 + 1) (fun x2_6 => f_X2_takePricesNow_2 g0 g1 K n x2_6 S_5)))))
def f_X2_takePricesNow (g0 : Nat) (g1 : Nat) (S : St) : Option (St) := f_X2_takePricesNow_2 g0 g1 (fun  (S_7 : St) => some S_7) FU 0 S
set_option maxRecDepth 100000 in
set_option maxHeartbeats 4000000 in
theorem w_X2_takePricesNow_2 (hc : Cx p s m args meth c cX2_takePricesNow 3 "PumpCrossing$Crossing" D cs B0 kt Lv) (hr : meth.sig.returnType = none) {o : St}  {g0 : Nat} {g1 : Nat} {K : St → Option (St)} (hL0 : Lv 2 g0) (hL1 : Lv 26 g1) (hK : ∀  (S : St) (H : Heap) (locs : List Loc) (ls : Array Slot), K S = some o → Dy s D cs B0 α Lv S H locs → lv_has ls 3 [] → W p l e (Rm 2 0 0) s m args below meth c H locs 0 0 (MQ below (Qv D cs B0 α Lv o) args s 0 0 (AB B0)) (F0 m 24 ls [])) : ∀ (n : Nat) (x2 : Int32) (S : St) (H : Heap) (locs : List Loc) (ls : Array Slot), f_X2_takePricesNow_2 g0 g1 K n x2 S = some o → Dy s D cs B0 α Lv S H locs → lv_has ls 3 [(0, .ref (α 2 g0)), (1, .ref (α 26 g1)), (2, .int x2)] → W p l e (Rm 2 0 0) s m args below meth c H locs 0 0 (MQ below (Qv D cs B0 α Lv o) args s 0 0 (AB B0)) (F0 m 2 ls []) := by
  intro n
  induction n with
  | zero =>
    intro x2 S H locs ls hf
    rw [f_X2_takePricesNow_2] at hf
    cases hf
  | succ n ih =>
    intro x2 S H locs ls hf hd hl
    rw [f_X2_takePricesNow_2] at hf
    refine lv_iload_n hc.x hc.b dX2_takePricesNow_2 rfl (lv_at hl 2 rfl) ?_
    refine lv_aload_n hc.x hc.b dX2_takePricesNow_3 rfl (lv_at hl 0 rfl) ?_
    refine fg_2_0 hc hd hL0 tw_135 dX2_takePricesNow_4 ?_
    refine lv_icmp_ge (tgt := 24) hc.x hc.b dX2_takePricesNow_7 (by decide) (fun c_1 => ?_) (fun c_1 => ?_)
    · have hf := br_y c_1 hf
      exact hK S _ _ _ hf hd (lv_sub hl [] rfl)
    · have hf := br_n c_1 hf
      refine lv_aload_n hc.x hc.b dX2_takePricesNow_10 rfl (lv_at hl 1 rfl) ?_
      refine lv_iload_n hc.x hc.b dX2_takePricesNow_11 rfl (lv_at hl 2 rfl) ?_
      refine lv_aload_n hc.x hc.b dX2_takePricesNow_12 rfl (lv_at hl 0 rfl) ?_
      refine lv_iload_n hc.x hc.b dX2_takePricesNow_13 rfl (lv_at hl 2 rfl) ?_
      obtain ⟨r_3, hq_2, hf⟩ := on_s hf
      refine k_i (k_runV hc hd my_X2_priceNow tw_828 hL0 rfl rfl rfl (c_X2_priceNow l D cs B0 kt α Lv S g0 x2 hc.cl hL0  hq_2) rfl rfl hl.1 (Nat.le_of_ble_eq_true rfl) ⟨Nat.le_of_ble_eq_true rfl, Nat.le_of_ble_eq_true rfl, Nat.zero_le _, Nat.zero_le _⟩ dX2_takePricesNow_14) hd (fun H locs hd => ?_)
      obtain ⟨hi_4, hf⟩ := ck_s hf
      refine r_iast hc hd hL1 (fun _ => rfl) hi_4 dX2_takePricesNow_17 (fun H locs hd => ?_)
      obtain ⟨S_5, hd, hf⟩ := nmD hd hf
      obtain ⟨x2_6, ex2_6⟩ : ∃ z : Int32, z = x2 + 1 := ⟨_, rfl⟩
      have hf := bv_n ex2_6 hf
      refine lv_iinc (v := x2_6) (lv' := [(2, .int x2_6), (0, .ref (α 2 g0)), (1, .ref (α 26 g1))]) hc.x hc.b dX2_takePricesNow_18 hl (k := 2) rfl (by rw [ex2_6]; rfl) (by decide) rfl (fun ls hl => ?_)
      refine lv_goto (tgt := 2) hc.x hc.b dX2_takePricesNow_21 (by decide) ?_
      exact ih x2_6 S_5 _ _ _ hf hd (lv_sub hl [1, 2, 0] rfl)
set_option maxRecDepth 100000 in
set_option maxHeartbeats 4000000 in
theorem b_X2_takePricesNow (hc : Cx p s m args meth c cX2_takePricesNow 3 "PumpCrossing$Crossing" D cs B0 kt Lv) (hr : meth.sig.returnType = none)  {o : St}  {S : St} {g0 : Nat} {g1 : Nat} (hL0 : Lv 2 g0) (hL1 : Lv 26 g1) {H : Heap} {locs : List Loc} {ls : Array Slot} (hf : f_X2_takePricesNow g0 g1 S = some o) (hd : Dy s D cs B0 α Lv S H locs) (hl : lv_has ls 3 [(0, .ref (α 2 g0)), (1, .ref (α 26 g1))]) : W p l e (Rm 2 0 0) s m args below meth c H locs 0 0 (MQ below (Qv D cs B0 α Lv o) args s 0 0 (AB B0)) (F0 m 0 ls []) := by
  unfold f_X2_takePricesNow at hf
  refine lv_iconst (v := 0) hc.x hc.b dX2_takePricesNow_0 (by decide) ?_
  refine lv_istore_n (lv' := [(2, .int 0), (0, .ref (α 2 g0)), (1, .ref (α 26 g1))]) hc.x hc.b dX2_takePricesNow_1 rfl hl (by decide) rfl (fun ls hl => ?_)
  refine w_X2_takePricesNow_2 hc hr hL0 hL1 ?_ _ _ _ _ _ _ hf hd (lv_sub hl [1, 2, 0] rfl)
  intro S_7 H locs ls hf hd hl
  cases hf
  exact r_vret hc hd hr dX2_takePricesNow_24
theorem c_X2_takePricesNow (l : Launch) (D : va_G) (cs : Nat → ClassId) (B0 : Nat) (kt : (Nat → Nat) × (Nat → Nat)) (α : Nat → Nat → Nat) (Lv : Nat → Nat → Prop) (S : St) (g0 : Nat) (g1 : Nat) (hcl : Cl Lv) (hL0 : Lv 2 g0) (hL1 : Lv 26 g1) {o : St} (hf : f_X2_takePricesNow g0 g1 S = some o) : Met l yX2_takePricesNow (wz yX2_takePricesNow cX2_takePricesNow 3 none) (Rm 2 0 0) (Pz D cs B0 kt α Lv S [.ref (α 2 g0), .ref (α 26 g1)]) (Qv D cs B0 α Lv o) 0 0 (AB B0) := met_of (by decide) rfl hcl (Nat.le_of_ble_eq_true rfl) (fun p e s m below meth c hc hr hd ls hl => b_X2_takePricesNow hc hr hL0 hL1 hf hd hl)
theorem my_X2_takePricesNow : MyV yX2_takePricesNow "PumpCrossing$Crossing" cX2_takePricesNow 3 none 1 := ⟨tw_900, tw_901, tw_2, tw_902, by decide +kernel⟩
end
