section
variable {p : Program} {l : Launch} {e : Env} {s : State} {m : MethodId} {args : Array Value} {below : List Frame} {meth : Method} {c : Code} {D : va_G} {cs : Nat → ClassId} {B0 : Nat} {kt : (Nat → Nat) × (Nat → Nat)} {α : Nat → Nat → Nat} {Lv : Nat → Nat → Prop}
def f_X1_dropOldest (g0 : Nat) (S : St) : Option (St) := bv (si S 17 g0 3 ((gi S 17 g0 3) - 1)) (fun S_1 => ck (cpok 1 0 (gi S_1 17 g0 3) 10 10 = true) (bv (ai S_1 18 g0 (va_cpy (gi S_1 18 g0) (gi S_1 18 g0) (nn 1) (nn 0) (nn (gi S_1 17 g0 3)))) (fun S_3 => ck (cpok 1 0 (gi S_3 17 g0 3) 10 10 = true) (bv (ai S_3 19 g0 (va_cpy (gi S_3 19 g0) (gi S_3 19 g0) (nn 1) (nn 0) (nn (gi S_3 17 g0 3)))) (fun S_5 => ck (cpok 1 0 (gi S_5 17 g0 3) 10 10 = true) (bv (ai S_5 20 g0 (va_cpy (gi S_5 20 g0) (gi S_5 20 g0) (nn 1) (nn 0) (nn (gi S_5 17 g0 3)))) (fun S_7 => some S_7)))))))
set_option maxRecDepth 100000 in
set_option maxHeartbeats 4000000 in
theorem b_X1_dropOldest (hc : Cx p s m args meth c cX1_dropOldest 1 "PumpCrossing$CostChanges" D cs B0 kt Lv) (hr : meth.sig.returnType = none)  {o : St}  {S : St} {g0 : Nat} (hL0 : Lv 17 g0) {H : Heap} {locs : List Loc} {ls : Array Slot} (hf : f_X1_dropOldest g0 S = some o) (hd : Dy s D cs B0 α Lv S H locs) (hl : lv_has ls 1 [(0, .ref (α 17 g0))]) : W p l e (Rm 2 0 0) s m args below meth c H locs 0 0 (MQ below (Qv D cs B0 α Lv o) args s 0 0 (AB B0)) (F0 m 0 ls []) := by
  unfold f_X1_dropOldest at hf
  refine lv_aload_n hc.x hc.b dX1_dropOldest_0 rfl (lv_at hl 0 rfl) ?_
  refine lv_dup hc.x hc.b dX1_dropOldest_1 rfl ?_
  refine fg_17_3 hc hd hL0 tw_102 dX1_dropOldest_2 ?_
  refine lv_iconst (v := 1) hc.x hc.b dX1_dropOldest_5 (by decide) ?_
  refine lv_isub hc.x hc.b dX1_dropOldest_6 ?_
  refine fp_17_3 hc hd hL0 tw_102 dX1_dropOldest_7 (fun H locs hd => ?_)
  obtain ⟨S_1, hd, hf⟩ := nmD hd hf
  refine lv_aload_n hc.x hc.b dX1_dropOldest_10 rfl (lv_at hl 0 rfl) ?_
  refine fg_17_0 hc hd hL0 tw_98 dX1_dropOldest_11 ?_
  refine lv_iconst (v := 1) hc.x hc.b dX1_dropOldest_14 (by decide) ?_
  refine lv_aload_n hc.x hc.b dX1_dropOldest_15 rfl (lv_at hl 0 rfl) ?_
  refine fg_17_0 hc hd hL0 tw_98 dX1_dropOldest_16 ?_
  refine lv_iconst (v := 0) hc.x hc.b dX1_dropOldest_19 (by decide) ?_
  refine lv_aload_n hc.x hc.b dX1_dropOldest_20 rfl (lv_at hl 0 rfl) ?_
  refine fg_17_3 hc hd hL0 tw_102 dX1_dropOldest_21 ?_
  obtain ⟨hi_2, hf⟩ := ck_s hf
  refine r_copyi hc hd hl.1 tw_598 (cl_17_station hc.cl hL0) (cl_17_station hc.cl hL0) rfl (fun _ => rfl) hi_2 (Nat.le_of_ble_eq_true rfl) (Nat.le_of_ble_eq_true rfl) dX1_dropOldest_24 (fun H locs hd => ?_)
  obtain ⟨S_3, hd, hf⟩ := nmD hd hf
  refine lv_aload_n hc.x hc.b dX1_dropOldest_27 rfl (lv_at hl 0 rfl) ?_
  refine fg_17_1 hc hd hL0 tw_99 dX1_dropOldest_28 ?_
  refine lv_iconst (v := 1) hc.x hc.b dX1_dropOldest_31 (by decide) ?_
  refine lv_aload_n hc.x hc.b dX1_dropOldest_32 rfl (lv_at hl 0 rfl) ?_
  refine fg_17_1 hc hd hL0 tw_99 dX1_dropOldest_33 ?_
  refine lv_iconst (v := 0) hc.x hc.b dX1_dropOldest_36 (by decide) ?_
  refine lv_aload_n hc.x hc.b dX1_dropOldest_37 rfl (lv_at hl 0 rfl) ?_
  refine fg_17_3 hc hd hL0 tw_102 dX1_dropOldest_38 ?_
  obtain ⟨hi_4, hf⟩ := ck_s hf
  refine r_copyi hc hd hl.1 tw_598 (cl_17_hour hc.cl hL0) (cl_17_hour hc.cl hL0) rfl (fun _ => rfl) hi_4 (Nat.le_of_ble_eq_true rfl) (Nat.le_of_ble_eq_true rfl) dX1_dropOldest_41 (fun H locs hd => ?_)
  obtain ⟨S_5, hd, hf⟩ := nmD hd hf
  refine lv_aload_n hc.x hc.b dX1_dropOldest_44 rfl (lv_at hl 0 rfl) ?_
  refine fg_17_2 hc hd hL0 tw_100 dX1_dropOldest_45 ?_
  refine lv_iconst (v := 1) hc.x hc.b dX1_dropOldest_48 (by decide) ?_
  refine lv_aload_n hc.x hc.b dX1_dropOldest_49 rfl (lv_at hl 0 rfl) ?_
  refine fg_17_2 hc hd hL0 tw_100 dX1_dropOldest_50 ?_
  refine lv_iconst (v := 0) hc.x hc.b dX1_dropOldest_53 (by decide) ?_
  refine lv_aload_n hc.x hc.b dX1_dropOldest_54 rfl (lv_at hl 0 rfl) ?_
  refine fg_17_3 hc hd hL0 tw_102 dX1_dropOldest_55 ?_
  obtain ⟨hi_6, hf⟩ := ck_s hf
  refine r_copyi hc hd hl.1 tw_598 (cl_17_by hc.cl hL0) (cl_17_by hc.cl hL0) rfl (fun _ => rfl) hi_6 (Nat.le_of_ble_eq_true rfl) (Nat.le_of_ble_eq_true rfl) dX1_dropOldest_58 (fun H locs hd => ?_)
  obtain ⟨S_7, hd, hf⟩ := nmD hd hf
  cases hf
  exact r_vret hc hd hr dX1_dropOldest_61
theorem c_X1_dropOldest (l : Launch) (D : va_G) (cs : Nat → ClassId) (B0 : Nat) (kt : (Nat → Nat) × (Nat → Nat)) (α : Nat → Nat → Nat) (Lv : Nat → Nat → Prop) (S : St) (g0 : Nat) (hcl : Cl Lv) (hL0 : Lv 17 g0) {o : St} (hf : f_X1_dropOldest g0 S = some o) : Met l yX1_dropOldest (wz yX1_dropOldest cX1_dropOldest 1 none) (Rm 2 0 0) (Pz D cs B0 kt α Lv S [.ref (α 17 g0)]) (Qv D cs B0 α Lv o) 0 0 (AB B0) := met_of (by decide) rfl hcl (Nat.le_of_ble_eq_true rfl) (fun p e s m below meth c hc hr hd ls hl => b_X1_dropOldest hc hr hL0 hf hd hl)
theorem my_X1_dropOldest : MyV yX1_dropOldest "PumpCrossing$CostChanges" cX1_dropOldest 1 none 0 := ⟨tw_596, (in_sel 6 (by decide +kernel) (by decide +kernel)), tw_5, tw_597, by decide +kernel⟩
def f_X1_add (g0 : Nat) (x1 : Int32) (x2 : Int32) (x3 : Int32) (S : St) : Option (St) := bv (fun  (S_1 : St) => ck (inb (gi S_1 17 g0 3) 10 = true) (bv (si S_1 18 g0 (nn (gi S_1 17 g0 3)) x1) (fun S_4 => ck (inb (gi S_4 17 g0 3) 10 = true) (bv (si S_4 19 g0 (nn (gi S_4 17 g0 3)) x2) (fun S_6 => ck (inb (gi S_6 17 g0 3) 10 = true) (bv (si S_6 20 g0 (nn (gi S_6 17 g0 3)) x3) (fun S_8 => bv (si S_8 17 g0 3 ((gi S_8 17 g0 3) + 1)) (fun S_9 => some S_9)))))))) (fun J_2 => br ((gi S 17 g0 3) = 10) (on (f_X1_dropOldest g0 S) (fun S_12 => J_2 S_12)) (J_2 S))
set_option maxRecDepth 100000 in
set_option maxHeartbeats 4000000 in
theorem b_X1_add (hc : Cx p s m args meth c cX1_add 4 "PumpCrossing$CostChanges" D cs B0 kt Lv) (hr : meth.sig.returnType = none)  {o : St}  {S : St} {g0 : Nat} {x1 : Int32} {x2 : Int32} {x3 : Int32} (hL0 : Lv 17 g0) {H : Heap} {locs : List Loc} {ls : Array Slot} (hf : f_X1_add g0 x1 x2 x3 S = some o) (hd : Dy s D cs B0 α Lv S H locs) (hl : lv_has ls 4 [(0, .ref (α 17 g0)), (1, .int x1), (2, .int x2), (3, .int x3)]) : W p l e (Rm 3 0 0) s m args below meth c H locs 0 0 (MQ below (Qv D cs B0 α Lv o) args s 0 0 (AB B0)) (F0 m 0 ls []) := by
  unfold f_X1_add at hf
  refine lv_aload_n hc.x hc.b dX1_add_0 rfl (lv_at hl 0 rfl) ?_
  refine fg_17_3 hc hd hL0 tw_102 dX1_add_1 ?_
  refine lv_bipush (v := 10) hc.x hc.b dX1_add_4 (by decide) ?_
  refine jn_s (P := fun J_2 => ∀  (S_1 : St) (H : Heap) (locs : List Loc) (ls : Array Slot), J_2 S_1 = some o → Dy s D cs B0 α Lv S_1 H locs → lv_has ls 4 [(0, .ref (α 17 g0)), (1, .int x1), (2, .int x2), (3, .int x3)] → W p l e (Rm 3 0 0) s m args below meth c H locs 0 0 (MQ below (Qv D cs B0 α Lv o) args s 0 0 (AB B0)) (F0 m 13 ls [])) hf ?_ (fun J_2 hJ_2 hf => ?_)
  · intro S_1 H locs ls hf hd hl
    refine lv_aload_n hc.x hc.b dX1_add_13 rfl (lv_at hl 0 rfl) ?_
    refine fg_17_0 hc hd hL0 tw_98 dX1_add_14 ?_
    refine lv_aload_n hc.x hc.b dX1_add_17 rfl (lv_at hl 0 rfl) ?_
    refine fg_17_3 hc hd hL0 tw_102 dX1_add_18 ?_
    refine lv_iload_n hc.x hc.b dX1_add_21 rfl (lv_at hl 1 rfl) ?_
    obtain ⟨hi_3, hf⟩ := ck_s hf
    refine r_iast hc hd (cl_17_station hc.cl hL0) (fun _ => rfl) hi_3 dX1_add_22 (fun H locs hd => ?_)
    obtain ⟨S_4, hd, hf⟩ := nmD hd hf
    refine lv_aload_n hc.x hc.b dX1_add_23 rfl (lv_at hl 0 rfl) ?_
    refine fg_17_1 hc hd hL0 tw_99 dX1_add_24 ?_
    refine lv_aload_n hc.x hc.b dX1_add_27 rfl (lv_at hl 0 rfl) ?_
    refine fg_17_3 hc hd hL0 tw_102 dX1_add_28 ?_
    refine lv_iload_n hc.x hc.b dX1_add_31 rfl (lv_at hl 2 rfl) ?_
    obtain ⟨hi_5, hf⟩ := ck_s hf
    refine r_iast hc hd (cl_17_hour hc.cl hL0) (fun _ => rfl) hi_5 dX1_add_32 (fun H locs hd => ?_)
    obtain ⟨S_6, hd, hf⟩ := nmD hd hf
    refine lv_aload_n hc.x hc.b dX1_add_33 rfl (lv_at hl 0 rfl) ?_
    refine fg_17_2 hc hd hL0 tw_100 dX1_add_34 ?_
    refine lv_aload_n hc.x hc.b dX1_add_37 rfl (lv_at hl 0 rfl) ?_
    refine fg_17_3 hc hd hL0 tw_102 dX1_add_38 ?_
    refine lv_iload_n hc.x hc.b dX1_add_41 rfl (lv_at hl 3 rfl) ?_
    obtain ⟨hi_7, hf⟩ := ck_s hf
    refine r_iast hc hd (cl_17_by hc.cl hL0) (fun _ => rfl) hi_7 dX1_add_42 (fun H locs hd => ?_)
    obtain ⟨S_8, hd, hf⟩ := nmD hd hf
    refine lv_aload_n hc.x hc.b dX1_add_43 rfl (lv_at hl 0 rfl) ?_
    refine lv_dup hc.x hc.b dX1_add_44 rfl ?_
    refine fg_17_3 hc hd hL0 tw_102 dX1_add_45 ?_
    refine lv_iconst (v := 1) hc.x hc.b dX1_add_48 (by decide) ?_
    refine lv_iadd hc.x hc.b dX1_add_49 ?_
    refine fp_17_3 hc hd hL0 tw_102 dX1_add_50 (fun H locs hd => ?_)
    obtain ⟨S_9, hd, hf⟩ := nmD hd hf
    cases hf
    exact r_vret hc hd hr dX1_add_53
  refine lv_icmp_ne (tgt := 13) hc.x hc.b dX1_add_6 (by decide) (fun c_10 => ?_) (fun c_10 => ?_)
  · have hf := br_n c_10 hf
    exact hJ_2 S _ _ _ hf hd (lv_sub hl [0, 1, 2, 3] rfl)
  · have hf := br_y c_10 hf
    refine lv_aload_n hc.x hc.b dX1_add_9 rfl (lv_at hl 0 rfl) ?_
    obtain ⟨S_12, hq_11, hf⟩ := on_s hf
    refine k_v (k_runV hc hd my_X1_dropOldest tw_594 hL0 rfl rfl rfl (c_X1_dropOldest l D cs B0 kt α Lv S g0 hc.cl hL0  hq_11) rfl rfl hl.1 (Nat.le_of_ble_eq_true rfl) ⟨Nat.le_of_ble_eq_true rfl, Nat.le_of_ble_eq_true rfl, Nat.zero_le _, Nat.zero_le _⟩ dX1_add_10) hd (fun H locs hd => ?_)
    exact hJ_2 S_12 _ _ _ hf hd (lv_sub hl [0, 1, 2, 3] rfl)
theorem c_X1_add (l : Launch) (D : va_G) (cs : Nat → ClassId) (B0 : Nat) (kt : (Nat → Nat) × (Nat → Nat)) (α : Nat → Nat → Nat) (Lv : Nat → Nat → Prop) (S : St) (g0 : Nat) (x1 : Int32) (x2 : Int32) (x3 : Int32) (hcl : Cl Lv) (hL0 : Lv 17 g0) {o : St} (hf : f_X1_add g0 x1 x2 x3 S = some o) : Met l yX1_add (wz yX1_add cX1_add 4 none) (Rm 3 0 0) (Pz D cs B0 kt α Lv S [.ref (α 17 g0), .int x1, .int x2, .int x3]) (Qv D cs B0 α Lv o) 0 0 (AB B0) := met_of (by decide) rfl hcl (Nat.le_of_ble_eq_true rfl) (fun p e s m below meth c hc hr hd ls hl => b_X1_add hc hr hL0 hf hd hl)
theorem my_X1_add : MyV yX1_add "PumpCrossing$CostChanges" cX1_add 4 none 3 := ⟨tw_591, tw_592, tw_5, tw_593, by decide +kernel⟩
def f_X1_copyFrom (g0 : Nat) (g1 : Nat) (S : St) : Option (St) := bv (si S 17 g0 3 (gi S 17 g1 3)) (fun S_1 => ck (cpok 0 0 10 10 10 = true) (bv (ai S_1 18 g0 (va_cpy (gi S_1 18 g1) (gi S_1 18 g0) (nn 0) (nn 0) (nn 10))) (fun S_3 => ck (cpok 0 0 10 10 10 = true) (bv (ai S_3 19 g0 (va_cpy (gi S_3 19 g1) (gi S_3 19 g0) (nn 0) (nn 0) (nn 10))) (fun S_5 => ck (cpok 0 0 10 10 10 = true) (bv (ai S_5 20 g0 (va_cpy (gi S_5 20 g1) (gi S_5 20 g0) (nn 0) (nn 0) (nn 10))) (fun S_7 => some S_7)))))))
set_option maxRecDepth 100000 in
set_option maxHeartbeats 4000000 in
theorem b_X1_copyFrom (hc : Cx p s m args meth c cX1_copyFrom 2 "PumpCrossing$CostChanges" D cs B0 kt Lv) (hr : meth.sig.returnType = none)  {o : St}  {S : St} {g0 : Nat} {g1 : Nat} (hL0 : Lv 17 g0) (hL1 : Lv 17 g1) {H : Heap} {locs : List Loc} {ls : Array Slot} (hf : f_X1_copyFrom g0 g1 S = some o) (hd : Dy s D cs B0 α Lv S H locs) (hl : lv_has ls 2 [(0, .ref (α 17 g0)), (1, .ref (α 17 g1))]) : W p l e (Rm 2 0 0) s m args below meth c H locs 0 0 (MQ below (Qv D cs B0 α Lv o) args s 0 0 (AB B0)) (F0 m 0 ls []) := by
  unfold f_X1_copyFrom at hf
  refine lv_aload_n hc.x hc.b dX1_copyFrom_0 rfl (lv_at hl 0 rfl) ?_
  refine lv_aload_n hc.x hc.b dX1_copyFrom_1 rfl (lv_at hl 1 rfl) ?_
  refine fg_17_3 hc hd hL1 tw_102 dX1_copyFrom_2 ?_
  refine fp_17_3 hc hd hL0 tw_102 dX1_copyFrom_5 (fun H locs hd => ?_)
  obtain ⟨S_1, hd, hf⟩ := nmD hd hf
  refine lv_aload_n hc.x hc.b dX1_copyFrom_8 rfl (lv_at hl 1 rfl) ?_
  refine fg_17_0 hc hd hL1 tw_98 dX1_copyFrom_9 ?_
  refine lv_iconst (v := 0) hc.x hc.b dX1_copyFrom_12 (by decide) ?_
  refine lv_aload_n hc.x hc.b dX1_copyFrom_13 rfl (lv_at hl 0 rfl) ?_
  refine fg_17_0 hc hd hL0 tw_98 dX1_copyFrom_14 ?_
  refine lv_iconst (v := 0) hc.x hc.b dX1_copyFrom_17 (by decide) ?_
  refine lv_bipush (v := 10) hc.x hc.b dX1_copyFrom_18 (by decide) ?_
  obtain ⟨hi_2, hf⟩ := ck_s hf
  refine r_copyi hc hd hl.1 tw_598 (cl_17_station hc.cl hL1) (cl_17_station hc.cl hL0) rfl (fun _ => rfl) hi_2 (Nat.le_of_ble_eq_true rfl) (Nat.le_of_ble_eq_true rfl) dX1_copyFrom_20 (fun H locs hd => ?_)
  obtain ⟨S_3, hd, hf⟩ := nmD hd hf
  refine lv_aload_n hc.x hc.b dX1_copyFrom_23 rfl (lv_at hl 1 rfl) ?_
  refine fg_17_1 hc hd hL1 tw_99 dX1_copyFrom_24 ?_
  refine lv_iconst (v := 0) hc.x hc.b dX1_copyFrom_27 (by decide) ?_
  refine lv_aload_n hc.x hc.b dX1_copyFrom_28 rfl (lv_at hl 0 rfl) ?_
  refine fg_17_1 hc hd hL0 tw_99 dX1_copyFrom_29 ?_
  refine lv_iconst (v := 0) hc.x hc.b dX1_copyFrom_32 (by decide) ?_
  refine lv_bipush (v := 10) hc.x hc.b dX1_copyFrom_33 (by decide) ?_
  obtain ⟨hi_4, hf⟩ := ck_s hf
  refine r_copyi hc hd hl.1 tw_598 (cl_17_hour hc.cl hL1) (cl_17_hour hc.cl hL0) rfl (fun _ => rfl) hi_4 (Nat.le_of_ble_eq_true rfl) (Nat.le_of_ble_eq_true rfl) dX1_copyFrom_35 (fun H locs hd => ?_)
  obtain ⟨S_5, hd, hf⟩ := nmD hd hf
  refine lv_aload_n hc.x hc.b dX1_copyFrom_38 rfl (lv_at hl 1 rfl) ?_
  refine fg_17_2 hc hd hL1 tw_100 dX1_copyFrom_39 ?_
  refine lv_iconst (v := 0) hc.x hc.b dX1_copyFrom_42 (by decide) ?_
  refine lv_aload_n hc.x hc.b dX1_copyFrom_43 rfl (lv_at hl 0 rfl) ?_
  refine fg_17_2 hc hd hL0 tw_100 dX1_copyFrom_44 ?_
  refine lv_iconst (v := 0) hc.x hc.b dX1_copyFrom_47 (by decide) ?_
  refine lv_bipush (v := 10) hc.x hc.b dX1_copyFrom_48 (by decide) ?_
  obtain ⟨hi_6, hf⟩ := ck_s hf
  refine r_copyi hc hd hl.1 tw_598 (cl_17_by hc.cl hL1) (cl_17_by hc.cl hL0) rfl (fun _ => rfl) hi_6 (Nat.le_of_ble_eq_true rfl) (Nat.le_of_ble_eq_true rfl) dX1_copyFrom_50 (fun H locs hd => ?_)
  obtain ⟨S_7, hd, hf⟩ := nmD hd hf
  cases hf
  exact r_vret hc hd hr dX1_copyFrom_53
theorem c_X1_copyFrom (l : Launch) (D : va_G) (cs : Nat → ClassId) (B0 : Nat) (kt : (Nat → Nat) × (Nat → Nat)) (α : Nat → Nat → Nat) (Lv : Nat → Nat → Prop) (S : St) (g0 : Nat) (g1 : Nat) (hcl : Cl Lv) (hL0 : Lv 17 g0) (hL1 : Lv 17 g1) {o : St} (hf : f_X1_copyFrom g0 g1 S = some o) : Met l yX1_copyFrom (wz yX1_copyFrom cX1_copyFrom 2 none) (Rm 2 0 0) (Pz D cs B0 kt α Lv S [.ref (α 17 g0), .ref (α 17 g1)]) (Qv D cs B0 α Lv o) 0 0 (AB B0) := met_of (by decide) rfl hcl (Nat.le_of_ble_eq_true rfl) (fun p e s m below meth c hc hr hd ls hl => b_X1_copyFrom hc hr hL0 hL1 hf hd hl)
theorem my_X1_copyFrom : MyV yX1_copyFrom "PumpCrossing$CostChanges" cX1_copyFrom 2 none 1 := ⟨tw_1287, tw_1288, tw_5, tw_1289, by decide +kernel⟩
def f_X1_counts (g0 : Nat) (x1 : Int32) (x2 : Int32) (x3 : Int32) (x4 : Int32) (g5 : Nat) (S : St) : Option (Int32) := ck (inb x1 10 = true) (bv (fun (v_2 : Int32) => ck (v_2 = 0 ∨ v_2 = 1) (some v_2)) (fun J_3 => bv (fun (_u : Unit) => J_3 0) (fun J_4 => br ((gi S 18 g0 (nn x1)) = x2) (ck (inb x1 10 = true) (bv (fun (v_7 : Int32) => br (v_7 = x4) (ck (inb x1 10 = true) (on (f_X0_has g5 ((gi S 19 g0 (nn x1)) - 1) S) (fun r_12 => br (r_12 = 0) (J_4 ()) (ck (inb x1 10 = true) (on (f_X0_has g5 (((gi S 19 g0 (nn x1)) - 1) + x3) S) (fun r_16 => br (r_16 = 0) (J_4 ()) (J_3 1))))))) (J_4 ())) (fun J_8 => br ((gi S 20 g0 (nn x1)) ≤ 0) (J_8 0) (J_8 1)))) (J_4 ()))))
set_option maxRecDepth 100000 in
set_option maxHeartbeats 4000000 in
theorem b_X1_counts (hc : Cx p s m args meth c cX1_counts 6 "PumpCrossing$CostChanges" D cs B0 kt Lv) (hr : meth.sig.returnType = some .boolean)  {o : Int32}  {S : St} {g0 : Nat} {x1 : Int32} {x2 : Int32} {x3 : Int32} {x4 : Int32} {g5 : Nat} (hL0 : Lv 17 g0) (hL5 : Lv 14 g5) {H : Heap} {locs : List Loc} {ls : Array Slot} (hf : f_X1_counts g0 x1 x2 x3 x4 g5 S = some o) (hd : Dy s D cs B0 α Lv S H locs) (hl : lv_has ls 6 [(0, .ref (α 17 g0)), (1, .int x1), (2, .int x2), (3, .int x3), (4, .int x4), (5, .ref (α 14 g5))]) : W p l e (Rm 5 0 0) s m args below meth c H locs 0 0 (MQ below (Qi D cs B0 α Lv o S) args s 0 0 (AB B0)) (F0 m 0 ls []) := by
  unfold f_X1_counts at hf
  refine lv_aload_n hc.x hc.b dX1_counts_0 rfl (lv_at hl 0 rfl) ?_
  refine fg_17_0 hc hd hL0 tw_98 dX1_counts_1 ?_
  refine lv_iload_n hc.x hc.b dX1_counts_4 rfl (lv_at hl 1 rfl) ?_
  obtain ⟨hi_1, hf⟩ := ck_s hf
  refine r_iald hc hd (cl_17_station hc.cl hL0) rfl hi_1 dX1_counts_5 ?_
  refine lv_iload_n hc.x hc.b dX1_counts_6 rfl (lv_at hl 2 rfl) ?_
  refine jn_s (P := fun J_3 => ∀ (v_2 : Int32) (H : Heap) (locs : List Loc) (ls : Array Slot), J_3 v_2 = some o → Dy s D cs B0 α Lv S H locs → lv_has ls 6 [] → W p l e (Rm 5 0 0) s m args below meth c H locs 0 0 (MQ below (Qi D cs B0 α Lv o S) args s 0 0 (AB B0)) (F0 m 68 ls [.int v_2])) hf ?_ (fun J_3 hJ_3 hf => ?_)
  · intro v_2 H locs ls hf hd hl
    obtain ⟨hz, hf⟩ := ck_s hf
    cases hf
    exact r_zret hc hd hr hz dX1_counts_68
  refine jn_s (P := fun J_4 => ∀ (_u : Unit) (H : Heap) (locs : List Loc) (ls : Array Slot), J_4 _u = some o → Dy s D cs B0 α Lv S H locs → lv_has ls 6 [] → W p l e (Rm 5 0 0) s m args below meth c H locs 0 0 (MQ below (Qi D cs B0 α Lv o S) args s 0 0 (AB B0)) (F0 m 67 ls [])) hf ?_ (fun J_4 hJ_4 hf => ?_)
  · intro _u H locs ls hf hd hl
    refine lv_iconst (v := 0) hc.x hc.b dX1_counts_67 (by decide) ?_
    exact hJ_3 0 _ _ _ hf hd (lv_sub hl [] rfl)
  refine lv_icmp_ne (tgt := 67) hc.x hc.b dX1_counts_7 (by decide) (fun c_5 => ?_) (fun c_5 => ?_)
  · have hf := br_n c_5 hf
    exact hJ_4 ()  _ _ _ hf hd (lv_sub hl [] rfl)
  · have hf := br_y c_5 hf
    refine lv_aload_n hc.x hc.b dX1_counts_10 rfl (lv_at hl 0 rfl) ?_
    refine fg_17_2 hc hd hL0 tw_100 dX1_counts_11 ?_
    refine lv_iload_n hc.x hc.b dX1_counts_14 rfl (lv_at hl 1 rfl) ?_
    obtain ⟨hi_6, hf⟩ := ck_s hf
    refine r_iald hc hd (cl_17_by hc.cl hL0) rfl hi_6 dX1_counts_15 ?_
    refine jn_s (P := fun J_8 => ∀ (v_7 : Int32) (H : Heap) (locs : List Loc) (ls : Array Slot), J_8 v_7 = some o → Dy s D cs B0 α Lv S H locs → lv_has ls 6 [(0, .ref (α 17 g0)), (1, .int x1), (3, .int x3), (4, .int x4), (5, .ref (α 14 g5))] → W p l e (Rm 5 0 0) s m args below meth c H locs 0 0 (MQ below (Qi D cs B0 α Lv o S) args s 0 0 (AB B0)) (F0 m 24 ls [.int v_7])) hf ?_ (fun J_8 hJ_8 hf => ?_)
    · intro v_7 H locs ls hf hd hl
      refine lv_iload hc.x hc.b dX1_counts_24 (lv_at hl 3 rfl) ?_
      refine lv_icmp_ne (tgt := 67) hc.x hc.b dX1_counts_26 (by decide) (fun c_9 => ?_) (fun c_9 => ?_)
      · have hf := br_n c_9 hf
        exact hJ_4 ()  _ _ _ hf hd (lv_sub hl [] rfl)
      · have hf := br_y c_9 hf
        refine lv_aload hc.x hc.b dX1_counts_29 (lv_at hl 4 rfl) ?_
        refine lv_aload_n hc.x hc.b dX1_counts_31 rfl (lv_at hl 0 rfl) ?_
        refine fg_17_1 hc hd hL0 tw_99 dX1_counts_32 ?_
        refine lv_iload_n hc.x hc.b dX1_counts_35 rfl (lv_at hl 1 rfl) ?_
        obtain ⟨hi_10, hf⟩ := ck_s hf
        refine r_iald hc hd (cl_17_hour hc.cl hL0) rfl hi_10 dX1_counts_36 ?_
        refine lv_iconst (v := 1) hc.x hc.b dX1_counts_37 (by decide) ?_
        refine lv_isub hc.x hc.b dX1_counts_38 ?_
        obtain ⟨r_12, hq_11, hf⟩ := on_s hf
        refine k_i (k_runV hc hd my_X0_has tw_941 hL5 rfl rfl rfl (c_X0_has l D cs B0 kt α Lv S g5 ((gi S 19 g0 (nn x1)) - 1) hc.cl hL5  hq_11) rfl rfl hl.1 (Nat.le_of_ble_eq_true rfl) ⟨Nat.le_of_ble_eq_true rfl, Nat.le_of_ble_eq_true rfl, Nat.zero_le _, Nat.zero_le _⟩ dX1_counts_39) hd (fun H locs hd => ?_)
        refine lv_if_eq (tgt := 67) hc.x hc.b dX1_counts_42 (by decide) (fun c_13 => ?_) (fun c_13 => ?_)
        · have hf := br_y c_13 hf
          exact hJ_4 ()  _ _ _ hf hd (lv_sub hl [] rfl)
        · have hf := br_n c_13 hf
          refine lv_aload hc.x hc.b dX1_counts_45 (lv_at hl 4 rfl) ?_
          refine lv_aload_n hc.x hc.b dX1_counts_47 rfl (lv_at hl 0 rfl) ?_
          refine fg_17_1 hc hd hL0 tw_99 dX1_counts_48 ?_
          refine lv_iload_n hc.x hc.b dX1_counts_51 rfl (lv_at hl 1 rfl) ?_
          obtain ⟨hi_14, hf⟩ := ck_s hf
          refine r_iald hc hd (cl_17_hour hc.cl hL0) rfl hi_14 dX1_counts_52 ?_
          refine lv_iconst (v := 1) hc.x hc.b dX1_counts_53 (by decide) ?_
          refine lv_isub hc.x hc.b dX1_counts_54 ?_
          refine lv_iload_n hc.x hc.b dX1_counts_55 rfl (lv_at hl 2 rfl) ?_
          refine lv_iadd hc.x hc.b dX1_counts_56 ?_
          obtain ⟨r_16, hq_15, hf⟩ := on_s hf
          refine k_i (k_runV hc hd my_X0_has tw_941 hL5 rfl rfl rfl (c_X0_has l D cs B0 kt α Lv S g5 (((gi S 19 g0 (nn x1)) - 1) + x3) hc.cl hL5  hq_15) rfl rfl hl.1 (Nat.le_of_ble_eq_true rfl) ⟨Nat.le_of_ble_eq_true rfl, Nat.le_of_ble_eq_true rfl, Nat.zero_le _, Nat.zero_le _⟩ dX1_counts_57) hd (fun H locs hd => ?_)
          refine lv_if_eq (tgt := 67) hc.x hc.b dX1_counts_60 (by decide) (fun c_17 => ?_) (fun c_17 => ?_)
          · have hf := br_y c_17 hf
            exact hJ_4 ()  _ _ _ hf hd (lv_sub hl [] rfl)
          · have hf := br_n c_17 hf
            refine lv_iconst (v := 1) hc.x hc.b dX1_counts_63 (by decide) ?_
            refine lv_goto (tgt := 68) hc.x hc.b dX1_counts_64 (by decide) ?_
            exact hJ_3 1 _ _ _ hf hd (lv_sub hl [] rfl)
    refine lv_if_le (tgt := 23) hc.x hc.b dX1_counts_16 (by decide) (fun c_18 => ?_) (fun c_18 => ?_)
    · have hf := br_y c_18 hf
      refine lv_iconst (v := 0) hc.x hc.b dX1_counts_23 (by decide) ?_
      exact hJ_8 0 _ _ _ hf hd (lv_sub hl [0, 1, 3, 4, 5] rfl)
    · have hf := br_n c_18 hf
      refine lv_iconst (v := 1) hc.x hc.b dX1_counts_19 (by decide) ?_
      refine lv_goto (tgt := 24) hc.x hc.b dX1_counts_20 (by decide) ?_
      exact hJ_8 1 _ _ _ hf hd (lv_sub hl [0, 1, 3, 4, 5] rfl)
theorem c_X1_counts (l : Launch) (D : va_G) (cs : Nat → ClassId) (B0 : Nat) (kt : (Nat → Nat) × (Nat → Nat)) (α : Nat → Nat → Nat) (Lv : Nat → Nat → Prop) (S : St) (g0 : Nat) (x1 : Int32) (x2 : Int32) (x3 : Int32) (x4 : Int32) (g5 : Nat) (hcl : Cl Lv) (hL0 : Lv 17 g0) (hL5 : Lv 14 g5) {o : Int32} (hf : f_X1_counts g0 x1 x2 x3 x4 g5 S = some o) : Met l yX1_counts (wz yX1_counts cX1_counts 6 (some .boolean)) (Rm 5 0 0) (Pz D cs B0 kt α Lv S [.ref (α 17 g0), .int x1, .int x2, .int x3, .int x4, .ref (α 14 g5)]) (Qi D cs B0 α Lv o S) 0 0 (AB B0) := met_of (by decide) rfl hcl (Nat.le_of_ble_eq_true rfl) (fun p e s m below meth c hc hr hd ls hl => b_X1_counts hc hr hL0 hL5 hf hd hl)
theorem my_X1_counts : MyV yX1_counts "PumpCrossing$CostChanges" cX1_counts 6 (some .boolean) 5 := ⟨tw_938, tw_939, tw_5, tw_940, by decide +kernel⟩
def f_X1_wentAlong (g0 : Nat) (x1 : Int32) (x2 : Int32) (g3 : Nat) (S : St) : Option (Int32) := ck (inb x1 10 = true) (ck (inb x1 10 = true) (on (f_X0_at g3 (gi S 18 g0 (nn x1)) ((gi S 19 g0 (nn x1)) - 1) S) (fun r_4 => ck (inb x1 10 = true) (ck (inb x1 10 = true) (on (f_X0_at g3 (gi S 18 g0 (nn x1)) (((gi S 19 g0 (nn x1)) - 1) + x2) S) (fun r_8 => ck (inb x1 10 = true) (bv (fun (v_10 : Int32) => bv (mxI 0 v_10) (fun q_12 => some q_12)) (fun J_11 => br ((gi S 20 g0 (nn x1)) ≤ 0) (J_11 (r_4 - r_8)) (J_11 (r_8 - r_4))))))))))
set_option maxRecDepth 100000 in
set_option maxHeartbeats 4000000 in
theorem b_X1_wentAlong (hc : Cx p s m args meth c cX1_wentAlong 6 "PumpCrossing$CostChanges" D cs B0 kt Lv) (hr : meth.sig.returnType = some .int)  {o : Int32}  {S : St} {g0 : Nat} {x1 : Int32} {x2 : Int32} {g3 : Nat} (hL0 : Lv 17 g0) (hL3 : Lv 14 g3) {H : Heap} {locs : List Loc} {ls : Array Slot} (hf : f_X1_wentAlong g0 x1 x2 g3 S = some o) (hd : Dy s D cs B0 α Lv S H locs) (hl : lv_has ls 6 [(0, .ref (α 17 g0)), (1, .int x1), (2, .int x2), (3, .ref (α 14 g3))]) : W p l e (Rm 2 0 0) s m args below meth c H locs 0 0 (MQ below (Qi D cs B0 α Lv o S) args s 0 0 (AB B0)) (F0 m 0 ls []) := by
  unfold f_X1_wentAlong at hf
  refine lv_aload_n hc.x hc.b dX1_wentAlong_0 rfl (lv_at hl 3 rfl) ?_
  refine lv_aload_n hc.x hc.b dX1_wentAlong_1 rfl (lv_at hl 0 rfl) ?_
  refine fg_17_0 hc hd hL0 tw_98 dX1_wentAlong_2 ?_
  refine lv_iload_n hc.x hc.b dX1_wentAlong_5 rfl (lv_at hl 1 rfl) ?_
  obtain ⟨hi_1, hf⟩ := ck_s hf
  refine r_iald hc hd (cl_17_station hc.cl hL0) rfl hi_1 dX1_wentAlong_6 ?_
  refine lv_aload_n hc.x hc.b dX1_wentAlong_7 rfl (lv_at hl 0 rfl) ?_
  refine fg_17_1 hc hd hL0 tw_99 dX1_wentAlong_8 ?_
  refine lv_iload_n hc.x hc.b dX1_wentAlong_11 rfl (lv_at hl 1 rfl) ?_
  obtain ⟨hi_2, hf⟩ := ck_s hf
  refine r_iald hc hd (cl_17_hour hc.cl hL0) rfl hi_2 dX1_wentAlong_12 ?_
  refine lv_iconst (v := 1) hc.x hc.b dX1_wentAlong_13 (by decide) ?_
  refine lv_isub hc.x hc.b dX1_wentAlong_14 ?_
  obtain ⟨r_4, hq_3, hf⟩ := on_s hf
  refine k_i (k_runV hc hd my_X0_at tw_949 hL3 rfl rfl rfl (c_X0_at l D cs B0 kt α Lv S g3 (gi S 18 g0 (nn x1)) ((gi S 19 g0 (nn x1)) - 1) hc.cl hL3  hq_3) rfl rfl hl.1 (Nat.le_of_ble_eq_true rfl) ⟨Nat.le_of_ble_eq_true rfl, Nat.le_of_ble_eq_true rfl, Nat.zero_le _, Nat.zero_le _⟩ dX1_wentAlong_15) hd (fun H locs hd => ?_)
  refine lv_istore (lv' := [(4, .int r_4), (0, .ref (α 17 g0)), (1, .int x1), (2, .int x2), (3, .ref (α 14 g3))]) hc.x hc.b dX1_wentAlong_18 hl (by decide) rfl (fun ls hl => ?_)
  refine lv_aload_n hc.x hc.b dX1_wentAlong_20 rfl (lv_at hl 4 rfl) ?_
  refine lv_aload_n hc.x hc.b dX1_wentAlong_21 rfl (lv_at hl 1 rfl) ?_
  refine fg_17_0 hc hd hL0 tw_98 dX1_wentAlong_22 ?_
  refine lv_iload_n hc.x hc.b dX1_wentAlong_25 rfl (lv_at hl 2 rfl) ?_
  obtain ⟨hi_5, hf⟩ := ck_s hf
  refine r_iald hc hd (cl_17_station hc.cl hL0) rfl hi_5 dX1_wentAlong_26 ?_
  refine lv_aload_n hc.x hc.b dX1_wentAlong_27 rfl (lv_at hl 1 rfl) ?_
  refine fg_17_1 hc hd hL0 tw_99 dX1_wentAlong_28 ?_
  refine lv_iload_n hc.x hc.b dX1_wentAlong_31 rfl (lv_at hl 2 rfl) ?_
  obtain ⟨hi_6, hf⟩ := ck_s hf
  refine r_iald hc hd (cl_17_hour hc.cl hL0) rfl hi_6 dX1_wentAlong_32 ?_
  refine lv_iconst (v := 1) hc.x hc.b dX1_wentAlong_33 (by decide) ?_
  refine lv_isub hc.x hc.b dX1_wentAlong_34 ?_
  refine lv_iload_n hc.x hc.b dX1_wentAlong_35 rfl (lv_at hl 3 rfl) ?_
  refine lv_iadd hc.x hc.b dX1_wentAlong_36 ?_
  obtain ⟨r_8, hq_7, hf⟩ := on_s hf
  refine k_i (k_runV hc hd my_X0_at tw_949 hL3 rfl rfl rfl (c_X0_at l D cs B0 kt α Lv S g3 (gi S 18 g0 (nn x1)) (((gi S 19 g0 (nn x1)) - 1) + x2) hc.cl hL3  hq_7) rfl rfl hl.1 (Nat.le_of_ble_eq_true rfl) ⟨Nat.le_of_ble_eq_true rfl, Nat.le_of_ble_eq_true rfl, Nat.zero_le _, Nat.zero_le _⟩ dX1_wentAlong_37) hd (fun H locs hd => ?_)
  refine lv_istore (lv' := [(5, .int r_8), (4, .int r_4), (0, .ref (α 17 g0)), (1, .int x1), (2, .int x2), (3, .ref (α 14 g3))]) hc.x hc.b dX1_wentAlong_40 hl (by decide) rfl (fun ls hl => ?_)
  refine lv_iconst (v := 0) hc.x hc.b dX1_wentAlong_42 (by decide) ?_
  refine lv_aload_n hc.x hc.b dX1_wentAlong_43 rfl (lv_at hl 2 rfl) ?_
  refine fg_17_2 hc hd hL0 tw_100 dX1_wentAlong_44 ?_
  refine lv_iload_n hc.x hc.b dX1_wentAlong_47 rfl (lv_at hl 3 rfl) ?_
  obtain ⟨hi_9, hf⟩ := ck_s hf
  refine r_iald hc hd (cl_17_by hc.cl hL0) rfl hi_9 dX1_wentAlong_48 ?_
  refine jn_s (P := fun J_11 => ∀ (v_10 : Int32) (H : Heap) (locs : List Loc) (ls : Array Slot), J_11 v_10 = some o → Dy s D cs B0 α Lv S H locs → lv_has ls 6 [] → W p l e (Rm 2 0 0) s m args below meth c H locs 0 0 (MQ below (Qi D cs B0 α Lv o S) args s 0 0 (AB B0)) (F0 m 65 ls [.int v_10, .int 0])) hf ?_ (fun J_11 hJ_11 hf => ?_)
  · intro v_10 H locs ls hf hd hl
    refine r_max hc hl.1 tw_950 (Nat.le_of_ble_eq_true rfl) (Nat.le_of_ble_eq_true rfl) (Nat.zero_le _) (Nat.zero_le _) dX1_wentAlong_65 ?_
    refine lv_topi (fun q_12 eq_12 => ?_)
    have hf := bv_n eq_12 hf
    cases hf
    exact r_iret hc hd hr dX1_wentAlong_68
  refine lv_if_le (tgt := 60) hc.x hc.b dX1_wentAlong_49 (by decide) (fun c_13 => ?_) (fun c_13 => ?_)
  · have hf := br_y c_13 hf
    refine lv_iload hc.x hc.b dX1_wentAlong_60 (lv_at hl 1 rfl) ?_
    refine lv_iload hc.x hc.b dX1_wentAlong_62 (lv_at hl 0 rfl) ?_
    refine lv_isub hc.x hc.b dX1_wentAlong_64 ?_
    exact hJ_11 (r_4 - r_8) _ _ _ hf hd (lv_sub hl [] rfl)
  · have hf := br_n c_13 hf
    refine lv_iload hc.x hc.b dX1_wentAlong_52 (lv_at hl 0 rfl) ?_
    refine lv_iload hc.x hc.b dX1_wentAlong_54 (lv_at hl 1 rfl) ?_
    refine lv_isub hc.x hc.b dX1_wentAlong_56 ?_
    refine lv_goto (tgt := 65) hc.x hc.b dX1_wentAlong_57 (by decide) ?_
    exact hJ_11 (r_8 - r_4) _ _ _ hf hd (lv_sub hl [] rfl)
theorem c_X1_wentAlong (l : Launch) (D : va_G) (cs : Nat → ClassId) (B0 : Nat) (kt : (Nat → Nat) × (Nat → Nat)) (α : Nat → Nat → Nat) (Lv : Nat → Nat → Prop) (S : St) (g0 : Nat) (x1 : Int32) (x2 : Int32) (g3 : Nat) (hcl : Cl Lv) (hL0 : Lv 17 g0) (hL3 : Lv 14 g3) {o : Int32} (hf : f_X1_wentAlong g0 x1 x2 g3 S = some o) : Met l yX1_wentAlong (wz yX1_wentAlong cX1_wentAlong 6 (some .int)) (Rm 2 0 0) (Pz D cs B0 kt α Lv S [.ref (α 17 g0), .int x1, .int x2, .ref (α 14 g3)]) (Qi D cs B0 α Lv o S) 0 0 (AB B0) := met_of (by decide) rfl hcl (Nat.le_of_ble_eq_true rfl) (fun p e s m below meth c hc hr hd ls hl => b_X1_wentAlong hc hr hL0 hL3 hf hd hl)
theorem my_X1_wentAlong : MyV yX1_wentAlong "PumpCrossing$CostChanges" cX1_wentAlong 6 (some .int) 3 := ⟨tw_946, tw_947, tw_5, tw_948, by decide +kernel⟩
def f_X3_add (g0 : Nat) (x1 : Int32) (x2 : Int32) (x3 : Int32) (x4 : Int32) (S : St) : Option (Int32 × St) := br ((gi S 9 g0 0) < 6) (ck (inb (gi S 9 g0 0) 6 = true) (bv (si S 10 g0 (nn (gi S 9 g0 0)) x1) (fun S_3 => ck (inb (gi S_3 9 g0 0) 6 = true) (bv (si S_3 11 g0 (nn (gi S_3 9 g0 0)) x2) (fun S_5 => ck (inb (gi S_5 9 g0 0) 6 = true) (bv (si S_5 12 g0 (nn (gi S_5 9 g0 0)) x3) (fun S_7 => ck (inb (gi S_7 9 g0 0) 6 = true) (bv (si S_7 13 g0 (nn (gi S_7 9 g0 0)) x4) (fun S_9 => bv (gi S_9 9 g0 0) (fun q_10 => bv (si S_9 9 g0 0 (q_10 + 1)) (fun S_11 => some (q_10, S_11)))))))))))) (some ((-1), S))
set_option maxRecDepth 100000 in
set_option maxHeartbeats 4000000 in
theorem b_X3_add (hc : Cx p s m args meth c cX3_add 5 "PumpCrossing$Drivers" D cs B0 kt Lv) (hr : meth.sig.returnType = some .int)  {o : Int32 × St}  {S : St} {g0 : Nat} {x1 : Int32} {x2 : Int32} {x3 : Int32} {x4 : Int32} (hL0 : Lv 9 g0) {H : Heap} {locs : List Loc} {ls : Array Slot} (hf : f_X3_add g0 x1 x2 x3 x4 S = some o) (hd : Dy s D cs B0 α Lv S H locs) (hl : lv_has ls 5 [(0, .ref (α 9 g0)), (1, .int x1), (2, .int x2), (3, .int x3), (4, .int x4)]) : W p l e (Rm 0 0 0) s m args below meth c H locs 0 0 (MQ below (Qi D cs B0 α Lv o.1 o.2) args s 0 0 (AB B0)) (F0 m 0 ls []) := by
  unfold f_X3_add at hf
  refine lv_aload_n hc.x hc.b dX3_add_0 rfl (lv_at hl 0 rfl) ?_
  refine fg_9_0 hc hd hL0 tw_49 dX3_add_1 ?_
  refine lv_bipush (v := 6) hc.x hc.b dX3_add_4 (by decide) ?_
  refine lv_icmp_lt (tgt := 11) hc.x hc.b dX3_add_6 (by decide) (fun c_1 => ?_) (fun c_1 => ?_)
  · have hf := br_y c_1 hf
    refine lv_aload_n hc.x hc.b dX3_add_11 rfl (lv_at hl 0 rfl) ?_
    refine fg_9_1 hc hd hL0 tw_52 dX3_add_12 ?_
    refine lv_aload_n hc.x hc.b dX3_add_15 rfl (lv_at hl 0 rfl) ?_
    refine fg_9_0 hc hd hL0 tw_49 dX3_add_16 ?_
    refine lv_iload_n hc.x hc.b dX3_add_19 rfl (lv_at hl 1 rfl) ?_
    obtain ⟨hi_2, hf⟩ := ck_s hf
    refine r_iast hc hd (cl_9_many hc.cl hL0) (fun _ => rfl) hi_2 dX3_add_20 (fun H locs hd => ?_)
    obtain ⟨S_3, hd, hf⟩ := nmD hd hf
    refine lv_aload_n hc.x hc.b dX3_add_21 rfl (lv_at hl 0 rfl) ?_
    refine fg_9_2 hc hd hL0 tw_54 dX3_add_22 ?_
    refine lv_aload_n hc.x hc.b dX3_add_25 rfl (lv_at hl 0 rfl) ?_
    refine fg_9_0 hc hd hL0 tw_49 dX3_add_26 ?_
    refine lv_iload_n hc.x hc.b dX3_add_29 rfl (lv_at hl 2 rfl) ?_
    obtain ⟨hi_4, hf⟩ := ck_s hf
    refine r_iast hc hd (cl_9_habits hc.cl hL0) (fun _ => rfl) hi_4 dX3_add_30 (fun H locs hd => ?_)
    obtain ⟨S_5, hd, hf⟩ := nmD hd hf
    refine lv_aload_n hc.x hc.b dX3_add_31 rfl (lv_at hl 0 rfl) ?_
    refine fg_9_3 hc hd hL0 tw_55 dX3_add_32 ?_
    refine lv_aload_n hc.x hc.b dX3_add_35 rfl (lv_at hl 0 rfl) ?_
    refine fg_9_0 hc hd hL0 tw_49 dX3_add_36 ?_
    refine lv_iload_n hc.x hc.b dX3_add_39 rfl (lv_at hl 3 rfl) ?_
    obtain ⟨hi_6, hf⟩ := ck_s hf
    refine r_iast hc hd (cl_9_knows hc.cl hL0) (fun _ => rfl) hi_6 dX3_add_40 (fun H locs hd => ?_)
    obtain ⟨S_7, hd, hf⟩ := nmD hd hf
    refine lv_aload_n hc.x hc.b dX3_add_41 rfl (lv_at hl 0 rfl) ?_
    refine fg_9_4 hc hd hL0 tw_56 dX3_add_42 ?_
    refine lv_aload_n hc.x hc.b dX3_add_45 rfl (lv_at hl 0 rfl) ?_
    refine fg_9_0 hc hd hL0 tw_49 dX3_add_46 ?_
    refine lv_iload hc.x hc.b dX3_add_49 (lv_at hl 4 rfl) ?_
    obtain ⟨hi_8, hf⟩ := ck_s hf
    refine r_iast hc hd (cl_9_detours hc.cl hL0) (fun _ => rfl) hi_8 dX3_add_51 (fun H locs hd => ?_)
    obtain ⟨S_9, hd, hf⟩ := nmD hd hf
    refine lv_aload_n hc.x hc.b dX3_add_52 rfl (lv_at hl 0 rfl) ?_
    refine lv_dup hc.x hc.b dX3_add_53 rfl ?_
    refine fg_9_0 hc hd hL0 tw_49 dX3_add_54 ?_
    refine lv_topi (fun q_10 eq_10 => ?_)
    have hf := bv_n eq_10 hf
    refine lv_dup_x1 hc.x hc.b dX3_add_57 rfl rfl ?_
    refine lv_iconst (v := 1) hc.x hc.b dX3_add_58 (by decide) ?_
    refine lv_iadd hc.x hc.b dX3_add_59 ?_
    refine fp_9_0 hc hd hL0 tw_49 dX3_add_60 (fun H locs hd => ?_)
    obtain ⟨S_11, hd, hf⟩ := nmD hd hf
    cases hf
    exact r_iret hc hd hr dX3_add_63
  · have hf := br_n c_1 hf
    refine lv_iconst (v := (-1)) hc.x hc.b dX3_add_9 (by decide) ?_
    cases hf
    exact r_iret hc hd hr dX3_add_10
theorem c_X3_add (l : Launch) (D : va_G) (cs : Nat → ClassId) (B0 : Nat) (kt : (Nat → Nat) × (Nat → Nat)) (α : Nat → Nat → Nat) (Lv : Nat → Nat → Prop) (S : St) (g0 : Nat) (x1 : Int32) (x2 : Int32) (x3 : Int32) (x4 : Int32) (hcl : Cl Lv) (hL0 : Lv 9 g0) {o : Int32 × St} (hf : f_X3_add g0 x1 x2 x3 x4 S = some o) : Met l yX3_add (wz yX3_add cX3_add 5 (some .int)) (Rm 0 0 0) (Pz D cs B0 kt α Lv S [.ref (α 9 g0), .int x1, .int x2, .int x3, .int x4]) (Qi D cs B0 α Lv o.1 o.2) 0 0 (AB B0) := met_of (by decide) rfl hcl (Nat.le_of_ble_eq_true rfl) (fun p e s m below meth c hc hr hd ls hl => b_X3_add hc hr hL0 hf hd hl)
theorem my_X3_add : MyV yX3_add "PumpCrossing$Drivers" cX3_add 5 (some .int) 4 := ⟨tw_580, tw_581, tw_3, tw_582, by decide +kernel⟩
def f_X3_copyFrom (g0 : Nat) (g1 : Nat) (S : St) : Option (St) := bv (si S 9 g0 0 (gi S 9 g1 0)) (fun S_1 => ck (cpok 0 0 6 6 6 = true) (bv (ai S_1 10 g0 (va_cpy (gi S_1 10 g1) (gi S_1 10 g0) (nn 0) (nn 0) (nn 6))) (fun S_3 => ck (cpok 0 0 6 6 6 = true) (bv (ai S_3 11 g0 (va_cpy (gi S_3 11 g1) (gi S_3 11 g0) (nn 0) (nn 0) (nn 6))) (fun S_5 => ck (cpok 0 0 6 6 6 = true) (bv (ai S_5 12 g0 (va_cpy (gi S_5 12 g1) (gi S_5 12 g0) (nn 0) (nn 0) (nn 6))) (fun S_7 => ck (cpok 0 0 6 6 6 = true) (bv (ai S_7 13 g0 (va_cpy (gi S_7 13 g1) (gi S_7 13 g0) (nn 0) (nn 0) (nn 6))) (fun S_9 => some S_9)))))))))
set_option maxRecDepth 100000 in
set_option maxHeartbeats 4000000 in
theorem b_X3_copyFrom (hc : Cx p s m args meth c cX3_copyFrom 2 "PumpCrossing$Drivers" D cs B0 kt Lv) (hr : meth.sig.returnType = none)  {o : St}  {S : St} {g0 : Nat} {g1 : Nat} (hL0 : Lv 9 g0) (hL1 : Lv 9 g1) {H : Heap} {locs : List Loc} {ls : Array Slot} (hf : f_X3_copyFrom g0 g1 S = some o) (hd : Dy s D cs B0 α Lv S H locs) (hl : lv_has ls 2 [(0, .ref (α 9 g0)), (1, .ref (α 9 g1))]) : W p l e (Rm 2 0 0) s m args below meth c H locs 0 0 (MQ below (Qv D cs B0 α Lv o) args s 0 0 (AB B0)) (F0 m 0 ls []) := by
  unfold f_X3_copyFrom at hf
  refine lv_aload_n hc.x hc.b dX3_copyFrom_0 rfl (lv_at hl 0 rfl) ?_
  refine lv_aload_n hc.x hc.b dX3_copyFrom_1 rfl (lv_at hl 1 rfl) ?_
  refine fg_9_0 hc hd hL1 tw_49 dX3_copyFrom_2 ?_
  refine fp_9_0 hc hd hL0 tw_49 dX3_copyFrom_5 (fun H locs hd => ?_)
  obtain ⟨S_1, hd, hf⟩ := nmD hd hf
  refine lv_aload_n hc.x hc.b dX3_copyFrom_8 rfl (lv_at hl 1 rfl) ?_
  refine fg_9_1 hc hd hL1 tw_52 dX3_copyFrom_9 ?_
  refine lv_iconst (v := 0) hc.x hc.b dX3_copyFrom_12 (by decide) ?_
  refine lv_aload_n hc.x hc.b dX3_copyFrom_13 rfl (lv_at hl 0 rfl) ?_
  refine fg_9_1 hc hd hL0 tw_52 dX3_copyFrom_14 ?_
  refine lv_iconst (v := 0) hc.x hc.b dX3_copyFrom_17 (by decide) ?_
  refine lv_bipush (v := 6) hc.x hc.b dX3_copyFrom_18 (by decide) ?_
  obtain ⟨hi_2, hf⟩ := ck_s hf
  refine r_copyi hc hd hl.1 tw_1281 (cl_9_many hc.cl hL1) (cl_9_many hc.cl hL0) rfl (fun _ => rfl) hi_2 (Nat.le_of_ble_eq_true rfl) (Nat.le_of_ble_eq_true rfl) dX3_copyFrom_20 (fun H locs hd => ?_)
  obtain ⟨S_3, hd, hf⟩ := nmD hd hf
  refine lv_aload_n hc.x hc.b dX3_copyFrom_23 rfl (lv_at hl 1 rfl) ?_
  refine fg_9_2 hc hd hL1 tw_54 dX3_copyFrom_24 ?_
  refine lv_iconst (v := 0) hc.x hc.b dX3_copyFrom_27 (by decide) ?_
  refine lv_aload_n hc.x hc.b dX3_copyFrom_28 rfl (lv_at hl 0 rfl) ?_
  refine fg_9_2 hc hd hL0 tw_54 dX3_copyFrom_29 ?_
  refine lv_iconst (v := 0) hc.x hc.b dX3_copyFrom_32 (by decide) ?_
  refine lv_bipush (v := 6) hc.x hc.b dX3_copyFrom_33 (by decide) ?_
  obtain ⟨hi_4, hf⟩ := ck_s hf
  refine r_copyi hc hd hl.1 tw_1281 (cl_9_habits hc.cl hL1) (cl_9_habits hc.cl hL0) rfl (fun _ => rfl) hi_4 (Nat.le_of_ble_eq_true rfl) (Nat.le_of_ble_eq_true rfl) dX3_copyFrom_35 (fun H locs hd => ?_)
  obtain ⟨S_5, hd, hf⟩ := nmD hd hf
  refine lv_aload_n hc.x hc.b dX3_copyFrom_38 rfl (lv_at hl 1 rfl) ?_
  refine fg_9_3 hc hd hL1 tw_55 dX3_copyFrom_39 ?_
  refine lv_iconst (v := 0) hc.x hc.b dX3_copyFrom_42 (by decide) ?_
  refine lv_aload_n hc.x hc.b dX3_copyFrom_43 rfl (lv_at hl 0 rfl) ?_
  refine fg_9_3 hc hd hL0 tw_55 dX3_copyFrom_44 ?_
  refine lv_iconst (v := 0) hc.x hc.b dX3_copyFrom_47 (by decide) ?_
  refine lv_bipush (v := 6) hc.x hc.b dX3_copyFrom_48 (by decide) ?_
  obtain ⟨hi_6, hf⟩ := ck_s hf
  refine r_copyi hc hd hl.1 tw_1281 (cl_9_knows hc.cl hL1) (cl_9_knows hc.cl hL0) rfl (fun _ => rfl) hi_6 (Nat.le_of_ble_eq_true rfl) (Nat.le_of_ble_eq_true rfl) dX3_copyFrom_50 (fun H locs hd => ?_)
  obtain ⟨S_7, hd, hf⟩ := nmD hd hf
  refine lv_aload_n hc.x hc.b dX3_copyFrom_53 rfl (lv_at hl 1 rfl) ?_
  refine fg_9_4 hc hd hL1 tw_56 dX3_copyFrom_54 ?_
  refine lv_iconst (v := 0) hc.x hc.b dX3_copyFrom_57 (by decide) ?_
  refine lv_aload_n hc.x hc.b dX3_copyFrom_58 rfl (lv_at hl 0 rfl) ?_
  refine fg_9_4 hc hd hL0 tw_56 dX3_copyFrom_59 ?_
  refine lv_iconst (v := 0) hc.x hc.b dX3_copyFrom_62 (by decide) ?_
  refine lv_bipush (v := 6) hc.x hc.b dX3_copyFrom_63 (by decide) ?_
  obtain ⟨hi_8, hf⟩ := ck_s hf
  refine r_copyi hc hd hl.1 tw_1281 (cl_9_detours hc.cl hL1) (cl_9_detours hc.cl hL0) rfl (fun _ => rfl) hi_8 (Nat.le_of_ble_eq_true rfl) (Nat.le_of_ble_eq_true rfl) dX3_copyFrom_65 (fun H locs hd => ?_)
  obtain ⟨S_9, hd, hf⟩ := nmD hd hf
  cases hf
  exact r_vret hc hd hr dX3_copyFrom_68
theorem c_X3_copyFrom (l : Launch) (D : va_G) (cs : Nat → ClassId) (B0 : Nat) (kt : (Nat → Nat) × (Nat → Nat)) (α : Nat → Nat → Nat) (Lv : Nat → Nat → Prop) (S : St) (g0 : Nat) (g1 : Nat) (hcl : Cl Lv) (hL0 : Lv 9 g0) (hL1 : Lv 9 g1) {o : St} (hf : f_X3_copyFrom g0 g1 S = some o) : Met l yX3_copyFrom (wz yX3_copyFrom cX3_copyFrom 2 none) (Rm 2 0 0) (Pz D cs B0 kt α Lv S [.ref (α 9 g0), .ref (α 9 g1)]) (Qv D cs B0 α Lv o) 0 0 (AB B0) := met_of (by decide) rfl hcl (Nat.le_of_ble_eq_true rfl) (fun p e s m below meth c hc hr hd ls hl => b_X3_copyFrom hc hr hL0 hL1 hf hd hl)
theorem my_X3_copyFrom : MyV yX3_copyFrom "PumpCrossing$Drivers" cX3_copyFrom 2 none 1 := ⟨tw_1278, tw_1279, tw_3, tw_1280, by decide +kernel⟩
def f_X3_placeOf_27 (g0 : Nat) (x1 : Int32) (g2 : Nat) (x6 : Int32) (S : St) (K : Int32 → Option (Int32)) : Nat → Int32 → Int32 → Int32 → Option (Int32)
  | 0, _, _, _ => none
  | n + 1, x4, x5, x7 => br (4 ≤ x7) (K x4) (ck (inb x1 6 = true) (bv (fun (v_9 : Int32) => bv (fun (x4_11 : Int32) (x5_12 : Int32) => bv (x7 + 1) (fun x7_14 => f_X3_placeOf_27 g0 x1 g2 x6 S K n x4_11 x5_12 x7_14)) (fun J_13 => br (v_9 = 0) (J_13 x4 x5) (ck (inb x7 4 = true) (ck (inb x1 6 = true) (br (x5 ≤ ((gi S 26 g2 (nn x7)) + (gi S 13 g0 (nn x1)))) (J_13 x4 x5) (ck (inb x7 4 = true) (ck (inb x1 6 = true) (bv ((gi S 26 g2 (nn x7)) + (gi S 13 g0 (nn x1))) (fun x5_21 => J_13 x7 x5_21))))))))) (fun J_10 => bv (fun (_u : Unit) => J_10 0) (fun J_22 => br (x7 = (gi S 11 g0 (nn x1))) (J_22 ()) (br ((((x6 : Int32) >>> (x7 &&& 31)) &&& 1) = 1) (J_10 1) (J_22 ()))))))
def f_X3_placeOf (g0 : Nat) (x1 : Int32) (g2 : Nat) (x3 : Int32) (S : St) : Option (Int32) := ck (inb x1 6 = true) (bv (gi S 11 g0 (nn x1)) (fun x4_2 => ck (inb x4_2 4 = true) (bv (gi S 26 g2 (nn x4_2)) (fun x5_4 => ck (inb x1 6 = true) (bv ((gi S 12 g0 (nn x1)) ||| x3) (fun x6_6 => f_X3_placeOf_27 g0 x1 g2 x6_6 S (fun (x4_25 : Int32) => some x4_25) FU x4_2 x5_4 0))))))
set_option maxRecDepth 100000 in
set_option maxHeartbeats 4000000 in
theorem w_X3_placeOf_27 (hc : Cx p s m args meth c cX3_placeOf 9 "PumpCrossing$Drivers" D cs B0 kt Lv) (hr : meth.sig.returnType = some .int) {o : Int32}  {g0 : Nat} {x1 : Int32} {g2 : Nat} {x6 : Int32} {S : St} {K : Int32 → Option (Int32)} (hL0 : Lv 9 g0) (hL2 : Lv 26 g2) (hK : ∀ (k4 : Int32) (H : Heap) (locs : List Loc) (ls : Array Slot), K k4 = some o → Dy s D cs B0 α Lv S H locs → lv_has ls 9 [(4, .int k4)] → W p l e (Rm 0 0 0) s m args below meth c H locs 0 0 (MQ below (Qi D cs B0 α Lv o S) args s 0 0 (AB B0)) (F0 m 106 ls [])) : ∀ (n : Nat) (x4 : Int32) (x5 : Int32) (x7 : Int32) (H : Heap) (locs : List Loc) (ls : Array Slot), f_X3_placeOf_27 g0 x1 g2 x6 S K n x4 x5 x7 = some o → Dy s D cs B0 α Lv S H locs → lv_has ls 9 [(0, .ref (α 9 g0)), (1, .int x1), (2, .ref (α 26 g2)), (6, .int x6), (4, .int x4), (5, .int x5), (7, .int x7)] → W p l e (Rm 0 0 0) s m args below meth c H locs 0 0 (MQ below (Qi D cs B0 α Lv o S) args s 0 0 (AB B0)) (F0 m 27 ls []) := by
  intro n
  induction n with
  | zero =>
    intro x4 x5 x7 H locs ls hf
    rw [f_X3_placeOf_27] at hf
    cases hf
  | succ n ih =>
    intro x4 x5 x7 H locs ls hf hd hl
    rw [f_X3_placeOf_27] at hf
    refine lv_iload hc.x hc.b dX3_placeOf_27 (lv_at hl 6 rfl) ?_
    refine lv_iconst (v := 4) hc.x hc.b dX3_placeOf_29 (by decide) ?_
    refine lv_icmp_ge (tgt := 106) hc.x hc.b dX3_placeOf_30 (by decide) (fun c_7 => ?_) (fun c_7 => ?_)
    · have hf := br_y c_7 hf
      exact hK x4 _ _ _ hf hd (lv_sub hl [4] rfl)
    · have hf := br_n c_7 hf
      refine lv_iload hc.x hc.b dX3_placeOf_33 (lv_at hl 6 rfl) ?_
      refine lv_aload_n hc.x hc.b dX3_placeOf_35 rfl (lv_at hl 0 rfl) ?_
      refine fg_9_2 hc hd hL0 tw_54 dX3_placeOf_36 ?_
      refine lv_iload_n hc.x hc.b dX3_placeOf_39 rfl (lv_at hl 1 rfl) ?_
      obtain ⟨hi_8, hf⟩ := ck_s hf
      refine r_iald hc hd (cl_9_habits hc.cl hL0) rfl hi_8 dX3_placeOf_40 ?_
      refine jn_s (P := fun J_10 => ∀ (v_9 : Int32) (H : Heap) (locs : List Loc) (ls : Array Slot), J_10 v_9 = some o → Dy s D cs B0 α Lv S H locs → lv_has ls 9 [(0, .ref (α 9 g0)), (1, .int x1), (2, .ref (α 26 g2)), (4, .int x4), (5, .int x5), (6, .int x6), (7, .int x7)] → W p l e (Rm 0 0 0) s m args below meth c H locs 0 0 (MQ below (Qi D cs B0 α Lv o S) args s 0 0 (AB B0)) (F0 m 60 ls [.int v_9])) hf ?_ (fun J_10 hJ_10 hf => ?_)
      · intro v_9 H locs ls hf hd hl
        refine lv_istore (lv' := [(8, .int v_9), (0, .ref (α 9 g0)), (1, .int x1), (2, .ref (α 26 g2)), (4, .int x4), (5, .int x5), (6, .int x6), (7, .int x7)]) hc.x hc.b dX3_placeOf_60 hl (by decide) rfl (fun ls hl => ?_)
        refine lv_iload hc.x hc.b dX3_placeOf_62 (lv_at hl 0 rfl) ?_
        refine jn_s (P := fun J_13 => ∀ (x4_11 : Int32) (x5_12 : Int32) (H : Heap) (locs : List Loc) (ls : Array Slot), J_13 x4_11 x5_12 = some o → Dy s D cs B0 α Lv S H locs → lv_has ls 9 [(0, .ref (α 9 g0)), (1, .int x1), (2, .ref (α 26 g2)), (4, .int x4_11), (5, .int x5_12), (6, .int x6), (7, .int x7)] → W p l e (Rm 0 0 0) s m args below meth c H locs 0 0 (MQ below (Qi D cs B0 α Lv o S) args s 0 0 (AB B0)) (F0 m 100 ls [])) hf ?_ (fun J_13 hJ_13 hf => ?_)
        · intro x4_11 x5_12 H locs ls hf hd hl
          obtain ⟨x7_14, ex7_14⟩ : ∃ z : Int32, z = x7 + 1 := ⟨_, rfl⟩
          have hf := bv_n ex7_14 hf
          refine lv_iinc (v := x7_14) (lv' := [(7, .int x7_14), (0, .ref (α 9 g0)), (1, .int x1), (2, .ref (α 26 g2)), (4, .int x4_11), (5, .int x5_12), (6, .int x6)]) hc.x hc.b dX3_placeOf_100 hl (k := 6) rfl (by rw [ex7_14]; rfl) (by decide) rfl (fun ls hl => ?_)
          refine lv_goto (tgt := 27) hc.x hc.b dX3_placeOf_103 (by decide) ?_
          exact ih x4_11 x5_12 x7_14 _ _ _ hf hd (lv_sub hl [1, 2, 3, 6, 4, 5, 0] rfl)
        refine lv_if_eq (tgt := 100) hc.x hc.b dX3_placeOf_64 (by decide) (fun c_15 => ?_) (fun c_15 => ?_)
        · have hf := br_y c_15 hf
          exact hJ_13 x4 x5 _ _ _ hf hd (lv_sub hl [1, 2, 3, 4, 5, 6, 7] rfl)
        · have hf := br_n c_15 hf
          refine lv_aload_n hc.x hc.b dX3_placeOf_67 rfl (lv_at hl 3 rfl) ?_
          refine lv_iload hc.x hc.b dX3_placeOf_68 (lv_at hl 7 rfl) ?_
          obtain ⟨hi_16, hf⟩ := ck_s hf
          refine r_iald hc hd hL2 rfl hi_16 dX3_placeOf_70 ?_
          refine lv_aload_n hc.x hc.b dX3_placeOf_71 rfl (lv_at hl 1 rfl) ?_
          refine fg_9_4 hc hd hL0 tw_56 dX3_placeOf_72 ?_
          refine lv_iload_n hc.x hc.b dX3_placeOf_75 rfl (lv_at hl 2 rfl) ?_
          obtain ⟨hi_17, hf⟩ := ck_s hf
          refine r_iald hc hd (cl_9_detours hc.cl hL0) rfl hi_17 dX3_placeOf_76 ?_
          refine lv_iadd hc.x hc.b dX3_placeOf_77 ?_
          refine lv_iload hc.x hc.b dX3_placeOf_78 (lv_at hl 5 rfl) ?_
          refine lv_icmp_ge (tgt := 100) hc.x hc.b dX3_placeOf_80 (by decide) (fun c_18 => ?_) (fun c_18 => ?_)
          · have hf := br_y c_18 hf
            exact hJ_13 x4 x5 _ _ _ hf hd (lv_sub hl [1, 2, 3, 4, 5, 6, 7] rfl)
          · have hf := br_n c_18 hf
            refine lv_aload_n hc.x hc.b dX3_placeOf_83 rfl (lv_at hl 3 rfl) ?_
            refine lv_iload hc.x hc.b dX3_placeOf_84 (lv_at hl 7 rfl) ?_
            obtain ⟨hi_19, hf⟩ := ck_s hf
            refine r_iald hc hd hL2 rfl hi_19 dX3_placeOf_86 ?_
            refine lv_aload_n hc.x hc.b dX3_placeOf_87 rfl (lv_at hl 1 rfl) ?_
            refine fg_9_4 hc hd hL0 tw_56 dX3_placeOf_88 ?_
            refine lv_iload_n hc.x hc.b dX3_placeOf_91 rfl (lv_at hl 2 rfl) ?_
            obtain ⟨hi_20, hf⟩ := ck_s hf
            refine r_iald hc hd (cl_9_detours hc.cl hL0) rfl hi_20 dX3_placeOf_92 ?_
            refine lv_iadd hc.x hc.b dX3_placeOf_93 ?_
            refine lv_topi (fun x5_21 ex5_21 => ?_)
            have hf := bv_n ex5_21 hf
            refine lv_istore (lv' := [(5, .int x5_21), (8, .int v_9), (0, .ref (α 9 g0)), (1, .int x1), (2, .ref (α 26 g2)), (4, .int x4), (6, .int x6), (7, .int x7)]) hc.x hc.b dX3_placeOf_94 hl (by decide) rfl (fun ls hl => ?_)
            refine lv_iload hc.x hc.b dX3_placeOf_96 (lv_at hl 7 rfl) ?_
            refine lv_istore (lv' := [(4, .int x7), (5, .int x5_21), (8, .int v_9), (0, .ref (α 9 g0)), (1, .int x1), (2, .ref (α 26 g2)), (6, .int x6), (7, .int x7)]) hc.x hc.b dX3_placeOf_98 hl (by decide) rfl (fun ls hl => ?_)
            exact hJ_13 x7 x5_21 _ _ _ hf hd (lv_sub hl [3, 4, 5, 0, 1, 6, 7] rfl)
      refine jn_s (P := fun J_22 => ∀ (_u : Unit) (H : Heap) (locs : List Loc) (ls : Array Slot), J_22 _u = some o → Dy s D cs B0 α Lv S H locs → lv_has ls 9 [(0, .ref (α 9 g0)), (1, .int x1), (2, .ref (α 26 g2)), (4, .int x4), (5, .int x5), (6, .int x6), (7, .int x7)] → W p l e (Rm 0 0 0) s m args below meth c H locs 0 0 (MQ below (Qi D cs B0 α Lv o S) args s 0 0 (AB B0)) (F0 m 59 ls [])) hf ?_ (fun J_22 hJ_22 hf => ?_)
      · intro _u H locs ls hf hd hl
        refine lv_iconst (v := 0) hc.x hc.b dX3_placeOf_59 (by decide) ?_
        exact hJ_10 0 _ _ _ hf hd (lv_sub hl [0, 1, 2, 3, 4, 5, 6] rfl)
      refine lv_icmp_eq (tgt := 59) hc.x hc.b dX3_placeOf_41 (by decide) (fun c_23 => ?_) (fun c_23 => ?_)
      · have hf := br_y c_23 hf
        exact hJ_22 ()  _ _ _ hf hd (lv_sub hl [0, 1, 2, 4, 5, 3, 6] rfl)
      · have hf := br_n c_23 hf
        refine lv_iload hc.x hc.b dX3_placeOf_44 (lv_at hl 3 rfl) ?_
        refine lv_iload hc.x hc.b dX3_placeOf_46 (lv_at hl 6 rfl) ?_
        refine lv_ishr hc.x hc.b dX3_placeOf_48 ?_
        refine lv_iconst (v := 1) hc.x hc.b dX3_placeOf_49 (by decide) ?_
        refine lv_iand hc.x hc.b dX3_placeOf_50 ?_
        refine lv_iconst (v := 1) hc.x hc.b dX3_placeOf_51 (by decide) ?_
        refine lv_icmp_ne (tgt := 59) hc.x hc.b dX3_placeOf_52 (by decide) (fun c_24 => ?_) (fun c_24 => ?_)
        · have hf := br_n c_24 hf
          exact hJ_22 ()  _ _ _ hf hd (lv_sub hl [0, 1, 2, 4, 5, 3, 6] rfl)
        · have hf := br_y c_24 hf
          refine lv_iconst (v := 1) hc.x hc.b dX3_placeOf_55 (by decide) ?_
          refine lv_goto (tgt := 60) hc.x hc.b dX3_placeOf_56 (by decide) ?_
          exact hJ_10 1 _ _ _ hf hd (lv_sub hl [0, 1, 2, 4, 5, 3, 6] rfl)
set_option maxRecDepth 100000 in
set_option maxHeartbeats 4000000 in
theorem b_X3_placeOf (hc : Cx p s m args meth c cX3_placeOf 9 "PumpCrossing$Drivers" D cs B0 kt Lv) (hr : meth.sig.returnType = some .int)  {o : Int32}  {S : St} {g0 : Nat} {x1 : Int32} {g2 : Nat} {x3 : Int32} (hL0 : Lv 9 g0) (hL2 : Lv 26 g2) {H : Heap} {locs : List Loc} {ls : Array Slot} (hf : f_X3_placeOf g0 x1 g2 x3 S = some o) (hd : Dy s D cs B0 α Lv S H locs) (hl : lv_has ls 9 [(0, .ref (α 9 g0)), (1, .int x1), (2, .ref (α 26 g2)), (3, .int x3)]) : W p l e (Rm 0 0 0) s m args below meth c H locs 0 0 (MQ below (Qi D cs B0 α Lv o S) args s 0 0 (AB B0)) (F0 m 0 ls []) := by
  unfold f_X3_placeOf at hf
  refine lv_aload_n hc.x hc.b dX3_placeOf_0 rfl (lv_at hl 0 rfl) ?_
  refine fg_9_2 hc hd hL0 tw_54 dX3_placeOf_1 ?_
  refine lv_iload_n hc.x hc.b dX3_placeOf_4 rfl (lv_at hl 1 rfl) ?_
  obtain ⟨hi_1, hf⟩ := ck_s hf
  refine r_iald hc hd (cl_9_habits hc.cl hL0) rfl hi_1 dX3_placeOf_5 ?_
  refine lv_topi (fun x4_2 ex4_2 => ?_)
  have hf := bv_n ex4_2 hf
  refine lv_istore (lv' := [(4, .int x4_2), (0, .ref (α 9 g0)), (1, .int x1), (2, .ref (α 26 g2)), (3, .int x3)]) hc.x hc.b dX3_placeOf_6 hl (by decide) rfl (fun ls hl => ?_)
  refine lv_aload_n hc.x hc.b dX3_placeOf_8 rfl (lv_at hl 3 rfl) ?_
  refine lv_iload hc.x hc.b dX3_placeOf_9 (lv_at hl 0 rfl) ?_
  obtain ⟨hi_3, hf⟩ := ck_s hf
  refine r_iald hc hd hL2 rfl hi_3 dX3_placeOf_11 ?_
  refine lv_topi (fun x5_4 ex5_4 => ?_)
  have hf := bv_n ex5_4 hf
  refine lv_istore (lv' := [(5, .int x5_4), (4, .int x4_2), (0, .ref (α 9 g0)), (1, .int x1), (2, .ref (α 26 g2)), (3, .int x3)]) hc.x hc.b dX3_placeOf_12 hl (by decide) rfl (fun ls hl => ?_)
  refine lv_aload_n hc.x hc.b dX3_placeOf_14 rfl (lv_at hl 2 rfl) ?_
  refine fg_9_3 hc hd hL0 tw_55 dX3_placeOf_15 ?_
  refine lv_iload_n hc.x hc.b dX3_placeOf_18 rfl (lv_at hl 3 rfl) ?_
  obtain ⟨hi_5, hf⟩ := ck_s hf
  refine r_iald hc hd (cl_9_knows hc.cl hL0) rfl hi_5 dX3_placeOf_19 ?_
  refine lv_iload_n hc.x hc.b dX3_placeOf_20 rfl (lv_at hl 5 rfl) ?_
  refine lv_ior hc.x hc.b dX3_placeOf_21 ?_
  refine lv_topi (fun x6_6 ex6_6 => ?_)
  have hf := bv_n ex6_6 hf
  refine lv_istore (lv' := [(6, .int x6_6), (5, .int x5_4), (4, .int x4_2), (0, .ref (α 9 g0)), (1, .int x1), (2, .ref (α 26 g2)), (3, .int x3)]) hc.x hc.b dX3_placeOf_22 hl (by decide) rfl (fun ls hl => ?_)
  refine lv_iconst (v := 0) hc.x hc.b dX3_placeOf_24 (by decide) ?_
  refine lv_istore (lv' := [(7, .int 0), (6, .int x6_6), (5, .int x5_4), (4, .int x4_2), (0, .ref (α 9 g0)), (1, .int x1), (2, .ref (α 26 g2)), (3, .int x3)]) hc.x hc.b dX3_placeOf_25 hl (by decide) rfl (fun ls hl => ?_)
  refine w_X3_placeOf_27 hc hr hL0 hL2 ?_ _ _ _ _ _ _ _ hf hd (lv_sub hl [4, 5, 6, 1, 3, 2, 0] rfl)
  intro x4_25 H locs ls hf hd hl
  refine lv_iload hc.x hc.b dX3_placeOf_106 (lv_at hl 0 rfl) ?_
  cases hf
  exact r_iret hc hd hr dX3_placeOf_108
theorem c_X3_placeOf (l : Launch) (D : va_G) (cs : Nat → ClassId) (B0 : Nat) (kt : (Nat → Nat) × (Nat → Nat)) (α : Nat → Nat → Nat) (Lv : Nat → Nat → Prop) (S : St) (g0 : Nat) (x1 : Int32) (g2 : Nat) (x3 : Int32) (hcl : Cl Lv) (hL0 : Lv 9 g0) (hL2 : Lv 26 g2) {o : Int32} (hf : f_X3_placeOf g0 x1 g2 x3 S = some o) : Met l yX3_placeOf (wz yX3_placeOf cX3_placeOf 9 (some .int)) (Rm 0 0 0) (Pz D cs B0 kt α Lv S [.ref (α 9 g0), .int x1, .ref (α 26 g2), .int x3]) (Qi D cs B0 α Lv o S) 0 0 (AB B0) := met_of (by decide) rfl hcl (Nat.le_of_ble_eq_true rfl) (fun p e s m below meth c hc hr hd ls hl => b_X3_placeOf hc hr hL0 hL2 hf hd hl)
theorem my_X3_placeOf : MyV yX3_placeOf "PumpCrossing$Drivers" cX3_placeOf 9 (some .int) 3 := ⟨tw_842, tw_843, tw_3, tw_844, by decide +kernel⟩
def f_X3_soldAt_6 (g0 : Nat) (x1 : Int32) (g2 : Nat) (x3 : Int32) (S : St) (K : Int32 → Option (Int32)) : Nat → Int32 → Int32 → Option (Int32)
  | 0, _, _ => none
  | n + 1, x4, x5 => br ((gi S 9 g0 0) ≤ x5) (K x4) (on (f_X3_placeOf g0 x5 g2 x3 S) (fun r_3 => bv (fun (x4_4 : Int32) => bv (x5 + 1) (fun x5_6 => f_X3_soldAt_6 g0 x1 g2 x3 S K n x4_4 x5_6)) (fun J_5 => br (r_3 = x1) (ck (inb x5 6 = true) (bv (x4 + (gi S 10 g0 (nn x5))) (fun x4_9 => J_5 x4_9))) (J_5 x4))))
def f_X3_soldAt (g0 : Nat) (x1 : Int32) (g2 : Nat) (x3 : Int32) (S : St) : Option (Int32) := f_X3_soldAt_6 g0 x1 g2 x3 S (fun (x4_10 : Int32) => some x4_10) FU 0 0
set_option maxRecDepth 100000 in
set_option maxHeartbeats 4000000 in
theorem w_X3_soldAt_6 (hc : Cx p s m args meth c cX3_soldAt 6 "PumpCrossing$Drivers" D cs B0 kt Lv) (hr : meth.sig.returnType = some .int) {o : Int32}  {g0 : Nat} {x1 : Int32} {g2 : Nat} {x3 : Int32} {S : St} {K : Int32 → Option (Int32)} (hL0 : Lv 9 g0) (hL2 : Lv 26 g2) (hK : ∀ (k4 : Int32) (H : Heap) (locs : List Loc) (ls : Array Slot), K k4 = some o → Dy s D cs B0 α Lv S H locs → lv_has ls 6 [(4, .int k4)] → W p l e (Rm 1 0 0) s m args below meth c H locs 0 0 (MQ below (Qi D cs B0 α Lv o S) args s 0 0 (AB B0)) (F0 m 45 ls [])) : ∀ (n : Nat) (x4 : Int32) (x5 : Int32) (H : Heap) (locs : List Loc) (ls : Array Slot), f_X3_soldAt_6 g0 x1 g2 x3 S K n x4 x5 = some o → Dy s D cs B0 α Lv S H locs → lv_has ls 6 [(0, .ref (α 9 g0)), (1, .int x1), (2, .ref (α 26 g2)), (3, .int x3), (4, .int x4), (5, .int x5)] → W p l e (Rm 1 0 0) s m args below meth c H locs 0 0 (MQ below (Qi D cs B0 α Lv o S) args s 0 0 (AB B0)) (F0 m 6 ls []) := by
  intro n
  induction n with
  | zero =>
    intro x4 x5 H locs ls hf
    rw [f_X3_soldAt_6] at hf
    cases hf
  | succ n ih =>
    intro x4 x5 H locs ls hf hd hl
    rw [f_X3_soldAt_6] at hf
    refine lv_iload hc.x hc.b dX3_soldAt_6 (lv_at hl 5 rfl) ?_
    refine lv_aload_n hc.x hc.b dX3_soldAt_8 rfl (lv_at hl 0 rfl) ?_
    refine fg_9_0 hc hd hL0 tw_49 dX3_soldAt_9 ?_
    refine lv_icmp_ge (tgt := 45) hc.x hc.b dX3_soldAt_12 (by decide) (fun c_1 => ?_) (fun c_1 => ?_)
    · have hf := br_y c_1 hf
      exact hK x4 _ _ _ hf hd (lv_sub hl [4] rfl)
    · have hf := br_n c_1 hf
      refine lv_aload_n hc.x hc.b dX3_soldAt_15 rfl (lv_at hl 0 rfl) ?_
      refine lv_iload hc.x hc.b dX3_soldAt_16 (lv_at hl 5 rfl) ?_
      refine lv_aload_n hc.x hc.b dX3_soldAt_18 rfl (lv_at hl 2 rfl) ?_
      refine lv_iload_n hc.x hc.b dX3_soldAt_19 rfl (lv_at hl 3 rfl) ?_
      obtain ⟨r_3, hq_2, hf⟩ := on_s hf
      refine k_i (k_runV hc hd my_X3_placeOf tw_1006 hL0 rfl rfl rfl (c_X3_placeOf l D cs B0 kt α Lv S g0 x5 g2 x3 hc.cl hL0 hL2  hq_2) rfl rfl hl.1 (Nat.le_of_ble_eq_true rfl) ⟨Nat.le_of_ble_eq_true rfl, Nat.le_of_ble_eq_true rfl, Nat.zero_le _, Nat.zero_le _⟩ dX3_soldAt_20) hd (fun H locs hd => ?_)
      refine lv_iload_n hc.x hc.b dX3_soldAt_23 rfl (lv_at hl 1 rfl) ?_
      refine jn_s (P := fun J_5 => ∀ (x4_4 : Int32) (H : Heap) (locs : List Loc) (ls : Array Slot), J_5 x4_4 = some o → Dy s D cs B0 α Lv S H locs → lv_has ls 6 [(0, .ref (α 9 g0)), (1, .int x1), (2, .ref (α 26 g2)), (3, .int x3), (4, .int x4_4), (5, .int x5)] → W p l e (Rm 1 0 0) s m args below meth c H locs 0 0 (MQ below (Qi D cs B0 α Lv o S) args s 0 0 (AB B0)) (F0 m 39 ls [])) hf ?_ (fun J_5 hJ_5 hf => ?_)
      · intro x4_4 H locs ls hf hd hl
        obtain ⟨x5_6, ex5_6⟩ : ∃ z : Int32, z = x5 + 1 := ⟨_, rfl⟩
        have hf := bv_n ex5_6 hf
        refine lv_iinc (v := x5_6) (lv' := [(5, .int x5_6), (0, .ref (α 9 g0)), (1, .int x1), (2, .ref (α 26 g2)), (3, .int x3), (4, .int x4_4)]) hc.x hc.b dX3_soldAt_39 hl (k := 5) rfl (by rw [ex5_6]; rfl) (by decide) rfl (fun ls hl => ?_)
        refine lv_goto (tgt := 6) hc.x hc.b dX3_soldAt_42 (by decide) ?_
        exact ih x4_4 x5_6 _ _ _ hf hd (lv_sub hl [1, 2, 3, 4, 5, 0] rfl)
      refine lv_icmp_ne (tgt := 39) hc.x hc.b dX3_soldAt_24 (by decide) (fun c_7 => ?_) (fun c_7 => ?_)
      · have hf := br_n c_7 hf
        exact hJ_5 x4 _ _ _ hf hd (lv_sub hl [0, 1, 2, 3, 4, 5] rfl)
      · have hf := br_y c_7 hf
        refine lv_iload hc.x hc.b dX3_soldAt_27 (lv_at hl 4 rfl) ?_
        refine lv_aload_n hc.x hc.b dX3_soldAt_29 rfl (lv_at hl 0 rfl) ?_
        refine fg_9_1 hc hd hL0 tw_52 dX3_soldAt_30 ?_
        refine lv_iload hc.x hc.b dX3_soldAt_33 (lv_at hl 5 rfl) ?_
        obtain ⟨hi_8, hf⟩ := ck_s hf
        refine r_iald hc hd (cl_9_many hc.cl hL0) rfl hi_8 dX3_soldAt_35 ?_
        refine lv_iadd hc.x hc.b dX3_soldAt_36 ?_
        refine lv_topi (fun x4_9 ex4_9 => ?_)
        have hf := bv_n ex4_9 hf
        refine lv_istore (lv' := [(4, .int x4_9), (0, .ref (α 9 g0)), (1, .int x1), (2, .ref (α 26 g2)), (3, .int x3), (5, .int x5)]) hc.x hc.b dX3_soldAt_37 hl (by decide) rfl (fun ls hl => ?_)
        exact hJ_5 x4_9 _ _ _ hf hd (lv_sub hl [1, 2, 3, 4, 0, 5] rfl)
set_option maxRecDepth 100000 in
set_option maxHeartbeats 4000000 in
theorem b_X3_soldAt (hc : Cx p s m args meth c cX3_soldAt 6 "PumpCrossing$Drivers" D cs B0 kt Lv) (hr : meth.sig.returnType = some .int)  {o : Int32}  {S : St} {g0 : Nat} {x1 : Int32} {g2 : Nat} {x3 : Int32} (hL0 : Lv 9 g0) (hL2 : Lv 26 g2) {H : Heap} {locs : List Loc} {ls : Array Slot} (hf : f_X3_soldAt g0 x1 g2 x3 S = some o) (hd : Dy s D cs B0 α Lv S H locs) (hl : lv_has ls 6 [(0, .ref (α 9 g0)), (1, .int x1), (2, .ref (α 26 g2)), (3, .int x3)]) : W p l e (Rm 1 0 0) s m args below meth c H locs 0 0 (MQ below (Qi D cs B0 α Lv o S) args s 0 0 (AB B0)) (F0 m 0 ls []) := by
  unfold f_X3_soldAt at hf
  refine lv_iconst (v := 0) hc.x hc.b dX3_soldAt_0 (by decide) ?_
  refine lv_istore (lv' := [(4, .int 0), (0, .ref (α 9 g0)), (1, .int x1), (2, .ref (α 26 g2)), (3, .int x3)]) hc.x hc.b dX3_soldAt_1 hl (by decide) rfl (fun ls hl => ?_)
  refine lv_iconst (v := 0) hc.x hc.b dX3_soldAt_3 (by decide) ?_
  refine lv_istore (lv' := [(5, .int 0), (4, .int 0), (0, .ref (α 9 g0)), (1, .int x1), (2, .ref (α 26 g2)), (3, .int x3)]) hc.x hc.b dX3_soldAt_4 hl (by decide) rfl (fun ls hl => ?_)
  refine w_X3_soldAt_6 hc hr hL0 hL2 ?_ _ _ _ _ _ _ hf hd (lv_sub hl [2, 3, 4, 5, 1, 0] rfl)
  intro x4_10 H locs ls hf hd hl
  refine lv_iload hc.x hc.b dX3_soldAt_45 (lv_at hl 0 rfl) ?_
  cases hf
  exact r_iret hc hd hr dX3_soldAt_47
theorem c_X3_soldAt (l : Launch) (D : va_G) (cs : Nat → ClassId) (B0 : Nat) (kt : (Nat → Nat) × (Nat → Nat)) (α : Nat → Nat → Nat) (Lv : Nat → Nat → Prop) (S : St) (g0 : Nat) (x1 : Int32) (g2 : Nat) (x3 : Int32) (hcl : Cl Lv) (hL0 : Lv 9 g0) (hL2 : Lv 26 g2) {o : Int32} (hf : f_X3_soldAt g0 x1 g2 x3 S = some o) : Met l yX3_soldAt (wz yX3_soldAt cX3_soldAt 6 (some .int)) (Rm 1 0 0) (Pz D cs B0 kt α Lv S [.ref (α 9 g0), .int x1, .ref (α 26 g2), .int x3]) (Qi D cs B0 α Lv o S) 0 0 (AB B0) := met_of (by decide) rfl hcl (Nat.le_of_ble_eq_true rfl) (fun p e s m below meth c hc hr hd ls hl => b_X3_soldAt hc hr hL0 hL2 hf hd hl)
theorem my_X3_soldAt : MyV yX3_soldAt "PumpCrossing$Drivers" cX3_soldAt 6 (some .int) 3 := ⟨tw_1003, tw_1004, tw_3, tw_1005, by decide +kernel⟩
end
