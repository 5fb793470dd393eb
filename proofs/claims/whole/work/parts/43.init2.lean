section
variable {p : Program} {l : Launch} {e : Env} {R : Room} {s : State} {m : MethodId} {args : Array Value} {below : List Frame} {meth : Method} {c : Code} {cells slots : Nat} {Q : State → Prop} {D : va_G} {cs : Nat → ClassId} {B0 : Nat} {kt : (Nat → Nat) × (Nat → Nat)} {α : Nat → Nat → Nat} {Lv : Nat → Nat → Prop}
abbrev F_X2_init (g0 : Nat) : List (Nat × Nat) := (2, g0) :: ((27, g0) :: ((26, g0 + 1) :: (F_X8_init g0 ++ ((122, g0) :: ((21, g0) :: (F_X1_init g0 ++ ((117, g0) :: (F_X0_init_60 (2 * g0 + 1) ++ ((114, 2 * g0 + 1) :: (F_X0_init_256 (2 * g0) ++ ((114, 2 * g0) :: (F_X3_init g0 ++ ((109, g0) :: ((8, g0) :: ((7, g0) :: ((6, g0) :: ((5, g0) :: ((4, g0) :: ((3, g0) :: [])))))))))))))))))))
def f_X2_init (g0 : Nat) (S : St) : Option (St) := bv (zr S 3 g0 4) (fun S_1 => bv (zr S_1 4 g0 4) (fun S_2 => bv (zr S_2 5 g0 4) (fun S_3 => bv (zr S_3 6 g0 4) (fun S_4 => bv (zr S_4 7 g0 4) (fun S_5 => bv (zr S_5 8 g0 4) (fun S_6 => bv (zr S_6 109 g0 0) (fun S_7 => on (f_X3_init g0 S_7) (fun S_8 => bv (zr S_8 114 (2 * g0) 0) (fun S_10 => on (f_X0_init_256 (2 * g0) S_10) (fun S_11 => bv (zr S_11 114 (2 * g0 + 1) 0) (fun S_13 => on (f_X0_init_60 (2 * g0 + 1) S_13) (fun S_14 => bv (zr S_14 117 g0 0) (fun S_16 => on (f_X1_init g0 S_16) (fun S_17 => bv (zr S_17 21 g0 8) (fun S_19 => bv (zr S_19 122 g0 0) (fun S_20 => on (f_X8_init g0 S_20) (fun S_21 => bv (zr S_21 26 (g0 + 1) 4) (fun S_23 => bv (zr S_23 27 g0 9) (fun S_24 => bv (cp S_24 102 2 g0) (fun S_25 => some S_25))))))))))))))))))))
set_option maxRecDepth 100000 in
set_option maxHeartbeats 8000000 in
theorem b_X2_init (hc : Cx p s m args meth c cX2_init 1 "PumpCrossing$Crossing" D cs B0 kt Lv) (hck : CK cs s) (hin2 : meth.name = "<init>") (hr : meth.sig.returnType = none) {o : St} {S : St} {g0 : Nat} (hlt : ∀ k g, Lv k g → k < 1000) (hL0 : Lv 102 g0) (hfr : ∀ x ∈ F_X2_init g0, ¬ Lv x.1 x.2) {H : Heap} {locs : List Loc} {ls : Array Slot} (hf : f_X2_init g0 S = some o) (hd : Dy s D cs B0 α Lv S H locs) (hl : lv_has ls 1 [(0, .ref (α 102 g0))]) : W p l e (Rm 2 29 1454) s m args below meth c H locs 0 0 (MQ below (QM D cs B0 α Lv 102 2 g0 (F_X2_init g0) [2, 9, 14, 17, 22] o) args s 29 1454 (AB B0)) (F0 m 0 ls []) := by
  unfold f_X2_init at hf
  obtain ⟨a0, e0⟩ : ∃ a, α 102 g0 = a := ⟨_, rfl⟩
  have e00 := e0
  rw [e0] at hl
  have hx : Ex α Lv (102, g0) α Lv [] := Ex.start hlt
  have hm : Mk α [2, 9, 14, 17, 22] α := Mk.start
  refine lv_aload_n hc.x hc.b dX2_init_0 rfl (lv_at hl 0 rfl) ?_
  refine r_oini hc tw_40 tw_33 tw_34 hl.1 dX2_init_1 (Nat.zero_le _) ⟨Nat.le_of_ble_eq_true rfl, Nat.le_of_ble_eq_true rfl⟩ ?_
  refine lv_aload_n hc.x hc.b dX2_init_4 rfl (lv_at hl 0 rfl) ?_
  refine lv_iconst (v := 4) hc.x hc.b dX2_init_5 (by decide) ?_
  refine q_newP (aty := .int) (K := 3) (G := g0) (N := 4) hc hd hx hm hck.1 tw_68 (fun _ => rfl) rfl (by decide) (by decide) (hfr _ (List.mem_cons_of_mem _ (List.mem_cons_of_mem _ (List.mem_cons_of_mem _ (List.mem_append_right _ (List.mem_cons_of_mem _ (List.mem_cons_of_mem _ (List.mem_append_right _ (List.mem_cons_of_mem _ (List.mem_append_right _ (List.mem_cons_of_mem _ (List.mem_append_right _ (List.mem_cons_of_mem _ (List.mem_append_right _ (List.mem_cons_of_mem _ (List.mem_cons_of_mem _ (List.mem_cons_of_mem _ (List.mem_cons_of_mem _ (List.mem_cons_of_mem _ (List.mem_cons_of_mem _ (List.mem_cons_self))))))))))))))))))))) (by simp) (by decide) (by decide) (by decide) ⟨Nat.le_of_ble_eq_true rfl, Nat.le_of_ble_eq_true rfl⟩ dX2_init_6 (fun α Lv H ho ha hv hN hc hd hx hm => ?_)
  obtain ⟨S_1, hd, hf⟩ := nmD hd hf
  have e0 := (ha _ _ hL0).trans e0
  have hL0 := ho _ _ hL0
  have hL_3_g0 := hN
  refine q_putR (K := 102) (V := 1201) (k := 2) (j := 1) (k2 := 3) (i2 := g0) hc hin2 hd hx hm (by decide) rfl rfl (by decide) hL0 e0 hL_3_g0 rfl rfl inX2 tyX2 tyX2_ok nmX2 (by decide) tw_137 rfl rfl (ty := .array .int) (by decide +kernel) rfl rfl (by show _ < 18; decide) (fun x => by
    show (.inr (2, [_, r0 (up2 α 1201 g0 (x + 1) 1201 g0), _, _, _, _, _, _, _, _, _, _, _, _, _, _, _, _]) : va_E) = _
    rw [up2_s]; rfl) dX2_init_8 (fun α H locs ha hs1 hv hd hx hm => ?_)
  have e0 := (ha _ _ hL0).trans e0
  refine lv_aload_n hc.x hc.b dX2_init_11 rfl (lv_at hl 0 rfl) ?_
  refine lv_iconst (v := 4) hc.x hc.b dX2_init_12 (by decide) ?_
  refine q_newP (aty := .int) (K := 4) (G := g0) (N := 4) hc hd hx hm hck.1 tw_68 (fun _ => rfl) rfl (by decide) (by decide) (hfr _ (List.mem_cons_of_mem _ (List.mem_cons_of_mem _ (List.mem_cons_of_mem _ (List.mem_append_right _ (List.mem_cons_of_mem _ (List.mem_cons_of_mem _ (List.mem_append_right _ (List.mem_cons_of_mem _ (List.mem_append_right _ (List.mem_cons_of_mem _ (List.mem_append_right _ (List.mem_cons_of_mem _ (List.mem_append_right _ (List.mem_cons_of_mem _ (List.mem_cons_of_mem _ (List.mem_cons_of_mem _ (List.mem_cons_of_mem _ (List.mem_cons_of_mem _ (List.mem_cons_self)))))))))))))))))))) (by simp) (by decide) (by decide) (by decide) ⟨Nat.le_of_ble_eq_true rfl, Nat.le_of_ble_eq_true rfl⟩ dX2_init_13 (fun α Lv H ho ha hv hN hc hd hx hm => ?_)
  obtain ⟨S_2, hd, hf⟩ := nmD hd hf
  have e0 := (ha _ _ hL0).trans e0
  have hs1 := sl_k ha hL_3_g0 (hv 1201 _ (Nat.le_of_ble_eq_true rfl)) hs1
  have hL_3_g0 := ho _ _ hL_3_g0
  have hL0 := ho _ _ hL0
  have hL_4_g0 := hN
  refine q_putR (K := 102) (V := 1202) (k := 2) (j := 2) (k2 := 4) (i2 := g0) hc hin2 hd hx hm (by decide) rfl rfl (by decide) hL0 e0 hL_4_g0 rfl rfl inX2 tyX2 tyX2_ok nmX2 (by decide) tw_140 rfl rfl (ty := .array .int) (by decide +kernel) rfl rfl (by show _ < 18; decide) (fun x => by
    show (.inr (2, [_, _, r0 (up2 α 1202 g0 (x + 1) 1202 g0), _, _, _, _, _, _, _, _, _, _, _, _, _, _, _]) : va_E) = _
    rw [up2_s]; rfl) dX2_init_15 (fun α H locs ha hs2 hv hd hx hm => ?_)
  have e0 := (ha _ _ hL0).trans e0
  have hs1 := sl_k ha hL_3_g0 (hv 1201 _ (Nat.le_of_ble_eq_true rfl) (by decide)) hs1
  refine lv_aload_n hc.x hc.b dX2_init_18 rfl (lv_at hl 0 rfl) ?_
  refine lv_iconst (v := 4) hc.x hc.b dX2_init_19 (by decide) ?_
  refine q_newP (aty := .int) (K := 5) (G := g0) (N := 4) hc hd hx hm hck.1 tw_68 (fun _ => rfl) rfl (by decide) (by decide) (hfr _ (List.mem_cons_of_mem _ (List.mem_cons_of_mem _ (List.mem_cons_of_mem _ (List.mem_append_right _ (List.mem_cons_of_mem _ (List.mem_cons_of_mem _ (List.mem_append_right _ (List.mem_cons_of_mem _ (List.mem_append_right _ (List.mem_cons_of_mem _ (List.mem_append_right _ (List.mem_cons_of_mem _ (List.mem_append_right _ (List.mem_cons_of_mem _ (List.mem_cons_of_mem _ (List.mem_cons_of_mem _ (List.mem_cons_of_mem _ (List.mem_cons_self))))))))))))))))))) (by simp) (by decide) (by decide) (by decide) ⟨Nat.le_of_ble_eq_true rfl, Nat.le_of_ble_eq_true rfl⟩ dX2_init_20 (fun α Lv H ho ha hv hN hc hd hx hm => ?_)
  obtain ⟨S_3, hd, hf⟩ := nmD hd hf
  have e0 := (ha _ _ hL0).trans e0
  have hs1 := sl_k ha hL_3_g0 (hv 1201 _ (Nat.le_of_ble_eq_true rfl)) hs1
  have hs2 := sl_k ha hL_4_g0 (hv 1202 _ (Nat.le_of_ble_eq_true rfl)) hs2
  have hL_3_g0 := ho _ _ hL_3_g0
  have hL_4_g0 := ho _ _ hL_4_g0
  have hL0 := ho _ _ hL0
  have hL_5_g0 := hN
  refine q_putR (K := 102) (V := 1203) (k := 2) (j := 3) (k2 := 5) (i2 := g0) hc hin2 hd hx hm (by decide) rfl rfl (by decide) hL0 e0 hL_5_g0 rfl rfl inX2 tyX2 tyX2_ok nmX2 (by decide) tw_142 rfl rfl (ty := .array .int) (by decide +kernel) rfl rfl (by show _ < 18; decide) (fun x => by
    show (.inr (2, [_, _, _, r0 (up2 α 1203 g0 (x + 1) 1203 g0), _, _, _, _, _, _, _, _, _, _, _, _, _, _]) : va_E) = _
    rw [up2_s]; rfl) dX2_init_22 (fun α H locs ha hs3 hv hd hx hm => ?_)
  have e0 := (ha _ _ hL0).trans e0
  have hs1 := sl_k ha hL_3_g0 (hv 1201 _ (Nat.le_of_ble_eq_true rfl) (by decide)) hs1
  have hs2 := sl_k ha hL_4_g0 (hv 1202 _ (Nat.le_of_ble_eq_true rfl) (by decide)) hs2
  refine lv_aload_n hc.x hc.b dX2_init_25 rfl (lv_at hl 0 rfl) ?_
  refine lv_iconst (v := 4) hc.x hc.b dX2_init_26 (by decide) ?_
  refine q_newP (aty := .long) (K := 6) (G := g0) (N := 4) hc hd hx hm hck.2.1 tw_69 (fun _ => rfl) rfl (by decide) (by decide) (hfr _ (List.mem_cons_of_mem _ (List.mem_cons_of_mem _ (List.mem_cons_of_mem _ (List.mem_append_right _ (List.mem_cons_of_mem _ (List.mem_cons_of_mem _ (List.mem_append_right _ (List.mem_cons_of_mem _ (List.mem_append_right _ (List.mem_cons_of_mem _ (List.mem_append_right _ (List.mem_cons_of_mem _ (List.mem_append_right _ (List.mem_cons_of_mem _ (List.mem_cons_of_mem _ (List.mem_cons_of_mem _ (List.mem_cons_self)))))))))))))))))) (by simp) (by decide) (by decide) (by decide) ⟨Nat.le_of_ble_eq_true rfl, Nat.le_of_ble_eq_true rfl⟩ dX2_init_27 (fun α Lv H ho ha hv hN hc hd hx hm => ?_)
  obtain ⟨S_4, hd, hf⟩ := nmD hd hf
  have e0 := (ha _ _ hL0).trans e0
  have hs1 := sl_k ha hL_3_g0 (hv 1201 _ (Nat.le_of_ble_eq_true rfl)) hs1
  have hs2 := sl_k ha hL_4_g0 (hv 1202 _ (Nat.le_of_ble_eq_true rfl)) hs2
  have hs3 := sl_k ha hL_5_g0 (hv 1203 _ (Nat.le_of_ble_eq_true rfl)) hs3
  have hL_3_g0 := ho _ _ hL_3_g0
  have hL_4_g0 := ho _ _ hL_4_g0
  have hL_5_g0 := ho _ _ hL_5_g0
  have hL0 := ho _ _ hL0
  have hL_6_g0 := hN
  refine q_putR (K := 102) (V := 1204) (k := 2) (j := 4) (k2 := 6) (i2 := g0) hc hin2 hd hx hm (by decide) rfl rfl (by decide) hL0 e0 hL_6_g0 rfl rfl inX2 tyX2 tyX2_ok nmX2 (by decide) tw_144 rfl rfl (ty := .array .long) (by decide +kernel) rfl rfl (by show _ < 18; decide) (fun x => by
    show (.inr (2, [_, _, _, _, r0 (up2 α 1204 g0 (x + 1) 1204 g0), _, _, _, _, _, _, _, _, _, _, _, _, _]) : va_E) = _
    rw [up2_s]; rfl) dX2_init_29 (fun α H locs ha hs4 hv hd hx hm => ?_)
  have e0 := (ha _ _ hL0).trans e0
  have hs1 := sl_k ha hL_3_g0 (hv 1201 _ (Nat.le_of_ble_eq_true rfl) (by decide)) hs1
  have hs2 := sl_k ha hL_4_g0 (hv 1202 _ (Nat.le_of_ble_eq_true rfl) (by decide)) hs2
  have hs3 := sl_k ha hL_5_g0 (hv 1203 _ (Nat.le_of_ble_eq_true rfl) (by decide)) hs3
  refine lv_aload_n hc.x hc.b dX2_init_32 rfl (lv_at hl 0 rfl) ?_
  refine lv_iconst (v := 4) hc.x hc.b dX2_init_33 (by decide) ?_
  refine q_newP (aty := .long) (K := 7) (G := g0) (N := 4) hc hd hx hm hck.2.1 tw_69 (fun _ => rfl) rfl (by decide) (by decide) (hfr _ (List.mem_cons_of_mem _ (List.mem_cons_of_mem _ (List.mem_cons_of_mem _ (List.mem_append_right _ (List.mem_cons_of_mem _ (List.mem_cons_of_mem _ (List.mem_append_right _ (List.mem_cons_of_mem _ (List.mem_append_right _ (List.mem_cons_of_mem _ (List.mem_append_right _ (List.mem_cons_of_mem _ (List.mem_append_right _ (List.mem_cons_of_mem _ (List.mem_cons_of_mem _ (List.mem_cons_self))))))))))))))))) (by simp) (by decide) (by decide) (by decide) ⟨Nat.le_of_ble_eq_true rfl, Nat.le_of_ble_eq_true rfl⟩ dX2_init_34 (fun α Lv H ho ha hv hN hc hd hx hm => ?_)
  obtain ⟨S_5, hd, hf⟩ := nmD hd hf
  have e0 := (ha _ _ hL0).trans e0
  have hs1 := sl_k ha hL_3_g0 (hv 1201 _ (Nat.le_of_ble_eq_true rfl)) hs1
  have hs2 := sl_k ha hL_4_g0 (hv 1202 _ (Nat.le_of_ble_eq_true rfl)) hs2
  have hs3 := sl_k ha hL_5_g0 (hv 1203 _ (Nat.le_of_ble_eq_true rfl)) hs3
  have hs4 := sl_k ha hL_6_g0 (hv 1204 _ (Nat.le_of_ble_eq_true rfl)) hs4
  have hL_3_g0 := ho _ _ hL_3_g0
  have hL_4_g0 := ho _ _ hL_4_g0
  have hL_5_g0 := ho _ _ hL_5_g0
  have hL_6_g0 := ho _ _ hL_6_g0
  have hL0 := ho _ _ hL0
  have hL_7_g0 := hN
  refine q_putR (K := 102) (V := 1205) (k := 2) (j := 5) (k2 := 7) (i2 := g0) hc hin2 hd hx hm (by decide) rfl rfl (by decide) hL0 e0 hL_7_g0 rfl rfl inX2 tyX2 tyX2_ok nmX2 (by decide) tw_146 rfl rfl (ty := .array .long) (by decide +kernel) rfl rfl (by show _ < 18; decide) (fun x => by
    show (.inr (2, [_, _, _, _, _, r0 (up2 α 1205 g0 (x + 1) 1205 g0), _, _, _, _, _, _, _, _, _, _, _, _]) : va_E) = _
    rw [up2_s]; rfl) dX2_init_36 (fun α H locs ha hs5 hv hd hx hm => ?_)
  have e0 := (ha _ _ hL0).trans e0
  have hs1 := sl_k ha hL_3_g0 (hv 1201 _ (Nat.le_of_ble_eq_true rfl) (by decide)) hs1
  have hs2 := sl_k ha hL_4_g0 (hv 1202 _ (Nat.le_of_ble_eq_true rfl) (by decide)) hs2
  have hs3 := sl_k ha hL_5_g0 (hv 1203 _ (Nat.le_of_ble_eq_true rfl) (by decide)) hs3
  have hs4 := sl_k ha hL_6_g0 (hv 1204 _ (Nat.le_of_ble_eq_true rfl) (by decide)) hs4
  refine lv_aload_n hc.x hc.b dX2_init_39 rfl (lv_at hl 0 rfl) ?_
  refine lv_iconst (v := 4) hc.x hc.b dX2_init_40 (by decide) ?_
  refine q_anew (C := "PumpCrossing$Rules") (K := 8) (G := g0) (N := 4) hc hd hx hm hck.2.2.2.2.2.1 tw_41 hc.kc.2.2.2.2.2.2.2.1 (fun _ => rfl) (by decide) (by decide) (hfr _ (List.mem_cons_of_mem _ (List.mem_cons_of_mem _ (List.mem_cons_of_mem _ (List.mem_append_right _ (List.mem_cons_of_mem _ (List.mem_cons_of_mem _ (List.mem_append_right _ (List.mem_cons_of_mem _ (List.mem_append_right _ (List.mem_cons_of_mem _ (List.mem_append_right _ (List.mem_cons_of_mem _ (List.mem_append_right _ (List.mem_cons_of_mem _ (List.mem_cons_self)))))))))))))))) (by simp) (by decide) (by decide) (by decide) ⟨Nat.le_of_ble_eq_true rfl, Nat.le_of_ble_eq_true rfl⟩ dX2_init_41 (fun α Lv H ho ha hv hN hc hd hx hm => ?_)
  obtain ⟨S_6, hd, hf⟩ := nmD hd hf
  have e0 := (ha _ _ hL0).trans e0
  have hs1 := sl_k ha hL_3_g0 (hv 1201 _ (Nat.le_of_ble_eq_true rfl)) hs1
  have hs2 := sl_k ha hL_4_g0 (hv 1202 _ (Nat.le_of_ble_eq_true rfl)) hs2
  have hs3 := sl_k ha hL_5_g0 (hv 1203 _ (Nat.le_of_ble_eq_true rfl)) hs3
  have hs4 := sl_k ha hL_6_g0 (hv 1204 _ (Nat.le_of_ble_eq_true rfl)) hs4
  have hs5 := sl_k ha hL_7_g0 (hv 1205 _ (Nat.le_of_ble_eq_true rfl)) hs5
  have hL_3_g0 := ho _ _ hL_3_g0
  have hL_4_g0 := ho _ _ hL_4_g0
  have hL_5_g0 := ho _ _ hL_5_g0
  have hL_6_g0 := ho _ _ hL_6_g0
  have hL_7_g0 := ho _ _ hL_7_g0
  have hL0 := ho _ _ hL0
  have hL_8_g0 := hN
  refine q_putR (K := 102) (V := 1207) (k := 2) (j := 7) (k2 := 8) (i2 := g0) hc hin2 hd hx hm (by decide) rfl rfl (by decide) hL0 e0 hL_8_g0 rfl rfl inX2 tyX2 tyX2_ok nmX2 (by decide) tw_150 rfl rfl (ty := .array (.object "PumpCrossing$Rules")) (by decide +kernel) rfl rfl (by show _ < 18; decide) (fun x => by
    show (.inr (2, [_, _, _, _, _, _, _, r0 (up2 α 1207 g0 (x + 1) 1207 g0), _, _, _, _, _, _, _, _, _, _]) : va_E) = _
    rw [up2_s]; rfl) dX2_init_44 (fun α H locs ha hs7 hv hd hx hm => ?_)
  have e0 := (ha _ _ hL0).trans e0
  have hs1 := sl_k ha hL_3_g0 (hv 1201 _ (Nat.le_of_ble_eq_true rfl) (by decide)) hs1
  have hs2 := sl_k ha hL_4_g0 (hv 1202 _ (Nat.le_of_ble_eq_true rfl) (by decide)) hs2
  have hs3 := sl_k ha hL_5_g0 (hv 1203 _ (Nat.le_of_ble_eq_true rfl) (by decide)) hs3
  have hs4 := sl_k ha hL_6_g0 (hv 1204 _ (Nat.le_of_ble_eq_true rfl) (by decide)) hs4
  have hs5 := sl_k ha hL_7_g0 (hv 1205 _ (Nat.le_of_ble_eq_true rfl) (by decide)) hs5
  refine lv_aload_n hc.x hc.b dX2_init_47 rfl (lv_at hl 0 rfl) ?_
  refine q_newO (K := 109) (k := 9) (G := g0) (fs := [.int 0, .null, .null, .null, .null]) hc hd hx hm (by decide) rfl (by decide) (hfr _ (List.mem_cons_of_mem _ (List.mem_cons_of_mem _ (List.mem_cons_of_mem _ (List.mem_append_right _ (List.mem_cons_of_mem _ (List.mem_cons_of_mem _ (List.mem_append_right _ (List.mem_cons_of_mem _ (List.mem_append_right _ (List.mem_cons_of_mem _ (List.mem_append_right _ (List.mem_cons_of_mem _ (List.mem_append_right _ (List.mem_cons_self))))))))))))))) (by simp) inX3 tyX3 tyX3_ok tw_43 tw_44 tw_3 rfl (fun β h => by
    show (.inr (3, [.int 0, r0 (β 1901 g0), r0 (β 1902 g0), r0 (β 1903 g0), r0 (β 1904 g0)]) : va_E) = .inr (3, [.int 0, .null, .null, .null, .null])
    rw [(h 1 (by decide) : β 1901 g0 = 0), (h 2 (by decide) : β 1902 g0 = 0), (h 3 (by decide) : β 1903 g0 = 0), (h 4 (by decide) : β 1904 g0 = 0)]; rfl) (fun j hj => by
    match j, hj with
    | 0, _ => rfl
    | 1, _ => rfl
    | 2, _ => rfl
    | 3, _ => rfl
    | 4, _ => rfl
    | n + 5, h => exact absurd h (by omega)) ⟨Nat.le_of_ble_eq_true rfl, Nat.le_of_ble_eq_true rfl⟩ dX2_init_48 (fun α Lv H ho ha hv hN hc hd hx hm => ?_)
  obtain ⟨S_7, hd, hf⟩ := nmD hd hf
  have e0 := (ha _ _ hL0).trans e0
  have hs1 := sl_k ha hL_3_g0 (hv 1201 _ (Nat.le_of_ble_eq_true rfl) (by decide)) hs1
  have hs2 := sl_k ha hL_4_g0 (hv 1202 _ (Nat.le_of_ble_eq_true rfl) (by decide)) hs2
  have hs3 := sl_k ha hL_5_g0 (hv 1203 _ (Nat.le_of_ble_eq_true rfl) (by decide)) hs3
  have hs4 := sl_k ha hL_6_g0 (hv 1204 _ (Nat.le_of_ble_eq_true rfl) (by decide)) hs4
  have hs5 := sl_k ha hL_7_g0 (hv 1205 _ (Nat.le_of_ble_eq_true rfl) (by decide)) hs5
  have hs7 := sl_k ha hL_8_g0 (hv 1207 _ (Nat.le_of_ble_eq_true rfl) (by decide)) hs7
  have hL_3_g0 := ho _ _ hL_3_g0
  have hL_4_g0 := ho _ _ hL_4_g0
  have hL_5_g0 := ho _ _ hL_5_g0
  have hL_6_g0 := ho _ _ hL_6_g0
  have hL_7_g0 := ho _ _ hL_7_g0
  have hL_8_g0 := ho _ _ hL_8_g0
  have hL0 := ho _ _ hL0
  have hL_109_g0 := hN
  refine lv_dup hc.x hc.b dX2_init_51 rfl ?_
  obtain ⟨S_8, hq_9, hf⟩ := on_s hf
  refine q_c hc (k_runI hc hck hd my_X3_init tw_45 (c_X3_init l D cs B0 kt α Lv S_7 g0 hc.cl hx.2.2.2.1 hL_109_g0 (fun x h => hx.nl (K := x.1) (G := x.2) (hfr x (List.mem_cons_of_mem _ (List.mem_cons_of_mem _ (List.mem_cons_of_mem _ (List.mem_append_right _ (List.mem_cons_of_mem _ (List.mem_cons_of_mem _ (List.mem_append_right _ (List.mem_cons_of_mem _ (List.mem_append_right _ (List.mem_cons_of_mem _ (List.mem_append_right _ (List.mem_cons_of_mem _ (List.mem_append_left _ (h))))))))))))))) ((by simp only [F_X3_init, List.cons_append, List.nil_append, List.forall_mem_cons, List.forall_mem_append, List.forall_mem_map]; simp [F_X3_init] <;> omega : ∀ x ∈ F_X3_init g0, x ∉ _) x h)) hq_9) rfl rfl hl.1 (Nat.le_of_ble_eq_true rfl) ⟨Nat.le_of_ble_eq_true rfl, Nat.le_of_ble_eq_true rfl, Nat.le_of_ble_eq_true rfl, Nat.le_of_ble_eq_true rfl⟩ dX2_init_52) rfl hd hx hm (by decide) (hfr _ (List.mem_cons_of_mem _ (List.mem_cons_of_mem _ (List.mem_cons_of_mem _ (List.mem_append_right _ (List.mem_cons_of_mem _ (List.mem_cons_of_mem _ (List.mem_append_right _ (List.mem_cons_of_mem _ (List.mem_append_right _ (List.mem_cons_of_mem _ (List.mem_append_right _ (List.mem_cons_of_mem _ (List.mem_append_right _ (List.mem_cons_self))))))))))))))) (fun k9 g9 h9 _ => by cases h9; exact hL0) (fun α Lv H locs ho ha hv hN hc hd hx hm => ?_)
  have e0 := (ha _ _ hL0).trans e0
  have hs1 := sl_k ha hL_3_g0 (hv 1201 _ (Nat.le_of_ble_eq_true rfl) (by decide)) hs1
  have hs2 := sl_k ha hL_4_g0 (hv 1202 _ (Nat.le_of_ble_eq_true rfl) (by decide)) hs2
  have hs3 := sl_k ha hL_5_g0 (hv 1203 _ (Nat.le_of_ble_eq_true rfl) (by decide)) hs3
  have hs4 := sl_k ha hL_6_g0 (hv 1204 _ (Nat.le_of_ble_eq_true rfl) (by decide)) hs4
  have hs5 := sl_k ha hL_7_g0 (hv 1205 _ (Nat.le_of_ble_eq_true rfl) (by decide)) hs5
  have hs7 := sl_k ha hL_8_g0 (hv 1207 _ (Nat.le_of_ble_eq_true rfl) (by decide)) hs7
  have hL_3_g0 := ho _ _ hL_3_g0 (by decide)
  have hL_4_g0 := ho _ _ hL_4_g0 (by decide)
  have hL_5_g0 := ho _ _ hL_5_g0 (by decide)
  have hL_6_g0 := ho _ _ hL_6_g0 (by decide)
  have hL_7_g0 := ho _ _ hL_7_g0 (by decide)
  have hL_8_g0 := ho _ _ hL_8_g0 (by decide)
  have hL0 := ho _ _ hL0 (by decide)
  have hL_9_g0 := hN
  refine q_putR (K := 102) (V := 1209) (k := 2) (j := 9) (k2 := 9) (i2 := g0) hc hin2 hd hx hm (by decide) rfl rfl (by decide) hL0 e0 hL_9_g0 rfl rfl inX2 tyX2 tyX2_ok nmX2 (by decide) tw_154 rfl rfl (ty := .object "PumpCrossing$Drivers") (by decide +kernel) rfl rfl (by show _ < 18; decide) (fun x => by
    show (.inr (2, [_, _, _, _, _, _, _, _, _, r0 (up2 α 1209 g0 (x + 1) 1209 g0), _, _, _, _, _, _, _, _]) : va_E) = _
    rw [up2_s]; rfl) dX2_init_55 (fun α H locs ha hs9 hv hd hx hm => ?_)
  have e0 := (ha _ _ hL0).trans e0
  have hs1 := sl_k ha hL_3_g0 (hv 1201 _ (Nat.le_of_ble_eq_true rfl) (by decide)) hs1
  have hs2 := sl_k ha hL_4_g0 (hv 1202 _ (Nat.le_of_ble_eq_true rfl) (by decide)) hs2
  have hs3 := sl_k ha hL_5_g0 (hv 1203 _ (Nat.le_of_ble_eq_true rfl) (by decide)) hs3
  have hs4 := sl_k ha hL_6_g0 (hv 1204 _ (Nat.le_of_ble_eq_true rfl) (by decide)) hs4
  have hs5 := sl_k ha hL_7_g0 (hv 1205 _ (Nat.le_of_ble_eq_true rfl) (by decide)) hs5
  have hs7 := sl_k ha hL_8_g0 (hv 1207 _ (Nat.le_of_ble_eq_true rfl) (by decide)) hs7
  refine lv_aload_n hc.x hc.b dX2_init_58 rfl (lv_at hl 0 rfl) ?_
  refine q_newO (K := 114) (k := 14) (G := 2 * g0) (fs := [.int 0, .null, .null, .int 0]) hc hd hx hm (by decide) rfl (by decide) (hfr _ (List.mem_cons_of_mem _ (List.mem_cons_of_mem _ (List.mem_cons_of_mem _ (List.mem_append_right _ (List.mem_cons_of_mem _ (List.mem_cons_of_mem _ (List.mem_append_right _ (List.mem_cons_of_mem _ (List.mem_append_right _ (List.mem_cons_of_mem _ (List.mem_append_right _ (List.mem_cons_self))))))))))))) (by simp [F_X3_init] <;> omega) inX0 tyX0 tyX0_ok tw_70 tw_71 tw_4 rfl (fun β h => by
    show (.inr (0, [.int 0, r0 (β 2401 (2 * g0)), r0 (β 2402 (2 * g0)), .int 0]) : va_E) = .inr (0, [.int 0, .null, .null, .int 0])
    rw [(h 1 (by decide) : β 2401 (2 * g0) = 0), (h 2 (by decide) : β 2402 (2 * g0) = 0)]; rfl) (fun j hj => by
    match j, hj with
    | 0, _ => rfl
    | 1, _ => rfl
    | 2, _ => rfl
    | 3, _ => rfl
    | n + 4, h => exact absurd h (by omega)) ⟨Nat.le_of_ble_eq_true rfl, Nat.le_of_ble_eq_true rfl⟩ dX2_init_59 (fun α Lv H ho ha hv hN hc hd hx hm => ?_)
  obtain ⟨S_10, hd, hf⟩ := nmD hd hf
  have e0 := (ha _ _ hL0).trans e0
  have hs1 := sl_k ha hL_3_g0 (hv 1201 _ (Nat.le_of_ble_eq_true rfl) (by decide)) hs1
  have hs2 := sl_k ha hL_4_g0 (hv 1202 _ (Nat.le_of_ble_eq_true rfl) (by decide)) hs2
  have hs3 := sl_k ha hL_5_g0 (hv 1203 _ (Nat.le_of_ble_eq_true rfl) (by decide)) hs3
  have hs4 := sl_k ha hL_6_g0 (hv 1204 _ (Nat.le_of_ble_eq_true rfl) (by decide)) hs4
  have hs5 := sl_k ha hL_7_g0 (hv 1205 _ (Nat.le_of_ble_eq_true rfl) (by decide)) hs5
  have hs7 := sl_k ha hL_8_g0 (hv 1207 _ (Nat.le_of_ble_eq_true rfl) (by decide)) hs7
  have hs9 := sl_k ha hL_9_g0 (hv 1209 _ (Nat.le_of_ble_eq_true rfl) (by decide)) hs9
  have hL_3_g0 := ho _ _ hL_3_g0
  have hL_4_g0 := ho _ _ hL_4_g0
  have hL_5_g0 := ho _ _ hL_5_g0
  have hL_6_g0 := ho _ _ hL_6_g0
  have hL_7_g0 := ho _ _ hL_7_g0
  have hL_8_g0 := ho _ _ hL_8_g0
  have hL_9_g0 := ho _ _ hL_9_g0
  have hL0 := ho _ _ hL0
  have hL_114_2_g0 := hN
  refine lv_dup hc.x hc.b dX2_init_62 rfl ?_
  refine lv_sipush (v := 256) hc.x hc.b dX2_init_63 (by decide) ?_
  obtain ⟨S_11, hq_12, hf⟩ := on_s hf
  refine q_c hc (k_runI hc hck hd my_X0_init tw_72 (c_X0_init_256 l D cs B0 kt α Lv S_10 (2 * g0) hc.cl hx.2.2.2.1 hL_114_2_g0 (fun x h => hx.nl (K := x.1) (G := x.2) (hfr x (List.mem_cons_of_mem _ (List.mem_cons_of_mem _ (List.mem_cons_of_mem _ (List.mem_append_right _ (List.mem_cons_of_mem _ (List.mem_cons_of_mem _ (List.mem_append_right _ (List.mem_cons_of_mem _ (List.mem_append_right _ (List.mem_cons_of_mem _ (List.mem_append_left _ (h))))))))))))) ((by simp only [F_X0_init_256, F_X3_init, List.cons_append, List.nil_append, List.forall_mem_cons, List.forall_mem_append, List.forall_mem_map]; simp [F_X0_init_256, F_X3_init] <;> omega : ∀ x ∈ F_X0_init_256 (2 * g0), x ∉ _) x h)) hq_12) rfl rfl hl.1 (Nat.le_of_ble_eq_true rfl) ⟨Nat.le_of_ble_eq_true rfl, Nat.le_of_ble_eq_true rfl, Nat.le_of_ble_eq_true rfl, Nat.le_of_ble_eq_true rfl⟩ dX2_init_66) rfl hd hx hm (by decide) (hfr _ (List.mem_cons_of_mem _ (List.mem_cons_of_mem _ (List.mem_cons_of_mem _ (List.mem_append_right _ (List.mem_cons_of_mem _ (List.mem_cons_of_mem _ (List.mem_append_right _ (List.mem_cons_of_mem _ (List.mem_append_right _ (List.mem_cons_of_mem _ (List.mem_append_right _ (List.mem_cons_self))))))))))))) (fun k9 g9 h9 _ => by cases h9; exact hL0) (fun α Lv H locs ho ha hv hN hc hd hx hm => ?_)
  have e0 := (ha _ _ hL0).trans e0
  have hs1 := sl_k ha hL_3_g0 (hv 1201 _ (Nat.le_of_ble_eq_true rfl) (by decide)) hs1
  have hs2 := sl_k ha hL_4_g0 (hv 1202 _ (Nat.le_of_ble_eq_true rfl) (by decide)) hs2
  have hs3 := sl_k ha hL_5_g0 (hv 1203 _ (Nat.le_of_ble_eq_true rfl) (by decide)) hs3
  have hs4 := sl_k ha hL_6_g0 (hv 1204 _ (Nat.le_of_ble_eq_true rfl) (by decide)) hs4
  have hs5 := sl_k ha hL_7_g0 (hv 1205 _ (Nat.le_of_ble_eq_true rfl) (by decide)) hs5
  have hs7 := sl_k ha hL_8_g0 (hv 1207 _ (Nat.le_of_ble_eq_true rfl) (by decide)) hs7
  have hs9 := sl_k ha hL_9_g0 (hv 1209 _ (Nat.le_of_ble_eq_true rfl) (by decide)) hs9
  have hL_3_g0 := ho _ _ hL_3_g0 (by decide)
  have hL_4_g0 := ho _ _ hL_4_g0 (by decide)
  have hL_5_g0 := ho _ _ hL_5_g0 (by decide)
  have hL_6_g0 := ho _ _ hL_6_g0 (by decide)
  have hL_7_g0 := ho _ _ hL_7_g0 (by decide)
  have hL_8_g0 := ho _ _ hL_8_g0 (by decide)
  have hL_9_g0 := ho _ _ hL_9_g0 (by decide)
  have hL0 := ho _ _ hL0 (by decide)
  have hL_14_2_g0 := hN
  refine q_putR (K := 102) (V := 1210) (k := 2) (j := 10) (k2 := 14) (i2 := 2 * g0) hc hin2 hd hx hm (by decide) rfl rfl (by decide) hL0 e0 hL_14_2_g0 rfl rfl inX2 tyX2 tyX2_ok nmX2 (by decide) tw_157 rfl rfl (ty := .object "PumpCrossing$Boards") (by decide +kernel) rfl rfl (by show _ < 18; decide) (fun x => by
    show (.inr (2, [_, _, _, _, _, _, _, _, _, _, r0 (up2 α 1210 g0 (x + 1) 1210 g0), _, _, _, _, _, _, _]) : va_E) = _
    rw [up2_s]; rfl) dX2_init_69 (fun α H locs ha hs10 hv hd hx hm => ?_)
  have e0 := (ha _ _ hL0).trans e0
  have hs1 := sl_k ha hL_3_g0 (hv 1201 _ (Nat.le_of_ble_eq_true rfl) (by decide)) hs1
  have hs2 := sl_k ha hL_4_g0 (hv 1202 _ (Nat.le_of_ble_eq_true rfl) (by decide)) hs2
  have hs3 := sl_k ha hL_5_g0 (hv 1203 _ (Nat.le_of_ble_eq_true rfl) (by decide)) hs3
  have hs4 := sl_k ha hL_6_g0 (hv 1204 _ (Nat.le_of_ble_eq_true rfl) (by decide)) hs4
  have hs5 := sl_k ha hL_7_g0 (hv 1205 _ (Nat.le_of_ble_eq_true rfl) (by decide)) hs5
  have hs7 := sl_k ha hL_8_g0 (hv 1207 _ (Nat.le_of_ble_eq_true rfl) (by decide)) hs7
  have hs9 := sl_k ha hL_9_g0 (hv 1209 _ (Nat.le_of_ble_eq_true rfl) (by decide)) hs9
  refine lv_aload_n hc.x hc.b dX2_init_72 rfl (lv_at hl 0 rfl) ?_
  refine q_newO (K := 114) (k := 14) (G := 2 * g0 + 1) (fs := [.int 0, .null, .null, .int 0]) hc hd hx hm (by decide) rfl (by decide) (hfr _ (List.mem_cons_of_mem _ (List.mem_cons_of_mem _ (List.mem_cons_of_mem _ (List.mem_append_right _ (List.mem_cons_of_mem _ (List.mem_cons_of_mem _ (List.mem_append_right _ (List.mem_cons_of_mem _ (List.mem_append_right _ (List.mem_cons_self))))))))))) (by simp [F_X0_init_256, F_X3_init] <;> omega) inX0 tyX0 tyX0_ok tw_70 tw_71 tw_4 rfl (fun β h => by
    show (.inr (0, [.int 0, r0 (β 2401 (2 * g0 + 1)), r0 (β 2402 (2 * g0 + 1)), .int 0]) : va_E) = .inr (0, [.int 0, .null, .null, .int 0])
    rw [(h 1 (by decide) : β 2401 (2 * g0 + 1) = 0), (h 2 (by decide) : β 2402 (2 * g0 + 1) = 0)]; rfl) (fun j hj => by
    match j, hj with
    | 0, _ => rfl
    | 1, _ => rfl
    | 2, _ => rfl
    | 3, _ => rfl
    | n + 4, h => exact absurd h (by omega)) ⟨Nat.le_of_ble_eq_true rfl, Nat.le_of_ble_eq_true rfl⟩ dX2_init_73 (fun α Lv H ho ha hv hN hc hd hx hm => ?_)
  obtain ⟨S_13, hd, hf⟩ := nmD hd hf
  have e0 := (ha _ _ hL0).trans e0
  have hs1 := sl_k ha hL_3_g0 (hv 1201 _ (Nat.le_of_ble_eq_true rfl) (by decide)) hs1
  have hs2 := sl_k ha hL_4_g0 (hv 1202 _ (Nat.le_of_ble_eq_true rfl) (by decide)) hs2
  have hs3 := sl_k ha hL_5_g0 (hv 1203 _ (Nat.le_of_ble_eq_true rfl) (by decide)) hs3
  have hs4 := sl_k ha hL_6_g0 (hv 1204 _ (Nat.le_of_ble_eq_true rfl) (by decide)) hs4
  have hs5 := sl_k ha hL_7_g0 (hv 1205 _ (Nat.le_of_ble_eq_true rfl) (by decide)) hs5
  have hs7 := sl_k ha hL_8_g0 (hv 1207 _ (Nat.le_of_ble_eq_true rfl) (by decide)) hs7
  have hs9 := sl_k ha hL_9_g0 (hv 1209 _ (Nat.le_of_ble_eq_true rfl) (by decide)) hs9
  have hs10 := sl_k ha hL_14_2_g0 (hv 1210 _ (Nat.le_of_ble_eq_true rfl) (by decide)) hs10
  have hL_3_g0 := ho _ _ hL_3_g0
  have hL_4_g0 := ho _ _ hL_4_g0
  have hL_5_g0 := ho _ _ hL_5_g0
  have hL_6_g0 := ho _ _ hL_6_g0
  have hL_7_g0 := ho _ _ hL_7_g0
  have hL_8_g0 := ho _ _ hL_8_g0
  have hL_9_g0 := ho _ _ hL_9_g0
  have hL_14_2_g0 := ho _ _ hL_14_2_g0
  have hL0 := ho _ _ hL0
  have hL_114_2_g0_1 := hN
  refine lv_dup hc.x hc.b dX2_init_76 rfl ?_
  refine lv_bipush (v := 60) hc.x hc.b dX2_init_77 (by decide) ?_
  obtain ⟨S_14, hq_15, hf⟩ := on_s hf
  refine q_c hc (k_runI hc hck hd my_X0_init tw_72 (c_X0_init_60 l D cs B0 kt α Lv S_13 (2 * g0 + 1) hc.cl hx.2.2.2.1 hL_114_2_g0_1 (fun x h => hx.nl (K := x.1) (G := x.2) (hfr x (List.mem_cons_of_mem _ (List.mem_cons_of_mem _ (List.mem_cons_of_mem _ (List.mem_append_right _ (List.mem_cons_of_mem _ (List.mem_cons_of_mem _ (List.mem_append_right _ (List.mem_cons_of_mem _ (List.mem_append_left _ (h))))))))))) ((by simp only [F_X0_init_256, F_X0_init_60, F_X3_init, List.cons_append, List.nil_append, List.forall_mem_cons, List.forall_mem_append, List.forall_mem_map]; simp [F_X0_init_256, F_X0_init_60, F_X3_init] <;> omega : ∀ x ∈ F_X0_init_60 (2 * g0 + 1), x ∉ _) x h)) hq_15) rfl rfl hl.1 (Nat.le_of_ble_eq_true rfl) ⟨Nat.le_of_ble_eq_true rfl, Nat.le_of_ble_eq_true rfl, Nat.le_of_ble_eq_true rfl, Nat.le_of_ble_eq_true rfl⟩ dX2_init_79) rfl hd hx hm (by decide) (hfr _ (List.mem_cons_of_mem _ (List.mem_cons_of_mem _ (List.mem_cons_of_mem _ (List.mem_append_right _ (List.mem_cons_of_mem _ (List.mem_cons_of_mem _ (List.mem_append_right _ (List.mem_cons_of_mem _ (List.mem_append_right _ (List.mem_cons_self))))))))))) (fun k9 g9 h9 _ => by cases h9; exact hL0) (fun α Lv H locs ho ha hv hN hc hd hx hm => ?_)
  have e0 := (ha _ _ hL0).trans e0
  have hs1 := sl_k ha hL_3_g0 (hv 1201 _ (Nat.le_of_ble_eq_true rfl) (by decide)) hs1
  have hs2 := sl_k ha hL_4_g0 (hv 1202 _ (Nat.le_of_ble_eq_true rfl) (by decide)) hs2
  have hs3 := sl_k ha hL_5_g0 (hv 1203 _ (Nat.le_of_ble_eq_true rfl) (by decide)) hs3
  have hs4 := sl_k ha hL_6_g0 (hv 1204 _ (Nat.le_of_ble_eq_true rfl) (by decide)) hs4
  have hs5 := sl_k ha hL_7_g0 (hv 1205 _ (Nat.le_of_ble_eq_true rfl) (by decide)) hs5
  have hs7 := sl_k ha hL_8_g0 (hv 1207 _ (Nat.le_of_ble_eq_true rfl) (by decide)) hs7
  have hs9 := sl_k ha hL_9_g0 (hv 1209 _ (Nat.le_of_ble_eq_true rfl) (by decide)) hs9
  have hs10 := sl_k ha hL_14_2_g0 (hv 1210 _ (Nat.le_of_ble_eq_true rfl) (by decide)) hs10
  have hL_3_g0 := ho _ _ hL_3_g0 (by decide)
  have hL_4_g0 := ho _ _ hL_4_g0 (by decide)
  have hL_5_g0 := ho _ _ hL_5_g0 (by decide)
  have hL_6_g0 := ho _ _ hL_6_g0 (by decide)
  have hL_7_g0 := ho _ _ hL_7_g0 (by decide)
  have hL_8_g0 := ho _ _ hL_8_g0 (by decide)
  have hL_9_g0 := ho _ _ hL_9_g0 (by decide)
  have hL_14_2_g0 := ho _ _ hL_14_2_g0 (by decide)
  have hL0 := ho _ _ hL0 (by decide)
  have hL_14_2_g0_1 := hN
  refine q_putR (K := 102) (V := 1211) (k := 2) (j := 11) (k2 := 14) (i2 := 2 * g0 + 1) hc hin2 hd hx hm (by decide) rfl rfl (by decide) hL0 e0 hL_14_2_g0_1 rfl rfl inX2 tyX2 tyX2_ok nmX2 (by decide) tw_159 rfl rfl (ty := .object "PumpCrossing$Boards") (by decide +kernel) rfl rfl (by show _ < 18; decide) (fun x => by
    show (.inr (2, [_, _, _, _, _, _, _, _, _, _, _, r0 (up2 α 1211 g0 (x + 1) 1211 g0), _, _, _, _, _, _]) : va_E) = _
    rw [up2_s]; rfl) dX2_init_82 (fun α H locs ha hs11 hv hd hx hm => ?_)
  have e0 := (ha _ _ hL0).trans e0
  have hs1 := sl_k ha hL_3_g0 (hv 1201 _ (Nat.le_of_ble_eq_true rfl) (by decide)) hs1
  have hs2 := sl_k ha hL_4_g0 (hv 1202 _ (Nat.le_of_ble_eq_true rfl) (by decide)) hs2
  have hs3 := sl_k ha hL_5_g0 (hv 1203 _ (Nat.le_of_ble_eq_true rfl) (by decide)) hs3
  have hs4 := sl_k ha hL_6_g0 (hv 1204 _ (Nat.le_of_ble_eq_true rfl) (by decide)) hs4
  have hs5 := sl_k ha hL_7_g0 (hv 1205 _ (Nat.le_of_ble_eq_true rfl) (by decide)) hs5
  have hs7 := sl_k ha hL_8_g0 (hv 1207 _ (Nat.le_of_ble_eq_true rfl) (by decide)) hs7
  have hs9 := sl_k ha hL_9_g0 (hv 1209 _ (Nat.le_of_ble_eq_true rfl) (by decide)) hs9
  have hs10 := sl_k ha hL_14_2_g0 (hv 1210 _ (Nat.le_of_ble_eq_true rfl) (by decide)) hs10
  refine lv_aload_n hc.x hc.b dX2_init_85 rfl (lv_at hl 0 rfl) ?_
  refine q_newO (K := 117) (k := 17) (G := g0) (fs := [.null, .null, .null, .int 0]) hc hd hx hm (by decide) rfl (by decide) (hfr _ (List.mem_cons_of_mem _ (List.mem_cons_of_mem _ (List.mem_cons_of_mem _ (List.mem_append_right _ (List.mem_cons_of_mem _ (List.mem_cons_of_mem _ (List.mem_append_right _ (List.mem_cons_self))))))))) (by simp [F_X0_init_256, F_X0_init_60, F_X3_init] <;> omega) inX1 tyX1 tyX1_ok tw_92 tw_93 tw_5 rfl (fun β h => by
    show (.inr (1, [r0 (β 2700 g0), r0 (β 2701 g0), r0 (β 2702 g0), .int 0]) : va_E) = .inr (1, [.null, .null, .null, .int 0])
    rw [(h 0 (by decide) : β 2700 g0 = 0), (h 1 (by decide) : β 2701 g0 = 0), (h 2 (by decide) : β 2702 g0 = 0)]; rfl) (fun j hj => by
    match j, hj with
    | 0, _ => rfl
    | 1, _ => rfl
    | 2, _ => rfl
    | 3, _ => rfl
    | n + 4, h => exact absurd h (by omega)) ⟨Nat.le_of_ble_eq_true rfl, Nat.le_of_ble_eq_true rfl⟩ dX2_init_86 (fun α Lv H ho ha hv hN hc hd hx hm => ?_)
  obtain ⟨S_16, hd, hf⟩ := nmD hd hf
  have e0 := (ha _ _ hL0).trans e0
  have hs1 := sl_k ha hL_3_g0 (hv 1201 _ (Nat.le_of_ble_eq_true rfl) (by decide)) hs1
  have hs2 := sl_k ha hL_4_g0 (hv 1202 _ (Nat.le_of_ble_eq_true rfl) (by decide)) hs2
  have hs3 := sl_k ha hL_5_g0 (hv 1203 _ (Nat.le_of_ble_eq_true rfl) (by decide)) hs3
  have hs4 := sl_k ha hL_6_g0 (hv 1204 _ (Nat.le_of_ble_eq_true rfl) (by decide)) hs4
  have hs5 := sl_k ha hL_7_g0 (hv 1205 _ (Nat.le_of_ble_eq_true rfl) (by decide)) hs5
  have hs7 := sl_k ha hL_8_g0 (hv 1207 _ (Nat.le_of_ble_eq_true rfl) (by decide)) hs7
  have hs9 := sl_k ha hL_9_g0 (hv 1209 _ (Nat.le_of_ble_eq_true rfl) (by decide)) hs9
  have hs10 := sl_k ha hL_14_2_g0 (hv 1210 _ (Nat.le_of_ble_eq_true rfl) (by decide)) hs10
  have hs11 := sl_k ha hL_14_2_g0_1 (hv 1211 _ (Nat.le_of_ble_eq_true rfl) (by decide)) hs11
  have hL_3_g0 := ho _ _ hL_3_g0
  have hL_4_g0 := ho _ _ hL_4_g0
  have hL_5_g0 := ho _ _ hL_5_g0
  have hL_6_g0 := ho _ _ hL_6_g0
  have hL_7_g0 := ho _ _ hL_7_g0
  have hL_8_g0 := ho _ _ hL_8_g0
  have hL_9_g0 := ho _ _ hL_9_g0
  have hL_14_2_g0 := ho _ _ hL_14_2_g0
  have hL_14_2_g0_1 := ho _ _ hL_14_2_g0_1
  have hL0 := ho _ _ hL0
  have hL_117_g0 := hN
  refine lv_dup hc.x hc.b dX2_init_89 rfl ?_
  obtain ⟨S_17, hq_18, hf⟩ := on_s hf
  refine q_c hc (k_runI hc hck hd my_X1_init tw_94 (c_X1_init l D cs B0 kt α Lv S_16 g0 hc.cl hx.2.2.2.1 hL_117_g0 (fun x h => hx.nl (K := x.1) (G := x.2) (hfr x (List.mem_cons_of_mem _ (List.mem_cons_of_mem _ (List.mem_cons_of_mem _ (List.mem_append_right _ (List.mem_cons_of_mem _ (List.mem_cons_of_mem _ (List.mem_append_left _ (h))))))))) ((by simp only [F_X0_init_256, F_X0_init_60, F_X1_init, F_X3_init, List.cons_append, List.nil_append, List.forall_mem_cons, List.forall_mem_append, List.forall_mem_map]; simp [F_X0_init_256, F_X0_init_60, F_X1_init, F_X3_init] <;> omega : ∀ x ∈ F_X1_init g0, x ∉ _) x h)) hq_18) rfl rfl hl.1 (Nat.le_of_ble_eq_true rfl) ⟨Nat.le_of_ble_eq_true rfl, Nat.le_of_ble_eq_true rfl, Nat.le_of_ble_eq_true rfl, Nat.le_of_ble_eq_true rfl⟩ dX2_init_90) rfl hd hx hm (by decide) (hfr _ (List.mem_cons_of_mem _ (List.mem_cons_of_mem _ (List.mem_cons_of_mem _ (List.mem_append_right _ (List.mem_cons_of_mem _ (List.mem_cons_of_mem _ (List.mem_append_right _ (List.mem_cons_self))))))))) (fun k9 g9 h9 _ => by cases h9; exact hL0) (fun α Lv H locs ho ha hv hN hc hd hx hm => ?_)
  have e0 := (ha _ _ hL0).trans e0
  have hs1 := sl_k ha hL_3_g0 (hv 1201 _ (Nat.le_of_ble_eq_true rfl) (by decide)) hs1
  have hs2 := sl_k ha hL_4_g0 (hv 1202 _ (Nat.le_of_ble_eq_true rfl) (by decide)) hs2
  have hs3 := sl_k ha hL_5_g0 (hv 1203 _ (Nat.le_of_ble_eq_true rfl) (by decide)) hs3
  have hs4 := sl_k ha hL_6_g0 (hv 1204 _ (Nat.le_of_ble_eq_true rfl) (by decide)) hs4
  have hs5 := sl_k ha hL_7_g0 (hv 1205 _ (Nat.le_of_ble_eq_true rfl) (by decide)) hs5
  have hs7 := sl_k ha hL_8_g0 (hv 1207 _ (Nat.le_of_ble_eq_true rfl) (by decide)) hs7
  have hs9 := sl_k ha hL_9_g0 (hv 1209 _ (Nat.le_of_ble_eq_true rfl) (by decide)) hs9
  have hs10 := sl_k ha hL_14_2_g0 (hv 1210 _ (Nat.le_of_ble_eq_true rfl) (by decide)) hs10
  have hs11 := sl_k ha hL_14_2_g0_1 (hv 1211 _ (Nat.le_of_ble_eq_true rfl) (by decide)) hs11
  have hL_3_g0 := ho _ _ hL_3_g0 (by decide)
  have hL_4_g0 := ho _ _ hL_4_g0 (by decide)
  have hL_5_g0 := ho _ _ hL_5_g0 (by decide)
  have hL_6_g0 := ho _ _ hL_6_g0 (by decide)
  have hL_7_g0 := ho _ _ hL_7_g0 (by decide)
  have hL_8_g0 := ho _ _ hL_8_g0 (by decide)
  have hL_9_g0 := ho _ _ hL_9_g0 (by decide)
  have hL_14_2_g0 := ho _ _ hL_14_2_g0 (by decide)
  have hL_14_2_g0_1 := ho _ _ hL_14_2_g0_1 (by decide)
  have hL0 := ho _ _ hL0 (by decide)
  have hL_17_g0 := hN
  refine q_putR (K := 102) (V := 1212) (k := 2) (j := 12) (k2 := 17) (i2 := g0) hc hin2 hd hx hm (by decide) rfl rfl (by decide) hL0 e0 hL_17_g0 rfl rfl inX2 tyX2 tyX2_ok nmX2 (by decide) tw_161 rfl rfl (ty := .object "PumpCrossing$CostChanges") (by decide +kernel) rfl rfl (by show _ < 18; decide) (fun x => by
    show (.inr (2, [_, _, _, _, _, _, _, _, _, _, _, _, r0 (up2 α 1212 g0 (x + 1) 1212 g0), _, _, _, _, _]) : va_E) = _
    rw [up2_s]; rfl) dX2_init_93 (fun α H locs ha hs12 hv hd hx hm => ?_)
  have e0 := (ha _ _ hL0).trans e0
  have hs1 := sl_k ha hL_3_g0 (hv 1201 _ (Nat.le_of_ble_eq_true rfl) (by decide)) hs1
  have hs2 := sl_k ha hL_4_g0 (hv 1202 _ (Nat.le_of_ble_eq_true rfl) (by decide)) hs2
  have hs3 := sl_k ha hL_5_g0 (hv 1203 _ (Nat.le_of_ble_eq_true rfl) (by decide)) hs3
  have hs4 := sl_k ha hL_6_g0 (hv 1204 _ (Nat.le_of_ble_eq_true rfl) (by decide)) hs4
  have hs5 := sl_k ha hL_7_g0 (hv 1205 _ (Nat.le_of_ble_eq_true rfl) (by decide)) hs5
  have hs7 := sl_k ha hL_8_g0 (hv 1207 _ (Nat.le_of_ble_eq_true rfl) (by decide)) hs7
  have hs9 := sl_k ha hL_9_g0 (hv 1209 _ (Nat.le_of_ble_eq_true rfl) (by decide)) hs9
  have hs10 := sl_k ha hL_14_2_g0 (hv 1210 _ (Nat.le_of_ble_eq_true rfl) (by decide)) hs10
  have hs11 := sl_k ha hL_14_2_g0_1 (hv 1211 _ (Nat.le_of_ble_eq_true rfl) (by decide)) hs11
  refine lv_aload_n hc.x hc.b dX2_init_96 rfl (lv_at hl 0 rfl) ?_
  refine lv_bipush (v := 8) hc.x hc.b dX2_init_97 (by decide) ?_
  refine q_newP (aty := .int) (K := 21) (G := g0) (N := 8) hc hd hx hm hck.1 tw_68 (fun _ => rfl) rfl (by decide) (by decide) (hfr _ (List.mem_cons_of_mem _ (List.mem_cons_of_mem _ (List.mem_cons_of_mem _ (List.mem_append_right _ (List.mem_cons_of_mem _ (List.mem_cons_self))))))) (by simp [F_X0_init_256, F_X0_init_60, F_X1_init, F_X3_init] <;> omega) (by decide) (by decide) (by decide) ⟨Nat.le_of_ble_eq_true rfl, Nat.le_of_ble_eq_true rfl⟩ dX2_init_99 (fun α Lv H ho ha hv hN hc hd hx hm => ?_)
  obtain ⟨S_19, hd, hf⟩ := nmD hd hf
  have e0 := (ha _ _ hL0).trans e0
  have hs1 := sl_k ha hL_3_g0 (hv 1201 _ (Nat.le_of_ble_eq_true rfl)) hs1
  have hs2 := sl_k ha hL_4_g0 (hv 1202 _ (Nat.le_of_ble_eq_true rfl)) hs2
  have hs3 := sl_k ha hL_5_g0 (hv 1203 _ (Nat.le_of_ble_eq_true rfl)) hs3
  have hs4 := sl_k ha hL_6_g0 (hv 1204 _ (Nat.le_of_ble_eq_true rfl)) hs4
  have hs5 := sl_k ha hL_7_g0 (hv 1205 _ (Nat.le_of_ble_eq_true rfl)) hs5
  have hs7 := sl_k ha hL_8_g0 (hv 1207 _ (Nat.le_of_ble_eq_true rfl)) hs7
  have hs9 := sl_k ha hL_9_g0 (hv 1209 _ (Nat.le_of_ble_eq_true rfl)) hs9
  have hs10 := sl_k ha hL_14_2_g0 (hv 1210 _ (Nat.le_of_ble_eq_true rfl)) hs10
  have hs11 := sl_k ha hL_14_2_g0_1 (hv 1211 _ (Nat.le_of_ble_eq_true rfl)) hs11
  have hs12 := sl_k ha hL_17_g0 (hv 1212 _ (Nat.le_of_ble_eq_true rfl)) hs12
  have hL_3_g0 := ho _ _ hL_3_g0
  have hL_4_g0 := ho _ _ hL_4_g0
  have hL_5_g0 := ho _ _ hL_5_g0
  have hL_6_g0 := ho _ _ hL_6_g0
  have hL_7_g0 := ho _ _ hL_7_g0
  have hL_8_g0 := ho _ _ hL_8_g0
  have hL_9_g0 := ho _ _ hL_9_g0
  have hL_14_2_g0 := ho _ _ hL_14_2_g0
  have hL_14_2_g0_1 := ho _ _ hL_14_2_g0_1
  have hL_17_g0 := ho _ _ hL_17_g0
  have hL0 := ho _ _ hL0
  have hL_21_g0 := hN
  refine q_putR (K := 102) (V := 1213) (k := 2) (j := 13) (k2 := 21) (i2 := g0) hc hin2 hd hx hm (by decide) rfl rfl (by decide) hL0 e0 hL_21_g0 rfl rfl inX2 tyX2 tyX2_ok nmX2 (by decide) tw_163 rfl rfl (ty := .array .int) (by decide +kernel) rfl rfl (by show _ < 18; decide) (fun x => by
    show (.inr (2, [_, _, _, _, _, _, _, _, _, _, _, _, _, r0 (up2 α 1213 g0 (x + 1) 1213 g0), _, _, _, _]) : va_E) = _
    rw [up2_s]; rfl) dX2_init_101 (fun α H locs ha hs13 hv hd hx hm => ?_)
  have e0 := (ha _ _ hL0).trans e0
  have hs1 := sl_k ha hL_3_g0 (hv 1201 _ (Nat.le_of_ble_eq_true rfl) (by decide)) hs1
  have hs2 := sl_k ha hL_4_g0 (hv 1202 _ (Nat.le_of_ble_eq_true rfl) (by decide)) hs2
  have hs3 := sl_k ha hL_5_g0 (hv 1203 _ (Nat.le_of_ble_eq_true rfl) (by decide)) hs3
  have hs4 := sl_k ha hL_6_g0 (hv 1204 _ (Nat.le_of_ble_eq_true rfl) (by decide)) hs4
  have hs5 := sl_k ha hL_7_g0 (hv 1205 _ (Nat.le_of_ble_eq_true rfl) (by decide)) hs5
  have hs7 := sl_k ha hL_8_g0 (hv 1207 _ (Nat.le_of_ble_eq_true rfl) (by decide)) hs7
  have hs9 := sl_k ha hL_9_g0 (hv 1209 _ (Nat.le_of_ble_eq_true rfl) (by decide)) hs9
  have hs10 := sl_k ha hL_14_2_g0 (hv 1210 _ (Nat.le_of_ble_eq_true rfl) (by decide)) hs10
  have hs11 := sl_k ha hL_14_2_g0_1 (hv 1211 _ (Nat.le_of_ble_eq_true rfl) (by decide)) hs11
  have hs12 := sl_k ha hL_17_g0 (hv 1212 _ (Nat.le_of_ble_eq_true rfl) (by decide)) hs12
  refine lv_aload_n hc.x hc.b dX2_init_104 rfl (lv_at hl 0 rfl) ?_
  refine q_newO (K := 122) (k := 22) (G := g0) (fs := [.null, .null, .int 0, .int 0]) hc hd hx hm (by decide) rfl (by decide) (hfr _ (List.mem_cons_of_mem _ (List.mem_cons_of_mem _ (List.mem_cons_of_mem _ (List.mem_append_right _ (List.mem_cons_self)))))) (by simp [F_X0_init_256, F_X0_init_60, F_X1_init, F_X3_init] <;> omega) inX8 tyX8 tyX8_ok tw_113 tw_114 tw_6 rfl (fun β h => by
    show (.inr (8, [r0 (β 3200 g0), r0 (β 3201 g0), .int 0, .int 0]) : va_E) = .inr (8, [.null, .null, .int 0, .int 0])
    rw [(h 0 (by decide) : β 3200 g0 = 0), (h 1 (by decide) : β 3201 g0 = 0)]; rfl) (fun j hj => by
    match j, hj with
    | 0, _ => rfl
    | 1, _ => rfl
    | 2, _ => rfl
    | 3, _ => rfl
    | n + 4, h => exact absurd h (by omega)) ⟨Nat.le_of_ble_eq_true rfl, Nat.le_of_ble_eq_true rfl⟩ dX2_init_105 (fun α Lv H ho ha hv hN hc hd hx hm => ?_)
  obtain ⟨S_20, hd, hf⟩ := nmD hd hf
  have e0 := (ha _ _ hL0).trans e0
  have hs1 := sl_k ha hL_3_g0 (hv 1201 _ (Nat.le_of_ble_eq_true rfl) (by decide)) hs1
  have hs2 := sl_k ha hL_4_g0 (hv 1202 _ (Nat.le_of_ble_eq_true rfl) (by decide)) hs2
  have hs3 := sl_k ha hL_5_g0 (hv 1203 _ (Nat.le_of_ble_eq_true rfl) (by decide)) hs3
  have hs4 := sl_k ha hL_6_g0 (hv 1204 _ (Nat.le_of_ble_eq_true rfl) (by decide)) hs4
  have hs5 := sl_k ha hL_7_g0 (hv 1205 _ (Nat.le_of_ble_eq_true rfl) (by decide)) hs5
  have hs7 := sl_k ha hL_8_g0 (hv 1207 _ (Nat.le_of_ble_eq_true rfl) (by decide)) hs7
  have hs9 := sl_k ha hL_9_g0 (hv 1209 _ (Nat.le_of_ble_eq_true rfl) (by decide)) hs9
  have hs10 := sl_k ha hL_14_2_g0 (hv 1210 _ (Nat.le_of_ble_eq_true rfl) (by decide)) hs10
  have hs11 := sl_k ha hL_14_2_g0_1 (hv 1211 _ (Nat.le_of_ble_eq_true rfl) (by decide)) hs11
  have hs12 := sl_k ha hL_17_g0 (hv 1212 _ (Nat.le_of_ble_eq_true rfl) (by decide)) hs12
  have hs13 := sl_k ha hL_21_g0 (hv 1213 _ (Nat.le_of_ble_eq_true rfl) (by decide)) hs13
  have hL_3_g0 := ho _ _ hL_3_g0
  have hL_4_g0 := ho _ _ hL_4_g0
  have hL_5_g0 := ho _ _ hL_5_g0
  have hL_6_g0 := ho _ _ hL_6_g0
  have hL_7_g0 := ho _ _ hL_7_g0
  have hL_8_g0 := ho _ _ hL_8_g0
  have hL_9_g0 := ho _ _ hL_9_g0
  have hL_14_2_g0 := ho _ _ hL_14_2_g0
  have hL_14_2_g0_1 := ho _ _ hL_14_2_g0_1
  have hL_17_g0 := ho _ _ hL_17_g0
  have hL_21_g0 := ho _ _ hL_21_g0
  have hL0 := ho _ _ hL0
  have hL_122_g0 := hN
  refine lv_dup hc.x hc.b dX2_init_108 rfl ?_
  obtain ⟨S_21, hq_22, hf⟩ := on_s hf
  refine q_c hc (k_runI hc hck hd my_X8_init tw_115 (c_X8_init l D cs B0 kt α Lv S_20 g0 hc.cl hx.2.2.2.1 hL_122_g0 (fun x h => hx.nl (K := x.1) (G := x.2) (hfr x (List.mem_cons_of_mem _ (List.mem_cons_of_mem _ (List.mem_cons_of_mem _ (List.mem_append_left _ (h)))))) ((by simp only [F_X0_init_256, F_X0_init_60, F_X1_init, F_X3_init, F_X8_init, mF, List.cons_append, List.nil_append, List.forall_mem_cons, List.forall_mem_append, List.forall_mem_map]; simp [F_X0_init_256, F_X0_init_60, F_X1_init, F_X3_init, F_X8_init, mF] <;> omega : ∀ x ∈ F_X8_init g0, x ∉ _) x h)) hq_22) rfl rfl hl.1 (Nat.le_of_ble_eq_true rfl) ⟨Nat.le_of_ble_eq_true rfl, Nat.le_of_ble_eq_true rfl, Nat.le_of_ble_eq_true rfl, Nat.le_of_ble_eq_true rfl⟩ dX2_init_109) rfl hd hx hm (by decide) (hfr _ (List.mem_cons_of_mem _ (List.mem_cons_of_mem _ (List.mem_cons_of_mem _ (List.mem_append_right _ (List.mem_cons_self)))))) (fun k9 g9 h9 _ => by cases h9; exact hL0) (fun α Lv H locs ho ha hv hN hc hd hx hm => ?_)
  have e0 := (ha _ _ hL0).trans e0
  have hs1 := sl_k ha hL_3_g0 (hv 1201 _ (Nat.le_of_ble_eq_true rfl) (by decide)) hs1
  have hs2 := sl_k ha hL_4_g0 (hv 1202 _ (Nat.le_of_ble_eq_true rfl) (by decide)) hs2
  have hs3 := sl_k ha hL_5_g0 (hv 1203 _ (Nat.le_of_ble_eq_true rfl) (by decide)) hs3
  have hs4 := sl_k ha hL_6_g0 (hv 1204 _ (Nat.le_of_ble_eq_true rfl) (by decide)) hs4
  have hs5 := sl_k ha hL_7_g0 (hv 1205 _ (Nat.le_of_ble_eq_true rfl) (by decide)) hs5
  have hs7 := sl_k ha hL_8_g0 (hv 1207 _ (Nat.le_of_ble_eq_true rfl) (by decide)) hs7
  have hs9 := sl_k ha hL_9_g0 (hv 1209 _ (Nat.le_of_ble_eq_true rfl) (by decide)) hs9
  have hs10 := sl_k ha hL_14_2_g0 (hv 1210 _ (Nat.le_of_ble_eq_true rfl) (by decide)) hs10
  have hs11 := sl_k ha hL_14_2_g0_1 (hv 1211 _ (Nat.le_of_ble_eq_true rfl) (by decide)) hs11
  have hs12 := sl_k ha hL_17_g0 (hv 1212 _ (Nat.le_of_ble_eq_true rfl) (by decide)) hs12
  have hs13 := sl_k ha hL_21_g0 (hv 1213 _ (Nat.le_of_ble_eq_true rfl) (by decide)) hs13
  have hL_3_g0 := ho _ _ hL_3_g0 (by decide)
  have hL_4_g0 := ho _ _ hL_4_g0 (by decide)
  have hL_5_g0 := ho _ _ hL_5_g0 (by decide)
  have hL_6_g0 := ho _ _ hL_6_g0 (by decide)
  have hL_7_g0 := ho _ _ hL_7_g0 (by decide)
  have hL_8_g0 := ho _ _ hL_8_g0 (by decide)
  have hL_9_g0 := ho _ _ hL_9_g0 (by decide)
  have hL_14_2_g0 := ho _ _ hL_14_2_g0 (by decide)
  have hL_14_2_g0_1 := ho _ _ hL_14_2_g0_1 (by decide)
  have hL_17_g0 := ho _ _ hL_17_g0 (by decide)
  have hL_21_g0 := ho _ _ hL_21_g0 (by decide)
  have hL0 := ho _ _ hL0 (by decide)
  have hL_22_g0 := hN
  refine q_putR (K := 102) (V := 1215) (k := 2) (j := 15) (k2 := 22) (i2 := g0) hc hin2 hd hx hm (by decide) rfl rfl (by decide) hL0 e0 hL_22_g0 rfl rfl inX2 tyX2 tyX2_ok nmX2 (by decide) tw_169 rfl rfl (ty := .object "PumpCrossing$Stories") (by decide +kernel) rfl rfl (by show _ < 18; decide) (fun x => by
    show (.inr (2, [_, _, _, _, _, _, _, _, _, _, _, _, _, _, _, r0 (up2 α 1215 g0 (x + 1) 1215 g0), _, _]) : va_E) = _
    rw [up2_s]; rfl) dX2_init_112 (fun α H locs ha hs15 hv hd hx hm => ?_)
  have e0 := (ha _ _ hL0).trans e0
  have hs1 := sl_k ha hL_3_g0 (hv 1201 _ (Nat.le_of_ble_eq_true rfl) (by decide)) hs1
  have hs2 := sl_k ha hL_4_g0 (hv 1202 _ (Nat.le_of_ble_eq_true rfl) (by decide)) hs2
  have hs3 := sl_k ha hL_5_g0 (hv 1203 _ (Nat.le_of_ble_eq_true rfl) (by decide)) hs3
  have hs4 := sl_k ha hL_6_g0 (hv 1204 _ (Nat.le_of_ble_eq_true rfl) (by decide)) hs4
  have hs5 := sl_k ha hL_7_g0 (hv 1205 _ (Nat.le_of_ble_eq_true rfl) (by decide)) hs5
  have hs7 := sl_k ha hL_8_g0 (hv 1207 _ (Nat.le_of_ble_eq_true rfl) (by decide)) hs7
  have hs9 := sl_k ha hL_9_g0 (hv 1209 _ (Nat.le_of_ble_eq_true rfl) (by decide)) hs9
  have hs10 := sl_k ha hL_14_2_g0 (hv 1210 _ (Nat.le_of_ble_eq_true rfl) (by decide)) hs10
  have hs11 := sl_k ha hL_14_2_g0_1 (hv 1211 _ (Nat.le_of_ble_eq_true rfl) (by decide)) hs11
  have hs12 := sl_k ha hL_17_g0 (hv 1212 _ (Nat.le_of_ble_eq_true rfl) (by decide)) hs12
  have hs13 := sl_k ha hL_21_g0 (hv 1213 _ (Nat.le_of_ble_eq_true rfl) (by decide)) hs13
  refine lv_aload_n hc.x hc.b dX2_init_115 rfl (lv_at hl 0 rfl) ?_
  refine lv_iconst (v := 4) hc.x hc.b dX2_init_116 (by decide) ?_
  refine q_newP (aty := .int) (K := 26) (G := g0 + 1) (N := 4) hc hd hx hm hck.1 tw_68 (fun _ => rfl) rfl (by decide) (by decide) (hfr _ (List.mem_cons_of_mem _ (List.mem_cons_of_mem _ (List.mem_cons_self)))) (by simp [F_X0_init_256, F_X0_init_60, F_X1_init, F_X3_init, F_X8_init, mF] <;> omega) (by decide) (by decide) (by decide) ⟨Nat.le_of_ble_eq_true rfl, Nat.le_of_ble_eq_true rfl⟩ dX2_init_117 (fun α Lv H ho ha hv hN hc hd hx hm => ?_)
  obtain ⟨S_23, hd, hf⟩ := nmD hd hf
  have e0 := (ha _ _ hL0).trans e0
  have hs1 := sl_k ha hL_3_g0 (hv 1201 _ (Nat.le_of_ble_eq_true rfl)) hs1
  have hs2 := sl_k ha hL_4_g0 (hv 1202 _ (Nat.le_of_ble_eq_true rfl)) hs2
  have hs3 := sl_k ha hL_5_g0 (hv 1203 _ (Nat.le_of_ble_eq_true rfl)) hs3
  have hs4 := sl_k ha hL_6_g0 (hv 1204 _ (Nat.le_of_ble_eq_true rfl)) hs4
  have hs5 := sl_k ha hL_7_g0 (hv 1205 _ (Nat.le_of_ble_eq_true rfl)) hs5
  have hs7 := sl_k ha hL_8_g0 (hv 1207 _ (Nat.le_of_ble_eq_true rfl)) hs7
  have hs9 := sl_k ha hL_9_g0 (hv 1209 _ (Nat.le_of_ble_eq_true rfl)) hs9
  have hs10 := sl_k ha hL_14_2_g0 (hv 1210 _ (Nat.le_of_ble_eq_true rfl)) hs10
  have hs11 := sl_k ha hL_14_2_g0_1 (hv 1211 _ (Nat.le_of_ble_eq_true rfl)) hs11
  have hs12 := sl_k ha hL_17_g0 (hv 1212 _ (Nat.le_of_ble_eq_true rfl)) hs12
  have hs13 := sl_k ha hL_21_g0 (hv 1213 _ (Nat.le_of_ble_eq_true rfl)) hs13
  have hs15 := sl_k ha hL_22_g0 (hv 1215 _ (Nat.le_of_ble_eq_true rfl)) hs15
  have hL_3_g0 := ho _ _ hL_3_g0
  have hL_4_g0 := ho _ _ hL_4_g0
  have hL_5_g0 := ho _ _ hL_5_g0
  have hL_6_g0 := ho _ _ hL_6_g0
  have hL_7_g0 := ho _ _ hL_7_g0
  have hL_8_g0 := ho _ _ hL_8_g0
  have hL_9_g0 := ho _ _ hL_9_g0
  have hL_14_2_g0 := ho _ _ hL_14_2_g0
  have hL_14_2_g0_1 := ho _ _ hL_14_2_g0_1
  have hL_17_g0 := ho _ _ hL_17_g0
  have hL_21_g0 := ho _ _ hL_21_g0
  have hL_22_g0 := ho _ _ hL_22_g0
  have hL0 := ho _ _ hL0
  have hL_26_g0_1 := hN
  refine q_putR (K := 102) (V := 1216) (k := 2) (j := 16) (k2 := 26) (i2 := g0 + 1) hc hin2 hd hx hm (by decide) rfl rfl (by decide) hL0 e0 hL_26_g0_1 rfl rfl inX2 tyX2 tyX2_ok nmX2 (by decide) tw_171 rfl rfl (ty := .array .int) (by decide +kernel) rfl rfl (by show _ < 18; decide) (fun x => by
    show (.inr (2, [_, _, _, _, _, _, _, _, _, _, _, _, _, _, _, _, r0 (up2 α 1216 g0 (x + 1) 1216 g0), _]) : va_E) = _
    rw [up2_s]; rfl) dX2_init_119 (fun α H locs ha hs16 hv hd hx hm => ?_)
  have e0 := (ha _ _ hL0).trans e0
  have hs1 := sl_k ha hL_3_g0 (hv 1201 _ (Nat.le_of_ble_eq_true rfl) (by decide)) hs1
  have hs2 := sl_k ha hL_4_g0 (hv 1202 _ (Nat.le_of_ble_eq_true rfl) (by decide)) hs2
  have hs3 := sl_k ha hL_5_g0 (hv 1203 _ (Nat.le_of_ble_eq_true rfl) (by decide)) hs3
  have hs4 := sl_k ha hL_6_g0 (hv 1204 _ (Nat.le_of_ble_eq_true rfl) (by decide)) hs4
  have hs5 := sl_k ha hL_7_g0 (hv 1205 _ (Nat.le_of_ble_eq_true rfl) (by decide)) hs5
  have hs7 := sl_k ha hL_8_g0 (hv 1207 _ (Nat.le_of_ble_eq_true rfl) (by decide)) hs7
  have hs9 := sl_k ha hL_9_g0 (hv 1209 _ (Nat.le_of_ble_eq_true rfl) (by decide)) hs9
  have hs10 := sl_k ha hL_14_2_g0 (hv 1210 _ (Nat.le_of_ble_eq_true rfl) (by decide)) hs10
  have hs11 := sl_k ha hL_14_2_g0_1 (hv 1211 _ (Nat.le_of_ble_eq_true rfl) (by decide)) hs11
  have hs12 := sl_k ha hL_17_g0 (hv 1212 _ (Nat.le_of_ble_eq_true rfl) (by decide)) hs12
  have hs13 := sl_k ha hL_21_g0 (hv 1213 _ (Nat.le_of_ble_eq_true rfl) (by decide)) hs13
  have hs15 := sl_k ha hL_22_g0 (hv 1215 _ (Nat.le_of_ble_eq_true rfl) (by decide)) hs15
  refine lv_aload_n hc.x hc.b dX2_init_122 rfl (lv_at hl 0 rfl) ?_
  refine lv_bipush (v := 9) hc.x hc.b dX2_init_123 (by decide) ?_
  refine q_newP (aty := .int) (K := 27) (G := g0) (N := 9) hc hd hx hm hck.1 tw_68 (fun _ => rfl) rfl (by decide) (by decide) (hfr _ (List.mem_cons_of_mem _ (List.mem_cons_self))) (by simp [F_X0_init_256, F_X0_init_60, F_X1_init, F_X3_init, F_X8_init, mF] <;> omega) (by decide) (by decide) (by decide) ⟨Nat.le_of_ble_eq_true rfl, Nat.le_of_ble_eq_true rfl⟩ dX2_init_125 (fun α Lv H ho ha hv hN hc hd hx hm => ?_)
  obtain ⟨S_24, hd, hf⟩ := nmD hd hf
  have e0 := (ha _ _ hL0).trans e0
  have hs1 := sl_k ha hL_3_g0 (hv 1201 _ (Nat.le_of_ble_eq_true rfl)) hs1
  have hs2 := sl_k ha hL_4_g0 (hv 1202 _ (Nat.le_of_ble_eq_true rfl)) hs2
  have hs3 := sl_k ha hL_5_g0 (hv 1203 _ (Nat.le_of_ble_eq_true rfl)) hs3
  have hs4 := sl_k ha hL_6_g0 (hv 1204 _ (Nat.le_of_ble_eq_true rfl)) hs4
  have hs5 := sl_k ha hL_7_g0 (hv 1205 _ (Nat.le_of_ble_eq_true rfl)) hs5
  have hs7 := sl_k ha hL_8_g0 (hv 1207 _ (Nat.le_of_ble_eq_true rfl)) hs7
  have hs9 := sl_k ha hL_9_g0 (hv 1209 _ (Nat.le_of_ble_eq_true rfl)) hs9
  have hs10 := sl_k ha hL_14_2_g0 (hv 1210 _ (Nat.le_of_ble_eq_true rfl)) hs10
  have hs11 := sl_k ha hL_14_2_g0_1 (hv 1211 _ (Nat.le_of_ble_eq_true rfl)) hs11
  have hs12 := sl_k ha hL_17_g0 (hv 1212 _ (Nat.le_of_ble_eq_true rfl)) hs12
  have hs13 := sl_k ha hL_21_g0 (hv 1213 _ (Nat.le_of_ble_eq_true rfl)) hs13
  have hs15 := sl_k ha hL_22_g0 (hv 1215 _ (Nat.le_of_ble_eq_true rfl)) hs15
  have hs16 := sl_k ha hL_26_g0_1 (hv 1216 _ (Nat.le_of_ble_eq_true rfl)) hs16
  have hL_3_g0 := ho _ _ hL_3_g0
  have hL_4_g0 := ho _ _ hL_4_g0
  have hL_5_g0 := ho _ _ hL_5_g0
  have hL_6_g0 := ho _ _ hL_6_g0
  have hL_7_g0 := ho _ _ hL_7_g0
  have hL_8_g0 := ho _ _ hL_8_g0
  have hL_9_g0 := ho _ _ hL_9_g0
  have hL_14_2_g0 := ho _ _ hL_14_2_g0
  have hL_14_2_g0_1 := ho _ _ hL_14_2_g0_1
  have hL_17_g0 := ho _ _ hL_17_g0
  have hL_21_g0 := ho _ _ hL_21_g0
  have hL_22_g0 := ho _ _ hL_22_g0
  have hL_26_g0_1 := ho _ _ hL_26_g0_1
  have hL0 := ho _ _ hL0
  have hL_27_g0 := hN
  refine q_putR (K := 102) (V := 1217) (k := 2) (j := 17) (k2 := 27) (i2 := g0) hc hin2 hd hx hm (by decide) rfl rfl (by decide) hL0 e0 hL_27_g0 rfl rfl inX2 tyX2 tyX2_ok nmX2 (by decide) tw_173 rfl rfl (ty := .array .int) (by decide +kernel) rfl rfl (by show _ < 18; decide) (fun x => by
    show (.inr (2, [_, _, _, _, _, _, _, _, _, _, _, _, _, _, _, _, _, r0 (up2 α 1217 g0 (x + 1) 1217 g0)]) : va_E) = _
    rw [up2_s]; rfl) dX2_init_127 (fun α H locs ha hs17 hv hd hx hm => ?_)
  have e0 := (ha _ _ hL0).trans e0
  have hs1 := sl_k ha hL_3_g0 (hv 1201 _ (Nat.le_of_ble_eq_true rfl) (by decide)) hs1
  have hs2 := sl_k ha hL_4_g0 (hv 1202 _ (Nat.le_of_ble_eq_true rfl) (by decide)) hs2
  have hs3 := sl_k ha hL_5_g0 (hv 1203 _ (Nat.le_of_ble_eq_true rfl) (by decide)) hs3
  have hs4 := sl_k ha hL_6_g0 (hv 1204 _ (Nat.le_of_ble_eq_true rfl) (by decide)) hs4
  have hs5 := sl_k ha hL_7_g0 (hv 1205 _ (Nat.le_of_ble_eq_true rfl) (by decide)) hs5
  have hs7 := sl_k ha hL_8_g0 (hv 1207 _ (Nat.le_of_ble_eq_true rfl) (by decide)) hs7
  have hs9 := sl_k ha hL_9_g0 (hv 1209 _ (Nat.le_of_ble_eq_true rfl) (by decide)) hs9
  have hs10 := sl_k ha hL_14_2_g0 (hv 1210 _ (Nat.le_of_ble_eq_true rfl) (by decide)) hs10
  have hs11 := sl_k ha hL_14_2_g0_1 (hv 1211 _ (Nat.le_of_ble_eq_true rfl) (by decide)) hs11
  have hs12 := sl_k ha hL_17_g0 (hv 1212 _ (Nat.le_of_ble_eq_true rfl) (by decide)) hs12
  have hs13 := sl_k ha hL_21_g0 (hv 1213 _ (Nat.le_of_ble_eq_true rfl) (by decide)) hs13
  have hs15 := sl_k ha hL_22_g0 (hv 1215 _ (Nat.le_of_ble_eq_true rfl) (by decide)) hs15
  have hs16 := sl_k ha hL_26_g0_1 (hv 1216 _ (Nat.le_of_ble_eq_true rfl) (by decide)) hs16
  refine q_cm (K := 102) (k := 2) (g := g0) hd hc hx hm (by decide) (by decide) hL0 (hfr _ (List.mem_cons_self)) (by simp [F_X0_init_256, F_X0_init_60, F_X1_init, F_X3_init, F_X8_init, mF] <;> omega) (cl_ad_2 hc.cl ⟨adL.o hL_3_g0, adL.o hL_4_g0, adL.o hL_5_g0, adL.o hL_6_g0, adL.o hL_7_g0, adL.o hL_8_g0, adL.o hL_9_g0, adL.o hL_14_2_g0, adL.o hL_14_2_g0_1, adL.o hL_17_g0, adL.o hL_21_g0, adL.o hL_22_g0, adL.o hL_26_g0_1, adL.o hL_27_g0⟩) (ce_cm_2 hs1 hs2 hs3 hs4 hs5 hs7 hs9 hs10 hs11 hs12 hs13 hs15 hs16 hs17) (fun α Lv ho ha hL0 ea hnK hc hd hx hm => ?_)
  obtain ⟨S_25, hd, hf⟩ := nmD hd hf
  have ea := ea.trans e0
  have hl : lv_has ls 1 [(0, .ref (α 2 g0))] := by rw [ea]; exact hl
  cases hf
  exact q_vret hc hd hr hx hm hL0 (ea.trans e00.symm) hnK dX2_init_130
theorem c_X2_init (l : Launch) (D : va_G) (cs : Nat → ClassId) (B0 : Nat) (kt : (Nat → Nat) × (Nat → Nat)) (α : Nat → Nat → Nat) (Lv : Nat → Nat → Prop) (S : St) (g0 : Nat) (hcl : Cl Lv) (hlt : ∀ k g, Lv k g → k < 1000) (hL0 : Lv 102 g0) (hfr : ∀ x ∈ F_X2_init g0, ¬ Lv x.1 x.2) {o : St} (hf : f_X2_init g0 S = some o) : Met l yX2_init (wz yX2_init cX2_init 1 none) (Rm 2 29 1454) (PzN D cs B0 kt α Lv S [.ref (α 102 g0)]) (QM D cs B0 α Lv 102 2 g0 (F_X2_init g0) [2, 9, 14, 17, 22] o) 29 1454 (AB B0) := met_ofI (by decide) rfl hcl (Nat.le_of_ble_eq_true rfl) (fun p e s m below meth c hc hck hnm hr hd ls hl => b_X2_init hc hck hnm hr hlt hL0 hfr hf hd hl)
theorem my_X2_init : MyI yX2_init cX2_init 1 0 := ⟨tw_38, tw_2, tw_39, rfl, by decide +kernel⟩
end
