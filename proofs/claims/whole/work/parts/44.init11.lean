section
variable {p : Program} {l : Launch} {e : Env} {R : Room} {s : State} {m : MethodId} {args : Array Value} {below : List Frame} {meth : Method} {c : Code} {cells slots : Nat} {Q : State → Prop} {D : va_G} {cs : Nat → ClassId} {B0 : Nat} {kt : (Nat → Nat) × (Nat → Nat)} {α : Nat → Nat → Nat} {Lv : Nat → Nat → Prop}
abbrev F_X11_init (g0 : Nat) : List (Nat × Nat) := (0, g0) :: (F_X6_init 0 ++ ((144, 0) :: (F_X4_init 0 ++ ((136, 0) :: (F_X10_init 0 ++ ((149, 0) :: (F_X9_init 0 ++ ((128, 0) :: ((1, 0) :: (F_X2_init 0 ++ ((102, 0) :: [])))))))))))
def f_X11_init (g0 : Nat) (S : St) : Option (St) := bv (zr S 102 0 0) (fun S_1 => on (f_X2_init 0 S_1) (fun S_2 => bv (zr S_2 1 0 3) (fun S_4 => bv (zr S_4 128 0 0) (fun S_5 => on (f_X9_init 0 S_5) (fun S_6 => bv (zr S_6 149 0 0) (fun S_8 => on (f_X10_init 0 S_8) (fun S_9 => bv (zr S_9 136 0 0) (fun S_11 => on (f_X4_init 0 S_11) (fun S_12 => bv (zr S_12 144 0 0) (fun S_14 => on (f_X6_init 0 S_14) (fun S_15 => bv (cp S_15 100 0 g0) (fun S_17 => some S_17))))))))))))
set_option maxRecDepth 100000 in
set_option maxHeartbeats 8000000 in
theorem b_X11_init (hc : Cx p s m args meth c cX11_init 1 "PumpCrossing" D cs B0 kt Lv) (hck : CK cs s) (hin2 : meth.name = "<init>") (hr : meth.sig.returnType = none) {o : St} {S : St} {g0 : Nat} (hlt : ∀ k g, Lv k g → k < 1000) (hL0 : Lv 100 g0) (hfr : ∀ x ∈ F_X11_init g0, ¬ Lv x.1 x.2) {H : Heap} {locs : List Loc} {ls : Array Slot} (hf : f_X11_init g0 S = some o) (hd : Dy s D cs B0 α Lv S H locs) (hl : lv_has ls 1 [(0, .ref (α 100 g0))]) : W p l e (Rm 3 266 4628) s m args below meth c H locs 0 0 (MQ below (QM D cs B0 α Lv 100 0 g0 (F_X11_init g0) [0, 2, 9, 14, 17, 22, 28, 36, 44, 49] o) args s 266 4628 (AB B0)) (F0 m 0 ls []) := by
  unfold f_X11_init at hf
  obtain ⟨a0, e0⟩ : ∃ a, α 100 g0 = a := ⟨_, rfl⟩
  have e00 := e0
  rw [e0] at hl
  have hx : Ex α Lv (100, g0) α Lv [] := Ex.start hlt
  have hm : Mk α [0, 2, 9, 14, 17, 22, 28, 36, 44, 49] α := Mk.start
  refine lv_aload_n hc.x hc.b dX11_init_0 rfl (lv_at hl 0 rfl) ?_
  refine r_oini hc tw_32 tw_33 tw_34 hl.1 dX11_init_1 (Nat.zero_le _) ⟨Nat.le_of_ble_eq_true rfl, Nat.le_of_ble_eq_true rfl⟩ ?_
  refine lv_aload_n hc.x hc.b dX11_init_4 rfl (lv_at hl 0 rfl) ?_
  refine q_newO (K := 102) (k := 2) (G := 0) (fs := [.int 0, .null, .null, .null, .null, .null, .long 0, .null, .null, .null, .null, .null, .null, .null, .int 0, .null, .null, .null]) hc hd hx hm (by decide) rfl (by decide) (hfr _ (List.mem_cons_of_mem _ (List.mem_append_right _ (List.mem_cons_of_mem _ (List.mem_append_right _ (List.mem_cons_of_mem _ (List.mem_append_right _ (List.mem_cons_of_mem _ (List.mem_append_right _ (List.mem_cons_of_mem _ (List.mem_cons_of_mem _ (List.mem_append_right _ (List.mem_cons_self))))))))))))) (by simp) inX2 tyX2 tyX2_ok tw_35 tw_36 tw_2 rfl (fun β h => by
    show (.inr (2, [.int 0, r0 (β 1201 0), r0 (β 1202 0), r0 (β 1203 0), r0 (β 1204 0), r0 (β 1205 0), .long 0, r0 (β 1207 0), .null, r0 (β 1209 0), r0 (β 1210 0), r0 (β 1211 0), r0 (β 1212 0), r0 (β 1213 0), .int 0, r0 (β 1215 0), r0 (β 1216 0), r0 (β 1217 0)]) : va_E) = .inr (2, [.int 0, .null, .null, .null, .null, .null, .long 0, .null, .null, .null, .null, .null, .null, .null, .int 0, .null, .null, .null])
    rw [(h 1 (by decide) : β 1201 0 = 0), (h 2 (by decide) : β 1202 0 = 0), (h 3 (by decide) : β 1203 0 = 0), (h 4 (by decide) : β 1204 0 = 0), (h 5 (by decide) : β 1205 0 = 0), (h 7 (by decide) : β 1207 0 = 0), (h 9 (by decide) : β 1209 0 = 0), (h 10 (by decide) : β 1210 0 = 0), (h 11 (by decide) : β 1211 0 = 0), (h 12 (by decide) : β 1212 0 = 0), (h 13 (by decide) : β 1213 0 = 0), (h 15 (by decide) : β 1215 0 = 0), (h 16 (by decide) : β 1216 0 = 0), (h 17 (by decide) : β 1217 0 = 0)]; rfl) (fun j hj => by
    match j, hj with
    | 0, _ => rfl
    | 1, _ => rfl
    | 2, _ => rfl
    | 3, _ => rfl
    | 4, _ => rfl
    | 5, _ => rfl
    | 6, _ => rfl
    | 7, _ => rfl
    | 8, _ => rfl
    | 9, _ => rfl
    | 10, _ => rfl
    | 11, _ => rfl
    | 12, _ => rfl
    | 13, _ => rfl
    | 14, _ => rfl
    | 15, _ => rfl
    | 16, _ => rfl
    | 17, _ => rfl
    | n + 18, h => exact absurd h (by omega)) ⟨Nat.le_of_ble_eq_true rfl, Nat.le_of_ble_eq_true rfl⟩ dX11_init_5 (fun α Lv H ho ha hv hN hc hd hx hm => ?_)
  obtain ⟨S_1, hd, hf⟩ := nmD hd hf
  have e0 := (ha _ _ hL0).trans e0
  have hL0 := ho _ _ hL0
  have hL_102_0 := hN
  refine lv_dup hc.x hc.b dX11_init_8 rfl ?_
  obtain ⟨S_2, hq_3, hf⟩ := on_s hf
  refine q_c hc (k_runI hc hck hd my_X2_init tw_37 (c_X2_init l D cs B0 kt α Lv S_1 0 hc.cl hx.2.2.2.1 hL_102_0 (fun x h => hx.nl (K := x.1) (G := x.2) (hfr x (List.mem_cons_of_mem _ (List.mem_append_right _ (List.mem_cons_of_mem _ (List.mem_append_right _ (List.mem_cons_of_mem _ (List.mem_append_right _ (List.mem_cons_of_mem _ (List.mem_append_right _ (List.mem_cons_of_mem _ (List.mem_cons_of_mem _ (List.mem_append_left _ (h))))))))))))) ((by simp only [F_X0_init_256, F_X0_init_60, F_X1_init, F_X2_init, F_X3_init, F_X8_init, mF, List.cons_append, List.nil_append, List.forall_mem_cons, List.forall_mem_append, List.forall_mem_map]; simp [F_X0_init_256, F_X0_init_60, F_X1_init, F_X2_init, F_X3_init, F_X8_init, mF] <;> omega : ∀ x ∈ F_X2_init 0, x ∉ _) x h)) hq_3) rfl rfl hl.1 (Nat.le_of_ble_eq_true rfl) ⟨Nat.le_of_ble_eq_true rfl, Nat.le_of_ble_eq_true rfl, Nat.le_of_ble_eq_true rfl, Nat.le_of_ble_eq_true rfl⟩ dX11_init_9) rfl hd hx hm (by decide) (hfr _ (List.mem_cons_of_mem _ (List.mem_append_right _ (List.mem_cons_of_mem _ (List.mem_append_right _ (List.mem_cons_of_mem _ (List.mem_append_right _ (List.mem_cons_of_mem _ (List.mem_append_right _ (List.mem_cons_of_mem _ (List.mem_cons_of_mem _ (List.mem_append_right _ (List.mem_cons_self))))))))))))) (fun k9 g9 h9 _ => by cases h9; exact hL0) (fun α Lv H locs ho ha hv hN hc hd hx hm => ?_)
  have e0 := (ha _ _ hL0).trans e0
  have hL0 := ho _ _ hL0 (by decide)
  have hL_2_0 := hN
  refine q_putR (K := 100) (V := 1000) (k := 0) (j := 0) (k2 := 2) (i2 := 0) hc hin2 hd hx hm (by decide) rfl rfl (by decide) hL0 e0 hL_2_0 rfl rfl inX11 tyX11 tyX11_ok nmX11 (by decide) tw_353 rfl rfl (ty := .object "PumpCrossing$Crossing") (by decide +kernel) rfl rfl (by show _ < 8; decide) (fun x => by
    show (.inr (11, [r0 (up2 α 1000 g0 (x + 1) 1000 g0), _, _, _, _, _, _, _]) : va_E) = _
    rw [up2_s]; rfl) dX11_init_12 (fun α H locs ha hs0 hv hd hx hm => ?_)
  have e0 := (ha _ _ hL0).trans e0
  refine lv_aload_n hc.x hc.b dX11_init_15 rfl (lv_at hl 0 rfl) ?_
  refine lv_iconst (v := 3) hc.x hc.b dX11_init_16 (by decide) ?_
  refine q_anew (C := "PumpCrossing$Crossing") (K := 1) (G := 0) (N := 3) hc hd hx hm hck.2.2.2.2.1 tw_35 hc.kc.2.2.2.2.2.2.2.2.1 (fun _ => rfl) (by decide) (by decide) (hfr _ (List.mem_cons_of_mem _ (List.mem_append_right _ (List.mem_cons_of_mem _ (List.mem_append_right _ (List.mem_cons_of_mem _ (List.mem_append_right _ (List.mem_cons_of_mem _ (List.mem_append_right _ (List.mem_cons_of_mem _ (List.mem_cons_self))))))))))) (by simp [F_X0_init_256, F_X0_init_60, F_X1_init, F_X2_init, F_X3_init, F_X8_init, mF] <;> omega) (by decide) (by decide) (by decide) ⟨Nat.le_of_ble_eq_true rfl, Nat.le_of_ble_eq_true rfl⟩ dX11_init_17 (fun α Lv H ho ha hv hN hc hd hx hm => ?_)
  obtain ⟨S_4, hd, hf⟩ := nmD hd hf
  have e0 := (ha _ _ hL0).trans e0
  have hs0 := sl_k ha hL_2_0 (hv 1000 _ (Nat.le_of_ble_eq_true rfl)) hs0
  have hL_2_0 := ho _ _ hL_2_0
  have hL0 := ho _ _ hL0
  have hL_1_0 := hN
  refine q_putR (K := 100) (V := 1001) (k := 0) (j := 1) (k2 := 1) (i2 := 0) hc hin2 hd hx hm (by decide) rfl rfl (by decide) hL0 e0 hL_1_0 rfl rfl inX11 tyX11 tyX11_ok nmX11 (by decide) tw_354 rfl rfl (ty := .array (.object "PumpCrossing$Crossing")) (by decide +kernel) rfl rfl (by show _ < 8; decide) (fun x => by
    show (.inr (11, [_, r0 (up2 α 1001 g0 (x + 1) 1001 g0), _, _, _, _, _, _]) : va_E) = _
    rw [up2_s]; rfl) dX11_init_20 (fun α H locs ha hs1 hv hd hx hm => ?_)
  have e0 := (ha _ _ hL0).trans e0
  have hs0 := sl_k ha hL_2_0 (hv 1000 _ (Nat.le_of_ble_eq_true rfl) (by decide)) hs0
  refine lv_aload_n hc.x hc.b dX11_init_23 rfl (lv_at hl 0 rfl) ?_
  refine q_newO (K := 128) (k := 28) (G := 0) (fs := [.null, .int 0, .null, .int 0, .null, .int 0, .int 0, .int 0, .int 0, .int 0, .int 0]) hc hd hx hm (by decide) rfl (by decide) (hfr _ (List.mem_cons_of_mem _ (List.mem_append_right _ (List.mem_cons_of_mem _ (List.mem_append_right _ (List.mem_cons_of_mem _ (List.mem_append_right _ (List.mem_cons_of_mem _ (List.mem_append_right _ (List.mem_cons_self)))))))))) (by simp [F_X0_init_256, F_X0_init_60, F_X1_init, F_X2_init, F_X3_init, F_X8_init, mF] <;> omega) inX9 tyX9 tyX9_ok tw_212 tw_213 tw_7 rfl (fun β h => by
    show (.inr (9, [r0 (β 3800 0), .int 0, r0 (β 3802 0), .int 0, r0 (β 3804 0), .int 0, .int 0, .int 0, .int 0, .int 0, .int 0]) : va_E) = .inr (9, [.null, .int 0, .null, .int 0, .null, .int 0, .int 0, .int 0, .int 0, .int 0, .int 0])
    rw [(h 0 (by decide) : β 3800 0 = 0), (h 2 (by decide) : β 3802 0 = 0), (h 4 (by decide) : β 3804 0 = 0)]; rfl) (fun j hj => by
    match j, hj with
    | 0, _ => rfl
    | 1, _ => rfl
    | 2, _ => rfl
    | 3, _ => rfl
    | 4, _ => rfl
    | 5, _ => rfl
    | 6, _ => rfl
    | 7, _ => rfl
    | 8, _ => rfl
    | 9, _ => rfl
    | 10, _ => rfl
    | n + 11, h => exact absurd h (by omega)) ⟨Nat.le_of_ble_eq_true rfl, Nat.le_of_ble_eq_true rfl⟩ dX11_init_24 (fun α Lv H ho ha hv hN hc hd hx hm => ?_)
  obtain ⟨S_5, hd, hf⟩ := nmD hd hf
  have e0 := (ha _ _ hL0).trans e0
  have hs0 := sl_k ha hL_2_0 (hv 1000 _ (Nat.le_of_ble_eq_true rfl) (by decide)) hs0
  have hs1 := sl_k ha hL_1_0 (hv 1001 _ (Nat.le_of_ble_eq_true rfl) (by decide)) hs1
  have hL_2_0 := ho _ _ hL_2_0
  have hL_1_0 := ho _ _ hL_1_0
  have hL0 := ho _ _ hL0
  have hL_128_0 := hN
  refine lv_dup hc.x hc.b dX11_init_27 rfl ?_
  obtain ⟨S_6, hq_7, hf⟩ := on_s hf
  refine q_c hc (k_runI hc hck hd my_X9_init tw_214 (c_X9_init l D cs B0 kt α Lv S_5 0 hc.cl hx.2.2.2.1 hL_128_0 (fun x h => hx.nl (K := x.1) (G := x.2) (hfr x (List.mem_cons_of_mem _ (List.mem_append_right _ (List.mem_cons_of_mem _ (List.mem_append_right _ (List.mem_cons_of_mem _ (List.mem_append_right _ (List.mem_cons_of_mem _ (List.mem_append_left _ (h)))))))))) ((by simp only [F_X0_init_256, F_X0_init_60, F_X1_init, F_X2_init, F_X3_init, F_X8_init, F_X9_init, mF, List.cons_append, List.nil_append, List.forall_mem_cons, List.forall_mem_append, List.forall_mem_map]; simp [F_X0_init_256, F_X0_init_60, F_X1_init, F_X2_init, F_X3_init, F_X8_init, F_X9_init, mF] <;> omega : ∀ x ∈ F_X9_init 0, x ∉ _) x h)) hq_7) rfl rfl hl.1 (Nat.le_of_ble_eq_true rfl) ⟨Nat.le_of_ble_eq_true rfl, Nat.le_of_ble_eq_true rfl, Nat.le_of_ble_eq_true rfl, Nat.le_of_ble_eq_true rfl⟩ dX11_init_28) rfl hd hx hm (by decide) (hfr _ (List.mem_cons_of_mem _ (List.mem_append_right _ (List.mem_cons_of_mem _ (List.mem_append_right _ (List.mem_cons_of_mem _ (List.mem_append_right _ (List.mem_cons_of_mem _ (List.mem_append_right _ (List.mem_cons_self)))))))))) (fun k9 g9 h9 _ => by cases h9; exact hL0) (fun α Lv H locs ho ha hv hN hc hd hx hm => ?_)
  have e0 := (ha _ _ hL0).trans e0
  have hs0 := sl_k ha hL_2_0 (hv 1000 _ (Nat.le_of_ble_eq_true rfl) (by decide)) hs0
  have hs1 := sl_k ha hL_1_0 (hv 1001 _ (Nat.le_of_ble_eq_true rfl) (by decide)) hs1
  have hL_2_0 := ho _ _ hL_2_0 (by decide)
  have hL_1_0 := ho _ _ hL_1_0 (by decide)
  have hL0 := ho _ _ hL0 (by decide)
  have hL_28_0 := hN
  refine q_putR (K := 100) (V := 1002) (k := 0) (j := 2) (k2 := 28) (i2 := 0) hc hin2 hd hx hm (by decide) rfl rfl (by decide) hL0 e0 hL_28_0 rfl rfl inX11 tyX11 tyX11_ok nmX11 (by decide) tw_355 rfl rfl (ty := .object "PumpCrossing$TextReader") (by decide +kernel) rfl rfl (by show _ < 8; decide) (fun x => by
    show (.inr (11, [_, _, r0 (up2 α 1002 g0 (x + 1) 1002 g0), _, _, _, _, _]) : va_E) = _
    rw [up2_s]; rfl) dX11_init_31 (fun α H locs ha hs2 hv hd hx hm => ?_)
  have e0 := (ha _ _ hL0).trans e0
  have hs0 := sl_k ha hL_2_0 (hv 1000 _ (Nat.le_of_ble_eq_true rfl) (by decide)) hs0
  have hs1 := sl_k ha hL_1_0 (hv 1001 _ (Nat.le_of_ble_eq_true rfl) (by decide)) hs1
  refine lv_aload_n hc.x hc.b dX11_init_34 rfl (lv_at hl 0 rfl) ?_
  refine q_newO (K := 149) (k := 49) (G := 0) (fs := [.null, .null, .null, .null, .null]) hc hd hx hm (by decide) rfl (by decide) (hfr _ (List.mem_cons_of_mem _ (List.mem_append_right _ (List.mem_cons_of_mem _ (List.mem_append_right _ (List.mem_cons_of_mem _ (List.mem_append_right _ (List.mem_cons_self)))))))) (by simp [F_X0_init_256, F_X0_init_60, F_X1_init, F_X2_init, F_X3_init, F_X8_init, F_X9_init, mF] <;> omega) inX10 tyX10 tyX10_ok tw_262 tw_263 tw_8 rfl (fun β h => by
    show (.inr (10, [r0 (β 5900 0), r0 (β 5901 0), r0 (β 5902 0), r0 (β 5903 0), r0 (β 5904 0)]) : va_E) = .inr (10, [.null, .null, .null, .null, .null])
    rw [(h 0 (by decide) : β 5900 0 = 0), (h 1 (by decide) : β 5901 0 = 0), (h 2 (by decide) : β 5902 0 = 0), (h 3 (by decide) : β 5903 0 = 0), (h 4 (by decide) : β 5904 0 = 0)]; rfl) (fun j hj => by
    match j, hj with
    | 0, _ => rfl
    | 1, _ => rfl
    | 2, _ => rfl
    | 3, _ => rfl
    | 4, _ => rfl
    | n + 5, h => exact absurd h (by omega)) ⟨Nat.le_of_ble_eq_true rfl, Nat.le_of_ble_eq_true rfl⟩ dX11_init_35 (fun α Lv H ho ha hv hN hc hd hx hm => ?_)
  obtain ⟨S_8, hd, hf⟩ := nmD hd hf
  have e0 := (ha _ _ hL0).trans e0
  have hs0 := sl_k ha hL_2_0 (hv 1000 _ (Nat.le_of_ble_eq_true rfl) (by decide)) hs0
  have hs1 := sl_k ha hL_1_0 (hv 1001 _ (Nat.le_of_ble_eq_true rfl) (by decide)) hs1
  have hs2 := sl_k ha hL_28_0 (hv 1002 _ (Nat.le_of_ble_eq_true rfl) (by decide)) hs2
  have hL_2_0 := ho _ _ hL_2_0
  have hL_1_0 := ho _ _ hL_1_0
  have hL_28_0 := ho _ _ hL_28_0
  have hL0 := ho _ _ hL0
  have hL_149_0 := hN
  refine lv_dup hc.x hc.b dX11_init_38 rfl ?_
  obtain ⟨S_9, hq_10, hf⟩ := on_s hf
  refine q_c hc (k_runI hc hck hd my_X10_init tw_264 (c_X10_init l D cs B0 kt α Lv S_8 0 hc.cl hx.2.2.2.1 hL_149_0 (fun x h => hx.nl (K := x.1) (G := x.2) (hfr x (List.mem_cons_of_mem _ (List.mem_append_right _ (List.mem_cons_of_mem _ (List.mem_append_right _ (List.mem_cons_of_mem _ (List.mem_append_left _ (h)))))))) ((by simp only [F_X0_init_256, F_X0_init_60, F_X10_init, F_X1_init, F_X2_init, F_X3_init, F_X8_init, F_X9_init, mF, List.cons_append, List.nil_append, List.forall_mem_cons, List.forall_mem_append, List.forall_mem_map]; simp [F_X0_init_256, F_X0_init_60, F_X10_init, F_X1_init, F_X2_init, F_X3_init, F_X8_init, F_X9_init, mF] <;> omega : ∀ x ∈ F_X10_init 0, x ∉ _) x h)) hq_10) rfl rfl hl.1 (Nat.le_of_ble_eq_true rfl) ⟨Nat.le_of_ble_eq_true rfl, Nat.le_of_ble_eq_true rfl, Nat.le_of_ble_eq_true rfl, Nat.le_of_ble_eq_true rfl⟩ dX11_init_39) rfl hd hx hm (by decide) (hfr _ (List.mem_cons_of_mem _ (List.mem_append_right _ (List.mem_cons_of_mem _ (List.mem_append_right _ (List.mem_cons_of_mem _ (List.mem_append_right _ (List.mem_cons_self)))))))) (fun k9 g9 h9 _ => by cases h9; exact hL0) (fun α Lv H locs ho ha hv hN hc hd hx hm => ?_)
  have e0 := (ha _ _ hL0).trans e0
  have hs0 := sl_k ha hL_2_0 (hv 1000 _ (Nat.le_of_ble_eq_true rfl) (by decide)) hs0
  have hs1 := sl_k ha hL_1_0 (hv 1001 _ (Nat.le_of_ble_eq_true rfl) (by decide)) hs1
  have hs2 := sl_k ha hL_28_0 (hv 1002 _ (Nat.le_of_ble_eq_true rfl) (by decide)) hs2
  have hL_2_0 := ho _ _ hL_2_0 (by decide)
  have hL_1_0 := ho _ _ hL_1_0 (by decide)
  have hL_28_0 := ho _ _ hL_28_0 (by decide)
  have hL0 := ho _ _ hL0 (by decide)
  have hL_49_0 := hN
  refine q_putR (K := 100) (V := 1003) (k := 0) (j := 3) (k2 := 49) (i2 := 0) hc hin2 hd hx hm (by decide) rfl rfl (by decide) hL0 e0 hL_49_0 rfl rfl inX11 tyX11 tyX11_ok nmX11 (by decide) tw_356 rfl rfl (ty := .object "PumpCrossing$Trays") (by decide +kernel) rfl rfl (by show _ < 8; decide) (fun x => by
    show (.inr (11, [_, _, _, r0 (up2 α 1003 g0 (x + 1) 1003 g0), _, _, _, _]) : va_E) = _
    rw [up2_s]; rfl) dX11_init_42 (fun α H locs ha hs3 hv hd hx hm => ?_)
  have e0 := (ha _ _ hL0).trans e0
  have hs0 := sl_k ha hL_2_0 (hv 1000 _ (Nat.le_of_ble_eq_true rfl) (by decide)) hs0
  have hs1 := sl_k ha hL_1_0 (hv 1001 _ (Nat.le_of_ble_eq_true rfl) (by decide)) hs1
  have hs2 := sl_k ha hL_28_0 (hv 1002 _ (Nat.le_of_ble_eq_true rfl) (by decide)) hs2
  refine lv_aload_n hc.x hc.b dX11_init_45 rfl (lv_at hl 0 rfl) ?_
  refine q_newO (K := 136) (k := 36) (G := 0) (fs := [.int 0, .null, .null, .null, .null, .null, .null]) hc hd hx hm (by decide) rfl (by decide) (hfr _ (List.mem_cons_of_mem _ (List.mem_append_right _ (List.mem_cons_of_mem _ (List.mem_append_right _ (List.mem_cons_self)))))) (by simp [F_X0_init_256, F_X0_init_60, F_X10_init, F_X1_init, F_X2_init, F_X3_init, F_X8_init, F_X9_init, mF] <;> omega) inX4 tyX4 tyX4_ok tw_289 tw_290 tw_9 rfl (fun β h => by
    show (.inr (4, [.int 0, r0 (β 4601 0), r0 (β 4602 0), r0 (β 4603 0), r0 (β 4604 0), r0 (β 4605 0), r0 (β 4606 0)]) : va_E) = .inr (4, [.int 0, .null, .null, .null, .null, .null, .null])
    rw [(h 1 (by decide) : β 4601 0 = 0), (h 2 (by decide) : β 4602 0 = 0), (h 3 (by decide) : β 4603 0 = 0), (h 4 (by decide) : β 4604 0 = 0), (h 5 (by decide) : β 4605 0 = 0), (h 6 (by decide) : β 4606 0 = 0)]; rfl) (fun j hj => by
    match j, hj with
    | 0, _ => rfl
    | 1, _ => rfl
    | 2, _ => rfl
    | 3, _ => rfl
    | 4, _ => rfl
    | 5, _ => rfl
    | 6, _ => rfl
    | n + 7, h => exact absurd h (by omega)) ⟨Nat.le_of_ble_eq_true rfl, Nat.le_of_ble_eq_true rfl⟩ dX11_init_46 (fun α Lv H ho ha hv hN hc hd hx hm => ?_)
  obtain ⟨S_11, hd, hf⟩ := nmD hd hf
  have e0 := (ha _ _ hL0).trans e0
  have hs0 := sl_k ha hL_2_0 (hv 1000 _ (Nat.le_of_ble_eq_true rfl) (by decide)) hs0
  have hs1 := sl_k ha hL_1_0 (hv 1001 _ (Nat.le_of_ble_eq_true rfl) (by decide)) hs1
  have hs2 := sl_k ha hL_28_0 (hv 1002 _ (Nat.le_of_ble_eq_true rfl) (by decide)) hs2
  have hs3 := sl_k ha hL_49_0 (hv 1003 _ (Nat.le_of_ble_eq_true rfl) (by decide)) hs3
  have hL_2_0 := ho _ _ hL_2_0
  have hL_1_0 := ho _ _ hL_1_0
  have hL_28_0 := ho _ _ hL_28_0
  have hL_49_0 := ho _ _ hL_49_0
  have hL0 := ho _ _ hL0
  have hL_136_0 := hN
  refine lv_dup hc.x hc.b dX11_init_49 rfl ?_
  obtain ⟨S_12, hq_13, hf⟩ := on_s hf
  refine q_c hc (k_runI hc hck hd my_X4_init tw_291 (c_X4_init l D cs B0 kt α Lv S_11 0 hc.cl hx.2.2.2.1 hL_136_0 (fun x h => hx.nl (K := x.1) (G := x.2) (hfr x (List.mem_cons_of_mem _ (List.mem_append_right _ (List.mem_cons_of_mem _ (List.mem_append_left _ (h)))))) ((by simp only [F_X0_init_256, F_X0_init_60, F_X10_init, F_X1_init, F_X2_init, F_X3_init, F_X4_init, F_X8_init, F_X9_init, mF, List.cons_append, List.nil_append, List.forall_mem_cons, List.forall_mem_append, List.forall_mem_map]; simp [F_X0_init_256, F_X0_init_60, F_X10_init, F_X1_init, F_X2_init, F_X3_init, F_X4_init, F_X8_init, F_X9_init, mF] <;> omega : ∀ x ∈ F_X4_init 0, x ∉ _) x h)) hq_13) rfl rfl hl.1 (Nat.le_of_ble_eq_true rfl) ⟨Nat.le_of_ble_eq_true rfl, Nat.le_of_ble_eq_true rfl, Nat.le_of_ble_eq_true rfl, Nat.le_of_ble_eq_true rfl⟩ dX11_init_50) rfl hd hx hm (by decide) (hfr _ (List.mem_cons_of_mem _ (List.mem_append_right _ (List.mem_cons_of_mem _ (List.mem_append_right _ (List.mem_cons_self)))))) (fun k9 g9 h9 _ => by cases h9; exact hL0) (fun α Lv H locs ho ha hv hN hc hd hx hm => ?_)
  have e0 := (ha _ _ hL0).trans e0
  have hs0 := sl_k ha hL_2_0 (hv 1000 _ (Nat.le_of_ble_eq_true rfl) (by decide)) hs0
  have hs1 := sl_k ha hL_1_0 (hv 1001 _ (Nat.le_of_ble_eq_true rfl) (by decide)) hs1
  have hs2 := sl_k ha hL_28_0 (hv 1002 _ (Nat.le_of_ble_eq_true rfl) (by decide)) hs2
  have hs3 := sl_k ha hL_49_0 (hv 1003 _ (Nat.le_of_ble_eq_true rfl) (by decide)) hs3
  have hL_2_0 := ho _ _ hL_2_0 (by decide)
  have hL_1_0 := ho _ _ hL_1_0 (by decide)
  have hL_28_0 := ho _ _ hL_28_0 (by decide)
  have hL_49_0 := ho _ _ hL_49_0 (by decide)
  have hL0 := ho _ _ hL0 (by decide)
  have hL_36_0 := hN
  refine q_putR (K := 100) (V := 1004) (k := 0) (j := 4) (k2 := 36) (i2 := 0) hc hin2 hd hx hm (by decide) rfl rfl (by decide) hL0 e0 hL_36_0 rfl rfl inX11 tyX11 tyX11_ok nmX11 (by decide) tw_357 rfl rfl (ty := .object "PumpCrossing$Game") (by decide +kernel) rfl rfl (by show _ < 8; decide) (fun x => by
    show (.inr (11, [_, _, _, _, r0 (up2 α 1004 g0 (x + 1) 1004 g0), _, _, _]) : va_E) = _
    rw [up2_s]; rfl) dX11_init_53 (fun α H locs ha hs4 hv hd hx hm => ?_)
  have e0 := (ha _ _ hL0).trans e0
  have hs0 := sl_k ha hL_2_0 (hv 1000 _ (Nat.le_of_ble_eq_true rfl) (by decide)) hs0
  have hs1 := sl_k ha hL_1_0 (hv 1001 _ (Nat.le_of_ble_eq_true rfl) (by decide)) hs1
  have hs2 := sl_k ha hL_28_0 (hv 1002 _ (Nat.le_of_ble_eq_true rfl) (by decide)) hs2
  have hs3 := sl_k ha hL_49_0 (hv 1003 _ (Nat.le_of_ble_eq_true rfl) (by decide)) hs3
  refine lv_aload_n hc.x hc.b dX11_init_56 rfl (lv_at hl 0 rfl) ?_
  refine q_newO (K := 144) (k := 44) (G := 0) (fs := [.null, .null, .int 0, .int 0, .int 0, .int 0]) hc hd hx hm (by decide) rfl (by decide) (hfr _ (List.mem_cons_of_mem _ (List.mem_append_right _ (List.mem_cons_self)))) (by simp [F_X0_init_256, F_X0_init_60, F_X10_init, F_X1_init, F_X2_init, F_X3_init, F_X4_init, F_X8_init, F_X9_init, mF] <;> omega) inX6 tyX6 tyX6_ok tw_325 tw_326 tw_10 rfl (fun β h => by
    show (.inr (6, [r0 (β 5400 0), r0 (β 5401 0), .int 0, .int 0, .int 0, .int 0]) : va_E) = .inr (6, [.null, .null, .int 0, .int 0, .int 0, .int 0])
    rw [(h 0 (by decide) : β 5400 0 = 0), (h 1 (by decide) : β 5401 0 = 0)]; rfl) (fun j hj => by
    match j, hj with
    | 0, _ => rfl
    | 1, _ => rfl
    | 2, _ => rfl
    | 3, _ => rfl
    | 4, _ => rfl
    | 5, _ => rfl
    | n + 6, h => exact absurd h (by omega)) ⟨Nat.le_of_ble_eq_true rfl, Nat.le_of_ble_eq_true rfl⟩ dX11_init_57 (fun α Lv H ho ha hv hN hc hd hx hm => ?_)
  obtain ⟨S_14, hd, hf⟩ := nmD hd hf
  have e0 := (ha _ _ hL0).trans e0
  have hs0 := sl_k ha hL_2_0 (hv 1000 _ (Nat.le_of_ble_eq_true rfl) (by decide)) hs0
  have hs1 := sl_k ha hL_1_0 (hv 1001 _ (Nat.le_of_ble_eq_true rfl) (by decide)) hs1
  have hs2 := sl_k ha hL_28_0 (hv 1002 _ (Nat.le_of_ble_eq_true rfl) (by decide)) hs2
  have hs3 := sl_k ha hL_49_0 (hv 1003 _ (Nat.le_of_ble_eq_true rfl) (by decide)) hs3
  have hs4 := sl_k ha hL_36_0 (hv 1004 _ (Nat.le_of_ble_eq_true rfl) (by decide)) hs4
  have hL_2_0 := ho _ _ hL_2_0
  have hL_1_0 := ho _ _ hL_1_0
  have hL_28_0 := ho _ _ hL_28_0
  have hL_49_0 := ho _ _ hL_49_0
  have hL_36_0 := ho _ _ hL_36_0
  have hL0 := ho _ _ hL0
  have hL_144_0 := hN
  refine lv_dup hc.x hc.b dX11_init_60 rfl ?_
  obtain ⟨S_15, hq_16, hf⟩ := on_s hf
  refine q_c hc (k_runI hc hck hd my_X6_init tw_327 (c_X6_init l D cs B0 kt α Lv S_14 0 hc.cl hx.2.2.2.1 hL_144_0 (fun x h => hx.nl (K := x.1) (G := x.2) (hfr x (List.mem_cons_of_mem _ (List.mem_append_left _ (h)))) ((by simp only [F_X0_init_256, F_X0_init_60, F_X10_init, F_X1_init, F_X2_init, F_X3_init, F_X4_init, F_X6_init, F_X8_init, F_X9_init, mF, List.cons_append, List.nil_append, List.forall_mem_cons, List.forall_mem_append, List.forall_mem_map]; simp [F_X0_init_256, F_X0_init_60, F_X10_init, F_X1_init, F_X2_init, F_X3_init, F_X4_init, F_X6_init, F_X8_init, F_X9_init, mF] <;> omega : ∀ x ∈ F_X6_init 0, x ∉ _) x h)) hq_16) rfl rfl hl.1 (Nat.le_of_ble_eq_true rfl) ⟨Nat.le_of_ble_eq_true rfl, Nat.le_of_ble_eq_true rfl, Nat.le_of_ble_eq_true rfl, Nat.le_of_ble_eq_true rfl⟩ dX11_init_61) rfl hd hx hm (by decide) (hfr _ (List.mem_cons_of_mem _ (List.mem_append_right _ (List.mem_cons_self)))) (fun k9 g9 h9 _ => by cases h9; exact hL0) (fun α Lv H locs ho ha hv hN hc hd hx hm => ?_)
  have e0 := (ha _ _ hL0).trans e0
  have hs0 := sl_k ha hL_2_0 (hv 1000 _ (Nat.le_of_ble_eq_true rfl) (by decide)) hs0
  have hs1 := sl_k ha hL_1_0 (hv 1001 _ (Nat.le_of_ble_eq_true rfl) (by decide)) hs1
  have hs2 := sl_k ha hL_28_0 (hv 1002 _ (Nat.le_of_ble_eq_true rfl) (by decide)) hs2
  have hs3 := sl_k ha hL_49_0 (hv 1003 _ (Nat.le_of_ble_eq_true rfl) (by decide)) hs3
  have hs4 := sl_k ha hL_36_0 (hv 1004 _ (Nat.le_of_ble_eq_true rfl) (by decide)) hs4
  have hL_2_0 := ho _ _ hL_2_0 (by decide)
  have hL_1_0 := ho _ _ hL_1_0 (by decide)
  have hL_28_0 := ho _ _ hL_28_0 (by decide)
  have hL_49_0 := ho _ _ hL_49_0 (by decide)
  have hL_36_0 := ho _ _ hL_36_0 (by decide)
  have hL0 := ho _ _ hL0 (by decide)
  have hL_44_0 := hN
  refine q_putR (K := 100) (V := 1005) (k := 0) (j := 5) (k2 := 44) (i2 := 0) hc hin2 hd hx hm (by decide) rfl rfl (by decide) hL0 e0 hL_44_0 rfl rfl inX11 tyX11 tyX11_ok nmX11 (by decide) tw_358 rfl rfl (ty := .object "PumpCrossing$Learners") (by decide +kernel) rfl rfl (by show _ < 8; decide) (fun x => by
    show (.inr (11, [_, _, _, _, _, r0 (up2 α 1005 g0 (x + 1) 1005 g0), _, _]) : va_E) = _
    rw [up2_s]; rfl) dX11_init_64 (fun α H locs ha hs5 hv hd hx hm => ?_)
  have e0 := (ha _ _ hL0).trans e0
  have hs0 := sl_k ha hL_2_0 (hv 1000 _ (Nat.le_of_ble_eq_true rfl) (by decide)) hs0
  have hs1 := sl_k ha hL_1_0 (hv 1001 _ (Nat.le_of_ble_eq_true rfl) (by decide)) hs1
  have hs2 := sl_k ha hL_28_0 (hv 1002 _ (Nat.le_of_ble_eq_true rfl) (by decide)) hs2
  have hs3 := sl_k ha hL_49_0 (hv 1003 _ (Nat.le_of_ble_eq_true rfl) (by decide)) hs3
  have hs4 := sl_k ha hL_36_0 (hv 1004 _ (Nat.le_of_ble_eq_true rfl) (by decide)) hs4
  refine q_cm (K := 100) (k := 0) (g := g0) hd hc hx hm (by decide) (by decide) hL0 (hfr _ (List.mem_cons_self)) (by simp [F_X0_init_256, F_X0_init_60, F_X10_init, F_X1_init, F_X2_init, F_X3_init, F_X4_init, F_X6_init, F_X8_init, F_X9_init, mF] <;> omega) (cl_ad_0 hc.cl ⟨adL.o hL_2_0, adL.o hL_1_0, adL.o hL_28_0, adL.o hL_49_0, adL.o hL_36_0, adL.o hL_44_0⟩) (ce_cm_0 hs0 hs1 hs2 hs3 hs4 hs5) (fun α Lv ho ha hL0 ea hnK hc hd hx hm => ?_)
  obtain ⟨S_17, hd, hf⟩ := nmD hd hf
  have ea := ea.trans e0
  have hl : lv_has ls 1 [(0, .ref (α 0 g0))] := by rw [ea]; exact hl
  cases hf
  exact q_vret hc hd hr hx hm hL0 (ea.trans e00.symm) hnK dX11_init_67
theorem c_X11_init (l : Launch) (D : va_G) (cs : Nat → ClassId) (B0 : Nat) (kt : (Nat → Nat) × (Nat → Nat)) (α : Nat → Nat → Nat) (Lv : Nat → Nat → Prop) (S : St) (g0 : Nat) (hcl : Cl Lv) (hlt : ∀ k g, Lv k g → k < 1000) (hL0 : Lv 100 g0) (hfr : ∀ x ∈ F_X11_init g0, ¬ Lv x.1 x.2) {o : St} (hf : f_X11_init g0 S = some o) : Met l yX11_init (wz yX11_init cX11_init 1 none) (Rm 3 266 4628) (PzN D cs B0 kt α Lv S [.ref (α 100 g0)]) (QM D cs B0 α Lv 100 0 g0 (F_X11_init g0) [0, 2, 9, 14, 17, 22, 28, 36, 44, 49] o) 266 4628 (AB B0) := met_ofI (by decide) rfl hcl (Nat.le_of_ble_eq_true rfl) (fun p e s m below meth c hc hck hnm hr hd ls hl => b_X11_init hc hck hnm hr hlt hL0 hfr hf hd hl)
theorem my_X11_init : MyI yX11_init cX11_init 1 0 := ⟨tw_30, tw_1, tw_31, rfl, by decide +kernel⟩
end
