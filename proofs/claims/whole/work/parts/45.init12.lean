section
variable {p : Program} {l : Launch} {e : Env} {R : Room} {s : State} {m : MethodId} {args : Array Value} {below : List Frame} {meth : Method} {c : Code} {cells slots : Nat} {Q : State → Prop} {D : va_G} {cs : Nat → ClassId} {B0 : Nat} {kt : (Nat → Nat) × (Nat → Nat)} {α : Nat → Nat → Nat} {Lv : Nat → Nat → Prop}
abbrev F_X12_init (g0 : Nat) : List (Nat × Nat) := (60, g0) :: ((80, g0) :: ((79, g0) :: ((78, g0) :: ((77, g0) :: ((76, g0) :: ((75, g0) :: ((74, g0) :: ((73, g0) :: ((72, g0) :: ((71, g0) :: ((70, g0) :: ((69, g0) :: ((68, g0) :: ((67, g0) :: ((66, g0) :: ((65, g0) :: ((64, g0) :: ((63, g0) :: ((62, g0) :: ((61, g0) :: []))))))))))))))))))))
def f_X12_init_192 (g0 : Nat) (K : St → Option (St)) : Nat → Int32 → St → Option (St)
  | 0, _, _ => none
  | n + 1, x1, S => br (42 ≤ x1) (K S) (ck (inb (78 + x1) 3179 = true) (bv (si S 61 g0 (nn (78 + x1)) 1) (fun S_29 => bv (x1 + 1) (fun x1_30 => f_X12_init_192 g0 K n x1_30 S_29))))
def f_X12_init (g0 : Nat) (S : St) : Option (St) := bv (zr S 61 g0 3179) (fun S_1 => bv (zr S_1 62 g0 9537) (fun S_2 => bv (zr S_2 63 g0 9) (fun S_3 => bv (zr S_3 64 g0 27) (fun S_4 => bv (zr S_4 65 g0 3) (fun S_5 => bv (zr S_5 66 g0 400) (fun S_6 => bv (zr S_6 67 g0 440) (fun S_7 => bv (zr S_7 68 g0 5) (fun S_8 => bv (si S_8 160 g0 19 ((-1))) (fun S_9 => bv (zr S_9 69 g0 440) (fun S_10 => bv (zr S_10 70 g0 4) (fun S_11 => bv (zr S_11 71 g0 4) (fun S_12 => bv (zr S_12 72 g0 128) (fun S_13 => bv (zr S_13 73 g0 328) (fun S_14 => bv (zr S_14 74 g0 328) (fun S_15 => bv (zr S_15 75 g0 328) (fun S_16 => bv (zr S_16 76 g0 128) (fun S_17 => bv (zr S_17 77 g0 377) (fun S_18 => bv (zr S_18 78 g0 4) (fun S_19 => bv (si S_19 78 g0 (nn 0) (-1)) (fun S_20 => bv (si S_20 78 g0 (nn 1) (-1)) (fun S_21 => bv (si S_21 78 g0 (nn 2) (-1)) (fun S_22 => bv (si S_22 78 g0 (nn 3) (-1)) (fun S_23 => bv (zr S_23 79 g0 4) (fun S_24 => bv (zr S_24 80 g0 112) (fun S_25 => bv (cp S_25 160 60 g0) (fun S_26 => f_X12_init_192 g0 (fun  (S_31 : St) => ck (inb 120 3179 = true) (bv (si S_31 61 g0 (nn 120) ((-1))) (fun S_33 => ck (inb 122 3179 = true) (bv (si S_33 61 g0 (nn 122) ((-1))) (fun S_35 => some S_35))))) FU 0 S_26))))))))))))))))))))))))))
set_option maxRecDepth 100000 in
set_option maxHeartbeats 4000000 in
theorem w_X12_init_192 (hc : Cx p s m args meth c cX12_init 2 "PumpCrossingModel" D cs B0 kt Lv) (hr : meth.sig.returnType = none) {o : St}  {g0 : Nat} {K : St → Option (St)} (hL0 : Lv 60 g0) (hK : ∀  (S : St) (H : Heap) (locs : List Loc) (ls : Array Slot), K S = some o → Dy s D cs B0 α Lv S H locs → lv_has ls 2 [(0, .ref (α 60 g0))] → W p l e R s m args below meth c H locs cells slots Q (F0 m 214 ls [])) : ∀ (n : Nat) (x1 : Int32) (S : St) (H : Heap) (locs : List Loc) (ls : Array Slot), f_X12_init_192 g0 K n x1 S = some o → Dy s D cs B0 α Lv S H locs → lv_has ls 2 [(0, .ref (α 60 g0)), (1, .int x1)] → W p l e R s m args below meth c H locs cells slots Q (F0 m 192 ls []) := by
  intro n
  induction n with
  | zero =>
    intro x1 S H locs ls hf
    rw [f_X12_init_192] at hf
    cases hf
  | succ n ih =>
    intro x1 S H locs ls hf hd hl
    rw [f_X12_init_192] at hf
    refine lv_iload_n hc.x hc.b dX12_init_192 rfl (lv_at hl 1 rfl) ?_
    refine lv_bipush (v := 42) hc.x hc.b dX12_init_193 (by decide) ?_
    refine lv_icmp_ge (tgt := 214) hc.x hc.b dX12_init_195 (by decide) (fun c_27 => ?_) (fun c_27 => ?_)
    · have hf := br_y c_27 hf
      exact hK S _ _ _ hf hd (lv_sub hl [0] rfl)
    · have hf := br_n c_27 hf
      refine lv_aload_n hc.x hc.b dX12_init_198 rfl (lv_at hl 0 rfl) ?_
      refine fg_60_0 hc hd hL0 tw_1309 dX12_init_199 ?_
      refine lv_bipush (v := 78) hc.x hc.b dX12_init_202 (by decide) ?_
      refine lv_iload_n hc.x hc.b dX12_init_204 rfl (lv_at hl 1 rfl) ?_
      refine lv_iadd hc.x hc.b dX12_init_205 ?_
      refine lv_iconst (v := 1) hc.x hc.b dX12_init_206 (by decide) ?_
      obtain ⟨hi_28, hf⟩ := ck_s hf
      refine r_iast hc hd (cl_60_told hc.cl hL0) (fun _ => rfl) hi_28 dX12_init_207 (fun H locs hd => ?_)
      obtain ⟨S_29, hd, hf⟩ := nmD hd hf
      obtain ⟨x1_30, ex1_30⟩ : ∃ z : Int32, z = x1 + 1 := ⟨_, rfl⟩
      have hf := bv_n ex1_30 hf
      refine lv_iinc (v := x1_30) (lv' := [(1, .int x1_30), (0, .ref (α 60 g0))]) hc.x hc.b dX12_init_208 hl (k := 1) rfl (by rw [ex1_30]; rfl) (by decide) rfl (fun ls hl => ?_)
      refine lv_goto (tgt := 192) hc.x hc.b dX12_init_211 (by decide) ?_
      exact ih x1_30 S_29 _ _ _ hf hd (lv_sub hl [1, 0] rfl)
set_option maxRecDepth 100000 in
set_option maxHeartbeats 8000000 in
theorem b_X12_init (hc : Cx p s m args meth c cX12_init 2 "PumpCrossingModel" D cs B0 kt Lv) (hck : CK cs s) (hin2 : meth.name = "<init>") (hr : meth.sig.returnType = none) {o : St} {S : St} {g0 : Nat} (hlt : ∀ k g, Lv k g → k < 1000) (hL0 : Lv 160 g0) (hfr : ∀ x ∈ F_X12_init g0, ¬ Lv x.1 x.2) {H : Heap} {locs : List Loc} {ls : Array Slot} (hf : f_X12_init g0 S = some o) (hd : Dy s D cs B0 α Lv S H locs) (hl : lv_has ls 2 [(0, .ref (α 160 g0))]) : W p l e (Rm 1 20 15785) s m args below meth c H locs 0 0 (MQ below (QM D cs B0 α Lv 160 60 g0 (F_X12_init g0) [60] o) args s 20 15785 (AB B0)) (F0 m 0 ls []) := by
  unfold f_X12_init at hf
  obtain ⟨a0, e0⟩ : ∃ a, α 160 g0 = a := ⟨_, rfl⟩
  have e00 := e0
  rw [e0] at hl
  have hx : Ex α Lv (160, g0) α Lv [] := Ex.start hlt
  have hm : Mk α [60] α := Mk.start
  refine lv_aload_n hc.x hc.b dX12_init_0 rfl (lv_at hl 0 rfl) ?_
  refine r_oini hc tw_1308 tw_33 tw_34 hl.1 dX12_init_1 (Nat.zero_le _) ⟨Nat.le_of_ble_eq_true rfl, Nat.le_of_ble_eq_true rfl⟩ ?_
  refine lv_aload_n hc.x hc.b dX12_init_4 rfl (lv_at hl 0 rfl) ?_
  refine lv_sipush (v := 3179) hc.x hc.b dX12_init_5 (by decide) ?_
  refine q_newP (aty := .int) (K := 61) (G := g0) (N := 3179) hc hd hx hm hck.1 tw_68 (fun _ => rfl) rfl (by decide) (by decide) (hfr _ (List.mem_cons_of_mem _ (List.mem_cons_of_mem _ (List.mem_cons_of_mem _ (List.mem_cons_of_mem _ (List.mem_cons_of_mem _ (List.mem_cons_of_mem _ (List.mem_cons_of_mem _ (List.mem_cons_of_mem _ (List.mem_cons_of_mem _ (List.mem_cons_of_mem _ (List.mem_cons_of_mem _ (List.mem_cons_of_mem _ (List.mem_cons_of_mem _ (List.mem_cons_of_mem _ (List.mem_cons_of_mem _ (List.mem_cons_of_mem _ (List.mem_cons_of_mem _ (List.mem_cons_of_mem _ (List.mem_cons_of_mem _ (List.mem_cons_of_mem _ (List.mem_cons_self)))))))))))))))))))))) (by simp) (by decide) (by decide) (by decide) ⟨Nat.le_of_ble_eq_true rfl, Nat.le_of_ble_eq_true rfl⟩ dX12_init_8 (fun α Lv H ho ha hv hN hc hd hx hm => ?_)
  obtain ⟨S_1, hd, hf⟩ := nmD hd hf
  have e0 := (ha _ _ hL0).trans e0
  have hL0 := ho _ _ hL0
  have hL_61_g0 := hN
  refine q_putR (K := 160) (V := 7000) (k := 60) (j := 0) (k2 := 61) (i2 := g0) hc hin2 hd hx hm (by decide) rfl rfl (by decide) hL0 e0 hL_61_g0 rfl rfl inX12 tyX12 tyX12_ok nmX12 (by decide) tw_1309 rfl rfl (ty := .array .int) (by decide +kernel) rfl rfl (by show _ < 40; decide) (fun x => by
    show (.inr (12, [r0 (up2 α 7000 g0 (x + 1) 7000 g0), _, _, _, _, _, _, _, _, _, _, _, _, _, _, _, _, _, _, _, _, _, _, _, _, _, _, _, _, _, _, _, _, _, _, _, _, _, _, _]) : va_E) = _
    rw [up2_s]; rfl) dX12_init_10 (fun α H locs ha hs0 hv hd hx hm => ?_)
  have e0 := (ha _ _ hL0).trans e0
  refine lv_aload_n hc.x hc.b dX12_init_13 rfl (lv_at hl 0 rfl) ?_
  refine lv_sipush (v := 9537) hc.x hc.b dX12_init_14 (by decide) ?_
  refine q_newP (aty := .int) (K := 62) (G := g0) (N := 9537) hc hd hx hm hck.1 tw_68 (fun _ => rfl) rfl (by decide) (by decide) (hfr _ (List.mem_cons_of_mem _ (List.mem_cons_of_mem _ (List.mem_cons_of_mem _ (List.mem_cons_of_mem _ (List.mem_cons_of_mem _ (List.mem_cons_of_mem _ (List.mem_cons_of_mem _ (List.mem_cons_of_mem _ (List.mem_cons_of_mem _ (List.mem_cons_of_mem _ (List.mem_cons_of_mem _ (List.mem_cons_of_mem _ (List.mem_cons_of_mem _ (List.mem_cons_of_mem _ (List.mem_cons_of_mem _ (List.mem_cons_of_mem _ (List.mem_cons_of_mem _ (List.mem_cons_of_mem _ (List.mem_cons_of_mem _ (List.mem_cons_self))))))))))))))))))))) (by simp) (by decide) (by decide) (by decide) ⟨Nat.le_of_ble_eq_true rfl, Nat.le_of_ble_eq_true rfl⟩ dX12_init_17 (fun α Lv H ho ha hv hN hc hd hx hm => ?_)
  obtain ⟨S_2, hd, hf⟩ := nmD hd hf
  have e0 := (ha _ _ hL0).trans e0
  have hs0 := sl_k ha hL_61_g0 (hv 7000 _ (Nat.le_of_ble_eq_true rfl)) hs0
  have hL_61_g0 := ho _ _ hL_61_g0
  have hL0 := ho _ _ hL0
  have hL_62_g0 := hN
  refine q_putR (K := 160) (V := 7001) (k := 60) (j := 1) (k2 := 62) (i2 := g0) hc hin2 hd hx hm (by decide) rfl rfl (by decide) hL0 e0 hL_62_g0 rfl rfl inX12 tyX12 tyX12_ok nmX12 (by decide) tw_1310 rfl rfl (ty := .array .int) (by decide +kernel) rfl rfl (by show _ < 40; decide) (fun x => by
    show (.inr (12, [_, r0 (up2 α 7001 g0 (x + 1) 7001 g0), _, _, _, _, _, _, _, _, _, _, _, _, _, _, _, _, _, _, _, _, _, _, _, _, _, _, _, _, _, _, _, _, _, _, _, _, _, _]) : va_E) = _
    rw [up2_s]; rfl) dX12_init_19 (fun α H locs ha hs1 hv hd hx hm => ?_)
  have e0 := (ha _ _ hL0).trans e0
  have hs0 := sl_k ha hL_61_g0 (hv 7000 _ (Nat.le_of_ble_eq_true rfl) (by decide)) hs0
  refine lv_aload_n hc.x hc.b dX12_init_22 rfl (lv_at hl 0 rfl) ?_
  refine lv_bipush (v := 9) hc.x hc.b dX12_init_23 (by decide) ?_
  refine q_newP (aty := .long) (K := 63) (G := g0) (N := 9) hc hd hx hm hck.2.1 tw_69 (fun _ => rfl) rfl (by decide) (by decide) (hfr _ (List.mem_cons_of_mem _ (List.mem_cons_of_mem _ (List.mem_cons_of_mem _ (List.mem_cons_of_mem _ (List.mem_cons_of_mem _ (List.mem_cons_of_mem _ (List.mem_cons_of_mem _ (List.mem_cons_of_mem _ (List.mem_cons_of_mem _ (List.mem_cons_of_mem _ (List.mem_cons_of_mem _ (List.mem_cons_of_mem _ (List.mem_cons_of_mem _ (List.mem_cons_of_mem _ (List.mem_cons_of_mem _ (List.mem_cons_of_mem _ (List.mem_cons_of_mem _ (List.mem_cons_of_mem _ (List.mem_cons_self)))))))))))))))))))) (by simp) (by decide) (by decide) (by decide) ⟨Nat.le_of_ble_eq_true rfl, Nat.le_of_ble_eq_true rfl⟩ dX12_init_25 (fun α Lv H ho ha hv hN hc hd hx hm => ?_)
  obtain ⟨S_3, hd, hf⟩ := nmD hd hf
  have e0 := (ha _ _ hL0).trans e0
  have hs0 := sl_k ha hL_61_g0 (hv 7000 _ (Nat.le_of_ble_eq_true rfl)) hs0
  have hs1 := sl_k ha hL_62_g0 (hv 7001 _ (Nat.le_of_ble_eq_true rfl)) hs1
  have hL_61_g0 := ho _ _ hL_61_g0
  have hL_62_g0 := ho _ _ hL_62_g0
  have hL0 := ho _ _ hL0
  have hL_63_g0 := hN
  refine q_putR (K := 160) (V := 7002) (k := 60) (j := 2) (k2 := 63) (i2 := g0) hc hin2 hd hx hm (by decide) rfl rfl (by decide) hL0 e0 hL_63_g0 rfl rfl inX12 tyX12 tyX12_ok nmX12 (by decide) tw_1311 rfl rfl (ty := .array .long) (by decide +kernel) rfl rfl (by show _ < 40; decide) (fun x => by
    show (.inr (12, [_, _, r0 (up2 α 7002 g0 (x + 1) 7002 g0), _, _, _, _, _, _, _, _, _, _, _, _, _, _, _, _, _, _, _, _, _, _, _, _, _, _, _, _, _, _, _, _, _, _, _, _, _]) : va_E) = _
    rw [up2_s]; rfl) dX12_init_27 (fun α H locs ha hs2 hv hd hx hm => ?_)
  have e0 := (ha _ _ hL0).trans e0
  have hs0 := sl_k ha hL_61_g0 (hv 7000 _ (Nat.le_of_ble_eq_true rfl) (by decide)) hs0
  have hs1 := sl_k ha hL_62_g0 (hv 7001 _ (Nat.le_of_ble_eq_true rfl) (by decide)) hs1
  refine lv_aload_n hc.x hc.b dX12_init_30 rfl (lv_at hl 0 rfl) ?_
  refine lv_bipush (v := 27) hc.x hc.b dX12_init_31 (by decide) ?_
  refine q_newP (aty := .long) (K := 64) (G := g0) (N := 27) hc hd hx hm hck.2.1 tw_69 (fun _ => rfl) rfl (by decide) (by decide) (hfr _ (List.mem_cons_of_mem _ (List.mem_cons_of_mem _ (List.mem_cons_of_mem _ (List.mem_cons_of_mem _ (List.mem_cons_of_mem _ (List.mem_cons_of_mem _ (List.mem_cons_of_mem _ (List.mem_cons_of_mem _ (List.mem_cons_of_mem _ (List.mem_cons_of_mem _ (List.mem_cons_of_mem _ (List.mem_cons_of_mem _ (List.mem_cons_of_mem _ (List.mem_cons_of_mem _ (List.mem_cons_of_mem _ (List.mem_cons_of_mem _ (List.mem_cons_of_mem _ (List.mem_cons_self))))))))))))))))))) (by simp) (by decide) (by decide) (by decide) ⟨Nat.le_of_ble_eq_true rfl, Nat.le_of_ble_eq_true rfl⟩ dX12_init_33 (fun α Lv H ho ha hv hN hc hd hx hm => ?_)
  obtain ⟨S_4, hd, hf⟩ := nmD hd hf
  have e0 := (ha _ _ hL0).trans e0
  have hs0 := sl_k ha hL_61_g0 (hv 7000 _ (Nat.le_of_ble_eq_true rfl)) hs0
  have hs1 := sl_k ha hL_62_g0 (hv 7001 _ (Nat.le_of_ble_eq_true rfl)) hs1
  have hs2 := sl_k ha hL_63_g0 (hv 7002 _ (Nat.le_of_ble_eq_true rfl)) hs2
  have hL_61_g0 := ho _ _ hL_61_g0
  have hL_62_g0 := ho _ _ hL_62_g0
  have hL_63_g0 := ho _ _ hL_63_g0
  have hL0 := ho _ _ hL0
  have hL_64_g0 := hN
  refine q_putR (K := 160) (V := 7003) (k := 60) (j := 3) (k2 := 64) (i2 := g0) hc hin2 hd hx hm (by decide) rfl rfl (by decide) hL0 e0 hL_64_g0 rfl rfl inX12 tyX12 tyX12_ok nmX12 (by decide) tw_1312 rfl rfl (ty := .array .long) (by decide +kernel) rfl rfl (by show _ < 40; decide) (fun x => by
    show (.inr (12, [_, _, _, r0 (up2 α 7003 g0 (x + 1) 7003 g0), _, _, _, _, _, _, _, _, _, _, _, _, _, _, _, _, _, _, _, _, _, _, _, _, _, _, _, _, _, _, _, _, _, _, _, _]) : va_E) = _
    rw [up2_s]; rfl) dX12_init_35 (fun α H locs ha hs3 hv hd hx hm => ?_)
  have e0 := (ha _ _ hL0).trans e0
  have hs0 := sl_k ha hL_61_g0 (hv 7000 _ (Nat.le_of_ble_eq_true rfl) (by decide)) hs0
  have hs1 := sl_k ha hL_62_g0 (hv 7001 _ (Nat.le_of_ble_eq_true rfl) (by decide)) hs1
  have hs2 := sl_k ha hL_63_g0 (hv 7002 _ (Nat.le_of_ble_eq_true rfl) (by decide)) hs2
  refine lv_aload_n hc.x hc.b dX12_init_38 rfl (lv_at hl 0 rfl) ?_
  refine lv_iconst (v := 3) hc.x hc.b dX12_init_39 (by decide) ?_
  refine q_newP (aty := .boolean) (K := 65) (G := g0) (N := 3) hc hd hx hm hck.2.2.2.1 tw_1430 (fun _ => rfl) rfl (by decide) (by decide) (hfr _ (List.mem_cons_of_mem _ (List.mem_cons_of_mem _ (List.mem_cons_of_mem _ (List.mem_cons_of_mem _ (List.mem_cons_of_mem _ (List.mem_cons_of_mem _ (List.mem_cons_of_mem _ (List.mem_cons_of_mem _ (List.mem_cons_of_mem _ (List.mem_cons_of_mem _ (List.mem_cons_of_mem _ (List.mem_cons_of_mem _ (List.mem_cons_of_mem _ (List.mem_cons_of_mem _ (List.mem_cons_of_mem _ (List.mem_cons_of_mem _ (List.mem_cons_self)))))))))))))))))) (by simp) (by decide) (by decide) (by decide) ⟨Nat.le_of_ble_eq_true rfl, Nat.le_of_ble_eq_true rfl⟩ dX12_init_40 (fun α Lv H ho ha hv hN hc hd hx hm => ?_)
  obtain ⟨S_5, hd, hf⟩ := nmD hd hf
  have e0 := (ha _ _ hL0).trans e0
  have hs0 := sl_k ha hL_61_g0 (hv 7000 _ (Nat.le_of_ble_eq_true rfl)) hs0
  have hs1 := sl_k ha hL_62_g0 (hv 7001 _ (Nat.le_of_ble_eq_true rfl)) hs1
  have hs2 := sl_k ha hL_63_g0 (hv 7002 _ (Nat.le_of_ble_eq_true rfl)) hs2
  have hs3 := sl_k ha hL_64_g0 (hv 7003 _ (Nat.le_of_ble_eq_true rfl)) hs3
  have hL_61_g0 := ho _ _ hL_61_g0
  have hL_62_g0 := ho _ _ hL_62_g0
  have hL_63_g0 := ho _ _ hL_63_g0
  have hL_64_g0 := ho _ _ hL_64_g0
  have hL0 := ho _ _ hL0
  have hL_65_g0 := hN
  refine q_putR (K := 160) (V := 7004) (k := 60) (j := 4) (k2 := 65) (i2 := g0) hc hin2 hd hx hm (by decide) rfl rfl (by decide) hL0 e0 hL_65_g0 rfl rfl inX12 tyX12 tyX12_ok nmX12 (by decide) tw_1313 rfl rfl (ty := .array .boolean) (by decide +kernel) rfl rfl (by show _ < 40; decide) (fun x => by
    show (.inr (12, [_, _, _, _, r0 (up2 α 7004 g0 (x + 1) 7004 g0), _, _, _, _, _, _, _, _, _, _, _, _, _, _, _, _, _, _, _, _, _, _, _, _, _, _, _, _, _, _, _, _, _, _, _]) : va_E) = _
    rw [up2_s]; rfl) dX12_init_42 (fun α H locs ha hs4 hv hd hx hm => ?_)
  have e0 := (ha _ _ hL0).trans e0
  have hs0 := sl_k ha hL_61_g0 (hv 7000 _ (Nat.le_of_ble_eq_true rfl) (by decide)) hs0
  have hs1 := sl_k ha hL_62_g0 (hv 7001 _ (Nat.le_of_ble_eq_true rfl) (by decide)) hs1
  have hs2 := sl_k ha hL_63_g0 (hv 7002 _ (Nat.le_of_ble_eq_true rfl) (by decide)) hs2
  have hs3 := sl_k ha hL_64_g0 (hv 7003 _ (Nat.le_of_ble_eq_true rfl) (by decide)) hs3
  refine lv_aload_n hc.x hc.b dX12_init_45 rfl (lv_at hl 0 rfl) ?_
  refine lv_sipush (v := 400) hc.x hc.b dX12_init_46 (by decide) ?_
  refine q_newP (aty := .int) (K := 66) (G := g0) (N := 400) hc hd hx hm hck.1 tw_68 (fun _ => rfl) rfl (by decide) (by decide) (hfr _ (List.mem_cons_of_mem _ (List.mem_cons_of_mem _ (List.mem_cons_of_mem _ (List.mem_cons_of_mem _ (List.mem_cons_of_mem _ (List.mem_cons_of_mem _ (List.mem_cons_of_mem _ (List.mem_cons_of_mem _ (List.mem_cons_of_mem _ (List.mem_cons_of_mem _ (List.mem_cons_of_mem _ (List.mem_cons_of_mem _ (List.mem_cons_of_mem _ (List.mem_cons_of_mem _ (List.mem_cons_of_mem _ (List.mem_cons_self))))))))))))))))) (by simp) (by decide) (by decide) (by decide) ⟨Nat.le_of_ble_eq_true rfl, Nat.le_of_ble_eq_true rfl⟩ dX12_init_49 (fun α Lv H ho ha hv hN hc hd hx hm => ?_)
  obtain ⟨S_6, hd, hf⟩ := nmD hd hf
  have e0 := (ha _ _ hL0).trans e0
  have hs0 := sl_k ha hL_61_g0 (hv 7000 _ (Nat.le_of_ble_eq_true rfl)) hs0
  have hs1 := sl_k ha hL_62_g0 (hv 7001 _ (Nat.le_of_ble_eq_true rfl)) hs1
  have hs2 := sl_k ha hL_63_g0 (hv 7002 _ (Nat.le_of_ble_eq_true rfl)) hs2
  have hs3 := sl_k ha hL_64_g0 (hv 7003 _ (Nat.le_of_ble_eq_true rfl)) hs3
  have hs4 := sl_k ha hL_65_g0 (hv 7004 _ (Nat.le_of_ble_eq_true rfl)) hs4
  have hL_61_g0 := ho _ _ hL_61_g0
  have hL_62_g0 := ho _ _ hL_62_g0
  have hL_63_g0 := ho _ _ hL_63_g0
  have hL_64_g0 := ho _ _ hL_64_g0
  have hL_65_g0 := ho _ _ hL_65_g0
  have hL0 := ho _ _ hL0
  have hL_66_g0 := hN
  refine q_putR (K := 160) (V := 7006) (k := 60) (j := 6) (k2 := 66) (i2 := g0) hc hin2 hd hx hm (by decide) rfl rfl (by decide) hL0 e0 hL_66_g0 rfl rfl inX12 tyX12 tyX12_ok nmX12 (by decide) tw_1315 rfl rfl (ty := .array .int) (by decide +kernel) rfl rfl (by show _ < 40; decide) (fun x => by
    show (.inr (12, [_, _, _, _, _, _, r0 (up2 α 7006 g0 (x + 1) 7006 g0), _, _, _, _, _, _, _, _, _, _, _, _, _, _, _, _, _, _, _, _, _, _, _, _, _, _, _, _, _, _, _, _, _]) : va_E) = _
    rw [up2_s]; rfl) dX12_init_51 (fun α H locs ha hs6 hv hd hx hm => ?_)
  have e0 := (ha _ _ hL0).trans e0
  have hs0 := sl_k ha hL_61_g0 (hv 7000 _ (Nat.le_of_ble_eq_true rfl) (by decide)) hs0
  have hs1 := sl_k ha hL_62_g0 (hv 7001 _ (Nat.le_of_ble_eq_true rfl) (by decide)) hs1
  have hs2 := sl_k ha hL_63_g0 (hv 7002 _ (Nat.le_of_ble_eq_true rfl) (by decide)) hs2
  have hs3 := sl_k ha hL_64_g0 (hv 7003 _ (Nat.le_of_ble_eq_true rfl) (by decide)) hs3
  have hs4 := sl_k ha hL_65_g0 (hv 7004 _ (Nat.le_of_ble_eq_true rfl) (by decide)) hs4
  refine lv_aload_n hc.x hc.b dX12_init_54 rfl (lv_at hl 0 rfl) ?_
  refine lv_sipush (v := 440) hc.x hc.b dX12_init_55 (by decide) ?_
  refine q_newP (aty := .int) (K := 67) (G := g0) (N := 440) hc hd hx hm hck.1 tw_68 (fun _ => rfl) rfl (by decide) (by decide) (hfr _ (List.mem_cons_of_mem _ (List.mem_cons_of_mem _ (List.mem_cons_of_mem _ (List.mem_cons_of_mem _ (List.mem_cons_of_mem _ (List.mem_cons_of_mem _ (List.mem_cons_of_mem _ (List.mem_cons_of_mem _ (List.mem_cons_of_mem _ (List.mem_cons_of_mem _ (List.mem_cons_of_mem _ (List.mem_cons_of_mem _ (List.mem_cons_of_mem _ (List.mem_cons_of_mem _ (List.mem_cons_self)))))))))))))))) (by simp) (by decide) (by decide) (by decide) ⟨Nat.le_of_ble_eq_true rfl, Nat.le_of_ble_eq_true rfl⟩ dX12_init_58 (fun α Lv H ho ha hv hN hc hd hx hm => ?_)
  obtain ⟨S_7, hd, hf⟩ := nmD hd hf
  have e0 := (ha _ _ hL0).trans e0
  have hs0 := sl_k ha hL_61_g0 (hv 7000 _ (Nat.le_of_ble_eq_true rfl)) hs0
  have hs1 := sl_k ha hL_62_g0 (hv 7001 _ (Nat.le_of_ble_eq_true rfl)) hs1
  have hs2 := sl_k ha hL_63_g0 (hv 7002 _ (Nat.le_of_ble_eq_true rfl)) hs2
  have hs3 := sl_k ha hL_64_g0 (hv 7003 _ (Nat.le_of_ble_eq_true rfl)) hs3
  have hs4 := sl_k ha hL_65_g0 (hv 7004 _ (Nat.le_of_ble_eq_true rfl)) hs4
  have hs6 := sl_k ha hL_66_g0 (hv 7006 _ (Nat.le_of_ble_eq_true rfl)) hs6
  have hL_61_g0 := ho _ _ hL_61_g0
  have hL_62_g0 := ho _ _ hL_62_g0
  have hL_63_g0 := ho _ _ hL_63_g0
  have hL_64_g0 := ho _ _ hL_64_g0
  have hL_65_g0 := ho _ _ hL_65_g0
  have hL_66_g0 := ho _ _ hL_66_g0
  have hL0 := ho _ _ hL0
  have hL_67_g0 := hN
  refine q_putR (K := 160) (V := 7007) (k := 60) (j := 7) (k2 := 67) (i2 := g0) hc hin2 hd hx hm (by decide) rfl rfl (by decide) hL0 e0 hL_67_g0 rfl rfl inX12 tyX12 tyX12_ok nmX12 (by decide) tw_1316 rfl rfl (ty := .array .int) (by decide +kernel) rfl rfl (by show _ < 40; decide) (fun x => by
    show (.inr (12, [_, _, _, _, _, _, _, r0 (up2 α 7007 g0 (x + 1) 7007 g0), _, _, _, _, _, _, _, _, _, _, _, _, _, _, _, _, _, _, _, _, _, _, _, _, _, _, _, _, _, _, _, _]) : va_E) = _
    rw [up2_s]; rfl) dX12_init_60 (fun α H locs ha hs7 hv hd hx hm => ?_)
  have e0 := (ha _ _ hL0).trans e0
  have hs0 := sl_k ha hL_61_g0 (hv 7000 _ (Nat.le_of_ble_eq_true rfl) (by decide)) hs0
  have hs1 := sl_k ha hL_62_g0 (hv 7001 _ (Nat.le_of_ble_eq_true rfl) (by decide)) hs1
  have hs2 := sl_k ha hL_63_g0 (hv 7002 _ (Nat.le_of_ble_eq_true rfl) (by decide)) hs2
  have hs3 := sl_k ha hL_64_g0 (hv 7003 _ (Nat.le_of_ble_eq_true rfl) (by decide)) hs3
  have hs4 := sl_k ha hL_65_g0 (hv 7004 _ (Nat.le_of_ble_eq_true rfl) (by decide)) hs4
  have hs6 := sl_k ha hL_66_g0 (hv 7006 _ (Nat.le_of_ble_eq_true rfl) (by decide)) hs6
  refine lv_aload_n hc.x hc.b dX12_init_63 rfl (lv_at hl 0 rfl) ?_
  refine lv_iconst (v := 5) hc.x hc.b dX12_init_64 (by decide) ?_
  refine q_newP (aty := .int) (K := 68) (G := g0) (N := 5) hc hd hx hm hck.1 tw_68 (fun _ => rfl) rfl (by decide) (by decide) (hfr _ (List.mem_cons_of_mem _ (List.mem_cons_of_mem _ (List.mem_cons_of_mem _ (List.mem_cons_of_mem _ (List.mem_cons_of_mem _ (List.mem_cons_of_mem _ (List.mem_cons_of_mem _ (List.mem_cons_of_mem _ (List.mem_cons_of_mem _ (List.mem_cons_of_mem _ (List.mem_cons_of_mem _ (List.mem_cons_of_mem _ (List.mem_cons_of_mem _ (List.mem_cons_self))))))))))))))) (by simp) (by decide) (by decide) (by decide) ⟨Nat.le_of_ble_eq_true rfl, Nat.le_of_ble_eq_true rfl⟩ dX12_init_65 (fun α Lv H ho ha hv hN hc hd hx hm => ?_)
  obtain ⟨S_8, hd, hf⟩ := nmD hd hf
  have e0 := (ha _ _ hL0).trans e0
  have hs0 := sl_k ha hL_61_g0 (hv 7000 _ (Nat.le_of_ble_eq_true rfl)) hs0
  have hs1 := sl_k ha hL_62_g0 (hv 7001 _ (Nat.le_of_ble_eq_true rfl)) hs1
  have hs2 := sl_k ha hL_63_g0 (hv 7002 _ (Nat.le_of_ble_eq_true rfl)) hs2
  have hs3 := sl_k ha hL_64_g0 (hv 7003 _ (Nat.le_of_ble_eq_true rfl)) hs3
  have hs4 := sl_k ha hL_65_g0 (hv 7004 _ (Nat.le_of_ble_eq_true rfl)) hs4
  have hs6 := sl_k ha hL_66_g0 (hv 7006 _ (Nat.le_of_ble_eq_true rfl)) hs6
  have hs7 := sl_k ha hL_67_g0 (hv 7007 _ (Nat.le_of_ble_eq_true rfl)) hs7
  have hL_61_g0 := ho _ _ hL_61_g0
  have hL_62_g0 := ho _ _ hL_62_g0
  have hL_63_g0 := ho _ _ hL_63_g0
  have hL_64_g0 := ho _ _ hL_64_g0
  have hL_65_g0 := ho _ _ hL_65_g0
  have hL_66_g0 := ho _ _ hL_66_g0
  have hL_67_g0 := ho _ _ hL_67_g0
  have hL0 := ho _ _ hL0
  have hL_68_g0 := hN
  refine q_putR (K := 160) (V := 7008) (k := 60) (j := 8) (k2 := 68) (i2 := g0) hc hin2 hd hx hm (by decide) rfl rfl (by decide) hL0 e0 hL_68_g0 rfl rfl inX12 tyX12 tyX12_ok nmX12 (by decide) tw_1317 rfl rfl (ty := .array .int) (by decide +kernel) rfl rfl (by show _ < 40; decide) (fun x => by
    show (.inr (12, [_, _, _, _, _, _, _, _, r0 (up2 α 7008 g0 (x + 1) 7008 g0), _, _, _, _, _, _, _, _, _, _, _, _, _, _, _, _, _, _, _, _, _, _, _, _, _, _, _, _, _, _, _]) : va_E) = _
    rw [up2_s]; rfl) dX12_init_67 (fun α H locs ha hs8 hv hd hx hm => ?_)
  have e0 := (ha _ _ hL0).trans e0
  have hs0 := sl_k ha hL_61_g0 (hv 7000 _ (Nat.le_of_ble_eq_true rfl) (by decide)) hs0
  have hs1 := sl_k ha hL_62_g0 (hv 7001 _ (Nat.le_of_ble_eq_true rfl) (by decide)) hs1
  have hs2 := sl_k ha hL_63_g0 (hv 7002 _ (Nat.le_of_ble_eq_true rfl) (by decide)) hs2
  have hs3 := sl_k ha hL_64_g0 (hv 7003 _ (Nat.le_of_ble_eq_true rfl) (by decide)) hs3
  have hs4 := sl_k ha hL_65_g0 (hv 7004 _ (Nat.le_of_ble_eq_true rfl) (by decide)) hs4
  have hs6 := sl_k ha hL_66_g0 (hv 7006 _ (Nat.le_of_ble_eq_true rfl) (by decide)) hs6
  have hs7 := sl_k ha hL_67_g0 (hv 7007 _ (Nat.le_of_ble_eq_true rfl) (by decide)) hs7
  refine lv_aload_n hc.x hc.b dX12_init_70 rfl (lv_at hl 0 rfl) ?_
  refine lv_iconst (v := (-1)) hc.x hc.b dX12_init_71 (by decide) ?_
  refine w_st (by rw [← e0]) (r_put (S' := si S_8 160 g0 19 ((-1))) hc hd hL0 rfl rfl inX12 tyX12 tyX12_ok nmX12 19 (by decide) tw_1328 rfl (ty := .int) (by decide +kernel) rfl rfl (by show _ < 40; decide) (by unfold si; rw [ce_s_ai]; rfl) (by unfold si; exact ce_ai) (fun h => h) dX12_init_72 (fun H locs hd => ?_))
  obtain ⟨S_9, hd, hf⟩ := nmD hd hf
  refine lv_aload_n hc.x hc.b dX12_init_75 rfl (lv_at hl 0 rfl) ?_
  refine lv_sipush (v := 440) hc.x hc.b dX12_init_76 (by decide) ?_
  refine q_newP (aty := .int) (K := 69) (G := g0) (N := 440) hc hd hx hm hck.1 tw_68 (fun _ => rfl) rfl (by decide) (by decide) (hfr _ (List.mem_cons_of_mem _ (List.mem_cons_of_mem _ (List.mem_cons_of_mem _ (List.mem_cons_of_mem _ (List.mem_cons_of_mem _ (List.mem_cons_of_mem _ (List.mem_cons_of_mem _ (List.mem_cons_of_mem _ (List.mem_cons_of_mem _ (List.mem_cons_of_mem _ (List.mem_cons_of_mem _ (List.mem_cons_of_mem _ (List.mem_cons_self)))))))))))))) (by simp) (by decide) (by decide) (by decide) ⟨Nat.le_of_ble_eq_true rfl, Nat.le_of_ble_eq_true rfl⟩ dX12_init_79 (fun α Lv H ho ha hv hN hc hd hx hm => ?_)
  obtain ⟨S_10, hd, hf⟩ := nmD hd hf
  have e0 := (ha _ _ hL0).trans e0
  have hs0 := sl_k ha hL_61_g0 (hv 7000 _ (Nat.le_of_ble_eq_true rfl)) hs0
  have hs1 := sl_k ha hL_62_g0 (hv 7001 _ (Nat.le_of_ble_eq_true rfl)) hs1
  have hs2 := sl_k ha hL_63_g0 (hv 7002 _ (Nat.le_of_ble_eq_true rfl)) hs2
  have hs3 := sl_k ha hL_64_g0 (hv 7003 _ (Nat.le_of_ble_eq_true rfl)) hs3
  have hs4 := sl_k ha hL_65_g0 (hv 7004 _ (Nat.le_of_ble_eq_true rfl)) hs4
  have hs6 := sl_k ha hL_66_g0 (hv 7006 _ (Nat.le_of_ble_eq_true rfl)) hs6
  have hs7 := sl_k ha hL_67_g0 (hv 7007 _ (Nat.le_of_ble_eq_true rfl)) hs7
  have hs8 := sl_k ha hL_68_g0 (hv 7008 _ (Nat.le_of_ble_eq_true rfl)) hs8
  have hL_61_g0 := ho _ _ hL_61_g0
  have hL_62_g0 := ho _ _ hL_62_g0
  have hL_63_g0 := ho _ _ hL_63_g0
  have hL_64_g0 := ho _ _ hL_64_g0
  have hL_65_g0 := ho _ _ hL_65_g0
  have hL_66_g0 := ho _ _ hL_66_g0
  have hL_67_g0 := ho _ _ hL_67_g0
  have hL_68_g0 := ho _ _ hL_68_g0
  have hL0 := ho _ _ hL0
  have hL_69_g0 := hN
  refine q_putR (K := 160) (V := 7022) (k := 60) (j := 22) (k2 := 69) (i2 := g0) hc hin2 hd hx hm (by decide) rfl rfl (by decide) hL0 e0 hL_69_g0 rfl rfl inX12 tyX12 tyX12_ok nmX12 (by decide) tw_1331 rfl rfl (ty := .array .int) (by decide +kernel) rfl rfl (by show _ < 40; decide) (fun x => by
    show (.inr (12, [_, _, _, _, _, _, _, _, _, _, _, _, _, _, _, _, _, _, _, _, _, _, r0 (up2 α 7022 g0 (x + 1) 7022 g0), _, _, _, _, _, _, _, _, _, _, _, _, _, _, _, _, _]) : va_E) = _
    rw [up2_s]; rfl) dX12_init_81 (fun α H locs ha hs22 hv hd hx hm => ?_)
  have e0 := (ha _ _ hL0).trans e0
  have hs0 := sl_k ha hL_61_g0 (hv 7000 _ (Nat.le_of_ble_eq_true rfl) (by decide)) hs0
  have hs1 := sl_k ha hL_62_g0 (hv 7001 _ (Nat.le_of_ble_eq_true rfl) (by decide)) hs1
  have hs2 := sl_k ha hL_63_g0 (hv 7002 _ (Nat.le_of_ble_eq_true rfl) (by decide)) hs2
  have hs3 := sl_k ha hL_64_g0 (hv 7003 _ (Nat.le_of_ble_eq_true rfl) (by decide)) hs3
  have hs4 := sl_k ha hL_65_g0 (hv 7004 _ (Nat.le_of_ble_eq_true rfl) (by decide)) hs4
  have hs6 := sl_k ha hL_66_g0 (hv 7006 _ (Nat.le_of_ble_eq_true rfl) (by decide)) hs6
  have hs7 := sl_k ha hL_67_g0 (hv 7007 _ (Nat.le_of_ble_eq_true rfl) (by decide)) hs7
  have hs8 := sl_k ha hL_68_g0 (hv 7008 _ (Nat.le_of_ble_eq_true rfl) (by decide)) hs8
  refine lv_aload_n hc.x hc.b dX12_init_84 rfl (lv_at hl 0 rfl) ?_
  refine lv_iconst (v := 4) hc.x hc.b dX12_init_85 (by decide) ?_
  refine q_newP (aty := .int) (K := 70) (G := g0) (N := 4) hc hd hx hm hck.1 tw_68 (fun _ => rfl) rfl (by decide) (by decide) (hfr _ (List.mem_cons_of_mem _ (List.mem_cons_of_mem _ (List.mem_cons_of_mem _ (List.mem_cons_of_mem _ (List.mem_cons_of_mem _ (List.mem_cons_of_mem _ (List.mem_cons_of_mem _ (List.mem_cons_of_mem _ (List.mem_cons_of_mem _ (List.mem_cons_of_mem _ (List.mem_cons_of_mem _ (List.mem_cons_self))))))))))))) (by simp) (by decide) (by decide) (by decide) ⟨Nat.le_of_ble_eq_true rfl, Nat.le_of_ble_eq_true rfl⟩ dX12_init_86 (fun α Lv H ho ha hv hN hc hd hx hm => ?_)
  obtain ⟨S_11, hd, hf⟩ := nmD hd hf
  have e0 := (ha _ _ hL0).trans e0
  have hs0 := sl_k ha hL_61_g0 (hv 7000 _ (Nat.le_of_ble_eq_true rfl)) hs0
  have hs1 := sl_k ha hL_62_g0 (hv 7001 _ (Nat.le_of_ble_eq_true rfl)) hs1
  have hs2 := sl_k ha hL_63_g0 (hv 7002 _ (Nat.le_of_ble_eq_true rfl)) hs2
  have hs3 := sl_k ha hL_64_g0 (hv 7003 _ (Nat.le_of_ble_eq_true rfl)) hs3
  have hs4 := sl_k ha hL_65_g0 (hv 7004 _ (Nat.le_of_ble_eq_true rfl)) hs4
  have hs6 := sl_k ha hL_66_g0 (hv 7006 _ (Nat.le_of_ble_eq_true rfl)) hs6
  have hs7 := sl_k ha hL_67_g0 (hv 7007 _ (Nat.le_of_ble_eq_true rfl)) hs7
  have hs8 := sl_k ha hL_68_g0 (hv 7008 _ (Nat.le_of_ble_eq_true rfl)) hs8
  have hs22 := sl_k ha hL_69_g0 (hv 7022 _ (Nat.le_of_ble_eq_true rfl)) hs22
  have hL_61_g0 := ho _ _ hL_61_g0
  have hL_62_g0 := ho _ _ hL_62_g0
  have hL_63_g0 := ho _ _ hL_63_g0
  have hL_64_g0 := ho _ _ hL_64_g0
  have hL_65_g0 := ho _ _ hL_65_g0
  have hL_66_g0 := ho _ _ hL_66_g0
  have hL_67_g0 := ho _ _ hL_67_g0
  have hL_68_g0 := ho _ _ hL_68_g0
  have hL_69_g0 := ho _ _ hL_69_g0
  have hL0 := ho _ _ hL0
  have hL_70_g0 := hN
  refine q_putR (K := 160) (V := 7024) (k := 60) (j := 24) (k2 := 70) (i2 := g0) hc hin2 hd hx hm (by decide) rfl rfl (by decide) hL0 e0 hL_70_g0 rfl rfl inX12 tyX12 tyX12_ok nmX12 (by decide) tw_1333 rfl rfl (ty := .array .int) (by decide +kernel) rfl rfl (by show _ < 40; decide) (fun x => by
    show (.inr (12, [_, _, _, _, _, _, _, _, _, _, _, _, _, _, _, _, _, _, _, _, _, _, _, _, r0 (up2 α 7024 g0 (x + 1) 7024 g0), _, _, _, _, _, _, _, _, _, _, _, _, _, _, _]) : va_E) = _
    rw [up2_s]; rfl) dX12_init_88 (fun α H locs ha hs24 hv hd hx hm => ?_)
  have e0 := (ha _ _ hL0).trans e0
  have hs0 := sl_k ha hL_61_g0 (hv 7000 _ (Nat.le_of_ble_eq_true rfl) (by decide)) hs0
  have hs1 := sl_k ha hL_62_g0 (hv 7001 _ (Nat.le_of_ble_eq_true rfl) (by decide)) hs1
  have hs2 := sl_k ha hL_63_g0 (hv 7002 _ (Nat.le_of_ble_eq_true rfl) (by decide)) hs2
  have hs3 := sl_k ha hL_64_g0 (hv 7003 _ (Nat.le_of_ble_eq_true rfl) (by decide)) hs3
  have hs4 := sl_k ha hL_65_g0 (hv 7004 _ (Nat.le_of_ble_eq_true rfl) (by decide)) hs4
  have hs6 := sl_k ha hL_66_g0 (hv 7006 _ (Nat.le_of_ble_eq_true rfl) (by decide)) hs6
  have hs7 := sl_k ha hL_67_g0 (hv 7007 _ (Nat.le_of_ble_eq_true rfl) (by decide)) hs7
  have hs8 := sl_k ha hL_68_g0 (hv 7008 _ (Nat.le_of_ble_eq_true rfl) (by decide)) hs8
  have hs22 := sl_k ha hL_69_g0 (hv 7022 _ (Nat.le_of_ble_eq_true rfl) (by decide)) hs22
  refine lv_aload_n hc.x hc.b dX12_init_91 rfl (lv_at hl 0 rfl) ?_
  refine lv_iconst (v := 4) hc.x hc.b dX12_init_92 (by decide) ?_
  refine q_newP (aty := .int) (K := 71) (G := g0) (N := 4) hc hd hx hm hck.1 tw_68 (fun _ => rfl) rfl (by decide) (by decide) (hfr _ (List.mem_cons_of_mem _ (List.mem_cons_of_mem _ (List.mem_cons_of_mem _ (List.mem_cons_of_mem _ (List.mem_cons_of_mem _ (List.mem_cons_of_mem _ (List.mem_cons_of_mem _ (List.mem_cons_of_mem _ (List.mem_cons_of_mem _ (List.mem_cons_of_mem _ (List.mem_cons_self)))))))))))) (by simp) (by decide) (by decide) (by decide) ⟨Nat.le_of_ble_eq_true rfl, Nat.le_of_ble_eq_true rfl⟩ dX12_init_93 (fun α Lv H ho ha hv hN hc hd hx hm => ?_)
  obtain ⟨S_12, hd, hf⟩ := nmD hd hf
  have e0 := (ha _ _ hL0).trans e0
  have hs0 := sl_k ha hL_61_g0 (hv 7000 _ (Nat.le_of_ble_eq_true rfl)) hs0
  have hs1 := sl_k ha hL_62_g0 (hv 7001 _ (Nat.le_of_ble_eq_true rfl)) hs1
  have hs2 := sl_k ha hL_63_g0 (hv 7002 _ (Nat.le_of_ble_eq_true rfl)) hs2
  have hs3 := sl_k ha hL_64_g0 (hv 7003 _ (Nat.le_of_ble_eq_true rfl)) hs3
  have hs4 := sl_k ha hL_65_g0 (hv 7004 _ (Nat.le_of_ble_eq_true rfl)) hs4
  have hs6 := sl_k ha hL_66_g0 (hv 7006 _ (Nat.le_of_ble_eq_true rfl)) hs6
  have hs7 := sl_k ha hL_67_g0 (hv 7007 _ (Nat.le_of_ble_eq_true rfl)) hs7
  have hs8 := sl_k ha hL_68_g0 (hv 7008 _ (Nat.le_of_ble_eq_true rfl)) hs8
  have hs22 := sl_k ha hL_69_g0 (hv 7022 _ (Nat.le_of_ble_eq_true rfl)) hs22
  have hs24 := sl_k ha hL_70_g0 (hv 7024 _ (Nat.le_of_ble_eq_true rfl)) hs24
  have hL_61_g0 := ho _ _ hL_61_g0
  have hL_62_g0 := ho _ _ hL_62_g0
  have hL_63_g0 := ho _ _ hL_63_g0
  have hL_64_g0 := ho _ _ hL_64_g0
  have hL_65_g0 := ho _ _ hL_65_g0
  have hL_66_g0 := ho _ _ hL_66_g0
  have hL_67_g0 := ho _ _ hL_67_g0
  have hL_68_g0 := ho _ _ hL_68_g0
  have hL_69_g0 := ho _ _ hL_69_g0
  have hL_70_g0 := ho _ _ hL_70_g0
  have hL0 := ho _ _ hL0
  have hL_71_g0 := hN
  refine q_putR (K := 160) (V := 7025) (k := 60) (j := 25) (k2 := 71) (i2 := g0) hc hin2 hd hx hm (by decide) rfl rfl (by decide) hL0 e0 hL_71_g0 rfl rfl inX12 tyX12 tyX12_ok nmX12 (by decide) tw_1334 rfl rfl (ty := .array .int) (by decide +kernel) rfl rfl (by show _ < 40; decide) (fun x => by
    show (.inr (12, [_, _, _, _, _, _, _, _, _, _, _, _, _, _, _, _, _, _, _, _, _, _, _, _, _, r0 (up2 α 7025 g0 (x + 1) 7025 g0), _, _, _, _, _, _, _, _, _, _, _, _, _, _]) : va_E) = _
    rw [up2_s]; rfl) dX12_init_95 (fun α H locs ha hs25 hv hd hx hm => ?_)
  have e0 := (ha _ _ hL0).trans e0
  have hs0 := sl_k ha hL_61_g0 (hv 7000 _ (Nat.le_of_ble_eq_true rfl) (by decide)) hs0
  have hs1 := sl_k ha hL_62_g0 (hv 7001 _ (Nat.le_of_ble_eq_true rfl) (by decide)) hs1
  have hs2 := sl_k ha hL_63_g0 (hv 7002 _ (Nat.le_of_ble_eq_true rfl) (by decide)) hs2
  have hs3 := sl_k ha hL_64_g0 (hv 7003 _ (Nat.le_of_ble_eq_true rfl) (by decide)) hs3
  have hs4 := sl_k ha hL_65_g0 (hv 7004 _ (Nat.le_of_ble_eq_true rfl) (by decide)) hs4
  have hs6 := sl_k ha hL_66_g0 (hv 7006 _ (Nat.le_of_ble_eq_true rfl) (by decide)) hs6
  have hs7 := sl_k ha hL_67_g0 (hv 7007 _ (Nat.le_of_ble_eq_true rfl) (by decide)) hs7
  have hs8 := sl_k ha hL_68_g0 (hv 7008 _ (Nat.le_of_ble_eq_true rfl) (by decide)) hs8
  have hs22 := sl_k ha hL_69_g0 (hv 7022 _ (Nat.le_of_ble_eq_true rfl) (by decide)) hs22
  have hs24 := sl_k ha hL_70_g0 (hv 7024 _ (Nat.le_of_ble_eq_true rfl) (by decide)) hs24
  refine lv_aload_n hc.x hc.b dX12_init_98 rfl (lv_at hl 0 rfl) ?_
  refine lv_sipush (v := 128) hc.x hc.b dX12_init_99 (by decide) ?_
  refine q_newP (aty := .int) (K := 72) (G := g0) (N := 128) hc hd hx hm hck.1 tw_68 (fun _ => rfl) rfl (by decide) (by decide) (hfr _ (List.mem_cons_of_mem _ (List.mem_cons_of_mem _ (List.mem_cons_of_mem _ (List.mem_cons_of_mem _ (List.mem_cons_of_mem _ (List.mem_cons_of_mem _ (List.mem_cons_of_mem _ (List.mem_cons_of_mem _ (List.mem_cons_of_mem _ (List.mem_cons_self))))))))))) (by simp) (by decide) (by decide) (by decide) ⟨Nat.le_of_ble_eq_true rfl, Nat.le_of_ble_eq_true rfl⟩ dX12_init_102 (fun α Lv H ho ha hv hN hc hd hx hm => ?_)
  obtain ⟨S_13, hd, hf⟩ := nmD hd hf
  have e0 := (ha _ _ hL0).trans e0
  have hs0 := sl_k ha hL_61_g0 (hv 7000 _ (Nat.le_of_ble_eq_true rfl)) hs0
  have hs1 := sl_k ha hL_62_g0 (hv 7001 _ (Nat.le_of_ble_eq_true rfl)) hs1
  have hs2 := sl_k ha hL_63_g0 (hv 7002 _ (Nat.le_of_ble_eq_true rfl)) hs2
  have hs3 := sl_k ha hL_64_g0 (hv 7003 _ (Nat.le_of_ble_eq_true rfl)) hs3
  have hs4 := sl_k ha hL_65_g0 (hv 7004 _ (Nat.le_of_ble_eq_true rfl)) hs4
  have hs6 := sl_k ha hL_66_g0 (hv 7006 _ (Nat.le_of_ble_eq_true rfl)) hs6
  have hs7 := sl_k ha hL_67_g0 (hv 7007 _ (Nat.le_of_ble_eq_true rfl)) hs7
  have hs8 := sl_k ha hL_68_g0 (hv 7008 _ (Nat.le_of_ble_eq_true rfl)) hs8
  have hs22 := sl_k ha hL_69_g0 (hv 7022 _ (Nat.le_of_ble_eq_true rfl)) hs22
  have hs24 := sl_k ha hL_70_g0 (hv 7024 _ (Nat.le_of_ble_eq_true rfl)) hs24
  have hs25 := sl_k ha hL_71_g0 (hv 7025 _ (Nat.le_of_ble_eq_true rfl)) hs25
  have hL_61_g0 := ho _ _ hL_61_g0
  have hL_62_g0 := ho _ _ hL_62_g0
  have hL_63_g0 := ho _ _ hL_63_g0
  have hL_64_g0 := ho _ _ hL_64_g0
  have hL_65_g0 := ho _ _ hL_65_g0
  have hL_66_g0 := ho _ _ hL_66_g0
  have hL_67_g0 := ho _ _ hL_67_g0
  have hL_68_g0 := ho _ _ hL_68_g0
  have hL_69_g0 := ho _ _ hL_69_g0
  have hL_70_g0 := ho _ _ hL_70_g0
  have hL_71_g0 := ho _ _ hL_71_g0
  have hL0 := ho _ _ hL0
  have hL_72_g0 := hN
  refine q_putR (K := 160) (V := 7028) (k := 60) (j := 28) (k2 := 72) (i2 := g0) hc hin2 hd hx hm (by decide) rfl rfl (by decide) hL0 e0 hL_72_g0 rfl rfl inX12 tyX12 tyX12_ok nmX12 (by decide) tw_1337 rfl rfl (ty := .array .int) (by decide +kernel) rfl rfl (by show _ < 40; decide) (fun x => by
    show (.inr (12, [_, _, _, _, _, _, _, _, _, _, _, _, _, _, _, _, _, _, _, _, _, _, _, _, _, _, _, _, r0 (up2 α 7028 g0 (x + 1) 7028 g0), _, _, _, _, _, _, _, _, _, _, _]) : va_E) = _
    rw [up2_s]; rfl) dX12_init_104 (fun α H locs ha hs28 hv hd hx hm => ?_)
  have e0 := (ha _ _ hL0).trans e0
  have hs0 := sl_k ha hL_61_g0 (hv 7000 _ (Nat.le_of_ble_eq_true rfl) (by decide)) hs0
  have hs1 := sl_k ha hL_62_g0 (hv 7001 _ (Nat.le_of_ble_eq_true rfl) (by decide)) hs1
  have hs2 := sl_k ha hL_63_g0 (hv 7002 _ (Nat.le_of_ble_eq_true rfl) (by decide)) hs2
  have hs3 := sl_k ha hL_64_g0 (hv 7003 _ (Nat.le_of_ble_eq_true rfl) (by decide)) hs3
  have hs4 := sl_k ha hL_65_g0 (hv 7004 _ (Nat.le_of_ble_eq_true rfl) (by decide)) hs4
  have hs6 := sl_k ha hL_66_g0 (hv 7006 _ (Nat.le_of_ble_eq_true rfl) (by decide)) hs6
  have hs7 := sl_k ha hL_67_g0 (hv 7007 _ (Nat.le_of_ble_eq_true rfl) (by decide)) hs7
  have hs8 := sl_k ha hL_68_g0 (hv 7008 _ (Nat.le_of_ble_eq_true rfl) (by decide)) hs8
  have hs22 := sl_k ha hL_69_g0 (hv 7022 _ (Nat.le_of_ble_eq_true rfl) (by decide)) hs22
  have hs24 := sl_k ha hL_70_g0 (hv 7024 _ (Nat.le_of_ble_eq_true rfl) (by decide)) hs24
  have hs25 := sl_k ha hL_71_g0 (hv 7025 _ (Nat.le_of_ble_eq_true rfl) (by decide)) hs25
  refine lv_aload_n hc.x hc.b dX12_init_107 rfl (lv_at hl 0 rfl) ?_
  refine lv_sipush (v := 328) hc.x hc.b dX12_init_108 (by decide) ?_
  refine q_newP (aty := .int) (K := 73) (G := g0) (N := 328) hc hd hx hm hck.1 tw_68 (fun _ => rfl) rfl (by decide) (by decide) (hfr _ (List.mem_cons_of_mem _ (List.mem_cons_of_mem _ (List.mem_cons_of_mem _ (List.mem_cons_of_mem _ (List.mem_cons_of_mem _ (List.mem_cons_of_mem _ (List.mem_cons_of_mem _ (List.mem_cons_of_mem _ (List.mem_cons_self)))))))))) (by simp) (by decide) (by decide) (by decide) ⟨Nat.le_of_ble_eq_true rfl, Nat.le_of_ble_eq_true rfl⟩ dX12_init_111 (fun α Lv H ho ha hv hN hc hd hx hm => ?_)
  obtain ⟨S_14, hd, hf⟩ := nmD hd hf
  have e0 := (ha _ _ hL0).trans e0
  have hs0 := sl_k ha hL_61_g0 (hv 7000 _ (Nat.le_of_ble_eq_true rfl)) hs0
  have hs1 := sl_k ha hL_62_g0 (hv 7001 _ (Nat.le_of_ble_eq_true rfl)) hs1
  have hs2 := sl_k ha hL_63_g0 (hv 7002 _ (Nat.le_of_ble_eq_true rfl)) hs2
  have hs3 := sl_k ha hL_64_g0 (hv 7003 _ (Nat.le_of_ble_eq_true rfl)) hs3
  have hs4 := sl_k ha hL_65_g0 (hv 7004 _ (Nat.le_of_ble_eq_true rfl)) hs4
  have hs6 := sl_k ha hL_66_g0 (hv 7006 _ (Nat.le_of_ble_eq_true rfl)) hs6
  have hs7 := sl_k ha hL_67_g0 (hv 7007 _ (Nat.le_of_ble_eq_true rfl)) hs7
  have hs8 := sl_k ha hL_68_g0 (hv 7008 _ (Nat.le_of_ble_eq_true rfl)) hs8
  have hs22 := sl_k ha hL_69_g0 (hv 7022 _ (Nat.le_of_ble_eq_true rfl)) hs22
  have hs24 := sl_k ha hL_70_g0 (hv 7024 _ (Nat.le_of_ble_eq_true rfl)) hs24
  have hs25 := sl_k ha hL_71_g0 (hv 7025 _ (Nat.le_of_ble_eq_true rfl)) hs25
  have hs28 := sl_k ha hL_72_g0 (hv 7028 _ (Nat.le_of_ble_eq_true rfl)) hs28
  have hL_61_g0 := ho _ _ hL_61_g0
  have hL_62_g0 := ho _ _ hL_62_g0
  have hL_63_g0 := ho _ _ hL_63_g0
  have hL_64_g0 := ho _ _ hL_64_g0
  have hL_65_g0 := ho _ _ hL_65_g0
  have hL_66_g0 := ho _ _ hL_66_g0
  have hL_67_g0 := ho _ _ hL_67_g0
  have hL_68_g0 := ho _ _ hL_68_g0
  have hL_69_g0 := ho _ _ hL_69_g0
  have hL_70_g0 := ho _ _ hL_70_g0
  have hL_71_g0 := ho _ _ hL_71_g0
  have hL_72_g0 := ho _ _ hL_72_g0
  have hL0 := ho _ _ hL0
  have hL_73_g0 := hN
  refine q_putR (K := 160) (V := 7029) (k := 60) (j := 29) (k2 := 73) (i2 := g0) hc hin2 hd hx hm (by decide) rfl rfl (by decide) hL0 e0 hL_73_g0 rfl rfl inX12 tyX12 tyX12_ok nmX12 (by decide) tw_1338 rfl rfl (ty := .array .int) (by decide +kernel) rfl rfl (by show _ < 40; decide) (fun x => by
    show (.inr (12, [_, _, _, _, _, _, _, _, _, _, _, _, _, _, _, _, _, _, _, _, _, _, _, _, _, _, _, _, _, r0 (up2 α 7029 g0 (x + 1) 7029 g0), _, _, _, _, _, _, _, _, _, _]) : va_E) = _
    rw [up2_s]; rfl) dX12_init_113 (fun α H locs ha hs29 hv hd hx hm => ?_)
  have e0 := (ha _ _ hL0).trans e0
  have hs0 := sl_k ha hL_61_g0 (hv 7000 _ (Nat.le_of_ble_eq_true rfl) (by decide)) hs0
  have hs1 := sl_k ha hL_62_g0 (hv 7001 _ (Nat.le_of_ble_eq_true rfl) (by decide)) hs1
  have hs2 := sl_k ha hL_63_g0 (hv 7002 _ (Nat.le_of_ble_eq_true rfl) (by decide)) hs2
  have hs3 := sl_k ha hL_64_g0 (hv 7003 _ (Nat.le_of_ble_eq_true rfl) (by decide)) hs3
  have hs4 := sl_k ha hL_65_g0 (hv 7004 _ (Nat.le_of_ble_eq_true rfl) (by decide)) hs4
  have hs6 := sl_k ha hL_66_g0 (hv 7006 _ (Nat.le_of_ble_eq_true rfl) (by decide)) hs6
  have hs7 := sl_k ha hL_67_g0 (hv 7007 _ (Nat.le_of_ble_eq_true rfl) (by decide)) hs7
  have hs8 := sl_k ha hL_68_g0 (hv 7008 _ (Nat.le_of_ble_eq_true rfl) (by decide)) hs8
  have hs22 := sl_k ha hL_69_g0 (hv 7022 _ (Nat.le_of_ble_eq_true rfl) (by decide)) hs22
  have hs24 := sl_k ha hL_70_g0 (hv 7024 _ (Nat.le_of_ble_eq_true rfl) (by decide)) hs24
  have hs25 := sl_k ha hL_71_g0 (hv 7025 _ (Nat.le_of_ble_eq_true rfl) (by decide)) hs25
  have hs28 := sl_k ha hL_72_g0 (hv 7028 _ (Nat.le_of_ble_eq_true rfl) (by decide)) hs28
  refine lv_aload_n hc.x hc.b dX12_init_116 rfl (lv_at hl 0 rfl) ?_
  refine lv_sipush (v := 328) hc.x hc.b dX12_init_117 (by decide) ?_
  refine q_newP (aty := .long) (K := 74) (G := g0) (N := 328) hc hd hx hm hck.2.1 tw_69 (fun _ => rfl) rfl (by decide) (by decide) (hfr _ (List.mem_cons_of_mem _ (List.mem_cons_of_mem _ (List.mem_cons_of_mem _ (List.mem_cons_of_mem _ (List.mem_cons_of_mem _ (List.mem_cons_of_mem _ (List.mem_cons_of_mem _ (List.mem_cons_self))))))))) (by simp) (by decide) (by decide) (by decide) ⟨Nat.le_of_ble_eq_true rfl, Nat.le_of_ble_eq_true rfl⟩ dX12_init_120 (fun α Lv H ho ha hv hN hc hd hx hm => ?_)
  obtain ⟨S_15, hd, hf⟩ := nmD hd hf
  have e0 := (ha _ _ hL0).trans e0
  have hs0 := sl_k ha hL_61_g0 (hv 7000 _ (Nat.le_of_ble_eq_true rfl)) hs0
  have hs1 := sl_k ha hL_62_g0 (hv 7001 _ (Nat.le_of_ble_eq_true rfl)) hs1
  have hs2 := sl_k ha hL_63_g0 (hv 7002 _ (Nat.le_of_ble_eq_true rfl)) hs2
  have hs3 := sl_k ha hL_64_g0 (hv 7003 _ (Nat.le_of_ble_eq_true rfl)) hs3
  have hs4 := sl_k ha hL_65_g0 (hv 7004 _ (Nat.le_of_ble_eq_true rfl)) hs4
  have hs6 := sl_k ha hL_66_g0 (hv 7006 _ (Nat.le_of_ble_eq_true rfl)) hs6
  have hs7 := sl_k ha hL_67_g0 (hv 7007 _ (Nat.le_of_ble_eq_true rfl)) hs7
  have hs8 := sl_k ha hL_68_g0 (hv 7008 _ (Nat.le_of_ble_eq_true rfl)) hs8
  have hs22 := sl_k ha hL_69_g0 (hv 7022 _ (Nat.le_of_ble_eq_true rfl)) hs22
  have hs24 := sl_k ha hL_70_g0 (hv 7024 _ (Nat.le_of_ble_eq_true rfl)) hs24
  have hs25 := sl_k ha hL_71_g0 (hv 7025 _ (Nat.le_of_ble_eq_true rfl)) hs25
  have hs28 := sl_k ha hL_72_g0 (hv 7028 _ (Nat.le_of_ble_eq_true rfl)) hs28
  have hs29 := sl_k ha hL_73_g0 (hv 7029 _ (Nat.le_of_ble_eq_true rfl)) hs29
  have hL_61_g0 := ho _ _ hL_61_g0
  have hL_62_g0 := ho _ _ hL_62_g0
  have hL_63_g0 := ho _ _ hL_63_g0
  have hL_64_g0 := ho _ _ hL_64_g0
  have hL_65_g0 := ho _ _ hL_65_g0
  have hL_66_g0 := ho _ _ hL_66_g0
  have hL_67_g0 := ho _ _ hL_67_g0
  have hL_68_g0 := ho _ _ hL_68_g0
  have hL_69_g0 := ho _ _ hL_69_g0
  have hL_70_g0 := ho _ _ hL_70_g0
  have hL_71_g0 := ho _ _ hL_71_g0
  have hL_72_g0 := ho _ _ hL_72_g0
  have hL_73_g0 := ho _ _ hL_73_g0
  have hL0 := ho _ _ hL0
  have hL_74_g0 := hN
  refine q_putR (K := 160) (V := 7030) (k := 60) (j := 30) (k2 := 74) (i2 := g0) hc hin2 hd hx hm (by decide) rfl rfl (by decide) hL0 e0 hL_74_g0 rfl rfl inX12 tyX12 tyX12_ok nmX12 (by decide) tw_1339 rfl rfl (ty := .array .long) (by decide +kernel) rfl rfl (by show _ < 40; decide) (fun x => by
    show (.inr (12, [_, _, _, _, _, _, _, _, _, _, _, _, _, _, _, _, _, _, _, _, _, _, _, _, _, _, _, _, _, _, r0 (up2 α 7030 g0 (x + 1) 7030 g0), _, _, _, _, _, _, _, _, _]) : va_E) = _
    rw [up2_s]; rfl) dX12_init_122 (fun α H locs ha hs30 hv hd hx hm => ?_)
  have e0 := (ha _ _ hL0).trans e0
  have hs0 := sl_k ha hL_61_g0 (hv 7000 _ (Nat.le_of_ble_eq_true rfl) (by decide)) hs0
  have hs1 := sl_k ha hL_62_g0 (hv 7001 _ (Nat.le_of_ble_eq_true rfl) (by decide)) hs1
  have hs2 := sl_k ha hL_63_g0 (hv 7002 _ (Nat.le_of_ble_eq_true rfl) (by decide)) hs2
  have hs3 := sl_k ha hL_64_g0 (hv 7003 _ (Nat.le_of_ble_eq_true rfl) (by decide)) hs3
  have hs4 := sl_k ha hL_65_g0 (hv 7004 _ (Nat.le_of_ble_eq_true rfl) (by decide)) hs4
  have hs6 := sl_k ha hL_66_g0 (hv 7006 _ (Nat.le_of_ble_eq_true rfl) (by decide)) hs6
  have hs7 := sl_k ha hL_67_g0 (hv 7007 _ (Nat.le_of_ble_eq_true rfl) (by decide)) hs7
  have hs8 := sl_k ha hL_68_g0 (hv 7008 _ (Nat.le_of_ble_eq_true rfl) (by decide)) hs8
  have hs22 := sl_k ha hL_69_g0 (hv 7022 _ (Nat.le_of_ble_eq_true rfl) (by decide)) hs22
  have hs24 := sl_k ha hL_70_g0 (hv 7024 _ (Nat.le_of_ble_eq_true rfl) (by decide)) hs24
  have hs25 := sl_k ha hL_71_g0 (hv 7025 _ (Nat.le_of_ble_eq_true rfl) (by decide)) hs25
  have hs28 := sl_k ha hL_72_g0 (hv 7028 _ (Nat.le_of_ble_eq_true rfl) (by decide)) hs28
  have hs29 := sl_k ha hL_73_g0 (hv 7029 _ (Nat.le_of_ble_eq_true rfl) (by decide)) hs29
  refine lv_aload_n hc.x hc.b dX12_init_125 rfl (lv_at hl 0 rfl) ?_
  refine lv_sipush (v := 328) hc.x hc.b dX12_init_126 (by decide) ?_
  refine q_newP (aty := .long) (K := 75) (G := g0) (N := 328) hc hd hx hm hck.2.1 tw_69 (fun _ => rfl) rfl (by decide) (by decide) (hfr _ (List.mem_cons_of_mem _ (List.mem_cons_of_mem _ (List.mem_cons_of_mem _ (List.mem_cons_of_mem _ (List.mem_cons_of_mem _ (List.mem_cons_of_mem _ (List.mem_cons_self)))))))) (by simp) (by decide) (by decide) (by decide) ⟨Nat.le_of_ble_eq_true rfl, Nat.le_of_ble_eq_true rfl⟩ dX12_init_129 (fun α Lv H ho ha hv hN hc hd hx hm => ?_)
  obtain ⟨S_16, hd, hf⟩ := nmD hd hf
  have e0 := (ha _ _ hL0).trans e0
  have hs0 := sl_k ha hL_61_g0 (hv 7000 _ (Nat.le_of_ble_eq_true rfl)) hs0
  have hs1 := sl_k ha hL_62_g0 (hv 7001 _ (Nat.le_of_ble_eq_true rfl)) hs1
  have hs2 := sl_k ha hL_63_g0 (hv 7002 _ (Nat.le_of_ble_eq_true rfl)) hs2
  have hs3 := sl_k ha hL_64_g0 (hv 7003 _ (Nat.le_of_ble_eq_true rfl)) hs3
  have hs4 := sl_k ha hL_65_g0 (hv 7004 _ (Nat.le_of_ble_eq_true rfl)) hs4
  have hs6 := sl_k ha hL_66_g0 (hv 7006 _ (Nat.le_of_ble_eq_true rfl)) hs6
  have hs7 := sl_k ha hL_67_g0 (hv 7007 _ (Nat.le_of_ble_eq_true rfl)) hs7
  have hs8 := sl_k ha hL_68_g0 (hv 7008 _ (Nat.le_of_ble_eq_true rfl)) hs8
  have hs22 := sl_k ha hL_69_g0 (hv 7022 _ (Nat.le_of_ble_eq_true rfl)) hs22
  have hs24 := sl_k ha hL_70_g0 (hv 7024 _ (Nat.le_of_ble_eq_true rfl)) hs24
  have hs25 := sl_k ha hL_71_g0 (hv 7025 _ (Nat.le_of_ble_eq_true rfl)) hs25
  have hs28 := sl_k ha hL_72_g0 (hv 7028 _ (Nat.le_of_ble_eq_true rfl)) hs28
  have hs29 := sl_k ha hL_73_g0 (hv 7029 _ (Nat.le_of_ble_eq_true rfl)) hs29
  have hs30 := sl_k ha hL_74_g0 (hv 7030 _ (Nat.le_of_ble_eq_true rfl)) hs30
  have hL_61_g0 := ho _ _ hL_61_g0
  have hL_62_g0 := ho _ _ hL_62_g0
  have hL_63_g0 := ho _ _ hL_63_g0
  have hL_64_g0 := ho _ _ hL_64_g0
  have hL_65_g0 := ho _ _ hL_65_g0
  have hL_66_g0 := ho _ _ hL_66_g0
  have hL_67_g0 := ho _ _ hL_67_g0
  have hL_68_g0 := ho _ _ hL_68_g0
  have hL_69_g0 := ho _ _ hL_69_g0
  have hL_70_g0 := ho _ _ hL_70_g0
  have hL_71_g0 := ho _ _ hL_71_g0
  have hL_72_g0 := ho _ _ hL_72_g0
  have hL_73_g0 := ho _ _ hL_73_g0
  have hL_74_g0 := ho _ _ hL_74_g0
  have hL0 := ho _ _ hL0
  have hL_75_g0 := hN
  refine q_putR (K := 160) (V := 7031) (k := 60) (j := 31) (k2 := 75) (i2 := g0) hc hin2 hd hx hm (by decide) rfl rfl (by decide) hL0 e0 hL_75_g0 rfl rfl inX12 tyX12 tyX12_ok nmX12 (by decide) tw_1340 rfl rfl (ty := .array .long) (by decide +kernel) rfl rfl (by show _ < 40; decide) (fun x => by
    show (.inr (12, [_, _, _, _, _, _, _, _, _, _, _, _, _, _, _, _, _, _, _, _, _, _, _, _, _, _, _, _, _, _, _, r0 (up2 α 7031 g0 (x + 1) 7031 g0), _, _, _, _, _, _, _, _]) : va_E) = _
    rw [up2_s]; rfl) dX12_init_131 (fun α H locs ha hs31 hv hd hx hm => ?_)
  have e0 := (ha _ _ hL0).trans e0
  have hs0 := sl_k ha hL_61_g0 (hv 7000 _ (Nat.le_of_ble_eq_true rfl) (by decide)) hs0
  have hs1 := sl_k ha hL_62_g0 (hv 7001 _ (Nat.le_of_ble_eq_true rfl) (by decide)) hs1
  have hs2 := sl_k ha hL_63_g0 (hv 7002 _ (Nat.le_of_ble_eq_true rfl) (by decide)) hs2
  have hs3 := sl_k ha hL_64_g0 (hv 7003 _ (Nat.le_of_ble_eq_true rfl) (by decide)) hs3
  have hs4 := sl_k ha hL_65_g0 (hv 7004 _ (Nat.le_of_ble_eq_true rfl) (by decide)) hs4
  have hs6 := sl_k ha hL_66_g0 (hv 7006 _ (Nat.le_of_ble_eq_true rfl) (by decide)) hs6
  have hs7 := sl_k ha hL_67_g0 (hv 7007 _ (Nat.le_of_ble_eq_true rfl) (by decide)) hs7
  have hs8 := sl_k ha hL_68_g0 (hv 7008 _ (Nat.le_of_ble_eq_true rfl) (by decide)) hs8
  have hs22 := sl_k ha hL_69_g0 (hv 7022 _ (Nat.le_of_ble_eq_true rfl) (by decide)) hs22
  have hs24 := sl_k ha hL_70_g0 (hv 7024 _ (Nat.le_of_ble_eq_true rfl) (by decide)) hs24
  have hs25 := sl_k ha hL_71_g0 (hv 7025 _ (Nat.le_of_ble_eq_true rfl) (by decide)) hs25
  have hs28 := sl_k ha hL_72_g0 (hv 7028 _ (Nat.le_of_ble_eq_true rfl) (by decide)) hs28
  have hs29 := sl_k ha hL_73_g0 (hv 7029 _ (Nat.le_of_ble_eq_true rfl) (by decide)) hs29
  have hs30 := sl_k ha hL_74_g0 (hv 7030 _ (Nat.le_of_ble_eq_true rfl) (by decide)) hs30
  refine lv_aload_n hc.x hc.b dX12_init_134 rfl (lv_at hl 0 rfl) ?_
  refine lv_sipush (v := 128) hc.x hc.b dX12_init_135 (by decide) ?_
  refine q_newP (aty := .int) (K := 76) (G := g0) (N := 128) hc hd hx hm hck.1 tw_68 (fun _ => rfl) rfl (by decide) (by decide) (hfr _ (List.mem_cons_of_mem _ (List.mem_cons_of_mem _ (List.mem_cons_of_mem _ (List.mem_cons_of_mem _ (List.mem_cons_of_mem _ (List.mem_cons_self))))))) (by simp) (by decide) (by decide) (by decide) ⟨Nat.le_of_ble_eq_true rfl, Nat.le_of_ble_eq_true rfl⟩ dX12_init_138 (fun α Lv H ho ha hv hN hc hd hx hm => ?_)
  obtain ⟨S_17, hd, hf⟩ := nmD hd hf
  have e0 := (ha _ _ hL0).trans e0
  have hs0 := sl_k ha hL_61_g0 (hv 7000 _ (Nat.le_of_ble_eq_true rfl)) hs0
  have hs1 := sl_k ha hL_62_g0 (hv 7001 _ (Nat.le_of_ble_eq_true rfl)) hs1
  have hs2 := sl_k ha hL_63_g0 (hv 7002 _ (Nat.le_of_ble_eq_true rfl)) hs2
  have hs3 := sl_k ha hL_64_g0 (hv 7003 _ (Nat.le_of_ble_eq_true rfl)) hs3
  have hs4 := sl_k ha hL_65_g0 (hv 7004 _ (Nat.le_of_ble_eq_true rfl)) hs4
  have hs6 := sl_k ha hL_66_g0 (hv 7006 _ (Nat.le_of_ble_eq_true rfl)) hs6
  have hs7 := sl_k ha hL_67_g0 (hv 7007 _ (Nat.le_of_ble_eq_true rfl)) hs7
  have hs8 := sl_k ha hL_68_g0 (hv 7008 _ (Nat.le_of_ble_eq_true rfl)) hs8
  have hs22 := sl_k ha hL_69_g0 (hv 7022 _ (Nat.le_of_ble_eq_true rfl)) hs22
  have hs24 := sl_k ha hL_70_g0 (hv 7024 _ (Nat.le_of_ble_eq_true rfl)) hs24
  have hs25 := sl_k ha hL_71_g0 (hv 7025 _ (Nat.le_of_ble_eq_true rfl)) hs25
  have hs28 := sl_k ha hL_72_g0 (hv 7028 _ (Nat.le_of_ble_eq_true rfl)) hs28
  have hs29 := sl_k ha hL_73_g0 (hv 7029 _ (Nat.le_of_ble_eq_true rfl)) hs29
  have hs30 := sl_k ha hL_74_g0 (hv 7030 _ (Nat.le_of_ble_eq_true rfl)) hs30
  have hs31 := sl_k ha hL_75_g0 (hv 7031 _ (Nat.le_of_ble_eq_true rfl)) hs31
  have hL_61_g0 := ho _ _ hL_61_g0
  have hL_62_g0 := ho _ _ hL_62_g0
  have hL_63_g0 := ho _ _ hL_63_g0
  have hL_64_g0 := ho _ _ hL_64_g0
  have hL_65_g0 := ho _ _ hL_65_g0
  have hL_66_g0 := ho _ _ hL_66_g0
  have hL_67_g0 := ho _ _ hL_67_g0
  have hL_68_g0 := ho _ _ hL_68_g0
  have hL_69_g0 := ho _ _ hL_69_g0
  have hL_70_g0 := ho _ _ hL_70_g0
  have hL_71_g0 := ho _ _ hL_71_g0
  have hL_72_g0 := ho _ _ hL_72_g0
  have hL_73_g0 := ho _ _ hL_73_g0
  have hL_74_g0 := ho _ _ hL_74_g0
  have hL_75_g0 := ho _ _ hL_75_g0
  have hL0 := ho _ _ hL0
  have hL_76_g0 := hN
  refine q_putR (K := 160) (V := 7032) (k := 60) (j := 32) (k2 := 76) (i2 := g0) hc hin2 hd hx hm (by decide) rfl rfl (by decide) hL0 e0 hL_76_g0 rfl rfl inX12 tyX12 tyX12_ok nmX12 (by decide) tw_1341 rfl rfl (ty := .array .int) (by decide +kernel) rfl rfl (by show _ < 40; decide) (fun x => by
    show (.inr (12, [_, _, _, _, _, _, _, _, _, _, _, _, _, _, _, _, _, _, _, _, _, _, _, _, _, _, _, _, _, _, _, _, r0 (up2 α 7032 g0 (x + 1) 7032 g0), _, _, _, _, _, _, _]) : va_E) = _
    rw [up2_s]; rfl) dX12_init_140 (fun α H locs ha hs32 hv hd hx hm => ?_)
  have e0 := (ha _ _ hL0).trans e0
  have hs0 := sl_k ha hL_61_g0 (hv 7000 _ (Nat.le_of_ble_eq_true rfl) (by decide)) hs0
  have hs1 := sl_k ha hL_62_g0 (hv 7001 _ (Nat.le_of_ble_eq_true rfl) (by decide)) hs1
  have hs2 := sl_k ha hL_63_g0 (hv 7002 _ (Nat.le_of_ble_eq_true rfl) (by decide)) hs2
  have hs3 := sl_k ha hL_64_g0 (hv 7003 _ (Nat.le_of_ble_eq_true rfl) (by decide)) hs3
  have hs4 := sl_k ha hL_65_g0 (hv 7004 _ (Nat.le_of_ble_eq_true rfl) (by decide)) hs4
  have hs6 := sl_k ha hL_66_g0 (hv 7006 _ (Nat.le_of_ble_eq_true rfl) (by decide)) hs6
  have hs7 := sl_k ha hL_67_g0 (hv 7007 _ (Nat.le_of_ble_eq_true rfl) (by decide)) hs7
  have hs8 := sl_k ha hL_68_g0 (hv 7008 _ (Nat.le_of_ble_eq_true rfl) (by decide)) hs8
  have hs22 := sl_k ha hL_69_g0 (hv 7022 _ (Nat.le_of_ble_eq_true rfl) (by decide)) hs22
  have hs24 := sl_k ha hL_70_g0 (hv 7024 _ (Nat.le_of_ble_eq_true rfl) (by decide)) hs24
  have hs25 := sl_k ha hL_71_g0 (hv 7025 _ (Nat.le_of_ble_eq_true rfl) (by decide)) hs25
  have hs28 := sl_k ha hL_72_g0 (hv 7028 _ (Nat.le_of_ble_eq_true rfl) (by decide)) hs28
  have hs29 := sl_k ha hL_73_g0 (hv 7029 _ (Nat.le_of_ble_eq_true rfl) (by decide)) hs29
  have hs30 := sl_k ha hL_74_g0 (hv 7030 _ (Nat.le_of_ble_eq_true rfl) (by decide)) hs30
  have hs31 := sl_k ha hL_75_g0 (hv 7031 _ (Nat.le_of_ble_eq_true rfl) (by decide)) hs31
  refine lv_aload_n hc.x hc.b dX12_init_143 rfl (lv_at hl 0 rfl) ?_
  refine lv_sipush (v := 377) hc.x hc.b dX12_init_144 (by decide) ?_
  refine q_newP (aty := .int) (K := 77) (G := g0) (N := 377) hc hd hx hm hck.1 tw_68 (fun _ => rfl) rfl (by decide) (by decide) (hfr _ (List.mem_cons_of_mem _ (List.mem_cons_of_mem _ (List.mem_cons_of_mem _ (List.mem_cons_of_mem _ (List.mem_cons_self)))))) (by simp) (by decide) (by decide) (by decide) ⟨Nat.le_of_ble_eq_true rfl, Nat.le_of_ble_eq_true rfl⟩ dX12_init_147 (fun α Lv H ho ha hv hN hc hd hx hm => ?_)
  obtain ⟨S_18, hd, hf⟩ := nmD hd hf
  have e0 := (ha _ _ hL0).trans e0
  have hs0 := sl_k ha hL_61_g0 (hv 7000 _ (Nat.le_of_ble_eq_true rfl)) hs0
  have hs1 := sl_k ha hL_62_g0 (hv 7001 _ (Nat.le_of_ble_eq_true rfl)) hs1
  have hs2 := sl_k ha hL_63_g0 (hv 7002 _ (Nat.le_of_ble_eq_true rfl)) hs2
  have hs3 := sl_k ha hL_64_g0 (hv 7003 _ (Nat.le_of_ble_eq_true rfl)) hs3
  have hs4 := sl_k ha hL_65_g0 (hv 7004 _ (Nat.le_of_ble_eq_true rfl)) hs4
  have hs6 := sl_k ha hL_66_g0 (hv 7006 _ (Nat.le_of_ble_eq_true rfl)) hs6
  have hs7 := sl_k ha hL_67_g0 (hv 7007 _ (Nat.le_of_ble_eq_true rfl)) hs7
  have hs8 := sl_k ha hL_68_g0 (hv 7008 _ (Nat.le_of_ble_eq_true rfl)) hs8
  have hs22 := sl_k ha hL_69_g0 (hv 7022 _ (Nat.le_of_ble_eq_true rfl)) hs22
  have hs24 := sl_k ha hL_70_g0 (hv 7024 _ (Nat.le_of_ble_eq_true rfl)) hs24
  have hs25 := sl_k ha hL_71_g0 (hv 7025 _ (Nat.le_of_ble_eq_true rfl)) hs25
  have hs28 := sl_k ha hL_72_g0 (hv 7028 _ (Nat.le_of_ble_eq_true rfl)) hs28
  have hs29 := sl_k ha hL_73_g0 (hv 7029 _ (Nat.le_of_ble_eq_true rfl)) hs29
  have hs30 := sl_k ha hL_74_g0 (hv 7030 _ (Nat.le_of_ble_eq_true rfl)) hs30
  have hs31 := sl_k ha hL_75_g0 (hv 7031 _ (Nat.le_of_ble_eq_true rfl)) hs31
  have hs32 := sl_k ha hL_76_g0 (hv 7032 _ (Nat.le_of_ble_eq_true rfl)) hs32
  have hL_61_g0 := ho _ _ hL_61_g0
  have hL_62_g0 := ho _ _ hL_62_g0
  have hL_63_g0 := ho _ _ hL_63_g0
  have hL_64_g0 := ho _ _ hL_64_g0
  have hL_65_g0 := ho _ _ hL_65_g0
  have hL_66_g0 := ho _ _ hL_66_g0
  have hL_67_g0 := ho _ _ hL_67_g0
  have hL_68_g0 := ho _ _ hL_68_g0
  have hL_69_g0 := ho _ _ hL_69_g0
  have hL_70_g0 := ho _ _ hL_70_g0
  have hL_71_g0 := ho _ _ hL_71_g0
  have hL_72_g0 := ho _ _ hL_72_g0
  have hL_73_g0 := ho _ _ hL_73_g0
  have hL_74_g0 := ho _ _ hL_74_g0
  have hL_75_g0 := ho _ _ hL_75_g0
  have hL_76_g0 := ho _ _ hL_76_g0
  have hL0 := ho _ _ hL0
  have hL_77_g0 := hN
  refine q_putR (K := 160) (V := 7036) (k := 60) (j := 36) (k2 := 77) (i2 := g0) hc hin2 hd hx hm (by decide) rfl rfl (by decide) hL0 e0 hL_77_g0 rfl rfl inX12 tyX12 tyX12_ok nmX12 (by decide) tw_1345 rfl rfl (ty := .array .int) (by decide +kernel) rfl rfl (by show _ < 40; decide) (fun x => by
    show (.inr (12, [_, _, _, _, _, _, _, _, _, _, _, _, _, _, _, _, _, _, _, _, _, _, _, _, _, _, _, _, _, _, _, _, _, _, _, _, r0 (up2 α 7036 g0 (x + 1) 7036 g0), _, _, _]) : va_E) = _
    rw [up2_s]; rfl) dX12_init_149 (fun α H locs ha hs36 hv hd hx hm => ?_)
  have e0 := (ha _ _ hL0).trans e0
  have hs0 := sl_k ha hL_61_g0 (hv 7000 _ (Nat.le_of_ble_eq_true rfl) (by decide)) hs0
  have hs1 := sl_k ha hL_62_g0 (hv 7001 _ (Nat.le_of_ble_eq_true rfl) (by decide)) hs1
  have hs2 := sl_k ha hL_63_g0 (hv 7002 _ (Nat.le_of_ble_eq_true rfl) (by decide)) hs2
  have hs3 := sl_k ha hL_64_g0 (hv 7003 _ (Nat.le_of_ble_eq_true rfl) (by decide)) hs3
  have hs4 := sl_k ha hL_65_g0 (hv 7004 _ (Nat.le_of_ble_eq_true rfl) (by decide)) hs4
  have hs6 := sl_k ha hL_66_g0 (hv 7006 _ (Nat.le_of_ble_eq_true rfl) (by decide)) hs6
  have hs7 := sl_k ha hL_67_g0 (hv 7007 _ (Nat.le_of_ble_eq_true rfl) (by decide)) hs7
  have hs8 := sl_k ha hL_68_g0 (hv 7008 _ (Nat.le_of_ble_eq_true rfl) (by decide)) hs8
  have hs22 := sl_k ha hL_69_g0 (hv 7022 _ (Nat.le_of_ble_eq_true rfl) (by decide)) hs22
  have hs24 := sl_k ha hL_70_g0 (hv 7024 _ (Nat.le_of_ble_eq_true rfl) (by decide)) hs24
  have hs25 := sl_k ha hL_71_g0 (hv 7025 _ (Nat.le_of_ble_eq_true rfl) (by decide)) hs25
  have hs28 := sl_k ha hL_72_g0 (hv 7028 _ (Nat.le_of_ble_eq_true rfl) (by decide)) hs28
  have hs29 := sl_k ha hL_73_g0 (hv 7029 _ (Nat.le_of_ble_eq_true rfl) (by decide)) hs29
  have hs30 := sl_k ha hL_74_g0 (hv 7030 _ (Nat.le_of_ble_eq_true rfl) (by decide)) hs30
  have hs31 := sl_k ha hL_75_g0 (hv 7031 _ (Nat.le_of_ble_eq_true rfl) (by decide)) hs31
  have hs32 := sl_k ha hL_76_g0 (hv 7032 _ (Nat.le_of_ble_eq_true rfl) (by decide)) hs32
  refine lv_aload_n hc.x hc.b dX12_init_152 rfl (lv_at hl 0 rfl) ?_
  refine lv_iconst (v := 4) hc.x hc.b dX12_init_153 (by decide) ?_
  refine q_newP (aty := .int) (K := 78) (G := g0) (N := 4) hc hd hx hm hck.1 tw_68 (fun _ => rfl) rfl (by decide) (by decide) (hfr _ (List.mem_cons_of_mem _ (List.mem_cons_of_mem _ (List.mem_cons_of_mem _ (List.mem_cons_self))))) (by simp) (by decide) (by decide) (by decide) ⟨Nat.le_of_ble_eq_true rfl, Nat.le_of_ble_eq_true rfl⟩ dX12_init_154 (fun α Lv H ho ha hv hN hc hd hx hm => ?_)
  obtain ⟨S_19, hd, hf⟩ := nmD hd hf
  have e0 := (ha _ _ hL0).trans e0
  have hs0 := sl_k ha hL_61_g0 (hv 7000 _ (Nat.le_of_ble_eq_true rfl)) hs0
  have hs1 := sl_k ha hL_62_g0 (hv 7001 _ (Nat.le_of_ble_eq_true rfl)) hs1
  have hs2 := sl_k ha hL_63_g0 (hv 7002 _ (Nat.le_of_ble_eq_true rfl)) hs2
  have hs3 := sl_k ha hL_64_g0 (hv 7003 _ (Nat.le_of_ble_eq_true rfl)) hs3
  have hs4 := sl_k ha hL_65_g0 (hv 7004 _ (Nat.le_of_ble_eq_true rfl)) hs4
  have hs6 := sl_k ha hL_66_g0 (hv 7006 _ (Nat.le_of_ble_eq_true rfl)) hs6
  have hs7 := sl_k ha hL_67_g0 (hv 7007 _ (Nat.le_of_ble_eq_true rfl)) hs7
  have hs8 := sl_k ha hL_68_g0 (hv 7008 _ (Nat.le_of_ble_eq_true rfl)) hs8
  have hs22 := sl_k ha hL_69_g0 (hv 7022 _ (Nat.le_of_ble_eq_true rfl)) hs22
  have hs24 := sl_k ha hL_70_g0 (hv 7024 _ (Nat.le_of_ble_eq_true rfl)) hs24
  have hs25 := sl_k ha hL_71_g0 (hv 7025 _ (Nat.le_of_ble_eq_true rfl)) hs25
  have hs28 := sl_k ha hL_72_g0 (hv 7028 _ (Nat.le_of_ble_eq_true rfl)) hs28
  have hs29 := sl_k ha hL_73_g0 (hv 7029 _ (Nat.le_of_ble_eq_true rfl)) hs29
  have hs30 := sl_k ha hL_74_g0 (hv 7030 _ (Nat.le_of_ble_eq_true rfl)) hs30
  have hs31 := sl_k ha hL_75_g0 (hv 7031 _ (Nat.le_of_ble_eq_true rfl)) hs31
  have hs32 := sl_k ha hL_76_g0 (hv 7032 _ (Nat.le_of_ble_eq_true rfl)) hs32
  have hs36 := sl_k ha hL_77_g0 (hv 7036 _ (Nat.le_of_ble_eq_true rfl)) hs36
  have hL_61_g0 := ho _ _ hL_61_g0
  have hL_62_g0 := ho _ _ hL_62_g0
  have hL_63_g0 := ho _ _ hL_63_g0
  have hL_64_g0 := ho _ _ hL_64_g0
  have hL_65_g0 := ho _ _ hL_65_g0
  have hL_66_g0 := ho _ _ hL_66_g0
  have hL_67_g0 := ho _ _ hL_67_g0
  have hL_68_g0 := ho _ _ hL_68_g0
  have hL_69_g0 := ho _ _ hL_69_g0
  have hL_70_g0 := ho _ _ hL_70_g0
  have hL_71_g0 := ho _ _ hL_71_g0
  have hL_72_g0 := ho _ _ hL_72_g0
  have hL_73_g0 := ho _ _ hL_73_g0
  have hL_74_g0 := ho _ _ hL_74_g0
  have hL_75_g0 := ho _ _ hL_75_g0
  have hL_76_g0 := ho _ _ hL_76_g0
  have hL_77_g0 := ho _ _ hL_77_g0
  have hL0 := ho _ _ hL0
  have hL_78_g0 := hN
  refine lv_dup hc.x hc.b dX12_init_156 rfl ?_
  refine lv_iconst (v := 0) hc.x hc.b dX12_init_157 (by decide) ?_
  refine lv_iconst (v := (-1)) hc.x hc.b dX12_init_158 (by decide) ?_
  refine r_iast hc hd hL_78_g0 (fun _ => rfl) (by decide) dX12_init_159 (fun H locs hd => ?_)
  obtain ⟨S_20, hd, hf⟩ := nmD hd hf
  refine lv_dup hc.x hc.b dX12_init_160 rfl ?_
  refine lv_iconst (v := 1) hc.x hc.b dX12_init_161 (by decide) ?_
  refine lv_iconst (v := (-1)) hc.x hc.b dX12_init_162 (by decide) ?_
  refine r_iast hc hd hL_78_g0 (fun _ => rfl) (by decide) dX12_init_163 (fun H locs hd => ?_)
  obtain ⟨S_21, hd, hf⟩ := nmD hd hf
  refine lv_dup hc.x hc.b dX12_init_164 rfl ?_
  refine lv_iconst (v := 2) hc.x hc.b dX12_init_165 (by decide) ?_
  refine lv_iconst (v := (-1)) hc.x hc.b dX12_init_166 (by decide) ?_
  refine r_iast hc hd hL_78_g0 (fun _ => rfl) (by decide) dX12_init_167 (fun H locs hd => ?_)
  obtain ⟨S_22, hd, hf⟩ := nmD hd hf
  refine lv_dup hc.x hc.b dX12_init_168 rfl ?_
  refine lv_iconst (v := 3) hc.x hc.b dX12_init_169 (by decide) ?_
  refine lv_iconst (v := (-1)) hc.x hc.b dX12_init_170 (by decide) ?_
  refine r_iast hc hd hL_78_g0 (fun _ => rfl) (by decide) dX12_init_171 (fun H locs hd => ?_)
  obtain ⟨S_23, hd, hf⟩ := nmD hd hf
  refine q_putR (K := 160) (V := 7037) (k := 60) (j := 37) (k2 := 78) (i2 := g0) hc hin2 hd hx hm (by decide) rfl rfl (by decide) hL0 e0 hL_78_g0 rfl rfl inX12 tyX12 tyX12_ok nmX12 (by decide) tw_1346 rfl rfl (ty := .array .int) (by decide +kernel) rfl rfl (by show _ < 40; decide) (fun x => by
    show (.inr (12, [_, _, _, _, _, _, _, _, _, _, _, _, _, _, _, _, _, _, _, _, _, _, _, _, _, _, _, _, _, _, _, _, _, _, _, _, _, r0 (up2 α 7037 g0 (x + 1) 7037 g0), _, _]) : va_E) = _
    rw [up2_s]; rfl) dX12_init_172 (fun α H locs ha hs37 hv hd hx hm => ?_)
  have e0 := (ha _ _ hL0).trans e0
  have hs0 := sl_k ha hL_61_g0 (hv 7000 _ (Nat.le_of_ble_eq_true rfl) (by decide)) hs0
  have hs1 := sl_k ha hL_62_g0 (hv 7001 _ (Nat.le_of_ble_eq_true rfl) (by decide)) hs1
  have hs2 := sl_k ha hL_63_g0 (hv 7002 _ (Nat.le_of_ble_eq_true rfl) (by decide)) hs2
  have hs3 := sl_k ha hL_64_g0 (hv 7003 _ (Nat.le_of_ble_eq_true rfl) (by decide)) hs3
  have hs4 := sl_k ha hL_65_g0 (hv 7004 _ (Nat.le_of_ble_eq_true rfl) (by decide)) hs4
  have hs6 := sl_k ha hL_66_g0 (hv 7006 _ (Nat.le_of_ble_eq_true rfl) (by decide)) hs6
  have hs7 := sl_k ha hL_67_g0 (hv 7007 _ (Nat.le_of_ble_eq_true rfl) (by decide)) hs7
  have hs8 := sl_k ha hL_68_g0 (hv 7008 _ (Nat.le_of_ble_eq_true rfl) (by decide)) hs8
  have hs22 := sl_k ha hL_69_g0 (hv 7022 _ (Nat.le_of_ble_eq_true rfl) (by decide)) hs22
  have hs24 := sl_k ha hL_70_g0 (hv 7024 _ (Nat.le_of_ble_eq_true rfl) (by decide)) hs24
  have hs25 := sl_k ha hL_71_g0 (hv 7025 _ (Nat.le_of_ble_eq_true rfl) (by decide)) hs25
  have hs28 := sl_k ha hL_72_g0 (hv 7028 _ (Nat.le_of_ble_eq_true rfl) (by decide)) hs28
  have hs29 := sl_k ha hL_73_g0 (hv 7029 _ (Nat.le_of_ble_eq_true rfl) (by decide)) hs29
  have hs30 := sl_k ha hL_74_g0 (hv 7030 _ (Nat.le_of_ble_eq_true rfl) (by decide)) hs30
  have hs31 := sl_k ha hL_75_g0 (hv 7031 _ (Nat.le_of_ble_eq_true rfl) (by decide)) hs31
  have hs32 := sl_k ha hL_76_g0 (hv 7032 _ (Nat.le_of_ble_eq_true rfl) (by decide)) hs32
  have hs36 := sl_k ha hL_77_g0 (hv 7036 _ (Nat.le_of_ble_eq_true rfl) (by decide)) hs36
  refine lv_aload_n hc.x hc.b dX12_init_175 rfl (lv_at hl 0 rfl) ?_
  refine lv_iconst (v := 4) hc.x hc.b dX12_init_176 (by decide) ?_
  refine q_newP (aty := .int) (K := 79) (G := g0) (N := 4) hc hd hx hm hck.1 tw_68 (fun _ => rfl) rfl (by decide) (by decide) (hfr _ (List.mem_cons_of_mem _ (List.mem_cons_of_mem _ (List.mem_cons_self)))) (by simp) (by decide) (by decide) (by decide) ⟨Nat.le_of_ble_eq_true rfl, Nat.le_of_ble_eq_true rfl⟩ dX12_init_177 (fun α Lv H ho ha hv hN hc hd hx hm => ?_)
  obtain ⟨S_24, hd, hf⟩ := nmD hd hf
  have e0 := (ha _ _ hL0).trans e0
  have hs0 := sl_k ha hL_61_g0 (hv 7000 _ (Nat.le_of_ble_eq_true rfl)) hs0
  have hs1 := sl_k ha hL_62_g0 (hv 7001 _ (Nat.le_of_ble_eq_true rfl)) hs1
  have hs2 := sl_k ha hL_63_g0 (hv 7002 _ (Nat.le_of_ble_eq_true rfl)) hs2
  have hs3 := sl_k ha hL_64_g0 (hv 7003 _ (Nat.le_of_ble_eq_true rfl)) hs3
  have hs4 := sl_k ha hL_65_g0 (hv 7004 _ (Nat.le_of_ble_eq_true rfl)) hs4
  have hs6 := sl_k ha hL_66_g0 (hv 7006 _ (Nat.le_of_ble_eq_true rfl)) hs6
  have hs7 := sl_k ha hL_67_g0 (hv 7007 _ (Nat.le_of_ble_eq_true rfl)) hs7
  have hs8 := sl_k ha hL_68_g0 (hv 7008 _ (Nat.le_of_ble_eq_true rfl)) hs8
  have hs22 := sl_k ha hL_69_g0 (hv 7022 _ (Nat.le_of_ble_eq_true rfl)) hs22
  have hs24 := sl_k ha hL_70_g0 (hv 7024 _ (Nat.le_of_ble_eq_true rfl)) hs24
  have hs25 := sl_k ha hL_71_g0 (hv 7025 _ (Nat.le_of_ble_eq_true rfl)) hs25
  have hs28 := sl_k ha hL_72_g0 (hv 7028 _ (Nat.le_of_ble_eq_true rfl)) hs28
  have hs29 := sl_k ha hL_73_g0 (hv 7029 _ (Nat.le_of_ble_eq_true rfl)) hs29
  have hs30 := sl_k ha hL_74_g0 (hv 7030 _ (Nat.le_of_ble_eq_true rfl)) hs30
  have hs31 := sl_k ha hL_75_g0 (hv 7031 _ (Nat.le_of_ble_eq_true rfl)) hs31
  have hs32 := sl_k ha hL_76_g0 (hv 7032 _ (Nat.le_of_ble_eq_true rfl)) hs32
  have hs36 := sl_k ha hL_77_g0 (hv 7036 _ (Nat.le_of_ble_eq_true rfl)) hs36
  have hs37 := sl_k ha hL_78_g0 (hv 7037 _ (Nat.le_of_ble_eq_true rfl)) hs37
  have hL_61_g0 := ho _ _ hL_61_g0
  have hL_62_g0 := ho _ _ hL_62_g0
  have hL_63_g0 := ho _ _ hL_63_g0
  have hL_64_g0 := ho _ _ hL_64_g0
  have hL_65_g0 := ho _ _ hL_65_g0
  have hL_66_g0 := ho _ _ hL_66_g0
  have hL_67_g0 := ho _ _ hL_67_g0
  have hL_68_g0 := ho _ _ hL_68_g0
  have hL_69_g0 := ho _ _ hL_69_g0
  have hL_70_g0 := ho _ _ hL_70_g0
  have hL_71_g0 := ho _ _ hL_71_g0
  have hL_72_g0 := ho _ _ hL_72_g0
  have hL_73_g0 := ho _ _ hL_73_g0
  have hL_74_g0 := ho _ _ hL_74_g0
  have hL_75_g0 := ho _ _ hL_75_g0
  have hL_76_g0 := ho _ _ hL_76_g0
  have hL_77_g0 := ho _ _ hL_77_g0
  have hL_78_g0 := ho _ _ hL_78_g0
  have hL0 := ho _ _ hL0
  have hL_79_g0 := hN
  refine q_putR (K := 160) (V := 7038) (k := 60) (j := 38) (k2 := 79) (i2 := g0) hc hin2 hd hx hm (by decide) rfl rfl (by decide) hL0 e0 hL_79_g0 rfl rfl inX12 tyX12 tyX12_ok nmX12 (by decide) tw_1347 rfl rfl (ty := .array .int) (by decide +kernel) rfl rfl (by show _ < 40; decide) (fun x => by
    show (.inr (12, [_, _, _, _, _, _, _, _, _, _, _, _, _, _, _, _, _, _, _, _, _, _, _, _, _, _, _, _, _, _, _, _, _, _, _, _, _, _, r0 (up2 α 7038 g0 (x + 1) 7038 g0), _]) : va_E) = _
    rw [up2_s]; rfl) dX12_init_179 (fun α H locs ha hs38 hv hd hx hm => ?_)
  have e0 := (ha _ _ hL0).trans e0
  have hs0 := sl_k ha hL_61_g0 (hv 7000 _ (Nat.le_of_ble_eq_true rfl) (by decide)) hs0
  have hs1 := sl_k ha hL_62_g0 (hv 7001 _ (Nat.le_of_ble_eq_true rfl) (by decide)) hs1
  have hs2 := sl_k ha hL_63_g0 (hv 7002 _ (Nat.le_of_ble_eq_true rfl) (by decide)) hs2
  have hs3 := sl_k ha hL_64_g0 (hv 7003 _ (Nat.le_of_ble_eq_true rfl) (by decide)) hs3
  have hs4 := sl_k ha hL_65_g0 (hv 7004 _ (Nat.le_of_ble_eq_true rfl) (by decide)) hs4
  have hs6 := sl_k ha hL_66_g0 (hv 7006 _ (Nat.le_of_ble_eq_true rfl) (by decide)) hs6
  have hs7 := sl_k ha hL_67_g0 (hv 7007 _ (Nat.le_of_ble_eq_true rfl) (by decide)) hs7
  have hs8 := sl_k ha hL_68_g0 (hv 7008 _ (Nat.le_of_ble_eq_true rfl) (by decide)) hs8
  have hs22 := sl_k ha hL_69_g0 (hv 7022 _ (Nat.le_of_ble_eq_true rfl) (by decide)) hs22
  have hs24 := sl_k ha hL_70_g0 (hv 7024 _ (Nat.le_of_ble_eq_true rfl) (by decide)) hs24
  have hs25 := sl_k ha hL_71_g0 (hv 7025 _ (Nat.le_of_ble_eq_true rfl) (by decide)) hs25
  have hs28 := sl_k ha hL_72_g0 (hv 7028 _ (Nat.le_of_ble_eq_true rfl) (by decide)) hs28
  have hs29 := sl_k ha hL_73_g0 (hv 7029 _ (Nat.le_of_ble_eq_true rfl) (by decide)) hs29
  have hs30 := sl_k ha hL_74_g0 (hv 7030 _ (Nat.le_of_ble_eq_true rfl) (by decide)) hs30
  have hs31 := sl_k ha hL_75_g0 (hv 7031 _ (Nat.le_of_ble_eq_true rfl) (by decide)) hs31
  have hs32 := sl_k ha hL_76_g0 (hv 7032 _ (Nat.le_of_ble_eq_true rfl) (by decide)) hs32
  have hs36 := sl_k ha hL_77_g0 (hv 7036 _ (Nat.le_of_ble_eq_true rfl) (by decide)) hs36
  have hs37 := sl_k ha hL_78_g0 (hv 7037 _ (Nat.le_of_ble_eq_true rfl) (by decide)) hs37
  refine lv_aload_n hc.x hc.b dX12_init_182 rfl (lv_at hl 0 rfl) ?_
  refine lv_bipush (v := 112) hc.x hc.b dX12_init_183 (by decide) ?_
  refine q_newP (aty := .long) (K := 80) (G := g0) (N := 112) hc hd hx hm hck.2.1 tw_69 (fun _ => rfl) rfl (by decide) (by decide) (hfr _ (List.mem_cons_of_mem _ (List.mem_cons_self))) (by simp) (by decide) (by decide) (by decide) ⟨Nat.le_of_ble_eq_true rfl, Nat.le_of_ble_eq_true rfl⟩ dX12_init_185 (fun α Lv H ho ha hv hN hc hd hx hm => ?_)
  obtain ⟨S_25, hd, hf⟩ := nmD hd hf
  have e0 := (ha _ _ hL0).trans e0
  have hs0 := sl_k ha hL_61_g0 (hv 7000 _ (Nat.le_of_ble_eq_true rfl)) hs0
  have hs1 := sl_k ha hL_62_g0 (hv 7001 _ (Nat.le_of_ble_eq_true rfl)) hs1
  have hs2 := sl_k ha hL_63_g0 (hv 7002 _ (Nat.le_of_ble_eq_true rfl)) hs2
  have hs3 := sl_k ha hL_64_g0 (hv 7003 _ (Nat.le_of_ble_eq_true rfl)) hs3
  have hs4 := sl_k ha hL_65_g0 (hv 7004 _ (Nat.le_of_ble_eq_true rfl)) hs4
  have hs6 := sl_k ha hL_66_g0 (hv 7006 _ (Nat.le_of_ble_eq_true rfl)) hs6
  have hs7 := sl_k ha hL_67_g0 (hv 7007 _ (Nat.le_of_ble_eq_true rfl)) hs7
  have hs8 := sl_k ha hL_68_g0 (hv 7008 _ (Nat.le_of_ble_eq_true rfl)) hs8
  have hs22 := sl_k ha hL_69_g0 (hv 7022 _ (Nat.le_of_ble_eq_true rfl)) hs22
  have hs24 := sl_k ha hL_70_g0 (hv 7024 _ (Nat.le_of_ble_eq_true rfl)) hs24
  have hs25 := sl_k ha hL_71_g0 (hv 7025 _ (Nat.le_of_ble_eq_true rfl)) hs25
  have hs28 := sl_k ha hL_72_g0 (hv 7028 _ (Nat.le_of_ble_eq_true rfl)) hs28
  have hs29 := sl_k ha hL_73_g0 (hv 7029 _ (Nat.le_of_ble_eq_true rfl)) hs29
  have hs30 := sl_k ha hL_74_g0 (hv 7030 _ (Nat.le_of_ble_eq_true rfl)) hs30
  have hs31 := sl_k ha hL_75_g0 (hv 7031 _ (Nat.le_of_ble_eq_true rfl)) hs31
  have hs32 := sl_k ha hL_76_g0 (hv 7032 _ (Nat.le_of_ble_eq_true rfl)) hs32
  have hs36 := sl_k ha hL_77_g0 (hv 7036 _ (Nat.le_of_ble_eq_true rfl)) hs36
  have hs37 := sl_k ha hL_78_g0 (hv 7037 _ (Nat.le_of_ble_eq_true rfl)) hs37
  have hs38 := sl_k ha hL_79_g0 (hv 7038 _ (Nat.le_of_ble_eq_true rfl)) hs38
  have hL_61_g0 := ho _ _ hL_61_g0
  have hL_62_g0 := ho _ _ hL_62_g0
  have hL_63_g0 := ho _ _ hL_63_g0
  have hL_64_g0 := ho _ _ hL_64_g0
  have hL_65_g0 := ho _ _ hL_65_g0
  have hL_66_g0 := ho _ _ hL_66_g0
  have hL_67_g0 := ho _ _ hL_67_g0
  have hL_68_g0 := ho _ _ hL_68_g0
  have hL_69_g0 := ho _ _ hL_69_g0
  have hL_70_g0 := ho _ _ hL_70_g0
  have hL_71_g0 := ho _ _ hL_71_g0
  have hL_72_g0 := ho _ _ hL_72_g0
  have hL_73_g0 := ho _ _ hL_73_g0
  have hL_74_g0 := ho _ _ hL_74_g0
  have hL_75_g0 := ho _ _ hL_75_g0
  have hL_76_g0 := ho _ _ hL_76_g0
  have hL_77_g0 := ho _ _ hL_77_g0
  have hL_78_g0 := ho _ _ hL_78_g0
  have hL_79_g0 := ho _ _ hL_79_g0
  have hL0 := ho _ _ hL0
  have hL_80_g0 := hN
  refine q_putR (K := 160) (V := 7039) (k := 60) (j := 39) (k2 := 80) (i2 := g0) hc hin2 hd hx hm (by decide) rfl rfl (by decide) hL0 e0 hL_80_g0 rfl rfl inX12 tyX12 tyX12_ok nmX12 (by decide) tw_1348 rfl rfl (ty := .array .long) (by decide +kernel) rfl rfl (by show _ < 40; decide) (fun x => by
    show (.inr (12, [_, _, _, _, _, _, _, _, _, _, _, _, _, _, _, _, _, _, _, _, _, _, _, _, _, _, _, _, _, _, _, _, _, _, _, _, _, _, _, r0 (up2 α 7039 g0 (x + 1) 7039 g0)]) : va_E) = _
    rw [up2_s]; rfl) dX12_init_187 (fun α H locs ha hs39 hv hd hx hm => ?_)
  have e0 := (ha _ _ hL0).trans e0
  have hs0 := sl_k ha hL_61_g0 (hv 7000 _ (Nat.le_of_ble_eq_true rfl) (by decide)) hs0
  have hs1 := sl_k ha hL_62_g0 (hv 7001 _ (Nat.le_of_ble_eq_true rfl) (by decide)) hs1
  have hs2 := sl_k ha hL_63_g0 (hv 7002 _ (Nat.le_of_ble_eq_true rfl) (by decide)) hs2
  have hs3 := sl_k ha hL_64_g0 (hv 7003 _ (Nat.le_of_ble_eq_true rfl) (by decide)) hs3
  have hs4 := sl_k ha hL_65_g0 (hv 7004 _ (Nat.le_of_ble_eq_true rfl) (by decide)) hs4
  have hs6 := sl_k ha hL_66_g0 (hv 7006 _ (Nat.le_of_ble_eq_true rfl) (by decide)) hs6
  have hs7 := sl_k ha hL_67_g0 (hv 7007 _ (Nat.le_of_ble_eq_true rfl) (by decide)) hs7
  have hs8 := sl_k ha hL_68_g0 (hv 7008 _ (Nat.le_of_ble_eq_true rfl) (by decide)) hs8
  have hs22 := sl_k ha hL_69_g0 (hv 7022 _ (Nat.le_of_ble_eq_true rfl) (by decide)) hs22
  have hs24 := sl_k ha hL_70_g0 (hv 7024 _ (Nat.le_of_ble_eq_true rfl) (by decide)) hs24
  have hs25 := sl_k ha hL_71_g0 (hv 7025 _ (Nat.le_of_ble_eq_true rfl) (by decide)) hs25
  have hs28 := sl_k ha hL_72_g0 (hv 7028 _ (Nat.le_of_ble_eq_true rfl) (by decide)) hs28
  have hs29 := sl_k ha hL_73_g0 (hv 7029 _ (Nat.le_of_ble_eq_true rfl) (by decide)) hs29
  have hs30 := sl_k ha hL_74_g0 (hv 7030 _ (Nat.le_of_ble_eq_true rfl) (by decide)) hs30
  have hs31 := sl_k ha hL_75_g0 (hv 7031 _ (Nat.le_of_ble_eq_true rfl) (by decide)) hs31
  have hs32 := sl_k ha hL_76_g0 (hv 7032 _ (Nat.le_of_ble_eq_true rfl) (by decide)) hs32
  have hs36 := sl_k ha hL_77_g0 (hv 7036 _ (Nat.le_of_ble_eq_true rfl) (by decide)) hs36
  have hs37 := sl_k ha hL_78_g0 (hv 7037 _ (Nat.le_of_ble_eq_true rfl) (by decide)) hs37
  have hs38 := sl_k ha hL_79_g0 (hv 7038 _ (Nat.le_of_ble_eq_true rfl) (by decide)) hs38
  refine q_cm (K := 160) (k := 60) (g := g0) hd hc hx hm (by decide) (by decide) hL0 (hfr _ (List.mem_cons_self)) (by simp) (cl_ad_60 hc.cl ⟨adL.o hL_61_g0, adL.o hL_62_g0, adL.o hL_63_g0, adL.o hL_64_g0, adL.o hL_65_g0, adL.o hL_66_g0, adL.o hL_67_g0, adL.o hL_68_g0, adL.o hL_69_g0, adL.o hL_70_g0, adL.o hL_71_g0, adL.o hL_72_g0, adL.o hL_73_g0, adL.o hL_74_g0, adL.o hL_75_g0, adL.o hL_76_g0, adL.o hL_77_g0, adL.o hL_78_g0, adL.o hL_79_g0, adL.o hL_80_g0⟩) (ce_cm_60 hs0 hs1 hs2 hs3 hs4 hs6 hs7 hs8 hs22 hs24 hs25 hs28 hs29 hs30 hs31 hs32 hs36 hs37 hs38 hs39) (fun α Lv ho ha hL0 ea hnK hc hd hx hm => ?_)
  obtain ⟨S_26, hd, hf⟩ := nmD hd hf
  have ea := ea.trans e0
  have hl : lv_has ls 2 [(0, .ref (α 60 g0))] := by rw [ea]; exact hl
  refine lv_iconst (v := 0) hc.x hc.b dX12_init_190 (by decide) ?_
  refine lv_istore_n (lv' := [(1, .int 0), (0, .ref (α 60 g0))]) hc.x hc.b dX12_init_191 rfl hl (by decide) rfl (fun ls hl => ?_)
  refine w_X12_init_192 hc hr hL0 ?_ _ _ _ _ _ _ hf hd (lv_sub hl [1, 0] rfl)
  intro S_31 H locs ls hf hd hl
  refine lv_aload_n hc.x hc.b dX12_init_214 rfl (lv_at hl 0 rfl) ?_
  refine fg_60_0 hc hd hL0 tw_1309 dX12_init_215 ?_
  refine lv_bipush (v := 120) hc.x hc.b dX12_init_218 (by decide) ?_
  refine lv_iconst (v := (-1)) hc.x hc.b dX12_init_220 (by decide) ?_
  obtain ⟨hi_32, hf⟩ := ck_s hf
  refine r_iast hc hd (cl_60_told hc.cl hL0) (fun _ => rfl) hi_32 dX12_init_221 (fun H locs hd => ?_)
  obtain ⟨S_33, hd, hf⟩ := nmD hd hf
  refine lv_aload_n hc.x hc.b dX12_init_222 rfl (lv_at hl 0 rfl) ?_
  refine fg_60_0 hc hd hL0 tw_1309 dX12_init_223 ?_
  refine lv_bipush (v := 122) hc.x hc.b dX12_init_226 (by decide) ?_
  refine lv_iconst (v := (-1)) hc.x hc.b dX12_init_228 (by decide) ?_
  obtain ⟨hi_34, hf⟩ := ck_s hf
  refine r_iast hc hd (cl_60_told hc.cl hL0) (fun _ => rfl) hi_34 dX12_init_229 (fun H locs hd => ?_)
  obtain ⟨S_35, hd, hf⟩ := nmD hd hf
  cases hf
  exact q_vret hc hd hr hx hm hL0 (ea.trans e00.symm) hnK dX12_init_230
theorem c_X12_init (l : Launch) (D : va_G) (cs : Nat → ClassId) (B0 : Nat) (kt : (Nat → Nat) × (Nat → Nat)) (α : Nat → Nat → Nat) (Lv : Nat → Nat → Prop) (S : St) (g0 : Nat) (hcl : Cl Lv) (hlt : ∀ k g, Lv k g → k < 1000) (hL0 : Lv 160 g0) (hfr : ∀ x ∈ F_X12_init g0, ¬ Lv x.1 x.2) {o : St} (hf : f_X12_init g0 S = some o) : Met l yX12_init (wz yX12_init cX12_init 2 none) (Rm 1 20 15785) (PzN D cs B0 kt α Lv S [.ref (α 160 g0)]) (QM D cs B0 α Lv 160 60 g0 (F_X12_init g0) [60] o) 20 15785 (AB B0) := met_ofI (by decide) rfl hcl (Nat.le_of_ble_eq_true rfl) (fun p e s m below meth c hc hck hnm hr hd ls hl => b_X12_init hc hck hnm hr hlt hL0 hfr hf hd hl)
theorem my_X12_init : MyI yX12_init cX12_init 2 0 := ⟨tw_1306, tw_11, tw_1307, rfl, by decide +kernel⟩
end
