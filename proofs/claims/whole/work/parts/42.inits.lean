section
variable {p : Program} {l : Launch} {e : Env} {R : Room} {s : State} {m : MethodId} {args : Array Value} {below : List Frame} {meth : Method} {c : Code} {cells slots : Nat} {Q : State → Prop} {D : va_G} {cs : Nat → ClassId} {B0 : Nat} {kt : (Nat → Nat) × (Nat → Nat)} {α : Nat → Nat → Nat} {Lv : Nat → Nat → Prop}
abbrev F_X0_init_256 (g0 : Nat) : List (Nat × Nat) := (14, g0) :: ((15, g0) :: ((16, g0) :: []))
def f_X0_init_256 (g0 : Nat) (S : St) : Option (St) := bv (zr S 16 g0 4) (fun S_1 => bv (si S_1 114 g0 0 256) (fun S_2 => bv (zr S_2 15 g0 1024) (fun S_3 => bv (cp S_3 114 14 g0) (fun S_4 => some S_4))))
set_option maxRecDepth 100000 in
set_option maxHeartbeats 8000000 in
theorem b_X0_init_256 (hc : Cx p s m args meth c cX0_init 2 "PumpCrossing$Boards" D cs B0 kt Lv) (hck : CK cs s) (hin2 : meth.name = "<init>") (hr : meth.sig.returnType = none) {o : St} {S : St} {g0 : Nat} (hlt : ∀ k g, Lv k g → k < 1000) (hL0 : Lv 114 g0) (hfr : ∀ x ∈ F_X0_init_256 g0, ¬ Lv x.1 x.2) {H : Heap} {locs : List Loc} {ls : Array Slot} (hf : f_X0_init_256 g0 S = some o) (hd : Dy s D cs B0 α Lv S H locs) (hl : lv_has ls 2 [(0, .ref (α 114 g0)), (1, .int 256)]) : W p l e (Rm 1 2 1028) s m args below meth c H locs 0 0 (MQ below (QM D cs B0 α Lv 114 14 g0 (F_X0_init_256 g0) [14] o) args s 2 1028 (AB B0)) (F0 m 0 ls []) := by
  unfold f_X0_init_256 at hf
  obtain ⟨a0, e0⟩ : ∃ a, α 114 g0 = a := ⟨_, rfl⟩
  have e00 := e0
  rw [e0] at hl
  have hx : Ex α Lv (114, g0) α Lv [] := Ex.start hlt
  have hm : Mk α [14] α := Mk.start
  refine lv_aload_n hc.x hc.b dX0_init_0 rfl (lv_at hl 0 rfl) ?_
  refine r_oini hc tw_75 tw_33 tw_34 hl.1 dX0_init_1 (Nat.zero_le _) ⟨Nat.le_of_ble_eq_true rfl, Nat.le_of_ble_eq_true rfl⟩ ?_
  refine lv_aload_n hc.x hc.b dX0_init_4 rfl (lv_at hl 0 rfl) ?_
  refine lv_iconst (v := 4) hc.x hc.b dX0_init_5 (by decide) ?_
  refine q_newP (aty := .int) (K := 16) (G := g0) (N := 4) hc hd hx hm hck.1 tw_68 (fun _ => rfl) rfl (by decide) (by decide) (hfr _ (List.mem_cons_of_mem _ (List.mem_cons_of_mem _ (List.mem_cons_self)))) (by simp) (by decide) (by decide) (by decide) ⟨Nat.le_of_ble_eq_true rfl, Nat.le_of_ble_eq_true rfl⟩ dX0_init_6 (fun α Lv H ho ha hv hN hc hd hx hm => ?_)
  obtain ⟨S_1, hd, hf⟩ := nmD hd hf
  have e0 := (ha _ _ hL0).trans e0
  have hL0 := ho _ _ hL0
  have hL_16_g0 := hN
  refine q_putR (K := 114) (V := 2402) (k := 14) (j := 2) (k2 := 16) (i2 := g0) hc hin2 hd hx hm (by decide) rfl rfl (by decide) hL0 e0 hL_16_g0 rfl rfl inX0 tyX0 tyX0_ok nmX0 (by decide) tw_78 rfl rfl (ty := .array .int) (by decide +kernel) rfl rfl (by show _ < 4; decide) (fun x => by
    show (.inr (0, [_, _, r0 (up2 α 2402 g0 (x + 1) 2402 g0), _]) : va_E) = _
    rw [up2_s]; rfl) dX0_init_8 (fun α H locs ha hs2 hv hd hx hm => ?_)
  have e0 := (ha _ _ hL0).trans e0
  refine lv_aload_n hc.x hc.b dX0_init_11 rfl (lv_at hl 0 rfl) ?_
  refine lv_iload_n hc.x hc.b dX0_init_12 rfl (lv_at hl 1 rfl) ?_
  refine w_st (by rw [← e0]) (r_putF (S' := si S_1 114 g0 0 256) hc hin2 hd hL0 rfl rfl inX0 tyX0 tyX0_ok nmX0 0 (by decide) tw_76 rfl rfl (ty := .int) (by decide +kernel) rfl rfl (by show _ < 4; decide) (by unfold si; rw [ce_s_ai]; rfl) (by unfold si; exact ce_ai) (fun h => h) dX0_init_13 (fun H locs hd => ?_))
  obtain ⟨S_2, hd, hf⟩ := nmD hd hf
  refine lv_aload_n hc.x hc.b dX0_init_16 rfl (lv_at hl 0 rfl) ?_
  refine lv_iload_n hc.x hc.b dX0_init_17 rfl (lv_at hl 1 rfl) ?_
  refine lv_iconst (v := 4) hc.x hc.b dX0_init_18 (by decide) ?_
  refine lv_imul hc.x hc.b dX0_init_19 ?_
  refine q_newP (aty := .int) (K := 15) (G := g0) (N := 1024) hc hd hx hm hck.1 tw_68 (fun _ => rfl) rfl (by decide) (by decide) (hfr _ (List.mem_cons_of_mem _ (List.mem_cons_self))) (by simp) (by decide) (by decide) (by decide) ⟨Nat.le_of_ble_eq_true rfl, Nat.le_of_ble_eq_true rfl⟩ dX0_init_20 (fun α Lv H ho ha hv hN hc hd hx hm => ?_)
  obtain ⟨S_3, hd, hf⟩ := nmD hd hf
  have e0 := (ha _ _ hL0).trans e0
  have hs2 := sl_k ha hL_16_g0 (hv 2402 _ (Nat.le_of_ble_eq_true rfl)) hs2
  have hL_16_g0 := ho _ _ hL_16_g0
  have hL0 := ho _ _ hL0
  have hL_15_g0 := hN
  refine q_putR (K := 114) (V := 2401) (k := 14) (j := 1) (k2 := 15) (i2 := g0) hc hin2 hd hx hm (by decide) rfl rfl (by decide) hL0 e0 hL_15_g0 rfl rfl inX0 tyX0 tyX0_ok nmX0 (by decide) tw_77 rfl rfl (ty := .array .int) (by decide +kernel) rfl rfl (by show _ < 4; decide) (fun x => by
    show (.inr (0, [_, r0 (up2 α 2401 g0 (x + 1) 2401 g0), _, _]) : va_E) = _
    rw [up2_s]; rfl) dX0_init_22 (fun α H locs ha hs1 hv hd hx hm => ?_)
  have e0 := (ha _ _ hL0).trans e0
  have hs2 := sl_k ha hL_16_g0 (hv 2402 _ (Nat.le_of_ble_eq_true rfl) (by decide)) hs2
  refine q_cm (K := 114) (k := 14) (g := g0) hd hc hx hm (by decide) (by decide) hL0 (hfr _ (List.mem_cons_self)) (by simp) (cl_ad_14 hc.cl ⟨adL.o hL_15_g0, adL.o hL_16_g0⟩) (ce_cm_14 hs1 hs2) (fun α Lv ho ha hL0 ea hnK hc hd hx hm => ?_)
  obtain ⟨S_4, hd, hf⟩ := nmD hd hf
  have ea := ea.trans e0
  have hl : lv_has ls 2 [(0, .ref (α 14 g0)), (1, .int 256)] := by rw [ea]; exact hl
  cases hf
  exact q_vret hc hd hr hx hm hL0 (ea.trans e00.symm) hnK dX0_init_25
theorem c_X0_init_256 (l : Launch) (D : va_G) (cs : Nat → ClassId) (B0 : Nat) (kt : (Nat → Nat) × (Nat → Nat)) (α : Nat → Nat → Nat) (Lv : Nat → Nat → Prop) (S : St) (g0 : Nat) (hcl : Cl Lv) (hlt : ∀ k g, Lv k g → k < 1000) (hL0 : Lv 114 g0) (hfr : ∀ x ∈ F_X0_init_256 g0, ¬ Lv x.1 x.2) {o : St} (hf : f_X0_init_256 g0 S = some o) : Met l yX0_init (wz yX0_init cX0_init 2 none) (Rm 1 2 1028) (PzN D cs B0 kt α Lv S [.ref (α 114 g0), .int 256]) (QM D cs B0 α Lv 114 14 g0 (F_X0_init_256 g0) [14] o) 2 1028 (AB B0) := met_ofI (by decide) rfl hcl (Nat.le_of_ble_eq_true rfl) (fun p e s m below meth c hc hck hnm hr hd ls hl => b_X0_init_256 hc hck hnm hr hlt hL0 hfr hf hd hl)
theorem my_X0_init : MyI yX0_init cX0_init 2 1 := ⟨tw_73, tw_4, tw_74, rfl, by decide +kernel⟩
abbrev F_X0_init_60 (g0 : Nat) : List (Nat × Nat) := (14, g0) :: ((15, g0) :: ((16, g0) :: []))
def f_X0_init_60 (g0 : Nat) (S : St) : Option (St) := bv (zr S 16 g0 4) (fun S_1 => bv (si S_1 114 g0 0 60) (fun S_2 => bv (zr S_2 15 g0 240) (fun S_3 => bv (cp S_3 114 14 g0) (fun S_4 => some S_4))))
set_option maxRecDepth 100000 in
set_option maxHeartbeats 8000000 in
theorem b_X0_init_60 (hc : Cx p s m args meth c cX0_init 2 "PumpCrossing$Boards" D cs B0 kt Lv) (hck : CK cs s) (hin2 : meth.name = "<init>") (hr : meth.sig.returnType = none) {o : St} {S : St} {g0 : Nat} (hlt : ∀ k g, Lv k g → k < 1000) (hL0 : Lv 114 g0) (hfr : ∀ x ∈ F_X0_init_60 g0, ¬ Lv x.1 x.2) {H : Heap} {locs : List Loc} {ls : Array Slot} (hf : f_X0_init_60 g0 S = some o) (hd : Dy s D cs B0 α Lv S H locs) (hl : lv_has ls 2 [(0, .ref (α 114 g0)), (1, .int 60)]) : W p l e (Rm 1 2 244) s m args below meth c H locs 0 0 (MQ below (QM D cs B0 α Lv 114 14 g0 (F_X0_init_60 g0) [14] o) args s 2 244 (AB B0)) (F0 m 0 ls []) := by
  unfold f_X0_init_60 at hf
  obtain ⟨a0, e0⟩ : ∃ a, α 114 g0 = a := ⟨_, rfl⟩
  have e00 := e0
  rw [e0] at hl
  have hx : Ex α Lv (114, g0) α Lv [] := Ex.start hlt
  have hm : Mk α [14] α := Mk.start
  refine lv_aload_n hc.x hc.b dX0_init_0 rfl (lv_at hl 0 rfl) ?_
  refine r_oini hc tw_75 tw_33 tw_34 hl.1 dX0_init_1 (Nat.zero_le _) ⟨Nat.le_of_ble_eq_true rfl, Nat.le_of_ble_eq_true rfl⟩ ?_
  refine lv_aload_n hc.x hc.b dX0_init_4 rfl (lv_at hl 0 rfl) ?_
  refine lv_iconst (v := 4) hc.x hc.b dX0_init_5 (by decide) ?_
  refine q_newP (aty := .int) (K := 16) (G := g0) (N := 4) hc hd hx hm hck.1 tw_68 (fun _ => rfl) rfl (by decide) (by decide) (hfr _ (List.mem_cons_of_mem _ (List.mem_cons_of_mem _ (List.mem_cons_self)))) (by simp) (by decide) (by decide) (by decide) ⟨Nat.le_of_ble_eq_true rfl, Nat.le_of_ble_eq_true rfl⟩ dX0_init_6 (fun α Lv H ho ha hv hN hc hd hx hm => ?_)
  obtain ⟨S_1, hd, hf⟩ := nmD hd hf
  have e0 := (ha _ _ hL0).trans e0
  have hL0 := ho _ _ hL0
  have hL_16_g0 := hN
  refine q_putR (K := 114) (V := 2402) (k := 14) (j := 2) (k2 := 16) (i2 := g0) hc hin2 hd hx hm (by decide) rfl rfl (by decide) hL0 e0 hL_16_g0 rfl rfl inX0 tyX0 tyX0_ok nmX0 (by decide) tw_78 rfl rfl (ty := .array .int) (by decide +kernel) rfl rfl (by show _ < 4; decide) (fun x => by
    show (.inr (0, [_, _, r0 (up2 α 2402 g0 (x + 1) 2402 g0), _]) : va_E) = _
    rw [up2_s]; rfl) dX0_init_8 (fun α H locs ha hs2 hv hd hx hm => ?_)
  have e0 := (ha _ _ hL0).trans e0
  refine lv_aload_n hc.x hc.b dX0_init_11 rfl (lv_at hl 0 rfl) ?_
  refine lv_iload_n hc.x hc.b dX0_init_12 rfl (lv_at hl 1 rfl) ?_
  refine w_st (by rw [← e0]) (r_putF (S' := si S_1 114 g0 0 60) hc hin2 hd hL0 rfl rfl inX0 tyX0 tyX0_ok nmX0 0 (by decide) tw_76 rfl rfl (ty := .int) (by decide +kernel) rfl rfl (by show _ < 4; decide) (by unfold si; rw [ce_s_ai]; rfl) (by unfold si; exact ce_ai) (fun h => h) dX0_init_13 (fun H locs hd => ?_))
  obtain ⟨S_2, hd, hf⟩ := nmD hd hf
  refine lv_aload_n hc.x hc.b dX0_init_16 rfl (lv_at hl 0 rfl) ?_
  refine lv_iload_n hc.x hc.b dX0_init_17 rfl (lv_at hl 1 rfl) ?_
  refine lv_iconst (v := 4) hc.x hc.b dX0_init_18 (by decide) ?_
  refine lv_imul hc.x hc.b dX0_init_19 ?_
  refine q_newP (aty := .int) (K := 15) (G := g0) (N := 240) hc hd hx hm hck.1 tw_68 (fun _ => rfl) rfl (by decide) (by decide) (hfr _ (List.mem_cons_of_mem _ (List.mem_cons_self))) (by simp) (by decide) (by decide) (by decide) ⟨Nat.le_of_ble_eq_true rfl, Nat.le_of_ble_eq_true rfl⟩ dX0_init_20 (fun α Lv H ho ha hv hN hc hd hx hm => ?_)
  obtain ⟨S_3, hd, hf⟩ := nmD hd hf
  have e0 := (ha _ _ hL0).trans e0
  have hs2 := sl_k ha hL_16_g0 (hv 2402 _ (Nat.le_of_ble_eq_true rfl)) hs2
  have hL_16_g0 := ho _ _ hL_16_g0
  have hL0 := ho _ _ hL0
  have hL_15_g0 := hN
  refine q_putR (K := 114) (V := 2401) (k := 14) (j := 1) (k2 := 15) (i2 := g0) hc hin2 hd hx hm (by decide) rfl rfl (by decide) hL0 e0 hL_15_g0 rfl rfl inX0 tyX0 tyX0_ok nmX0 (by decide) tw_77 rfl rfl (ty := .array .int) (by decide +kernel) rfl rfl (by show _ < 4; decide) (fun x => by
    show (.inr (0, [_, r0 (up2 α 2401 g0 (x + 1) 2401 g0), _, _]) : va_E) = _
    rw [up2_s]; rfl) dX0_init_22 (fun α H locs ha hs1 hv hd hx hm => ?_)
  have e0 := (ha _ _ hL0).trans e0
  have hs2 := sl_k ha hL_16_g0 (hv 2402 _ (Nat.le_of_ble_eq_true rfl) (by decide)) hs2
  refine q_cm (K := 114) (k := 14) (g := g0) hd hc hx hm (by decide) (by decide) hL0 (hfr _ (List.mem_cons_self)) (by simp) (cl_ad_14 hc.cl ⟨adL.o hL_15_g0, adL.o hL_16_g0⟩) (ce_cm_14 hs1 hs2) (fun α Lv ho ha hL0 ea hnK hc hd hx hm => ?_)
  obtain ⟨S_4, hd, hf⟩ := nmD hd hf
  have ea := ea.trans e0
  have hl : lv_has ls 2 [(0, .ref (α 14 g0)), (1, .int 60)] := by rw [ea]; exact hl
  cases hf
  exact q_vret hc hd hr hx hm hL0 (ea.trans e00.symm) hnK dX0_init_25
theorem c_X0_init_60 (l : Launch) (D : va_G) (cs : Nat → ClassId) (B0 : Nat) (kt : (Nat → Nat) × (Nat → Nat)) (α : Nat → Nat → Nat) (Lv : Nat → Nat → Prop) (S : St) (g0 : Nat) (hcl : Cl Lv) (hlt : ∀ k g, Lv k g → k < 1000) (hL0 : Lv 114 g0) (hfr : ∀ x ∈ F_X0_init_60 g0, ¬ Lv x.1 x.2) {o : St} (hf : f_X0_init_60 g0 S = some o) : Met l yX0_init (wz yX0_init cX0_init 2 none) (Rm 1 2 244) (PzN D cs B0 kt α Lv S [.ref (α 114 g0), .int 60]) (QM D cs B0 α Lv 114 14 g0 (F_X0_init_60 g0) [14] o) 2 244 (AB B0) := met_ofI (by decide) rfl hcl (Nat.le_of_ble_eq_true rfl) (fun p e s m below meth c hc hck hnm hr hd ls hl => b_X0_init_60 hc hck hnm hr hlt hL0 hfr hf hd hl)
abbrev F_X1_init (g0 : Nat) : List (Nat × Nat) := (17, g0) :: ((20, g0) :: ((19, g0) :: ((18, g0) :: [])))
def f_X1_init (g0 : Nat) (S : St) : Option (St) := bv (zr S 18 g0 10) (fun S_1 => bv (zr S_1 19 g0 10) (fun S_2 => bv (zr S_2 20 g0 10) (fun S_3 => bv (cp S_3 117 17 g0) (fun S_4 => some S_4))))
set_option maxRecDepth 100000 in
set_option maxHeartbeats 8000000 in
theorem b_X1_init (hc : Cx p s m args meth c cX1_init 1 "PumpCrossing$CostChanges" D cs B0 kt Lv) (hck : CK cs s) (hin2 : meth.name = "<init>") (hr : meth.sig.returnType = none) {o : St} {S : St} {g0 : Nat} (hlt : ∀ k g, Lv k g → k < 1000) (hL0 : Lv 117 g0) (hfr : ∀ x ∈ F_X1_init g0, ¬ Lv x.1 x.2) {H : Heap} {locs : List Loc} {ls : Array Slot} (hf : f_X1_init g0 S = some o) (hd : Dy s D cs B0 α Lv S H locs) (hl : lv_has ls 1 [(0, .ref (α 117 g0))]) : W p l e (Rm 1 3 30) s m args below meth c H locs 0 0 (MQ below (QM D cs B0 α Lv 117 17 g0 (F_X1_init g0) [17] o) args s 3 30 (AB B0)) (F0 m 0 ls []) := by
  unfold f_X1_init at hf
  obtain ⟨a0, e0⟩ : ∃ a, α 117 g0 = a := ⟨_, rfl⟩
  have e00 := e0
  rw [e0] at hl
  have hx : Ex α Lv (117, g0) α Lv [] := Ex.start hlt
  have hm : Mk α [17] α := Mk.start
  refine lv_aload_n hc.x hc.b dX1_init_0 rfl (lv_at hl 0 rfl) ?_
  refine r_oini hc tw_97 tw_33 tw_34 hl.1 dX1_init_1 (Nat.zero_le _) ⟨Nat.le_of_ble_eq_true rfl, Nat.le_of_ble_eq_true rfl⟩ ?_
  refine lv_aload_n hc.x hc.b dX1_init_4 rfl (lv_at hl 0 rfl) ?_
  refine lv_bipush (v := 10) hc.x hc.b dX1_init_5 (by decide) ?_
  refine q_newP (aty := .int) (K := 18) (G := g0) (N := 10) hc hd hx hm hck.1 tw_68 (fun _ => rfl) rfl (by decide) (by decide) (hfr _ (List.mem_cons_of_mem _ (List.mem_cons_of_mem _ (List.mem_cons_of_mem _ (List.mem_cons_self))))) (by simp) (by decide) (by decide) (by decide) ⟨Nat.le_of_ble_eq_true rfl, Nat.le_of_ble_eq_true rfl⟩ dX1_init_7 (fun α Lv H ho ha hv hN hc hd hx hm => ?_)
  obtain ⟨S_1, hd, hf⟩ := nmD hd hf
  have e0 := (ha _ _ hL0).trans e0
  have hL0 := ho _ _ hL0
  have hL_18_g0 := hN
  refine q_putR (K := 117) (V := 2700) (k := 17) (j := 0) (k2 := 18) (i2 := g0) hc hin2 hd hx hm (by decide) rfl rfl (by decide) hL0 e0 hL_18_g0 rfl rfl inX1 tyX1 tyX1_ok nmX1 (by decide) tw_98 rfl rfl (ty := .array .int) (by decide +kernel) rfl rfl (by show _ < 4; decide) (fun x => by
    show (.inr (1, [r0 (up2 α 2700 g0 (x + 1) 2700 g0), _, _, _]) : va_E) = _
    rw [up2_s]; rfl) dX1_init_9 (fun α H locs ha hs0 hv hd hx hm => ?_)
  have e0 := (ha _ _ hL0).trans e0
  refine lv_aload_n hc.x hc.b dX1_init_12 rfl (lv_at hl 0 rfl) ?_
  refine lv_bipush (v := 10) hc.x hc.b dX1_init_13 (by decide) ?_
  refine q_newP (aty := .int) (K := 19) (G := g0) (N := 10) hc hd hx hm hck.1 tw_68 (fun _ => rfl) rfl (by decide) (by decide) (hfr _ (List.mem_cons_of_mem _ (List.mem_cons_of_mem _ (List.mem_cons_self)))) (by simp) (by decide) (by decide) (by decide) ⟨Nat.le_of_ble_eq_true rfl, Nat.le_of_ble_eq_true rfl⟩ dX1_init_15 (fun α Lv H ho ha hv hN hc hd hx hm => ?_)
  obtain ⟨S_2, hd, hf⟩ := nmD hd hf
  have e0 := (ha _ _ hL0).trans e0
  have hs0 := sl_k ha hL_18_g0 (hv 2700 _ (Nat.le_of_ble_eq_true rfl)) hs0
  have hL_18_g0 := ho _ _ hL_18_g0
  have hL0 := ho _ _ hL0
  have hL_19_g0 := hN
  refine q_putR (K := 117) (V := 2701) (k := 17) (j := 1) (k2 := 19) (i2 := g0) hc hin2 hd hx hm (by decide) rfl rfl (by decide) hL0 e0 hL_19_g0 rfl rfl inX1 tyX1 tyX1_ok nmX1 (by decide) tw_99 rfl rfl (ty := .array .int) (by decide +kernel) rfl rfl (by show _ < 4; decide) (fun x => by
    show (.inr (1, [_, r0 (up2 α 2701 g0 (x + 1) 2701 g0), _, _]) : va_E) = _
    rw [up2_s]; rfl) dX1_init_17 (fun α H locs ha hs1 hv hd hx hm => ?_)
  have e0 := (ha _ _ hL0).trans e0
  have hs0 := sl_k ha hL_18_g0 (hv 2700 _ (Nat.le_of_ble_eq_true rfl) (by decide)) hs0
  refine lv_aload_n hc.x hc.b dX1_init_20 rfl (lv_at hl 0 rfl) ?_
  refine lv_bipush (v := 10) hc.x hc.b dX1_init_21 (by decide) ?_
  refine q_newP (aty := .int) (K := 20) (G := g0) (N := 10) hc hd hx hm hck.1 tw_68 (fun _ => rfl) rfl (by decide) (by decide) (hfr _ (List.mem_cons_of_mem _ (List.mem_cons_self))) (by simp) (by decide) (by decide) (by decide) ⟨Nat.le_of_ble_eq_true rfl, Nat.le_of_ble_eq_true rfl⟩ dX1_init_23 (fun α Lv H ho ha hv hN hc hd hx hm => ?_)
  obtain ⟨S_3, hd, hf⟩ := nmD hd hf
  have e0 := (ha _ _ hL0).trans e0
  have hs0 := sl_k ha hL_18_g0 (hv 2700 _ (Nat.le_of_ble_eq_true rfl)) hs0
  have hs1 := sl_k ha hL_19_g0 (hv 2701 _ (Nat.le_of_ble_eq_true rfl)) hs1
  have hL_18_g0 := ho _ _ hL_18_g0
  have hL_19_g0 := ho _ _ hL_19_g0
  have hL0 := ho _ _ hL0
  have hL_20_g0 := hN
  refine q_putR (K := 117) (V := 2702) (k := 17) (j := 2) (k2 := 20) (i2 := g0) hc hin2 hd hx hm (by decide) rfl rfl (by decide) hL0 e0 hL_20_g0 rfl rfl inX1 tyX1 tyX1_ok nmX1 (by decide) tw_100 rfl rfl (ty := .array .int) (by decide +kernel) rfl rfl (by show _ < 4; decide) (fun x => by
    show (.inr (1, [_, _, r0 (up2 α 2702 g0 (x + 1) 2702 g0), _]) : va_E) = _
    rw [up2_s]; rfl) dX1_init_25 (fun α H locs ha hs2 hv hd hx hm => ?_)
  have e0 := (ha _ _ hL0).trans e0
  have hs0 := sl_k ha hL_18_g0 (hv 2700 _ (Nat.le_of_ble_eq_true rfl) (by decide)) hs0
  have hs1 := sl_k ha hL_19_g0 (hv 2701 _ (Nat.le_of_ble_eq_true rfl) (by decide)) hs1
  refine q_cm (K := 117) (k := 17) (g := g0) hd hc hx hm (by decide) (by decide) hL0 (hfr _ (List.mem_cons_self)) (by simp) (cl_ad_17 hc.cl ⟨adL.o hL_18_g0, adL.o hL_19_g0, adL.o hL_20_g0⟩) (ce_cm_17 hs0 hs1 hs2) (fun α Lv ho ha hL0 ea hnK hc hd hx hm => ?_)
  obtain ⟨S_4, hd, hf⟩ := nmD hd hf
  have ea := ea.trans e0
  have hl : lv_has ls 1 [(0, .ref (α 17 g0))] := by rw [ea]; exact hl
  cases hf
  exact q_vret hc hd hr hx hm hL0 (ea.trans e00.symm) hnK dX1_init_28
theorem c_X1_init (l : Launch) (D : va_G) (cs : Nat → ClassId) (B0 : Nat) (kt : (Nat → Nat) × (Nat → Nat)) (α : Nat → Nat → Nat) (Lv : Nat → Nat → Prop) (S : St) (g0 : Nat) (hcl : Cl Lv) (hlt : ∀ k g, Lv k g → k < 1000) (hL0 : Lv 117 g0) (hfr : ∀ x ∈ F_X1_init g0, ¬ Lv x.1 x.2) {o : St} (hf : f_X1_init g0 S = some o) : Met l yX1_init (wz yX1_init cX1_init 1 none) (Rm 1 3 30) (PzN D cs B0 kt α Lv S [.ref (α 117 g0)]) (QM D cs B0 α Lv 117 17 g0 (F_X1_init g0) [17] o) 3 30 (AB B0) := met_ofI (by decide) rfl hcl (Nat.le_of_ble_eq_true rfl) (fun p e s m below meth c hc hck hnm hr hd ls hl => b_X1_init hc hck hnm hr hlt hL0 hfr hf hd hl)
theorem my_X1_init : MyI yX1_init cX1_init 1 0 := ⟨tw_95, tw_5, tw_96, rfl, by decide +kernel⟩
abbrev F_X3_init (g0 : Nat) : List (Nat × Nat) := (9, g0) :: ((13, g0) :: ((12, g0) :: ((11, g0) :: ((10, g0) :: []))))
def f_X3_init (g0 : Nat) (S : St) : Option (St) := bv (zr S 10 g0 6) (fun S_1 => bv (zr S_1 11 g0 6) (fun S_2 => bv (zr S_2 12 g0 6) (fun S_3 => bv (zr S_3 13 g0 6) (fun S_4 => bv (cp S_4 109 9 g0) (fun S_5 => some S_5)))))
set_option maxRecDepth 100000 in
set_option maxHeartbeats 8000000 in
theorem b_X3_init (hc : Cx p s m args meth c cX3_init 1 "PumpCrossing$Drivers" D cs B0 kt Lv) (hck : CK cs s) (hin2 : meth.name = "<init>") (hr : meth.sig.returnType = none) {o : St} {S : St} {g0 : Nat} (hlt : ∀ k g, Lv k g → k < 1000) (hL0 : Lv 109 g0) (hfr : ∀ x ∈ F_X3_init g0, ¬ Lv x.1 x.2) {H : Heap} {locs : List Loc} {ls : Array Slot} (hf : f_X3_init g0 S = some o) (hd : Dy s D cs B0 α Lv S H locs) (hl : lv_has ls 1 [(0, .ref (α 109 g0))]) : W p l e (Rm 1 4 24) s m args below meth c H locs 0 0 (MQ below (QM D cs B0 α Lv 109 9 g0 (F_X3_init g0) [9] o) args s 4 24 (AB B0)) (F0 m 0 ls []) := by
  unfold f_X3_init at hf
  obtain ⟨a0, e0⟩ : ∃ a, α 109 g0 = a := ⟨_, rfl⟩
  have e00 := e0
  rw [e0] at hl
  have hx : Ex α Lv (109, g0) α Lv [] := Ex.start hlt
  have hm : Mk α [9] α := Mk.start
  refine lv_aload_n hc.x hc.b dX3_init_0 rfl (lv_at hl 0 rfl) ?_
  refine r_oini hc tw_48 tw_33 tw_34 hl.1 dX3_init_1 (Nat.zero_le _) ⟨Nat.le_of_ble_eq_true rfl, Nat.le_of_ble_eq_true rfl⟩ ?_
  refine lv_aload_n hc.x hc.b dX3_init_4 rfl (lv_at hl 0 rfl) ?_
  refine lv_bipush (v := 6) hc.x hc.b dX3_init_5 (by decide) ?_
  refine q_newP (aty := .int) (K := 10) (G := g0) (N := 6) hc hd hx hm hck.1 tw_68 (fun _ => rfl) rfl (by decide) (by decide) (hfr _ (List.mem_cons_of_mem _ (List.mem_cons_of_mem _ (List.mem_cons_of_mem _ (List.mem_cons_of_mem _ (List.mem_cons_self)))))) (by simp) (by decide) (by decide) (by decide) ⟨Nat.le_of_ble_eq_true rfl, Nat.le_of_ble_eq_true rfl⟩ dX3_init_7 (fun α Lv H ho ha hv hN hc hd hx hm => ?_)
  obtain ⟨S_1, hd, hf⟩ := nmD hd hf
  have e0 := (ha _ _ hL0).trans e0
  have hL0 := ho _ _ hL0
  have hL_10_g0 := hN
  refine q_putR (K := 109) (V := 1901) (k := 9) (j := 1) (k2 := 10) (i2 := g0) hc hin2 hd hx hm (by decide) rfl rfl (by decide) hL0 e0 hL_10_g0 rfl rfl inX3 tyX3 tyX3_ok nmX3 (by decide) tw_52 rfl rfl (ty := .array .int) (by decide +kernel) rfl rfl (by show _ < 5; decide) (fun x => by
    show (.inr (3, [_, r0 (up2 α 1901 g0 (x + 1) 1901 g0), _, _, _]) : va_E) = _
    rw [up2_s]; rfl) dX3_init_9 (fun α H locs ha hs1 hv hd hx hm => ?_)
  have e0 := (ha _ _ hL0).trans e0
  refine lv_aload_n hc.x hc.b dX3_init_12 rfl (lv_at hl 0 rfl) ?_
  refine lv_bipush (v := 6) hc.x hc.b dX3_init_13 (by decide) ?_
  refine q_newP (aty := .int) (K := 11) (G := g0) (N := 6) hc hd hx hm hck.1 tw_68 (fun _ => rfl) rfl (by decide) (by decide) (hfr _ (List.mem_cons_of_mem _ (List.mem_cons_of_mem _ (List.mem_cons_of_mem _ (List.mem_cons_self))))) (by simp) (by decide) (by decide) (by decide) ⟨Nat.le_of_ble_eq_true rfl, Nat.le_of_ble_eq_true rfl⟩ dX3_init_15 (fun α Lv H ho ha hv hN hc hd hx hm => ?_)
  obtain ⟨S_2, hd, hf⟩ := nmD hd hf
  have e0 := (ha _ _ hL0).trans e0
  have hs1 := sl_k ha hL_10_g0 (hv 1901 _ (Nat.le_of_ble_eq_true rfl)) hs1
  have hL_10_g0 := ho _ _ hL_10_g0
  have hL0 := ho _ _ hL0
  have hL_11_g0 := hN
  refine q_putR (K := 109) (V := 1902) (k := 9) (j := 2) (k2 := 11) (i2 := g0) hc hin2 hd hx hm (by decide) rfl rfl (by decide) hL0 e0 hL_11_g0 rfl rfl inX3 tyX3 tyX3_ok nmX3 (by decide) tw_54 rfl rfl (ty := .array .int) (by decide +kernel) rfl rfl (by show _ < 5; decide) (fun x => by
    show (.inr (3, [_, _, r0 (up2 α 1902 g0 (x + 1) 1902 g0), _, _]) : va_E) = _
    rw [up2_s]; rfl) dX3_init_17 (fun α H locs ha hs2 hv hd hx hm => ?_)
  have e0 := (ha _ _ hL0).trans e0
  have hs1 := sl_k ha hL_10_g0 (hv 1901 _ (Nat.le_of_ble_eq_true rfl) (by decide)) hs1
  refine lv_aload_n hc.x hc.b dX3_init_20 rfl (lv_at hl 0 rfl) ?_
  refine lv_bipush (v := 6) hc.x hc.b dX3_init_21 (by decide) ?_
  refine q_newP (aty := .int) (K := 12) (G := g0) (N := 6) hc hd hx hm hck.1 tw_68 (fun _ => rfl) rfl (by decide) (by decide) (hfr _ (List.mem_cons_of_mem _ (List.mem_cons_of_mem _ (List.mem_cons_self)))) (by simp) (by decide) (by decide) (by decide) ⟨Nat.le_of_ble_eq_true rfl, Nat.le_of_ble_eq_true rfl⟩ dX3_init_23 (fun α Lv H ho ha hv hN hc hd hx hm => ?_)
  obtain ⟨S_3, hd, hf⟩ := nmD hd hf
  have e0 := (ha _ _ hL0).trans e0
  have hs1 := sl_k ha hL_10_g0 (hv 1901 _ (Nat.le_of_ble_eq_true rfl)) hs1
  have hs2 := sl_k ha hL_11_g0 (hv 1902 _ (Nat.le_of_ble_eq_true rfl)) hs2
  have hL_10_g0 := ho _ _ hL_10_g0
  have hL_11_g0 := ho _ _ hL_11_g0
  have hL0 := ho _ _ hL0
  have hL_12_g0 := hN
  refine q_putR (K := 109) (V := 1903) (k := 9) (j := 3) (k2 := 12) (i2 := g0) hc hin2 hd hx hm (by decide) rfl rfl (by decide) hL0 e0 hL_12_g0 rfl rfl inX3 tyX3 tyX3_ok nmX3 (by decide) tw_55 rfl rfl (ty := .array .int) (by decide +kernel) rfl rfl (by show _ < 5; decide) (fun x => by
    show (.inr (3, [_, _, _, r0 (up2 α 1903 g0 (x + 1) 1903 g0), _]) : va_E) = _
    rw [up2_s]; rfl) dX3_init_25 (fun α H locs ha hs3 hv hd hx hm => ?_)
  have e0 := (ha _ _ hL0).trans e0
  have hs1 := sl_k ha hL_10_g0 (hv 1901 _ (Nat.le_of_ble_eq_true rfl) (by decide)) hs1
  have hs2 := sl_k ha hL_11_g0 (hv 1902 _ (Nat.le_of_ble_eq_true rfl) (by decide)) hs2
  refine lv_aload_n hc.x hc.b dX3_init_28 rfl (lv_at hl 0 rfl) ?_
  refine lv_bipush (v := 6) hc.x hc.b dX3_init_29 (by decide) ?_
  refine q_newP (aty := .int) (K := 13) (G := g0) (N := 6) hc hd hx hm hck.1 tw_68 (fun _ => rfl) rfl (by decide) (by decide) (hfr _ (List.mem_cons_of_mem _ (List.mem_cons_self))) (by simp) (by decide) (by decide) (by decide) ⟨Nat.le_of_ble_eq_true rfl, Nat.le_of_ble_eq_true rfl⟩ dX3_init_31 (fun α Lv H ho ha hv hN hc hd hx hm => ?_)
  obtain ⟨S_4, hd, hf⟩ := nmD hd hf
  have e0 := (ha _ _ hL0).trans e0
  have hs1 := sl_k ha hL_10_g0 (hv 1901 _ (Nat.le_of_ble_eq_true rfl)) hs1
  have hs2 := sl_k ha hL_11_g0 (hv 1902 _ (Nat.le_of_ble_eq_true rfl)) hs2
  have hs3 := sl_k ha hL_12_g0 (hv 1903 _ (Nat.le_of_ble_eq_true rfl)) hs3
  have hL_10_g0 := ho _ _ hL_10_g0
  have hL_11_g0 := ho _ _ hL_11_g0
  have hL_12_g0 := ho _ _ hL_12_g0
  have hL0 := ho _ _ hL0
  have hL_13_g0 := hN
  refine q_putR (K := 109) (V := 1904) (k := 9) (j := 4) (k2 := 13) (i2 := g0) hc hin2 hd hx hm (by decide) rfl rfl (by decide) hL0 e0 hL_13_g0 rfl rfl inX3 tyX3 tyX3_ok nmX3 (by decide) tw_56 rfl rfl (ty := .array .int) (by decide +kernel) rfl rfl (by show _ < 5; decide) (fun x => by
    show (.inr (3, [_, _, _, _, r0 (up2 α 1904 g0 (x + 1) 1904 g0)]) : va_E) = _
    rw [up2_s]; rfl) dX3_init_33 (fun α H locs ha hs4 hv hd hx hm => ?_)
  have e0 := (ha _ _ hL0).trans e0
  have hs1 := sl_k ha hL_10_g0 (hv 1901 _ (Nat.le_of_ble_eq_true rfl) (by decide)) hs1
  have hs2 := sl_k ha hL_11_g0 (hv 1902 _ (Nat.le_of_ble_eq_true rfl) (by decide)) hs2
  have hs3 := sl_k ha hL_12_g0 (hv 1903 _ (Nat.le_of_ble_eq_true rfl) (by decide)) hs3
  refine q_cm (K := 109) (k := 9) (g := g0) hd hc hx hm (by decide) (by decide) hL0 (hfr _ (List.mem_cons_self)) (by simp) (cl_ad_9 hc.cl ⟨adL.o hL_10_g0, adL.o hL_11_g0, adL.o hL_12_g0, adL.o hL_13_g0⟩) (ce_cm_9 hs1 hs2 hs3 hs4) (fun α Lv ho ha hL0 ea hnK hc hd hx hm => ?_)
  obtain ⟨S_5, hd, hf⟩ := nmD hd hf
  have ea := ea.trans e0
  have hl : lv_has ls 1 [(0, .ref (α 9 g0))] := by rw [ea]; exact hl
  cases hf
  exact q_vret hc hd hr hx hm hL0 (ea.trans e00.symm) hnK dX3_init_36
theorem c_X3_init (l : Launch) (D : va_G) (cs : Nat → ClassId) (B0 : Nat) (kt : (Nat → Nat) × (Nat → Nat)) (α : Nat → Nat → Nat) (Lv : Nat → Nat → Prop) (S : St) (g0 : Nat) (hcl : Cl Lv) (hlt : ∀ k g, Lv k g → k < 1000) (hL0 : Lv 109 g0) (hfr : ∀ x ∈ F_X3_init g0, ¬ Lv x.1 x.2) {o : St} (hf : f_X3_init g0 S = some o) : Met l yX3_init (wz yX3_init cX3_init 1 none) (Rm 1 4 24) (PzN D cs B0 kt α Lv S [.ref (α 109 g0)]) (QM D cs B0 α Lv 109 9 g0 (F_X3_init g0) [9] o) 4 24 (AB B0) := met_ofI (by decide) rfl hcl (Nat.le_of_ble_eq_true rfl) (fun p e s m below meth c hc hck hnm hr hd ls hl => b_X3_init hc hck hnm hr hlt hL0 hfr hf hd hl)
theorem my_X3_init : MyI yX3_init cX3_init 1 0 := ⟨tw_46, tw_3, tw_47, rfl, by decide +kernel⟩
abbrev F_X4_init (g0 : Nat) : List (Nat × Nat) := (36, g0) :: (mF 47 g0 58 (0) 41 ++ (mF 43 g0 48 (0) 41 ++ (mF 41 g0 42 (0) 40 ++ ((26, 0) :: (mF 39 g0 40 (0) 8 ++ (mF 37 g0 38 (0) 8 ++ []))))))
def f_X4_init (g0 : Nat) (S : St) : Option (St) := bv (zM S 37 g0 38 (0) 8) (fun S_1 => bv (zM S_1 39 g0 40 (0) 8) (fun S_2 => bv (zr S_2 26 0 4) (fun S_3 => bv (zM S_3 41 g0 42 (0) 40) (fun S_4 => bv (zM S_4 43 g0 48 (0) 41) (fun S_5 => bv (zM S_5 47 g0 58 (0) 41) (fun S_6 => bv (cp S_6 136 36 g0) (fun S_7 => some S_7)))))))
set_option maxRecDepth 100000 in
set_option maxHeartbeats 8000000 in
theorem b_X4_init (hc : Cx p s m args meth c cX4_init 1 "PumpCrossing$Game" D cs B0 kt Lv) (hck : CK cs s) (hin2 : meth.name = "<init>") (hr : meth.sig.returnType = none) {o : St} {S : St} {g0 : Nat} (hlt : ∀ k g, Lv k g → k < 1000) (hL0 : Lv 136 g0) (hfr : ∀ x ∈ F_X4_init g0, ¬ Lv x.1 x.2) {H : Heap} {locs : List Loc} {ls : Array Slot} (hf : f_X4_init g0 S = some o) (hd : Dy s D cs B0 α Lv S H locs) (hl : lv_has ls 1 [(0, .ref (α 136 g0))]) : W p l e (Rm 1 144 1246) s m args below meth c H locs 0 0 (MQ below (QM D cs B0 α Lv 136 36 g0 (F_X4_init g0) [36] o) args s 144 1246 (AB B0)) (F0 m 0 ls []) := by
  unfold f_X4_init at hf
  obtain ⟨a0, e0⟩ : ∃ a, α 136 g0 = a := ⟨_, rfl⟩
  have e00 := e0
  rw [e0] at hl
  have hx : Ex α Lv (136, g0) α Lv [] := Ex.start hlt
  have hm : Mk α [36] α := Mk.start
  refine lv_aload_n hc.x hc.b dX4_init_0 rfl (lv_at hl 0 rfl) ?_
  refine r_oini hc tw_294 tw_33 tw_34 hl.1 dX4_init_1 (Nat.zero_le _) ⟨Nat.le_of_ble_eq_true rfl, Nat.le_of_ble_eq_true rfl⟩ ?_
  refine lv_aload_n hc.x hc.b dX4_init_4 rfl (lv_at hl 0 rfl) ?_
  refine lv_bipush (v := 8) hc.x hc.b dX4_init_5 (by decide) ?_
  refine lv_bipush (v := 8) hc.x hc.b dX4_init_7 (by decide) ?_
  refine q_mna (ty := .int) (K := 37) (G := g0) (I := 38) (b := 0) (N := 8) (M9 := 8) (z := (8, .inl (fun _ => 0))) hc hd hx hm hck.2.2.2.2.2.2.1 hck.1 tw_295 hc.kc.2.2.2.2.2.2.2.2.2.1 tw_68 (by decide) (by decide) (by decide) (fun x h => hfr x (List.mem_cons_of_mem _ (List.mem_append_right _ (List.mem_append_right _ (List.mem_append_right _ (List.mem_cons_of_mem _ (List.mem_append_right _ (List.mem_append_left _ (h))))))))) (by simp only [mF, List.forall_mem_cons, List.forall_mem_map]; simp [mF] <;> omega) (cl_m_37 hc.cl) (fun β n => by
    show (.inl (cs 6, 8, .inr (.inr (.inr (.inr (fun j => some (β 38 j)))))) : va_E) = .inl (cs 6, 8, .inr (.inr (.inr (.inr (fun j => some (β 38 (0 + j)))))))
    simp only [Nat.zero_add]) (fun _ _ _ => rfl) (by decide) (by decide) rfl rfl (by decide) (by decide) (by decide) rfl rfl ⟨Nat.le_of_ble_eq_true rfl, Nat.le_of_ble_eq_true rfl⟩ (inner_int _ _) dX4_init_9 (fun α Lv H ho ha hv hN hc hd hx hm hrw => ?_)
  obtain ⟨S_1, hd, hf⟩ := nmD hd hf
  have e0 := (ha _ _ hL0).trans e0
  have hL0 := ho _ _ hL0
  have hL_37_g0 := hN
  refine q_putR (K := 136) (V := 4601) (k := 36) (j := 1) (k2 := 37) (i2 := g0) hc hin2 hd hx hm (by decide) rfl rfl (by decide) hL0 e0 hL_37_g0 rfl rfl inX4 tyX4 tyX4_ok nmX4 (by decide) tw_298 rfl rfl (ty := .array (.array .int)) (by decide +kernel) rfl rfl (by show _ < 7; decide) (fun x => by
    show (.inr (4, [_, r0 (up2 α 4601 g0 (x + 1) 4601 g0), _, _, _, _, _]) : va_E) = _
    rw [up2_s]; rfl) dX4_init_13 (fun α H locs ha hs1 hv hd hx hm => ?_)
  have e0 := (ha _ _ hL0).trans e0
  refine lv_aload_n hc.x hc.b dX4_init_16 rfl (lv_at hl 0 rfl) ?_
  refine lv_bipush (v := 8) hc.x hc.b dX4_init_17 (by decide) ?_
  refine lv_bipush (v := 8) hc.x hc.b dX4_init_19 (by decide) ?_
  refine q_mna (ty := .int) (K := 39) (G := g0) (I := 40) (b := 0) (N := 8) (M9 := 8) (z := (8, .inl (fun _ => 0))) hc hd hx hm hck.2.2.2.2.2.2.1 hck.1 tw_295 hc.kc.2.2.2.2.2.2.2.2.2.1 tw_68 (by decide) (by decide) (by decide) (fun x h => hfr x (List.mem_cons_of_mem _ (List.mem_append_right _ (List.mem_append_right _ (List.mem_append_right _ (List.mem_cons_of_mem _ (List.mem_append_left _ (h)))))))) (by simp only [mF, List.forall_mem_cons, List.forall_mem_map]; simp [mF] <;> omega) (cl_m_39 hc.cl) (fun β n => by
    show (.inl (cs 6, 8, .inr (.inr (.inr (.inr (fun j => some (β 40 j)))))) : va_E) = .inl (cs 6, 8, .inr (.inr (.inr (.inr (fun j => some (β 40 (0 + j)))))))
    simp only [Nat.zero_add]) (fun _ _ _ => rfl) (by decide) (by decide) rfl rfl (by decide) (by decide) (by decide) rfl rfl ⟨Nat.le_of_ble_eq_true rfl, Nat.le_of_ble_eq_true rfl⟩ (inner_int _ _) dX4_init_21 (fun α Lv H ho ha hv hN hc hd hx hm hrw => ?_)
  obtain ⟨S_2, hd, hf⟩ := nmD hd hf
  have e0 := (ha _ _ hL0).trans e0
  have hs1 := sl_k ha hL_37_g0 (hv 4601 _ (Nat.le_of_ble_eq_true rfl)) hs1
  have hL_37_g0 := ho _ _ hL_37_g0
  have hL0 := ho _ _ hL0
  have hL_39_g0 := hN
  refine q_putR (K := 136) (V := 4602) (k := 36) (j := 2) (k2 := 39) (i2 := g0) hc hin2 hd hx hm (by decide) rfl rfl (by decide) hL0 e0 hL_39_g0 rfl rfl inX4 tyX4 tyX4_ok nmX4 (by decide) tw_301 rfl rfl (ty := .array (.array .int)) (by decide +kernel) rfl rfl (by show _ < 7; decide) (fun x => by
    show (.inr (4, [_, _, r0 (up2 α 4602 g0 (x + 1) 4602 g0), _, _, _, _]) : va_E) = _
    rw [up2_s]; rfl) dX4_init_25 (fun α H locs ha hs2 hv hd hx hm => ?_)
  have e0 := (ha _ _ hL0).trans e0
  have hs1 := sl_k ha hL_37_g0 (hv 4601 _ (Nat.le_of_ble_eq_true rfl) (by decide)) hs1
  refine lv_aload_n hc.x hc.b dX4_init_28 rfl (lv_at hl 0 rfl) ?_
  refine lv_iconst (v := 4) hc.x hc.b dX4_init_29 (by decide) ?_
  refine q_newP (aty := .int) (K := 26) (G := 0) (N := 4) hc hd hx hm hck.1 tw_68 (fun _ => rfl) rfl (by decide) (by decide) (hfr _ (List.mem_cons_of_mem _ (List.mem_append_right _ (List.mem_append_right _ (List.mem_append_right _ (List.mem_cons_self)))))) (by simp [mF] <;> omega) (by decide) (by decide) (by decide) ⟨Nat.le_of_ble_eq_true rfl, Nat.le_of_ble_eq_true rfl⟩ dX4_init_30 (fun α Lv H ho ha hv hN hc hd hx hm => ?_)
  obtain ⟨S_3, hd, hf⟩ := nmD hd hf
  have e0 := (ha _ _ hL0).trans e0
  have hs1 := sl_k ha hL_37_g0 (hv 4601 _ (Nat.le_of_ble_eq_true rfl)) hs1
  have hs2 := sl_k ha hL_39_g0 (hv 4602 _ (Nat.le_of_ble_eq_true rfl)) hs2
  have hL_37_g0 := ho _ _ hL_37_g0
  have hL_39_g0 := ho _ _ hL_39_g0
  have hL0 := ho _ _ hL0
  have hL_26_0 := hN
  refine q_putR (K := 136) (V := 4603) (k := 36) (j := 3) (k2 := 26) (i2 := 0) hc hin2 hd hx hm (by decide) rfl rfl (by decide) hL0 e0 hL_26_0 rfl rfl inX4 tyX4 tyX4_ok nmX4 (by decide) tw_304 rfl rfl (ty := .array .int) (by decide +kernel) rfl rfl (by show _ < 7; decide) (fun x => by
    show (.inr (4, [_, _, _, r0 (up2 α 4603 g0 (x + 1) 4603 g0), _, _, _]) : va_E) = _
    rw [up2_s]; rfl) dX4_init_32 (fun α H locs ha hs3 hv hd hx hm => ?_)
  have e0 := (ha _ _ hL0).trans e0
  have hs1 := sl_k ha hL_37_g0 (hv 4601 _ (Nat.le_of_ble_eq_true rfl) (by decide)) hs1
  have hs2 := sl_k ha hL_39_g0 (hv 4602 _ (Nat.le_of_ble_eq_true rfl) (by decide)) hs2
  refine lv_aload_n hc.x hc.b dX4_init_35 rfl (lv_at hl 0 rfl) ?_
  refine lv_bipush (v := 40) hc.x hc.b dX4_init_36 (by decide) ?_
  refine lv_bipush (v := 8) hc.x hc.b dX4_init_38 (by decide) ?_
  refine q_mna (ty := .int) (K := 41) (G := g0) (I := 42) (b := 0) (N := 40) (M9 := 8) (z := (8, .inl (fun _ => 0))) hc hd hx hm hck.2.2.2.2.2.2.1 hck.1 tw_295 hc.kc.2.2.2.2.2.2.2.2.2.1 tw_68 (by decide) (by decide) (by decide) (fun x h => hfr x (List.mem_cons_of_mem _ (List.mem_append_right _ (List.mem_append_right _ (List.mem_append_left _ (h)))))) (by simp only [mF, List.forall_mem_cons, List.forall_mem_map]; simp [mF] <;> omega) (cl_m_41 hc.cl) (fun β n => by
    show (.inl (cs 6, 40, .inr (.inr (.inr (.inr (fun j => some (β 42 j)))))) : va_E) = .inl (cs 6, 40, .inr (.inr (.inr (.inr (fun j => some (β 42 (0 + j)))))))
    simp only [Nat.zero_add]) (fun _ _ _ => rfl) (by decide) (by decide) rfl rfl (by decide) (by decide) (by decide) rfl rfl ⟨Nat.le_of_ble_eq_true rfl, Nat.le_of_ble_eq_true rfl⟩ (inner_int _ _) dX4_init_40 (fun α Lv H ho ha hv hN hc hd hx hm hrw => ?_)
  obtain ⟨S_4, hd, hf⟩ := nmD hd hf
  have e0 := (ha _ _ hL0).trans e0
  have hs1 := sl_k ha hL_37_g0 (hv 4601 _ (Nat.le_of_ble_eq_true rfl)) hs1
  have hs2 := sl_k ha hL_39_g0 (hv 4602 _ (Nat.le_of_ble_eq_true rfl)) hs2
  have hs3 := sl_k ha hL_26_0 (hv 4603 _ (Nat.le_of_ble_eq_true rfl)) hs3
  have hL_37_g0 := ho _ _ hL_37_g0
  have hL_39_g0 := ho _ _ hL_39_g0
  have hL_26_0 := ho _ _ hL_26_0
  have hL0 := ho _ _ hL0
  have hL_41_g0 := hN
  refine q_putR (K := 136) (V := 4604) (k := 36) (j := 4) (k2 := 41) (i2 := g0) hc hin2 hd hx hm (by decide) rfl rfl (by decide) hL0 e0 hL_41_g0 rfl rfl inX4 tyX4 tyX4_ok nmX4 (by decide) tw_305 rfl rfl (ty := .array (.array .int)) (by decide +kernel) rfl rfl (by show _ < 7; decide) (fun x => by
    show (.inr (4, [_, _, _, _, r0 (up2 α 4604 g0 (x + 1) 4604 g0), _, _]) : va_E) = _
    rw [up2_s]; rfl) dX4_init_44 (fun α H locs ha hs4 hv hd hx hm => ?_)
  have e0 := (ha _ _ hL0).trans e0
  have hs1 := sl_k ha hL_37_g0 (hv 4601 _ (Nat.le_of_ble_eq_true rfl) (by decide)) hs1
  have hs2 := sl_k ha hL_39_g0 (hv 4602 _ (Nat.le_of_ble_eq_true rfl) (by decide)) hs2
  have hs3 := sl_k ha hL_26_0 (hv 4603 _ (Nat.le_of_ble_eq_true rfl) (by decide)) hs3
  refine lv_aload_n hc.x hc.b dX4_init_47 rfl (lv_at hl 0 rfl) ?_
  refine lv_bipush (v := 41) hc.x hc.b dX4_init_48 (by decide) ?_
  refine lv_bipush (v := 8) hc.x hc.b dX4_init_50 (by decide) ?_
  refine q_mna (ty := .int) (K := 43) (G := g0) (I := 48) (b := 0) (N := 41) (M9 := 8) (z := (8, .inl (fun _ => 0))) hc hd hx hm hck.2.2.2.2.2.2.1 hck.1 tw_295 hc.kc.2.2.2.2.2.2.2.2.2.1 tw_68 (by decide) (by decide) (by decide) (fun x h => hfr x (List.mem_cons_of_mem _ (List.mem_append_right _ (List.mem_append_left _ (h))))) (by simp only [mF, List.forall_mem_cons, List.forall_mem_map]; simp [mF] <;> omega) (cl_m_43 hc.cl) (fun β n => by
    show (.inl (cs 6, 41, .inr (.inr (.inr (.inr (fun j => some (β 48 j)))))) : va_E) = .inl (cs 6, 41, .inr (.inr (.inr (.inr (fun j => some (β 48 (0 + j)))))))
    simp only [Nat.zero_add]) (fun _ _ _ => rfl) (by decide) (by decide) rfl rfl (by decide) (by decide) (by decide) rfl rfl ⟨Nat.le_of_ble_eq_true rfl, Nat.le_of_ble_eq_true rfl⟩ (inner_int _ _) dX4_init_52 (fun α Lv H ho ha hv hN hc hd hx hm hrw => ?_)
  obtain ⟨S_5, hd, hf⟩ := nmD hd hf
  have e0 := (ha _ _ hL0).trans e0
  have hs1 := sl_k ha hL_37_g0 (hv 4601 _ (Nat.le_of_ble_eq_true rfl)) hs1
  have hs2 := sl_k ha hL_39_g0 (hv 4602 _ (Nat.le_of_ble_eq_true rfl)) hs2
  have hs3 := sl_k ha hL_26_0 (hv 4603 _ (Nat.le_of_ble_eq_true rfl)) hs3
  have hs4 := sl_k ha hL_41_g0 (hv 4604 _ (Nat.le_of_ble_eq_true rfl)) hs4
  have hL_37_g0 := ho _ _ hL_37_g0
  have hL_39_g0 := ho _ _ hL_39_g0
  have hL_26_0 := ho _ _ hL_26_0
  have hL_41_g0 := ho _ _ hL_41_g0
  have hL0 := ho _ _ hL0
  have hL_43_g0 := hN
  refine q_putR (K := 136) (V := 4605) (k := 36) (j := 5) (k2 := 43) (i2 := g0) hc hin2 hd hx hm (by decide) rfl rfl (by decide) hL0 e0 hL_43_g0 rfl rfl inX4 tyX4 tyX4_ok nmX4 (by decide) tw_306 rfl rfl (ty := .array (.array .int)) (by decide +kernel) rfl rfl (by show _ < 7; decide) (fun x => by
    show (.inr (4, [_, _, _, _, _, r0 (up2 α 4605 g0 (x + 1) 4605 g0), _]) : va_E) = _
    rw [up2_s]; rfl) dX4_init_56 (fun α H locs ha hs5 hv hd hx hm => ?_)
  have e0 := (ha _ _ hL0).trans e0
  have hs1 := sl_k ha hL_37_g0 (hv 4601 _ (Nat.le_of_ble_eq_true rfl) (by decide)) hs1
  have hs2 := sl_k ha hL_39_g0 (hv 4602 _ (Nat.le_of_ble_eq_true rfl) (by decide)) hs2
  have hs3 := sl_k ha hL_26_0 (hv 4603 _ (Nat.le_of_ble_eq_true rfl) (by decide)) hs3
  have hs4 := sl_k ha hL_41_g0 (hv 4604 _ (Nat.le_of_ble_eq_true rfl) (by decide)) hs4
  refine lv_aload_n hc.x hc.b dX4_init_59 rfl (lv_at hl 0 rfl) ?_
  refine lv_bipush (v := 41) hc.x hc.b dX4_init_60 (by decide) ?_
  refine lv_bipush (v := 8) hc.x hc.b dX4_init_62 (by decide) ?_
  refine q_mna (ty := .int) (K := 47) (G := g0) (I := 58) (b := 0) (N := 41) (M9 := 8) (z := (8, .inl (fun _ => 0))) hc hd hx hm hck.2.2.2.2.2.2.1 hck.1 tw_295 hc.kc.2.2.2.2.2.2.2.2.2.1 tw_68 (by decide) (by decide) (by decide) (fun x h => hfr x (List.mem_cons_of_mem _ (List.mem_append_left _ (h)))) (by simp only [mF, List.forall_mem_cons, List.forall_mem_map]; simp [mF] <;> omega) (cl_m_47 hc.cl) (fun β n => by
    show (.inl (cs 6, 41, .inr (.inr (.inr (.inr (fun j => some (β 58 j)))))) : va_E) = .inl (cs 6, 41, .inr (.inr (.inr (.inr (fun j => some (β 58 (0 + j)))))))
    simp only [Nat.zero_add]) (fun _ _ _ => rfl) (by decide) (by decide) rfl rfl (by decide) (by decide) (by decide) rfl rfl ⟨Nat.le_of_ble_eq_true rfl, Nat.le_of_ble_eq_true rfl⟩ (inner_int _ _) dX4_init_64 (fun α Lv H ho ha hv hN hc hd hx hm hrw => ?_)
  obtain ⟨S_6, hd, hf⟩ := nmD hd hf
  have e0 := (ha _ _ hL0).trans e0
  have hs1 := sl_k ha hL_37_g0 (hv 4601 _ (Nat.le_of_ble_eq_true rfl)) hs1
  have hs2 := sl_k ha hL_39_g0 (hv 4602 _ (Nat.le_of_ble_eq_true rfl)) hs2
  have hs3 := sl_k ha hL_26_0 (hv 4603 _ (Nat.le_of_ble_eq_true rfl)) hs3
  have hs4 := sl_k ha hL_41_g0 (hv 4604 _ (Nat.le_of_ble_eq_true rfl)) hs4
  have hs5 := sl_k ha hL_43_g0 (hv 4605 _ (Nat.le_of_ble_eq_true rfl)) hs5
  have hL_37_g0 := ho _ _ hL_37_g0
  have hL_39_g0 := ho _ _ hL_39_g0
  have hL_26_0 := ho _ _ hL_26_0
  have hL_41_g0 := ho _ _ hL_41_g0
  have hL_43_g0 := ho _ _ hL_43_g0
  have hL0 := ho _ _ hL0
  have hL_47_g0 := hN
  refine q_putR (K := 136) (V := 4606) (k := 36) (j := 6) (k2 := 47) (i2 := g0) hc hin2 hd hx hm (by decide) rfl rfl (by decide) hL0 e0 hL_47_g0 rfl rfl inX4 tyX4 tyX4_ok nmX4 (by decide) tw_308 rfl rfl (ty := .array (.array .int)) (by decide +kernel) rfl rfl (by show _ < 7; decide) (fun x => by
    show (.inr (4, [_, _, _, _, _, _, r0 (up2 α 4606 g0 (x + 1) 4606 g0)]) : va_E) = _
    rw [up2_s]; rfl) dX4_init_68 (fun α H locs ha hs6 hv hd hx hm => ?_)
  have e0 := (ha _ _ hL0).trans e0
  have hs1 := sl_k ha hL_37_g0 (hv 4601 _ (Nat.le_of_ble_eq_true rfl) (by decide)) hs1
  have hs2 := sl_k ha hL_39_g0 (hv 4602 _ (Nat.le_of_ble_eq_true rfl) (by decide)) hs2
  have hs3 := sl_k ha hL_26_0 (hv 4603 _ (Nat.le_of_ble_eq_true rfl) (by decide)) hs3
  have hs4 := sl_k ha hL_41_g0 (hv 4604 _ (Nat.le_of_ble_eq_true rfl) (by decide)) hs4
  have hs5 := sl_k ha hL_43_g0 (hv 4605 _ (Nat.le_of_ble_eq_true rfl) (by decide)) hs5
  refine q_cm (K := 136) (k := 36) (g := g0) hd hc hx hm (by decide) (by decide) hL0 (hfr _ (List.mem_cons_self)) (by simp [mF] <;> omega) (cl_ad_36 hc.cl ⟨adL.o hL_37_g0, adL.o hL_39_g0, adL.o hL_26_0, adL.o hL_41_g0, adL.o hL_43_g0, adL.o hL_47_g0⟩) (ce_cm_36 hs1 hs2 hs3 hs4 hs5 hs6) (fun α Lv ho ha hL0 ea hnK hc hd hx hm => ?_)
  obtain ⟨S_7, hd, hf⟩ := nmD hd hf
  have ea := ea.trans e0
  have hl : lv_has ls 1 [(0, .ref (α 36 g0))] := by rw [ea]; exact hl
  cases hf
  exact q_vret hc hd hr hx hm hL0 (ea.trans e00.symm) hnK dX4_init_71
theorem c_X4_init (l : Launch) (D : va_G) (cs : Nat → ClassId) (B0 : Nat) (kt : (Nat → Nat) × (Nat → Nat)) (α : Nat → Nat → Nat) (Lv : Nat → Nat → Prop) (S : St) (g0 : Nat) (hcl : Cl Lv) (hlt : ∀ k g, Lv k g → k < 1000) (hL0 : Lv 136 g0) (hfr : ∀ x ∈ F_X4_init g0, ¬ Lv x.1 x.2) {o : St} (hf : f_X4_init g0 S = some o) : Met l yX4_init (wz yX4_init cX4_init 1 none) (Rm 1 144 1246) (PzN D cs B0 kt α Lv S [.ref (α 136 g0)]) (QM D cs B0 α Lv 136 36 g0 (F_X4_init g0) [36] o) 144 1246 (AB B0) := met_ofI (by decide) rfl hcl (Nat.le_of_ble_eq_true rfl) (fun p e s m below meth c hc hck hnm hr hd ls hl => b_X4_init hc hck hnm hr hlt hL0 hfr hf hd hl)
theorem my_X4_init : MyI yX4_init cX4_init 1 0 := ⟨tw_292, tw_9, tw_293, rfl, by decide +kernel⟩
abbrev F_X6_init (g0 : Nat) : List (Nat × Nat) := (44, g0) :: (mF 45 1 46 (8 * 1) 8 ++ (mF 45 0 46 (8 * 0) 8 ++ []))
def f_X6_init (g0 : Nat) (S : St) : Option (St) := bv (zM S 45 0 46 (8 * 0) 8) (fun S_1 => bv (zM S_1 45 1 46 (8 * 1) 8) (fun S_2 => bv (cp S_2 144 44 g0) (fun S_3 => some S_3)))
set_option maxRecDepth 100000 in
set_option maxHeartbeats 8000000 in
theorem b_X6_init (hc : Cx p s m args meth c cX6_init 1 "PumpCrossing$Learners" D cs B0 kt Lv) (hck : CK cs s) (hin2 : meth.name = "<init>") (hr : meth.sig.returnType = none) {o : St} {S : St} {g0 : Nat} (hlt : ∀ k g, Lv k g → k < 1000) (hL0 : Lv 144 g0) (hfr : ∀ x ∈ F_X6_init g0, ¬ Lv x.1 x.2) {H : Heap} {locs : List Loc} {ls : Array Slot} (hf : f_X6_init g0 S = some o) (hd : Dy s D cs B0 α Lv S H locs) (hl : lv_has ls 1 [(0, .ref (α 144 g0))]) : W p l e (Rm 1 18 144) s m args below meth c H locs 0 0 (MQ below (QM D cs B0 α Lv 144 44 g0 (F_X6_init g0) [44] o) args s 18 144 (AB B0)) (F0 m 0 ls []) := by
  unfold f_X6_init at hf
  obtain ⟨a0, e0⟩ : ∃ a, α 144 g0 = a := ⟨_, rfl⟩
  have e00 := e0
  rw [e0] at hl
  have hx : Ex α Lv (144, g0) α Lv [] := Ex.start hlt
  have hm : Mk α [44] α := Mk.start
  refine lv_aload_n hc.x hc.b dX6_init_0 rfl (lv_at hl 0 rfl) ?_
  refine r_oini hc tw_330 tw_33 tw_34 hl.1 dX6_init_1 (Nat.zero_le _) ⟨Nat.le_of_ble_eq_true rfl, Nat.le_of_ble_eq_true rfl⟩ ?_
  refine lv_aload_n hc.x hc.b dX6_init_4 rfl (lv_at hl 0 rfl) ?_
  refine lv_bipush (v := 8) hc.x hc.b dX6_init_5 (by decide) ?_
  refine lv_bipush (v := 8) hc.x hc.b dX6_init_7 (by decide) ?_
  refine q_mna (ty := .int) (K := 45) (G := 0) (I := 46) (b := 8 * 0) (N := 8) (M9 := 8) (z := (8, .inl (fun _ => 0))) hc hd hx hm hck.2.2.2.2.2.2.1 hck.1 tw_331 hc.kc.2.2.2.2.2.2.2.2.2.1 tw_68 (by decide) (by decide) (by decide) (fun x h => hfr x (List.mem_cons_of_mem _ (List.mem_append_right _ (List.mem_append_left _ (h))))) (by simp only [mF, List.forall_mem_cons, List.forall_mem_map]; simp [mF] <;> omega) (cl_m_45 hc.cl) (fun _ _ => rfl) (fun _ _ _ => rfl) (by decide) (by decide) rfl rfl (by decide) (by decide) (by decide) rfl rfl ⟨Nat.le_of_ble_eq_true rfl, Nat.le_of_ble_eq_true rfl⟩ (inner_int _ _) dX6_init_9 (fun α Lv H ho ha hv hN hc hd hx hm hrw => ?_)
  obtain ⟨S_1, hd, hf⟩ := nmD hd hf
  have e0 := (ha _ _ hL0).trans e0
  have hL0 := ho _ _ hL0
  have hL_45_0 := hN
  refine q_putR (K := 144) (V := 5400) (k := 44) (j := 0) (k2 := 45) (i2 := 0) hc hin2 hd hx hm (by decide) rfl rfl (by decide) hL0 e0 hL_45_0 rfl rfl inX6 tyX6 tyX6_ok nmX6 (by decide) tw_332 rfl rfl (ty := .array (.array .int)) (by decide +kernel) rfl rfl (by show _ < 6; decide) (fun x => by
    show (.inr (6, [r0 (up2 α 5400 g0 (x + 1) 5400 g0), _, _, _, _, _]) : va_E) = _
    rw [up2_s]; rfl) dX6_init_13 (fun α H locs ha hs0 hv hd hx hm => ?_)
  have e0 := (ha _ _ hL0).trans e0
  refine lv_aload_n hc.x hc.b dX6_init_16 rfl (lv_at hl 0 rfl) ?_
  refine lv_bipush (v := 8) hc.x hc.b dX6_init_17 (by decide) ?_
  refine lv_bipush (v := 8) hc.x hc.b dX6_init_19 (by decide) ?_
  refine q_mna (ty := .int) (K := 45) (G := 1) (I := 46) (b := 8 * 1) (N := 8) (M9 := 8) (z := (8, .inl (fun _ => 0))) hc hd hx hm hck.2.2.2.2.2.2.1 hck.1 tw_331 hc.kc.2.2.2.2.2.2.2.2.2.1 tw_68 (by decide) (by decide) (by decide) (fun x h => hfr x (List.mem_cons_of_mem _ (List.mem_append_left _ (h)))) (by simp only [mF, List.forall_mem_cons, List.forall_mem_map]; simp [mF] <;> omega) (cl_m_45 hc.cl) (fun _ _ => rfl) (fun _ _ _ => rfl) (by decide) (by decide) rfl rfl (by decide) (by decide) (by decide) rfl rfl ⟨Nat.le_of_ble_eq_true rfl, Nat.le_of_ble_eq_true rfl⟩ (inner_int _ _) dX6_init_21 (fun α Lv H ho ha hv hN hc hd hx hm hrw => ?_)
  obtain ⟨S_2, hd, hf⟩ := nmD hd hf
  have e0 := (ha _ _ hL0).trans e0
  have hs0 := sl_k ha hL_45_0 (hv 5400 _ (Nat.le_of_ble_eq_true rfl)) hs0
  have hL_45_0 := ho _ _ hL_45_0
  have hL0 := ho _ _ hL0
  have hL_45_1 := hN
  refine q_putR (K := 144) (V := 5401) (k := 44) (j := 1) (k2 := 45) (i2 := 1) hc hin2 hd hx hm (by decide) rfl rfl (by decide) hL0 e0 hL_45_1 rfl rfl inX6 tyX6 tyX6_ok nmX6 (by decide) tw_333 rfl rfl (ty := .array (.array .int)) (by decide +kernel) rfl rfl (by show _ < 6; decide) (fun x => by
    show (.inr (6, [_, r0 (up2 α 5401 g0 (x + 1) 5401 g0), _, _, _, _]) : va_E) = _
    rw [up2_s]; rfl) dX6_init_25 (fun α H locs ha hs1 hv hd hx hm => ?_)
  have e0 := (ha _ _ hL0).trans e0
  have hs0 := sl_k ha hL_45_0 (hv 5400 _ (Nat.le_of_ble_eq_true rfl) (by decide)) hs0
  refine q_cm (K := 144) (k := 44) (g := g0) hd hc hx hm (by decide) (by decide) hL0 (hfr _ (List.mem_cons_self)) (by simp [mF] <;> omega) (cl_ad_44 hc.cl ⟨adL.o hL_45_0, adL.o hL_45_1⟩) (ce_cm_44 hs0 hs1) (fun α Lv ho ha hL0 ea hnK hc hd hx hm => ?_)
  obtain ⟨S_3, hd, hf⟩ := nmD hd hf
  have ea := ea.trans e0
  have hl : lv_has ls 1 [(0, .ref (α 44 g0))] := by rw [ea]; exact hl
  cases hf
  exact q_vret hc hd hr hx hm hL0 (ea.trans e00.symm) hnK dX6_init_28
theorem c_X6_init (l : Launch) (D : va_G) (cs : Nat → ClassId) (B0 : Nat) (kt : (Nat → Nat) × (Nat → Nat)) (α : Nat → Nat → Nat) (Lv : Nat → Nat → Prop) (S : St) (g0 : Nat) (hcl : Cl Lv) (hlt : ∀ k g, Lv k g → k < 1000) (hL0 : Lv 144 g0) (hfr : ∀ x ∈ F_X6_init g0, ¬ Lv x.1 x.2) {o : St} (hf : f_X6_init g0 S = some o) : Met l yX6_init (wz yX6_init cX6_init 1 none) (Rm 1 18 144) (PzN D cs B0 kt α Lv S [.ref (α 144 g0)]) (QM D cs B0 α Lv 144 44 g0 (F_X6_init g0) [44] o) 18 144 (AB B0) := met_ofI (by decide) rfl hcl (Nat.le_of_ble_eq_true rfl) (fun p e s m below meth c hc hck hnm hr hd ls hl => b_X6_init hc hck hnm hr hlt hL0 hfr hf hd hl)
theorem my_X6_init : MyI yX6_init cX6_init 1 0 := ⟨tw_328, tw_10, tw_329, rfl, by decide +kernel⟩
abbrev F_X8_init (g0 : Nat) : List (Nat × Nat) := (22, g0) :: ((25, g0) :: (mF 23 g0 24 (2 * g0) 2 ++ []))
def f_X8_init_32 (g0 : Nat) (x1 : Int32) (K : St → Option (St)) : Nat → Int32 → St → Option (St)
  | 0, _, _ => none
  | n + 1, x2, S => br (21 ≤ x2) (K S) (ck (inb x1 2 = true) (ck (inb x2 21 = true) (bv (si S 24 (2 * g0 + (nn x1)) (nn x2) 1) (fun S_8 => bv (x2 + 1) (fun x2_9 => f_X8_init_32 g0 x1 K n x2_9 S_8)))))
def f_X8_init_25 (g0 : Nat) (K : St → Option (St)) : Nat → Int32 → St → Option (St)
  | 0, _, _ => none
  | n + 1, x1, S => br (2 ≤ x1) (K S) (f_X8_init_32 g0 x1 (fun  (S_10 : St) => bv (x1 + 1) (fun x1_11 => f_X8_init_25 g0 K n x1_11 S_10)) FU 0 S)
def f_X8_init (g0 : Nat) (S : St) : Option (St) := bv (zM S 23 g0 24 (2 * g0) 2) (fun S_1 => bv (zr S_1 25 g0 18) (fun S_2 => bv (cp S_2 122 22 g0) (fun S_3 => f_X8_init_25 g0 (fun  (S_12 : St) => some S_12) FU 0 S_3)))
set_option maxRecDepth 100000 in
set_option maxHeartbeats 4000000 in
theorem w_X8_init_32 (hc : Cx p s m args meth c cX8_init 3 "PumpCrossing$Stories" D cs B0 kt Lv) (hr : meth.sig.returnType = none) {o : St}  {g0 : Nat} {x1 : Int32} {K : St → Option (St)} (hL0 : Lv 22 g0) (hK : ∀  (S : St) (H : Heap) (locs : List Loc) (ls : Array Slot), K S = some o → Dy s D cs B0 α Lv S H locs → lv_has ls 3 [(0, .ref (α 22 g0)), (1, .int x1)] → W p l e R s m args below meth c H locs cells slots Q (F0 m 53 ls [])) : ∀ (n : Nat) (x2 : Int32) (S : St) (H : Heap) (locs : List Loc) (ls : Array Slot), f_X8_init_32 g0 x1 K n x2 S = some o → Dy s D cs B0 α Lv S H locs → lv_has ls 3 [(0, .ref (α 22 g0)), (1, .int x1), (2, .int x2)] → W p l e R s m args below meth c H locs cells slots Q (F0 m 32 ls []) := by
  intro n
  induction n with
  | zero =>
    intro x2 S H locs ls hf
    rw [f_X8_init_32] at hf
    cases hf
  | succ n ih =>
    intro x2 S H locs ls hf hd hl
    rw [f_X8_init_32] at hf
    refine lv_iload_n hc.x hc.b dX8_init_32 rfl (lv_at hl 2 rfl) ?_
    refine lv_bipush (v := 21) hc.x hc.b dX8_init_33 (by decide) ?_
    refine lv_icmp_ge (tgt := 53) hc.x hc.b dX8_init_35 (by decide) (fun c_5 => ?_) (fun c_5 => ?_)
    · have hf := br_y c_5 hf
      exact hK S _ _ _ hf hd (lv_sub hl [0, 1] rfl)
    · have hf := br_n c_5 hf
      refine lv_aload_n hc.x hc.b dX8_init_38 rfl (lv_at hl 0 rfl) ?_
      refine fg_22_0 hc hd hL0 tw_121 dX8_init_39 ?_
      refine lv_iload_n hc.x hc.b dX8_init_42 rfl (lv_at hl 1 rfl) ?_
      obtain ⟨hi_6, hf⟩ := ck_s hf
      refine r_aald hc hd (cl_22_weights hc.cl hL0) (t0 := 6) rfl rfl rfl hi_6 dX8_init_43 ?_
      show W p l e R s m args below meth c H locs cells slots Q (F0 m 44 ls [.ref (α 24 (2 * g0 + (nn x1)))])
      refine lv_iload_n hc.x hc.b dX8_init_44 rfl (lv_at hl 2 rfl) ?_
      refine lv_iconst (v := 1) hc.x hc.b dX8_init_45 (by decide) ?_
      obtain ⟨hi_7, hf⟩ := ck_s hf
      refine r_iast hc hd (cl_23 hc.cl (cl_22_weights hc.cl hL0) (inb_lt hi_6)) (fun _ => rfl) hi_7 dX8_init_46 (fun H locs hd => ?_)
      obtain ⟨S_8, hd, hf⟩ := nmD hd hf
      obtain ⟨x2_9, ex2_9⟩ : ∃ z : Int32, z = x2 + 1 := ⟨_, rfl⟩
      have hf := bv_n ex2_9 hf
      refine lv_iinc (v := x2_9) (lv' := [(2, .int x2_9), (0, .ref (α 22 g0)), (1, .int x1)]) hc.x hc.b dX8_init_47 hl (k := 2) rfl (by rw [ex2_9]; rfl) (by decide) rfl (fun ls hl => ?_)
      refine lv_goto (tgt := 32) hc.x hc.b dX8_init_50 (by decide) ?_
      exact ih x2_9 S_8 _ _ _ hf hd (lv_sub hl [1, 2, 0] rfl)
set_option maxRecDepth 100000 in
set_option maxHeartbeats 4000000 in
theorem w_X8_init_25 (hc : Cx p s m args meth c cX8_init 3 "PumpCrossing$Stories" D cs B0 kt Lv) (hr : meth.sig.returnType = none) {o : St}  {g0 : Nat} {K : St → Option (St)} (hL0 : Lv 22 g0) (hK : ∀  (S : St) (H : Heap) (locs : List Loc) (ls : Array Slot), K S = some o → Dy s D cs B0 α Lv S H locs → lv_has ls 3 [] → W p l e R s m args below meth c H locs cells slots Q (F0 m 59 ls [])) : ∀ (n : Nat) (x1 : Int32) (S : St) (H : Heap) (locs : List Loc) (ls : Array Slot), f_X8_init_25 g0 K n x1 S = some o → Dy s D cs B0 α Lv S H locs → lv_has ls 3 [(0, .ref (α 22 g0)), (1, .int x1)] → W p l e R s m args below meth c H locs cells slots Q (F0 m 25 ls []) := by
  intro n
  induction n with
  | zero =>
    intro x1 S H locs ls hf
    rw [f_X8_init_25] at hf
    cases hf
  | succ n ih =>
    intro x1 S H locs ls hf hd hl
    rw [f_X8_init_25] at hf
    refine lv_iload_n hc.x hc.b dX8_init_25 rfl (lv_at hl 1 rfl) ?_
    refine lv_iconst (v := 2) hc.x hc.b dX8_init_26 (by decide) ?_
    refine lv_icmp_ge (tgt := 59) hc.x hc.b dX8_init_27 (by decide) (fun c_4 => ?_) (fun c_4 => ?_)
    · have hf := br_y c_4 hf
      exact hK S _ _ _ hf hd (lv_sub hl [] rfl)
    · have hf := br_n c_4 hf
      refine lv_iconst (v := 0) hc.x hc.b dX8_init_30 (by decide) ?_
      refine lv_istore_n (lv' := [(2, .int 0), (0, .ref (α 22 g0)), (1, .int x1)]) hc.x hc.b dX8_init_31 rfl hl (by decide) rfl (fun ls hl => ?_)
      refine w_X8_init_32 hc hr hL0 ?_ _ _ _ _ _ _ hf hd (lv_sub hl [1, 2, 0] rfl)
      intro S_10 H locs ls hf hd hl
      obtain ⟨x1_11, ex1_11⟩ : ∃ z : Int32, z = x1 + 1 := ⟨_, rfl⟩
      have hf := bv_n ex1_11 hf
      refine lv_iinc (v := x1_11) (lv' := [(1, .int x1_11), (0, .ref (α 22 g0))]) hc.x hc.b dX8_init_53 hl (k := 1) rfl (by rw [ex1_11]; rfl) (by decide) rfl (fun ls hl => ?_)
      refine lv_goto (tgt := 25) hc.x hc.b dX8_init_56 (by decide) ?_
      exact ih x1_11 S_10 _ _ _ hf hd (lv_sub hl [1, 0] rfl)
set_option maxRecDepth 100000 in
set_option maxHeartbeats 8000000 in
theorem b_X8_init (hc : Cx p s m args meth c cX8_init 3 "PumpCrossing$Stories" D cs B0 kt Lv) (hck : CK cs s) (hin2 : meth.name = "<init>") (hr : meth.sig.returnType = none) {o : St} {S : St} {g0 : Nat} (hlt : ∀ k g, Lv k g → k < 1000) (hL0 : Lv 122 g0) (hfr : ∀ x ∈ F_X8_init g0, ¬ Lv x.1 x.2) {H : Heap} {locs : List Loc} {ls : Array Slot} (hf : f_X8_init g0 S = some o) (hd : Dy s D cs B0 α Lv S H locs) (hl : lv_has ls 3 [(0, .ref (α 122 g0))]) : W p l e (Rm 1 4 62) s m args below meth c H locs 0 0 (MQ below (QM D cs B0 α Lv 122 22 g0 (F_X8_init g0) [22] o) args s 4 62 (AB B0)) (F0 m 0 ls []) := by
  unfold f_X8_init at hf
  obtain ⟨a0, e0⟩ : ∃ a, α 122 g0 = a := ⟨_, rfl⟩
  have e00 := e0
  rw [e0] at hl
  have hx : Ex α Lv (122, g0) α Lv [] := Ex.start hlt
  have hm : Mk α [22] α := Mk.start
  refine lv_aload_n hc.x hc.b dX8_init_0 rfl (lv_at hl 0 rfl) ?_
  refine r_oini hc tw_118 tw_33 tw_34 hl.1 dX8_init_1 (Nat.zero_le _) ⟨Nat.le_of_ble_eq_true rfl, Nat.le_of_ble_eq_true rfl⟩ ?_
  refine lv_aload_n hc.x hc.b dX8_init_4 rfl (lv_at hl 0 rfl) ?_
  refine lv_iconst (v := 2) hc.x hc.b dX8_init_5 (by decide) ?_
  refine lv_bipush (v := 21) hc.x hc.b dX8_init_6 (by decide) ?_
  refine q_mna (ty := .int) (K := 23) (G := g0) (I := 24) (b := 2 * g0) (N := 2) (M9 := 21) (z := (21, .inl (fun _ => 0))) hc hd hx hm hck.2.2.2.2.2.2.1 hck.1 tw_119 hc.kc.2.2.2.2.2.2.2.2.2.1 tw_68 (by decide) (by decide) (by decide) (fun x h => hfr x (List.mem_cons_of_mem _ (List.mem_cons_of_mem _ (List.mem_append_left _ (h))))) (by simp only [mF, List.forall_mem_cons, List.forall_mem_map]; simp [mF] <;> omega) (cl_m_23 hc.cl) (fun _ _ => rfl) (fun _ _ _ => rfl) (by decide) (by decide) rfl rfl (by decide) (by decide) (by decide) rfl rfl ⟨Nat.le_of_ble_eq_true rfl, Nat.le_of_ble_eq_true rfl⟩ (inner_int _ _) dX8_init_8 (fun α Lv H ho ha hv hN hc hd hx hm hrw => ?_)
  obtain ⟨S_1, hd, hf⟩ := nmD hd hf
  have e0 := (ha _ _ hL0).trans e0
  have hL0 := ho _ _ hL0
  have hL_23_g0 := hN
  refine q_putR (K := 122) (V := 3200) (k := 22) (j := 0) (k2 := 23) (i2 := g0) hc hin2 hd hx hm (by decide) rfl rfl (by decide) hL0 e0 hL_23_g0 rfl rfl inX8 tyX8 tyX8_ok nmX8 (by decide) tw_121 rfl rfl (ty := .array (.array .int)) (by decide +kernel) rfl rfl (by show _ < 4; decide) (fun x => by
    show (.inr (8, [r0 (up2 α 3200 g0 (x + 1) 3200 g0), _, _, _]) : va_E) = _
    rw [up2_s]; rfl) dX8_init_12 (fun α H locs ha hs0 hv hd hx hm => ?_)
  have e0 := (ha _ _ hL0).trans e0
  refine lv_aload_n hc.x hc.b dX8_init_15 rfl (lv_at hl 0 rfl) ?_
  refine lv_bipush (v := 18) hc.x hc.b dX8_init_16 (by decide) ?_
  refine q_newP (aty := .int) (K := 25) (G := g0) (N := 18) hc hd hx hm hck.1 tw_68 (fun _ => rfl) rfl (by decide) (by decide) (hfr _ (List.mem_cons_of_mem _ (List.mem_cons_self))) (by simp [mF] <;> omega) (by decide) (by decide) (by decide) ⟨Nat.le_of_ble_eq_true rfl, Nat.le_of_ble_eq_true rfl⟩ dX8_init_18 (fun α Lv H ho ha hv hN hc hd hx hm => ?_)
  obtain ⟨S_2, hd, hf⟩ := nmD hd hf
  have e0 := (ha _ _ hL0).trans e0
  have hs0 := sl_k ha hL_23_g0 (hv 3200 _ (Nat.le_of_ble_eq_true rfl)) hs0
  have hL_23_g0 := ho _ _ hL_23_g0
  have hL0 := ho _ _ hL0
  have hL_25_g0 := hN
  refine q_putR (K := 122) (V := 3201) (k := 22) (j := 1) (k2 := 25) (i2 := g0) hc hin2 hd hx hm (by decide) rfl rfl (by decide) hL0 e0 hL_25_g0 rfl rfl inX8 tyX8 tyX8_ok nmX8 (by decide) tw_122 rfl rfl (ty := .array .int) (by decide +kernel) rfl rfl (by show _ < 4; decide) (fun x => by
    show (.inr (8, [_, r0 (up2 α 3201 g0 (x + 1) 3201 g0), _, _]) : va_E) = _
    rw [up2_s]; rfl) dX8_init_20 (fun α H locs ha hs1 hv hd hx hm => ?_)
  have e0 := (ha _ _ hL0).trans e0
  have hs0 := sl_k ha hL_23_g0 (hv 3200 _ (Nat.le_of_ble_eq_true rfl) (by decide)) hs0
  refine q_cm (K := 122) (k := 22) (g := g0) hd hc hx hm (by decide) (by decide) hL0 (hfr _ (List.mem_cons_self)) (by simp [mF] <;> omega) (cl_ad_22 hc.cl ⟨adL.o hL_23_g0, adL.o hL_25_g0⟩) (ce_cm_22 hs0 hs1) (fun α Lv ho ha hL0 ea hnK hc hd hx hm => ?_)
  obtain ⟨S_3, hd, hf⟩ := nmD hd hf
  have ea := ea.trans e0
  have hl : lv_has ls 3 [(0, .ref (α 22 g0))] := by rw [ea]; exact hl
  refine lv_iconst (v := 0) hc.x hc.b dX8_init_23 (by decide) ?_
  refine lv_istore_n (lv' := [(1, .int 0), (0, .ref (α 22 g0))]) hc.x hc.b dX8_init_24 rfl hl (by decide) rfl (fun ls hl => ?_)
  refine w_X8_init_25 hc hr hL0 ?_ _ _ _ _ _ _ hf hd (lv_sub hl [1, 0] rfl)
  intro S_12 H locs ls hf hd hl
  cases hf
  exact q_vret hc hd hr hx hm hL0 (ea.trans e00.symm) hnK dX8_init_59
theorem c_X8_init (l : Launch) (D : va_G) (cs : Nat → ClassId) (B0 : Nat) (kt : (Nat → Nat) × (Nat → Nat)) (α : Nat → Nat → Nat) (Lv : Nat → Nat → Prop) (S : St) (g0 : Nat) (hcl : Cl Lv) (hlt : ∀ k g, Lv k g → k < 1000) (hL0 : Lv 122 g0) (hfr : ∀ x ∈ F_X8_init g0, ¬ Lv x.1 x.2) {o : St} (hf : f_X8_init g0 S = some o) : Met l yX8_init (wz yX8_init cX8_init 3 none) (Rm 1 4 62) (PzN D cs B0 kt α Lv S [.ref (α 122 g0)]) (QM D cs B0 α Lv 122 22 g0 (F_X8_init g0) [22] o) 4 62 (AB B0) := met_ofI (by decide) rfl hcl (Nat.le_of_ble_eq_true rfl) (fun p e s m below meth c hc hck hnm hr hd ls hl => b_X8_init hc hck hnm hr hlt hL0 hfr hf hd hl)
theorem my_X8_init : MyI yX8_init cX8_init 3 0 := ⟨tw_116, tw_6, tw_117, rfl, by decide +kernel⟩
abbrev F_X9_init (g0 : Nat) : List (Nat × Nat) := (28, g0) :: ((31, g0) :: ((30, g0) :: ((29, g0) :: [])))
def f_X9_init (g0 : Nat) (S : St) : Option (St) := bv (zr S 29 g0 400) (fun S_1 => bv (zr S_1 30 g0 400) (fun S_2 => bv (zr S_2 31 g0 12) (fun S_3 => bv (cp S_3 128 28 g0) (fun S_4 => bv (si S_4 28 g0 7 ((-1))) (fun S_5 => some S_5)))))
set_option maxRecDepth 100000 in
set_option maxHeartbeats 8000000 in
theorem b_X9_init (hc : Cx p s m args meth c cX9_init 1 "PumpCrossing$TextReader" D cs B0 kt Lv) (hck : CK cs s) (hin2 : meth.name = "<init>") (hr : meth.sig.returnType = none) {o : St} {S : St} {g0 : Nat} (hlt : ∀ k g, Lv k g → k < 1000) (hL0 : Lv 128 g0) (hfr : ∀ x ∈ F_X9_init g0, ¬ Lv x.1 x.2) {H : Heap} {locs : List Loc} {ls : Array Slot} (hf : f_X9_init g0 S = some o) (hd : Dy s D cs B0 α Lv S H locs) (hl : lv_has ls 1 [(0, .ref (α 128 g0))]) : W p l e (Rm 1 3 812) s m args below meth c H locs 0 0 (MQ below (QM D cs B0 α Lv 128 28 g0 (F_X9_init g0) [28] o) args s 3 812 (AB B0)) (F0 m 0 ls []) := by
  unfold f_X9_init at hf
  obtain ⟨a0, e0⟩ : ∃ a, α 128 g0 = a := ⟨_, rfl⟩
  have e00 := e0
  rw [e0] at hl
  have hx : Ex α Lv (128, g0) α Lv [] := Ex.start hlt
  have hm : Mk α [28] α := Mk.start
  refine lv_aload_n hc.x hc.b dX9_init_0 rfl (lv_at hl 0 rfl) ?_
  refine r_oini hc tw_217 tw_33 tw_34 hl.1 dX9_init_1 (Nat.zero_le _) ⟨Nat.le_of_ble_eq_true rfl, Nat.le_of_ble_eq_true rfl⟩ ?_
  refine lv_aload_n hc.x hc.b dX9_init_4 rfl (lv_at hl 0 rfl) ?_
  refine lv_sipush (v := 400) hc.x hc.b dX9_init_5 (by decide) ?_
  refine q_newP (aty := .byte) (K := 29) (G := g0) (N := 400) hc hd hx hm hck.2.2.1 tw_261 (fun _ => rfl) rfl (by decide) (by decide) (hfr _ (List.mem_cons_of_mem _ (List.mem_cons_of_mem _ (List.mem_cons_of_mem _ (List.mem_cons_self))))) (by simp) (by decide) (by decide) (by decide) ⟨Nat.le_of_ble_eq_true rfl, Nat.le_of_ble_eq_true rfl⟩ dX9_init_8 (fun α Lv H ho ha hv hN hc hd hx hm => ?_)
  obtain ⟨S_1, hd, hf⟩ := nmD hd hf
  have e0 := (ha _ _ hL0).trans e0
  have hL0 := ho _ _ hL0
  have hL_29_g0 := hN
  refine q_putR (K := 128) (V := 3800) (k := 28) (j := 0) (k2 := 29) (i2 := g0) hc hin2 hd hx hm (by decide) rfl rfl (by decide) hL0 e0 hL_29_g0 rfl rfl inX9 tyX9 tyX9_ok nmX9 (by decide) tw_218 rfl rfl (ty := .array .byte) (by decide +kernel) rfl rfl (by show _ < 11; decide) (fun x => by
    show (.inr (9, [r0 (up2 α 3800 g0 (x + 1) 3800 g0), _, _, _, _, _, _, _, _, _, _]) : va_E) = _
    rw [up2_s]; rfl) dX9_init_10 (fun α H locs ha hs0 hv hd hx hm => ?_)
  have e0 := (ha _ _ hL0).trans e0
  refine lv_aload_n hc.x hc.b dX9_init_13 rfl (lv_at hl 0 rfl) ?_
  refine lv_sipush (v := 400) hc.x hc.b dX9_init_14 (by decide) ?_
  refine q_newP (aty := .int) (K := 30) (G := g0) (N := 400) hc hd hx hm hck.1 tw_68 (fun _ => rfl) rfl (by decide) (by decide) (hfr _ (List.mem_cons_of_mem _ (List.mem_cons_of_mem _ (List.mem_cons_self)))) (by simp) (by decide) (by decide) (by decide) ⟨Nat.le_of_ble_eq_true rfl, Nat.le_of_ble_eq_true rfl⟩ dX9_init_17 (fun α Lv H ho ha hv hN hc hd hx hm => ?_)
  obtain ⟨S_2, hd, hf⟩ := nmD hd hf
  have e0 := (ha _ _ hL0).trans e0
  have hs0 := sl_k ha hL_29_g0 (hv 3800 _ (Nat.le_of_ble_eq_true rfl)) hs0
  have hL_29_g0 := ho _ _ hL_29_g0
  have hL0 := ho _ _ hL0
  have hL_30_g0 := hN
  refine q_putR (K := 128) (V := 3802) (k := 28) (j := 2) (k2 := 30) (i2 := g0) hc hin2 hd hx hm (by decide) rfl rfl (by decide) hL0 e0 hL_30_g0 rfl rfl inX9 tyX9 tyX9_ok nmX9 (by decide) tw_222 rfl rfl (ty := .array .int) (by decide +kernel) rfl rfl (by show _ < 11; decide) (fun x => by
    show (.inr (9, [_, _, r0 (up2 α 3802 g0 (x + 1) 3802 g0), _, _, _, _, _, _, _, _]) : va_E) = _
    rw [up2_s]; rfl) dX9_init_19 (fun α H locs ha hs2 hv hd hx hm => ?_)
  have e0 := (ha _ _ hL0).trans e0
  have hs0 := sl_k ha hL_29_g0 (hv 3800 _ (Nat.le_of_ble_eq_true rfl) (by decide)) hs0
  refine lv_aload_n hc.x hc.b dX9_init_22 rfl (lv_at hl 0 rfl) ?_
  refine lv_bipush (v := 12) hc.x hc.b dX9_init_23 (by decide) ?_
  refine q_newP (aty := .int) (K := 31) (G := g0) (N := 12) hc hd hx hm hck.1 tw_68 (fun _ => rfl) rfl (by decide) (by decide) (hfr _ (List.mem_cons_of_mem _ (List.mem_cons_self))) (by simp) (by decide) (by decide) (by decide) ⟨Nat.le_of_ble_eq_true rfl, Nat.le_of_ble_eq_true rfl⟩ dX9_init_25 (fun α Lv H ho ha hv hN hc hd hx hm => ?_)
  obtain ⟨S_3, hd, hf⟩ := nmD hd hf
  have e0 := (ha _ _ hL0).trans e0
  have hs0 := sl_k ha hL_29_g0 (hv 3800 _ (Nat.le_of_ble_eq_true rfl)) hs0
  have hs2 := sl_k ha hL_30_g0 (hv 3802 _ (Nat.le_of_ble_eq_true rfl)) hs2
  have hL_29_g0 := ho _ _ hL_29_g0
  have hL_30_g0 := ho _ _ hL_30_g0
  have hL0 := ho _ _ hL0
  have hL_31_g0 := hN
  refine q_putR (K := 128) (V := 3804) (k := 28) (j := 4) (k2 := 31) (i2 := g0) hc hin2 hd hx hm (by decide) rfl rfl (by decide) hL0 e0 hL_31_g0 rfl rfl inX9 tyX9 tyX9_ok nmX9 (by decide) tw_227 rfl rfl (ty := .array .int) (by decide +kernel) rfl rfl (by show _ < 11; decide) (fun x => by
    show (.inr (9, [_, _, _, _, r0 (up2 α 3804 g0 (x + 1) 3804 g0), _, _, _, _, _, _]) : va_E) = _
    rw [up2_s]; rfl) dX9_init_27 (fun α H locs ha hs4 hv hd hx hm => ?_)
  have e0 := (ha _ _ hL0).trans e0
  have hs0 := sl_k ha hL_29_g0 (hv 3800 _ (Nat.le_of_ble_eq_true rfl) (by decide)) hs0
  have hs2 := sl_k ha hL_30_g0 (hv 3802 _ (Nat.le_of_ble_eq_true rfl) (by decide)) hs2
  refine q_cm (K := 128) (k := 28) (g := g0) hd hc hx hm (by decide) (by decide) hL0 (hfr _ (List.mem_cons_self)) (by simp) (cl_ad_28 hc.cl ⟨adL.o hL_29_g0, adL.o hL_30_g0, adL.o hL_31_g0⟩) (ce_cm_28 hs0 hs2 hs4) (fun α Lv ho ha hL0 ea hnK hc hd hx hm => ?_)
  obtain ⟨S_4, hd, hf⟩ := nmD hd hf
  have ea := ea.trans e0
  have hl : lv_has ls 1 [(0, .ref (α 28 g0))] := by rw [ea]; exact hl
  refine lv_aload_n hc.x hc.b dX9_init_30 rfl (lv_at hl 0 rfl) ?_
  refine lv_iconst (v := (-1)) hc.x hc.b dX9_init_31 (by decide) ?_
  refine fp_28_7 hc hd hL0 tw_233 dX9_init_32 (fun H locs hd => ?_)
  obtain ⟨S_5, hd, hf⟩ := nmD hd hf
  cases hf
  exact q_vret hc hd hr hx hm hL0 (ea.trans e00.symm) hnK dX9_init_35
theorem c_X9_init (l : Launch) (D : va_G) (cs : Nat → ClassId) (B0 : Nat) (kt : (Nat → Nat) × (Nat → Nat)) (α : Nat → Nat → Nat) (Lv : Nat → Nat → Prop) (S : St) (g0 : Nat) (hcl : Cl Lv) (hlt : ∀ k g, Lv k g → k < 1000) (hL0 : Lv 128 g0) (hfr : ∀ x ∈ F_X9_init g0, ¬ Lv x.1 x.2) {o : St} (hf : f_X9_init g0 S = some o) : Met l yX9_init (wz yX9_init cX9_init 1 none) (Rm 1 3 812) (PzN D cs B0 kt α Lv S [.ref (α 128 g0)]) (QM D cs B0 α Lv 128 28 g0 (F_X9_init g0) [28] o) 3 812 (AB B0) := met_ofI (by decide) rfl hcl (Nat.le_of_ble_eq_true rfl) (fun p e s m below meth c hc hck hnm hr hd ls hl => b_X9_init hc hck hnm hr hlt hL0 hfr hf hd hl)
theorem my_X9_init : MyI yX9_init cX9_init 1 0 := ⟨tw_215, tw_7, tw_216, rfl, by decide +kernel⟩
abbrev F_X10_init (g0 : Nat) : List (Nat × Nat) := (49, g0) :: (mF 56 g0 57 (0) 28 ++ (mF 54 g0 55 (0) 29 ++ (mF 52 g0 53 (0) 4 ++ ((51, g0) :: ((50, g0) :: [])))))
def f_X10_init_55 (g0 : Nat) (K : St → Option (St)) : Nat → Int32 → St → Option (St)
  | 0, _, _ => none
  | n + 1, x1, S => br (4 ≤ x1) (K S) (ck (inb x1 4 = true) (bv (si S 50 g0 (nn x1) ((-1))) (fun S_9 => bv (x1 + 1) (fun x1_10 => f_X10_init_55 g0 K n x1_10 S_9))))
def f_X10_init (g0 : Nat) (S : St) : Option (St) := bv (zr S 50 g0 4) (fun S_1 => bv (zr S_1 51 g0 4) (fun S_2 => bv (zM S_2 52 g0 53 (0) 4) (fun S_3 => bv (zM S_3 54 g0 55 (0) 29) (fun S_4 => bv (zM S_4 56 g0 57 (0) 28) (fun S_5 => bv (cp S_5 149 49 g0) (fun S_6 => f_X10_init_55 g0 (fun  (S_11 : St) => some S_11) FU 0 S_6))))))
set_option maxRecDepth 100000 in
set_option maxHeartbeats 4000000 in
theorem w_X10_init_55 (hc : Cx p s m args meth c cX10_init 2 "PumpCrossing$Trays" D cs B0 kt Lv) (hr : meth.sig.returnType = none) {o : St}  {g0 : Nat} {K : St → Option (St)} (hL0 : Lv 49 g0) (hK : ∀  (S : St) (H : Heap) (locs : List Loc) (ls : Array Slot), K S = some o → Dy s D cs B0 α Lv S H locs → lv_has ls 2 [] → W p l e R s m args below meth c H locs cells slots Q (F0 m 73 ls [])) : ∀ (n : Nat) (x1 : Int32) (S : St) (H : Heap) (locs : List Loc) (ls : Array Slot), f_X10_init_55 g0 K n x1 S = some o → Dy s D cs B0 α Lv S H locs → lv_has ls 2 [(0, .ref (α 49 g0)), (1, .int x1)] → W p l e R s m args below meth c H locs cells slots Q (F0 m 55 ls []) := by
  intro n
  induction n with
  | zero =>
    intro x1 S H locs ls hf
    rw [f_X10_init_55] at hf
    cases hf
  | succ n ih =>
    intro x1 S H locs ls hf hd hl
    rw [f_X10_init_55] at hf
    refine lv_iload_n hc.x hc.b dX10_init_55 rfl (lv_at hl 1 rfl) ?_
    refine lv_iconst (v := 4) hc.x hc.b dX10_init_56 (by decide) ?_
    refine lv_icmp_ge (tgt := 73) hc.x hc.b dX10_init_57 (by decide) (fun c_7 => ?_) (fun c_7 => ?_)
    · have hf := br_y c_7 hf
      exact hK S _ _ _ hf hd (lv_sub hl [] rfl)
    · have hf := br_n c_7 hf
      refine lv_aload_n hc.x hc.b dX10_init_60 rfl (lv_at hl 0 rfl) ?_
      refine fg_49_0 hc hd hL0 tw_271 dX10_init_61 ?_
      refine lv_iload_n hc.x hc.b dX10_init_64 rfl (lv_at hl 1 rfl) ?_
      refine lv_iconst (v := (-1)) hc.x hc.b dX10_init_65 (by decide) ?_
      obtain ⟨hi_8, hf⟩ := ck_s hf
      refine r_iast hc hd (cl_49_sorts hc.cl hL0) (fun _ => rfl) hi_8 dX10_init_66 (fun H locs hd => ?_)
      obtain ⟨S_9, hd, hf⟩ := nmD hd hf
      obtain ⟨x1_10, ex1_10⟩ : ∃ z : Int32, z = x1 + 1 := ⟨_, rfl⟩
      have hf := bv_n ex1_10 hf
      refine lv_iinc (v := x1_10) (lv' := [(1, .int x1_10), (0, .ref (α 49 g0))]) hc.x hc.b dX10_init_67 hl (k := 1) rfl (by rw [ex1_10]; rfl) (by decide) rfl (fun ls hl => ?_)
      refine lv_goto (tgt := 55) hc.x hc.b dX10_init_70 (by decide) ?_
      exact ih x1_10 S_9 _ _ _ hf hd (lv_sub hl [1, 0] rfl)
set_option maxRecDepth 100000 in
set_option maxHeartbeats 8000000 in
theorem b_X10_init (hc : Cx p s m args meth c cX10_init 2 "PumpCrossing$Trays" D cs B0 kt Lv) (hck : CK cs s) (hin2 : meth.name = "<init>") (hr : meth.sig.returnType = none) {o : St} {S : St} {g0 : Nat} (hlt : ∀ k g, Lv k g → k < 1000) (hL0 : Lv 149 g0) (hfr : ∀ x ∈ F_X10_init g0, ¬ Lv x.1 x.2) {H : Heap} {locs : List Loc} {ls : Array Slot} (hf : f_X10_init g0 S = some o) (hd : Dy s D cs B0 α Lv S H locs) (hl : lv_has ls 2 [(0, .ref (α 149 g0))]) : W p l e (Rm 1 66 922) s m args below meth c H locs 0 0 (MQ below (QM D cs B0 α Lv 149 49 g0 (F_X10_init g0) [49] o) args s 66 922 (AB B0)) (F0 m 0 ls []) := by
  unfold f_X10_init at hf
  obtain ⟨a0, e0⟩ : ∃ a, α 149 g0 = a := ⟨_, rfl⟩
  have e00 := e0
  rw [e0] at hl
  have hx : Ex α Lv (149, g0) α Lv [] := Ex.start hlt
  have hm : Mk α [49] α := Mk.start
  refine lv_aload_n hc.x hc.b dX10_init_0 rfl (lv_at hl 0 rfl) ?_
  refine r_oini hc tw_267 tw_33 tw_34 hl.1 dX10_init_1 (Nat.zero_le _) ⟨Nat.le_of_ble_eq_true rfl, Nat.le_of_ble_eq_true rfl⟩ ?_
  refine lv_aload_n hc.x hc.b dX10_init_4 rfl (lv_at hl 0 rfl) ?_
  refine lv_iconst (v := 4) hc.x hc.b dX10_init_5 (by decide) ?_
  refine q_newP (aty := .int) (K := 50) (G := g0) (N := 4) hc hd hx hm hck.1 tw_68 (fun _ => rfl) rfl (by decide) (by decide) (hfr _ (List.mem_cons_of_mem _ (List.mem_append_right _ (List.mem_append_right _ (List.mem_append_right _ (List.mem_cons_of_mem _ (List.mem_cons_self))))))) (by simp) (by decide) (by decide) (by decide) ⟨Nat.le_of_ble_eq_true rfl, Nat.le_of_ble_eq_true rfl⟩ dX10_init_6 (fun α Lv H ho ha hv hN hc hd hx hm => ?_)
  obtain ⟨S_1, hd, hf⟩ := nmD hd hf
  have e0 := (ha _ _ hL0).trans e0
  have hL0 := ho _ _ hL0
  have hL_50_g0 := hN
  refine q_putR (K := 149) (V := 5900) (k := 49) (j := 0) (k2 := 50) (i2 := g0) hc hin2 hd hx hm (by decide) rfl rfl (by decide) hL0 e0 hL_50_g0 rfl rfl inX10 tyX10 tyX10_ok nmX10 (by decide) tw_271 rfl rfl (ty := .array .int) (by decide +kernel) rfl rfl (by show _ < 5; decide) (fun x => by
    show (.inr (10, [r0 (up2 α 5900 g0 (x + 1) 5900 g0), _, _, _, _]) : va_E) = _
    rw [up2_s]; rfl) dX10_init_8 (fun α H locs ha hs0 hv hd hx hm => ?_)
  have e0 := (ha _ _ hL0).trans e0
  refine lv_aload_n hc.x hc.b dX10_init_11 rfl (lv_at hl 0 rfl) ?_
  refine lv_iconst (v := 4) hc.x hc.b dX10_init_12 (by decide) ?_
  refine q_newP (aty := .int) (K := 51) (G := g0) (N := 4) hc hd hx hm hck.1 tw_68 (fun _ => rfl) rfl (by decide) (by decide) (hfr _ (List.mem_cons_of_mem _ (List.mem_append_right _ (List.mem_append_right _ (List.mem_append_right _ (List.mem_cons_self)))))) (by simp) (by decide) (by decide) (by decide) ⟨Nat.le_of_ble_eq_true rfl, Nat.le_of_ble_eq_true rfl⟩ dX10_init_13 (fun α Lv H ho ha hv hN hc hd hx hm => ?_)
  obtain ⟨S_2, hd, hf⟩ := nmD hd hf
  have e0 := (ha _ _ hL0).trans e0
  have hs0 := sl_k ha hL_50_g0 (hv 5900 _ (Nat.le_of_ble_eq_true rfl)) hs0
  have hL_50_g0 := ho _ _ hL_50_g0
  have hL0 := ho _ _ hL0
  have hL_51_g0 := hN
  refine q_putR (K := 149) (V := 5901) (k := 49) (j := 1) (k2 := 51) (i2 := g0) hc hin2 hd hx hm (by decide) rfl rfl (by decide) hL0 e0 hL_51_g0 rfl rfl inX10 tyX10 tyX10_ok nmX10 (by decide) tw_272 rfl rfl (ty := .array .int) (by decide +kernel) rfl rfl (by show _ < 5; decide) (fun x => by
    show (.inr (10, [_, r0 (up2 α 5901 g0 (x + 1) 5901 g0), _, _, _]) : va_E) = _
    rw [up2_s]; rfl) dX10_init_15 (fun α H locs ha hs1 hv hd hx hm => ?_)
  have e0 := (ha _ _ hL0).trans e0
  have hs0 := sl_k ha hL_50_g0 (hv 5900 _ (Nat.le_of_ble_eq_true rfl) (by decide)) hs0
  refine lv_aload_n hc.x hc.b dX10_init_18 rfl (lv_at hl 0 rfl) ?_
  refine lv_iconst (v := 4) hc.x hc.b dX10_init_19 (by decide) ?_
  refine lv_bipush (v := 28) hc.x hc.b dX10_init_20 (by decide) ?_
  refine q_mna (ty := .long) (K := 52) (G := g0) (I := 53) (b := 0) (N := 4) (M9 := 28) (z := (28, .inr (.inl (fun _ => 0)))) hc hd hx hm hck.2.2.2.2.2.2.2 hck.2.1 tw_268 hc.kc.2.2.2.2.2.2.2.2.2.2.1 tw_69 (by decide) (by decide) (by decide) (fun x h => hfr x (List.mem_cons_of_mem _ (List.mem_append_right _ (List.mem_append_right _ (List.mem_append_left _ (h)))))) (by simp only [mF, List.forall_mem_cons, List.forall_mem_map]; simp [mF] <;> omega) (cl_m_52 hc.cl) (fun β n => by
    show (.inl (cs 7, 4, .inr (.inr (.inr (.inr (fun j => some (β 53 j)))))) : va_E) = .inl (cs 7, 4, .inr (.inr (.inr (.inr (fun j => some (β 53 (0 + j)))))))
    simp only [Nat.zero_add]) (fun _ _ _ => rfl) (by decide) (by decide) rfl rfl (by decide) (by decide) (by decide) rfl rfl ⟨Nat.le_of_ble_eq_true rfl, Nat.le_of_ble_eq_true rfl⟩ (inner_long _ _) dX10_init_22 (fun α Lv H ho ha hv hN hc hd hx hm hrw => ?_)
  obtain ⟨S_3, hd, hf⟩ := nmD hd hf
  have e0 := (ha _ _ hL0).trans e0
  have hs0 := sl_k ha hL_50_g0 (hv 5900 _ (Nat.le_of_ble_eq_true rfl)) hs0
  have hs1 := sl_k ha hL_51_g0 (hv 5901 _ (Nat.le_of_ble_eq_true rfl)) hs1
  have hL_50_g0 := ho _ _ hL_50_g0
  have hL_51_g0 := ho _ _ hL_51_g0
  have hL0 := ho _ _ hL0
  have hL_52_g0 := hN
  refine q_putR (K := 149) (V := 5902) (k := 49) (j := 2) (k2 := 52) (i2 := g0) hc hin2 hd hx hm (by decide) rfl rfl (by decide) hL0 e0 hL_52_g0 rfl rfl inX10 tyX10 tyX10_ok nmX10 (by decide) tw_274 rfl rfl (ty := .array (.array .long)) (by decide +kernel) rfl rfl (by show _ < 5; decide) (fun x => by
    show (.inr (10, [_, _, r0 (up2 α 5902 g0 (x + 1) 5902 g0), _, _]) : va_E) = _
    rw [up2_s]; rfl) dX10_init_26 (fun α H locs ha hs2 hv hd hx hm => ?_)
  have e0 := (ha _ _ hL0).trans e0
  have hs0 := sl_k ha hL_50_g0 (hv 5900 _ (Nat.le_of_ble_eq_true rfl) (by decide)) hs0
  have hs1 := sl_k ha hL_51_g0 (hv 5901 _ (Nat.le_of_ble_eq_true rfl) (by decide)) hs1
  refine lv_aload_n hc.x hc.b dX10_init_29 rfl (lv_at hl 0 rfl) ?_
  refine lv_bipush (v := 29) hc.x hc.b dX10_init_30 (by decide) ?_
  refine lv_bipush (v := 13) hc.x hc.b dX10_init_32 (by decide) ?_
  refine q_mna (ty := .int) (K := 54) (G := g0) (I := 55) (b := 0) (N := 29) (M9 := 13) (z := (13, .inl (fun _ => 0))) hc hd hx hm hck.2.2.2.2.2.2.1 hck.1 tw_270 hc.kc.2.2.2.2.2.2.2.2.2.1 tw_68 (by decide) (by decide) (by decide) (fun x h => hfr x (List.mem_cons_of_mem _ (List.mem_append_right _ (List.mem_append_left _ (h))))) (by simp only [mF, List.forall_mem_cons, List.forall_mem_map]; simp [mF] <;> omega) (cl_m_54 hc.cl) (fun β n => by
    show (.inl (cs 6, 29, .inr (.inr (.inr (.inr (fun j => some (β 55 j)))))) : va_E) = .inl (cs 6, 29, .inr (.inr (.inr (.inr (fun j => some (β 55 (0 + j)))))))
    simp only [Nat.zero_add]) (fun _ _ _ => rfl) (by decide) (by decide) rfl rfl (by decide) (by decide) (by decide) rfl rfl ⟨Nat.le_of_ble_eq_true rfl, Nat.le_of_ble_eq_true rfl⟩ (inner_int _ _) dX10_init_34 (fun α Lv H ho ha hv hN hc hd hx hm hrw => ?_)
  obtain ⟨S_4, hd, hf⟩ := nmD hd hf
  have e0 := (ha _ _ hL0).trans e0
  have hs0 := sl_k ha hL_50_g0 (hv 5900 _ (Nat.le_of_ble_eq_true rfl)) hs0
  have hs1 := sl_k ha hL_51_g0 (hv 5901 _ (Nat.le_of_ble_eq_true rfl)) hs1
  have hs2 := sl_k ha hL_52_g0 (hv 5902 _ (Nat.le_of_ble_eq_true rfl)) hs2
  have hL_50_g0 := ho _ _ hL_50_g0
  have hL_51_g0 := ho _ _ hL_51_g0
  have hL_52_g0 := ho _ _ hL_52_g0
  have hL0 := ho _ _ hL0
  have hL_54_g0 := hN
  refine q_putR (K := 149) (V := 5903) (k := 49) (j := 3) (k2 := 54) (i2 := g0) hc hin2 hd hx hm (by decide) rfl rfl (by decide) hL0 e0 hL_54_g0 rfl rfl inX10 tyX10 tyX10_ok nmX10 (by decide) tw_276 rfl rfl (ty := .array (.array .int)) (by decide +kernel) rfl rfl (by show _ < 5; decide) (fun x => by
    show (.inr (10, [_, _, _, r0 (up2 α 5903 g0 (x + 1) 5903 g0), _]) : va_E) = _
    rw [up2_s]; rfl) dX10_init_38 (fun α H locs ha hs3 hv hd hx hm => ?_)
  have e0 := (ha _ _ hL0).trans e0
  have hs0 := sl_k ha hL_50_g0 (hv 5900 _ (Nat.le_of_ble_eq_true rfl) (by decide)) hs0
  have hs1 := sl_k ha hL_51_g0 (hv 5901 _ (Nat.le_of_ble_eq_true rfl) (by decide)) hs1
  have hs2 := sl_k ha hL_52_g0 (hv 5902 _ (Nat.le_of_ble_eq_true rfl) (by decide)) hs2
  refine lv_aload_n hc.x hc.b dX10_init_41 rfl (lv_at hl 0 rfl) ?_
  refine lv_bipush (v := 28) hc.x hc.b dX10_init_42 (by decide) ?_
  refine lv_bipush (v := 13) hc.x hc.b dX10_init_44 (by decide) ?_
  refine q_mna (ty := .int) (K := 56) (G := g0) (I := 57) (b := 0) (N := 28) (M9 := 13) (z := (13, .inl (fun _ => 0))) hc hd hx hm hck.2.2.2.2.2.2.1 hck.1 tw_270 hc.kc.2.2.2.2.2.2.2.2.2.1 tw_68 (by decide) (by decide) (by decide) (fun x h => hfr x (List.mem_cons_of_mem _ (List.mem_append_left _ (h)))) (by simp only [mF, List.forall_mem_cons, List.forall_mem_map]; simp [mF] <;> omega) (cl_m_56 hc.cl) (fun β n => by
    show (.inl (cs 6, 28, .inr (.inr (.inr (.inr (fun j => some (β 57 j)))))) : va_E) = .inl (cs 6, 28, .inr (.inr (.inr (.inr (fun j => some (β 57 (0 + j)))))))
    simp only [Nat.zero_add]) (fun _ _ _ => rfl) (by decide) (by decide) rfl rfl (by decide) (by decide) (by decide) rfl rfl ⟨Nat.le_of_ble_eq_true rfl, Nat.le_of_ble_eq_true rfl⟩ (inner_int _ _) dX10_init_46 (fun α Lv H ho ha hv hN hc hd hx hm hrw => ?_)
  obtain ⟨S_5, hd, hf⟩ := nmD hd hf
  have e0 := (ha _ _ hL0).trans e0
  have hs0 := sl_k ha hL_50_g0 (hv 5900 _ (Nat.le_of_ble_eq_true rfl)) hs0
  have hs1 := sl_k ha hL_51_g0 (hv 5901 _ (Nat.le_of_ble_eq_true rfl)) hs1
  have hs2 := sl_k ha hL_52_g0 (hv 5902 _ (Nat.le_of_ble_eq_true rfl)) hs2
  have hs3 := sl_k ha hL_54_g0 (hv 5903 _ (Nat.le_of_ble_eq_true rfl)) hs3
  have hL_50_g0 := ho _ _ hL_50_g0
  have hL_51_g0 := ho _ _ hL_51_g0
  have hL_52_g0 := ho _ _ hL_52_g0
  have hL_54_g0 := ho _ _ hL_54_g0
  have hL0 := ho _ _ hL0
  have hL_56_g0 := hN
  refine q_putR (K := 149) (V := 5904) (k := 49) (j := 4) (k2 := 56) (i2 := g0) hc hin2 hd hx hm (by decide) rfl rfl (by decide) hL0 e0 hL_56_g0 rfl rfl inX10 tyX10 tyX10_ok nmX10 (by decide) tw_277 rfl rfl (ty := .array (.array .int)) (by decide +kernel) rfl rfl (by show _ < 5; decide) (fun x => by
    show (.inr (10, [_, _, _, _, r0 (up2 α 5904 g0 (x + 1) 5904 g0)]) : va_E) = _
    rw [up2_s]; rfl) dX10_init_50 (fun α H locs ha hs4 hv hd hx hm => ?_)
  have e0 := (ha _ _ hL0).trans e0
  have hs0 := sl_k ha hL_50_g0 (hv 5900 _ (Nat.le_of_ble_eq_true rfl) (by decide)) hs0
  have hs1 := sl_k ha hL_51_g0 (hv 5901 _ (Nat.le_of_ble_eq_true rfl) (by decide)) hs1
  have hs2 := sl_k ha hL_52_g0 (hv 5902 _ (Nat.le_of_ble_eq_true rfl) (by decide)) hs2
  have hs3 := sl_k ha hL_54_g0 (hv 5903 _ (Nat.le_of_ble_eq_true rfl) (by decide)) hs3
  refine q_cm (K := 149) (k := 49) (g := g0) hd hc hx hm (by decide) (by decide) hL0 (hfr _ (List.mem_cons_self)) (by simp [mF] <;> omega) (cl_ad_49 hc.cl ⟨adL.o hL_50_g0, adL.o hL_51_g0, adL.o hL_52_g0, adL.o hL_54_g0, adL.o hL_56_g0⟩) (ce_cm_49 hs0 hs1 hs2 hs3 hs4) (fun α Lv ho ha hL0 ea hnK hc hd hx hm => ?_)
  obtain ⟨S_6, hd, hf⟩ := nmD hd hf
  have ea := ea.trans e0
  have hl : lv_has ls 2 [(0, .ref (α 49 g0))] := by rw [ea]; exact hl
  refine lv_iconst (v := 0) hc.x hc.b dX10_init_53 (by decide) ?_
  refine lv_istore_n (lv' := [(1, .int 0), (0, .ref (α 49 g0))]) hc.x hc.b dX10_init_54 rfl hl (by decide) rfl (fun ls hl => ?_)
  refine w_X10_init_55 hc hr hL0 ?_ _ _ _ _ _ _ hf hd (lv_sub hl [1, 0] rfl)
  intro S_11 H locs ls hf hd hl
  cases hf
  exact q_vret hc hd hr hx hm hL0 (ea.trans e00.symm) hnK dX10_init_73
theorem c_X10_init (l : Launch) (D : va_G) (cs : Nat → ClassId) (B0 : Nat) (kt : (Nat → Nat) × (Nat → Nat)) (α : Nat → Nat → Nat) (Lv : Nat → Nat → Prop) (S : St) (g0 : Nat) (hcl : Cl Lv) (hlt : ∀ k g, Lv k g → k < 1000) (hL0 : Lv 149 g0) (hfr : ∀ x ∈ F_X10_init g0, ¬ Lv x.1 x.2) {o : St} (hf : f_X10_init g0 S = some o) : Met l yX10_init (wz yX10_init cX10_init 2 none) (Rm 1 66 922) (PzN D cs B0 kt α Lv S [.ref (α 149 g0)]) (QM D cs B0 α Lv 149 49 g0 (F_X10_init g0) [49] o) 66 922 (AB B0) := met_ofI (by decide) rfl hcl (Nat.le_of_ble_eq_true rfl) (fun p e s m below meth c hc hck hnm hr hd ls hl => b_X10_init hc hck hnm hr hlt hL0 hfr hf hd hl)
theorem my_X10_init : MyI yX10_init cX10_init 2 0 := ⟨tw_265, tw_8, tw_266, rfl, by decide +kernel⟩
end
