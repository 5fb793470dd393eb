theorem Cr.cgT {t g : Nat} {S : St} {T T' : Nat → Int32} {M M' : Nat → Int64} (h : Cr t S g T M) (e : ∀ k, k < 3179 → T' k = T k) (m : ∀ k, k < 9 → M' k = M k) : Cr t S g T' M' := by
  obtain ⟨N, D, hh, lv, ri, to, ch, c1, c2, c3, c4, c5, c6, c7, c8, c9, c10, c11, c12, c13, c14, c15⟩ := h
  have b0 := c1.1.2
  refine ⟨N, D, hh, lv, ri, to, ch, c1.cg (fun i hi => e i (by omega)), c2, c3.cg b0 (fun i hi => e i (by omega)), ⟨fun s hs => ?_, ?_⟩, c5.cg c1.2.1.2 (fun i hi => e i (by omega)), c6.cg b0 (fun i hi => e i (by omega)), c7.cg b0 c1.2.2.2.2.2.1.2 (fun i hi => e i (by omega)), c8.cg c1.2.2.2.2.2.2.2 (fun i hi => e i (by omega)), c9.cg c1.2.2.2.1.2 (fun i hi => e i (by omega)), c10.cg c1.2.2.2.2.1.2 (fun i hi => e i (by omega)), c11.cg (fun i hi => e i (by omega)), c12.cg (fun i hi => e i (by omega)), c13.cg b0 (fun i hi => e i (by omega)), c14, c15⟩
  · rw [m s (by omega), m (4 + s) (by omega)]; exact c4.1 s hs
  · rw [m 8 (by omega)]; exact c4.2
theorem cpX2 {t g0 g1 : Nat} {S : St} {T : Nat → Int32} {M : Nat → Int64} (hne : g1 ≠ g0) (q : Cr t S g1 T M) (s0 : gi S 14 (2 * g0) 0 = 256) (s1 : gi S 14 (2 * g0 + 1) 0 = 60) (l0 : gn S 15 (2 * g0) = 1024) (l1 : gn S 15 (2 * g0 + 1) = 240) (h8 : ∀ s r, 4 ≤ s → gr S 8 g0 s = some r → r ≤ t) : ∃ S', f_X2_copyFrom g0 g1 S = some S' ∧ Fr (ow0 g0) S S' ∧ Cr t S' g0 T M := by
  obtain ⟨N, D, h, lv, ri, to, ch, c1, c2, c3, c4, c5, c6, c7, c8, c9, c10, c11, c12, c13, c14, c15⟩ := q
  obtain ⟨k0, k1, k2, k3, k4, k5, k6, k7, k8, k9, k10⟩ := c2
  have H : ∀ A : St, Fr (fun k x => (2 ≤ k ∧ k ≤ 8 ∨ k = 21) ∧ x = g0) S A → (gi A 2 g0 0 = gi S 2 g1 0 ∧ gi A 2 g0 14 = gi S 2 g1 14 ∧ gl A 2 g0 6 = gl S 2 g1 6 ∧ gr A 2 g0 8 = gr S 2 g1 8) → (∀ s, s < 4 → gi A 3 g0 s = gi S 3 g1 s ∧ gi A 4 g0 s = gi S 4 g1 s ∧ gi A 5 g0 s = gi S 5 g1 s ∧ gl A 6 g0 s = gl S 6 g1 s ∧ gl A 7 g0 s = gl S 7 g1 s ∧ gr A 8 g0 s = gr S 8 g1 s) → (∀ s, 4 ≤ s → gr A 8 g0 s = gr S 8 g0 s) → (∀ i, i < 8 → gi A 21 g0 i = gi S 21 g1 i) → ∃ S', on (f_X3_copyFrom g0 g1 A) (fun S_24 => on (f_X0_copyFrom (2 * g0) (2 * g1) S_24) (fun S_26 => on (f_X0_copyFrom (2 * g0 + 1) (2 * g1 + 1) S_26) (fun S_28 => on (f_X1_copyFrom g0 g1 S_28) (fun S_30 => on (f_X8_copyFrom g0 g1 S_30) (fun S_32 => some S_32))))) = some S' ∧ Fr (ow0 g0) S S' ∧ Cr t S' g0 T M := by
    intro A fA a2 a3 a8 a21
    have rA : ∀ k x, ¬ ((2 ≤ k ∧ k ≤ 8 ∨ k = 21) ∧ x = g0) → gi A k x = gi S k x ∧ gl A k x = gl S k x ∧ gr A k x = gr S k x ∧ gn A k x = gn S k x := fun k x hw => fA k x hw
    obtain ⟨B, eB, fB, b9, b10⟩ := cp3 (S := A) hne
    rw [(rA 9 g1 (by omega)).1] at b9
    rw [(rA 10 g1 (by omega)).1, (rA 11 g1 (by omega)).1, (rA 12 g1 (by omega)).1, (rA 13 g1 (by omega)).1] at b10
    have fSB : Fr (fun k x => (2 ≤ k ∧ k ≤ 13 ∨ k = 21) ∧ x = g0) S B := (fA.mono (fun k x hw => by omega)).tr (fB.mono (fun k x hw => by omega))
    have rB := fun k x (hw : ¬ ((2 ≤ k ∧ k ≤ 13 ∨ k = 21) ∧ x = g0)) => fSB k x hw
    obtain ⟨C, eC, fC, C3, C0, Cl, C16, C15⟩ := cp0 (S := B) (g0 := 2 * g0) (g1 := 2 * g1) (by omega) (h := h) (c := 256) c1.2.2.1.2 (by omega) (by rw [(rB 14 _ (by omega)).1]; exact k2) (by rw [(rB 14 _ (by omega)).1]; exact k7) (by rw [(rB 15 _ (by omega)).2.2.2]; exact l0) (by rw [(rB 15 _ (by omega)).2.2.2]; exact k9)
    rw [(rB 14 (2 * g1) (by omega)).1] at C3
    rw [(rB 14 (2 * g0) (by omega)).1] at C0
    rw [(rB 15 (2 * g0) (by omega)).2.2.2] at Cl
    rw [(rB 16 (2 * g1) (by omega)).1] at C16
    rw [(rB 15 (2 * g1) (by omega)).1] at C15
    have fSC : Fr (fun k x => ((2 ≤ k ∧ k ≤ 13 ∨ k = 21) ∧ x = g0) ∨ ((14 ≤ k ∧ k ≤ 16) ∧ x = 2 * g0)) S C := (fSB.mono (fun k x hw => by omega)).tr (fC.mono (fun k x hw => by omega))
    have rC := fun k x (hw : ¬ (((2 ≤ k ∧ k ≤ 13 ∨ k = 21) ∧ x = g0) ∨ ((14 ≤ k ∧ k ≤ 16) ∧ x = 2 * g0))) => fSC k x hw
    obtain ⟨E, eE, fE, E3, E0, El, E16, E15⟩ := cp0 (S := C) (g0 := 2 * g0 + 1) (g1 := 2 * g1 + 1) (by omega) (h := to) (c := 60) (by have := c1.2.2.2.2.2.1.2; omega) (by omega) (by rw [(rC 14 _ (by omega)).1]; exact k5) (by rw [(rC 14 _ (by omega)).1]; exact k8) (by rw [(rC 15 _ (by omega)).2.2.2]; exact l1) (by rw [(rC 15 _ (by omega)).2.2.2]; exact k10)
    rw [(rC 14 (2 * g1 + 1) (by omega)).1] at E3
    rw [(rC 14 (2 * g0 + 1) (by omega)).1] at E0
    rw [(rC 15 (2 * g0 + 1) (by omega)).2.2.2] at El
    rw [(rC 16 (2 * g1 + 1) (by omega)).1] at E16
    rw [(rC 15 (2 * g1 + 1) (by omega)).1] at E15
    have fSE : Fr (fun k x => ((2 ≤ k ∧ k ≤ 13 ∨ k = 21) ∧ x = g0) ∨ ((14 ≤ k ∧ k ≤ 16) ∧ (x = 2 * g0 ∨ x = 2 * g0 + 1))) S E := (fSC.mono (fun k x hw => by omega)).tr (fE.mono (fun k x hw => by omega))
    have rE := fun k x (hw : ¬ (((2 ≤ k ∧ k ≤ 13 ∨ k = 21) ∧ x = g0) ∨ ((14 ≤ k ∧ k ≤ 16) ∧ (x = 2 * g0 ∨ x = 2 * g0 + 1)))) => fSE k x hw
    obtain ⟨G, eG, fG, G3, G18⟩ := cp1 (S := E) hne
    rw [(rE 17 g1 (by omega)).1] at G3
    rw [(rE 18 g1 (by omega)).1, (rE 19 g1 (by omega)).1, (rE 20 g1 (by omega)).1] at G18
    have fSG : Fr (fun k x => ((2 ≤ k ∧ k ≤ 13 ∨ 17 ≤ k ∧ k ≤ 21) ∧ x = g0) ∨ ((14 ≤ k ∧ k ≤ 16) ∧ (x = 2 * g0 ∨ x = 2 * g0 + 1))) S G := (fSE.mono (fun k x hw => by omega)).tr (fG.mono (fun k x hw => by omega))
    have rG := fun k x (hw : ¬ (((2 ≤ k ∧ k ≤ 13 ∨ 17 ≤ k ∧ k ≤ 21) ∧ x = g0) ∨ ((14 ≤ k ∧ k ≤ 16) ∧ (x = 2 * g0 ∨ x = 2 * g0 + 1)))) => fSG k x hw
    obtain ⟨F, eF, fF, F3, F2, F25, F24⟩ := cp8 (S := G) hne
    rw [(rG 22 g1 (by omega)).1] at F3 F2
    rw [(rG 25 g1 (by omega)).1] at F25
    rw [(rG 24 (2 * g1) (by omega)).1, (rG 24 (2 * g1 + 1) (by omega)).1] at F24
    have fSF : Fr (ow0 g0) S F := (fSG.mono (fun k x hw => by unfold ow0; omega)).tr (fF.mono (fun k x hw => by unfold ow0; omega))
    have r35 : ∀ k x, 32 ≤ k → gi F k x = gi S k x ∧ gl F k x = gl S k x ∧ gr F k x = gr S k x ∧ gn F k x = gn S k x := fun k x hk => fSF k x (by unfold ow0; omega)
    -- from A, B, C, E, G on
    have fEF : Fr (fun k x => 17 ≤ k ∧ k ≠ 21) E F := (fG.mono (fun k x hw => by omega)).tr (fF.mono (fun k x hw => by omega))
    have fCF : Fr (fun k x => ((14 ≤ k ∧ k ≤ 16) ∧ x = 2 * g0 + 1) ∨ (17 ≤ k ∧ k ≠ 21)) C F := (fE.mono (fun k x hw => by omega)).tr (fEF.mono (fun k x hw => by omega))
    have fBF : Fr (fun k x => 14 ≤ k ∧ k ≠ 21) B F := (fC.mono (fun k x hw => by omega)).tr (fCF.mono (fun k x hw => by omega))
    have fAF : Fr (fun k x => 9 ≤ k ∧ k ≠ 21) A F := (fB.mono (fun k x hw => by omega)).tr (fBF.mono (fun k x hw => by omega))
    have uA : ∀ k, k < 9 ∨ k = 21 → gi F k g0 = gi A k g0 ∧ gl F k g0 = gl A k g0 ∧ gr F k g0 = gr A k g0 ∧ gn F k g0 = gn A k g0 := fun k hk => fAF k g0 (by omega)
    have uB : ∀ k, k < 14 → gi F k g0 = gi B k g0 := fun k hk => (fBF k g0 (by omega)).1
    have uC : ∀ k, k < 17 → gi F k (2 * g0) = gi C k (2 * g0) ∧ gn F k (2 * g0) = gn C k (2 * g0) := fun k hk => ⟨(fCF k _ (by omega)).1, (fCF k _ (by omega)).2.2.2⟩
    have uE : ∀ k, k < 17 → gi F k (2 * g0 + 1) = gi E k (2 * g0 + 1) ∧ gn F k (2 * g0 + 1) = gn E k (2 * g0 + 1) := fun k hk => ⟨(fEF k _ (by omega)).1, (fEF k _ (by omega)).2.2.2⟩
    have uG : ∀ k, k < 22 → gi F k g0 = gi G k g0 := fun k hk => (fF k g0 (by omega)).1
    refine ⟨F, by rw [eB, onS, eC, onS, eE, onS, eG, onS, eF]; rfl, fSF, ?_⟩
    have hN := c1.1.2
    have hD := c1.2.1.2
    have hch := c1.2.2.2.2.2.2.2
    have hto := c1.2.2.2.2.2.1.2
    have hlv := c1.2.2.2.1.2
    have hri := c1.2.2.2.2.1.2
    have hln := lags_len (T := T) (ri := ri)
    refine ⟨N, D, h, lv, ri, to, ch, c1, ?_, ?_, ?_, ?_, ?_, ?_, ?_, ?_, ?_, ?_, ?_, ?_, ?_, ?_⟩
    · refine ⟨?_, ?_, ?_, ?_, ?_, ?_, ?_, ?_, ?_, ?_, ?_⟩
      · rw [(uA 2 (by omega)).1, a2.1]; exact k0
      · rw [uB 9 (by omega), b9]; exact k1
      · rw [(uC 14 (by omega)).1, C3]; exact k2
      · rw [(uA 2 (by omega)).1, a2.2.1]; exact k3
      · rw [F3]; exact k4
      · rw [(uE 14 (by omega)).1, E3]; exact k5
      · rw [uG 17 (by omega), G3]; exact k6
      · rw [(uC 14 (by omega)).1, C0]; exact s0
      · rw [(uE 14 (by omega)).1, E0]; exact s1
      · rw [(uC 15 (by omega)).2, Cl]; exact l0
      · rw [(uE 15 (by omega)).2, El]; exact l1
    · intro s hs
      obtain ⟨e3, e4, e5, -⟩ := a3 s (by omega)
      rw [(uA 3 (by omega)).1, (uA 4 (by omega)).1, (uA 5 (by omega)).1, e3, e4, e5]; exact c3 s hs
    · refine ⟨fun s hs => ?_, ?_⟩
      · obtain ⟨-, -, -, e6, e7, -⟩ := a3 s (by omega)
        rw [(uA 6 (by omega)).2.1, (uA 7 (by omega)).2.1, e6, e7]; exact c4.1 s hs
      · rw [(uA 2 (by omega)).2.1, a2.2.2.1]; exact c4.2
    · intro k hk
      obtain ⟨e1, e2, e3, e4⟩ := b10 k (by omega)
      rw [uB 10 (by omega), uB 11 (by omega), uB 12 (by omega), uB 13 (by omega), e1, e2, e3, e4]; exact c5 k hk
    · refine ⟨fun s hs => ?_, fun q s hq h2 hs => ?_, c6.2.2⟩
      · rw [(uC 16 (by omega)).1, C16 s (by omega)]; exact c6.1 s hs
      · rw [(uC 15 (by omega)).1, C15 _ (by omega)]; exact c6.2.1 q s hq h2 hs
    · refine ⟨fun k s hk hs => ?_, fun h0 s hs => ?_⟩
      · rw [(uE 15 (by omega)).1, E15 _ (by omega)]; exact c7.1 k s hk hs
      · rw [(uE 16 (by omega)).1, E16 s (by omega)]; exact c7.2 h0 s hs
    · intro k hk
      obtain ⟨e1, e2, e3⟩ := G18 k (by omega)
      rw [uG 18 (by omega), uG 19 (by omega), uG 20 (by omega), e1, e2, e3]; exact c8 k hk
    · intro i hi
      rw [(uA 21 (by omega)).1, a21 i (by omega)]; exact c9 i hi
    · refine ⟨by rw [F2]; exact c10.1, fun k hk => ?_, c10.2.2⟩
      rw [F25 k (by omega)]; exact c10.2.1 k hk
    · intro i hi
      rw [(F24 i hi).1, (F24 i hi).2]; exact c11 i hi
    · rw [(uA 2 (by omega)).2.2.1, a2.2.2.2, show gi F 35 = gi S 35 from funext fun x => (r35 35 x (by omega)).1]; exact c12
    · refine ⟨fun s hs h4 => ?_, fun s hs => ?_⟩
      · rw [(uA 8 (by omega)).2.2.1, (a3 s h4).2.2.2.2.2]; exact c13.1 s hs h4
      · have := c13.2 s hs
        rw [(uA 8 (by omega)).2.2.1, (a3 s (by omega)).2.2.2.2.2]
        cases hr : gr S 8 g1 s with
        | none => rw [hr] at this; exact this
        | some r9 =>
          rw [hr] at this
          show ∃ rs, Cru1 rs (gn F 33 r9) (gn F 34 r9) (gi F 33 r9) (gi F 34 r9) T _
          rw [(r35 33 r9 (by omega)).1, (r35 34 r9 (by omega)).1, (r35 33 r9 (by omega)).2.2.2, (r35 34 r9 (by omega)).2.2.2]
          exact this
    · rw [(uA 2 (by omega)).2.2.1, a2.2.2.2]; exact c14
    · intro s r
      rw [(uA 8 (by omega)).2.2.1]
      by_cases h4 : s < 4
      · rw [(a3 s h4).2.2.2.2.2]; exact c15 s r
      · rw [a8 s (by omega)]; exact h8 s r (by omega)
  unfold f_X2_copyFrom
  simp only [bvE, ck_t (show cpok 0 0 4 4 4 = true by decide), ck_t (show cpok 0 0 8 8 8 = true by decide), cp119]
  refine H _ ?_ ?_ ?_ ?_ ?_
  · refine (Fr.si ⟨by omega, rfl⟩).tr ((Fr.sl ⟨by omega, rfl⟩).tr ((Fr.sr ⟨by omega, rfl⟩).tr ((Fr.si ⟨by omega, rfl⟩).tr ((Fr.ai ⟨by omega, rfl⟩).tr ((Fr.ai ⟨by omega, rfl⟩).tr ((Fr.ai ⟨by omega, rfl⟩).tr ((Fr.al ⟨by omega, rfl⟩).tr ((Fr.al ⟨by omega, rfl⟩).tr ((Fr.ai ⟨by omega, rfl⟩).tr ((Fr.sr ⟨by omega, rfl⟩).tr ((Fr.sr ⟨by omega, rfl⟩).tr ((Fr.sr ⟨by omega, rfl⟩).tr (Fr.sr ⟨by omega, rfl⟩)))))))))))))
  · simp [pgi_ai, pgi_si, pgi_sl, pgi_al, pgi_sr, pgl_ai, pgl_si, pgl_sl, pgl_al, pgl_sr, pgr_ai, pgr_si, pgr_sl, pgr_al, pgr_sr, upd_eq, upd_ne, hne, updL_eq, va_up]
  · intro s hs
    refine ⟨?_, ?_, ?_, ?_, ?_, ?_⟩
    · simp [pgi_ai, pgi_si, pgi_sl, pgi_al, pgi_sr, va_c (show nn 4 = 4 from rfl) hs]
    · simp [pgi_ai, pgi_si, pgi_sl, pgi_al, pgi_sr, va_c (show nn 4 = 4 from rfl) hs]
    · simp [pgi_ai, pgi_si, pgi_sl, pgi_al, pgi_sr, va_c (show nn 4 = 4 from rfl) hs]
    · simp [pgl_ai, pgl_si, pgl_sl, pgl_al, pgl_sr, va_c (show nn 4 = 4 from rfl) hs]
    · simp [pgl_ai, pgl_si, pgl_sl, pgl_al, pgl_sr, va_c (show nn 4 = 4 from rfl) hs]
    · rcases (show s = 0 ∨ s = 1 ∨ s = 2 ∨ s = 3 by omega) with rfl | rfl | rfl | rfl <;> simp [pgr_ai, pgr_si, pgr_sl, pgr_al, pgr_sr, va_up, hne]
  · intro s hs
    have e0 : s ≠ 0 := by omega
    have e1 : s ≠ 1 := by omega
    have e2 : s ≠ 2 := by omega
    have e3 : s ≠ 3 := by omega
    simp [pgr_ai, pgr_si, pgr_sl, pgr_al, pgr_sr, va_up, e0, e1, e2, e3]
  · intro i hi
    simp [pgi_ai, pgi_si, pgi_sl, pgi_al, pgi_sr, va_c (show nn 8 = 8 from rfl) hi]
