-- CASE fit
/-- where the price told last changed, ahead of row k -/
def lc (b : Nat → Int32) : Nat → Int32
  | 0 => -1
  | k + 1 => if k = 0 then -1 else if b k = b (k - 1) then lc b k else Int32.ofNat k
theorem lc_ok {b : Nat → Int32} : ∀ k, lc b k = -1 ∨ Lt k (lc b k) := by
  intro k
  induction k with
  | zero => exact Or.inl rfl
  | succ k ih =>
    rw [lc]
    by_cases h : k = 0
    · rw [if_pos h]; exact Or.inl rfl
    · rw [if_neg h]
      by_cases h2 : b k = b (k - 1)
      · rw [if_pos h2]
        rcases ih with e | ⟨d, hd, e⟩
        · exact Or.inl e
        · exact Or.inr ⟨d, by omega, e⟩
      · rw [if_neg h2]; exact Or.inr ⟨k, by omega, rfl⟩
theorem e_since1 {T : Nat → Int32} {m : Int32} {N hi a t : Nat} {B : Int32 → Nat → Int32} (hB : Br T m N hi B) (hm : m ≠ 0) (ha : a < N) (ht : t ≤ hi) (h1 : 1 ≤ t) (hh : hi ≤ 3000) {Z : St} (eT : gi Z 61 0 = T) (em : gi Z 60 0 23 = m) : f_X12_sinceAt 0 (Int32.ofNat a) (Int32.ofNat t) Z = some (mnI (if lc (fun k => B (Int32.ofNat k) a) t = -1 then Int32.ofNat t + 1 else Int32.ofNat t - lc (fun k => B (Int32.ofNat k) a) t) 99) := by
  have nm : ¬ gi Z 60 0 23 = 0 := by rw [em]; exact hm
  have lp : ∀ (K : Int32 → Option Int32) (r k n : Nat), k + r = t → 1 ≤ k → r < n → f_X12_sinceAt_24 0 (Int32.ofNat a) (Int32.ofNat t) Z K n (lc (fun k => B (Int32.ofNat k) a) k) (Int32.ofNat k) = K (lc (fun k => B (Int32.ofNat k) a) t) := by
    intro K r
    induction r with
    | zero =>
      intro k n hk h1 hn
      obtain ⟨n, rfl⟩ : ∃ m, n = m + 1 := ⟨n - 1, by omega⟩
      obtain rfl : k = t := by omega
      rw [f_X12_sinceAt_24, brp ((zLE (by omega) (by omega)).mpr (Nat.le_refl _))]
    | succ r ih =>
      intro k n hk h1 hn
      obtain ⟨n, rfl⟩ : ∃ m, n = m + 1 := ⟨n - 1, by omega⟩
      have ih' := ih (k + 1) n (by omega) (by omega) (by omega)
      have s0 := hB Z eT em (Int32.ofNat k) a ha (by rw [zI (by omega)]; omega)
      have s1 := hB Z eT em (Int32.ofNat (k - 1)) a ha (by rw [zI (by omega)]; omega)
      rw [f_X12_sinceAt_24, brn (fun z => absurd ((zLE (by omega) (by omega)).mp z) (by omega)), brn nm, s0, onS, zSub1 (by omega), s1, onS]
      simp only [bvN, zp1]
      rw [lc, if_neg (by omega)] at ih'
      by_cases e : B (Int32.ofNat k) a = B (Int32.ofNat (k - 1)) a
      · rw [if_pos e] at ih'; rw [brp e]; exact ih'
      · rw [if_neg e] at ih'; rw [brn e]; exact ih'
  unfold f_X12_sinceAt
  rw [bvN, brn nm]
  refine (lp _ (t - 1) 1 FU (by omega) (by omega) (by unfold FU; omega)).trans ?_
  generalize lc (fun k => B (Int32.ofNat k) a) t = y
  by_cases e : y = -1
  · rw [if_pos e, mn_comm]; exact Ok.get (Ok.v (Ok.bt e (Ok.v (Ok.sm rfl))))
  · rw [if_neg e, mn_comm]; exact Ok.get (Ok.v (Ok.bf e (Ok.v (Ok.sm rfl))))
theorem Cru.f27 {N : Nat} {S S' : St} {T : Nat → Int32} (h : Cru N (gr S 8 0) S T) (f : Fr (fun k x => k = 27 ∧ x = 0) S S') : Cru N (gr S' 8 0) S' T := by
  rw [(f 8 0 (by omega)).2.2.1]
  refine ⟨h.1, fun s hs => ?_⟩
  have := h.2 s hs
  cases hr : gr S 8 0 s with
  | none => rw [hr] at this; exact this
  | some r9 =>
    rw [hr] at this
    show ∃ rs, Cru1 rs (gn S' 33 r9) (gn S' 34 r9) (gi S' 33 r9) (gi S' 34 r9) T _
    rw [(f 33 r9 (by omega)).1, (f 34 r9 (by omega)).1, (f 33 r9 (by omega)).2.2.2, (f 34 r9 (by omega)).2.2.2]
    exact this
theorem fit_loop {S0 : St} {N to a : Nat} {T : Nat → Int32} (n5 : T 5 = Int32.ofNat to) (k5 : gi S0 14 (2 * 0 + 1) 3 = Int32.ofNat to) (bt : to ≤ 60) (hBc : Bc S0 (2 * 0 + 1) N to (B1 T)) (hBr : Br T 1 N to (B1 T)) (hN : N ≤ 4) (k0 : gi S0 2 0 0 = Int32.ofNat N) (n0 : T 0 = Int32.ofNat N) (ha : a < N) (h3 : gi S0 3 0 a = T (8 + a)) (h4 : gi S0 4 0 a = T (16 + a)) (hl : Lt 4 (T (16 + a))) (cl : Cla (gr S0 2 0 8) (gi S0 35) T) (cr : Cru N (gr S0 8 0) S0 T) : ∀ (r k n n' : Nat) (S : St), k + r = to → 1 ≤ k → r < n → r < n' → Fr (fun k x => k = 27 ∧ x = 0) S0 S → ∃ (v : Int32) (S' : St), Fr (fun k x => k = 27 ∧ x = 0) S0 S' ∧ f_X2_firstMisfit_4 0 (Int32.ofNat a) (fun (S_17 : St) => some ((-1), S_17)) n (lc (fun k => B1 T (Int32.ofNat k) a) k) (Int32.ofNat k) S = some (v, S') ∧ ∀ Z : St, gi Z 61 0 = T → gi Z 60 0 23 = 1 → ∃ Z', Fr (fun k x => k = 69 ∧ x = 0) Z Z' ∧ f_X12_fit_26 0 (Int32.ofNat a) (fun (S_15 : St) => some ((-1), S_15)) n' (Int32.ofNat k) Z = some (v, Z') := by
  intro r
  induction r with
  | zero =>
    intro k n n' S hk h1 hn hn' f
    obtain ⟨n, rfl⟩ : ∃ m, n = m + 1 := ⟨n - 1, by omega⟩
    obtain ⟨n', rfl⟩ : ∃ m, n' = m + 1 := ⟨n' - 1, by omega⟩
    refine ⟨-1, S, f, ?_, fun Z eT em => ⟨Z, Fr.rf, ?_⟩⟩
    · rw [f_X2_firstMisfit_4, (f 14 (2 * 0 + 1) (by omega)).1, k5, brp ((zLE (by omega) (by omega)).mpr (by omega))]
    · rw [f_X12_fit_26, ck_t (by decide), eT, show T (nn 5) = Int32.ofNat to from n5, brp ((zLE (by omega) (by omega)).mpr (by omega))]
  | succ r ih =>
    intro k n n' S hk h1 hn hn' f
    obtain ⟨n, rfl⟩ : ∃ m, n = m + 1 := ⟨n - 1, by omega⟩
    obtain ⟨n', rfl⟩ : ∃ m, n' = m + 1 := ⟨n' - 1, by omega⟩
    have nb : ¬ Int32.ofNat to ≤ Int32.ofNat k := fun z => absurd ((zLE (by omega) (by omega)).mp z) (by omega)
    have hBcS : ∀ S9, Fr (fun k x => k = 27 ∧ x = 0) S0 S9 → Bc S9 (2 * 0 + 1) N to (B1 T) := fun S9 f9 => hBc.fr (f9 14 _ (by omega)).1 (f9 15 _ (by omega)).1 (f9 16 _ (by omega)).1 (f9 15 _ (by omega)).2.2.2
    obtain ⟨sn, hsn, esn⟩ := sc_ok (h := k) (c := lc (fun k => B1 T (Int32.ofNat k) a) k) (by omega) (lc_ok k)
    obtain ⟨v, pv, ⟨S1, e1, f1⟩, mk⟩ := dec_two (S := S) (G := 2 * 0 + 1) (N := N) (hi := to) (a := a) (t := k) (T := T) (B := B1 T) (sc := Int32.ofNat sn) (m := 1) (hBcS S f) hBr hN (by rw [(f 2 0 (by omega)).1]; exact k0) n0 ha (by rw [(f 3 0 (by omega)).1]; exact h3) (by rw [(f 4 0 (by omega)).1]; exact h4) hl (by omega) (by omega) (zGe (by omega)) (fun Z eT em => by rw [← esn]; exact e_since1 hBr (by decide) ha (by omega) h1 (by omega) eT em) (by rw [(f 2 0 (by omega)).2.2.1, show gi S 35 = gi S0 35 from funext fun x => (f 35 x (by omega)).1]; exact cl) (cr.f27 f)
    have f1' := f.tr f1
    have p0 := (hBcS S f (Int32.ofNat k) a ha (by rw [zI (by omega)]; omega)).1
    have p1 := (hBcS S1 f1' (Int32.ofNat (k - 1)) a ha (by rw [zI (by omega)]; omega)).1
    have si9 : f_X11_sinceIn (Int32.ofNat k) (lc (fun k => B1 T (Int32.ofNat k) a) k) S = some (Int32.ofNat sn) := by rw [e_sinceIn, esn]
    by_cases hv : B1 T (Int32.ofNat k) a = v
    · obtain ⟨v2, S2, g1, g2, g3⟩ := ih (k + 1) n n' S1 (by omega) (by omega) (by omega) (by omega) f1'
      refine ⟨v2, S2, g1, ?_, fun Z eT em => ?_⟩
      · rw [f_X2_firstMisfit_4, (f 14 (2 * 0 + 1) (by omega)).1, k5, brn nb, p0, onS, si9, onS, e1, on2S, brp hv, zSub1 (by omega), p1, onS]
        simp only [bvN, zp1]
        rw [lc, if_neg (by omega)] at g2
        by_cases e : B1 T (Int32.ofNat k) a = B1 T (Int32.ofNat (k - 1)) a
        · rw [if_pos e] at g2; rw [brp e]; exact g2
        · rw [if_neg e] at g2; rw [brn e]; exact g2
      · obtain ⟨Z1, m1, m2⟩ := mk Z eT em
        have eT1 : gi Z1 61 0 = T := by rw [(m2 61 0 (by omega)).1, eT]
        have em1 : gi Z1 60 0 23 = 1 := by rw [(m2 60 0 (by omega)).1, em]
        obtain ⟨Z2, w1, w2⟩ := g3 Z1 eT1 em1
        refine ⟨Z2, m2.tr w1, ?_⟩
        rw [f_X12_fit_26, ck_t (by decide), eT, show T (nn 5) = Int32.ofNat to from n5, brn nb, m1, on2S, hBr Z1 eT1 em1 (Int32.ofNat k) a ha (by rw [zI (by omega)]; omega), onS, brp hv.symm, bvN, zp1, w2]
    · refine ⟨Int32.ofNat k, S1, f1', ?_, fun Z eT em => ?_⟩
      · rw [f_X2_firstMisfit_4, (f 14 (2 * 0 + 1) (by omega)).1, k5, brn nb, p0, onS, si9, onS, e1, on2S, brn hv]
      · obtain ⟨Z1, m1, m2⟩ := mk Z eT em
        have eT1 : gi Z1 61 0 = T := by rw [(m2 61 0 (by omega)).1, eT]
        have em1 : gi Z1 60 0 23 = 1 := by rw [(m2 60 0 (by omega)).1, em]
        refine ⟨Z1, m2, ?_⟩
        rw [f_X12_fit_26, ck_t (by decide), eT, show T (nn 5) = Int32.ofNat to from n5, brn nb, m1, on2S, hBr Z1 eT1 em1 (Int32.ofNat k) a ha (by rw [zI (by omega)]; omega), onS, brn (fun z => hv z.symm)]
theorem pc_34 {t : Nat} {S : St} {a1 a2 a3 a4 a5 : Int32} (h : Inv t S) : Ok (fc_34 (t + 1) a1 a2 a3 a4 a5 S) (Inv (t + 1)) := by
  unfold fc_34 f_L_fit f_X11_fit
  refine tw_i (S := S) ?_
  obtain ⟨⟨N, D, hh, lv, ri, to, ch, c1, c2, c3, c4, c5, c6, c7, c8, c9, c10, c11, c12, c13, c14, c15⟩, -⟩ := id h
  have n0 := c1.1.1
  have b0 := c1.1.2
  have n5 := c1.2.2.2.2.2.1.1
  have b5 := c1.2.2.2.2.2.1.2
  have k5 := c2.2.2.2.2.2.1
  have cap := c2.2.2.2.2.2.2.2.2.1
  have len := c2.2.2.2.2.2.2.2.2.2.2
  by_cases hs : a1 < 0 ∨ ¬ a1 < Int32.ofNat N
  · exact Ok.xl (n_st c2.1 hs) (Tw.l (cd := 1) rfl ⟨by decide, Ok.v (Ok.oe (m_stn (S := si S 60 0 5 0) n0 b0 hs) (Ok.bt rfl (Ok.o2e rfl (Ok.sm ⟨rfl, pf_bad h.thr⟩))))⟩)
  obtain ⟨a, ha, rfl⟩ := or_st b0 hs
  obtain ⟨q1, q2, q3, q4, q5, q6⟩ := c3 a ha
  obtain ⟨v, S1, f1, e1, mk⟩ : ∃ (v : Int32) (S' : St), Fr (fun k x => k = 27 ∧ x = 0) S S' ∧ f_X2_firstMisfit 0 (Int32.ofNat a) S = some (v, S') ∧ ∀ Z : St, gi Z 61 0 = gi S 61 0 → gi Z 60 0 23 = 1 → ∃ Z', Fr (fun k x => k = 69 ∧ x = 0) Z Z' ∧ f_X12_fit_26 0 (Int32.ofNat a) (fun (S_15 : St) => some ((-1), S_15)) FU 1 Z = some (v, Z') := by
    by_cases h0 : to = 0
    · refine ⟨-1, S, Fr.rf, ?_, fun Z eT em => ⟨Z, Fr.rf, ?_⟩⟩
      · unfold f_X2_firstMisfit
        rw [FUp, f_X2_firstMisfit_4, k5, h0, brp (by decide)]
      · rw [FUp, f_X12_fit_26, ck_t (by decide), eT, show gi S 61 0 (nn 5) = Int32.ofNat to from n5, h0, brp (by decide)]
    · exact fit_loop n5 k5 b5 (bc1 cap len c7 b0 b5 (by omega)) (br1 b0 b5 (by omega) (by decide)) b0 c2.1 n0 ha q1 q3 q4 c12 c13 (to - 1) 1 FU FU S (by omega) (by omega) (by unfold FU; omega) (by unfold FU; omega) Fr.rf
  refine Ok.xr (y_st c2.1 b0 ha) (Ok.o2e e1 (Ok.sm (Tw.r ?_)))
  have eT : gi (si (si (sl S1 81 0 (nn 0) v.toInt64) 60 0 5 0) 60 0 23 1) 61 0 = gi S 61 0 := (f1 61 0 (by omega)).1
  obtain ⟨Z', f2, e2⟩ := mk (si (si (sl S1 81 0 (nn 0) v.toInt64) 60 0 5 0) 60 0 23 1) eT rfl
  refine Ok.v (Ok.oe (m_sty (S := si (sl S1 81 0 (nn 0) v.toInt64) 60 0 5 0) (by show gi S1 61 0 0 = _; rw [(f1 61 0 (by omega)).1]; exact n0) b0 ha) (Ok.bf (by decide) (Ok.v (Ok.eq e2 ⟨?_, rfl, ?_, ?_⟩))))
  · show gi Z' 60 0 5 = 0
    rw [(f2 60 0 (by omega)).1]; rfl
  · show gl Z' 81 0 (nn 0) = _
    rw [(f2 81 0 (by omega)).2.1]; rfl
  · have r60 := f1 60 0 (by omega)
    have z60 := f2 60 0 (by omega)
    refine Inv.t (Nat.le_succ t) (h.scr ?_ ?_ ?_ ?_ ?_ ?_)
    · refine (f1.mono (fun k x hw => ?_)).tr ((Fr.sl ?_).tr ((Fr.si ?_).tr ((Fr.si ?_).tr (f2.mono (fun k x hw => ?_)))))
      · unfold WS Scr; omega
      · unfold WS Scr; omega
      · unfold WS; omega
      · unfold WS; omega
      · unfold WS Scr; omega
    · rw [z60.1]; show gi S1 60 0 9 = _; rw [r60.1]
    · rw [z60.1]; show gi S1 60 0 18 = _; rw [r60.1]
    · rw [z60.1]; show gi S1 60 0 19 = _; rw [r60.1]
    · rw [z60.2.1]; show gl S1 60 0 26 = _; rw [r60.2.1]
    · rw [z60.2.1]; show gl S1 60 0 27 = _; rw [r60.2.1]
