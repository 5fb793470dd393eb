-- AN HOUR: the new prices
/-- rows that deciding writes in the class -/
def WD (k x : Nat) : Prop := (k = 27 ∧ x = 0) ∨ (k = 26 ∧ x = 1)
theorem dec_all {S0 : St} {N h a : Nat} {T : Nat → Int32} (cap : gi S0 14 (2 * 0) 0 = 256) (len : gn S0 15 (2 * 0) = 1024) (c6 : Chr N h (gi S0 15 (2 * 0)) (gi S0 16 (2 * 0)) T) (b0 : N ≤ 4) (b2 : h ≤ 3000) (k0 : gi S0 2 0 0 = Int32.ofNat N) (n0 : T 0 = Int32.ofNat N) (c3 : Cst N h (gi S0 3 0) (gi S0 4 0) (gi S0 5 0) T) (c12 : Cla (gr S0 2 0 8) (gi S0 35) T) (c13 : Cru N (gr S0 8 0) S0 T) (ha : a < N) : ∃ v : Int32, Pr v ∧ (∀ S, Fr WD S0 S → ∃ (sc : Int32) (S' : St), f_X11_sinceIn (Int32.ofNat h) (gi S 5 0 a) S = some sc ∧ f_X2_decide 0 (2 * 0) (Int32.ofNat a) (Int32.ofNat h) sc S = some (v, S') ∧ Fr (fun k x => k = 27 ∧ x = 0) S S') ∧ ∀ Z : St, gi Z 61 0 = T → gi Z 60 0 23 = 0 → ∃ Z', f_X12_makes 0 (Int32.ofNat a) (Int32.ofNat h) Z = some (v, Z') ∧ Fr (fun k x => k = 69 ∧ x = 0) Z Z' := by
  obtain ⟨q1, q2, q3, q4, q5, q6⟩ := c3 a ha
  obtain ⟨n, hn, en⟩ := sc_ok b2 q6
  have D : ∀ S, Fr WD S0 S → ∃ v : Int32, Pr v ∧ (∃ S', f_X2_decide 0 (2 * 0) (Int32.ofNat a) (Int32.ofNat h) (Int32.ofNat n) S = some (v, S') ∧ Fr (fun k x => k = 27 ∧ x = 0) S S') ∧ ∀ Z : St, gi Z 61 0 = T → gi Z 60 0 23 = 0 → ∃ Z', f_X12_makes 0 (Int32.ofNat a) (Int32.ofNat h) Z = some (v, Z') ∧ Fr (fun k x => k = 69 ∧ x = 0) Z Z' := fun S f => by
    have r : ∀ k x, k ≠ 26 → k ≠ 27 → gi S k x = gi S0 k x ∧ gl S k x = gl S0 k x ∧ gr S k x = gr S0 k x ∧ gn S k x = gn S0 k x := fun k x h1 h2 => f k x (by unfold WD; omega)
    refine dec_two (S := S) (G := 2 * 0) (N := N) (hi := h) (a := a) (t := h) (T := T) (B := B0 T) (sc := Int32.ofNat n) (m := 0) ((bc0 cap len c6 b0 b2).fr (r 14 _ (by omega) (by omega)).1 (r 15 _ (by omega) (by omega)).1 (r 16 _ (by omega) (by omega)).1 (r 15 _ (by omega) (by omega)).2.2.2) (br0 b0 b2) b0 (by rw [(r 2 0 (by omega) (by omega)).1]; exact k0) n0 ha (by rw [(r 3 0 (by omega) (by omega)).1]; exact q1) (by rw [(r 4 0 (by omega) (by omega)).1]; exact q3) q4 (Nat.le_refl _) b2 (zGe (by omega)) (fun Z eT em => by rw [e_since0 em (by omega), eT, ← en, mn_comm]) (by rw [(r 2 0 (by omega) (by omega)).2.2.1, show gi S 35 = gi S0 35 from funext fun x => (r 35 x (by omega) (by omega)).1]; exact c12) ?_
    rw [(r 8 0 (by omega) (by omega)).2.2.1]
    exact c13.st (fun k x hk => ⟨(r k x (by omega) (by omega)).1, (r k x (by omega) (by omega)).2.2.2⟩)
  obtain ⟨v, pv, -, mk⟩ := D S0 Fr.rf
  refine ⟨v, pv, fun S f => ?_, mk⟩
  obtain ⟨v', -, ⟨S', e', f'⟩, mk'⟩ := D S f
  obtain ⟨Z1, y1, -⟩ := mk (si (ai S0 61 0 T) 60 0 23 0) (by rw [pgi_si, if_neg (by omega), pgi_ai, if_pos ⟨rfl, rfl⟩]) rfl
  obtain ⟨Z2, y2, -⟩ := mk' (si (ai S0 61 0 T) 60 0 23 0) (by rw [pgi_si, if_neg (by omega), pgi_ai, if_pos ⟨rfl, rfl⟩]) rfl
  have ev : v' = v := by
    rw [y1] at y2
    exact (congrArg Prod.fst (Option.some.inj y2)).symm
  subst ev
  refine ⟨Int32.ofNat n, S', ?_, e', f'⟩
  rw [e_sinceIn, (f 5 0 (by unfold WD; omega)).1, q5, en]
theorem rh10 {S0 : St} {N h : Nat} {v : Nat → Int32} (b0 : N ≤ 4) (k0 : gi S0 2 0 0 = Int32.ofNat N) (H : ∀ a, a < N → ∀ S, Fr WD S0 S → ∃ (sc : Int32) (S' : St), f_X11_sinceIn (Int32.ofNat h) (gi S 5 0 a) S = some sc ∧ f_X2_decide 0 (2 * 0) (Int32.ofNat a) (Int32.ofNat h) sc S = some (v a, S') ∧ Fr (fun k x => k = 27 ∧ x = 0) S S') : ∀ (r j n : Nat) (S : St), j + r = N → r < n → Fr WD S0 S → (∀ i, i < j → gi S 26 1 i = v i) → ∃ S', Fr WD S0 S' ∧ (∀ i, i < N → gi S' 26 1 i = v i) ∧ ∀ K, f_X2_runHour_10 0 (Int32.ofNat h) K n (Int32.ofNat j) S = K S' := by
  intro r
  induction r with
  | zero =>
    intro j n S hj hn f hi
    obtain ⟨n, rfl⟩ : ∃ m, n = m + 1 := ⟨n - 1, by omega⟩
    refine ⟨S, f, fun i h9 => hi i (by omega), fun K => ?_⟩
    rw [f_X2_runHour_10, (f 2 0 (by unfold WD; omega)).1, k0, brp ((zLE (by omega) (by omega)).mpr (by omega))]
  | succ r ih =>
    intro j n S hj hn f hi
    obtain ⟨n, rfl⟩ : ∃ m, n = m + 1 := ⟨n - 1, by omega⟩
    obtain ⟨sc, S1, e1, e2, f1⟩ := H j (by omega) S f
    have f2 : Fr WD S0 (si S1 26 1 j (v j)) := f.tr ((f1.mono (fun k x hw => Or.inl hw)).tr (Fr.si (Or.inr ⟨rfl, rfl⟩)))
    obtain ⟨S', g1, g2, g3⟩ := ih (j + 1) n (si S1 26 1 j (v j)) (by omega) (by omega) f2 (fun i h9 => by
      rw [pgi_si, if_pos ⟨rfl, rfl⟩]
      by_cases e : i = j
      · rw [e]; exact upd_eq
      · rw [upd_ne e, (f1 26 1 (by omega)).1]; exact hi i (by omega))
    refine ⟨S', g1, g2, fun K => ?_⟩
    rw [f_X2_runHour_10, (f 2 0 (by unfold WD; omega)).1, k0, brn (fun z => absurd ((zLE (by omega) (by omega)).mp z) (by omega)), ck_t (ib (by omega) (by omega)), zN (by omega), e1, onS, e2, on2S, ck_t (ib (by omega) (by omega)), bvN, bvN, zp1]
    exact g3 K
/-- rows that deciding writes in the reference -/
def WE (k x : Nat) : Prop := (k = 69 ∧ x = 0) ∨ (k = 71 ∧ x = 0)
theorem ho14 {Z0 : St} {N h : Nat} {T v : Nat → Int32} (b0 : N ≤ 4) (n0 : T 0 = Int32.ofNat N) (eT : gi Z0 61 0 = T) (em : gi Z0 60 0 23 = 0) (H : ∀ a, a < N → ∀ Z : St, gi Z 61 0 = T → gi Z 60 0 23 = 0 → ∃ Z', f_X12_makes 0 (Int32.ofNat a) (Int32.ofNat h) Z = some (v a, Z') ∧ Fr (fun k x => k = 69 ∧ x = 0) Z Z') : ∀ (r j n : Nat) (Z : St), j + r = N → r < n → Fr WE Z0 Z → (∀ i, i < j → gi Z 71 0 i = v i) → ∃ Z', Fr WE Z0 Z' ∧ (∀ i, i < N → gi Z' 71 0 i = v i) ∧ ∀ K, f_X12_hour_14 0 (Int32.ofNat h) K n (Int32.ofNat j) Z = K Z' := by
  intro r
  induction r with
  | zero =>
    intro j n Z hj hn f hi
    obtain ⟨n, rfl⟩ : ∃ m, n = m + 1 := ⟨n - 1, by omega⟩
    refine ⟨Z, f, fun i h9 => hi i (by omega), fun K => ?_⟩
    rw [f_X12_hour_14, ck_t (by decide), (f 61 0 (by unfold WE; omega)).1, eT, show T (nn 0) = Int32.ofNat N from n0, brp ((zLE (by omega) (by omega)).mpr (by omega))]
  | succ r ih =>
    intro j n Z hj hn f hi
    obtain ⟨n, rfl⟩ : ∃ m, n = m + 1 := ⟨n - 1, by omega⟩
    obtain ⟨Z1, e1, f1⟩ := H j (by omega) Z (by rw [(f 61 0 (by unfold WE; omega)).1, eT]) (by rw [(f 60 0 (by unfold WE; omega)).1, em])
    have f2 : Fr WE Z0 (si Z1 71 0 j (v j)) := f.tr ((f1.mono (fun k x hw => Or.inl hw)).tr (Fr.si (Or.inr ⟨rfl, rfl⟩)))
    obtain ⟨Z', g1, g2, g3⟩ := ih (j + 1) n (si Z1 71 0 j (v j)) (by omega) (by omega) f2 (fun i h9 => by
      rw [pgi_si, if_pos ⟨rfl, rfl⟩]
      by_cases e : i = j
      · rw [e]; exact upd_eq
      · rw [upd_ne e, (f1 71 0 (by omega)).1]; exact hi i (by omega))
    refine ⟨Z', g1, g2, fun K => ?_⟩
    rw [f_X12_hour_14, ck_t (by decide), (f 61 0 (by unfold WE; omega)).1, eT, show T (nn 0) = Int32.ofNat N from n0, brn (fun z => absurd ((zLE (by omega) (by omega)).mp z) (by omega)), e1, on2S, ck_t (ib (by omega) (by omega)), zN (by omega), bvN, bvN, zp1]
    exact g3 K
