-- ONE CROSSING COPIED FROM ANOTHER
theorem va_c {α : Type} {f g : Nat → α} {x : Int32} {n k : Nat} (hx : nn x = n) (hk : k < n) : va_cpy f g (nn 0) (nn 0) (nn x) k = f k := by
  show (if nn 0 ≤ k ∧ k < nn 0 + nn x then f (nn 0 + (k - nn 0)) else g k) = f k
  rw [hx, show nn 0 = 0 from rfl, if_pos ⟨by omega, by omega⟩, Nat.zero_add, Nat.sub_zero]
section CP
variable {S : St} {g0 g1 : Nat}
theorem cp3 (hne : g1 ≠ g0) : ∃ S', f_X3_copyFrom g0 g1 S = some S' ∧ Fr (fun k x => (9 ≤ k ∧ k ≤ 13) ∧ x = g0) S S' ∧ gi S' 9 g0 0 = gi S 9 g1 0 ∧ ∀ k, k < 6 → gi S' 10 g0 k = gi S 10 g1 k ∧ gi S' 11 g0 k = gi S 11 g1 k ∧ gi S' 12 g0 k = gi S 12 g1 k ∧ gi S' 13 g0 k = gi S 13 g1 k := by
  unfold f_X3_copyFrom
  simp only [bvE, ck_t (show cpok 0 0 6 6 6 = true by decide)]
  refine ⟨_, rfl, ?_, ?_, ?_⟩
  · exact (Fr.si ⟨by omega, rfl⟩).tr ((Fr.ai ⟨by omega, rfl⟩).tr ((Fr.ai ⟨by omega, rfl⟩).tr ((Fr.ai ⟨by omega, rfl⟩).tr (Fr.ai ⟨by omega, rfl⟩))))
  · simp [pgi_ai, pgi_si, upd_eq]
  · intro k hk
    simp [pgi_ai, pgi_si, va_c (show nn 6 = 6 from rfl) hk]
theorem cp1 (hne : g1 ≠ g0) : ∃ S', f_X1_copyFrom g0 g1 S = some S' ∧ Fr (fun k x => (17 ≤ k ∧ k ≤ 20) ∧ x = g0) S S' ∧ gi S' 17 g0 3 = gi S 17 g1 3 ∧ ∀ k, k < 10 → gi S' 18 g0 k = gi S 18 g1 k ∧ gi S' 19 g0 k = gi S 19 g1 k ∧ gi S' 20 g0 k = gi S 20 g1 k := by
  unfold f_X1_copyFrom
  simp only [bvE, ck_t (show cpok 0 0 10 10 10 = true by decide)]
  refine ⟨_, rfl, ?_, ?_, ?_⟩
  · exact (Fr.si ⟨by omega, rfl⟩).tr ((Fr.ai ⟨by omega, rfl⟩).tr ((Fr.ai ⟨by omega, rfl⟩).tr (Fr.ai ⟨by omega, rfl⟩)))
  · simp [pgi_ai, pgi_si, upd_eq]
  · intro k hk
    simp [pgi_ai, pgi_si, va_c (show nn 10 = 10 from rfl) hk]
theorem cp0 (hne : g1 ≠ g0) {h c : Nat} (hh : h ≤ 3000) (hc : c ≤ 256) (e3 : gi S 14 g1 3 = Int32.ofNat h) (e0 : gi S 14 g1 0 = Int32.ofNat c) (l0 : gn S 15 g0 = 4 * c) (l1 : gn S 15 g1 = 4 * c) : ∃ S', f_X0_copyFrom g0 g1 S = some S' ∧ Fr (fun k x => (14 ≤ k ∧ k ≤ 16) ∧ x = g0) S S' ∧ gi S' 14 g0 3 = gi S 14 g1 3 ∧ gi S' 14 g0 0 = gi S 14 g0 0 ∧ gn S' 15 g0 = gn S 15 g0 ∧ (∀ s, s < 4 → gi S' 16 g0 s = gi S 16 g1 s) ∧ ∀ j, j < 4 * min h c → gi S' 15 g0 j = gi S 15 g1 j := by
  unfold f_X0_copyFrom f_X0_kept
  have r3 : ∀ v f, gi (ai (si S 14 g0 3 v) 16 g0 f) 14 g1 = gi S 14 g1 := fun v f => by simp [pgi_ai, pgi_si, hne]
  have r5 : ∀ v f, gi (ai (si S 14 g0 3 v) 16 g0 f) 15 g1 = gi S 15 g1 := fun v f => by simp [pgi_ai, pgi_si]
  have n0 : ∀ v f, gn (ai (si S 14 g0 3 v) 16 g0 f) 15 g0 = 4 * c := fun v f => l0
  have n1 : ∀ v f, gn (ai (si S 14 g0 3 v) 16 g0 f) 15 g1 = 4 * c := fun v f => l1
  have q : mnI (Int32.ofNat (min h c) * 4) (Int32.ofNat (4 * c)) = Int32.ofNat (4 * min h c) := by
    rw [zMu', zmn (by omega) (by omega)]; congr 1; omega
  have ok : cpok 0 0 (Int32.ofNat (4 * min h c)) (4 * c) (4 * c) = true := by
    unfold cpok
    rw [decide_eq_false (zNeg (by omega)), zN (by omega), decide_eq_true (show nn 0 + 4 * min h c ≤ 4 * c by rw [show nn 0 = 0 from rfl]; omega)]; rfl
  simp only [bvE, ck_t (show cpok 0 0 4 4 4 = true by decide), onS, r3, r5, n0, n1, e3, e0, zmn (show h < 2147483648 by omega) (show c < 2147483648 by omega), q, ck_t ok]
  refine ⟨_, rfl, ?_, ?_, ?_, rfl, ?_, ?_⟩
  · exact (Fr.si ⟨by omega, rfl⟩).tr ((Fr.ai ⟨by omega, rfl⟩).tr (Fr.ai ⟨by omega, rfl⟩))
  · simp [pgi_ai, pgi_si, upd_eq]
  · simp [pgi_ai, pgi_si, upd_ne]
  · intro s hs
    simp [pgi_ai, pgi_si, va_c (show nn 4 = 4 from rfl) hs]
  · intro j hj
    rw [pgi_ai, if_pos ⟨rfl, rfl⟩, va_c (zN (by omega)) hj]
theorem FU3 : FU = (FU - 3) + 1 + 1 + 1 := rfl
theorem FU5 : FU = (FU - 5) + 1 + 1 + 1 + 1 + 1 := rfl
theorem cp8 (hne : g1 ≠ g0) : ∃ S', f_X8_copyFrom g0 g1 S = some S' ∧ Fr (fun k x => ((k = 22 ∨ k = 25) ∧ x = g0) ∨ (k = 24 ∧ (x = 2 * g0 ∨ x = 2 * g0 + 1))) S S' ∧ gi S' 22 g0 3 = gi S 22 g1 3 ∧ gi S' 22 g0 2 = gi S 22 g1 2 ∧ (∀ k, k < 18 → gi S' 25 g0 k = gi S 25 g1 k) ∧ ∀ i, i < 21 → gi S' 24 (2 * g0) i = gi S 24 (2 * g1) i ∧ gi S' 24 (2 * g0 + 1) i = gi S 24 (2 * g1 + 1) i := by
  have lp : ∀ (Z : St) (K : St → Option St), f_X8_copyFrom_36 g0 g1 K FU 0 Z = K (ai (ai Z 24 (2 * g0 + 0) (va_cpy (gi Z 24 (2 * g1 + 0)) (gi Z 24 (2 * g0 + 0)) (nn 0) (nn 0) (nn 21))) 24 (2 * g0 + 1) (va_cpy (gi (ai Z 24 (2 * g0 + 0) (va_cpy (gi Z 24 (2 * g1 + 0)) (gi Z 24 (2 * g0 + 0)) (nn 0) (nn 0) (nn 21))) 24 (2 * g1 + 1)) (gi (ai Z 24 (2 * g0 + 0) (va_cpy (gi Z 24 (2 * g1 + 0)) (gi Z 24 (2 * g0 + 0)) (nn 0) (nn 0) (nn 21))) 24 (2 * g0 + 1)) (nn 0) (nn 0) (nn 21))) := by
    intro Z K
    have c21 : cpok 0 0 21 21 21 = true := by decide
    rw [FU3, f_X8_copyFrom_36, brn (by decide), ck_t (by decide), ck_t (by decide), ck_t c21, bvE, bvE, show nn 0 = 0 from rfl, show (0 : Int32) + 1 = 1 from rfl, f_X8_copyFrom_36, brn (by decide), ck_t (by decide), ck_t (by decide), ck_t c21, bvE, bvE, show nn 1 = 1 from rfl, show (1 : Int32) + 1 = 2 from rfl, f_X8_copyFrom_36, brp (by decide)]
    rfl
  unfold f_X8_copyFrom
  simp only [bvE, ck_t (show cpok 0 0 (Int32.ofNat 18) 18 18 = true by decide), lp]
  refine ⟨_, rfl, ?_, ?_, ?_, ?_, ?_⟩
  · exact (Fr.si (Or.inl ⟨by omega, rfl⟩)).tr ((Fr.si (Or.inl ⟨by omega, rfl⟩)).tr ((Fr.ai (Or.inl ⟨by omega, rfl⟩)).tr ((Fr.ai (Or.inr ⟨rfl, by omega⟩)).tr (Fr.ai (Or.inr ⟨rfl, by omega⟩)))))
  · simp [pgi_ai, pgi_si, upd_eq, upd_ne]
  · simp [pgi_ai, pgi_si, upd_eq, upd_ne, hne]
  · intro k hk
    simp [pgi_ai, pgi_si, va_c (show nn 18 = 18 from rfl) hk]
  · intro i hi
    have e1 : ¬ 2 * g0 = 2 * g0 + 1 := by omega
    have e2 : ¬ 2 * g1 + 1 = 2 * g0 := by omega
    simp [pgi_ai, pgi_si, va_c (show nn 21 = 21 from rfl) hi, e1, e2]
theorem cp119 (Z : St) (K : St → Option St) : f_X2_copyFrom_119 g0 g1 K FU 0 Z = K (sr (sr (sr (sr Z 8 g0 0 (gr Z 8 g1 0)) 8 g0 1 (gr (sr Z 8 g0 0 (gr Z 8 g1 0)) 8 g1 1)) 8 g0 2 (gr (sr (sr Z 8 g0 0 (gr Z 8 g1 0)) 8 g0 1 (gr (sr Z 8 g0 0 (gr Z 8 g1 0)) 8 g1 1)) 8 g1 2)) 8 g0 3 (gr (sr (sr (sr Z 8 g0 0 (gr Z 8 g1 0)) 8 g0 1 (gr (sr Z 8 g0 0 (gr Z 8 g1 0)) 8 g1 1)) 8 g0 2 (gr (sr (sr Z 8 g0 0 (gr Z 8 g1 0)) 8 g0 1 (gr (sr Z 8 g0 0 (gr Z 8 g1 0)) 8 g1 1)) 8 g1 2)) 8 g1 3)) := by
  rw [FU5, f_X2_copyFrom_119, brn (by decide), ck_t (by decide), ck_t (by decide), bvE, bvE, show nn 0 = 0 from rfl, show (0 : Int32) + 1 = 1 from rfl, f_X2_copyFrom_119, brn (by decide), ck_t (by decide), ck_t (by decide), bvE, bvE, show nn 1 = 1 from rfl, show (1 : Int32) + 1 = 2 from rfl, f_X2_copyFrom_119, brn (by decide), ck_t (by decide), ck_t (by decide), bvE, bvE, show nn 2 = 2 from rfl, show (2 : Int32) + 1 = 3 from rfl, f_X2_copyFrom_119, brn (by decide), ck_t (by decide), ck_t (by decide), bvE, bvE, show nn 3 = 3 from rfl, show (3 : Int32) + 1 = 4 from rfl, f_X2_copyFrom_119, brp (by decide)]
/-- the rows that copying writes -/
def ow0 (g k x : Nat) : Prop := ((2 ≤ k ∧ k ≤ 13 ∨ 17 ≤ k ∧ k ≤ 22 ∨ k = 25) ∧ x = g) ∨ ((k = 14 ∨ k = 15 ∨ k = 16 ∨ k = 24) ∧ (x = 2 * g ∨ x = 2 * g + 1))
end CP
