theorem zmx {a b : Nat} (ha : a < 2147483648) (hb : b < 2147483648) : mxI (Int32.ofNat a) (Int32.ofNat b) = Int32.ofNat (max a b) := by
  show (if Int32.ofNat a < Int32.ofNat b then Int32.ofNat b else Int32.ofNat a) = _
  by_cases hc : a < b
  · rw [if_pos ((zL ha hb).mpr hc), Nat.max_eq_right (by omega)]
  · rw [if_neg (fun z => hc ((zL ha hb).mp z)), Nat.max_eq_left (by omega)]
theorem zmx1 {b : Nat} (hb : b < 2147483648) : mxI 1 (Int32.ofNat b) = Int32.ofNat (max 1 b) := zmx (a := 1) (by omega) hb
section FR
variable {n k tr : Nat} {V : Nat → Nat} {q d f : Nat}
theorem zix {d u : Nat} (hu : 1 ≤ u) : 13 * (Int32.ofNat d + 1) + Int32.ofNat u - 1 = Int32.ofNat (13 * (d + 1) + (u - 1)) := by
  rw [zp1, zMu, zAA, zSub1 (by omega)]; congr 1; omega
theorem l65 (ht : tr < 4) (hk1 : 1 ≤ k) (hk : k ≤ 12) (hq : q ≤ 99) (hd : d < 28) (hf : f ≤ k) (S : St) (hP : (gl S 80 0 (28 * tr + d)).toInt32 = Int32.ofNat q) (hV : ∀ f', f' ≤ k → gi S 77 0 (13 * (d + 1) + f') = Int32.ofNat (V f') ∧ V f' ≤ 40000) (K : Int32 → St → Option St) : f_X12_layPaid_65 0 (Int32.ofNat tr) (Int32.ofNat k) (Int32.ofNat d) (Int32.ofNat f) K FU (-1) (Int32.ofNat (max 1 f)) S = K (Int32.ofNat (bs k V q f).2) S := by
  have gb : ∀ u, u ≤ k → 1 ≤ u → gd V q f u ≤ 41188 := fun u hu _ => Nat.le_trans (gd_le (B := 40000) hq (by omega) (hV (u - 1) (by omega)).2) (by omega)
  have st : ∀ (m u : Nat) (x : Int32), max 1 f ≤ u → u ≤ k → f_X12_layPaid_65 0 (Int32.ofNat tr) (Int32.ofNat k) (Int32.ofNat d) (Int32.ofNat f) K (m + 1) x (Int32.ofNat u) S = br (x = -1) (f_X12_layPaid_65 0 (Int32.ofNat tr) (Int32.ofNat k) (Int32.ofNat d) (Int32.ofNat f) K m (Int32.ofNat (gd V q f u)) (Int32.ofNat (u + 1)) S) (br (x ≤ Int32.ofNat (gd V q f u)) (f_X12_layPaid_65 0 (Int32.ofNat tr) (Int32.ofNat k) (Int32.ofNat d) (Int32.ofNat f) K m x (Int32.ofNat (u + 1)) S) (f_X12_layPaid_65 0 (Int32.ofNat tr) (Int32.ofNat k) (Int32.ofNat d) (Int32.ofNat f) K m (Int32.ofNat (gd V q f u)) (Int32.ofNat (u + 1)) S)) := by
    intro m u x h1 h2
    rw [f_X12_layPaid_65, brn (fun z => absurd ((zL (by omega) (by omega)).mp z) (by omega)), zix (by omega), zMu, zAA, ck_t (ib (by omega) (by omega)), ck_t (ib (by omega) (by omega)), zN (by omega), zN (by omega), hP, (hV (u - 1) (by omega)).1, zS f (by omega), fsum (by omega)]
    simp only [bvE, zp1]
  have lp : ∀ (r c m : Nat), max 1 f + c + r = k → r < m → f_X12_layPaid_65 0 (Int32.ofNat tr) (Int32.ofNat k) (Int32.ofNat d) (Int32.ofNat f) K m (Int32.ofNat (mnf (gd V q f) (max 1 f) c).2) (Int32.ofNat (max 1 f + c + 1)) S = K (Int32.ofNat (bs k V q f).2) S := by
    intro r
    induction r with
    | zero =>
      intro c m hc hm
      obtain ⟨m, rfl⟩ : ∃ n, m = n + 1 := ⟨m - 1, by omega⟩
      rw [f_X12_layPaid_65, brp ((zL (by omega) (by omega)).mpr (by omega))]
      unfold bs
      rw [show k - max 1 f = c by omega]
    | succ r ih =>
      intro c m hc hm
      obtain ⟨m, rfl⟩ : ∃ n, m = n + 1 := ⟨m - 1, by omega⟩
      have b1 := mnf_le (g := gd V q f) (u0 := max 1 f) (B := 41188) c (fun u h1 h2 => gb u (by omega) (by omega))
      have b2 := gb (max 1 f + (c + 1)) (by omega) (by omega)
      have ih' := ih (c + 1) m (by omega) (by omega)
      rw [show max 1 f + c + 1 = max 1 f + (c + 1) by omega, st m _ _ (by omega) (by omega), brn (zNe (by omega))]
      rw [mnf] at ih'
      by_cases e : (mnf (gd V q f) (max 1 f) c).2 ≤ gd V q f (max 1 f + (c + 1))
      · rw [brp ((zLE (by omega) (by omega)).mpr e)]
        rw [if_pos e] at ih'
        exact ih'
      · rw [brn (fun z => e ((zLE (by omega) (by omega)).mp z))]
        rw [if_neg e] at ih'
        exact ih'
  rw [FUp, st _ _ _ (Nat.le_refl _) (by omega), brp rfl]
  exact lp (k - max 1 f) 0 (FU - 1) (by omega) (by unfold FU; omega)
theorem l48 (ht : tr < 4) (hk1 : 1 ≤ k) (hk : k ≤ 12) (hq : q ≤ 99) (hd : d < 28) : ∀ (m x : Nat) (S : St), x ≤ k + 1 → k + 1 < m + x → (gl S 80 0 (28 * tr + d)).toInt32 = Int32.ofNat q → (∀ f', f' ≤ k → gi S 77 0 (13 * (d + 1) + f') = Int32.ofNat (V f') ∧ V f' ≤ 40000) → (∀ f, f < x → gi S 77 0 (13 * d + f) = Int32.ofNat (bs k V q f).2) → ∃ S', (∀ K, f_X12_layPaid_48 0 (Int32.ofNat tr) (Int32.ofNat k) (Int32.ofNat d) K m (Int32.ofNat x) S = K S') ∧ Fr WF S S' ∧ (∀ f, f ≤ k → gi S' 77 0 (13 * d + f) = Int32.ofNat (bs k V q f).2) ∧ ∀ j, 13 * (d + 1) ≤ j → gi S' 77 0 j = gi S 77 0 j := by
  intro m
  induction m with
  | zero => intro x S h1 h2; omega
  | succ m ih =>
    intro x S h1 h2 hP hV h3
    by_cases hc : k < x
    · exact ⟨S, fun K => by rw [f_X12_layPaid_48, brp ((zL (by omega) (by omega)).mpr hc)], Fr.rf, fun f hf => h3 f (by omega), fun j _ => rfl⟩
    · have far : ∀ j, 13 * (d + 1) ≤ j → gi (si S 77 0 (13 * d + x) (Int32.ofNat (bs k V q x).2)) 77 0 j = gi S 77 0 j := fun j hj => by
        rw [pgi_si, if_pos ⟨rfl, rfl⟩, upd_ne (by omega)]
      obtain ⟨S', q1, q2, q3, q4⟩ := ih (x + 1) (si S 77 0 (13 * d + x) (Int32.ofNat (bs k V q x).2)) (by omega) (by omega) hP (fun f' hf' => by rw [far _ (by omega)]; exact hV f' hf') (fun f hf => by
        rw [pgi_si, if_pos ⟨rfl, rfl⟩]
        by_cases e : f = x
        · rw [e]; exact upd_eq
        · rw [upd_ne (by omega)]; exact h3 f (by omega))
      refine ⟨S', fun K => ?_, (Fr.si (Or.inr (Or.inr rfl))).tr q2, q3, fun j hj => (q4 j hj).trans (far j hj)⟩
      rw [f_X12_layPaid_48, brn (fun z => hc ((zL (by omega) (by omega)).mp z)), bvE, zmx1 (by omega), l65 ht hk1 hk hq hd (by omega) S hP hV, zMu, zAA, ck_t (ib (by omega) (by omega)), bvE, bvE, zN (by omega), zp1]
      exact q1 K
theorem p45 (ht : tr < 4) (hk1 : 1 ≤ k) (hk : k ≤ 12) (hq : q ≤ 99) (hd : d < 28) : ∀ (m x : Nat) (S : St), x ≤ k + 1 → k + 1 < m + x → (gl S 53 tr d).toInt32 = Int32.ofNat q → (∀ f', f' ≤ k → gi S 55 (d + 1) f' = Int32.ofNat (V f') ∧ V f' ≤ 40000) → (∀ f, f < x → gi S 55 d f = Int32.ofNat (bs k V q f).2 ∧ gi S 57 d f = Int32.ofNat ((bs k V q f).1 - f)) → ∃ S', (∀ K, f_X10_planFilling_45 0 (Int32.ofNat tr) (Int32.ofNat k) (Int32.ofNat d) K m (Int32.ofNat x) S = K S') ∧ Fr (fun k x => (k = 55 ∨ k = 57) ∧ x = d) S S' ∧ (∀ f, f ≤ k → gi S' 55 d f = Int32.ofNat (bs k V q f).2 ∧ gi S' 57 d f = Int32.ofNat ((bs k V q f).1 - f)) := by
  intro m
  induction m with
  | zero => intro x S h1 h2; omega
  | succ m ih =>
    intro x S h1 h2 hP hV h3
    by_cases hc : k < x
    · exact ⟨S, fun K => by rw [f_X10_planFilling_45, brp ((zL (by omega) (by omega)).mpr hc)], Fr.rf, fun f hf => h3 f (by omega)⟩
    · obtain ⟨S', q1, q2, q3⟩ := ih (x + 1) (si (si S 55 d x (Int32.ofNat (bs k V q x).2)) 57 d x (Int32.ofNat ((bs k V q x).1 - x))) (by omega) (by omega) hP (fun f' hf' => by
          rw [pgi_si, if_neg (by omega), pgi_si, if_neg (by omega)]; exact hV f' hf') (fun f hf => by
        rw [pgi_si, if_neg (by omega), pgi_si, if_pos ⟨rfl, rfl⟩, pgi_si, if_pos ⟨rfl, rfl⟩, pgi_si, if_neg (by omega)]
        by_cases e : f = x
        · rw [e]; exact ⟨upd_eq, upd_eq⟩
        · rw [upd_ne (by omega), upd_ne (by omega)]; exact h3 f (by omega))
      refine ⟨S', fun K => ?_, ((Fr.si ⟨Or.inl rfl, rfl⟩).tr (Fr.si ⟨Or.inr rfl, rfl⟩)).tr q2, q3⟩
      rw [f_X10_planFilling_45, brn (fun z => hc ((zL (by omega) (by omega)).mp z)), ck_t (ib (by omega) (by omega)), ck_t (ib (by omega) (by omega)), zN (by omega), zN (by omega), hP, pday hk1 hk hq hd (by omega) S hV, onS, bvE, zp1]
      exact q1 K
variable {p : Nat → Nat}
theorem zdn {e : Nat} : Int32.ofNat e + -1 = Int32.ofNat e - 1 := (Int32.sub_eq_add_neg _ _).symm
theorem Vd40 (hk1 : 1 ≤ k) (hk : k ≤ 12) (hp : ∀ d, p d ≤ 99) {r : Nat} (hr : r ≤ 28) {f : Nat} (hf : f ≤ k) : Vd n k p r f ≤ 40000 := by
  have := Vd_le n k p hk1 hk hp r f hf
  omega
theorem Vd_d {d : Nat} (hd : d < n) {f : Nat} : Vd n k p (n - d) f = (bs k (Vd n k p (n - (d + 1))) (p d) f).2 := by
  rw [show n - d = (n - (d + 1)) + 1 by omega, Vd, show n - (n - (d + 1) + 1) = d by omega]
theorem l40 (ht : tr < 4) (hk1 : 1 ≤ k) (hk : k ≤ 12) (hp : ∀ d, p d ≤ 99) (hn : n ≤ 28) : ∀ (e m : Nat) (S : St), e ≤ n → e < m → (∀ d, d < n → (gl S 80 0 (28 * tr + d)).toInt32 = Int32.ofNat (p d)) → (∀ d f, e ≤ d → d ≤ n → f ≤ k → gi S 77 0 (13 * d + f) = Int32.ofNat (Vd n k p (n - d) f)) → ∃ S', (∀ K, f_X12_layPaid_40 0 (Int32.ofNat tr) (Int32.ofNat k) K m (Int32.ofNat e - 1) S = K S') ∧ Fr WF S S' ∧ ∀ d f, d ≤ n → f ≤ k → gi S' 77 0 (13 * d + f) = Int32.ofNat (Vd n k p (n - d) f) := by
  intro e
  induction e with
  | zero =>
    intro m S h1 h2 hP hV
    obtain ⟨m, rfl⟩ : ∃ n, m = n + 1 := ⟨m - 1, by omega⟩
    exact ⟨S, fun K => by rw [f_X12_layPaid_40, brp (by decide)], Fr.rf, fun d f h3 h4 => hV d f (by omega) h3 h4⟩
  | succ e ih =>
    intro m S h1 h2 hP hV
    obtain ⟨m, rfl⟩ : ∃ n, m = n + 1 := ⟨m - 1, by omega⟩
    obtain ⟨S1, q1, q2, q3, q4⟩ := l48 (V := Vd n k p (n - (e + 1))) ht hk1 hk (hp e) (show e < 28 by omega) FU 0 S (by omega) (by unfold FU; omega) (hP e (by omega)) (fun f' hf' => ⟨hV (e + 1) f' (by omega) (by omega) hf', Vd40 hk1 hk hp (by omega) hf'⟩) (fun f hf => by omega)
    obtain ⟨S', g1, g2, g3⟩ := ih m S1 (by omega) (by omega) (fun d hd => by rw [(q2 80 0 (by unfold WF; omega)).2.1]; exact hP d hd) (fun d f h3 h4 h5 => by
      by_cases e9 : d = e
      · rw [e9, q3 f h5, Vd_d (by omega)]
      · rw [q4 _ (by omega)]; exact hV d f (by omega) h4 h5)
    refine ⟨S', fun K => ?_, q2.tr g2, g3⟩
    rw [f_X12_layPaid_40, show Int32.ofNat (e + 1) - 1 = Int32.ofNat e from zSub1 (by omega), brn (zNeg (by omega))]
    refine (q1 _).trans ?_
    rw [bvE, zdn]
    exact g1 K
theorem p37 (ht : tr < 4) (hk1 : 1 ≤ k) (hk : k ≤ 12) (hp : ∀ d, p d ≤ 99) (hn : n ≤ 28) : ∀ (e m : Nat) (S : St), e ≤ n → e < m → (∀ d, d < n → (gl S 53 tr d).toInt32 = Int32.ofNat (p d)) → (∀ d f, e ≤ d → d ≤ n → f ≤ k → gi S 55 d f = Int32.ofNat (Vd n k p (n - d) f) ∧ (d < n → gi S 57 d f = Int32.ofNat ((bs k (Vd n k p (n - (d + 1))) (p d) f).1 - f))) → ∃ S', (∀ K, f_X10_planFilling_37 0 (Int32.ofNat tr) (Int32.ofNat k) K m (Int32.ofNat e - 1) S = K S') ∧ Fr WF S S' ∧ ∀ d f, d ≤ n → f ≤ k → gi S' 55 d f = Int32.ofNat (Vd n k p (n - d) f) ∧ (d < n → gi S' 57 d f = Int32.ofNat ((bs k (Vd n k p (n - (d + 1))) (p d) f).1 - f)) := by
  intro e
  induction e with
  | zero =>
    intro m S h1 h2 hP hV
    obtain ⟨m, rfl⟩ : ∃ n, m = n + 1 := ⟨m - 1, by omega⟩
    exact ⟨S, fun K => by rw [f_X10_planFilling_37, brp (by decide)], Fr.rf, fun d f h3 h4 => hV d f (by omega) h3 h4⟩
  | succ e ih =>
    intro m S h1 h2 hP hV
    obtain ⟨m, rfl⟩ : ∃ n, m = n + 1 := ⟨m - 1, by omega⟩
    obtain ⟨S1, q1, q2, q3⟩ := p45 (V := Vd n k p (n - (e + 1))) ht hk1 hk (hp e) (show e < 28 by omega) FU 0 S (by omega) (by unfold FU; omega) (hP e (by omega)) (fun f' hf' => ⟨(hV (e + 1) f' (by omega) (by omega) hf').1, Vd40 hk1 hk hp (by omega) hf'⟩) (fun f hf => by omega)
    obtain ⟨S', g1, g2, g3⟩ := ih m S1 (by omega) (by omega) (fun d hd => by rw [(q2 53 tr (by omega)).2.1]; exact hP d hd) (fun d f h3 h4 h5 => by
      by_cases e9 : d = e
      · rw [e9, (q3 f h5).1, (q3 f h5).2, Vd_d (by omega)]; exact ⟨rfl, fun _ => rfl⟩
      · rw [(q2 55 d (by omega)).1, (q2 57 d (by omega)).1]; exact hV d f (by omega) h4 h5)
    refine ⟨S', fun K => ?_, (q2.mono (fun k x hw => by unfold WF; omega)).tr g2, g3⟩
    rw [f_X10_planFilling_37, show Int32.ofNat (e + 1) - 1 = Int32.ofNat e from zSub1 (by omega), brn (zNeg (by omega))]
    refine (q1 _).trans ?_
    rw [bvE, zdn]
    exact g1 K
end FR
