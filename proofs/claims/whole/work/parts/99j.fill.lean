-- FILL: the least paid, day by day from behind
/-- the first least of g over u0 .. u0 + c: where, how much -/
def mnf (g : Nat → Nat) (u0 : Nat) : Nat → Nat × Nat
  | 0 => (u0, g u0)
  | c + 1 => if (mnf g u0 c).2 ≤ g (u0 + (c + 1)) then mnf g u0 c else (u0 + (c + 1), g (u0 + (c + 1)))
theorem mnf_sp (g : Nat → Nat) (u0 : Nat) : ∀ c, u0 ≤ (mnf g u0 c).1 ∧ (mnf g u0 c).1 ≤ u0 + c ∧ g (mnf g u0 c).1 = (mnf g u0 c).2 ∧ (∀ u, u0 ≤ u → u ≤ u0 + c → (mnf g u0 c).2 ≤ g u) ∧ ∀ u, u0 ≤ u → u < (mnf g u0 c).1 → (mnf g u0 c).2 < g u := by
  intro c
  induction c with
  | zero =>
    refine ⟨Nat.le_refl _, Nat.le_refl _, rfl, fun u h1 h2 => ?_, fun u h1 h2 => ?_⟩
    · have : u = u0 := by omega
      rw [this]; exact Nat.le_refl _
    · have h2 : u < u0 := h2
      omega
  | succ c ih =>
    obtain ⟨i1, i2, i3, i4, i5⟩ := ih
    rw [mnf]
    by_cases e : (mnf g u0 c).2 ≤ g (u0 + (c + 1))
    · rw [if_pos e]
      refine ⟨i1, by omega, i3, fun u h1 h2 => ?_, i5⟩
      by_cases e9 : u = u0 + (c + 1)
      · rw [e9]; exact e
      · exact i4 u h1 (by omega)
    · rw [if_neg e]
      refine ⟨by show u0 ≤ u0 + (c + 1); omega, Nat.le_refl _, rfl, fun u h1 h2 => ?_, fun u h1 h2 => ?_⟩
      · show g (u0 + (c + 1)) ≤ g u
        by_cases e9 : u = u0 + (c + 1)
        · rw [e9]; exact Nat.le_refl _
        · have := i4 u h1 (by omega); omega
      · show g (u0 + (c + 1)) < g u
        have h2 : u < u0 + (c + 1) := h2
        have := i4 u h1 (by omega); omega
section FI
variable (n k : Nat) (p : Nat → Nat)
/-- what u after filling costs, on the day that has r days behind it, f there -/
def gd (V : Nat → Nat) (q f u : Nat) : Nat := (u - f) * q + V (u - 1)
def bs (V : Nat → Nat) (q f : Nat) : Nat × Nat := mnf (gd V q f) (max 1 f) (k - max 1 f)
def Vd : Nat → Nat → Nat
  | 0, _ => 0
  | r + 1, f => (bs k (Vd r) (p (n - (r + 1))) f).2
theorem bs_sp {V : Nat → Nat} {q f : Nat} (hk : 1 ≤ k) (hf : f ≤ k) : max 1 f ≤ (bs k V q f).1 ∧ (bs k V q f).1 ≤ k ∧ gd V q f (bs k V q f).1 = (bs k V q f).2 ∧ ∀ u, max 1 f ≤ u → u < (bs k V q f).1 → (bs k V q f).2 < gd V q f u := by
  obtain ⟨i1, i2, i3, i4, i5⟩ := mnf_sp (gd V q f) (max 1 f) (k - max 1 f)
  exact ⟨i1, by unfold bs; omega, i3, i5⟩
theorem Vd_le (hk : 1 ≤ k) (hk2 : k ≤ 12) (hp : ∀ d, p d ≤ 99) : ∀ r f, f ≤ k → Vd n k p r f ≤ 1188 * r := by
  intro r
  induction r with
  | zero => intro f _; exact Nat.le_refl 0
  | succ r ih =>
    intro f hf
    rw [Vd]
    obtain ⟨i1, i2, i3, i4⟩ := bs_sp (V := Vd n k p r) (q := p (n - (r + 1))) k hk hf
    rw [← i3]
    unfold gd
    have h1 := ih ((bs k (Vd n k p r) (p (n - (r + 1))) f).1 - 1) (by omega)
    have h2 : ((bs k (Vd n k p r) (p (n - (r + 1))) f).1 - f) * p (n - (r + 1)) ≤ 12 * 99 := Nat.mul_le_mul (by omega) (hp _)
    omega
theorem gd_le {V : Nat → Nat} {q f u B : Nat} (hq : q ≤ 99) (hu : u ≤ 12) (hV : V (u - 1) ≤ B) : gd V q f u ≤ 1188 + B := by
  unfold gd
  have h2 : (u - f) * q ≤ 12 * 99 := Nat.mul_le_mul (by omega) hq
  omega
end FI
theorem mnf_le {g : Nat → Nat} {u0 B : Nat} : ∀ c, (∀ u, u0 ≤ u → u ≤ u0 + c → g u ≤ B) → (mnf g u0 c).2 ≤ B := by
  intro c h
  obtain ⟨i1, i2, i3, -⟩ := mnf_sp g u0 c
  rw [← i3]; exact h _ i1 i2
/-- rows of the plan -/
def WF (k x : Nat) : Prop := k = 55 ∨ k = 57 ∨ k = 77
section FC
variable {n k : Nat}
theorem pf10 (hn : n ≤ 28) (hk : k ≤ 12) {A : Int32} : ∀ (m x : Nat) (S : St), x ≤ k + 1 → k + 1 < m + x → (∀ f, f < x → gi S 55 n f = 0) → ∃ S', (∀ K, f_X10_planFilling_10 0 A (Int32.ofNat k) (Int32.ofNat n) K m (Int32.ofNat x) S = K S') ∧ Fr WF S S' ∧ ∀ f, f ≤ k → gi S' 55 n f = 0 := by
  intro m
  induction m with
  | zero => intro x S h1 h2; omega
  | succ m ih =>
    intro x S h1 h2 h3
    by_cases hc : k < x
    · exact ⟨S, fun K => by rw [f_X10_planFilling_10, brp ((zL (by omega) (by omega)).mpr hc)], Fr.rf, fun f hf => h3 f (by omega)⟩
    · obtain ⟨S', q1, q2, q3⟩ := ih (x + 1) (si S 55 n x 0) (by omega) (by omega) (fun f hf => by
        rw [pgi_si, if_pos ⟨rfl, rfl⟩]
        by_cases e : f = x
        · rw [e]; exact upd_eq
        · rw [upd_ne e]; exact h3 f (by omega))
      refine ⟨S', fun K => ?_, (Fr.si (Or.inl rfl)).tr q2, q3⟩
      rw [f_X10_planFilling_10, brn (fun z => hc ((zL (by omega) (by omega)).mp z)), ck_t (ib (by omega) (by omega)), ck_t (ib (by omega) (by omega)), bvE, bvE, zN (by omega), zN (by omega), zp1]
      exact q1 K
theorem ly10 (hn : n ≤ 28) (hk : k ≤ 12) {A : Int32} : ∀ (m x : Nat) (S : St), x ≤ k + 1 → k + 1 < m + x → (∀ f, f < x → gi S 77 0 (13 * n + f) = 0) → ∃ S', (∀ K, f_X12_layPaid_10 0 A (Int32.ofNat k) (Int32.ofNat n) K m (Int32.ofNat x) S = K S') ∧ Fr WF S S' ∧ ∀ f, f ≤ k → gi S' 77 0 (13 * n + f) = 0 := by
  intro m
  induction m with
  | zero => intro x S h1 h2; omega
  | succ m ih =>
    intro x S h1 h2 h3
    by_cases hc : k < x
    · exact ⟨S, fun K => by rw [f_X12_layPaid_10, brp ((zL (by omega) (by omega)).mpr hc)], Fr.rf, fun f hf => h3 f (by omega)⟩
    · obtain ⟨S', q1, q2, q3⟩ := ih (x + 1) (si S 77 0 (13 * n + x) 0) (by omega) (by omega) (fun f hf => by
        rw [pgi_si, if_pos ⟨rfl, rfl⟩]
        by_cases e : f = x
        · rw [e]; exact upd_eq
        · rw [upd_ne (by omega)]; exact h3 f (by omega))
      refine ⟨S', fun K => ?_, (Fr.si (Or.inr (Or.inr rfl))).tr q2, q3⟩
      rw [f_X12_layPaid_10, brn (fun z => hc ((zL (by omega) (by omega)).mp z)), zMu, zAA, ck_t (ib (by omega) (by omega)), bvE, bvE, zN (by omega), zp1]
      exact q1 K
variable {V : Nat → Nat} {q d f : Nat}
/-- one sum: class's and reference's -/
theorem fsum {u : Nat} (hu : f ≤ u) : Int32.ofNat (u - f) * Int32.ofNat q + Int32.ofNat (V (u - 1)) = Int32.ofNat (gd V q f u) := by
  rw [← Int32.ofNat_mul, zAA]; rfl
theorem pday (hk1 : 1 ≤ k) (hk : k ≤ 12) (hq : q ≤ 99) (hd : d < 28) (hf : f ≤ k) (S : St) (hV : ∀ f', f' ≤ k → gi S 55 (d + 1) f' = Int32.ofNat (V f') ∧ V f' ≤ 40000) : f_X10_planDay 0 (Int32.ofNat d) (Int32.ofNat f) (Int32.ofNat k) (Int32.ofNat q) S = some (si (si S 55 d f (Int32.ofNat (bs k V q f).2)) 57 d f (Int32.ofNat ((bs k V q f).1 - f))) := by
  have gb : ∀ u, u ≤ k → 1 ≤ u → gd V q f u ≤ 41188 := fun u hu _ => Nat.le_trans (gd_le (B := 40000) hq (by omega) (hV (u - 1) (by omega)).2) (by omega)
  have lp : ∀ (r c m : Nat) (K : Int32 → Int32 → St → Option St), max 1 f + c + r = k → r < m → f_X10_planDay_44 0 (Int32.ofNat d) (Int32.ofNat f) (Int32.ofNat k) (Int32.ofNat q) K m (Int32.ofNat ((mnf (gd V q f) (max 1 f) c).1 - f)) (Int32.ofNat (mnf (gd V q f) (max 1 f) c).2) (Int32.ofNat (max 1 f + c + 1 - f)) S = K (Int32.ofNat ((bs k V q f).1 - f)) (Int32.ofNat (bs k V q f).2) S := by
    intro r
    induction r with
    | zero =>
      intro c m K hc hm
      obtain ⟨m, rfl⟩ : ∃ n, m = n + 1 := ⟨m - 1, by omega⟩
      rw [f_X10_planDay_44, zAA, brp ((zL (by omega) (by omega)).mpr (by omega))]
      unfold bs
      rw [show k - max 1 f = c by omega]
    | succ r ih =>
      intro c m K hc hm
      obtain ⟨m, rfl⟩ : ∃ n, m = n + 1 := ⟨m - 1, by omega⟩
      have b1 := mnf_le (g := gd V q f) (u0 := max 1 f) (B := 41188) c (fun u h1 h2 => gb u (by omega) (by omega))
      have b2 := gb (max 1 f + (c + 1)) (by omega) (by omega)
      have ex : Int32.ofNat (f + (max 1 f + c + 1 - f)) - 1 = Int32.ofNat (max 1 f + (c + 1) - 1) := by
        rw [zSub1 (by omega)]; congr 1; omega
      have es := fsum (V := V) (q := q) (f := f) (u := max 1 f + (c + 1)) (by omega)
      have e8 : Int32.ofNat (max 1 f + c + 1 - f) + 1 = Int32.ofNat (max 1 f + (c + 1) + 1 - f) := by
        rw [zp1]; congr 1; omega
      have ih' := ih (c + 1) m K (by omega) (by omega)
      rw [f_X10_planDay_44, zAA, brn (fun z => absurd ((zL (by omega) (by omega)).mp z) (by omega)), zp1, ck_t (ib (by omega) (by omega)), ex, ck_t (ib (by omega) (by omega)), zN (by omega), zN (by omega), (hV _ (by omega)).1]
      simp only [bvE]
      rw [show max 1 f + c + 1 - f = max 1 f + (c + 1) - f by omega] at e8 ⊢
      rw [es, e8]
      rw [mnf] at ih'
      by_cases e : (mnf (gd V q f) (max 1 f) c).2 ≤ gd V q f (max 1 f + (c + 1))
      · rw [brp ((zLE (by omega) (by omega)).mpr e)]
        rw [if_pos e] at ih'
        exact ih'
      · rw [brn (fun z => e ((zLE (by omega) (by omega)).mp z))]
        rw [if_neg e] at ih'
        exact ih'
  unfold f_X10_planDay
  rw [bvbS]
  have e1 : (if Int32.ofNat f = 0 then (1 : Int32) else 0) = Int32.ofNat (max 1 f - f) := by
    by_cases e : f = 0
    · subst e; rfl
    · rw [if_neg (show ¬ Int32.ofNat f = 0 from fun z => e ((zE (b := 0) (by omega) (by omega)).mp z)), show max 1 f - f = 0 by omega]; rfl
  rw [e1, zp1, ck_t (ib (by omega) (by omega)), zAA, show f + (max 1 f - f) = max 1 f by omega, zSub1 (by omega), ck_t (ib (by omega) (by omega)), zN (by omega), zN (by omega), (hV _ (by omega)).1, fsum (by omega)]
  simp only [bvE, zp1]
  have L := lp (k - max 1 f) 0 FU (fun (x6_18 : Int32) (x7_19 : Int32) (S_20 : St) => ck (inb (Int32.ofNat d) 29 = true) (ck (inb (Int32.ofNat f) 13 = true) (ck (inb (Int32.ofNat d) 28 = true) (ck (inb (Int32.ofNat f) 13 = true) (some (si (si S_20 55 (nn (Int32.ofNat d)) (nn (Int32.ofNat f)) x7_19) 57 (nn (Int32.ofNat d)) (nn (Int32.ofNat f)) x6_18)))))) (by omega) (by unfold FU; omega)
  rw [show max 1 f + 0 + 1 - f = max 1 f - f + 1 by omega] at L
  refine Eq.trans L ?_
  show ck _ _ = _
  rw [ck_t (ib (by omega) (by omega)), ck_t (ib (by omega) (by omega)), ck_t (ib (by omega) (by omega)), ck_t (ib (by omega) (by omega)), zN (by omega), zN (by omega)]
end FC
