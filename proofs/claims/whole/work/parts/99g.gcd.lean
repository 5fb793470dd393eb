-- EUCLID: class stops after a hundred steps, which no pair of 63 bits needs
theorem lI {n : Nat} (h : n < 9223372036854775808) : (Int64.ofNat n).toInt = (n : Int) := Int64.toInt_ofNat_of_lt (by omega)
theorem lS {n : Nat} (a : Nat) (h : a ≤ n) : Int64.ofNat n - Int64.ofNat a = Int64.ofNat (n - a) := by
  have := Int64.ofNat_add (n - a) a
  rw [Nat.sub_add_cancel h] at this
  rw [this, Int64.add_sub_cancel]
theorem lD {a b : Nat} (ha : a < 9223372036854775808) (hb : b < 9223372036854775808) : Int64.ofNat a / Int64.ofNat b = Int64.ofNat (a / b) := by
  rw [← Int64.toInt_inj, Int64.toInt_div, lI ha, lI hb, lI (Nat.lt_of_le_of_lt (Nat.div_le_self a b) ha), Int.tdiv_eq_ediv_of_nonneg (by omega)]
  rw [show ((a : Int) / (b : Int)) = ((a / b : Nat) : Int) from rfl]
  have := Nat.div_le_self a b
  generalize a / b = q at *
  rw [Int.bmod_def]
  omega
theorem lR {a b : Nat} (ha : a < 9223372036854775808) (hb : b < 9223372036854775808) : rmL (Int64.ofNat a) (Int64.ofNat b) = Int64.ofNat (a % b) := by
  show Int64.ofNat a - Int64.ofNat a / Int64.ofNat b * Int64.ofNat b = _
  rw [lD ha hb, ← Int64.ofNat_mul, lS _ (Nat.div_mul_le_self a b)]
  congr 1
  have := Nat.div_add_mod a b
  rw [Nat.mul_comm] at this
  omega
theorem lZ {n : Nat} (h : n < 9223372036854775808) : (Int64.ofNat n = 0) ↔ n = 0 := by
  rw [← Int64.toInt_inj, lI h]
  show ((n : Int) = 0) ↔ _
  omega
/-- fib n, fib (n + 1) -/
def fb : Nat → Nat × Nat
  | 0 => (0, 1)
  | n + 1 => ((fb n).2, (fb n).1 + (fb n).2)
/-- done in n steps -/
def eok : Nat → Nat → Nat → Prop
  | 0, _, b => b = 0
  | n + 1, a, b => b = 0 ∨ eok n b (a % b)
theorem eok_mono : ∀ (n a b : Nat), eok n a b → eok (n + 1) a b := by
  intro n
  induction n with
  | zero => intro a b h; exact Or.inl h
  | succ n ih => intro a b h; exact h.imp id (fun z => ih b (a % b) z)
theorem eok_fib : ∀ (n a b : Nat), b < (fb n).2 → b < a → eok n a b ∧ eok (n + 1) a b := by
  have two : ∀ n, (∀ a b, b < (fb n).2 → b < a → eok n a b) ∧ (∀ a b, b < (fb (n + 1)).2 → b < a → eok (n + 1) a b) := by
    intro n
    induction n with
    | zero =>
      refine ⟨fun a b h _ => ?_, fun a b h _ => Or.inl ?_⟩
      · have h : b < 1 := h
        show b = 0
        omega
      · have h : b < 0 + 1 := h
        omega
    | succ n ih =>
      refine ⟨ih.2, fun a b h hab => ?_⟩
      by_cases h0 : b = 0
      · exact Or.inl h0
      · refine Or.inr ?_
        have hr := Nat.mod_lt a (show 0 < b by omega)
        by_cases h1 : a % b < (fb (n + 1)).2
        · exact ih.2 b (a % b) h1 hr
        · by_cases h2 : a % b = 0
          · exact Or.inl h2
          · refine Or.inr ?_
            have hr2 := Nat.mod_lt b (show 0 < a % b by omega)
            refine ih.1 (a % b) (b % (a % b)) ?_ hr2
            have hle : b % (a % b) ≤ b - a % b := by
              rw [Nat.mod_eq_sub_mod (by omega)]
              exact Nat.mod_le _ _
            have hf : (fb (n + 1 + 1)).2 = (fb (n + 1)).1 + (fb (n + 1)).2 := rfl
            have hg : (fb (n + 1)).1 = (fb n).2 := rfl
            omega
  intro n a b h hab
  exact ⟨(two n).1 a b h hab, eok_mono n a b ((two n).1 a b h hab)⟩
theorem eok_99 {a b : Nat} (ha : a < 9223372036854775808) (hb : b < 9223372036854775808) : eok 99 a b := by
  have f98 : 9223372036854775808 ≤ (fb 98).2 := by decide
  by_cases h : b < a
  · exact (eok_fib 98 a b (by omega) h).2
  · by_cases h0 : b = 0
    · exact Or.inl h0
    · exact Or.inr ((eok_fib 98 b (a % b) (by have := Nat.mod_lt a (show 0 < b by omega); omega) (Nat.mod_lt a (by omega))).1)
theorem gcd_two : ∀ (n a b : Nat), eok n a b → a < 9223372036854775808 → b < 9223372036854775808 → ∀ (k m m' : Nat), n + k ≤ 99 → n < m → n < m' → ∃ g : Int64, (∀ (S : St) (K : Int64 → Option Int64), f_X11_commonDivisor_3 S K m (Int64.ofNat a) (Int64.ofNat b) (Int32.ofNat k) = K g) ∧ ∀ (x1 x3 : Int64) (S : St) (K : Int64 → St → Option St), f_X12_fraction_6 0 x1 x3 K m' (Int64.ofNat a) (Int64.ofNat b) S = K g S := by
  intro n
  induction n with
  | zero =>
    intro a b h ha hb k m m' hk hm hm'
    obtain ⟨m, rfl⟩ : ∃ x, m = x + 1 := ⟨m - 1, by omega⟩
    obtain ⟨m', rfl⟩ : ∃ x, m' = x + 1 := ⟨m' - 1, by omega⟩
    have h : b = 0 := h
    subst h
    refine ⟨Int64.ofNat a, fun S K => ?_, fun x1 x3 S K => ?_⟩
    · rw [f_X11_commonDivisor_3, brn (show ¬ (100 : Int32) ≤ Int32.ofNat k from fun w => absurd ((zLE (a := 100) (by omega) (by omega)).mp w) (by omega)), brp (show lg_cmp (Int64.ofNat 0) 0 = 0 from (lg_cmp_eq _ _).mpr rfl)]
    · rw [f_X12_fraction_6, brp (show lg_cmp (Int64.ofNat 0) 0 = 0 from (lg_cmp_eq _ _).mpr rfl)]
  | succ n ih =>
    intro a b h ha hb k m m' hk hm hm'
    obtain ⟨m, rfl⟩ : ∃ x, m = x + 1 := ⟨m - 1, by omega⟩
    obtain ⟨m', rfl⟩ : ∃ x, m' = x + 1 := ⟨m' - 1, by omega⟩
    have nk : ¬ (100 : Int32) ≤ Int32.ofNat k := fun w => absurd ((zLE (a := 100) (by omega) (by omega)).mp w) (by omega)
    by_cases h0 : b = 0
    · subst h0
      refine ⟨Int64.ofNat a, fun S K => ?_, fun x1 x3 S K => ?_⟩
      · rw [f_X11_commonDivisor_3, brn nk, brp (show lg_cmp (Int64.ofNat 0) 0 = 0 from (lg_cmp_eq _ _).mpr rfl)]
      · rw [f_X12_fraction_6, brp (show lg_cmp (Int64.ofNat 0) 0 = 0 from (lg_cmp_eq _ _).mpr rfl)]
    · have nz : ¬ Int64.ofNat b = 0 := fun z => h0 ((lZ hb).mp z)
      have hr := Nat.mod_lt a (show 0 < b by omega)
      obtain ⟨g, g1, g2⟩ := ih b (a % b) (h.resolve_left h0) hb (by omega) (k + 1) m m' (by omega) (by omega) (by omega)
      refine ⟨g, fun S K => ?_, fun x1 x3 S K => ?_⟩
      · rw [f_X11_commonDivisor_3, brn nk, brn (fun w => nz ((lg_cmp_eq _ _).mp w)), ck_t nz, bvE, bvE, lR ha hb, zp1]; exact g1 S K
      · rw [f_X12_fraction_6, brn (fun w => nz ((lg_cmp_eq _ _).mp w)), ck_t nz, bvE, lR ha hb]; exact g2 x1 x3 S K
/-- one fraction: class writes row 0, reference row 60 -/
theorem fr_two {a b : Nat} (ha : a < 9223372036854775808) (hb : b < 9223372036854775808) : ∃ u v : Int64, (∀ S : St, f_X11_setFraction 0 (Int64.ofNat a) (Int64.ofNat b) S = some (sl (sl S 0 0 6 u) 0 0 7 v)) ∧ ∀ S : St, f_X12_fraction 0 (Int64.ofNat a) (Int64.ofNat b) S = some (sl (sl S 60 0 26 u) 60 0 27 v) := by
  obtain ⟨g, g1, g2⟩ := gcd_two 99 a b (eok_99 ha hb) ha hb 0 FU FU (by omega) (by unfold FU; omega) (by unfold FU; omega)
  rw [show Int32.ofNat 0 = (0 : Int32) from rfl] at g1
  by_cases e : g = 0
  · refine ⟨0, 0, fun S => ?_, fun S => ?_⟩
    · unfold f_X11_setFraction f_X11_commonDivisor
      rw [g1]
      unfold on
      dsimp only
      simp only [bvE]
      rw [brp ((lg_cmp_eq _ _).mpr e), brp ((lg_cmp_eq _ _).mpr e)]
    · unfold f_X12_fraction
      rw [g2]
      simp only [bvE]
      rw [brp ((lg_cmp_eq _ _).mpr e), brp ((lg_cmp_eq _ _).mpr e)]
  · have ne : ¬ lg_cmp g 0 = 0 := fun w => e ((lg_cmp_eq _ _).mp w)
    refine ⟨dvL (Int64.ofNat a) g, dvL (Int64.ofNat b) g, fun S => ?_, fun S => ?_⟩
    · unfold f_X11_setFraction f_X11_commonDivisor
      rw [g1]
      unfold on
      dsimp only
      simp only [bvE]
      rw [brn ne, ck_t e, brn ne, ck_t e]
    · unfold f_X12_fraction
      rw [g2]
      simp only [bvE]
      rw [brn ne, ck_t e, brn ne, ck_t e]
