section
-- READING: what may come next, faults; the class's reading as a machine over tokens
def isT (t : Nat) : Bool := decide (200 ≤ t) || (decide (110 ≤ t) && decide (t ≤ 118))
theorem isT_i {t : Nat} : isT t = true ↔ 200 ≤ t ∨ (110 ≤ t ∧ t ≤ 118) := by
  unfold isT; rw [Bool.or_eq_true, Bool.and_eq_true, decide_eq_true_eq, decide_eq_true_eq, decide_eq_true_eq]
def beR (st t : Nat) : Nat :=
  if st = 0 then (if t = 0 then 0 else if 100 ≤ t ∧ t ≤ 103 then 1 else if t = 104 ∨ t = 105 then 2 else 99)
  else if st = 1 then (if 200 ≤ t then 2 else 99)
  else if st = 2 then (if t = 106 then 3 else if t = 59 then 0 else 99)
  else if st = 3 then (if t = 109 then 3 else if isT t = true then 5 else 99)
  else if st = 4 then (if isT t = true then 5 else 99)
  else if st = 5 then (if t = 43 ∨ t = 45 then 4 else if 60 ≤ t ∧ t ≤ 62 then 6 else 99)
  else if st = 6 then (if isT t = true then 7 else 99)
  else if st = 7 then (if t = 43 ∨ t = 45 then 6 else if t = 108 ∨ t = 107 then 3 else if t = 59 then 0 else 99)
  else 99
def beL (st t : Nat) : Nat :=
  if st = 0 then (if t = 0 then 0 else if t = 119 then 8 else if t = 120 then 9 else if t = 121 then 1 else if t = 122 ∨ t = 113 then 10 else 99)
  else if st = 1 ∨ st = 8 ∨ st = 9 then (if 200 ≤ t then 10 else 99)
  else if st = 10 then (if t = 59 then 0 else 99)
  else 99
def bI (s : Nat) : Int32 := if s = 99 then -1 else Int32.ofNat s
def behB (st t : Nat) : Bool := decide (f_X9_behindInRules (Int32.ofNat st) (tc t) SZ0 = some (bI (beR st t))) && decide (f_X9_behindInLaw (Int32.ofNat st) (tc t) SZ0 = some (bI (beL st t)))
theorem beh_all : (List.range 11).all (fun st => (List.range 300).all (fun t => behB st t)) = true := by decide +kernel
theorem beh {st t : Nat} {S : St} (hs : st < 11) (ht : t < 300) : f_X9_behindInRules (Int32.ofNat st) (tc t) S = some (bI (beR st t)) ∧ f_X9_behindInLaw (Int32.ofNat st) (tc t) S = some (bI (beL st t)) := by
  have h := List.all_eq_true.mp (List.all_eq_true.mp beh_all st (List.mem_range.mpr hs)) t (List.mem_range.mpr ht)
  unfold behB at h
  rw [Bool.and_eq_true, decide_eq_true_eq, decide_eq_true_eq] at h
  exact h
def be (R : Bool) (st t : Nat) : Nat := if R = true then beR st t else beL st t
theorem be_lt {R : Bool} {st t : Nat} : be R st t < 11 ∨ be R st t = 99 := by
  unfold be beR beL
  repeat' split
  all_goals omega
def fk (R : Bool) (st t us no : Nat) : Nat := if t = 2 then 1 else if be R st t = 99 then 2 else if (st = 8 ∧ t = 200) ∨ (st = 9 ∧ 223 < t) then 3 else if (R = true ∧ st = 0 ∧ ¬ t = 0 ∧ us = 12) ∨ (t = 109 ∧ no = 4) then 4 else 0
theorem tcI {t : Nat} (ht : t < 2147483648) : (tc t).toInt = if t = 1 then -1 else if t = 2 then -2 else (t : Int) := by
  unfold tc
  by_cases h1 : t = 1
  · rw [if_pos h1, if_pos h1]; rfl
  rw [if_neg h1, if_neg h1]
  by_cases h2 : t = 2
  · rw [if_pos h2, if_pos h2]; rfl
  rw [if_neg h2, if_neg h2, zI ht]
theorem tcE {t k : Nat} (ht : t < 2147483648) (hk : k < 2147483648) (h1 : k ≠ 1) (h2 : k ≠ 2) : tc t = Int32.ofNat k ↔ t = k := by
  rw [← Int32.toInt_inj, tcI ht, zI hk]
  by_cases e1 : t = 1
  · rw [if_pos e1]; omega
  rw [if_neg e1]
  by_cases e2 : t = 2
  · rw [if_pos e2]; omega
  rw [if_neg e2]; omega
theorem tc2 {t : Nat} (ht : t < 2147483648) : tc t = -2 ↔ t = 2 := by
  rw [← Int32.toInt_inj, tcI ht, show (-2 : Int32).toInt = -2 from rfl]
  by_cases e1 : t = 1
  · rw [if_pos e1]; omega
  rw [if_neg e1]
  by_cases e2 : t = 2
  · rw [if_pos e2]; omega
  rw [if_neg e2]; omega
theorem tcLe {t k : Nat} (ht : t < 2147483648) (hk : k < 2147483648) (h2 : 2 ≤ k) : tc t ≤ Int32.ofNat k ↔ t ≤ k := by
  rw [Int32.le_iff_toInt_le, tcI ht, zI hk]
  by_cases e1 : t = 1
  · rw [if_pos e1]; omega
  rw [if_neg e1]
  by_cases e2 : t = 2
  · rw [if_pos e2]; omega
  rw [if_neg e2]; omega
theorem bI99 {s : Nat} (h : s < 11 ∨ s = 99) : bI s = -1 ↔ s = 99 := by
  unfold bI
  by_cases e : s = 99
  · rw [if_pos e]; exact ⟨fun _ => e, fun _ => rfl⟩
  · rw [if_neg e]; exact ⟨fun z => absurd z (zNe (by omega)), fun z => absurd z e⟩
theorem e_fault {S : St} {R : Bool} {st t us no : Nat} (ht : t < 300) (hs : st < 11) (hu : us < 1000) (hn : no < 1000) (h5 : gi S 28 0 5 = Int32.ofNat us) (h10 : gi S 28 0 10 = Int32.ofNat no) : f_X9_faultOf 0 (tc t) (Int32.ofNat st) (bI (be R st t)) (bo1 R) S = some (Int32.ofNat (fk R st t us no)) := by
  have i1 : (tc t = 200) ↔ t = 200 := tcE (k := 200) (by omega) (by omega) (by omega) (by omega)
  have i2 : (tc t = 109) ↔ t = 109 := tcE (k := 109) (by omega) (by omega) (by omega) (by omega)
  have i3 : (tc t = 0) ↔ t = 0 := tcE (k := 0) (by omega) (by omega) (by omega) (by omega)
  have i4 : (tc t ≤ 223) ↔ t ≤ 223 := tcLe (k := 223) (by omega) (by omega) (by omega)
  have i5 : (Int32.ofNat st = 8) ↔ st = 8 := zE (b := 8) (by omega) (by omega)
  have i6 : (Int32.ofNat st = 9) ↔ st = 9 := zE (b := 9) (by omega) (by omega)
  have i7 : (Int32.ofNat st = 0) ↔ st = 0 := zE (b := 0) (by omega) (by omega)
  have i8 : (Int32.ofNat us = 12) ↔ us = 12 := zE (b := 12) (by omega) (by omega)
  have i9 : (Int32.ofNat no = 4) ↔ no = 4 := zE (b := 4) (by omega) (by omega)
  have i0 : (bo1 R = 0) ↔ R = false := by cases R <;> decide
  unfold f_X9_faultOf fk
  simp only [bvN, h5, h10, br, tc2 (show t < 2147483648 by omega), bI99 be_lt, i1, i2, i3, i4, i5, i6, i7, i8, i9, i0]
  by_cases q1 : t = 2
  · rw [if_pos q1, if_pos q1]; rfl
  rw [if_neg q1, if_neg q1]
  by_cases q2 : be R st t = 99
  · rw [if_pos q2, if_pos q2]; rfl
  rw [if_neg q2, if_neg q2]
  have e109 : st = 8 ∨ st = 9 → t = 109 → be R st t = 99 := by
    intro h1 h2
    unfold be beR beL
    rw [h2]
    rcases h1 with h1 | h1 <;> rw [h1] <;> cases R <;> rfl
  by_cases q3 : st = 8
  · have n9 : ¬ t = 109 := fun z => q2 (e109 (Or.inl q3) z)
    by_cases q4 : t = 200
    · simp [q3, q4]
    · simp [q3, q4, n9]
  by_cases q5 : st = 9
  · have n9 : ¬ t = 109 := fun z => q2 (e109 (Or.inr q5) z)
    by_cases q6 : t ≤ 223
    · simp [q5, q6, n9, Nat.not_lt.mpr q6]
    · simp [q5, q6, Nat.not_le.mp q6]
  by_cases q7 : st = 0
  · by_cases q8 : t = 0
    · simp [q7, q8]
    · by_cases q9 : us = 12
      · cases R
        · by_cases q10 : t = 109
          · by_cases q11 : no = 4 <;> simp [q7, q8, q9, q10, q11]
          · simp [q7, q8, q9, q10]
        · simp [q7, q8, q9]
      · by_cases q10 : t = 109
        · by_cases q11 : no = 4 <;> simp [q7, q8, q9, q10, q11]
        · simp [q7, q8, q9, q10]
  · by_cases q10 : t = 109
    · by_cases q11 : no = 4 <;> simp [q3, q5, q7, q10, q11]
    · simp [q3, q5, q7, q10]
/-- the class's reading: what is told of a fault, or tokens and where the units begin -/
def mach (c : Nat → Nat) (n : Nat) (R : Bool) : Nat → Nat → Nat → List Int32 → List Nat → Nat → Option ((Nat × Nat) ⊕ (List Int32 × List Nat))
  | 0, _, _, _, _, _ => none
  | f + 1, p, st, ts, us, no => if ¬ fk R st (tok c n (bgn c n p)).1 us.length no = 0 then some (.inl (fk R st (tok c n (bgn c n p)).1 us.length no, bgn c n p)) else if (tok c n (bgn c n p)).1 = 0 then some (.inr (ts, us)) else mach c n R f (tok c n (bgn c n p)).2 (be R st (tok c n (bgn c n p)).1) (ts ++ [tc (tok c n (bgn c n p)).1]) (if st = 0 then us ++ [ts.length] else us) (if (tok c n (bgn c n p)).1 = 109 then no + 1 else 0)
end
