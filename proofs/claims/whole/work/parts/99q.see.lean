-- WHAT A STATION SEES
theorem x_neg {x : Int32} (h : x < 0) : nn x = 0 := by
  have h : x.toInt < 0 := Int32.lt_iff_toInt_lt.mp h
  show x.toInt.toNat = 0
  omega
/-- boards of hours, boards told -/
def B0 (T : Nat → Int32) (x : Int32) (s : Nat) : Int32 := if x < 0 then T (20 + s) else bd T (nn x) s
def B1 (T : Nat → Int32) (x : Int32) (s : Nat) : Int32 := T (2909 + 4 * nn x + s)
/-- class's boards G, below hour hi, are B -/
def Bc (S : St) (G N hi : Nat) (B : Int32 → Nat → Int32) : Prop := ∀ (x : Int32) (s : Nat), s < N → x.toInt < (hi : Int) → f_X0_at G (Int32.ofNat s) x S = some (B x s) ∧ Pr (B x s)
/-- reference's boards: told T, mode m -/
def Br (T : Nat → Int32) (m : Int32) (N hi : Nat) (B : Int32 → Nat → Int32) : Prop := ∀ Z : St, gi Z 61 0 = T → gi Z 60 0 23 = m → ∀ (x : Int32) (s : Nat), s < N → x.toInt < (hi : Int) → f_X12_seen 0 (Int32.ofNat s) x Z = some (B x s)
section SEE
variable {S : St} {N h to : Nat} {T : Nat → Int32}
theorem bc0 (cap : gi S 14 (2 * 0) 0 = 256) (len : gn S 15 (2 * 0) = 1024) (q : Chr N h (gi S 15 (2 * 0)) (gi S 16 (2 * 0)) T) (hN : N ≤ 4) (hh : h ≤ 3000) : Bc S (2 * 0) N h (B0 T) := by
  intro x s hs hx
  unfold B0
  by_cases e : x < 0
  · rw [if_pos e]
    exact ⟨at_n (g := 0) q hN hs e, (q.1 s hs).2⟩
  · rw [if_neg e]
    obtain ⟨d, hd, rfl⟩ := zW (x := x) (n := h) (by omega) e (by rw [Int32.lt_iff_toInt_lt, zI (by omega)]; exact hx)
    rw [zN (by omega)]
    exact ⟨at_h (g := 0) cap len q hN hh hs hd, (q.2.1 (d % 256) s (by have := Nat.mod_le d 256; omega) (by omega) hs).2⟩
theorem br0 (hN : N ≤ 4) (hh : h ≤ 3000) : Br T 0 N h (B0 T) := by
  intro Z eT em x s hs hx
  unfold f_X12_seen B0
  rw [brp em]
  by_cases e : x < 0
  · rw [if_pos e, bvE, brn (Int32.not_le.mpr e), ck_t (ibA (by omega) (by omega)), nA (by omega), eT]
  · rw [if_neg e]
    obtain ⟨d, hd, rfl⟩ := zW (x := x) (n := h) (by omega) e (by rw [Int32.lt_iff_toInt_lt, zI (by omega)]; exact hx)
    have e2 : 1885 + 4 * rmI (Int32.ofNat d) 256 + Int32.ofNat s = Int32.ofNat (1885 + 4 * (d % 256) + s) := by
      rw [show rmI (Int32.ofNat d) 256 = Int32.ofNat (d % 256) from zR (a := d) (b := 256) (by omega) (by omega), zMu, zA, zAA]
    rw [bvE, brp (zGe (by omega)), bvE, e2, ck_t (ib (by omega) (by omega)), zN (by omega), zN (by omega), eT]; rfl
theorem bc1 (cap : gi S 14 (2 * 0 + 1) 0 = 60) (len : gn S 15 (2 * 0 + 1) = 240) (q : Cto N to (gi S 15 (2 * 0 + 1)) (gi S 16 (2 * 0 + 1)) T) (hN : N ≤ 4) (ht : to ≤ 60) (h0 : 0 < to) : Bc S (2 * 0 + 1) N to (B1 T) := by
  intro x s hs hx
  unfold B1
  by_cases e : x < 0
  · rw [x_neg e]
    refine ⟨?_, (q.1 0 s h0 hs).2⟩
    unfold f_X0_at
    rw [bvE, brn (Int32.not_le.mpr e), ck_t (ib (by omega) (by omega)), zN (by omega)]
    exact congrArg some (q.2 h0 s hs)
  · obtain ⟨d, hd, rfl⟩ := zW (x := x) (n := to) (by omega) e (by rw [Int32.lt_iff_toInt_lt, zI (by omega)]; exact hx)
    rw [zN (by omega)]
    refine ⟨?_, (q.1 d s hd hs).2⟩
    have e2 : rmI (Int32.ofNat d) (gi S 14 (2 * 0 + 1) 0) * 4 + Int32.ofNat s = Int32.ofNat (4 * d + s) := by
      rw [cap, show rmI (Int32.ofNat d) 60 = Int32.ofNat (d % 60) from zR (a := d) (b := 60) (by omega) (by omega), Nat.mod_eq_of_lt (by omega), zMu', zAA]; congr 1; omega
    unfold f_X0_at
    rw [bvE, brp (zGe (by omega)), ck_t (by rw [cap]; decide), bvE, e2, len, ck_t (ib (by omega) (by omega)), zN (by omega)]
    exact congrArg some (q.1 d s hd hs).1
theorem br1 (hN : N ≤ 4) (ht : to ≤ 60) (h0 : 0 < to) {m : Int32} (hm : m ≠ 0) : Br T m N to (B1 T) := by
  intro Z eT em x s hs hx
  unfold f_X12_seen B1
  rw [brn (by rw [em]; exact hm), bvE]
  have e1 : mxI 0 x = Int32.ofNat (nn x) := by
    show (if 0 < x then x else 0) = _
    by_cases e : x < 0
    · rw [if_neg (fun z => absurd (Int32.lt_trans e z) (Int32.lt_irrefl)), x_neg e]; rfl
    · obtain ⟨d, hd, rfl⟩ := zW (x := x) (n := to) (by omega) e (by rw [Int32.lt_iff_toInt_lt, zI (by omega)]; exact hx)
      rw [zN (by omega)]
      by_cases e0 : d = 0
      · subst e0; rfl
      · rw [if_pos (show (0 : Int32) < Int32.ofNat d from (zL (a := 0) (by omega) (by omega)).mpr (by omega))]
  have e2 : nn x < to := by
    by_cases e : x < 0
    · rw [x_neg e]; exact h0
    · obtain ⟨d, hd, rfl⟩ := zW (x := x) (n := to) (by omega) e (by rw [Int32.lt_iff_toInt_lt, zI (by omega)]; exact hx)
      rw [zN (by omega)]; exact hd
  rw [e1, zMu, zA, zAA, ck_t (ib (by omega) (by omega)), zN (by omega), eT]
/-- the others: least, most, rose, fell over the stations below j -/
def ls (P Q : Nat → Int32) (a : Nat) : Nat → Int32 × Int32 × Int32 × Int32
  | 0 => (100, -1, 0, 0)
  | j + 1 => if j = a then ls P Q a j else (mnI (ls P Q a j).1 (P j), mxI (ls P Q a j).2.1 (P j), (ls P Q a j).2.2.1 + (if P j ≤ Q j then 0 else 1), (ls P Q a j).2.2.2 + (if Q j ≤ P j then 0 else 1))
theorem Pr_b {x : Int32} (h : Pr x) : 0 ≤ x.toInt ∧ x.toInt ≤ 99 := by
  obtain ⟨d, hd, rfl⟩ := h
  rw [zI (by omega)]; omega
theorem Pr_n {x : Int32} (h : Pr x) : x ≠ -1 := by
  obtain ⟨d, hd, rfl⟩ := h
  exact zNe (by omega)
theorem ls_inv {P Q : Nat → Int32} {a : Nat} : ∀ j, (∀ s, s < j → Pr (P s)) → ((ls P Q a j).1 = 100 ∧ (ls P Q a j).2.1 = -1) ∨ (Pr (ls P Q a j).1 ∧ Pr (ls P Q a j).2.1) := by
  intro j
  induction j with
  | zero => intro _; exact Or.inl ⟨rfl, rfl⟩
  | succ j ih =>
    intro hP
    have i := ih (fun s hs => hP s (by omega))
    rw [ls]
    by_cases e : j = a
    · rw [if_pos e]; exact i
    · rw [if_neg e]
      right
      have pj := hP j (by omega)
      have pb := Pr_b pj
      show Pr (if P j < (ls P Q a j).1 then P j else (ls P Q a j).1) ∧ Pr (if (ls P Q a j).2.1 < P j then P j else (ls P Q a j).2.1)
      rcases i with ⟨i1, i2⟩ | ⟨i1, i2⟩
      · rw [i1, i2, if_pos, if_pos]
        · exact ⟨pj, pj⟩
        · rw [Int32.lt_iff_toInt_lt]
          have e1 : (-1 : Int32).toInt = -1 := rfl
          omega
        · rw [Int32.lt_iff_toInt_lt]
          have e1 : (100 : Int32).toInt = 100 := rfl
          omega
      · refine ⟨?_, ?_⟩
        · split <;> assumption
        · split <;> assumption
theorem ls_mn {P Q : Nat → Int32} {a j : Nat} (hP : ∀ s, s < j + 1 → Pr (P s)) : (if (ls P Q a j).2.1 = -1 then P j else if (ls P Q a j).1 ≤ P j then (ls P Q a j).1 else P j) = mnI (ls P Q a j).1 (P j) ∧ (if (ls P Q a j).2.1 = -1 then P j else if P j ≤ (ls P Q a j).2.1 then (ls P Q a j).2.1 else P j) = mxI (ls P Q a j).2.1 (P j) := by
  have pb := Pr_b (hP j (by omega))
  show _ = (if P j < (ls P Q a j).1 then P j else (ls P Q a j).1) ∧ _ = (if (ls P Q a j).2.1 < P j then P j else (ls P Q a j).2.1)
  rcases ls_inv (P := P) (Q := Q) (a := a) j (fun s hs => hP s (by omega)) with ⟨i1, i2⟩ | ⟨i1, i2⟩
  · rw [i1, i2, if_pos rfl, if_pos rfl, if_pos, if_pos]
    · exact ⟨rfl, rfl⟩
    · rw [Int32.lt_iff_toInt_lt]
      have e1 : (-1 : Int32).toInt = -1 := rfl
      omega
    · rw [Int32.lt_iff_toInt_lt]
      have e1 : (100 : Int32).toInt = 100 := rfl
      omega
  · rw [if_neg (Pr_n i2), if_neg (Pr_n i2)]
    refine ⟨?_, ?_⟩
    · by_cases e : P j < (ls P Q a j).1
      · rw [if_pos e, if_neg (Int32.not_le.mpr e)]
      · rw [if_neg e, if_pos (Int32.not_lt.mp e)]
    · by_cases e : (ls P Q a j).2.1 < P j
      · rw [if_pos e, if_neg (Int32.not_le.mpr e)]
      · rw [if_neg e, if_pos (Int32.not_lt.mp e)]
end SEE
