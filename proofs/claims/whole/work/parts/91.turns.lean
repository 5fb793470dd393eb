-- TURNS: sums that fit, foreseen side by side
def Bd (x : Int32) (n : Nat) : Prop := -(n : Int) ≤ x.toInt ∧ x.toInt ≤ (n : Int)
theorem bd_add {x y : Int32} {n m : Nat} (hx : Bd x n) (hy : Bd y m) (h : n + m < 2147483648) : (x + y).toInt64 = x.toInt64 + y.toInt64 ∧ Bd (x + y) (n + m) := by
  obtain ⟨a1, a2⟩ := hx
  obtain ⟨b1, b2⟩ := hy
  have e : (x + y).toInt = x.toInt + y.toInt := by
    rw [Int32.toInt_add]
    show (x.toInt + y.toInt).bmod (2 ^ 32) = _
    rw [Int.bmod_def]; omega
  refine ⟨?_, ?_, ?_⟩
  · rw [← Int64.toInt_inj, Int32.toInt_toInt64, e, Int64.toInt_add, Int32.toInt_toInt64, Int32.toInt_toInt64]
    show _ = (x.toInt + y.toInt).bmod (2 ^ 64)
    rw [Int.bmod_def]; omega
  · rw [e]; omega
  · rw [e]; omega
theorem Bd.mono {x : Int32} {n m : Nat} (h : Bd x n) (hn : n ≤ m) : Bd x m := ⟨by have := h.1; omega, by have := h.2; omega⟩
theorem bd_gx {T : Nat → Int32} {N D lv a b c i j hh : Nat} {mn hb kn dt l co la cg : Nat → Int32} (hD : D ≤ 6) (c5 : Cdr N D mn hb kn dt T) (c9 : Clv lv l T) (c3 : Cst N hh co la cg T) (hc : c < N) (hab : c = a ∨ c = b) (hi : i < lv) (hj : j < lv) : Bd (GX T N D a b c i j) 58806 := by
  have so : ∀ (n k d : Nat), k + n ≤ D → d ≤ 99 * k → ∃ e, e ≤ 99 * (k + n) ∧ soG T (GP T a b i j) N c n k (Int32.ofNat d) = Int32.ofNat e := by
    intro n
    induction n with
    | zero => intro k d _ h; exact ⟨d, by omega, rfl⟩
    | succ n ih =>
      intro k d hk h
      obtain ⟨x, hx, ex⟩ := (c5 k (by omega)).2.2.2.2.1
      rw [soG]
      by_cases e : whF T (GP T a b i j) N k = Int32.ofNat c
      · rw [if_pos e, ex, zAA]
        obtain ⟨e1, h1, h2⟩ := ih (k + 1) (d + x) (by omega) (by omega)
        exact ⟨e1, by omega, h2⟩
      · rw [if_neg e]
        obtain ⟨e1, h1, h2⟩ := ih (k + 1) d (by omega) (by omega)
        exact ⟨e1, by omega, h2⟩
  obtain ⟨e, he, es⟩ := so D 0 0 (by omega) (by omega)
  have gp : Pr (GP T a b i j c) := by
    unfold GP
    by_cases h1 : c = b
    · rw [if_pos h1]; exact (c9 j hj).2
    · rw [if_neg h1, if_pos (hab.resolve_right h1)]; exact (c9 i hi).2
  obtain ⟨p, hp, ep⟩ := gp
  obtain ⟨q, hq, eq⟩ := (c3 c hc).2.1
  unfold GX
  rw [show (0 : Int32) = Int32.ofNat 0 from rfl, es, ep, eq]
  have e1 : (Int32.ofNat p - Int32.ofNat q).toInt = (p : Int) - q := by
    rw [Int32.toInt_sub, zI (by omega), zI (by omega)]
    show ((p : Int) - q).bmod (2 ^ 32) = _
    rw [Int.bmod_def]; omega
  have he' : e ≤ 594 := by omega
  have l1 : (e : Int) * ((p : Int) - q) ≤ 58806 := by
    have h1 : (e : Int) * ((p : Int) - q) ≤ (e : Int) * 99 := Int.mul_le_mul_of_nonneg_left (by omega) (by omega)
    omega
  have l2 : -58806 ≤ (e : Int) * ((p : Int) - q) := by
    have h1 : (e : Int) * (-99) ≤ (e : Int) * ((p : Int) - q) := Int.mul_le_mul_of_nonneg_left (by omega) (by omega)
    omega
  have e2 : (Int32.ofNat e * (Int32.ofNat p - Int32.ofNat q)).toInt = (e : Int) * ((p : Int) - q) := by
    rw [Int32.toInt_mul, e1, zI (by omega)]
    show ((e : Int) * ((p : Int) - q)).bmod (2 ^ 32) = _
    rw [Int.bmod_def]; omega
  exact ⟨by rw [e2]; exact l2, by rw [e2]; exact l1⟩
section TU
variable {lv : Nat} {GA GB : Nat → Nat → Int32} {A B S1 S2 : St} {m t j : Nat}
/-- one cell of the foreseen: m turns in all, turn t, other at j -/
def Cell (m lv : Nat) (S1 S2 : St) (t j : Nat) : Prop := (gi S1 (if t % 2 = 0 then 48 else 58) t j).toInt64 = gl S2 74 0 (8 * t + j) ∧ (gi S1 (if t % 2 = 0 then 58 else 48) t j).toInt64 = gl S2 75 0 (8 * t + j) ∧ Bd (gi S1 48 t j) (58806 * (m - t)) ∧ Bd (gi S1 58 t j) (58806 * (m - t)) ∧ (t < m → ∃ c, c < lv ∧ gi S1 42 t j = Int32.ofNat c ∧ gi S2 73 0 (8 * t + j) = Int32.ofNat c)
/-- A's and B's sums if the mover sets level b in turn t -/
def XA (GA : Nat → Nat → Int32) (S1 : St) (t j b : Nat) : Int32 := if t % 2 = 0 then GA b j + gi S1 58 (t + 1) b else GA j b + gi S1 48 (t + 1) b
def XB (GB : Nat → Nat → Int32) (S1 : St) (t j b : Nat) : Int32 := if t % 2 = 0 then GB b j + gi S1 48 (t + 1) b else GB j b + gi S1 58 (t + 1) b
def XM (GA GB : Nat → Nat → Int32) (S1 : St) (t j b : Nat) : Int32 := if t % 2 = 0 then XA GA S1 t j b else XB GB S1 t j b
theorem e_mover (g : Gm lv GA GB S1 S2) (hj : j < lv) (ht : t < 40) {b : Nat} (hb : b < lv) : f_X4_moverSum 0 (Int32.ofNat t) (Int32.ofNat b) (Int32.ofNat j) S1 = some (XM GA GB S1 t j b) := by
  have hl := g.1
  have e1 := g.2.2.1 b j hb hj
  have e2 := g.2.2.1 j b hj hb
  unfold f_X4_moverSum XM XA XB
  rw [show rmI (Int32.ofNat t) 2 = Int32.ofNat (t % 2) from zR (b := 2) (by omega) (by omega)]
  simp only [bvE]
  rw [zp1, ck_t (ib (by omega) (by omega)), ck_t (ib (by omega) (by omega)), ck_t (ib (by omega) (by omega)), ck_t (ib (by omega) (by omega)), ck_t (ib (by omega) (by omega)), ck_t (ib (by omega) (by omega)), ck_t (ib (by omega) (by omega)), ck_t (ib (by omega) (by omega)), zN (by omega), zN (by omega), zN (by omega), e1.1, e2.2]
  by_cases h : t % 2 = 0
  · rw [if_pos h, if_pos h, h, brp (show Int32.ofNat 0 = 0 from rfl)]
  · rw [if_neg h, if_neg h, show t % 2 = 1 by omega, brn (by decide)]
def wr (S : St) (i : Nat) (k : Int32) (x y : Int64) : St := sl (sl (si S 73 0 i k) 74 0 i x) 75 0 i y
theorem brT {ρ : Type} [Decidable True] {a b : ρ} : br True a b = a := if_pos trivial
theorem st99 {x7 : Int32} (hG : ∀ i k, i < lv → k < lv → f_X12_gainOf 0 (Int32.ofNat i) (Int32.ofNat k) 0 S2 = some (GA i k) ∧ f_X12_gainOf 0 (Int32.ofNat i) (Int32.ofNat k) 1 S2 = some (GB i k)) (hl : lv ≤ 8) (n3 : gi S2 61 0 3 = Int32.ofNat lv) (hb : ∀ i k, i < lv → k < lv → Bd (GA i k) 58806 ∧ Bd (GB i k) 58806) (hj : j < lv) (hm : m ≤ 40) (ht : t < m) {k : Nat} (hk : k < lv) (hN : Cell m lv S1 S2 (t + 1) k) (h7 : x7 = if t % 2 = 0 then 1 else 0) (n : Nat) (K : St → Option St) :
    f_X12_layTurns_99 0 (Int32.ofNat t) (Int32.ofNat j) (Int32.ofNat (8 * t + j)) x7 K (n + 1) (Int32.ofNat k) S2 = br (Int32.ofNat k ≤ 0) (f_X12_layTurns_99 0 (Int32.ofNat t) (Int32.ofNat j) (Int32.ofNat (8 * t + j)) x7 K n (Int32.ofNat (k + 1)) (wr S2 (8 * t + j) (Int32.ofNat k) (XA GA S1 t j k).toInt64 (XB GB S1 t j k).toInt64)) (br (0 < lg_cmp (XM GA GB S1 t j k).toInt64 (if t % 2 = 0 then gl S2 74 0 (8 * t + j) else gl S2 75 0 (8 * t + j))) (f_X12_layTurns_99 0 (Int32.ofNat t) (Int32.ofNat j) (Int32.ofNat (8 * t + j)) x7 K n (Int32.ofNat (k + 1)) (wr S2 (8 * t + j) (Int32.ofNat k) (XA GA S1 t j k).toInt64 (XB GB S1 t j k).toInt64)) (f_X12_layTurns_99 0 (Int32.ofNat t) (Int32.ofNat j) (Int32.ofNat (8 * t + j)) x7 K n (Int32.ofNat (k + 1)) S2)) := by
  obtain ⟨q1, q2, q3, q4, -⟩ := hN
  have i8 : (8 * (Int32.ofNat t + 1) + Int32.ofNat k : Int32) = Int32.ofNat (8 * (t + 1) + k) := by rw [zp1, zMu, zAA]
  rw [f_X12_layTurns_99, ck_t (by decide), show gi S2 61 0 (nn 3) = Int32.ofNat lv from n3, brn (fun w => absurd ((zLE (by omega) (by omega)).mp w) (by omega)), i8]
  have G1 := hG k j hk hj
  have G2 := hG j k hj hk
  have B1 := hb k j hk hj
  have B2 := hb j k hj hk
  have y1 : nn (Int32.ofNat (8 * (t + 1) + k)) = 8 * (t + 1) + k := zN (by omega)
  have y2 : nn (Int32.ofNat (8 * t + j)) = 8 * t + j := zN (by omega)
  by_cases h : t % 2 = 0
  · have h' : ¬ (t + 1) % 2 = 0 := by omega
    rw [if_neg h'] at q1 q2
    rw [if_pos h] at h7
    subst h7
    simp only [bvE, brn (show ¬ (1 : Int32) = 0 by decide)]
    rw [G1.1]
    unfold on
    dsimp only
    rw [ck_t (ib (by omega) (by omega)), G1.2]
    dsimp only
    rw [ck_t (ib (by omega) (by omega)), y1, y2, ← q1, ← q2, ← (bd_add B1.1 q4 (by omega)).1, ← (bd_add B1.2 q3 (by omega)).1, ck_t (ib (by omega) (by omega))]
    unfold XM XA XB
    rw [if_pos h, if_pos h, if_pos h, if_pos h]
    simp only [ck_t (ib (show 8 * t + j < 328 by omega) (show 8 * t + j < 2147483648 by omega)), zp1]
    rfl
  · have h' : (t + 1) % 2 = 0 := by omega
    rw [if_pos h'] at q1 q2
    rw [if_neg h] at h7
    subst h7
    simp only [bvE, brT]
    rw [G2.1]
    unfold on
    dsimp only
    rw [ck_t (ib (by omega) (by omega)), G2.2]
    dsimp only
    rw [ck_t (ib (by omega) (by omega)), y1, y2, ← q1, ← q2, ← (bd_add B2.1 q3 (by omega)).1, ← (bd_add B2.2 q4 (by omega)).1, ck_t (ib (by omega) (by omega))]
    unfold XM XA XB
    rw [if_neg h, if_neg h, if_neg h, if_neg h]
    simp only [ck_t (ib (show 8 * t + j < 328 by omega) (show 8 * t + j < 2147483648 by omega)), zp1]
    rfl
end TU
