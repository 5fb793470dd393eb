-- WHERE A KIND FILLS
/-- does kind k know of station s -/
def knw (T : Nat → Int32) (k s : Nat) : Prop := T 123 = 1 ∨ ((T (28 + 4 * k + 2) >>> (Int32.ofNat s &&& 31)) &&& 1) = 1
def stW (T pr : Nat → Int32) (k : Nat) (bl : Int32 × Int32) (s : Nat) : Int32 × Int32 :=
  if ¬ Int32.ofNat s = T (28 + 4 * k + 1) ∧ (T 123 = 1 ∨ ((T (28 + 4 * k + 2) >>> (Int32.ofNat s &&& 31)) &&& 1) = 1) ∧ pr s + T (28 + 4 * k + 3) < bl.2 then (Int32.ofNat s, pr s + T (28 + 4 * k + 3)) else bl
/-- from station s on, n stations -/
def goW (T pr : Nat → Int32) (k : Nat) : Nat → Nat → Int32 × Int32 → Int32 × Int32
  | 0, _, bl => bl
  | n + 1, s, bl => goW T pr k n (s + 1) (stW T pr k bl s)
def whF (T pr : Nat → Int32) (N k : Nat) : Int32 := (goW T pr k N 0 (T (28 + 4 * k + 1), pr (nn (T (28 + 4 * k + 1))))).1
theorem stW_y {T pr : Nat → Int32} {k s : Nat} {bl : Int32 × Int32} (h : ¬ Int32.ofNat s = T (28 + 4 * k + 1) ∧ knw T k s ∧ pr s + T (28 + 4 * k + 3) < bl.2) : stW T pr k bl s = (Int32.ofNat s, pr s + T (28 + 4 * k + 3)) := if_pos h
theorem stW_n {T pr : Nat → Int32} {k s : Nat} {bl : Int32 × Int32} (h : ¬ (¬ Int32.ofNat s = T (28 + 4 * k + 1) ∧ knw T k s ∧ pr s + T (28 + 4 * k + 3) < bl.2)) : stW T pr k bl s = bl := if_neg h
theorem goW_cg {T pr pr' : Nat → Int32} {k : Nat} : ∀ (n s : Nat) (bl : Int32 × Int32), (∀ i, s ≤ i → i < s + n → pr' i = pr i) → goW T pr' k n s bl = goW T pr k n s bl := by
  intro n
  induction n with
  | zero => intro s bl _; rfl
  | succ n ih =>
    intro s bl h
    rw [goW, goW, ih (s + 1) _ (fun i h1 h2 => h i (by omega) (by omega))]
    congr 1
    unfold stW
    rw [h s (by omega) (by omega)]
theorem whF_cg {T pr pr' : Nat → Int32} {N k : Nat} (hl : Lt N (T (28 + 4 * k + 1))) (hN : N ≤ 4) (h : ∀ i, i < N → pr' i = pr i) : whF T pr' N k = whF T pr N k := by
  unfold whF
  obtain ⟨d, hd, e⟩ := hl
  rw [goW_cg N 0 _ (fun i _ hi => h i (by omega)), e, zN (by omega), h d hd]
theorem goW_lt {T pr : Nat → Int32} {k N : Nat} (hN : N ≤ 4) : ∀ (n s : Nat) (bl : Int32 × Int32), s + n ≤ N → Lt N bl.1 → Lt N (goW T pr k n s bl).1 := by
  intro n
  induction n with
  | zero => intro s bl _ h; exact h
  | succ n ih =>
    intro s bl hs hb
    rw [goW]
    refine ih (s + 1) _ (by omega) ?_
    by_cases hc : ¬ Int32.ofNat s = T (28 + 4 * k + 1) ∧ knw T k s ∧ pr s + T (28 + 4 * k + 3) < bl.2
    · rw [stW_y hc]; exact ⟨s, by omega, rfl⟩
    · rw [stW_n hc]; exact hb
theorem whF_lt {T pr : Nat → Int32} {N k : Nat} (hl : Lt N (T (28 + 4 * k + 1))) (hN : N ≤ 4) : Lt N (whF T pr N k) := goW_lt hN N 0 _ (by omega) hl
def kbA (N d s : Nat) : Bool := decide ((((Int32.ofNat d ||| Int32.ofNat (2 ^ N - 1)) >>> (Int32.ofNat s &&& 31)) &&& 1) = 1)
def kbC (d s : Nat) : Bool := decide (((Int32.ofNat d >>> (Int32.ofNat s &&& 31)) &&& 1) = 1)
def kbB (N d s : Nat) : Bool := !decide (d < 2 ^ N) || ((!decide (s < N) || kbA N d s) && (!decide (N ≤ s) || (!kbA N d s && !kbC d s)))
theorem kb_all : ((List.range 5).all (fun N => (List.range 16).all (fun d => (List.range 4).all (fun s => kbB N d s)))) = true := by decide +kernel
theorem kbits : ∀ N, N < 5 → ∀ d, d < 16 → ∀ s, s < 4 → (d < 2 ^ N → (s < N → (((Int32.ofNat d ||| Int32.ofNat (2 ^ N - 1)) >>> (Int32.ofNat s &&& 31)) &&& 1) = 1) ∧ (N ≤ s → (¬ (((Int32.ofNat d ||| Int32.ofNat (2 ^ N - 1)) >>> (Int32.ofNat s &&& 31)) &&& 1) = 1) ∧ (¬ ((Int32.ofNat d >>> (Int32.ofNat s &&& 31)) &&& 1) = 1))) := by
  intro N hN d hd s hs hp
  have h := List.all_eq_true.mp (List.all_eq_true.mp (List.all_eq_true.mp kb_all N (List.mem_range.mpr hN)) d (List.mem_range.mpr hd)) s (List.mem_range.mpr hs)
  unfold kbB kbA kbC at h
  simp only [Bool.or_eq_true, Bool.and_eq_true, Bool.not_eq_true', decide_eq_true_eq, decide_eq_false_iff_not] at h
  rcases h with h | ⟨h1, h2⟩
  · exact absurd hp h
  · exact ⟨fun z => h1.resolve_left (fun w => w z), fun z => h2.resolve_left (fun w => w z)⟩
section WH
variable {S : St} {N D : Nat} {T : Nat → Int32}
theorem e_where {k : Nat} (hN : N ≤ 4) (hD : D ≤ 6) (hk : k < D) (n0 : gi S 61 0 0 = Int32.ofNat N) {mn hb kn dt : Nat → Int32} (c5 : Cdr N D mn hb kn dt (gi S 61 0)) : f_X12_where 0 (Int32.ofNat k) S = some (whF (gi S 61 0) (gi S 70 0) N k) := by
  obtain ⟨q1, q2, q3, q4, q5, ⟨d, hd, ed⟩, q7, q8⟩ := c5 k hk
  have lp : ∀ (n s : Nat) (bl : Int32 × Int32), s ≤ N → N - s < n → f_X12_where_27 0 (Int32.ofNat (28 + 4 * k)) S (fun x => some x) n bl.1 bl.2 (Int32.ofNat s) = some (goW (gi S 61 0) (gi S 70 0) k (N - s) s bl).1 := by
    intro n
    induction n with
    | zero => intro s bl _ h; omega
    | succ n ih =>
      intro s bl hs hn
      rw [f_X12_where_27, ck_t (by decide), show gi S 61 0 (nn 0) = Int32.ofNat N from n0]
      by_cases hc : N ≤ s
      · rw [brp ((zLE (by omega) (by omega)).mpr hc), show N - s = 0 by omega]; rfl
      · rw [brn (fun w => hc ((zLE (by omega) (by omega)).mp w)), ck_t (by decide)]
        -- behind the test of knowing
        have J : ∀ v : Int32, ((v = 0) ↔ ¬ knw (gi S 61 0) k s) → (ck (inb (Int32.ofNat (28 + 4 * k) + 1) 3179 = true) (bv (fun (x3_12 : Int32) (x4_13 : Int32) => bv (Int32.ofNat s + 1) (fun x5_15 => f_X12_where_27 0 (Int32.ofNat (28 + 4 * k)) S (fun x => some x) n x3_12 x4_13 x5_15)) (fun J_14 => br (Int32.ofNat s = (gi S 61 0 (nn (Int32.ofNat (28 + 4 * k) + 1)))) (J_14 bl.1 bl.2) (br (v = 0) (J_14 bl.1 bl.2) (ck (inb (Int32.ofNat s) 4 = true) (ck (inb (Int32.ofNat (28 + 4 * k) + 3) 3179 = true) (br (((gi S 70 0 (nn (Int32.ofNat s))) + (gi S 61 0 (nn (Int32.ofNat (28 + 4 * k) + 3)))) < bl.2) (ck (inb (Int32.ofNat s) 4 = true) (ck (inb (Int32.ofNat (28 + 4 * k) + 3) 3179 = true) (bv ((gi S 70 0 (nn (Int32.ofNat s))) + (gi S 61 0 (nn (Int32.ofNat (28 + 4 * k) + 3)))) (fun x4_23 => J_14 (Int32.ofNat s) x4_23)))) (J_14 bl.1 bl.2)))))))) = some (goW (gi S 61 0) (gi S 70 0) k (N - s) s bl).1 := by
          intro v hv
          have go : ∀ bl' : Int32 × Int32, bl' = stW (gi S 61 0) (gi S 70 0) k bl s → f_X12_where_27 0 (Int32.ofNat (28 + 4 * k)) S (fun x => some x) n bl'.1 bl'.2 (Int32.ofNat s + 1) = some (goW (gi S 61 0) (gi S 70 0) k (N - s) s bl).1 := by
            intro bl' e
            rw [zp1, ih (s + 1) bl' (by omega) (by omega), show N - s = (N - (s + 1)) + 1 by omega, goW, e]
          rw [zp1, zp3, ck_t (ib (by omega) (by omega)), zN (by omega), zN (by omega), zN (by omega)]
          unfold bv
          dsimp only
          by_cases h1 : Int32.ofNat s = gi S 61 0 (28 + 4 * k + 1)
          · rw [brp h1]; exact go bl (stW_n (fun z => z.1 h1)).symm
          · rw [brn h1]
            by_cases h2 : v = 0
            · rw [brp h2]; exact go bl (stW_n (fun z => (hv.mp h2) z.2.1)).symm
            · rw [brn h2, ck_t (ib (by omega) (by omega)), ck_t (ib (by omega) (by omega))]
              by_cases h3 : gi S 70 0 s + gi S 61 0 (28 + 4 * k + 3) < bl.2
              · rw [brp h3, ck_t (ib (by omega) (by omega)), ck_t (ib (by omega) (by omega))]
                exact go (Int32.ofNat s, gi S 70 0 s + gi S 61 0 (28 + 4 * k + 3)) (stW_y ⟨h1, Classical.byContradiction (fun z => h2 (hv.mpr z)), h3⟩).symm
              · rw [brn h3]; exact go bl (stW_n (fun z => h3 z.2.2)).symm
        show bv _ (fun J_24 => br (gi S 61 0 123 = 1) _ (ck (inb (Int32.ofNat (28 + 4 * k) + 2) 3179 = true) (br (((gi S 61 0 (nn (Int32.ofNat (28 + 4 * k) + 2)) >>> (Int32.ofNat s &&& 31)) &&& 1) = 1) _ _))) = _
        unfold bv at J ⊢
        dsimp only at J ⊢
        by_cases h1 : gi S 61 0 123 = 1
        · rw [brp h1]
          exact J 1 ⟨fun z => absurd z (by decide), fun z => absurd (Or.inl h1) z⟩
        · rw [brn h1, ck_t (by rw [zp2]; exact ib (by omega) (by omega))]
          have e2 : nn (Int32.ofNat (28 + 4 * k) + 2) = 28 + 4 * k + 2 := by rw [zp2]; exact zN (by omega)
          rw [e2]
          by_cases h2 : ((gi S 61 0 (28 + 4 * k + 2) >>> (Int32.ofNat s &&& 31)) &&& 1) = 1
          · rw [brp h2]
            exact J 1 ⟨fun z => absurd z (by decide), fun z => absurd (Or.inr h2) z⟩
          · rw [brn h2]
            exact J 0 ⟨fun _ z => z.elim h1 h2, fun _ => rfl⟩
  unfold f_X12_where
  rw [show (28 + 4 * Int32.ofNat k : Int32) = Int32.ofNat (28 + 4 * k) by rw [zMu, zA]]
  show ck (inb (Int32.ofNat (28 + 4 * k) + 1) 3179 = true) (bv (gi S 61 0 (nn (Int32.ofNat (28 + 4 * k) + 1))) _) = _
  rw [zp1, ck_t (ib (by omega) (by omega)), zN (by omega)]
  show ck (inb (gi S 61 0 (28 + 4 * k + 1)) 4 = true) (bv (gi S 70 0 (nn (gi S 61 0 (28 + 4 * k + 1)))) _) = _
  rw [ck_t (by rw [ed]; exact ib (by omega) (by omega))]
  exact lp FU 0 (gi S 61 0 (28 + 4 * k + 1), gi S 70 0 (nn (gi S 61 0 (28 + 4 * k + 1)))) (by omega) (by unfold FU; omega)
theorem e_placeOf {k g2 : Nat} {x3 : Int32} (hN : N ≤ 4) (hD : D ≤ 6) (hk : k < D) (c5 : Cdr N D (gi S 10 0) (gi S 11 0) (gi S 12 0) (gi S 13 0) T) (hx : (T 123 = 1 ∧ x3 = Int32.ofNat (2 ^ N - 1)) ∨ (¬ T 123 = 1 ∧ x3 = 0)) : f_X3_placeOf 0 (Int32.ofNat k) g2 x3 S = some (whF T (gi S 26 g2) N k) := by
  obtain ⟨q1, q2, q3, q4, q5, ⟨d, hd, ed⟩, ⟨w, hw, ew⟩, q8⟩ := c5 k hk
  have pw := pw4 hN
  have bit : ∀ s, s < 4 → ((((gi S 12 0 k ||| x3) >>> (Int32.ofNat s &&& 31)) &&& 1 = 1) ↔ (s < N ∧ knw T k s)) := by
    intro s hs
    have kb := kbits N (by omega) w (by omega) s hs hw
    rw [q3, ew]
    rcases hx with ⟨h1, rfl⟩ | ⟨h1, rfl⟩
    · by_cases h2 : s < N
      · exact ⟨fun _ => ⟨h2, Or.inl h1⟩, fun _ => kb.1 h2⟩
      · exact ⟨fun z => absurd z (kb.2 (by omega)).1, fun z => absurd z.1 h2⟩
    · rw [Int32.or_zero]
      by_cases h2 : s < N
      · refine ⟨fun z => ⟨h2, Or.inr (by rw [ew]; exact z)⟩, fun z => ?_⟩
        rcases z.2 with z2 | z2
        · exact absurd z2 h1
        · rw [ew] at z2; exact z2
      · exact ⟨fun z => absurd z (kb.2 (by omega)).2, fun z => absurd z.1 h2⟩
  have lp : ∀ (n s : Nat) (bl : Int32 × Int32), s ≤ 4 → 4 - s < n → f_X3_placeOf_27 0 (Int32.ofNat k) g2 (gi S 12 0 k ||| x3) S (fun x => some x) n bl.1 bl.2 (Int32.ofNat s) = some (goW T (gi S 26 g2) k (N - s) s bl).1 := by
    intro n
    induction n with
    | zero => intro s bl _ h; omega
    | succ n ih =>
      intro s bl hs hn
      rw [f_X3_placeOf_27]
      by_cases hc : 4 ≤ s
      · rw [brp (show (4 : Int32) ≤ Int32.ofNat s from (zLE (a := 4) (by omega) (by omega)).mpr hc), show N - s = 0 by omega]; rfl
      · rw [brn (show ¬ (4 : Int32) ≤ Int32.ofNat s from fun z => hc ((zLE (a := 4) (by omega) (by omega)).mp z)), ck_t (ib (by omega) (by omega)), zN (show k < 2147483648 by omega), zN (show s < 2147483648 by omega), zp1]
        have go : ∀ bl' : Int32 × Int32, (s < N → bl' = stW T (gi S 26 g2) k bl s) → (¬ s < N → bl' = bl) → f_X3_placeOf_27 0 (Int32.ofNat k) g2 (gi S 12 0 k ||| x3) S (fun x => some x) n bl'.1 bl'.2 (Int32.ofNat (s + 1)) = some (goW T (gi S 26 g2) k (N - s) s bl).1 := by
          intro bl' e e'
          rw [ih (s + 1) bl' (by omega) (by omega)]
          by_cases h : s < N
          · rw [show N - s = (N - (s + 1)) + 1 by omega, goW, e h]
          · rw [show N - s = 0 by omega, show N - (s + 1) = 0 by omega, e' h]; rfl
        have i4 : inb (Int32.ofNat s) 4 = true := ib (by omega) (by omega)
        have i6 : inb (Int32.ofNat k) 6 = true := ib (by omega) (by omega)
        unfold bv
        dsimp only
        by_cases h1 : Int32.ofNat s = gi S 11 0 k
        · rw [brp h1, brp rfl]
          exact go bl (fun _ => (stW_n (fun z => z.1 (by rw [h1, q2]))).symm) (fun _ => rfl)
        · rw [brn h1]
          by_cases h2 : ((gi S 12 0 k ||| x3) >>> (Int32.ofNat s &&& 31)) &&& 1 = 1
          · rw [brp h2, brn (by decide), ck_t i4, ck_t i6, q4]
            have hb := (bit s (by omega)).mp h2
            by_cases h3 : bl.2 ≤ gi S 26 g2 s + T (28 + 4 * k + 3)
            · rw [brp h3]
              exact go bl (fun _ => (stW_n (fun z => absurd z.2.2 (Int32.not_lt.mpr h3))).symm) (fun _ => rfl)
            · rw [brn h3, ck_t i4, ck_t i6]
              exact go (Int32.ofNat s, gi S 26 g2 s + T (28 + 4 * k + 3)) (fun _ => (stW_y ⟨fun z => h1 (by rw [z, q2]), hb.2, Int32.not_le.mp h3⟩).symm) (fun z => absurd hb.1 z)
          · rw [brn h2, brp rfl]
            exact go bl (fun hs9 => (stW_n (fun z => h2 ((bit s (by omega)).mpr ⟨hs9, z.2.1⟩))).symm) (fun _ => rfl)
  unfold f_X3_placeOf
  rw [ck_t (ib (by omega) (by omega)), zN (by omega)]
  show ck (inb (gi S 11 0 k) 4 = true) (bv (gi S 26 g2 (nn (gi S 11 0 k))) _) = _
  rw [q2, ck_t (by rw [ed]; exact ib (by omega) (by omega))]
  show ck (inb (Int32.ofNat k) 6 = true) _ = _
  rw [ck_t (ib (by omega) (by omega))]
  exact lp FU 0 (T (28 + 4 * k + 1), gi S 26 g2 (nn (T (28 + 4 * k + 1)))) (by omega) (by unfold FU; omega)
end WH
