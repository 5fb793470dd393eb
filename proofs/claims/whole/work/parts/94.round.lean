-- ROUND
section RO
variable {S Z : St} {N h p : Nat} {T : Nat → Int32}
def Al (T : Nat → Int32) (N x y : Nat) : Prop := ∀ s, s < N → bd T x s = bd T y s
theorem e_alike (n0 : gi Z 61 0 0 = Int32.ofNat N) (hN : N ≤ 4) {x y : Nat} (hx : x < 3000) (hy : y < 3000) : (Al (gi Z 61 0) N x y → f_X12_isAlike 0 (Int32.ofNat x) (Int32.ofNat y) Z = some 1) ∧ (¬ Al (gi Z 61 0) N x y → f_X12_isAlike 0 (Int32.ofNat x) (Int32.ofNat y) Z = some 0) := by
  have lp : ∀ (n s : Nat), s ≤ N → N < n + s → ((∀ s', s ≤ s' → s' < N → bd (gi Z 61 0) x s' = bd (gi Z 61 0) y s') → f_X12_isAlike_2 0 (Int32.ofNat x) (Int32.ofNat y) Z (fun _ => some 1) n (Int32.ofNat s) = some 1) ∧ (¬ (∀ s', s ≤ s' → s' < N → bd (gi Z 61 0) x s' = bd (gi Z 61 0) y s') → f_X12_isAlike_2 0 (Int32.ofNat x) (Int32.ofNat y) Z (fun _ => some 1) n (Int32.ofNat s) = some 0) := by
    intro n
    induction n with
    | zero => intro s _ h; omega
    | succ n ih =>
      intro s hs hn
      rw [f_X12_isAlike_2, ck_t (by decide), show gi Z 61 0 (nn 0) = Int32.ofNat N from n0]
      by_cases hc : N ≤ s
      · rw [brp ((zLE (by omega) (by omega)).mpr hc)]
        exact ⟨fun _ => rfl, fun z => absurd (fun s' h1 h2 => by omega) z⟩
      · rw [brn (fun w => hc ((zLE (by omega) (by omega)).mp w)), e_boardOf (by omega) hx, e_boardOf (by omega) hy]
        unfold on
        dsimp only
        rw [bvE, zp1]
        obtain ⟨i1, i2⟩ := ih (s + 1) (by omega) (by omega)
        by_cases e : bd (gi Z 61 0) x s = bd (gi Z 61 0) y s
        · rw [brp e]
          refine ⟨fun z => i1 (fun s' h1 h2 => z s' (by omega) h2), fun z => i2 (fun w => z (fun s' h1 h2 => ?_))⟩
          by_cases e9 : s' = s
          · rw [e9]; exact e
          · exact w s' (by omega) h2
        · rw [brn e]
          exact ⟨fun z => absurd (z s (by omega) (by omega)) e, fun _ => rfl⟩
  obtain ⟨a, b⟩ := lp FU 0 (by omega) (by unfold FU; omega)
  exact ⟨fun z => a (fun s' _ h2 => z s' h2), fun z => b (fun w => z (fun s' h2 => w s' (by omega) h2))⟩
theorem e_isRound (cap : gi S 14 (2 * 0) 0 = 256) (len : gn S 15 (2 * 0) = 1024) (rw_ : gi S 14 (2 * 0) 3 = Int32.ofNat h) (q : Chr N h (gi S 15 (2 * 0)) (gi S 16 (2 * 0)) T) (hN : N ≤ 4) (hh : h ≤ 3000) (hp : 1 ≤ p) (h2 : 2 * p ≤ h) : ((∀ x, h - p ≤ x → x < h → Al T N x (x - p)) → f_X0_isRound (2 * 0) (Int32.ofNat p) (Int32.ofNat N) S = some 1) ∧ (¬ (∀ x, h - p ≤ x → x < h → Al T N x (x - p)) → f_X0_isRound (2 * 0) (Int32.ofNat p) (Int32.ofNat N) S = some 0) := by
  have row : ∀ (n s x : Nat) (K : Unit → Option Int32), s ≤ N → N < n + s → h - p ≤ x → x < h → ((∀ s', s ≤ s' → s' < N → bd T x s' = bd T (x - p) s') → f_X0_isRound_18 (2 * 0) (Int32.ofNat p) (Int32.ofNat N) (Int32.ofNat x) S K n (Int32.ofNat s) = K ()) ∧ (¬ (∀ s', s ≤ s' → s' < N → bd T x s' = bd T (x - p) s') → f_X0_isRound_18 (2 * 0) (Int32.ofNat p) (Int32.ofNat N) (Int32.ofNat x) S K n (Int32.ofNat s) = some 0) := by
    intro n
    induction n with
    | zero => intro s x K _ h; omega
    | succ n ih =>
      intro s x K hs hn hx1 hx2
      rw [f_X0_isRound_18]
      by_cases hc : N ≤ s
      · rw [brp ((zLE (by omega) (by omega)).mpr hc)]
        exact ⟨fun _ => rfl, fun z => absurd (fun s' h1 h2 => by omega) z⟩
      · rw [brn (fun w => hc ((zLE (by omega) (by omega)).mp w)), at_h cap len q hN hh (by omega) hx2, zS p (by omega), at_h cap len q hN hh (by omega) (by omega)]
        unfold on
        dsimp only
        rw [bvE, zp1]
        obtain ⟨i1, i2⟩ := ih (s + 1) x K (by omega) (by omega) hx1 hx2
        by_cases e : bd T x s = bd T (x - p) s
        · rw [brp e]
          refine ⟨fun z => i1 (fun s' h1 h2 => z s' (by omega) h2), fun z => i2 (fun w => z (fun s' h1 h2 => ?_))⟩
          by_cases e9 : s' = s
          · rw [e9]; exact e
          · exact w s' (by omega) h2
        · rw [brn e]
          exact ⟨fun z => absurd (z s (by omega) (by omega)) e, fun _ => rfl⟩
  have col : ∀ (n x : Nat), h - p ≤ x → x ≤ h → h < n + x → ((∀ x', x ≤ x' → x' < h → Al T N x' (x' - p)) → f_X0_isRound_7 (2 * 0) (Int32.ofNat p) (Int32.ofNat N) S (fun _ => some 1) n (Int32.ofNat x) = some 1) ∧ (¬ (∀ x', x ≤ x' → x' < h → Al T N x' (x' - p)) → f_X0_isRound_7 (2 * 0) (Int32.ofNat p) (Int32.ofNat N) S (fun _ => some 1) n (Int32.ofNat x) = some 0) := by
    intro n
    induction n with
    | zero => intro x _ _ h; omega
    | succ n ih =>
      intro x hx1 hx2 hn
      rw [f_X0_isRound_7, rw_]
      by_cases hc : h ≤ x
      · rw [brp ((zLE (by omega) (by omega)).mpr hc)]
        exact ⟨fun _ => rfl, fun z => absurd (fun s' h1 h2 => by omega) z⟩
      · rw [brn (fun w => hc ((zLE (by omega) (by omega)).mp w))]
        obtain ⟨r1, r2⟩ := row FU 0 x (fun _ => bv (Int32.ofNat x + 1) (fun x3_10 => f_X0_isRound_7 (2 * 0) (Int32.ofNat p) (Int32.ofNat N) S (fun _ => some 1) n x3_10)) (by omega) (by unfold FU; omega) hx1 (by omega)
        rw [show Int32.ofNat 0 = (0 : Int32) from rfl] at r1 r2
        obtain ⟨i1, i2⟩ := ih (x + 1) (by omega) (by omega) (by omega)
        by_cases e : Al T N x (x - p)
        · rw [r1 (fun s' _ h2 => e s' h2), bvE, zp1]
          refine ⟨fun z => i1 (fun x' h1 h2 => z x' (by omega) h2), fun z => i2 (fun w => z (fun x' h1 h2 => ?_))⟩
          by_cases e9 : x' = x
          · rw [e9]; exact e
          · exact w x' (by omega) h2
        · rw [r2 (fun w => e (fun s' h2 => w s' (by omega) h2))]
          exact ⟨fun z => absurd (z x (by omega) (by omega)) e, fun _ => rfl⟩
  unfold f_X0_isRound
  rw [bvE, rw_, zS p (by omega)]
  exact col FU (h - p) (by omega) (by omega) (by unfold FU; omega)
theorem e_round37 (n0 : gi Z 61 0 0 = Int32.ofNat N) (hN : N ≤ 4) (hh : h ≤ 3000) (hp : 1 ≤ p) (h2 : 2 * p ≤ h) (K : Int32 → St → Option (Int32 × St)) : ∀ (n y : Nat), y ≤ p → p < n + y → ((∀ y', y ≤ y' → y' < p → Al (gi Z 61 0) N (h - 1 - y') (h - 1 - y' - p)) → f_X12_round_37 0 (Int32.ofNat (h - 1)) (Int32.ofNat p) K n 1 (Int32.ofNat y) Z = K 1 Z) ∧ (¬ (∀ y', y ≤ y' → y' < p → Al (gi Z 61 0) N (h - 1 - y') (h - 1 - y' - p)) → f_X12_round_37 0 (Int32.ofNat (h - 1)) (Int32.ofNat p) K n 1 (Int32.ofNat y) Z = K 0 Z) := by
  intro n
  induction n with
  | zero => intro y _ h; omega
  | succ n ih =>
    intro y hy hn
    rw [f_X12_round_37]
    by_cases hc : p ≤ y
    · rw [brp ((zLE (by omega) (by omega)).mpr hc)]
      exact ⟨fun _ => rfl, fun z => absurd (fun s' h1 h2 => by omega) z⟩
    · rw [brn (fun w => hc ((zLE (by omega) (by omega)).mp w)), brn (by decide), zS y (by omega), zS p (by omega)]
      obtain ⟨a1, a2⟩ := e_alike (Z := Z) n0 hN (show h - 1 - y < 3000 by omega) (show h - 1 - y - p < 3000 by omega)
      obtain ⟨i1, i2⟩ := ih (y + 1) (by omega) (by omega)
      by_cases e : Al (gi Z 61 0) N (h - 1 - y) (h - 1 - y - p)
      · rw [a1 e]
        unfold on
        dsimp only
        rw [bvE, zp1]
        refine ⟨fun z => i1 (fun x' h1 h2 => z x' (by omega) h2), fun z => i2 (fun w => z (fun x' h1 h2 => ?_))⟩
        by_cases e9 : x' = y
        · rw [e9]; exact e
        · exact w x' (by omega) h2
      · rw [a2 e]
        unfold on
        dsimp only
        rw [bvE, zp1]
        refine ⟨fun z => absurd (z y (by omega) (by omega)) e, fun _ => ?_⟩
        obtain ⟨n, rfl⟩ : ∃ v, n = v + 1 := ⟨n - 1, by omega⟩
        rw [f_X12_round_37]
        by_cases h9 : Int32.ofNat p ≤ Int32.ofNat (y + 1)
        · rw [brp h9]
        · rw [brn h9, brp rfl]
/-- where two rounds begin, as a number -/
theorem rd_x (hh : h ≤ 3000) (hp : p ≤ 100) : kp h ((Int32.ofNat h - 1) - 2 * Int32.ofNat p + 1) ↔ (1 ≤ p ∧ 2 * p ≤ h ∧ 2 * p ≤ 256) := by
  have e : ((Int32.ofNat h - 1) - 2 * Int32.ofNat p + 1).toInt = (h : Int) - 2 * p := by
    rw [zMu, Int32.toInt_add, Int32.toInt_sub, Int32.toInt_sub, zI (by omega), zI (show 2 * p < 2147483648 by omega)]
    show ((((h : Int) - 1).bmod (2 ^ 32) - ((2 * p : Nat) : Int)).bmod (2 ^ 32) + 1).bmod (2 ^ 32) = _
    have b1 : ((h : Int) - 1).bmod (2 ^ 32) = (h : Int) - 1 := by rw [Int.bmod_def]; omega
    have b2 : ((h : Int) - 1 - ((2 * p : Nat) : Int)).bmod (2 ^ 32) = (h : Int) - 1 - 2 * p := by rw [Int.bmod_def]; omega
    rw [b1, b2, Int.bmod_def]; omega
  unfold kp
  rw [Int32.not_lt, Int32.le_iff_toInt_le, Int32.lt_iff_toInt_lt, e, zI (by omega), zI (by omega)]
  omega
end RO
-- CASE round
theorem pc_14 {t : Nat} {S : St} {a1 a2 a3 a4 a5 : Int32} (h : Inv t S) : Ok (fc_14 (t + 1) a1 a2 a3 a4 a5 S) (Inv (t + 1)) := by
  unfold fc_14 f_X11_round f_X12_round f_X0_leastRound
  obtain ⟨⟨N, D, hh, lv, ri, to, ch, c1, c2, c3, c4, c5, c6, -⟩, -⟩ := id h
  have n0 := c1.1.1
  have b0 := c1.1.2
  have n2 := c1.2.2.1.1
  have b2 := c1.2.2.1.2
  have cap := c2.2.2.2.2.2.2.2.1
  have len := c2.2.2.2.2.2.2.2.2.2.1
  have rw_ := c2.2.2.1
  have iB := fun {x : Int32} => e_isBoard (S := si S 60 0 5 0) (h := hh) (x := x) n2 b2
  have sh : ∀ (n : Nat) (K : Int32 → St → Option (Int32 × St)) (p : Nat), 1 ≤ p → p ≤ 100 → f_X12_round_37 0 (Int32.ofNat hh - 1) (Int32.ofNat p) K (n + 1) 0 0 (si S 60 0 5 0) = K 0 (si S 60 0 5 0) := by
    intro n K p h1 h2
    rw [f_X12_round_37, brn (show ¬ Int32.ofNat p ≤ 0 from fun w => absurd ((zLE (a := p) (b := 0) (by omega) (by omega)).mp w) (by omega)), brp rfl]
  have off : ∀ (n p : Nat), 1 ≤ p → p ≤ 101 → 101 < n + p → ¬ (2 * p ≤ hh ∧ 2 * p ≤ 256) → f_X12_round_16 0 (Int32.ofNat hh - 1) (fun S => some (-1, S)) n (Int32.ofNat p) (si S 60 0 5 0) = some (-1, si S 60 0 5 0) := by
    intro n
    induction n with
    | zero => intro p _ _ h; omega
    | succ n ih =>
      intro p h1 h2 hn hc
      rw [f_X12_round_16]
      by_cases h9 : 100 < p
      · rw [brp (show (100 : Int32) < Int32.ofNat p from (zL (a := 100) (by omega) (by omega)).mpr h9)]
      · rw [brn (show ¬ (100 : Int32) < Int32.ofNat p from fun w => h9 ((zL (a := 100) (by omega) (by omega)).mp w)), iB.2 (fun z => hc ((rd_x b2 (by omega)).mp z).2)]
        unfold on
        dsimp only
        rw [show FU = 99999 + 1 from rfl, sh _ _ p h1 (by omega), brp rfl, bvE, zp1]
        exact ih (p + 1) (by omega) (by omega) (by omega) (by omega)
  have lp : ∀ (n p : Nat), 1 ≤ p → p ≤ 101 → 101 < n + p → ∃ r, f_X0_leastRound_2 (2 * 0) (Int32.ofNat N) S (fun _ => some (-1)) n (Int32.ofNat p) = some r ∧ f_X12_round_16 0 (Int32.ofNat hh - 1) (fun S => some (-1, S)) n (Int32.ofNat p) (si S 60 0 5 0) = some (r, si S 60 0 5 0) := by
    intro n
    induction n with
    | zero => intro p _ _ h; omega
    | succ n ih =>
      intro p h1 h2 hn
      have of1 := off (n + 1) p h1 h2 hn
      rw [f_X0_leastRound_2]
      by_cases h9 : 100 < p
      · rw [f_X12_round_16, brp (show (100 : Int32) < Int32.ofNat p from (zL (a := 100) (by omega) (by omega)).mpr h9), brp (show (100 : Int32) < Int32.ofNat p from (zL (a := 100) (by omega) (by omega)).mpr h9)]
        exact ⟨-1, rfl, rfl⟩
      · have nb : ¬ (100 : Int32) < Int32.ofNat p := fun w => h9 ((zL (a := 100) (by omega) (by omega)).mp w)
        rw [brn nb, e_kept cap rw_ b2]
        by_cases hc : 2 * p ≤ hh ∧ 2 * p ≤ 256
        · rw [f_X12_round_16, brn nb, iB.1 ((rd_x b2 (by omega)).mpr ⟨h1, hc⟩)]
          unfold on
          dsimp only
          rw [zMu, brn (fun w => absurd ((zL (by omega) (by omega)).mp w) (by omega)), zSub1 (show 0 < hh by omega)]
          obtain ⟨e1, e2⟩ := e_isRound (S := S) (T := gi S 61 0) cap len rw_ c6 b0 b2 h1 hc.1
          obtain ⟨f1, f2⟩ := e_round37 (Z := si S 60 0 5 0) (N := N) (h := hh) n0 b0 b2 h1 hc.1 (fun (x3_12 : Int32) (S_13 : St) => br (x3_12 = 0) (bv (Int32.ofNat p + 1) (fun x2_15 => f_X12_round_16 0 (Int32.ofNat (hh - 1)) (fun S => some (-1, S)) n x2_15 S_13)) (some (Int32.ofNat p, S_13))) FU 0 (by omega) (by unfold FU; omega)
          rw [show Int32.ofNat 0 = (0 : Int32) from rfl] at f1 f2
          by_cases e : ∀ x, hh - p ≤ x → x < hh → Al (gi S 61 0) N x (x - p)
          · rw [e1 e, f1 (fun y' _ hy => e (hh - 1 - y') (by omega) (by omega))]
            dsimp only
            rw [brn (by decide), brn (by decide)]
            exact ⟨_, rfl, rfl⟩
          · rw [e2 e, f2 (fun w => e (fun x hx1 hx2 => by
              have := w (hh - 1 - x) (by omega) (by omega)
              rw [show hh - 1 - (hh - 1 - x) = x by omega] at this
              exact this))]
            dsimp only
            rw [brp rfl, brp rfl, bvE, bvE, zp1, ← zSub1 (show 0 < hh by omega)]
            exact ih (p + 1) (by omega) (by omega) (by omega)
        · rw [of1 hc]
          refine ⟨-1, ?_, rfl⟩
          unfold on
          dsimp only
          rw [zMu, brp ((zL (by omega) (by omega)).mpr (by omega))]
  obtain ⟨r, r1, r2⟩ := lp FU 1 (by omega) (by omega) (by unfold FU; omega)
  rw [show Int32.ofNat 1 = (1 : Int32) from rfl] at r1 r2
  rw [bvE, ck_t (by decide), bvE, show gi (si S 60 0 5 0) 61 0 (nn 2) = Int32.ofNat hh from n2, c2.1, r1, r2]
  unfold on on2
  dsimp only
  rw [brp rfl]
  exact Ok.sm (pf_bad h)
