-- PASSED: how much of a change of cost went into the price
theorem bvb {α β : Type} {c : Prop} [Decidable c] {a b : α} (f : α → β) : bv f (fun J => br c (J a) (J b)) = f (if c then a else b) := by
  unfold bv br; split <;> rfl
theorem bvbS {α β : Type} {c : Prop} [Decidable c] {a b : α} {S : St} (f : α → St → β) : bv f (fun J => br c (J a S) (J b S)) = f (if c then a else b) S := by
  unfold bv br; split <;> rfl
theorem onS {σ ρ : Type} (x : σ) (k : σ → Option ρ) : on (some x) k = k x := rfl
theorem ckTr {ρ : Type} {i : Decidable True} (k : Option ρ) : @ck ρ True i k = k := if_pos trivial
theorem k01a : ck ((0 : Int32) = 0 ∨ (0 : Int32) = 1) (some (0 : Int32)) = some 0 := ck_t (Or.inl rfl) _
theorem k01b : ck ((1 : Int32) = 0 ∨ (1 : Int32) = 1) (some (1 : Int32)) = some 1 := ck_t (Or.inr rfl) _
theorem zT {n : Nat} (h : n < 2147483648) : (Int32.ofNat n).toInt64 = Int64.ofNat n := by
  rw [← Int64.toInt_inj, Int32.toInt_toInt64, zI h, lI (by omega)]
theorem zmxs {p q : Nat} (hp : p < 2147483648) (hq : q < 2147483648) : mxI 0 (Int32.ofNat p - Int32.ofNat q) = Int32.ofNat (p - q) := by
  have e : (Int32.ofNat p - Int32.ofNat q).toInt = (p : Int) - q := by
    rw [Int32.toInt_sub, zI hp, zI hq]
    show ((p : Int) - q).bmod (2 ^ 32) = _
    rw [Int.bmod_def]; omega
  show (if (0 : Int32) < Int32.ofNat p - Int32.ofNat q then Int32.ofNat p - Int32.ofNat q else 0) = _
  by_cases hc : (0 : Int32) < Int32.ofNat p - Int32.ofNat q
  · rw [if_pos hc]
    rw [Int32.lt_iff_toInt_lt, e] at hc
    have hc : (0 : Int) < (p : Int) - q := hc
    exact zS q (by omega)
  · rw [if_neg hc]
    rw [Int32.lt_iff_toInt_lt, e] at hc
    have hc : ¬ (0 : Int) < (p : Int) - q := hc
    rw [show p - q = 0 by omega]; rfl
theorem zab {x : Int32} {n : Nat} (hn : n < 2147483648) (h1 : -(n : Int) ≤ x.toInt) (h2 : x.toInt ≤ n) : ∃ d : Nat, d ≤ n ∧ abI x = Int32.ofNat d := by
  refine ⟨x.toInt.natAbs, by omega, ?_⟩
  show (if 0 ≤ x then x else 0 - x) = _
  by_cases hc : 0 ≤ x
  · rw [if_pos hc]
    have hc : (0 : Int) ≤ x.toInt := Int32.le_iff_toInt_le.mp hc
    rw [← Int32.toInt_inj, zI (by omega)]; omega
  · rw [if_neg hc]
    have hc : ¬ (0 : Int) ≤ x.toInt := fun z => hc (Int32.le_iff_toInt_le.mpr z)
    rw [← Int32.toInt_inj, zI (by omega), Int32.toInt_sub]
    show ((0 : Int) - x.toInt).bmod (2 ^ 32) = _
    rw [Int.bmod_def]; omega
/-- a change counts -/
def Ct (h : Nat) (st hr by_ x2 x3 x4 : Int32) : Prop := st = x2 ∧ (if by_ ≤ 0 then (0 : Int32) else 1) = x4 ∧ kp h (hr - 1) ∧ kp h (hr - 1 + x3)
section PA
variable {S Z : St} {N h ch k : Nat} {T : Nat → Int32} {x2 x3 x4 st hr by_ : Int32}
theorem e_counts (cap : gi S 14 (2 * 0) 0 = 256) (rw_ : gi S 14 (2 * 0) 3 = Int32.ofNat h) (hh : h ≤ 3000) (hk : k < 10) (e1 : gi S 18 0 k = st) (e2 : gi S 19 0 k = hr) (e3 : gi S 20 0 k = by_) : (Ct h st hr by_ x2 x3 x4 → f_X1_counts 0 (Int32.ofNat k) x2 x3 x4 (2 * 0) S = some 1) ∧ (¬ Ct h st hr by_ x2 x3 x4 → f_X1_counts 0 (Int32.ofNat k) x2 x3 x4 (2 * 0) S = some 0) := by
  have hb : inb (Int32.ofNat k) 10 = true := ib hk (by omega)
  have e : f_X1_counts 0 (Int32.ofNat k) x2 x3 x4 (2 * 0) S = br (st = x2) (br ((if by_ ≤ 0 then (0 : Int32) else 1) = x4) (on (f_X0_has (2 * 0) (hr - 1) S) (fun r => br (r = 0) (some 0) (on (f_X0_has (2 * 0) (hr - 1 + x3) S) (fun r => br (r = 0) (some 0) (some 1))))) (some 0)) (some 0) := by
    unfold f_X1_counts
    simp only [bvb]
    simp only [bvE, ck_t hb, zN (show k < 2147483648 by omega), e1, e2, e3, true_or, or_true, ckTr]
  rw [e]; clear e
  have H1 := e_has (S := S) (g := 0) cap rw_ hh (x := hr - 1)
  have H2 := e_has (S := S) (g := 0) cap rw_ hh (x := hr - 1 + x3)
  constructor
  · rintro ⟨q1, q2, q3, q4⟩
    rw [brp q1, brp q2, H1.1 q3]
    show br ((1 : Int32) = 0) _ _ = _
    rw [brn (by decide), H2.1 q4]
    show br ((1 : Int32) = 0) _ _ = _
    rw [brn (by decide)]
  · intro hc
    by_cases q1 : st = x2
    · by_cases q2 : (if by_ ≤ 0 then (0 : Int32) else 1) = x4
      · rw [brp q1, brp q2]
        by_cases q3 : kp h (hr - 1)
        · rw [H1.1 q3, H2.2 (fun q4 => hc ⟨q1, q2, q3, q4⟩)]
          show br ((1 : Int32) = 0) _ _ = _
          rw [brn (by decide)]
          exact brp rfl
        · rw [H1.2 q3]; exact brp rfl
      · rw [brp q1, brn q2]
    · rw [brn q1]
theorem e_went (cap : gi S 14 (2 * 0) 0 = 256) (len : gn S 15 (2 * 0) = 1024) (q : Chr N h (gi S 15 (2 * 0)) (gi S 16 (2 * 0)) T) (hN : N ≤ 4) (hh : h ≤ 3000) (hk : k < 10) {s d1 d2 : Nat} (hs : s < N) (h1 : d1 < h) (h2 : d2 < h) (e1 : gi S 18 0 k = Int32.ofNat s) (e2 : gi S 19 0 k = hr) (e3 : gi S 20 0 k = by_) (f1 : hr - 1 = Int32.ofNat d1) (f2 : hr - 1 + x3 = Int32.ofNat d2) : f_X1_wentAlong 0 (Int32.ofNat k) x3 (2 * 0) S = some (mxI 0 (if by_ ≤ 0 then bd T d1 s - bd T d2 s else bd T d2 s - bd T d1 s)) := by
  have hb : inb (Int32.ofNat k) 10 = true := ib hk (by omega)
  have g1 := at_h (g := 0) cap len q hN hh hs h1
  have g2 := at_h (g := 0) cap len q hN hh hs h2
  unfold f_X1_wentAlong
  simp only [bvb]
  simp only [bvE, ck_t hb, zN (show k < 2147483648 by omega), e1, e2, e3, f2]
  rw [f1, g1, g2]
  rfl
theorem r_step (eT : gi Z 61 0 = T) (n6 : T 6 = Int32.ofNat ch) (hc : ch ≤ 10) (hk : k < ch) (e1 : T (3149 + 3 * k) = st) (e2 : T (3149 + 3 * k + 1) = hr) (e3 : T (3149 + 3 * k + 2) = by_) (K : Int64 → Int64 → St → Option (Int32 × St)) (m : Nat) (w c : Int64) : f_X12_passed_53 0 x2 x3 x4 K (m + 1) w c (Int32.ofNat (3149 + 3 * k)) Z = br (st = x2) (br ((if by_ ≤ 0 then (0 : Int32) else 1) = x4) (on (f_X12_isBoard 0 (hr - 1) Z) (fun r => br (r = 0) (f_X12_passed_53 0 x2 x3 x4 K m w c (Int32.ofNat (3149 + 3 * (k + 1))) Z) (on (f_X12_isBoard 0 (hr - 1 + x3) Z) (fun r => br (r = 0) (f_X12_passed_53 0 x2 x3 x4 K m w c (Int32.ofNat (3149 + 3 * (k + 1))) Z) (on (f_X12_boardOf 0 x2 (hr - 1 + x3) Z) (fun r31 => on (f_X12_boardOf 0 x2 (hr - 1) Z) (fun r33 => f_X12_passed_53 0 x2 x3 x4 K m (w + (mxI 0 (if x4 = 0 then -(r31 - r33) else r31 - r33)).toInt64) (c + (abI by_).toInt64) (Int32.ofNat (3149 + 3 * (k + 1))) Z))))))) (f_X12_passed_53 0 x2 x3 x4 K m w c (Int32.ofNat (3149 + 3 * (k + 1))) Z)) (f_X12_passed_53 0 x2 x3 x4 K m w c (Int32.ofNat (3149 + 3 * (k + 1))) Z) := by
  have z3 : Int32.ofNat (3149 + 3 * k) + 3 = Int32.ofNat (3149 + 3 * (k + 1)) := by
    rw [show 3149 + 3 * (k + 1) = 3149 + 3 * k + 3 by omega]; exact zA' 3 _
  have z1 : Int32.ofNat (3149 + 3 * k) + 1 = Int32.ofNat (3149 + 3 * k + 1) := zA' 1 _
  have z2 : Int32.ofNat (3149 + 3 * k) + 2 = Int32.ofNat (3149 + 3 * k + 2) := zA' 2 _
  rw [f_X12_passed_53, ck_t (by decide), eT, show T (nn 6) = Int32.ofNat ch from n6, zMu, zA, brn (fun z => absurd ((zLE (by omega) (by omega)).mp z) (by omega))]
  simp only [bvbS]
  simp only [bvE, z1, z2, z3, eT, ck_t (ib (show 3149 + 3 * k < 3179 by omega) (by omega)), ck_t (ib (show 3149 + 3 * k + 1 < 3179 by omega) (by omega)), ck_t (ib (show 3149 + 3 * k + 2 < 3179 by omega) (by omega)), zN (show 3149 + 3 * k < 2147483648 by omega), zN (show 3149 + 3 * k + 1 < 2147483648 by omega), zN (show 3149 + 3 * k + 2 < 2147483648 by omega), e1, e2, e3]
end PA
theorem bd_pr {N h x s : Nat} {pr ah T : Nat → Int32} (q : Chr N h pr ah T) (hs : s < N) (hx : x < h) : ∃ p : Nat, p ≤ 99 ∧ bd T x s = Int32.ofNat p := (q.2.1 (x % 256) s (by have := Nat.mod_le x 256; omega) (by omega) hs).2
theorem pas_loop {S : St} {N h ch a : Nat} {v x3 : Int32} (ha : a < N) (n2 : gi S 61 0 2 = Int32.ofNat h) (n6 : gi S 61 0 6 = Int32.ofNat ch) (b6 : ch ≤ 10) (k6 : gi S 17 0 3 = Int32.ofNat ch) (cap : gi S 14 (2 * 0) 0 = 256) (rw_ : gi S 14 (2 * 0) 3 = Int32.ofNat h) (len : gn S 15 (2 * 0) = 1024) (q : Chr N h (gi S 15 (2 * 0)) (gi S 16 (2 * 0)) (gi S 61 0)) (hN : N ≤ 4) (hh : h ≤ 3000) (c8 : Cch N h ch (gi S 18 0) (gi S 19 0) (gi S 20 0) (gi S 61 0)) : ∀ (r k m m' c w : Nat), k + r = ch → r < m → r < m' → ∃ c' w' : Nat, c' ≤ c + 99 * r ∧ w' ≤ w + 99 * r ∧ (∀ K, f_X11_passed_22 0 (Int32.ofNat a) x3 v K m (Int64.ofNat c) (Int64.ofNat w) (Int32.ofNat k) S = K (Int64.ofNat c') (Int64.ofNat w') S) ∧ (∀ K Z, gi Z 61 0 = gi S 61 0 → f_X12_passed_53 0 (Int32.ofNat a) x3 v K m' (Int64.ofNat w) (Int64.ofNat c) (Int32.ofNat (3149 + 3 * k)) Z = K (Int64.ofNat w') (Int64.ofNat c') Z) := by
  intro r
  induction r with
  | zero =>
    intro k m m' c w hk hm hm'
    obtain ⟨m, rfl⟩ : ∃ n, m = n + 1 := ⟨m - 1, by omega⟩
    obtain ⟨m', rfl⟩ : ∃ n, m' = n + 1 := ⟨m' - 1, by omega⟩
    refine ⟨c, w, by omega, by omega, fun K => ?_, fun K Z eZ => ?_⟩
    · rw [f_X11_passed_22, k6, brp ((zLE (by omega) (by omega)).mpr (by omega))]
    · rw [f_X12_passed_53, ck_t (by decide), eZ, show gi S 61 0 (nn 6) = Int32.ofNat ch from n6, zMu, zA, brp ((zLE (by omega) (by omega)).mpr (by omega))]
  | succ r ih =>
    intro k m m' c w hk hm hm'
    obtain ⟨m, rfl⟩ : ∃ n, m = n + 1 := ⟨m - 1, by omega⟩
    obtain ⟨m', rfl⟩ : ∃ n, m' = n + 1 := ⟨m' - 1, by omega⟩
    obtain ⟨s1, s2, s3, ⟨s, hs, es⟩, -, s6, s7⟩ := c8 k (by omega)
    have hb : inb (Int32.ofNat k) 10 = true := ib (by omega) (by omega)
    have C := e_counts (S := S) (k := k) (x2 := Int32.ofNat a) (x3 := x3) (x4 := v) cap rw_ hh (by omega) s1 s2 s3
    have nb : ¬ Int32.ofNat ch ≤ Int32.ofNat k := fun z => absurd ((zLE (by omega) (by omega)).mp z) (by omega)
    by_cases hc : Ct h (gi S 61 0 (3149 + 3 * k)) (gi S 61 0 (3149 + 3 * k + 1)) (gi S 61 0 (3149 + 3 * k + 2)) (Int32.ofNat a) x3 v
    · obtain ⟨q1, q2, q3, q4⟩ := id hc
      obtain ⟨d1, h1, -, f1⟩ := kp_nat hh q3
      obtain ⟨d2, h2, -, f2⟩ := kp_nat hh q4
      have sa : s = a := by
        rw [es] at q1
        exact (zE (by omega) (by omega)).mp q1
      subst sa
      obtain ⟨p1, hp1, ep1⟩ := bd_pr q hs h1
      obtain ⟨p2, hp2, ep2⟩ := bd_pr q hs h2
      obtain ⟨dc, hdc, edc⟩ := zab (x := gi S 61 0 (3149 + 3 * k + 2)) (n := 99) (by omega) s6 s7
      have W := e_went (S := S) (k := k) (x3 := x3) cap len q hN hh (by omega) hs h1 h2 (s1.trans es) s2 s3 f1 f2
      obtain ⟨dw, hdw, edw⟩ : ∃ dw : Nat, dw ≤ 99 ∧ mxI 0 (if gi S 61 0 (3149 + 3 * k + 2) ≤ 0 then bd (gi S 61 0) d1 s - bd (gi S 61 0) d2 s else bd (gi S 61 0) d2 s - bd (gi S 61 0) d1 s) = Int32.ofNat dw := by
        by_cases e : gi S 61 0 (3149 + 3 * k + 2) ≤ 0
        · rw [if_pos e, ep1, ep2]; exact ⟨p1 - p2, by omega, zmxs (by omega) (by omega)⟩
        · rw [if_neg e, ep1, ep2]; exact ⟨p2 - p1, by omega, zmxs (by omega) (by omega)⟩
      have edw' : mxI 0 (if v = 0 then -(bd (gi S 61 0) d2 s - bd (gi S 61 0) d1 s) else bd (gi S 61 0) d2 s - bd (gi S 61 0) d1 s) = Int32.ofNat dw := by
        rw [← edw]
        by_cases e : gi S 61 0 (3149 + 3 * k + 2) ≤ 0
        · rw [if_pos e] at q2 ⊢
          rw [if_pos q2.symm, Int32.neg_sub]
        · rw [if_neg e] at q2 ⊢
          rw [if_neg (fun z => by rw [← q2] at z; exact absurd z (by decide))]
      obtain ⟨c', w', b1, b2, g1, g2⟩ := ih (k + 1) m m' (c + dc) (w + dw) (by omega) (by omega) (by omega)
      refine ⟨c', w', by omega, by omega, fun K => ?_, fun K Z eZ => ?_⟩
      · rw [f_X11_passed_22, k6, brn nb, C.1 hc]
        rw [onS, bvE, brn (show ¬ (1 : Int32) = 0 by decide), ck_t hb, zN (show k < 2147483648 by omega), s3, edc, W, edw]
        simp only [bvE, onS]
        rw [zp1, zT (by omega), zT (by omega), ← Int64.ofNat_add, ← Int64.ofNat_add]
        exact g1 K
      · rw [r_step (T := gi S 61 0) eZ n6 b6 (by omega) rfl rfl rfl K m', brp q1, brp q2, (e_isBoard (S := Z) (by rw [eZ]; exact n2) hh).1 q3]
        show br ((1 : Int32) = 0) _ _ = _
        rw [brn (by decide), (e_isBoard (S := Z) (by rw [eZ]; exact n2) hh).1 q4]
        show br ((1 : Int32) = 0) _ _ = _
        rw [brn (by decide), f2, f1, e_boardOf (by omega) (by omega), e_boardOf (by omega) (by omega), eZ]
        show f_X12_passed_53 0 _ x3 v K m' (_ + (mxI 0 (if v = 0 then -(bd (gi S 61 0) d2 s - bd (gi S 61 0) d1 s) else bd (gi S 61 0) d2 s - bd (gi S 61 0) d1 s)).toInt64) (_ + _) _ _ = _
        rw [edw', edc, zT (by omega), zT (by omega), ← Int64.ofNat_add, ← Int64.ofNat_add]
        exact g2 K Z eZ
    · obtain ⟨c', w', b1, b2, g1, g2⟩ := ih (k + 1) m m' c w (by omega) (by omega) (by omega)
      refine ⟨c', w', by omega, by omega, fun K => ?_, fun K Z eZ => ?_⟩
      · rw [f_X11_passed_22, k6, brn nb, C.2 hc]
        rw [onS, bvE, brp rfl]
        simp only [bvE]
        rw [zp1]
        exact g1 K
      · rw [r_step (T := gi S 61 0) eZ n6 b6 (by omega) rfl rfl rfl K m']
        have B := fun {x} => e_isBoard (S := Z) (h := h) (by rw [eZ]; exact n2) hh (x := x)
        rw [g2 K Z eZ]
        by_cases q1 : gi S 61 0 (3149 + 3 * k) = Int32.ofNat a
        · by_cases q2 : (if gi S 61 0 (3149 + 3 * k + 2) ≤ 0 then (0 : Int32) else 1) = v
          · rw [brp q1, brp q2]
            by_cases q3 : kp h (gi S 61 0 (3149 + 3 * k + 1) - 1)
            · rw [B.1 q3, B.2 (fun q4 => hc ⟨q1, q2, q3, q4⟩)]
              show br ((1 : Int32) = 0) _ _ = _
              rw [brn (by decide)]
              exact brp rfl
            · rw [B.2 q3]; exact brp rfl
          · rw [brp q1, brn q2]
        · rw [brn q1]
theorem Inv.fc' {t : Nat} {S : St} {u v w : Int64} {c : Int32} (h : Inv t S) : Inv (t + 1) (sl (sl (si (sl (sl (sl S 0 0 6 u) 0 0 7 v) 81 0 0 w) 60 0 5 c) 60 0 26 u) 60 0 27 v) := by
  refine Inv.t (Nat.le_succ t) ?_
  have hf : Fr (fun k x => (k = 0 ∨ k = 60 ∨ k = 81) ∧ x = 0) S (sl (sl (si (sl (sl (sl S 0 0 6 u) 0 0 7 v) 81 0 0 w) 60 0 5 c) 60 0 26 u) 60 0 27 v) := (Fr.sl ⟨by omega, rfl⟩).tr ((Fr.sl ⟨by omega, rfl⟩).tr ((Fr.sl ⟨by omega, rfl⟩).tr ((Fr.si ⟨by omega, rfl⟩).tr ((Fr.sl ⟨by omega, rfl⟩).tr (Fr.sl ⟨by omega, rfl⟩)))))
  obtain ⟨q1, q2, q3, q4, q5⟩ := h
  refine ⟨Cr.fr hf (fun k x hw ho => by unfold own at ho; omega) q1, Cim.fr hf (Nat.le_refl _) (fun g k x _ _ hw ho => by unfold own at ho; omega) (by omega) (by omega) (by omega) (by omega) q2, q3, ⟨rfl, rfl⟩, q5⟩
-- CASE passed
theorem pc_16 {t : Nat} {S : St} {a1 a2 a3 a4 a5 : Int32} (h : Inv t S) : Ok (fc_16 (t + 1) a1 a2 a3 a4 a5 S) (Inv (t + 1)) := by
  unfold fc_16 f_L_passed
  obtain ⟨⟨N, D, hh, lv, ri, to, ch, c1, c2, c3, c4, c5, c6, c7, c8, -⟩, -⟩ := id h
  have n0 := c1.1.1
  have b0 := c1.1.2
  have n2 := c1.2.2.1.1
  have b2 := c1.2.2.1.2
  have n6 := c1.2.2.2.2.2.2.1
  have b6 := c1.2.2.2.2.2.2.2
  have cap := c2.2.2.2.2.2.2.2.1
  have len := c2.2.2.2.2.2.2.2.2.2.1
  have rw_ := c2.2.2.1
  have k6 := c2.2.2.2.2.2.2.1
  have go : ∀ v : Int32, Ok (f_X11_passed 0 a1 a2 v S) (Tw S (fun k S => br (k = 3) (some (1, S)) (br (k = 2) (some (2, S)) (none))) (fun cd => cd ≠ 0 ∧ Ok (f_X12_passed 0 a1 a2 v S) (fun o => gi o.2 60 0 5 = cd ∧ Inv (t + 1) o.2)) (fun r S1 => ∀ v9 : Int64, v9 = (if r = 0 then (0 : Int64) else 1) → Ok (f_X12_passed 0 a1 a2 v (sl S1 81 0 (nn 0) v9)) (fun o => gi o.2 60 0 5 = 0 ∧ (o.1 = 0 ↔ r = 0) ∧ gl o.2 81 0 (nn 0) = v9 ∧ Inv (t + 1) o.2))) := by
    intro v
    unfold f_X11_passed
    by_cases hs : a1 < 0 ∨ ¬ a1 < Int32.ofNat N
    · exact Ok.xl (n_st c2.1 hs) (Tw.l (cd := 1) rfl ⟨by decide, Ok.oe (m_stn n0 b0 hs) (Ok.v (Ok.bt rfl (Ok.v (Ok.bf (show ¬ (1 : Int32) ≤ 0 by decide) (Ok.sm ⟨rfl, pf_bad h⟩)))))⟩)
    obtain ⟨a, ha, rfl⟩ := or_st b0 hs
    refine Ok.xr (y_st c2.1 b0 ha) ?_
    by_cases hw : 1 ≤ a2 ∧ a2 ≤ 24
    · refine Ok.xr (y_wi hw) ?_
      obtain ⟨c', w', b1, b3, g1, g2⟩ := pas_loop (S := S) (a := a) (v := v) (x3 := a2) ha n2 n6 b6 k6 cap rw_ len c6 b0 b2 c8 ch 0 FU FU 0 0 (by omega) (by unfold FU; omega) (by unfold FU; omega)
      rw [show (0 : Int64) = Int64.ofNat 0 from rfl, show (0 : Int32) = Int32.ofNat 0 from rfl, g1]
      by_cases hc : c' = 0
      · subst hc
        refine Ok.bt ((lg_cmp_eq _ _).mpr rfl) (Ok.sm (Tw.r (fun v9 e9 => ?_)))
        refine Ok.oe (m_sty (S := sl S 81 0 (nn 0) v9) n0 b0 ha) (Ok.v (Ok.bf (by decide) (Ok.oe (m_wy (lo := 1) (hi := 24) (by decide) (by decide) hw) (Ok.bf (by decide) (Ok.v (Ok.bt (show (0 : Int32) ≤ 0 by decide) ?_))))))
        have e := g2 (fun (x4_45 : Int64) (x6_46 : Int64) (S_47 : St) => br ((lg_cmp x6_46 0) = 0) (some (0, S_47)) (on (f_X12_fraction 0 x4_45 x6_46 S_47) (fun S_50 => some (1, S_50)))) (si (sl S 81 0 (nn 0) v9) 60 0 5 0) rfl
        refine Ok.eq (e.trans (brp ((lg_cmp_eq _ _).mpr rfl))) ⟨rfl, Iff.rfl, rfl, pf_bad h.out⟩
      · have nz : ¬ Int64.ofNat c' = 0 := fun z => hc ((lZ (by omega)).mp z)
        obtain ⟨u, w, f1, f2⟩ := fr_two (show w' < 9223372036854775808 by omega) (show c' < 9223372036854775808 by omega)
        refine Ok.bf (fun z => nz ((lg_cmp_eq _ _).mp z)) (Ok.oe (f1 S) (Ok.sm (Tw.r (fun v9 e9 => ?_))))
        refine Ok.oe (m_sty (S := sl (sl (sl S 0 0 6 u) 0 0 7 w) 81 0 (nn 0) v9) n0 b0 ha) (Ok.v (Ok.bf (by decide) (Ok.oe (m_wy (lo := 1) (hi := 24) (by decide) (by decide) hw) (Ok.bf (by decide) (Ok.v (Ok.bt (show (0 : Int32) ≤ 0 by decide) ?_))))))
        have e := g2 (fun (x4_45 : Int64) (x6_46 : Int64) (S_47 : St) => br ((lg_cmp x6_46 0) = 0) (some (0, S_47)) (on (f_X12_fraction 0 x4_45 x6_46 S_47) (fun S_50 => some (1, S_50)))) (si (sl (sl (sl S 0 0 6 u) 0 0 7 w) 81 0 (nn 0) v9) 60 0 5 0) rfl
        refine Ok.eq (x := (1, sl (sl (si (sl (sl (sl S 0 0 6 u) 0 0 7 w) 81 0 (nn 0) v9) 60 0 5 0) 60 0 26 u) 60 0 27 w)) (e.trans ?_) ⟨rfl, ⟨fun z => absurd z (show ¬ (1 : Int32) = 0 by decide), fun z => absurd z (show ¬ (1 : Int32) = 0 by decide)⟩, rfl, h.fc'⟩
        rw [brn (fun z => nz ((lg_cmp_eq _ _).mp z)), f2]; rfl
    · exact Ok.xl (n_wi hw) (Tw.l (cd := 2) rfl ⟨by decide, Ok.oe (m_sty n0 b0 ha) (Ok.v (Ok.bf (by decide) (Ok.oe (m_wn (lo := 1) (hi := 24) (by decide) (by decide) hw) (Ok.bt rfl (Ok.v (Ok.bf (show ¬ (2 : Int32) ≤ 0 by decide) (Ok.sm ⟨rfl, pf_bad h⟩)))))))⟩)
  by_cases h5 : a3 = 0
  · exact Ok.v (Ok.bt h5 (Ok.k2 (fun r S5 => brp h5) (tw_b (S := S) (go 0))))
  · exact Ok.v (Ok.bf h5 (Ok.k2 (fun r S5 => brn h5) (tw_b (S := S) (go 1))))
