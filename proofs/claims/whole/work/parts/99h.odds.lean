-- ODDS: products of weights
def pdL (w : Nat → Int32) : List Int32 → Int64 → Int64
  | [], p => p
  | l :: ls, p => pdL w ls (p * (w (nn l)).toInt64)
theorem pdL_nat {w : Nat → Int32} : ∀ (L : List Int32) (p : Nat), (∀ l ∈ L, Lt 10 (w (nn l))) → ∃ q, q ≤ p * 9 ^ L.length ∧ pdL w L (Int64.ofNat p) = Int64.ofNat q := by
  intro L
  induction L with
  | nil => intro p _; exact ⟨p, by simp, rfl⟩
  | cons l ls ih =>
    intro p h
    obtain ⟨d, hd, ed⟩ := h l (List.mem_cons_self)
    have e : (w (nn l)).toInt64 = Int64.ofNat d := by
      rw [ed, ← Int64.toInt_inj, Int32.toInt_toInt64, zI (by omega), lI (by omega)]
    obtain ⟨q, hq, eq⟩ := ih (p * d) (fun y hy => h y (List.mem_cons_of_mem _ hy))
    refine ⟨q, ?_, ?_⟩
    · refine Nat.le_trans hq ?_
      rw [List.length_cons, Nat.pow_succ, Nat.mul_comm (9 ^ ls.length) 9, ← Nat.mul_assoc]
      exact Nat.mul_le_mul_right _ (Nat.mul_le_mul_left _ (by omega))
    · rw [pdL, e, ← Int64.ofNat_mul]; exact eq
section OD
variable {S Z : St} {ri : Nat} {T : Nat → Int32}
theorem e_prod {x : Nat} (hx : x < 2) {L : List Int32} (hL : L.length ≤ 18) (e2 : gi S 22 0 2 = Int32.ofNat L.length) (e25 : ∀ k, k < L.length → gi S 25 0 k = L.getD k 0) (h21 : ∀ l ∈ L, Lt 21 l) : f_X8_product 0 (Int32.ofNat x) S = some (pdL (gi S 24 (2 * 0 + x)) L 1) := by
  have lp : ∀ (n k : Nat) (p : Int64), k ≤ L.length → L.length < n + k → f_X8_product_5 0 (Int32.ofNat x) S (fun y => some y) n p (Int32.ofNat k) = some (pdL (gi S 24 (2 * 0 + x)) (L.drop k) p) := by
    intro n
    induction n with
    | zero => intro k p _ h; omega
    | succ n ih =>
      intro k p hk hn
      rw [f_X8_product_5, e2]
      by_cases hc : L.length ≤ k
      · rw [brp ((zLE (by omega) (by omega)).mpr hc), List.drop_eq_nil_of_le hc]; rfl
      · have hk' : k < L.length := by omega
        have eg : L.getD k 0 = L[k] := by rw [List.getD_eq_getElem?_getD, List.getElem?_eq_getElem hk']; rfl
        obtain ⟨d, hd, ed⟩ := h21 L[k] (List.getElem_mem hk')
        rw [brn (fun w => hc ((zLE (by omega) (by omega)).mp w)), ck_t (ib hx (by omega)), ck_t (ib (by omega) (by omega)), zN (show k < 2147483648 by omega), zN (show x < 2147483648 by omega), e25 k hk', eg, ed, ck_t (ib hd (by omega)), bvE, bvE, zp1, ih (k + 1) _ (by omega) (by omega), List.drop_eq_getElem_cons hk', pdL, ed]
  exact lp FU 0 1 (by omega) (by unfold FU; omega)
theorem e_odds (eT : gi Z 61 0 = T) (n4 : T 4 = Int32.ofNat ri) (hr : ri ≤ 6) (h21 : ∀ l ∈ lagsOf T ri, Lt 21 l) (K : Int64 → Int64 → St → Option St) : f_X12_odds_13 0 K FU 1 1 60 Z = K (pdL (fun i => T (78 + i)) (lagsOf T ri) 1) (pdL (fun i => T (99 + i)) (lagsOf T ri) 1) Z := by
  have lp : ∀ (n c i : Nat) (p q : Int64), i + c = 3 * ri → c < n → (∀ l ∈ ((List.range' i c).map (fun i => T (60 + i))).filter (fun x => decide (x ≠ -1)), Lt 21 l) → f_X12_odds_13 0 K n p q (Int32.ofNat (60 + i)) Z = K (pdL (fun i => T (78 + i)) (((List.range' i c).map (fun i => T (60 + i))).filter (fun x => decide (x ≠ -1))) p) (pdL (fun i => T (99 + i)) (((List.range' i c).map (fun i => T (60 + i))).filter (fun x => decide (x ≠ -1))) q) Z := by
    intro n
    induction n with
    | zero => intro c i p q _ h; omega
    | succ n ih =>
      intro c i p q hi hc hl
      rw [f_X12_odds_13, ck_t (by decide), eT, show T (nn 4) = Int32.ofNat ri from n4, zMu, zA]
      cases c with
      | zero => rw [brp ((zLE (by omega) (by omega)).mpr (by omega))]; rfl
      | succ c =>
        rw [brn (fun w => absurd ((zLE (by omega) (by omega)).mp w) (by omega)), ck_t (ib (by omega) (by omega)), zN (by omega)]
        simp only [bvE]
        rw [List.range'_succ, List.map_cons] at hl ⊢
        by_cases e : T (60 + i) = -1
        · rw [List.filter_cons_of_neg (by simpa using e)] at hl ⊢
          rw [brp e, zp1]; exact ih c (i + 1) p q (by omega) (by omega) hl
        · rw [List.filter_cons_of_pos (by simpa using e)] at hl ⊢
          obtain ⟨d, hd, ed⟩ := hl (T (60 + i)) (List.mem_cons_self)
          have ed' : T (60 + i) = Int32.ofNat d := ed
          rw [brn e, ck_t (ib (by omega) (by omega)), ed', ck_t (ibA (by omega) (by omega)), ck_t (ib (by omega) (by omega)), ck_t (ibA (by omega) (by omega)), zp1, nA (by omega), nA (by omega), pdL, pdL, zN (by omega)]
          exact ih c (i + 1) _ _ (by omega) (by omega) (fun l h9 => hl l (List.mem_cons_of_mem _ h9))
  have := lp FU (3 * ri) 0 1 1 (by omega) (by unfold FU; omega) (by rw [← List.range_eq_range']; exact h21)
  rw [← List.range_eq_range'] at this
  exact this
end OD
theorem pdL_cg {w w' : Nat → Int32} : ∀ (L : List Int32) (p : Int64), (∀ l ∈ L, w (nn l) = w' (nn l)) → pdL w L p = pdL w' L p := by
  intro L
  induction L with
  | nil => intro p _; rfl
  | cons l ls ih => intro p h; rw [pdL, pdL, h l (List.mem_cons_self), ih _ (fun y hy => h y (List.mem_cons_of_mem _ hy))]
theorem Inv.fc {t : Nat} {S : St} {u v : Int64} {c : Int32} (h : Inv t S) : Inv (t + 1) (sl (sl (si (sl (sl S 0 0 6 u) 0 0 7 v) 60 0 5 c) 60 0 26 u) 60 0 27 v) := by
  refine Inv.t (Nat.le_succ t) ?_
  have hf : Fr (fun k x => (k = 0 ∨ k = 60) ∧ x = 0) S (sl (sl (si (sl (sl S 0 0 6 u) 0 0 7 v) 60 0 5 c) 60 0 26 u) 60 0 27 v) := (Fr.sl ⟨by omega, rfl⟩).tr ((Fr.sl ⟨by omega, rfl⟩).tr ((Fr.si ⟨by omega, rfl⟩).tr ((Fr.sl ⟨by omega, rfl⟩).tr (Fr.sl ⟨by omega, rfl⟩))))
  obtain ⟨q1, q2, q3, q4, q5⟩ := h
  refine ⟨Cr.fr hf (fun k x hw ho => by unfold own at ho; omega) q1, Cim.fr hf (Nat.le_refl _) (fun g k x _ _ hw ho => by unfold own at ho; omega) (by omega) (by omega) (by omega) (by omega) q2, q3, ⟨rfl, rfl⟩, q5⟩
-- CASE odds
theorem pc_31 {t : Nat} {S : St} {a1 a2 a3 a4 a5 : Int32} (h : Inv t S) : Ok (fc_31 (t + 1) a1 a2 a3 a4 a5 S) (Inv (t + 1)) := by
  unfold fc_31 f_X11_odds f_X12_odds
  obtain ⟨⟨N, D, hh, lv, ri, to, ch, c1, c2, c3, c4, c5, c6, c7, c8, c9, c10, c11, -⟩, -⟩ := id h
  have b4 := c1.2.2.2.2.1.2
  have ln := lags_len (T := gi S 61 0) (ri := ri)
  have w0 : ∀ l ∈ lagsOf (gi S 61 0) ri, gi S 24 (2 * 0 + 0) (nn l) = gi S 61 0 (78 + nn l) ∧ gi S 24 (2 * 0 + 1) (nn l) = gi S 61 0 (99 + nn l) ∧ Lt 10 (gi S 24 (2 * 0 + 0) (nn l)) ∧ Lt 10 (gi S 24 (2 * 0 + 1) (nn l)) := by
    intro l hl
    obtain ⟨d, hd, ed⟩ := c10.2.2 l hl
    have en : nn l = d := by rw [ed]; exact zN (by omega)
    obtain ⟨q1, q2, q3, q4⟩ := c11 d hd
    rw [en]
    exact ⟨q1, q2, by rw [show gi S 24 (2 * 0 + 0) d = gi S 61 0 (78 + d) from q1]; exact q3, by rw [show gi S 24 (2 * 0 + 1) d = gi S 61 0 (99 + d) from q2]; exact q4⟩
  obtain ⟨p, hp, ep⟩ := pdL_nat (w := gi S 24 (2 * 0 + 0)) (lagsOf (gi S 61 0) ri) 1 (fun l hl => (w0 l hl).2.2.1)
  obtain ⟨q, hq, eq⟩ := pdL_nat (w := gi S 24 (2 * 0 + 1)) (lagsOf (gi S 61 0) ri) 1 (fun l hl => (w0 l hl).2.2.2)
  have bg : 1 * 9 ^ (lagsOf (gi S 61 0) ri).length < 9223372036854775808 := by
    rw [Nat.one_mul]
    exact Nat.lt_of_le_of_lt (Nat.pow_le_pow_right (by decide) (show _ ≤ 18 by omega)) (by decide)
  obtain ⟨u, v, f1, f2⟩ := fr_two (show p < 9223372036854775808 by omega) (show q < 9223372036854775808 by omega)
  have s0 : f_X8_product 0 0 S = some (Int64.ofNat p) := by
    rw [← ep]; exact e_prod (x := 0) (by omega) (by omega) c10.1 c10.2.1 c10.2.2
  have s1 : f_X8_product 0 1 S = some (Int64.ofNat q) := by
    rw [← eq]; exact e_prod (x := 1) (by omega) (by omega) c10.1 c10.2.1 c10.2.2
  have m0 : pdL (fun i => gi S 61 0 (78 + i)) (lagsOf (gi S 61 0) ri) 1 = Int64.ofNat p := by
    rw [← ep]; exact pdL_cg _ _ (fun l hl => (w0 l hl).1.symm)
  have m1 : pdL (fun i => gi S 61 0 (99 + i)) (lagsOf (gi S 61 0) ri) 1 = Int64.ofNat q := by
    rw [← eq]; exact pdL_cg _ _ (fun l hl => (w0 l hl).2.1.symm)
  have md := e_odds (Z := si (sl (sl S 0 0 6 u) 0 0 7 v) 60 0 5 0) (T := gi S 61 0) rfl c1.2.2.2.2.1.1 b4 c10.2.2 (fun (x1_17 : Int64) (x3_18 : Int64) (S_19 : St) => on (f_X12_fraction 0 x1_17 x3_18 S_19) (fun S_21 => some S_21))
  refine Ok.o (Q := fun S2 => S2 = sl (sl S 0 0 6 u) 0 0 7 v) (Ok.oe s0 (Ok.oe s1 (Ok.oe (f1 S) (Ok.sm rfl)))) (fun S2 e2 => ?_)
  subst e2
  refine Ok.oe (x := sl (sl (si (sl (sl S 0 0 6 u) 0 0 7 v) 60 0 5 0) 60 0 26 u) 60 0 27 v) ?_ (Ok.sm h.fc)
  rw [bvE, md, m0, m1, f2]; rfl
