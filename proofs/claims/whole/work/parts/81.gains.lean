-- PRICES NOW, WHO KNOWS, WHAT IS GAINED
theorem pn_cg {S S' : St} {g : Nat} {x : Int32} (e1 : gi S' 14 (2 * g) = gi S 14 (2 * g)) (e2 : gi S' 15 (2 * g) = gi S 15 (2 * g)) (e3 : gi S' 16 (2 * g) = gi S 16 (2 * g)) (e4 : gn S' 15 (2 * g) = gn S 15 (2 * g)) : f_X2_priceNow g x S' = f_X2_priceNow g x S := by
  unfold f_X2_priceNow f_X0_at
  rw [e1, e2, e3, e4]
section GA
variable {S : St} {N D h : Nat} {T : Nat → Int32} {P : St → Prop}
/-- what the class's row g1 is for -/
def Wr (g1 k x : Nat) : Prop := k = 26 ∧ x = g1
theorem tk_loop {g1 : Nat} {K : St → Option St} (k0 : gi S 2 0 0 = Int32.ofNat N) (cap : gi S 14 (2 * 0) 0 = 256) (len : gn S 15 (2 * 0) = 1024) (rw_ : gi S 14 (2 * 0) 3 = Int32.ofNat h) (q : Chr N h (gi S 15 (2 * 0)) (gi S 16 (2 * 0)) T) (hN : N ≤ 4) (hh : h ≤ 3000) (hK : ∀ S', Fr (Wr g1) S S' → (∀ i, i < N → gi S' 26 g1 i = T (12 + i)) → Ok (K S') P) :
    ∀ (n s : Nat) (S' : St), Fr (Wr g1) S S' → (∀ i, i < s → gi S' 26 g1 i = T (12 + i)) → s ≤ N → N - s < n → Ok (f_X2_takePricesNow_2 0 g1 K n (Int32.ofNat s) S') P := by
  intro n
  induction n with
  | zero => intro s S' _ _ _ h; omega
  | succ n ih =>
    intro s S' hf hi hs hn
    have r : ∀ k x, k ≠ 26 → gi S' k x = gi S k x ∧ gl S' k x = gl S k x ∧ gr S' k x = gr S k x ∧ gn S' k x = gn S k x := fun k x hk => hf k x (fun z => hk z.1)
    rw [f_X2_takePricesNow_2, (r 2 0 (by decide)).1, k0]
    by_cases hc : N ≤ s
    · rw [brp ((zLE (by omega) (by omega)).mpr hc)]
      exact hK S' hf (fun i h => hi i (by omega))
    · rw [brn (fun w => hc ((zLE (by omega) (by omega)).mp w)), pn_cg (r 14 _ (by decide)).1 (r 15 _ (by decide)).1 (r 16 _ (by decide)).1 (r 15 _ (by decide)).2.2.2]
      refine Ok.oe (pn_h (g := 0) cap len rw_ q hN hh (by omega)) (Ok.c (ib (by omega) (by omega)) (Ok.v (Ok.v ?_)))
      rw [zp1, zN (by omega)]
      refine ih (s + 1) _ (hf.tr (Fr.si ⟨rfl, rfl⟩)) (fun i h9 => ?_) (by omega) (by omega)
      rw [pgi_si, if_pos ⟨rfl, rfl⟩]
      by_cases e : i = s
      · subst e; exact upd_eq
      · rw [upd_ne e]; exact hi i (by omega)
theorem ps_loop {K : St → Option St} (n0 : gi S 61 0 0 = Int32.ofNat N) (hN : N ≤ 4) (hK : ∀ S', Fr (fun k x => k = 70 ∧ x = 0) S S' → (∀ i, i < N → gi S' 70 0 i = gi S 61 0 (12 + i)) → Ok (K S') P) :
    ∀ (n s : Nat) (S' : St), Fr (fun k x => k = 70 ∧ x = 0) S S' → (∀ i, i < s → i < N → gi S' 70 0 i = gi S 61 0 (12 + i)) → s ≤ 4 → 4 - s < n → Ok (f_X12_present_2 0 K n (Int32.ofNat s) S') P := by
  intro n
  induction n with
  | zero => intro s S' _ _ _ h; omega
  | succ n ih =>
    intro s S' hf hi hs hn
    have r : gi S' 61 0 = gi S 61 0 := (hf 61 0 (fun z => absurd z.1 (by decide))).1
    rw [f_X12_present_2]
    by_cases hc : 4 ≤ s
    · rw [brp (show (4 : Int32) ≤ Int32.ofNat s from (zLE (a := 4) (by omega) (by omega)).mpr hc)]
      exact hK S' hf (fun i h => hi i (by omega) h)
    · rw [brn (show ¬ (4 : Int32) ≤ Int32.ofNat s from fun w => hc ((zLE (a := 4) (by omega) (by omega)).mp w))]
      refine Ok.c (by decide) (Ok.v ?_)
      rw [show gi S' 61 0 (nn 0) = Int32.ofNat N by rw [r]; exact n0]
      have go : ∀ v : Int32, (s < N → v = gi S 61 0 (12 + s)) → Ok (ck (inb (Int32.ofNat s) 4 = true) (bv (si S' 70 0 (nn (Int32.ofNat s)) v) (fun S_7 => bv (Int32.ofNat s + 1) (fun x1_8 => f_X12_present_2 0 K n x1_8 S_7)))) P := by
        intro v hv
        refine Ok.c (ib (by omega) (by omega)) (Ok.v (Ok.v ?_))
        rw [zp1, zN (by omega)]
        refine ih (s + 1) _ (hf.tr (Fr.si ⟨rfl, rfl⟩)) (fun i h9 h8 => ?_) (by omega) (by omega)
        show upd (gi S' 70 0) s v i = _
        by_cases e : i = s
        · subst e; rw [upd_eq]; exact hv h8
        · rw [upd_ne e]; exact hi i (by omega) h8
      by_cases h1 : N ≤ s
      · exact Ok.bt ((zLE (by omega) (by omega)).mpr h1) (go 0 (fun z => by omega))
      · refine Ok.bf (fun w => h1 ((zLE (by omega) (by omega)).mp w)) (Ok.c (ibA (by omega) (by omega)) ?_)
        rw [nA (by omega), r]
        exact go _ (fun _ => rfl)
theorem e_known (k0 : gi S 2 0 0 = Int32.ofNat N) (hN : N ≤ 4) (c12 : Cla (gr S 2 0 8) (gi S 35) T) : ∃ x, f_X2_known 0 S = some x ∧ ((T 123 = 1 ∧ x = Int32.ofNat (2 ^ N - 1)) ∨ (¬ T 123 = 1 ∧ x = 0)) := by
  unfold f_X2_known bv
  dsimp only
  cases hr : gr S 2 0 8 with
  | none =>
    rw [hr] at c12
    refine ⟨0, rfl, Or.inr ⟨?_, rfl⟩⟩
    rw [c12.2.2.2.1]; decide
  | some r =>
    rw [hr] at c12
    obtain ⟨-, -, -, -, -, -, q, q1, -⟩ := c12
    show ∃ x, br (gi S 35 r 4 = 0) _ _ = some x ∧ _
    rw [q, k0, sh1 hN, zSub1 (pw4 hN).1]
    rcases q1 with q1 | q1
    · rw [q1, brp rfl]; exact ⟨0, rfl, Or.inr ⟨by decide, rfl⟩⟩
    · rw [q1, brn (by decide)]; exact ⟨_, rfl, Or.inl ⟨rfl, rfl⟩⟩
/-- how many fill at a, kinds k .. k + n - 1, on top of acc -/
def soG (T pr : Nat → Int32) (N a : Nat) : Nat → Nat → Int32 → Int32
  | 0, _, acc => acc
  | n + 1, k, acc => soG T pr N a n (k + 1) (if whF T pr N k = Int32.ofNat a then acc + T (28 + 4 * k) else acc)
def prG (T pr : Nat → Int32) (N a : Nat) : Nat → Nat → Int32 → Int32
  | 0, _, acc => acc
  | n + 1, k, acc => prG T pr N a n (k + 1) (if whF T pr N k = Int32.ofNat a then acc + T (28 + 4 * k) * (pr a - T (8 + a)) else acc)
theorem pr_so {T pr : Nat → Int32} {a : Nat} : ∀ (n k : Nat) (acc : Int32), prG T pr N a n k (acc * (pr a - T (8 + a))) = soG T pr N a n k acc * (pr a - T (8 + a)) := by
  intro n
  induction n with
  | zero => intro k acc; rfl
  | succ n ih =>
    intro k acc
    rw [prG, soG]
    by_cases e : whF T pr N k = Int32.ofNat a
    · rw [if_pos e, if_pos e, ← Int32.add_mul, ih]
    · rw [if_neg e, if_neg e, ih]
theorem e_soldAt {g2 a : Nat} {x3 : Int32} (hN : N ≤ 4) (hD : D ≤ 6) (k1 : gi S 9 0 0 = Int32.ofNat D) (c5 : Cdr N D (gi S 10 0) (gi S 11 0) (gi S 12 0) (gi S 13 0) T) (hx : (T 123 = 1 ∧ x3 = Int32.ofNat (2 ^ N - 1)) ∨ (¬ T 123 = 1 ∧ x3 = 0)) : f_X3_soldAt 0 (Int32.ofNat a) g2 x3 S = some (soG T (gi S 26 g2) N a D 0 0) := by
  have lp : ∀ (n k : Nat) (acc : Int32), k ≤ D → D - k < n → f_X3_soldAt_6 0 (Int32.ofNat a) g2 x3 S (fun x => some x) n acc (Int32.ofNat k) = some (soG T (gi S 26 g2) N a (D - k) k acc) := by
    intro n
    induction n with
    | zero => intro k acc _ h; omega
    | succ n ih =>
      intro k acc hk hn
      rw [f_X3_soldAt_6, k1]
      by_cases hc : D ≤ k
      · rw [brp ((zLE (by omega) (by omega)).mpr hc), show D - k = 0 by omega]; rfl
      · rw [brn (fun w => hc ((zLE (by omega) (by omega)).mp w)), e_placeOf hN hD (by omega) c5 hx]
        show br (whF T (gi S 26 g2) N k = Int32.ofNat a) (ck (inb (Int32.ofNat k) 6 = true) (f_X3_soldAt_6 0 _ g2 x3 S _ n (acc + gi S 10 0 (nn (Int32.ofNat k))) (Int32.ofNat k + 1))) (f_X3_soldAt_6 0 _ g2 x3 S _ n acc (Int32.ofNat k + 1)) = _
        rw [ck_t (ib (by omega) (by omega)), zN (by omega), zp1, ih (k + 1) _ (by omega) (by omega), ih (k + 1) _ (by omega) (by omega), (c5 k (by omega)).1, show D - k = (D - (k + 1)) + 1 by omega, soG]
        by_cases e : whF T (gi S 26 g2) N k = Int32.ofNat a
        · rw [brp e, if_pos e]
        · rw [brn e, if_neg e]
  exact lp FU 0 0 (by omega) (by unfold FU; omega)
theorem e_profit {a : Nat} (hN : N ≤ 4) (hD : D ≤ 6) (ha : a < 4) (n0 : gi S 61 0 0 = Int32.ofNat N) (n1 : gi S 61 0 1 = Int32.ofNat D) {mn hb kn dt : Nat → Int32} (c5 : Cdr N D mn hb kn dt (gi S 61 0)) : f_X12_profit 0 (Int32.ofNat a) S = some (prG (gi S 61 0) (gi S 70 0) N a D 0 0) := by
  have lp : ∀ (n k : Nat) (acc : Int32), k ≤ D → D - k < n → f_X12_profit_4 0 (Int32.ofNat a) S (fun x => some x) n acc (Int32.ofNat k) = some (prG (gi S 61 0) (gi S 70 0) N a (D - k) k acc) := by
    intro n
    induction n with
    | zero => intro k acc _ h; omega
    | succ n ih =>
      intro k acc hk hn
      rw [f_X12_profit_4, ck_t (by decide), show gi S 61 0 (nn 1) = Int32.ofNat D from n1]
      by_cases hc : D ≤ k
      · rw [brp ((zLE (by omega) (by omega)).mpr hc), show D - k = 0 by omega]; rfl
      · rw [brn (fun w => hc ((zLE (by omega) (by omega)).mp w)), e_where hN hD (by omega) n0 c5]
        show br (whF (gi S 61 0) (gi S 70 0) N k = Int32.ofNat a) (ck (inb (28 + 4 * Int32.ofNat k) 3179 = true) (ck (inb (Int32.ofNat a) 4 = true) (ck (inb (8 + Int32.ofNat a) 3179 = true) (f_X12_profit_4 0 _ S _ n (acc + gi S 61 0 (nn (28 + 4 * Int32.ofNat k)) * (gi S 70 0 (nn (Int32.ofNat a)) - gi S 61 0 (nn (8 + Int32.ofNat a)))) (Int32.ofNat k + 1))))) (f_X12_profit_4 0 _ S _ n acc (Int32.ofNat k + 1)) = _
        rw [show (28 + 4 * Int32.ofNat k : Int32) = Int32.ofNat (28 + 4 * k) by rw [zMu, zA], ck_t (ib (by omega) (by omega)), ck_t (ib ha (by omega)), ck_t (ibA (by omega) (by omega)), nA (by omega), zN (by omega), zN (by omega), zp1, ih (k + 1) _ (by omega) (by omega), ih (k + 1) _ (by omega) (by omega), show D - k = (D - (k + 1)) + 1 by omega, prG]
        by_cases e : whF (gi S 61 0) (gi S 70 0) N k = Int32.ofNat a
        · rw [brp e, if_pos e]
        · rw [brn e, if_neg e]
  exact lp FU 0 0 (by omega) (by unfold FU; omega)
theorem soG_cg {pr pr' : Nat → Int32} {a : Nat} {mn hb kn dt : Nat → Int32} (hN : N ≤ 4) (c5 : Cdr N D mn hb kn dt T) (h : ∀ i, i < N → pr' i = pr i) : ∀ (n k : Nat) (acc : Int32), k + n ≤ D → soG T pr' N a n k acc = soG T pr N a n k acc := by
  intro n
  induction n with
  | zero => intro k acc _; rfl
  | succ n ih =>
    intro k acc hk
    rw [soG, soG, whF_cg (c5 k (by omega)).2.2.2.2.2.1 hN h, ih (k + 1) _ (by omega)]
end GA
-- CASE fills
theorem pc_13 {t : Nat} {S : St} {a1 a2 a3 a4 a5 : Int32} (h : Inv t S) : Ok (fc_13 (t + 1) a1 a2 a3 a4 a5 S) (Inv (t + 1)) := by
  unfold fc_13 f_L_fills f_X11_fills
  refine tw_i (S := S) ?_
  obtain ⟨⟨N, D, hh, lv, ri, to, ch, c1, c2, c3, c4, c5, c6, c7, c8, c9, c10, c11, c12, -⟩, -⟩ := id h
  have b0 := c1.1.2
  have n0 := c1.1.1
  have k0 := c2.1
  have n1 := c1.2.1.1
  have b1 := c1.2.1.2
  have k1 := c2.2.1
  have wi : ∀ (S1 : St) (x : Int32), gi S1 61 0 = gi S 61 0 → f_X12_within x.toInt64 0 (Int32.toInt64 (gi S1 61 0 (nn 1) - 1)) S1 = some (if ¬ x < 0 ∧ x < Int32.ofNat D then 1 else 0) := by
    intro S1 x e
    rw [e, show gi S 61 0 (nn 1) = Int32.ofNat D from n1, e_wi (a := 0) (lo := 0) (hi := Int32.ofNat D - 1) (by decide) rfl]
    congr 1
    have e9 : (0 ≤ x ∧ x ≤ Int32.ofNat D - 1) ↔ (¬ x < 0 ∧ x < Int32.ofNat D) := by
      rw [Int32.not_lt]
      refine and_congr Iff.rfl ?_
      rw [Int32.le_iff_toInt_le, Int32.lt_iff_toInt_lt, zI (show D < 2147483648 by omega)]
      have : (Int32.ofNat D - 1).toInt = (D : Int) - 1 := by
        rw [Int32.toInt_sub, zI (show D < 2147483648 by omega)]
        show ((D : Int) - 1).bmod (2 ^ 32) = _
        rw [Int.bmod_def]; omega
      rw [this]; omega
    by_cases hc : 0 ≤ x ∧ x ≤ Int32.ofNat D - 1
    · rw [if_pos hc, if_pos (e9.mp hc)]
    · rw [if_neg hc, if_neg (fun z => hc (e9.mpr z))]
  refine Ok.v ?_
  by_cases hs : a1 < 0 ∨ ¬ a1 < Int32.ofNat D
  · have bad : Ok (f_X12_fills 0 a1 S) (fun o => gi o.2 60 0 5 = 1 ∧ Inv (t + 1) o.2) := Ok.v (Ok.c (by decide) (Ok.oe (wi (si S 60 0 5 0) a1 rfl) (Ok.bt (if_neg (fun z => hs.elim z.1 (fun w => w z.2))) (Ok.o2e rfl (Ok.sm ⟨rfl, h.thr.thr.t (Nat.le_succ t)⟩)))))
    by_cases hz : a1 < 0
    · exact Ok.bt hz (Ok.sm (Tw.l (cd := 1) rfl ⟨by decide, bad⟩))
    · exact Ok.bf hz (Ok.bf (by rw [k1]; exact hs.resolve_left hz) (Ok.sm (Tw.l (cd := 1) rfl ⟨by decide, bad⟩)))
  obtain ⟨k, hk, rfl⟩ := zW (x := a1) (n := D) (by omega) (fun z => hs (Or.inl z)) (Classical.byContradiction fun z => hs (Or.inr z))
  refine Ok.bf (zNeg (by omega)) (Ok.bt (by rw [k1]; exact (zL (by omega) (by omega)).mpr hk) ?_)
  refine Ok.o (tk_loop (g1 := 0 + 1) (P := fun S' => Fr (Wr (0 + 1)) S S' ∧ ∀ i, i < N → gi S' 26 (0 + 1) i = gi S 61 0 (12 + i)) k0 c2.2.2.2.2.2.2.2.1 c2.2.2.2.2.2.2.2.2.2.1 c2.2.2.1 c6 b0 c1.2.2.1.2 (fun S' hf hi => Ok.sm ⟨hf, hi⟩) FU 0 S Fr.rf (fun i hi => absurd hi (by omega)) (by omega) (by unfold FU; omega)) (fun S1 hq => ?_)
  obtain ⟨hf, hp⟩ := hq
  have r : ∀ k x, k ≠ 26 → gi S1 k x = gi S k x ∧ gl S1 k x = gl S k x ∧ gr S1 k x = gr S k x ∧ gn S1 k x = gn S k x := fun k x hk => hf k x (fun z => hk z.1)
  obtain ⟨x, ex, hx⟩ := e_known (S := S1) (T := gi S 61 0) (by rw [(r 2 0 (by decide)).1]; exact k0) b0 (by rw [(r 2 0 (by decide)).2.2.1, show gi S1 35 = gi S 35 from funext fun y => (r 35 y (by decide)).1]; exact c12)
  refine Ok.oe ex (Ok.oe (e_placeOf (T := gi S 61 0) b0 b1 hk (by rw [(r 10 0 (by decide)).1, (r 11 0 (by decide)).1, (r 12 0 (by decide)).1, (r 13 0 (by decide)).1]; exact c5) hx) (Ok.sm (Tw.r ?_)))
  have I1 : Inv t S1 := h.scr (hf.mono (fun k x hw => Or.inl (Or.inl hw.1))) (by rw [(r 60 0 (by decide)).1]) (by rw [(r 60 0 (by decide)).1]) (by rw [(r 60 0 (by decide)).1]) (by rw [(r 60 0 (by decide)).2.1]) (by rw [(r 60 0 (by decide)).2.1])
  have e61 : gi S1 61 0 = gi S 61 0 := (r 61 0 (by decide)).1
  refine Ok.v (Ok.c (by decide) (Ok.oe (wi _ _ e61) (Ok.bf ?_ ?_)))
  · rw [if_pos ⟨zNeg (by omega), (zL (by omega) (by omega)).mpr hk⟩]; decide
  refine Ok.o (ps_loop (S := si (sl S1 81 0 (nn 0) _) 60 0 5 0) (P := fun S' => Fr (fun k x => k = 70 ∧ x = 0) (si (sl S1 81 0 (nn 0) _) 60 0 5 0) S' ∧ ∀ i, i < N → gi S' 70 0 i = gi S1 61 0 (12 + i)) (show gi S1 61 0 0 = Int32.ofNat N by rw [e61]; exact n0) b0 (fun S' hf hi => Ok.sm ⟨hf, hi⟩) FU 0 _ Fr.rf (fun i hi => absurd hi (by omega)) (by omega) (by unfold FU; omega)) (fun S3 hq => ?_)
  obtain ⟨hf3, hp3⟩ := hq
  have r3 : gi S3 61 0 = gi S 61 0 := ((hf3 61 0 (fun z => absurd z.1 (by decide))).1).trans e61
  refine Ok.oe (e_where b0 b1 hk (by rw [r3]; exact n0) (by rw [r3]; exact c5)) (Ok.sm ⟨?_, ?_, ?_, ?_⟩)
  · show gi S3 60 0 5 = 0
    rw [(hf3 60 0 (fun z => absurd z.1 (by decide))).1]; rfl
  · show whF (gi S3 61 0) (gi S3 70 0) N k = _
    rw [r3]
    exact whF_cg (c5 k hk).2.2.2.2.2.1 b0 (fun i hi => by rw [hp3 i hi, e61, hp i hi])
  · show gl S3 81 0 (nn 0) = _
    rw [(hf3 81 0 (fun z => absurd z.1 (by decide))).2.1]; rfl
  · refine Inv.t (Nat.le_succ t) (Inv.scr (I1.out.thr) (hf3.mono (fun k x hw => Or.inl ?_)) ?_ ?_ ?_ ?_ ?_)
    · rw [hw.1]; unfold Scr; omega
    all_goals first | rw [(hf3 60 0 (fun z => absurd z.1 (by decide))).1] | rw [(hf3 60 0 (fun z => absurd z.1 (by decide))).2.1]
