-- LEARNING: the rounds
theorem bvE {α σ : Type} (e : σ) (k : σ → Option α) : bv e k = k e := rfl
section LF
variable {lv : Nat} {GA GB : Nat → Nat → Int32} {A B S1 S2 : St} {p q : Nat}
theorem Rl.now (R : Rl lv A B S1 S2 p q) {b c : Nat} (hb : b < lv) (hc : c < lv) : Rl lv A B (si (si S1 44 0 3 (Int32.ofNat b)) 44 0 4 (Int32.ofNat c)) (si (si S2 60 0 34 (Int32.ofNat b)) 60 0 35 (Int32.ofNat c)) b c := by
  refine ⟨R.1.tr ((Fr.si (Or.inl rfl)).tr (Fr.si (Or.inl rfl))), R.2.1.tr ((Fr.si ⟨Or.inr rfl, rfl⟩).tr (Fr.si ⟨Or.inr rfl, rfl⟩)), ⟨fun j hj => ?_, R.2.2.1.2⟩, R.2.2.2.1, R.2.2.2.2.1, ⟨rfl, rfl, hb⟩, ⟨rfl, rfl, hc⟩, R.2.2.2.2.2.2.2⟩
  show upd (upd (gi S2 60 0) 34 _) 35 _ j = _
  rw [upd_ne (by omega), upd_ne (by omega)]; exact R.2.2.1.1 j hj
theorem rl_round (g : Gm lv GA GB A B) (h1 : 1 ≤ lv) {x : Int32} (hx : ¬ x = 0) {m : Nat} (ex : x = Int32.ofNat m) (hm : m ≤ 2000) : ∀ (n k : Nat) (S1 S2 : St) (p q : Nat), Rl lv A B S1 S2 p q → k ≤ m → m < n + k → ∃ S1' S2' p' q', Rl lv A B S1' S2' p' q' ∧ (∀ K, f_X6_letGo_16 0 0 x K n (Int32.ofNat k) S1 = K S1') ∧ ∀ K, f_X12_learns_51 0 x K n (Int32.ofNat k) S2 = K S2' := by
  have hl := g.1
  intro n
  induction n with
  | zero => intro k S1 S2 p q _ _ h; omega
  | succ n ih =>
    intro k S1 S2 p q R hk hn
    by_cases hc : m ≤ k
    · refine ⟨S1, S2, p, q, R, fun K => ?_, fun K => ?_⟩
      · rw [f_X6_letGo_16, brp (show x ≤ Int32.ofNat k by rw [ex]; exact (zLE (by omega) (by omega)).mpr hc)]
      · rw [f_X12_learns_51, brp (show x ≤ Int32.ofNat k by rw [ex]; exact (zLE (by omega) (by omega)).mpr hc)]
    · have nx : ¬ x ≤ Int32.ofNat k := by rw [ex]; exact fun w => hc ((zLE (by omega) (by omega)).mp w)
      obtain ⟨b, X1, Y1, hb, a1, a2, R1⟩ := rl_take (w := 0) (x := 50 - dvI (50 * Int32.ofNat k) x) g h1 R (by omega) R.2.2.2.2.2.2.1.2.2
      obtain ⟨c, X2, Y2, hcc, b1, b2, R2⟩ := rl_take (w := 1) (x := 50 - dvI (50 * Int32.ofNat k) x) g h1 R1 (by omega) R1.2.2.2.2.2.1.2.2
      have v1 := (R2.gm g).2.2.1 b c hb hcc
      have v2 := (R2.gm g).2.2.2.2 b c hb hcc
      obtain ⟨X3, Y3, d1, d2, R3⟩ := rl_mend (w := 0) (v := GA b c) g R2 (by omega) R2.2.2.2.2.2.2.1.2.2 hb hcc
      have v3 := (R3.gm g).2.2.1 b c hb hcc
      have v4 := (R3.gm g).2.2.2.2 b c hb hcc
      obtain ⟨X4, Y4, f1, f2, R4⟩ := rl_mend (w := 1) (v := GB b c) g R3 (by omega) R3.2.2.2.2.2.1.2.2 hcc hb
      obtain ⟨X5, Y5, p', q', R5, w1, w2⟩ := ih (k + 1) _ _ _ _ (R4.now hb hcc) (by omega) (by omega)
      have q9 := R2.2.2.2.2.2.2.1
      have p9 := R3.2.2.2.2.2.1
      refine ⟨X5, Y5, p', q', R5, fun K => ?_, fun K => ?_⟩
      · rw [f_X6_letGo_16, brn nx, ck_t hx, R.2.2.2.2.2.2.1.1]
        unfold bv
        dsimp only
        rw [a1]
        show on2 (f_X6_take 0 1 (gi X1 44 0 3) _ X1) _ = _
        rw [R1.2.2.2.2.2.1.1, b1]
        show ck _ _ = _
        rw [q9.1, ck_t (ib (by omega) (by omega)), ck_t (ib (by omega) (by omega)), ck_t (ib (by omega) (by omega)), ck_t (ib (by omega) (by omega)), zN (by omega), zN (by omega), zN (by omega), v1.1, d1]
        show ck _ _ = _
        rw [p9.1, ck_t (ib (by omega) (by omega)), ck_t (ib (by omega) (by omega)), ck_t (ib (by omega) (by omega)), ck_t (ib (by omega) (by omega)), zN (by omega), v3.2, f1]
        show f_X6_letGo_16 0 0 x K n (Int32.ofNat k + 1) _ = _
        rw [zp1]; exact w1 K
      · rw [f_X12_learns_51, brn nx, ck_t hx, R.2.2.2.2.2.2.1.2.1]
        unfold bv
        dsimp only
        rw [show (0 : Int32) = Int32.ofNat 0 from rfl, a2]
        show on2 (f_X12_takes 0 (Int32.ofNat 1) (gi Y1 60 0 34) _ Y1) _ = _
        rw [R1.2.2.2.2.2.1.2.1, b2]
        show on (f_X12_gainOf 0 (Int32.ofNat b) (Int32.ofNat c) 0 Y2) _ = _
        rw [v2.1]
        show on (f_X12_teaches 0 (Int32.ofNat 0) (gi Y2 60 0 35) (Int32.ofNat b) (GA b c) (Int32.ofNat c) Y2) _ = _
        rw [q9.2.1, d2]
        show on (f_X12_gainOf 0 (Int32.ofNat b) (Int32.ofNat c) 1 Y3) _ = _
        rw [v4.2]
        show on (f_X12_teaches 0 (Int32.ofNat 1) (gi Y3 60 0 34) (Int32.ofNat c) (GB b c) (Int32.ofNat b) Y3) _ = _
        rw [p9.2.1, f2]
        show f_X12_learns_51 0 x K n (Int32.ofNat k + 1) _ = _
        rw [zp1]; exact w2 K
theorem si_comm {S : St} {k g i j : Nat} {v w : Int32} (h : i ≠ j) : si (si S k g i v) k g j w = si (si S k g j w) k g i v := by
  unfold si
  rw [pgi_ai, if_pos ⟨rfl, rfl⟩, pgi_ai, if_pos ⟨rfl, rfl⟩, ai_ai, ai_ai]
  congr 1
  funext x
  by_cases e1 : x = i
  · rw [e1, upd_ne h, upd_eq, upd_eq]
  · rw [upd_ne e1]
    by_cases e2 : x = j
    · rw [e2, upd_eq, upd_eq]
    · rw [upd_ne e2, upd_ne e2, upd_ne e1]
theorem rl_ten (g : Gm lv GA GB A B) : ∀ (n k : Nat) (S1 S2 : St) (p q : Nat), Rl lv A B S1 S2 p q → k ≤ 10 → 10 < n + k → ∃ S1' S2' p' q', Rl lv A B S1' S2' p' q' ∧ (∀ K, f_X6_letGo_151 0 K n (Int32.ofNat k) S1 = K S1') ∧ ∀ K, f_X12_learns_157 0 K n (Int32.ofNat k) S2 = K S2' := by
  have hl := g.1
  intro n
  induction n with
  | zero => intro k S1 S2 p q _ _ h; omega
  | succ n ih =>
    intro k S1 S2 p q R hk hn
    by_cases hc : 10 ≤ k
    · have : (10 : Int32) ≤ Int32.ofNat k := (zLE (a := 10) (by omega) (by omega)).mpr hc
      exact ⟨S1, S2, p, q, R, fun K => by rw [f_X6_letGo_151, brp this], fun K => by rw [f_X12_learns_157, brp this]⟩
    · have nx : ¬ (10 : Int32) ≤ Int32.ofNat k := fun w => hc ((zLE (a := 10) (by omega) (by omega)).mp w)
      have q9 := R.2.2.2.2.2.2.1
      have p9 := R.2.2.2.2.2.1
      obtain ⟨b, hb, b1, b2⟩ := rl_best (w := 0) g R (by omega) q9.2.2
      obtain ⟨c, hcc, c1, c2⟩ := rl_best (w := 1) g R (by omega) p9.2.2
      obtain ⟨X5, Y5, p', q', R5, w1, w2⟩ := ih (k + 1) _ _ _ _ (R.now hb hcc) (by omega) (by omega)
      refine ⟨X5, Y5, p', q', R5, fun K => ?_, fun K => ?_⟩
      · rw [f_X6_letGo_151, brn nx, q9.1, p9.1, ck_t (ib (by omega) (by omega)), zN (by omega), b1]
        show ck _ _ = _
        rw [ck_t (ib (by omega) (by omega)), zN (by omega), c1]
        show f_X6_letGo_151 0 K n (Int32.ofNat k + 1) (si (si S1 44 0 4 (Int32.ofNat c)) 44 0 3 (Int32.ofNat b)) = _
        rw [zp1, si_comm (by decide)]; exact w1 K
      · rw [f_X12_learns_157, brn nx, q9.2.1, p9.2.1, show (0 : Int32) = Int32.ofNat 0 from rfl, b2]
        show on (f_X12_greatest 0 (Int32.ofNat 1) (Int32.ofNat p) S2) _ = _
        rw [c2]
        show f_X12_learns_157 0 K n (Int32.ofNat k + 1) _ = _
        rw [zp1]; exact w2 K
theorem cl_in {m i : Nat} (hl : lv ≤ 8) (hi : i < lv) (em : m = lv) {P : St → Prop} : ∀ (n j : Nat) (S : St), j ≤ lv → lv < n + j → Fr (fun k _ => k = 44 ∨ k = 46) A S → (gi S 44 0 = gi A 44 0) → (∀ w s d, w < 2 → (s < i ∨ s = i ∧ d < j) → d < lv → gi S 46 (8 * w + s) d = 0) → ∃ S', Fr (fun k _ => k = 44 ∨ k = 46) A S' ∧ gi S' 44 0 = gi A 44 0 ∧ (∀ w s d, w < 2 → s < i + 1 → d < lv → gi S' 46 (8 * w + s) d = 0) ∧ ∀ K, f_X6_clear_33 0 (Int32.ofNat lv) (Int32.ofNat i) K n (Int32.ofNat j) S = K S' := by
  intro n
  induction n with
  | zero => intro j S _ h; omega
  | succ n ih =>
    intro j S hj hn hf h4 hz
    by_cases hc : lv ≤ j
    · exact ⟨S, hf, h4, fun w s d hw hs hd => hz w s d hw (by omega) hd, fun K => by rw [f_X6_clear_33, brp ((zLE (by omega) (by omega)).mpr hc)]⟩
    · obtain ⟨S', q1, q2, q3, q4⟩ := ih (j + 1) (si (si S 46 (8 * 0 + i) j 0) 46 (8 * 1 + i) j 0) (by omega) (by omega) (hf.tr ((Fr.si (Or.inr rfl)).tr (Fr.si (Or.inr rfl)))) (by
        rw [pgi_si, if_neg (by omega), pgi_si, if_neg (by omega)]; exact h4) (fun w s d hw hs hd => by
        have hz' := hz w s d hw
        rw [pgi_si, pgi_si, pgi_si]
        by_cases e : s = i ∧ d = j
        · obtain ⟨rfl, rfl⟩ := e
          by_cases e1 : w = 1
          · subst e1; rw [if_pos ⟨rfl, rfl⟩, upd_eq]
          · rw [if_neg (by omega), show w = 0 by omega, if_pos ⟨rfl, rfl⟩, upd_eq]
        · have := hz' (by omega) hd
          by_cases e1 : 8 * w + s = 8 * 1 + i
          · rw [if_pos ⟨rfl, e1⟩]
            by_cases e2 : d = j
            · rw [e2, upd_eq]
            · rw [upd_ne e2, if_neg (by omega), ← e1]; exact this
          · rw [if_neg (fun z => e1 z.2)]
            by_cases e3 : 8 * w + s = 8 * 0 + i
            · rw [if_pos ⟨rfl, e3⟩]
              by_cases e2 : d = j
              · rw [e2, upd_eq]
              · rw [upd_ne e2, ← e3]; exact this
            · rw [if_neg (fun z => e3 z.2)]; exact this)
      refine ⟨S', q1, q2, q3, fun K => ?_⟩
      rw [f_X6_clear_33, brn (fun w => hc ((zLE (by omega) (by omega)).mp w)), ck_t (ib (by omega) (by omega)), ck_t (ib (by omega) (by omega)), zN (by omega), zN (by omega)]
      unfold bv
      dsimp only
      rw [ck_t (ib (by omega) (by omega)), ck_t (ib (by omega) (by omega)), zp1]; exact q4 K
theorem cl_all (hl : lv ≤ 8) : ∀ (n i : Nat) (S : St), i ≤ lv → lv < n + i → Fr (fun k _ => k = 44 ∨ k = 46) A S → (gi S 44 0 = gi A 44 0) → (∀ w s d, w < 2 → s < i → d < lv → gi S 46 (8 * w + s) d = 0) → ∃ S', Fr (fun k _ => k = 44 ∨ k = 46) A S' ∧ gi S' 44 0 = gi A 44 0 ∧ (∀ w s d, w < 2 → s < lv → d < lv → gi S' 46 (8 * w + s) d = 0) ∧ ∀ K, f_X6_clear_26 0 (Int32.ofNat lv) K n (Int32.ofNat i) S = K S' := by
  intro n
  induction n with
  | zero => intro j S _ h; omega
  | succ n ih =>
    intro i S hj hn hf h4 hz
    by_cases hc : lv ≤ i
    · exact ⟨S, hf, h4, fun w s d hw hs hd => hz w s d hw (by omega) hd, fun K => by rw [f_X6_clear_26, brp ((zLE (by omega) (by omega)).mpr hc)]⟩
    · obtain ⟨S9, q1, q2, q3, q4⟩ := cl_in (m := lv) (P := fun _ => True) hl (show i < lv by omega) rfl FU 0 S (by omega) (by unfold FU; omega) hf h4 (fun w s d hw hs hd => hz w s d hw (by omega) hd)
      obtain ⟨S', w1, w2, w3, w4⟩ := ih (i + 1) S9 (by omega) (by omega) q1 q2 q3
      refine ⟨S', w1, w2, w3, fun K => ?_⟩
      rw [f_X6_clear_26, brn (fun w => hc ((zLE (by omega) (by omega)).mp w)), show (0 : Int32) = Int32.ofNat 0 from rfl, q4]
      show f_X6_clear_26 0 _ K n (Int32.ofNat i + 1) S9 = _
      rw [zp1]; exact w4 K
theorem wp_all {x : Int32} : ∀ (n i : Nat) (S : St), i ≤ 128 → 128 < n + i → Fr (fun k x => (k = 76 ∨ k = 60) ∧ x = 0) A S → (gi S 60 0 = gi A 60 0 ∧ gl S 60 0 = gl A 60 0) → (∀ d, d < i → gi S 76 0 d = 0) → ∃ S', Fr (fun k x => (k = 76 ∨ k = 60) ∧ x = 0) A S' ∧ (gi S' 60 0 = gi A 60 0 ∧ gl S' 60 0 = gl A 60 0) ∧ (∀ d, d < 128 → gi S' 76 0 d = 0) ∧ ∀ K, f_X12_learns_7 0 x K n (Int32.ofNat i) S = K S' := by
  intro n
  induction n with
  | zero => intro j S _ h; omega
  | succ n ih =>
    intro i S hj hn hf h4 hz
    by_cases hc : 128 ≤ i
    · exact ⟨S, hf, h4, fun d hd => hz d (by omega), fun K => by rw [f_X12_learns_7, brp ((zLE (by omega) (by omega)).mpr hc)]⟩
    · obtain ⟨S', w1, w2, w3, w4⟩ := ih (i + 1) (si S 76 0 i 0) (by omega) (by omega) (hf.tr (Fr.si ⟨Or.inl rfl, rfl⟩)) h4 (fun d hd => by
        show upd (gi S 76 0) i 0 d = 0
        by_cases e : d = i
        · rw [e, upd_eq]
        · rw [upd_ne e]; exact hz d (by omega))
      refine ⟨S', w1, w2, w3, fun K => ?_⟩
      rw [f_X12_learns_7, brn (fun w => hc ((zLE (by omega) (by omega)).mp w)), ck_t (ib (by omega) (by omega)), zN (by omega)]
      show f_X12_learns_7 0 _ K n (Int32.ofNat i + 1) _ = _
      rw [zp1]; exact w4 K
theorem rl_all (g : Gm lv GA GB A B) (h1 : 1 ≤ lv) {x y : Int32} {m : Nat} (ex : x = Int32.ofNat m) (hm : 1 ≤ m) (hm2 : m ≤ 2000) : ∃ S1' S2' p q, f_X6_letGo 0 0 x y A = some S1' ∧ f_X12_learns 0 x y B = some S2' ∧ Rl lv A B S1' S2' p q := by
  have hl := g.1
  have hx : ¬ x = 0 := by rw [ex]; exact fun z => absurd ((zE (b := 0) (by omega) (by omega)).mp z) (by omega)
  have mx : mxI 0 (Int32.ofNat lv - 1) = Int32.ofNat (lv - 1) := by
    rw [zSub1 (by omega)]
    show (if (0 : Int32) < Int32.ofNat (lv - 1) then Int32.ofNat (lv - 1) else 0) = _
    by_cases e : lv = 1
    · rw [e]; rfl
    · rw [if_pos (show (0 : Int32) < Int32.ofNat (lv - 1) from (zL (a := 0) (by omega) (by omega)).mpr (by omega))]
  obtain ⟨X, x1, x2, x3, x4⟩ := cl_all (A := si (si (si A 44 0 2 (Int32.ofNat lv)) 44 0 3 (Int32.ofNat (lv - 1))) 44 0 4 (Int32.ofNat (lv - 1))) hl FU 0 _ (by omega) (by unfold FU; omega) Fr.rf rfl (fun w s d _ h => by omega)
  obtain ⟨Y, y1, y2, y3, y4⟩ := wp_all (A := si B 60 0 33 y) (x := x) FU 0 _ (by omega) (by unfold FU; omega) Fr.rf ⟨rfl, rfl⟩ (fun d h => by omega)
  have R0 : Rl lv A B (si X 44 0 5 y) (si (si Y 60 0 34 (Int32.ofNat (lv - 1))) 60 0 35 (Int32.ofNat (lv - 1))) (lv - 1) (lv - 1) := by
    have e2 : gi X 44 0 2 = Int32.ofNat lv := by rw [x2]; rfl
    have e3 : gi X 44 0 3 = Int32.ofNat (lv - 1) := by rw [x2]; rfl
    have e4 : gi X 44 0 4 = Int32.ofNat (lv - 1) := by rw [x2]; rfl
    have f3 : gi Y 60 0 33 = y := by rw [y2.1]; rfl
    refine ⟨(((Fr.si (Or.inl rfl)).tr ((Fr.si (Or.inl rfl)).tr (Fr.si (Or.inl rfl)))).tr x1).tr (Fr.si (Or.inl rfl)), ((Fr.si ⟨Or.inr rfl, rfl⟩).tr y1).tr ((Fr.si ⟨Or.inr rfl, rfl⟩).tr (Fr.si ⟨Or.inr rfl, rfl⟩)), ⟨fun j hj => ?_, y2.2⟩, e2, ?_, ⟨e3, rfl, by omega⟩, ⟨e4, rfl, by omega⟩, fun w s d hw hs hd => ?_⟩
    · show upd (upd (gi Y 60 0) 34 _) 35 _ j = _
      rw [upd_ne (by omega), upd_ne (by omega), y2.1]
      show upd (gi B 60 0) 33 y j = _
      rw [upd_ne (by omega)]
    · exact f3.symm
    · show gi X 46 (8 * w + s) d = gi Y 76 0 _
      rw [x3 w s d hw hs hd, y3 _ (by omega)]
  obtain ⟨X2, Y2, p2, q2, R2, a1, a2⟩ := rl_round g h1 hx ex hm2 FU 0 _ _ _ _ R0 (by omega) (by unfold FU; omega)
  obtain ⟨X3, Y3, p3, q3, R3, b1, b2⟩ := rl_ten g FU 0 _ _ _ _ R2 (by omega) (by unfold FU; omega)
  have o0 : Int32.ofNat 0 = (0 : Int32) := rfl
  rw [o0] at x4 y4 a1 a2 b1 b2
  refine ⟨X3, Y3, p3, q3, ?_, ?_, R3⟩
  · unfold f_X6_letGo f_X6_clear bv
    dsimp only
    rw [g.2.1, mx, show gi (si (si A 44 0 2 (Int32.ofNat lv)) 44 0 3 (Int32.ofNat (lv - 1))) 44 0 3 = Int32.ofNat (lv - 1) from rfl, x4]
    unfold on
    dsimp only
    rw [a1, b1]
  · unfold f_X12_learns
    rw [bvE, y4, ck_t (by decide), bvE, bvE, show gi Y 61 0 (nn 3) = Int32.ofNat lv by rw [(y1 61 0 (fun z => by omega)).1]; exact g.2.2.2.1, zSub1 (by omega), show gi (si Y 60 0 34 (Int32.ofNat (lv - 1))) 60 0 34 = Int32.ofNat (lv - 1) from rfl, a2, b2]
end LF
