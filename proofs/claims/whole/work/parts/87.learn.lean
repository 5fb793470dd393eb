-- LEARNING: two tables of worth, drawn and taught side by side
theorem us16 (x : Int32) : ∃ m, m < 65536 ∧ usI x 16 = Int32.ofNat m := by
  refine ⟨x.toUInt32.toNat >>> 16, ?_, ?_⟩
  · have := x.toUInt32.toNat_lt
    rw [Nat.shiftRight_eq_div_pow]; omega
  · show (x.toUInt32 >>> (16 : UInt32)).toInt32 = _
    rw [← UInt32.ofNat_toNat (x := x.toUInt32 >>> (16 : UInt32)), UInt32.toNat_shiftRight]
    rfl
section LE
variable {lv : Nat} {GA GB : Nat → Nat → Int32} {A B S1 S2 : St} {p q : Nat}
def Rl (lv : Nat) (A B S1 S2 : St) (p q : Nat) : Prop := Fr (fun k _ => k = 44 ∨ k = 46) A S1 ∧ Fr (fun k x => (k = 76 ∨ k = 60) ∧ x = 0) B S2 ∧ ((∀ j, j < 33 → gi S2 60 0 j = gi B 60 0 j) ∧ gl S2 60 0 = gl B 60 0) ∧ gi S1 44 0 2 = Int32.ofNat lv ∧ gi S1 44 0 5 = gi S2 60 0 33 ∧ (gi S1 44 0 3 = Int32.ofNat p ∧ gi S2 60 0 34 = Int32.ofNat p ∧ p < lv) ∧ (gi S1 44 0 4 = Int32.ofNat q ∧ gi S2 60 0 35 = Int32.ofNat q ∧ q < lv) ∧ ∀ w s d, w < 2 → s < lv → d < lv → gi S1 46 (8 * w + s) d = gi S2 76 0 (64 * w + 8 * s + d)
theorem Rl.n3 (g : Gm lv GA GB A B) (R : Rl lv A B S1 S2 p q) : gi S2 61 0 (nn 3) = Int32.ofNat lv := by
  rw [(R.2.1 61 0 (fun z => by omega)).1]; exact g.2.2.2.1
theorem gainOf_cg {B S2 : St} (e : gi S2 72 0 = gi B 72 0) {x y z : Int32} : f_X12_gainOf 0 x y z S2 = f_X12_gainOf 0 x y z B := by
  unfold f_X12_gainOf; rw [e]
theorem Rl.gm (g : Gm lv GA GB A B) (R : Rl lv A B S1 S2 p q) : Gm lv GA GB S1 S2 := by
  refine ⟨g.1, ?_, fun i j hi hj => ?_, R.n3 g, fun i j hi hj => ?_⟩
  · rw [(R.1 36 0 (fun z => by omega)).1]; exact g.2.1
  · rw [(R.1 38 i (fun z => by omega)).1, (R.1 40 i (fun z => by omega)).1]; exact g.2.2.1 i j hi hj
  · have e : gi S2 72 0 = gi B 72 0 := (R.2.1 72 0 (fun z => by omega)).1
    rw [gainOf_cg e, gainOf_cg e]; exact g.2.2.2.2 i j hi hj
theorem rl_best (g : Gm lv GA GB A B) (R : Rl lv A B S1 S2 p q) {w s : Nat} (hw : w < 2) (hs : s < lv) : ∃ b, b < lv ∧ f_X6_bestOf 0 (8 * w + s) S1 = some (Int32.ofNat b) ∧ f_X12_greatest 0 (Int32.ofNat w) (Int32.ofNat s) S2 = some (Int32.ofNat b) := by
  have hl := g.1
  have lp : ∀ (n b k : Nat), b < lv → k ≤ lv → lv < n + k → ∃ r, r < lv ∧ f_X6_bestOf_4 0 (8 * w + s) S1 (fun x => some x) n (Int32.ofNat b) (Int32.ofNat k) = some (Int32.ofNat r) ∧ f_X12_greatest_5 0 (Int32.ofNat w) (Int32.ofNat s) S2 (fun x => some x) n (Int32.ofNat b) (Int32.ofNat k) = some (Int32.ofNat r) := by
    intro n
    induction n with
    | zero => intro b k _ _ h; omega
    | succ n ih =>
      intro b k hb hk hn
      rw [f_X6_bestOf_4, f_X12_greatest_5, R.2.2.2.1, ck_t (c := inb 3 3179 = true) (by decide), R.n3 g]
      by_cases hc : lv ≤ k
      · rw [brp ((zLE (by omega) (by omega)).mpr hc), brp ((zLE (by omega) (by omega)).mpr hc)]; exact ⟨b, hb, rfl, rfl⟩
      · rw [brn (fun w => hc ((zLE (by omega) (by omega)).mp w)), brn (fun w => hc ((zLE (by omega) (by omega)).mp w)), zMu, zMu, zAA, zAA, zAA, ck_t (ib (by omega) (by omega)), ck_t (ib (by omega) (by omega)), ck_t (ib (by omega) (by omega)), ck_t (ib (by omega) (by omega)), zN (by omega), zN (by omega), zN (by omega), zN (by omega), R.2.2.2.2.2.2.2 w s k hw hs (by omega), R.2.2.2.2.2.2.2 w s b hw hs hb]
        unfold bv
        dsimp only
        rw [zp1]
        by_cases hq : gi S2 76 0 (64 * w + 8 * s + k) ≤ gi S2 76 0 (64 * w + 8 * s + b)
        · rw [brp hq]
          obtain ⟨r, r0, r1, r2⟩ := ih b (k + 1) hb (by omega) (by omega)
          exact ⟨r, r0, r1, (brp hq).trans r2⟩
        · rw [brn hq]
          obtain ⟨r, r0, r1, r2⟩ := ih k (k + 1) (by omega) (by omega) (by omega)
          exact ⟨r, r0, r1, (brn hq).trans r2⟩
  exact lp FU 0 1 (by omega) (by omega) (by unfold FU; omega)
theorem rl_draw (R : Rl lv A B S1 S2 p q) : ∃ m S1' S2', m < 65536 ∧ f_X6_draw 0 S1 = some (Int32.ofNat m, S1') ∧ f_X12_draw 0 S2 = some (Int32.ofNat m, S2') ∧ Rl lv A B S1' S2' p q := by
  obtain ⟨m, hm, em⟩ := us16 (1103515245 * gi S2 60 0 33 + 12345)
  refine ⟨m, si S1 44 0 5 (1103515245 * gi S2 60 0 33 + 12345), si S2 60 0 33 (1103515245 * gi S2 60 0 33 + 12345), hm, ?_, ?_, ?_⟩
  · unfold f_X6_draw
    rw [R.2.2.2.2.1]
    show some (usI (1103515245 * gi S2 60 0 33 + 12345) 16, _) = _
    rw [em]
  · unfold f_X12_draw
    show some (usI (1103515245 * gi S2 60 0 33 + 12345) 16, _) = _
    rw [em]
  · refine ⟨R.1.tr (Fr.si (Or.inl rfl)), R.2.1.tr (Fr.si ⟨Or.inr rfl, rfl⟩), ⟨fun j hj => ?_, R.2.2.1.2⟩, R.2.2.2.1, rfl, R.2.2.2.2.2.1, R.2.2.2.2.2.2.1, R.2.2.2.2.2.2.2⟩
    show upd (gi S2 60 0) 33 _ j = _
    rw [upd_ne (by omega)]; exact R.2.2.1.1 j hj
theorem rl_take (g : Gm lv GA GB A B) (h1 : 1 ≤ lv) (R : Rl lv A B S1 S2 p q) {w s : Nat} {x : Int32} (hw : w < 2) (hs : s < lv) : ∃ b S1' S2', b < lv ∧ f_X6_take 0 w (Int32.ofNat s) x S1 = some (Int32.ofNat b, S1') ∧ f_X12_takes 0 (Int32.ofNat w) (Int32.ofNat s) x S2 = some (Int32.ofNat b, S2') ∧ Rl lv A B S1' S2' p q := by
  have hl := g.1
  obtain ⟨m, X, Y, hm, d1, d2, R1⟩ := rl_draw R
  unfold f_X6_take f_X12_takes
  rw [d1, d2]
  unfold bv on2
  dsimp only
  by_cases hx : x ≤ rmI (Int32.ofNat m) 100
  · obtain ⟨b, hb, b1, b2⟩ := rl_best g R1 hw hs
    exact ⟨b, X, Y, hb, by rw [brp hx, ck_t (ib (by omega) (by omega)), zN (by omega), b1]; rfl, by rw [brp hx, b2]; rfl, R1⟩
  · obtain ⟨m2, X2, Y2, hm2, e1, e2, R2⟩ := rl_draw R1
    have z : ¬ Int32.ofNat lv = 0 := fun z => absurd ((zE (b := 0) (by omega) (by omega)).mp z) (by omega)
    refine ⟨m2 % lv, X2, Y2, Nat.mod_lt _ (by omega), ?_, ?_, R2⟩
    · rw [brn hx, R1.2.2.2.1, brn (show ¬ Int32.ofNat lv ≤ 0 from fun w => absurd ((zLE (a := lv) (b := 0) (by omega) (by omega)).mp w) (by omega)), e1]
      show ck _ _ = _
      rw [R2.2.2.2.1, ck_t z, zR (by omega) (by omega)]
    · rw [brn hx, e2]
      show ck _ _ = _
      rw [R2.n3 g, ck_t (by decide), ck_t z, zR (by omega) (by omega)]
theorem rl_mend (g : Gm lv GA GB A B) (R : Rl lv A B S1 S2 p q) {w s c u : Nat} {v : Int32} (hw : w < 2) (hs : s < lv) (hc : c < lv) (hu : u < lv) : ∃ S1' S2', f_X6_mend 0 (8 * w + s) (Int32.ofNat c) v (8 * w + u) S1 = some S1' ∧ f_X12_teaches 0 (Int32.ofNat w) (Int32.ofNat s) (Int32.ofNat c) v (Int32.ofNat u) S2 = some S2' ∧ Rl lv A B S1' S2' p q := by
  have hl := g.1
  obtain ⟨b, hb, b1, b2⟩ := rl_best g R hw hu
  have e1 := R.2.2.2.2.2.2.2 w s c hw hs hc
  have e2 := R.2.2.2.2.2.2.2 w u b hw hu hb
  refine ⟨si S1 46 (8 * w + s) c (gi S2 76 0 (64 * w + 8 * s + c) + dvI (8 * v + dvI (7 * gi S2 76 0 (64 * w + 8 * u + b)) 8 - gi S2 76 0 (64 * w + 8 * s + c)) 8), si S2 76 0 (64 * w + 8 * s + c) (gi S2 76 0 (64 * w + 8 * s + c) + dvI (8 * v + dvI (7 * gi S2 76 0 (64 * w + 8 * u + b)) 8 - gi S2 76 0 (64 * w + 8 * s + c)) 8), ?_, ?_, ?_⟩
  · unfold f_X6_mend
    rw [ck_t (ib (by omega) (by omega)), zN (by omega), b1]
    unfold bv on
    dsimp only
    rw [ck_t (ib (by omega) (by omega)), zN (by omega), ck_t (ib (by omega) (by omega)), e1, e2]
  · unfold f_X12_teaches
    rw [b2]
    unfold bv on
    dsimp only
    rw [zMu, zMu, zMu, zAA, zAA, zAA, zAA, ck_t (ib (by omega) (by omega)), ck_t (ib (by omega) (by omega)), ck_t (ib (by omega) (by omega)), ck_t (ib (by omega) (by omega)), zN (by omega), zN (by omega)]
  · refine ⟨R.1.tr (Fr.si (Or.inr rfl)), R.2.1.tr (Fr.si ⟨Or.inl rfl, rfl⟩), R.2.2.1, R.2.2.2.1, R.2.2.2.2.1, R.2.2.2.2.2.1, R.2.2.2.2.2.2.1, fun w' s' d hw' hs' hd => ?_⟩
    show _ = upd (gi S2 76 0) (64 * w + 8 * s + c) _ _
    rw [pgi_si]
    by_cases e : 8 * w' + s' = 8 * w + s
    · rw [if_pos ⟨rfl, e⟩]
      by_cases e9 : d = c
      · rw [e9, upd_eq, show 64 * w' + 8 * s' + c = 64 * w + 8 * s + c by omega, upd_eq]
      · rw [upd_ne e9, upd_ne (by omega), ← e]; exact R.2.2.2.2.2.2.2 w' s' d hw' hs' hd
    · rw [if_neg (fun z => e z.2), upd_ne (by omega)]; exact R.2.2.2.2.2.2.2 w' s' d hw' hs' hd
end LE
