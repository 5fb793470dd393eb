-- GAMES: reply, even, joint
section GC
variable {lv : Nat} {GA GB : Nat → Nat → Int32} {S1 S2 : St}
theorem rp_two (g : Gm lv GA GB S1 S2) {i : Nat} (hi : i < lv) : ∀ (n b k : Nat), b < lv → k ≤ lv → lv < n + k → ∃ r, f_X4_replyOfA_4 0 (Int32.ofNat i) S1 (fun x => some x) n (Int32.ofNat b) (Int32.ofNat k) = some r ∧ f_X12_reply_45 0 (Int32.ofNat i) (fun x S => some (x, S)) n (Int32.ofNat b) (Int32.ofNat k) S2 = some (r, S2) := by
  have hl := g.1
  intro n
  induction n with
  | zero => intro b k _ h; omega
  | succ n ih =>
    intro b k hb hk hn
    rw [f_X4_replyOfA_4, f_X12_reply_45, g.2.1, ck_t (c := inb 3 3179 = true) (by decide), show gi S2 61 0 (nn 3) = Int32.ofNat lv from g.2.2.2.1]
    by_cases hc : lv ≤ k
    · rw [brp ((zLE (by omega) (by omega)).mpr hc), brp ((zLE (by omega) (by omega)).mpr hc)]; exact ⟨_, rfl, rfl⟩
    · have e := g.2.2.1 k i (by omega) hi
      have e' := g.2.2.1 b i hb hi
      rw [brn (fun w => hc ((zLE (by omega) (by omega)).mp w)), brn (fun w => hc ((zLE (by omega) (by omega)).mp w)), ck_t (ib (by omega) (by omega)), ck_t (ib (by omega) (by omega)), ck_t (ib (by omega) (by omega)), ck_t (ib (by omega) (by omega)), (g.2.2.2.2 k i (by omega) hi).1, (g.2.2.2.2 b i hb hi).1, zN (by omega), zN (by omega), zN (by omega), e.1, e'.1]
      unfold bv on
      dsimp only
      rw [zp1]
      by_cases hq : GA k i ≤ GA b i
      · rw [brp hq, brp hq]; exact ih b (k + 1) hb (by omega) (by omega)
      · rw [brn hq, brn hq]; exact ih k (k + 1) (by omega) (by omega) (by omega)
theorem ev_two (g : Gm lv GA GB S1 S2) {i j : Nat} (hi : i < lv) (hj : j < lv) : ∃ r : Int32, f_X4_isEven 0 (Int32.ofNat i) (Int32.ofNat j) S1 = some r ∧ f_X12_isEven 0 (Int32.ofNat i) (Int32.ofNat j) S2 = some r := by
  have hl := g.1
  have lp : ∀ (n k : Nat), k ≤ lv → lv < n + k → ∃ r : Int32, f_X4_isEven_2 0 (Int32.ofNat i) (Int32.ofNat j) S1 (fun _ => some 1) n (Int32.ofNat k) = some r ∧ f_X12_isEven_2 0 (Int32.ofNat i) (Int32.ofNat j) S2 (fun _ => some 1) n (Int32.ofNat k) = some r := by
    intro n
    induction n with
    | zero => intro k _ h; omega
    | succ n ih =>
      intro k hk hn
      rw [f_X4_isEven_2, f_X12_isEven_2, g.2.1, ck_t (c := inb 3 3179 = true) (by decide), show gi S2 61 0 (nn 3) = Int32.ofNat lv from g.2.2.2.1]
      by_cases hc : lv ≤ k
      · rw [brp ((zLE (by omega) (by omega)).mpr hc), brp ((zLE (by omega) (by omega)).mpr hc)]; exact ⟨_, rfl, rfl⟩
      · have e := g.2.2.1 i j hi hj
        have e1 := g.2.2.1 k j (by omega) hj
        have e2 := g.2.2.1 i k hi (by omega)
        rw [brn (fun w => hc ((zLE (by omega) (by omega)).mp w)), brn (fun w => hc ((zLE (by omega) (by omega)).mp w)), ck_t (ib (by omega) (by omega)), ck_t (ib (by omega) (by omega)), ck_t (ib (by omega) (by omega)), ck_t (ib (by omega) (by omega)), (g.2.2.2.2 k j (by omega) hj).1, (g.2.2.2.2 i j hi hj).1, (g.2.2.2.2 i j hi hj).2, (g.2.2.2.2 i k hi (by omega)).2, zN (by omega), zN (by omega), zN (by omega), e.1, e1.1, e.2, e2.2]
        unfold bv on
        dsimp only
        rw [ck_t (ib (by omega) (by omega)), ck_t (ib (by omega) (by omega)), ck_t (ib (by omega) (by omega)), ck_t (ib (by omega) (by omega)), zp1]
        by_cases hq : GA i j < GA k j
        · rw [brp hq, brp hq]; exact ⟨_, rfl, rfl⟩
        · rw [brn hq, brn hq]
          by_cases hw : GB i k ≤ GB i j
          · rw [brp hw, brp hw]; exact ih (k + 1) (by omega) (by omega)
          · rw [brn hw, brn hw]; exact ⟨_, rfl, rfl⟩
  exact lp FU 0 (by omega) (by unfold FU; omega)
theorem ct_in (g : Gm lv GA GB S1 S2) {i : Nat} (hi : i < lv) : ∀ (n c j : Nat), j ≤ lv → lv < n + j → c ≤ 8 * i + j → ∃ c', c' ≤ 8 * i + lv ∧ (∀ K, f_X4_evenPairs_14 0 (Int32.ofNat i) S1 K n (Int32.ofNat c) (Int32.ofNat j) = K (Int32.ofNat c')) ∧ ∀ K, f_X12_evenAt_17 0 (-1) (Int32.ofNat i) S2 K n (Int32.ofNat c) (Int32.ofNat j) = K (Int32.ofNat c') := by
  have hl := g.1
  intro n
  induction n with
  | zero => intro c j _ h; omega
  | succ n ih =>
    intro c j hj hn hcc
    by_cases hc : lv ≤ j
    · refine ⟨c, by omega, fun K => ?_, fun K => ?_⟩
      · rw [f_X4_evenPairs_14, g.2.1, brp ((zLE (by omega) (by omega)).mpr hc)]
      · rw [f_X12_evenAt_17, ck_t (c := inb 3 3179 = true) (by decide), show gi S2 61 0 (nn 3) = Int32.ofNat lv from g.2.2.2.1, brp ((zLE (by omega) (by omega)).mpr hc)]
    · obtain ⟨r, r1, r2⟩ := ev_two g hi (show j < lv by omega)
      by_cases hr : r = 0
      · obtain ⟨c', q0, q1, q2⟩ := ih c (j + 1) (by omega) (by omega) (by omega)
        refine ⟨c', q0, fun K => ?_, fun K => ?_⟩
        · rw [f_X4_evenPairs_14, g.2.1, brn (fun w => hc ((zLE (by omega) (by omega)).mp w)), r1]
          show br (r = 0) (f_X4_evenPairs_14 0 _ S1 K n (Int32.ofNat c + 0) (Int32.ofNat j + 1)) (f_X4_evenPairs_14 0 _ S1 K n (Int32.ofNat c + 1) (Int32.ofNat j + 1)) = _
          rw [brp hr, zp1, Int32.add_zero]; exact q1 K
        · rw [f_X12_evenAt_17, ck_t (c := inb 3 3179 = true) (by decide), show gi S2 61 0 (nn 3) = Int32.ofNat lv from g.2.2.2.1, brn (fun w => hc ((zLE (by omega) (by omega)).mp w)), r2]
          show br (r = 0) (f_X12_evenAt_17 0 (-1) _ S2 K n (Int32.ofNat c) (Int32.ofNat j + 1)) _ = _
          rw [brp hr, zp1]; exact q2 K
      · obtain ⟨c', q0, q1, q2⟩ := ih (c + 1) (j + 1) (by omega) (by omega) (by omega)
        refine ⟨c', q0, fun K => ?_, fun K => ?_⟩
        · rw [f_X4_evenPairs_14, g.2.1, brn (fun w => hc ((zLE (by omega) (by omega)).mp w)), r1]
          show br (r = 0) (f_X4_evenPairs_14 0 _ S1 K n (Int32.ofNat c + 0) (Int32.ofNat j + 1)) (f_X4_evenPairs_14 0 _ S1 K n (Int32.ofNat c + 1) (Int32.ofNat j + 1)) = _
          rw [brn hr, zp1, zp1]; exact q1 K
        · rw [f_X12_evenAt_17, ck_t (c := inb 3 3179 = true) (by decide), show gi S2 61 0 (nn 3) = Int32.ofNat lv from g.2.2.2.1, brn (fun w => hc ((zLE (by omega) (by omega)).mp w)), r2]
          show br (r = 0) _ (br (Int32.ofNat c = -1) (some (10 * Int32.ofNat i + Int32.ofNat j)) (f_X12_evenAt_17 0 (-1) _ S2 K n (Int32.ofNat c + 1) (Int32.ofNat j + 1))) = _
          rw [brn hr, brn, zp1, zp1]
          · exact q2 K
          · intro z
            have := zI (show c < 2147483648 by omega)
            rw [z] at this
            have w : ((-1 : Int32)).toInt = -1 := by decide
            omega
theorem ct_two (g : Gm lv GA GB S1 S2) : ∃ r, f_X4_evenPairs 0 S1 = some r ∧ f_X12_evenAt 0 (-1) S2 = some r := by
  have hl := g.1
  have lp : ∀ (n c i : Nat), i ≤ lv → lv < n + i → c ≤ 8 * i → ∃ r, f_X4_evenPairs_4 0 S1 (fun x => some x) n (Int32.ofNat c) (Int32.ofNat i) = some r ∧ f_X12_evenAt_4 0 (-1) S2 (fun x => bv (fun (v : Int32) => some v) (fun J => br ((-1 : Int32) = -1) (J x) (J (-1)))) n (Int32.ofNat c) (Int32.ofNat i) = some r := by
    intro n
    induction n with
    | zero => intro c i _ h; omega
    | succ n ih =>
      intro c i hi hn hcc
      rw [f_X4_evenPairs_4, f_X12_evenAt_4, g.2.1, ck_t (c := inb 3 3179 = true) (by decide), show gi S2 61 0 (nn 3) = Int32.ofNat lv from g.2.2.2.1]
      by_cases hc : lv ≤ i
      · rw [brp ((zLE (by omega) (by omega)).mpr hc), brp ((zLE (by omega) (by omega)).mpr hc)]; exact ⟨_, rfl, rfl⟩
      · rw [brn (fun w => hc ((zLE (by omega) (by omega)).mp w)), brn (fun w => hc ((zLE (by omega) (by omega)).mp w))]
        obtain ⟨c', q0, q1, q2⟩ := ct_in g (show i < lv by omega) FU c 0 (by omega) (by unfold FU; omega) (by omega)
        rw [show (0 : Int32) = Int32.ofNat 0 from rfl, q1, q2]
        unfold bv
        dsimp only
        rw [zp1]; exact ih c' (i + 1) (by omega) (by omega) (by omega)
  exact lp FU 0 0 (by omega) (by unfold FU; omega) (by omega)
theorem pkk_in (g : Gm lv GA GB S1 S2) {i : Nat} {x : Int32} (hi : i < lv) : ∀ (n : Nat) (c : Int32) (j : Nat), j ≤ lv → lv < n + j → (∃ r, (∃ p q, p < lv ∧ q < lv ∧ r = Int32.ofNat (10 * p + q)) ∧ (∀ K, f_X4_evenPair_15 0 x (Int32.ofNat i) S1 K n c (Int32.ofNat j) = some r) ∧ ∀ K, f_X12_evenAt_17 0 x (Int32.ofNat i) S2 K n c (Int32.ofNat j) = some r) ∨ ∃ c', (∀ K, f_X4_evenPair_15 0 x (Int32.ofNat i) S1 K n c (Int32.ofNat j) = K c') ∧ ∀ K, f_X12_evenAt_17 0 x (Int32.ofNat i) S2 K n c (Int32.ofNat j) = K c' := by
  have hl := g.1
  intro n
  induction n with
  | zero => intro c j _ h; omega
  | succ n ih =>
    intro c j hj hn
    by_cases hc : lv ≤ j
    · refine Or.inr ⟨c, fun K => ?_, fun K => ?_⟩
      · rw [f_X4_evenPair_15, g.2.1, brp ((zLE (by omega) (by omega)).mpr hc)]
      · rw [f_X12_evenAt_17, ck_t (c := inb 3 3179 = true) (by decide), show gi S2 61 0 (nn 3) = Int32.ofNat lv from g.2.2.2.1, brp ((zLE (by omega) (by omega)).mpr hc)]
    · obtain ⟨r, r1, r2⟩ := ev_two g hi (show j < lv by omega)
      have s1 : ∀ K, f_X4_evenPair_15 0 x (Int32.ofNat i) S1 K (n + 1) c (Int32.ofNat j) = br (r = 0) (f_X4_evenPair_15 0 x (Int32.ofNat i) S1 K n c (Int32.ofNat (j + 1))) (br (c = x) (some (10 * Int32.ofNat i + Int32.ofNat j)) (f_X4_evenPair_15 0 x (Int32.ofNat i) S1 K n (c + 1) (Int32.ofNat (j + 1)))) := by
        intro K
        rw [f_X4_evenPair_15, g.2.1, brn (fun w => hc ((zLE (by omega) (by omega)).mp w)), r1, ← zp1]; rfl
      have s2 : ∀ K, f_X12_evenAt_17 0 x (Int32.ofNat i) S2 K (n + 1) c (Int32.ofNat j) = br (r = 0) (f_X12_evenAt_17 0 x (Int32.ofNat i) S2 K n c (Int32.ofNat (j + 1))) (br (c = x) (some (10 * Int32.ofNat i + Int32.ofNat j)) (f_X12_evenAt_17 0 x (Int32.ofNat i) S2 K n (c + 1) (Int32.ofNat (j + 1)))) := by
        intro K
        rw [f_X12_evenAt_17, ck_t (c := inb 3 3179 = true) (by decide), show gi S2 61 0 (nn 3) = Int32.ofNat lv from g.2.2.2.1, brn (fun w => hc ((zLE (by omega) (by omega)).mp w)), r2, ← zp1]; rfl
      by_cases hr : r = 0
      · rcases ih c (j + 1) (by omega) (by omega) with ⟨w, w0, q1, q2⟩ | ⟨w, q1, q2⟩
        · exact Or.inl ⟨w, w0, fun K => by rw [s1, brp hr]; exact q1 K, fun K => by rw [s2, brp hr]; exact q2 K⟩
        · exact Or.inr ⟨w, fun K => by rw [s1, brp hr]; exact q1 K, fun K => by rw [s2, brp hr]; exact q2 K⟩
      · by_cases hx : c = x
        · exact Or.inl ⟨_, ⟨i, j, hi, by omega, by rw [← zAA, ← zMu]⟩, fun K => by rw [s1, brn hr, brp hx], fun K => by rw [s2, brn hr, brp hx]⟩
        · rcases ih (c + 1) (j + 1) (by omega) (by omega) with ⟨w, w0, q1, q2⟩ | ⟨w, q1, q2⟩
          · exact Or.inl ⟨w, w0, fun K => by rw [s1, brn hr, brn hx]; exact q1 K, fun K => by rw [s2, brn hr, brn hx]; exact q2 K⟩
          · exact Or.inr ⟨w, fun K => by rw [s1, brn hr, brn hx]; exact q1 K, fun K => by rw [s2, brn hr, brn hx]; exact q2 K⟩
theorem pkk_two (g : Gm lv GA GB S1 S2) {x : Int32} (hx : ¬ x = -1) : ∃ r, (r = -1 ∨ ∃ p q, p < lv ∧ q < lv ∧ r = Int32.ofNat (10 * p + q)) ∧ f_X4_evenPair 0 x S1 = some r ∧ f_X12_evenAt 0 x S2 = some r := by
  have hl := g.1
  have lp : ∀ (n : Nat) (c : Int32) (i : Nat), i ≤ lv → lv < n + i → ∃ r, (r = -1 ∨ ∃ p q, p < lv ∧ q < lv ∧ r = Int32.ofNat (10 * p + q)) ∧ f_X4_evenPair_4 0 x S1 (fun _ => some (-1)) n c (Int32.ofNat i) = some r ∧ f_X12_evenAt_4 0 x S2 (fun y => bv (fun (v : Int32) => some v) (fun J => br (x = -1) (J y) (J (-1)))) n c (Int32.ofNat i) = some r := by
    intro n
    induction n with
    | zero => intro c i _ h; omega
    | succ n ih =>
      intro c i hi hn
      rw [f_X4_evenPair_4, f_X12_evenAt_4, g.2.1, ck_t (c := inb 3 3179 = true) (by decide), show gi S2 61 0 (nn 3) = Int32.ofNat lv from g.2.2.2.1]
      by_cases hc : lv ≤ i
      · rw [brp ((zLE (by omega) (by omega)).mpr hc), brp ((zLE (by omega) (by omega)).mpr hc)]
        refine ⟨-1, Or.inl rfl, rfl, ?_⟩
        show br (x = -1) _ _ = _
        rw [brn hx]
      · rw [brn (fun w => hc ((zLE (by omega) (by omega)).mp w)), brn (fun w => hc ((zLE (by omega) (by omega)).mp w))]
        rcases pkk_in (x := x) g (show i < lv by omega) FU c 0 (by omega) (by unfold FU; omega) with ⟨w, w0, q1, q2⟩ | ⟨w, q1, q2⟩
        · rw [show (0 : Int32) = Int32.ofNat 0 from rfl, q1, q2]; exact ⟨w, Or.inr w0, rfl, rfl⟩
        · rw [show (0 : Int32) = Int32.ofNat 0 from rfl, q1, q2]
          unfold bv
          dsimp only
          rw [zp1]; exact ih w (i + 1) (by omega) (by omega)
  exact lp FU 0 0 (by omega) (by unfold FU; omega)
end GC
