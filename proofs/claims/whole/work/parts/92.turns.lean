-- TURNS: cells, levels, turns
section TV
variable {lv : Nat} {GA GB : Nat → Nat → Int32} {A B S1 S2 S20 : St} {m t j : Nat}
def Wt (k x : Nat) : Prop := (k = 73 ∨ k = 74 ∨ k = 75) ∧ x = 0
def Jf (S20 : St) (i0 : Nat) (S2 : St) : Prop := Fr Wt S20 S2 ∧ ∀ i, i ≠ i0 → gi S2 73 0 i = gi S20 73 0 i ∧ gl S2 74 0 i = gl S20 74 0 i ∧ gl S2 75 0 i = gl S20 75 0 i
def Jc (GA GB : Nat → Nat → Int32) (S1 S20 : St) (t j : Nat) (S2 : St) (b : Nat) : Prop := Jf S20 (8 * t + j) S2 ∧ gi S2 73 0 (8 * t + j) = Int32.ofNat b ∧ gl S2 74 0 (8 * t + j) = (XA GA S1 t j b).toInt64 ∧ gl S2 75 0 (8 * t + j) = (XB GB S1 t j b).toInt64
theorem Jf.wr (h : Jf S20 (8 * t + j) S2) (b : Nat) : Jc GA GB S1 S20 t j (wr S2 (8 * t + j) (Int32.ofNat b) (XA GA S1 t j b).toInt64 (XB GB S1 t j b).toInt64) b := by
  refine ⟨⟨h.1.tr ((Fr.si ⟨Or.inl rfl, rfl⟩).tr ((Fr.sl ⟨Or.inr (Or.inl rfl), rfl⟩).tr (Fr.sl ⟨Or.inr (Or.inr rfl), rfl⟩))), fun i hi => ?_⟩, ?_, ?_, ?_⟩
  · obtain ⟨h1, h2, h3⟩ := h.2 i hi
    refine ⟨?_, ?_, ?_⟩
    · show upd (gi S2 73 0) (8 * t + j) _ i = _
      rw [upd_ne hi]; exact h1
    · show vp_updL (gl S2 74 0) (8 * t + j) _ i = _
      rw [updL_ne hi]; exact h2
    · show vp_updL (gl S2 75 0) (8 * t + j) _ i = _
      rw [updL_ne hi]; exact h3
  · show upd (gi S2 73 0) (8 * t + j) _ (8 * t + j) = _
    exact upd_eq
  · show vp_updL (gl S2 74 0) (8 * t + j) _ (8 * t + j) = _
    exact updL_eq
  · show vp_updL (gl S2 75 0) (8 * t + j) _ (8 * t + j) = _
    exact updL_eq
theorem Jf.cell (h : Jf S20 (8 * t + j) S2) {b : Nat} (hb : b < 8) (hj : j < 8) (hc : Cell m lv S1 S20 (t + 1) b) : Cell m lv S1 S2 (t + 1) b := by
  obtain ⟨h1, h2, h3⟩ := h.2 (8 * (t + 1) + b) (by omega)
  unfold Cell
  rw [h1, h2, h3]; exact hc
theorem Jf.gain (h : Jf S20 (8 * t + j) S2) (hG : ∀ i k, i < lv → k < lv → f_X12_gainOf 0 (Int32.ofNat i) (Int32.ofNat k) 0 S20 = some (GA i k) ∧ f_X12_gainOf 0 (Int32.ofNat i) (Int32.ofNat k) 1 S20 = some (GB i k)) : ∀ i k, i < lv → k < lv → f_X12_gainOf 0 (Int32.ofNat i) (Int32.ofNat k) 0 S2 = some (GA i k) ∧ f_X12_gainOf 0 (Int32.ofNat i) (Int32.ofNat k) 1 S2 = some (GB i k) := by
  intro i k hi hk
  have e : gi S2 72 0 = gi S20 72 0 := (h.1 72 0 (fun z => by unfold Wt at z; omega)).1
  rw [gainOf_cg e, gainOf_cg e]; exact hG i k hi hk
theorem Jf.n3 (h : Jf S20 (8 * t + j) S2) (n3 : gi S20 61 0 3 = Int32.ofNat lv) : gi S2 61 0 3 = Int32.ofNat lv := by
  rw [(h.1 61 0 (fun z => by unfold Wt at z; omega)).1]; exact n3
theorem tn_in {x7 : Int32} (g : Gm lv GA GB S1 S20) (hb : ∀ i k, i < lv → k < lv → Bd (GA i k) 58806 ∧ Bd (GB i k) 58806) (hj : j < lv) (hm : m ≤ 40) (ht : t < m) (hN : ∀ b, b < lv → Cell m lv S1 S20 (t + 1) b) (h7 : x7 = if t % 2 = 0 then 1 else 0) : ∀ (n n' k b : Nat) (S2 : St), 1 ≤ k → k ≤ lv → b < lv → lv < n + k → lv < n' + k → Jc GA GB S1 S20 t j S2 b → ∃ b' S2', b' < lv ∧ Jc GA GB S1 S20 t j S2' b' ∧ (∀ K, f_X4_foreseeTurn_14 0 (Int32.ofNat t) (Int32.ofNat j) K n (Int32.ofNat b) (XM GA GB S1 t j b) (Int32.ofNat k) S1 = K (Int32.ofNat b') (XM GA GB S1 t j b') S1) ∧ ∀ K, f_X12_layTurns_99 0 (Int32.ofNat t) (Int32.ofNat j) (Int32.ofNat (8 * t + j)) x7 K n' (Int32.ofNat k) S2 = K S2' := by
  have hl := g.1
  intro n
  induction n with
  | zero => intro n' k b S2 _ _ _ h; omega
  | succ n ih =>
    intro n' k b S2 hk1 hk hbl hn hn' hJ
    obtain ⟨n', rfl⟩ : ∃ x, n' = x + 1 := ⟨n' - 1, by omega⟩
    by_cases hc : lv ≤ k
    · refine ⟨b, S2, hbl, hJ, fun K => ?_, fun K => ?_⟩
      · rw [f_X4_foreseeTurn_14, g.2.1, brp ((zLE (by omega) (by omega)).mpr hc)]
      · rw [f_X12_layTurns_99, ck_t (by decide), show gi S2 61 0 (nn 3) = Int32.ofNat lv from hJ.1.n3 g.2.2.2.1, brp ((zLE (by omega) (by omega)).mpr hc)]
    · have hk' : k < lv := by omega
      have s1 : ∀ K, f_X4_foreseeTurn_14 0 (Int32.ofNat t) (Int32.ofNat j) K (n + 1) (Int32.ofNat b) (XM GA GB S1 t j b) (Int32.ofNat k) S1 = br (XM GA GB S1 t j k ≤ XM GA GB S1 t j b) (f_X4_foreseeTurn_14 0 (Int32.ofNat t) (Int32.ofNat j) K n (Int32.ofNat b) (XM GA GB S1 t j b) (Int32.ofNat (k + 1)) S1) (f_X4_foreseeTurn_14 0 (Int32.ofNat t) (Int32.ofNat j) K n (Int32.ofNat k) (XM GA GB S1 t j k) (Int32.ofNat (k + 1)) S1) := by
        intro K
        rw [f_X4_foreseeTurn_14, g.2.1, brn (fun w => hc ((zLE (by omega) (by omega)).mp w)), e_mover g hj (by omega) hk', ← zp1]; rfl
      have s2 := fun K => st99 (S1 := S1) (hJ.1.gain g.2.2.2.2) hl (hJ.1.n3 g.2.2.2.1) hb hj hm ht hk' (hJ.1.cell (by omega) (by omega) (hN k hk')) h7 n' K
      have nk : ¬ Int32.ofNat k ≤ 0 := fun w => absurd ((zLE (a := k) (b := 0) (by omega) (by omega)).mp w) (by omega)
      have cm : (0 < lg_cmp (XM GA GB S1 t j k).toInt64 (if t % 2 = 0 then gl S2 74 0 (8 * t + j) else gl S2 75 0 (8 * t + j))) ↔ ¬ XM GA GB S1 t j k ≤ XM GA GB S1 t j b := by
        rw [lg_cmp_gt, show (if t % 2 = 0 then gl S2 74 0 (8 * t + j) else gl S2 75 0 (8 * t + j)) = (XM GA GB S1 t j b).toInt64 by
          rw [hJ.2.2.1, hJ.2.2.2]; unfold XM; split <;> rfl, ← Int64.not_le, i64_le]
      by_cases hq : XM GA GB S1 t j k ≤ XM GA GB S1 t j b
      · obtain ⟨b', S2', r1, r2, r3, r4⟩ := ih n' (k + 1) b S2 (by omega) (by omega) hbl (by omega) (by omega) hJ
        exact ⟨b', S2', r1, r2, fun K => by rw [s1, brp hq]; exact r3 K, fun K => by rw [s2, brn nk, brn (fun w => (cm.mp w) hq)]; exact r4 K⟩
      · obtain ⟨b', S2', r1, r2, r3, r4⟩ := ih n' (k + 1) k _ (by omega) (by omega) hk' (by omega) (by omega) (hJ.1.wr k)
        exact ⟨b', S2', r1, r2, fun K => by rw [s1, brn hq]; exact r3 K, fun K => by rw [s2, brn nk, brp (cm.mpr hq)]; exact r4 K⟩
def Rt (lv m : Nat) (A B S1 S2 : St) (t i : Nat) : Prop := Fr (fun k _ => k = 42 ∨ k = 48 ∨ k = 58) A S1 ∧ Fr Wt B S2 ∧ ∀ t' j, j < lv → t' ≤ m → (t < t' ∨ t' = t ∧ j < i) → Cell m lv S1 S2 t' j
theorem Rt.gm {i : Nat} (g : Gm lv GA GB A B) (R : Rt lv m A B S1 S2 t i) : Gm lv GA GB S1 S2 := by
  refine ⟨g.1, ?_, fun i j hi hj => ?_, ?_, fun i j hi hj => ?_⟩
  · rw [(R.1 36 0 (fun z => by omega)).1]; exact g.2.1
  · rw [(R.1 38 i (fun z => by omega)).1, (R.1 40 i (fun z => by omega)).1]; exact g.2.2.1 i j hi hj
  · rw [(R.2.1 61 0 (fun z => by unfold Wt at z; omega)).1]; exact g.2.2.2.1
  · have e : gi S2 72 0 = gi B 72 0 := (R.2.1 72 0 (fun z => by unfold Wt at z; omega)).1
    rw [gainOf_cg e, gainOf_cg e]; exact g.2.2.2.2 i j hi hj
theorem tn_cell {x7 : Int32} (g : Gm lv GA GB A B) (hb : ∀ i k, i < lv → k < lv → Bd (GA i k) 58806 ∧ Bd (GB i k) 58806) (hj : j < lv) (hm : m ≤ 40) (ht : t < m) (h7 : x7 = if t % 2 = 0 then 1 else 0) (R : Rt lv m A B S1 S2 t j) : ∃ S1' S2', f_X4_foreseeTurn 0 (Int32.ofNat t) (Int32.ofNat j) S1 = some S1' ∧ (∀ K, f_X12_layTurns_99 0 (Int32.ofNat t) (Int32.ofNat j) (Int32.ofNat (8 * t + j)) x7 K FU 0 S2 = K S2') ∧ Rt lv m A B S1' S2' t (j + 1) := by
  have G := R.gm g
  have hl := g.1
  have hN : ∀ b, b < lv → Cell m lv S1 S2 (t + 1) b := fun b h => R.2.2 (t + 1) b h (by omega) (by omega)
  have J0 : Jf S2 (8 * t + j) S2 := ⟨Fr.rf, fun _ _ => ⟨rfl, rfl, rfl⟩⟩
  obtain ⟨b, Y, hbl, hJ, r3, r4⟩ := tn_in G hb hj hm ht hN h7 FU 99999 1 0 _ (by omega) (by omega) (by omega) (by unfold FU; omega) (by omega) (J0.wr (GA := GA) (GB := GB) (S1 := S1) 0)
  have s2 := fun K => st99 (S1 := S1) G.2.2.2.2 hl G.2.2.2.1 hb hj hm ht (show 0 < lv by omega) (hN 0 (by omega)) h7 99999 K
  obtain ⟨q1, q2, q3, q4, -⟩ := hN b hbl
  have e1 := G.2.2.1 b j hbl hj
  have e2 := G.2.2.1 j b hj hbl
  have B1 := hb b j hbl hj
  have B2 := hb j b hj hbl
  have bA : Bd (XA GA S1 t j b) (58806 * (m - t)) := by
    unfold XA
    by_cases h : t % 2 = 0
    · rw [if_pos h]; exact (bd_add B1.1 q4 (by omega)).2.mono (by omega)
    · rw [if_neg h]; exact (bd_add B2.1 q3 (by omega)).2.mono (by omega)
  have bB : Bd (XB GB S1 t j b) (58806 * (m - t)) := by
    unfold XB
    by_cases h : t % 2 = 0
    · rw [if_pos h]; exact (bd_add B1.2 q3 (by omega)).2.mono (by omega)
    · rw [if_neg h]; exact (bd_add B2.2 q4 (by omega)).2.mono (by omega)
  refine ⟨si (si (si S1 42 t j (Int32.ofNat b)) 48 t j (XM GA GB S1 t j b)) 58 t j (if t % 2 = 0 then XB GB S1 t j b else XA GA S1 t j b), Y, ?_, fun K => ?_, ?_⟩
  · unfold f_X4_foreseeTurn
    have m0 := e_mover G hj (show t < 40 by omega) (show 0 < lv by omega)
    rw [show Int32.ofNat 0 = (0 : Int32) from rfl] at m0
    have r3' : ∀ K, f_X4_foreseeTurn_14 0 (Int32.ofNat t) (Int32.ofNat j) K FU 0 (XM GA GB S1 t j 0) 1 S1 = K (Int32.ofNat b) (XM GA GB S1 t j b) S1 := r3
    rw [m0]
    unfold on
    dsimp only
    rw [r3', ck_t (ib (by omega) (by omega)), ck_t (ib (by omega) (by omega))]
    simp only [bvE]
    rw [show rmI (Int32.ofNat t) 2 = Int32.ofNat (t % 2) from zR (b := 2) (by omega) (by omega), zp1, ck_t (c := inb (Int32.ofNat t) 41 = true) (ib (by omega) (by omega)), ck_t (c := inb (Int32.ofNat j) 8 = true) (ib (by omega) (by omega)), ck_t (c := inb (Int32.ofNat b) 8 = true) (ib (by omega) (by omega)), ck_t (c := inb (Int32.ofNat j) 8 = true) (ib (by omega) (by omega)), ck_t (c := inb (Int32.ofNat t) 41 = true) (ib (by omega) (by omega)), ck_t (c := inb (Int32.ofNat (t + 1)) 41 = true) (ib (by omega) (by omega)), zN (show t < 2147483648 by omega), zN (show j < 2147483648 by omega), zN (show b < 2147483648 by omega), zN (show t + 1 < 2147483648 by omega)]
    have w1 : gi (si (si S1 42 t j (Int32.ofNat b)) 48 t j (XM GA GB S1 t j b)) 48 (t + 1) b = gi S1 48 (t + 1) b := by
      rw [pgi_si, if_neg (by omega), pgi_si, if_neg (by omega)]
    have w2 : gi (si (si S1 42 t j (Int32.ofNat b)) 48 t j (XM GA GB S1 t j b)) 40 b j = GB b j := by
      rw [pgi_si, if_neg (by omega), pgi_si, if_neg (by omega)]; exact e1.2
    have w3 : gi (si (si S1 42 t j (Int32.ofNat b)) 48 t j (XM GA GB S1 t j b)) 38 j b = GA j b := by
      rw [pgi_si, if_neg (by omega), pgi_si, if_neg (by omega)]; exact e2.1
    rw [w1, w2, w3]
    unfold XB XA
    by_cases h : t % 2 = 0
    · rw [if_pos h, if_pos h, h, brp (show Int32.ofNat 0 = 0 from rfl)]
      simp only [ck_t (ib (show b < 8 by omega) (show b < 2147483648 by omega)), ck_t (ib (show j < 8 by omega) (show j < 2147483648 by omega)), ck_t (ib (show t < 41 by omega) (show t < 2147483648 by omega)), ck_t (ib (show t + 1 < 41 by omega) (show t + 1 < 2147483648 by omega))]
    · rw [if_neg h, if_neg h, show t % 2 = 1 by omega, brn (by decide)]
      simp only [ck_t (ib (show b < 8 by omega) (show b < 2147483648 by omega)), ck_t (ib (show j < 8 by omega) (show j < 2147483648 by omega)), ck_t (ib (show t < 41 by omega) (show t < 2147483648 by omega)), ck_t (ib (show t + 1 < 41 by omega) (show t + 1 < 2147483648 by omega))]
  · have := s2 K
    rw [brp (show Int32.ofNat 0 ≤ 0 by decide)] at this
    rw [show FU = 99999 + 1 from rfl]
    exact this.trans (r4 K)
  · refine ⟨R.1.tr ((Fr.si (Or.inl rfl)).tr ((Fr.si (Or.inr (Or.inl rfl))).tr (Fr.si (Or.inr (Or.inr rfl))))), R.2.1.tr hJ.1.1, fun t' j' hj' ht' hc => ?_⟩
    by_cases e : t' = t ∧ j' = j
    · obtain ⟨rfl, rfl⟩ := e
      have g42 : gi (si (si (si S1 42 t' j' (Int32.ofNat b)) 48 t' j' (XM GA GB S1 t' j' b)) 58 t' j' (if t' % 2 = 0 then XB GB S1 t' j' b else XA GA S1 t' j' b)) 42 t' j' = Int32.ofNat b := by
        rw [pgi_si, if_neg (by omega), pgi_si, if_neg (by omega), pgi_si, if_pos ⟨rfl, rfl⟩, upd_eq]
      have g48 : gi (si (si (si S1 42 t' j' (Int32.ofNat b)) 48 t' j' (XM GA GB S1 t' j' b)) 58 t' j' (if t' % 2 = 0 then XB GB S1 t' j' b else XA GA S1 t' j' b)) 48 t' j' = XM GA GB S1 t' j' b := by
        rw [pgi_si, if_neg (by omega), pgi_si, if_pos ⟨rfl, rfl⟩, upd_eq]
      have g58 : gi (si (si (si S1 42 t' j' (Int32.ofNat b)) 48 t' j' (XM GA GB S1 t' j' b)) 58 t' j' (if t' % 2 = 0 then XB GB S1 t' j' b else XA GA S1 t' j' b)) 58 t' j' = if t' % 2 = 0 then XB GB S1 t' j' b else XA GA S1 t' j' b := by
        rw [pgi_si, if_pos ⟨rfl, rfl⟩, upd_eq]
      unfold Cell
      rw [hJ.2.1, hJ.2.2.1, hJ.2.2.2]
      by_cases h : t' % 2 = 0
      · rw [if_pos h] at g42 g48 g58
        rw [if_pos h, if_pos h, if_pos h, g42, g48, g58]
        unfold XM
        rw [if_pos h]
        exact ⟨rfl, rfl, bA, bB, fun _ => ⟨b, hbl, rfl, rfl⟩⟩
      · rw [if_neg h] at g42 g48 g58
        rw [if_neg h, if_neg h, if_neg h, g42, g48, g58]
        unfold XM
        rw [if_neg h]
        exact ⟨rfl, rfl, bB, bA, fun _ => ⟨b, hbl, rfl, rfl⟩⟩
    · have old := R.2.2 t' j' hj' ht' (by omega)
      obtain ⟨o1, o2, o3⟩ := hJ.1.2 (8 * t' + j') (by omega)
      have gg : ∀ k, gi (si (si (si S1 42 t j (Int32.ofNat b)) 48 t j (XM GA GB S1 t j b)) 58 t j (if t % 2 = 0 then XB GB S1 t j b else XA GA S1 t j b)) k t' j' = gi S1 k t' j' := by
        intro k
        have one : ∀ (S : St) (k9 : Nat) (v : Int32), gi (si S k9 t j v) k t' j' = gi S k t' j' := by
          intro S k9 v
          rw [pgi_si]
          by_cases e9 : k = k9 ∧ t' = t
          · rw [if_pos e9, upd_ne (fun z => e ⟨e9.2, z⟩), e9.1, e9.2]
          · rw [if_neg e9]
        rw [one, one, one]
      unfold Cell
      rw [o1, o2, o3, gg, gg, gg, gg, gg]
      exact old
end TV
