section
-- READING: the class's words
theorem sby3 : sby 3 = wds.flatMap (fun w => w.map Int32.ofNat ++ [32]) := by decide +kernel
theorem wds_c : ∀ w ∈ wds, (∀ x ∈ w, 97 ≤ x ∧ x ≤ 122) ∧ w.length ≤ 8 := by decide +kernel
section
variable {S : St} {c : Nat → Nat} {n : Nat}
theorem dr_get {l : List Int32} {k : Nat} {x : Int32} {r : List Int32} (h : l.drop k = x :: r) : k < l.length ∧ l.getD k 0 = x ∧ l.drop (k + 1) = r := by
  have hk : k < l.length := by
    have := congrArg List.length h
    rw [List.length_drop, List.length_cons] at this
    omega
  refine ⟨hk, ?_, ?_⟩
  · have e := congrArg List.head? h
    rw [List.head?_drop, List.head?_cons] at e
    rw [List.getD_eq_getElem?_getD, e]; rfl
  · rw [← List.drop_drop, h]; rfl
theorem cw1 (h : Tpc S c n) {r : Nat → Int32} {b e : Nat} (h8 : r 8 = Int32.ofNat b) (h9 : r 9 = Int32.ofNat e) (he : e ≤ n) {K : Unit → Option Int32} {rest : List Int32} {cd : Nat} (hcd : cd < 1000) : ∀ (w : List Nat) (m a k : Nat) (s : Bool), (∀ x ∈ w, 97 ≤ x ∧ x ≤ 122) → k < 1000 → a + w.length < 1000 → (s = true → a ≤ e) → (sby 3).drop k = w.map Int32.ofNat ++ 32 :: rest → f_X9_codeOfWord_13 0 (ai S 28 0 r) K (m + (w.length + 1)) (Int32.ofNat cd) (Int32.ofNat a) (bo1 s) (Int32.ofNat k) = if s = true ∧ tx c a e = w then some (Int32.ofNat cd) else f_X9_codeOfWord_13 0 (ai S 28 0 r) K m (Int32.ofNat (cd + 1)) (Int32.ofNat b) 1 (Int32.ofNat (k + (w.length + 1))) := by
  have h4 := h.1
  have t29 : gi (ai S 28 0 r) 29 0 = gi S 29 0 := rfl
  have sl : slen 3 = Int32.ofNat (sby 3).length := rfl
  have sn : (sby 3).length < 1000 := by decide +kernel
  intro w
  induction w with
  | nil =>
    intro m a k s _ hk ha hs hd
    obtain ⟨q1, q2, q3⟩ := dr_get (x := 32) (r := rest) hd
    have ch : schr 3 (Int32.ofNat k) = 32 := by unfold schr; rw [zN (by omega), q2]; decide
    rw [show m + (([] : List Nat).length + 1) = m + 1 from rfl, f_X9_codeOfWord_13, sl, brn (fun z => absurd ((zLE (by omega) (by omega)).mp z) (by omega)), ck_t (ib q1 (by omega)), ch]
    simp only [bvN, gai, h8, h9, zp1]
    rw [brp trivial]
    cases s with
    | false => rw [brp (show bo1 false = 0 by decide), if_neg (fun z => absurd z.1 (by decide))]; rfl
    | true =>
      rw [brn (show ¬ bo1 true = 0 by decide)]
      have ha := hs rfl
      by_cases e1 : a = e
      · rw [brp (by rw [e1]), if_pos ⟨rfl, tx_nil (by omega)⟩]
      · rw [brn (fun z => e1 ((zE (by omega) (by omega)).mp z)), if_neg (fun z => by
          rw [tx_cons (show a < e by omega)] at z
          exact absurd z.2 (List.cons_ne_nil _ _))]; rfl
  | cons x w ih =>
    intro m a k s hx hk ha hs hd
    rw [List.map_cons, List.cons_append] at hd
    obtain ⟨q1, q2, q3⟩ := dr_get hd
    obtain ⟨x1, x2⟩ := hx x (List.mem_cons_self)
    rw [List.length_cons] at ha
    have ch : schr 3 (Int32.ofNat k) = Int32.ofNat x := by unfold schr; rw [zN (by omega), q2, (byt (S := S) (d := x) (by omega)).2.2.2.2.2.2.2.2.1]
    have go : ∀ s' : Bool, (s' = true → a + 1 ≤ e) → (s' = true ∧ tx c (a + 1) e = w ↔ s = true ∧ tx c a e = x :: w) → f_X9_codeOfWord_13 0 (ai S 28 0 r) K (m + (w.length + 1)) (Int32.ofNat cd) (Int32.ofNat (a + 1)) (bo1 s') (Int32.ofNat (k + 1)) = if s = true ∧ tx c a e = x :: w then some (Int32.ofNat cd) else f_X9_codeOfWord_13 0 (ai S 28 0 r) K m (Int32.ofNat (cd + 1)) (Int32.ofNat b) 1 (Int32.ofNat (k + ((x :: w).length + 1))) := by
      intro s' h1 h2
      rw [ih m (a + 1) (k + 1) s' (fun y hy => hx y (List.mem_cons_of_mem _ hy)) (by omega) (by omega) h1 q3, List.length_cons, show k + 1 + (w.length + 1) = k + (w.length + 1 + 1) by omega]
      by_cases e1 : s' = true ∧ tx c (a + 1) e = w
      · rw [if_pos e1, if_pos (h2.mp e1)]
      · rw [if_neg e1, if_neg (fun z => e1 (h2.mpr z))]
    rw [show m + ((x :: w).length + 1) = (m + (w.length + 1)) + 1 from rfl, f_X9_codeOfWord_13, sl, brn (fun z => absurd ((zLE (by omega) (by omega)).mp z) (by omega)), ck_t (ib q1 (by omega)), ch]
    simp only [bvN, gai, h8, h9, zp1, t29]
    rw [brn (show ¬ Int32.ofNat x = 32 from fun z => absurd ((zE (b := 32) (by omega) (by omega)).mp z) (by omega))]
    cases s with
    | false =>
      rw [brp (show bo1 false = 0 by decide)]
      exact go false (fun z => absurd z (by decide)) ⟨fun z => absurd z.1 (by decide), fun z => absurd z.1 (by decide)⟩
    | true =>
      rw [brn (show ¬ bo1 true = 0 by decide)]
      have ha9 := hs rfl
      by_cases e1 : e ≤ a
      · rw [brp ((zLE (by omega) (by omega)).mpr e1)]
        exact go false (fun z => absurd z (by decide)) ⟨fun z => absurd z.1 (by decide), fun z => by
          rw [tx_nil e1] at z
          exact absurd z.2.symm (List.cons_ne_nil _ _)⟩
      · rw [brn (fun z => e1 ((zLE (by omega) (by omega)).mp z)), ck_t (ib (by omega) (by omega)), zN (by omega), (h.2 a (by omega)).2]
        have tcs : tx c a e = c a :: tx c (a + 1) e := tx_cons (by omega)
        by_cases e2 : c a = x
        · rw [brp ((nb_ch (h.2 a (by omega)).1 (by omega)).mpr e2)]
          refine go true (fun _ => by omega) ⟨fun z => ⟨rfl, by rw [tcs, e2, z.2]⟩, fun z => ⟨rfl, ?_⟩⟩
          rw [tcs] at z
          exact (List.cons.inj z.2).2
        · rw [brn (fun z => e2 ((nb_ch (h.2 a (by omega)).1 (by omega)).mp z))]
          refine go false (fun z => absurd z (by decide)) ⟨fun z => absurd z.1 (by decide), fun z => ?_⟩
          rw [tcs] at z
          exact absurd (List.cons.inj z.2).1 e2
theorem cw2 (h : Tpc S c n) {r : Nat → Int32} {b e : Nat} (h8 : r 8 = Int32.ofNat b) (h9 : r 9 = Int32.ofNat e) (hb : b ≤ e) (he : e ≤ n) : ∀ (ws : List (List Nat)) (m k cd : Nat), (∀ w ∈ ws, (∀ x ∈ w, 97 ≤ x ∧ x ≤ 122) ∧ w.length ≤ 8) → k + 9 * ws.length < 1000 → cd + ws.length < 1000 → 100 ≤ cd → 9 * ws.length < m → (sby 3).drop k = ws.flatMap (fun w => w.map Int32.ofNat ++ [32]) → f_X9_codeOfWord_13 0 (ai S 28 0 r) (fun _ => some (-1)) m (Int32.ofNat cd) (Int32.ofNat b) 1 (Int32.ofNat k) = some (tc (lk (tx c b e) ws cd)) := by
  have h4 := h.1
  have sl : slen 3 = Int32.ofNat (sby 3).length := rfl
  have sn : (sby 3).length < 1000 := by decide +kernel
  intro ws
  induction ws with
  | nil =>
    intro m k cd _ hk hc h1 hm hd
    obtain ⟨m, rfl⟩ : ∃ x, m = x + 1 := ⟨m - 1, by omega⟩
    have := congrArg List.length hd
    rw [List.length_drop] at this
    have : (sby 3).length - k = 0 := this
    rw [f_X9_codeOfWord_13, sl, brp ((zLE (by omega) (by omega)).mpr (by omega))]; rfl
  | cons w ws ih =>
    intro m k cd hw hk hc h1 hm hd
    rw [List.length_cons] at hk hc hm
    obtain ⟨w1, w2⟩ := hw w (List.mem_cons_self)
    obtain ⟨m9, rfl⟩ : ∃ x, m = x + (w.length + 1) := ⟨m - (w.length + 1), by omega⟩
    rw [List.flatMap_cons, List.append_assoc] at hd
    have d2 : (sby 3).drop (k + (w.length + 1)) = ws.flatMap (fun w => w.map Int32.ofNat ++ [32]) := by
      rw [← List.drop_drop, hd, show w.length + 1 = (w.map Int32.ofNat).length + 1 by rw [List.length_map], List.drop_append, List.drop_eq_nil_of_le (by omega), show (w.map Int32.ofNat).length + 1 - (w.map Int32.ofNat).length = 1 by omega]; rfl
    have e1 := cw1 h h8 h9 he (K := fun _ => some (-1)) (cd := cd) (rest := ws.flatMap (fun (w : List Nat) => w.map Int32.ofNat ++ [32])) (by omega) w m9 b k true w1 (by omega) (by omega) (fun _ => hb) hd
    rw [show bo1 true = 1 from rfl] at e1
    rw [e1, lk]
    by_cases q : tx c b e = w
    · rw [if_pos ⟨rfl, q⟩, if_pos q, tc_n (by omega) (by omega)]
    · rw [if_neg (fun z => q z.2), if_neg q]
      exact ih m9 (k + (w.length + 1)) (cd + 1) (fun w hw9 => hw w (List.mem_cons_of_mem _ hw9)) (by omega) (by omega) (by omega) (by omega) d2
theorem cWord (h : Tpc S c n) {r : Nat → Int32} {b e : Nat} (h8 : r 8 = Int32.ofNat b) (h9 : r 9 = Int32.ofNat e) (hb : b ≤ e) (he : e ≤ n) : f_X9_codeOfWord 0 (ai S 28 0 r) = some (tc (lk (tx c b e) wds 100)) := by
  unfold f_X9_codeOfWord
  rw [gai, h8, bvN]
  have := cw2 h h8 h9 hb he wds FU 0 100 wds_c (by decide) (by decide) (by decide) (by decide) sby3
  exact this
end
end
