section
-- READING: steps of the machine
def Go (c : Nat → Nat) (n p st no p' st' no' : Nat) (tks : List Int32) : Prop := ∀ (F : Nat) (ts : List Int32) (us : List Nat), n + 1 ≤ p + F → ∃ F', n + 1 ≤ p' + F' ∧ mach c n true F p st ts us no = mach c n true F' p' st' (ts ++ tks) us no'
def Fa (c : Nat → Nat) (n p st no k pl : Nat) : Prop := ∀ (F : Nat) (ts : List Int32) (us : List Nat), n + 1 ≤ p + F → mach c n true F p st ts us no = some (.inl (k, pl))
section
variable {c : Nat → Nat} {n p st no p1 st1 no1 p2 st2 no2 k pl : Nat} {t1 t2 : List Int32}
theorem Go.rf : Go c n p st no p st no [] := fun F ts us h => ⟨F, h, by rw [List.append_nil]⟩
theorem Go.tr (h1 : Go c n p st no p1 st1 no1 t1) (h2 : Go c n p1 st1 no1 p2 st2 no2 t2) : Go c n p st no p2 st2 no2 (t1 ++ t2) := fun F ts us h => by
  obtain ⟨F1, a1, a2⟩ := h1 F ts us h
  obtain ⟨F2, b1, b2⟩ := h2 F1 (ts ++ t1) us a1
  exact ⟨F2, b1, by rw [a2, b2, List.append_assoc]⟩
theorem Go.fa (h1 : Go c n p st no p1 st1 no1 t1) (h2 : Fa c n p1 st1 no1 k pl) : Fa c n p st no k pl := fun F ts us h => by
  obtain ⟨F1, a1, a2⟩ := h1 F ts us h
  rw [a2, h2 F1 _ us a1]
theorem fk_n {t us : Nat} (hs : 0 < st) (h8 : st < 8) : fk true st t us no = if t = 2 then 1 else if beR st t = 99 then 2 else if t = 109 ∧ no = 4 then 4 else 0 := by
  unfold fk
  rw [show be true st t = beR st t from if_pos rfl]
  by_cases q1 : t = 2
  · rw [if_pos q1, if_pos q1]
  rw [if_neg q1, if_neg q1]
  by_cases q2 : beR st t = 99
  · rw [if_pos q2, if_pos q2]
  rw [if_neg q2, if_neg q2, if_neg (by omega)]
  by_cases q3 : t = 109 ∧ no = 4
  · rw [if_pos q3, if_pos (Or.inr q3)]
  · rw [if_neg q3, if_neg (fun z => z.elim (fun y => by omega) q3)]
theorem go1 (hp : p ≤ n) (hs : 0 < st) (h8 : st < 8) {t : Nat} (et : (tok c n (bgn c n p)).1 = t) (hb : beR st t = st1) (h9 : st1 < 11) (ht : ¬ t = 0) (h2 : ¬ t = 2) (hn : ¬ (t = 109 ∧ no = 4)) (e1 : no1 = if t = 109 then no + 1 else 0) : Go c n p st no (tok c n (bgn c n p)).2 st1 no1 [tc t] := fun F ts us h => by
  have bb := bgn_ge (c := c) hp
  have ta := tok_all (c := c) (n := n) (b := bgn c n p)
  obtain ⟨F, rfl⟩ : ∃ x, F = x + 1 := ⟨F - 1, by omega⟩
  have f0 : fk true st t us.length no = 0 := by
    rw [fk_n hs h8, if_neg h2, if_neg (by omega), if_neg hn]
  refine ⟨F, by rw [et] at ta; omega, ?_⟩
  rw [mach, et, if_neg (fun z => z f0), if_neg ht, show be true st t = beR st t from if_pos rfl, hb, if_neg (show ¬ st = 0 by omega), e1]
theorem fa1 (hp : p ≤ n) (hs : 0 < st) (h8 : st < 8) {t : Nat} (et : (tok c n (bgn c n p)).1 = t) (hk : k = if t = 2 then 1 else if beR st t = 99 then 2 else if t = 109 ∧ no = 4 then 4 else 0) (h0 : ¬ k = 0) : Fa c n p st no k (bgn c n p) := fun F ts us h => by
  obtain ⟨F, rfl⟩ : ∃ x, F = x + 1 := ⟨F - 1, by omega⟩
  have f0 : fk true st t us.length no = k := by rw [fk_n hs h8, hk]
  rw [mach, et, f0, if_pos h0]
end
-- READING: what the reference has before it
def D2 (Z : St) (fr r : Nat → Int32) : St := ai (ai Z 67 0 fr) 60 0 r
section
variable {Z : St} {fr r : Nat → Int32} {j : Nat} {v : Int32}
theorem D2_60 : si (D2 Z fr r) 60 0 j v = D2 Z fr (upd r j v) := si_ai
theorem D2_67 : si (D2 Z fr r) 67 0 j v = D2 Z (upd fr j v) r := by
  show ai (D2 Z fr r) 67 0 (upd fr j v) = _
  unfold D2
  rw [ai_comm (by decide), ai_ai]
theorem D2_g : gi (D2 Z fr r) 60 0 = r := gai
theorem D2_h : gi (D2 Z fr r) 67 0 = fr := rfl
end
/-- what reading leaves as it was -/
def Fx (r r' : Nat → Int32) : Prop := ∀ j, j < 11 ∨ j = 18 ∨ j = 19 ∨ 22 ≤ j → r' j = r j
theorem Fx.rf {r : Nat → Int32} : Fx r r := fun _ _ => rfl
theorem Fx.tr {r r1 r2 : Nat → Int32} (h1 : Fx r r1) (h2 : Fx r1 r2) : Fx r r2 := fun j hj => (h2 j hj).trans (h1 j hj)
theorem Fx.up {r : Nat → Int32} {k : Nat} {v : Int32} (h : ¬ (k < 11 ∨ k = 18 ∨ k = 19 ∨ 22 ≤ k)) : Fx r (upd r k v) := fun j hj => upd_ne (fun z => h (by rw [← z]; exact hj))
/-- no fault so far: the token from p on lies before it, cd is written, rn is the count of nots -/
def Gd (c : Nat → Nat) (n : Nat) (fr r : Nat → Int32) (p : Nat) (cd : List Int32) (rn : Nat) : Prop := p ≤ n ∧ Cu c n r p ∧ r 16 = 0 ∧ r 20 = Int32.ofNat cd.length ∧ r 21 = Int32.ofNat rn ∧ ∀ i, i < cd.length → fr i = cd.getD i 0
def Bz (r : Nat → Int32) (k pl : Nat) : Prop := k ≠ 0 ∧ k ≤ 4 ∧ r 16 = Int32.ofNat k ∧ r 17 = Int32.ofNat pl ∧ ∃ top, top < 440 ∧ r 20 = Int32.ofNat top
theorem Bz.n {r : Nat → Int32} {k pl : Nat} (h : Bz r k pl) : ¬ r 16 = 0 := by
  rw [h.2.2.1]
  exact fun z => h.1 ((zE (b := 0) (by have := h.2.1; omega) (by omega)).mp z)
section
variable {Z : St} {c : Nat → Nat} {n : Nat} {fr r : Nat → Int32} {p rn : Nat} {cd : List Int32}
theorem g_next (h : Tpr Z c n) (g : Gd c n fr r p cd rn) : ∃ r', f_X12_next 0 (D2 Z fr r) = some (D2 Z fr r') ∧ Gd c n fr r' (tok c n (bgn c n p)).2 cd rn ∧ Fx r r' := by
  obtain ⟨g1, g2, g3, g4, g5, g6⟩ := g
  have bb := bgn_ge (c := c) g1
  have ta := tok_all (c := c) (n := n) (b := bgn c n p)
  have h' : Tpr (ai Z 67 0 fr) c n := h
  obtain ⟨r', a1, a2, a3⟩ := rNext h' (r := r) (p := (tok c n (bgn c n p)).2) (by omega) g2.1 g2.2.1
  exact ⟨r', a1, ⟨by omega, a2, by rw [a3 16 (by omega)]; exact g3, by rw [a3 20 (by omega)]; exact g4, by rw [a3 21 (by omega)]; exact g5, g6⟩, fun j hj => a3 j (by omega)⟩
theorem g_puts (g : Gd c n fr r p cd rn) (hl : cd.length < 440) (v : Int32) : ∃ fr' r', f_X12_puts 0 v (D2 Z fr r) = some (D2 Z fr' r') ∧ Gd c n fr' r' p (cd ++ [v]) rn ∧ Fx r r' := by
  obtain ⟨g1, g2, g3, g4, g5, g6⟩ := g
  refine ⟨upd fr cd.length v, upd r 20 (Int32.ofNat (cd.length + 1)), ?_, ⟨g1, ?_, ?_, ?_, ?_, ?_⟩, Fx.up (by omega)⟩
  · unfold f_X12_puts
    rw [D2_g, g3, brp rfl, g4, ck_t (ib hl (by omega)), zN (by omega), bvN, D2_67, bvN, D2_g, g4, zp1, D2_60]
  · unfold Cu at g2 ⊢
    rw [upd_ne (by decide), upd_ne (by decide), upd_ne (by decide), upd_ne (by decide), upd_ne (by decide), upd_ne (by decide)]
    exact g2
  · rw [upd_ne (by decide)]; exact g3
  · rw [upd_eq, List.length_append]; rfl
  · rw [upd_ne (by decide)]; exact g5
  · intro i hi
    rw [List.length_append] at hi
    have hi : i < cd.length + 1 := hi
    by_cases e : i = cd.length
    · rw [e, upd_eq, (getD_snoc (i := 0)).2]
    · rw [upd_ne e, getD_snoc.1 (show i < cd.length by omega)]; exact g6 i (by omega)
theorem b_puts {k pl : Nat} (h : Bz r k pl) {v : Int32} : f_X12_puts 0 v (D2 Z fr r) = some (D2 Z fr r) := by
  unfold f_X12_puts
  rw [D2_g, brn h.n]
theorem kd4 {t : Nat} : kd t = 4 ↔ t = 2 := by
  unfold kd
  by_cases h0 : t = 0
  · rw [if_pos h0]; exact ⟨fun z => absurd z (by decide), fun z => by omega⟩
  rw [if_neg h0]
  by_cases h2 : t = 2
  · rw [if_pos h2]; exact ⟨fun _ => h2, fun _ => rfl⟩
  rw [if_neg h2]
  refine ⟨fun z => absurd z ?_, fun z => absurd z h2⟩
  split
  · decide
  · split <;> decide
theorem g_blames (g : Gd c n fr r p cd rn) (hl : cd.length < 440) {k : Nat} (hk : k ≠ 0) (hk4 : k ≤ 4) : ∃ r', f_X12_blames 0 (Int32.ofNat k) (D2 Z fr r) = some (D2 Z fr r') ∧ Bz r' (if (tok c n (bgn c n p)).1 = 2 then 1 else k) (bgn c n p) ∧ Fx r r' := by
  obtain ⟨g1, g2, g3, g4, g5, g6⟩ := g
  refine ⟨upd (upd r 16 (Int32.ofNat (if (tok c n (bgn c n p)).1 = 2 then 1 else k))) 17 (Int32.ofNat (bgn c n p)), ?_, ⟨?_, ?_, ?_, upd_eq, cd.length, hl, ?_⟩, (Fx.up (by omega)).tr (Fx.up (by omega))⟩
  · unfold f_X12_blames
    rw [D2_g, g3, brp rfl, g2.2.2.2.1]
    have g12 : ∀ v : Int32, upd r 16 v 12 = Int32.ofNat (bgn c n p) := fun v => by rw [upd_ne (by decide)]; exact g2.2.2.1
    simp only [bvN, D2_60, D2_g, g12]
    by_cases e : (tok c n (bgn c n p)).1 = 2
    · rw [brp (kd4.mpr e), if_pos e]; rfl
    · rw [brn (fun z => e (kd4.mp z)), if_neg e]
  · split <;> omega
  · split <;> omega
  · rw [upd_ne (by decide), upd_eq]
  · rw [upd_ne (by decide), upd_ne (by decide)]; exact g4
theorem g_word (h : Tpr Z c n) (g : Gd c n fr r p cd rn) {w j : Nat} (hj : j < 23) (hw : sby w = (wds.getD j []).map Int32.ofNat) : f_X12_isWord 0 w (D2 Z fr r) = some (if (tok c n (bgn c n p)).1 = 100 + j then 1 else 0) := by
  have h' : Tpr (ai Z 67 0 fr) c n := h
  have := isW h' g.2.1 hj hw
  rw [g.2.2.1] at this
  refine this.trans ?_
  by_cases e : (tok c n (bgn c n p)).1 = 100 + j
  · rw [if_pos e, if_pos ⟨rfl, e⟩]
  · rw [if_neg e, if_neg (fun z => e z.2)]
theorem b_word {k pl w : Nat} (h : Bz r k pl) : f_X12_isWord 0 w (D2 Z fr r) = some 0 := by
  have F : FU = 99999 + 1 := rfl
  unfold f_X12_isWord
  rw [D2_g]
  simp only [bvN]
  rw [brn h.n, F, f_X12_isWord_39, brp rfl, ck_t (Or.inl rfl)]
theorem g_wy (h : Tpr Z c n) (g : Gd c n fr r p cd rn) {w j : Nat} (hj : j < 23) (hw : sby w = (wds.getD j []).map Int32.ofNat) (e : (tok c n (bgn c n p)).1 = 100 + j) : f_X12_isWord 0 w (D2 Z fr r) = some 1 := by rw [g_word h g hj hw, if_pos e]
theorem g_wn (h : Tpr Z c n) (g : Gd c n fr r p cd rn) {w j : Nat} (hj : j < 23) (hw : sby w = (wds.getD j []).map Int32.ofNat) (e : ¬ (tok c n (bgn c n p)).1 = 100 + j) : f_X12_isWord 0 w (D2 Z fr r) = some 0 := by rw [g_word h g hj hw, if_neg e]
end
end
