section
-- READING: a number, a stop, a rule
section
variable {Z : St} {c : Nat → Nat} {n : Nat} {fr r : Nat → Int32} {p rn : Nat} {cd : List Int32}
theorem i64N {a b : Nat} (ha : a < 2147483648) (hb : b < 2147483648) : (Int32.ofNat a ≤ Int32.ofNat b) ↔ a ≤ b := zLE ha hb
theorem g_number (h : Tpr Z c n) (g : Gd c n fr r p cd rn) (hl : cd.length < 440) {lo hi : Nat} (hlo : lo < 1000) (hhi : hi < 1000) : (200 ≤ (tok c n (bgn c n p)).1 ∧ lo ≤ (tok c n (bgn c n p)).1 - 200 ∧ (tok c n (bgn c n p)).1 - 200 ≤ hi → ∃ r', f_X12_number 0 (Int32.ofNat lo) (Int32.ofNat hi) (D2 Z fr r) = some (Int32.ofNat ((tok c n (bgn c n p)).1 - 200), D2 Z fr r') ∧ Gd c n fr r' (tok c n (bgn c n p)).2 cd rn ∧ Fx r r') ∧ (¬ (200 ≤ (tok c n (bgn c n p)).1 ∧ lo ≤ (tok c n (bgn c n p)).1 - 200 ∧ (tok c n (bgn c n p)).1 - 200 ≤ hi) → ∃ v r', f_X12_number 0 (Int32.ofNat lo) (Int32.ofNat hi) (D2 Z fr r) = some (v, D2 Z fr r') ∧ Bz r' (if 200 ≤ (tok c n (bgn c n p)).1 then 3 else if (tok c n (bgn c n p)).1 = 2 then 1 else 2) (bgn c n p) ∧ Fx r r') := by
  have t3 := (tk_pos (c := c) g.1).1
  unfold f_X12_number
  rw [D2_g, g.2.1.2.2.2.1]
  simp only [bvN, D2_g]
  by_cases e : 200 ≤ (tok c n (bgn c n p)).1
  · have e14 := g.2.1.2.2.2.2.1 e
    rw [brp (kd2.mpr e), e14, e_wi (lo := Int32.ofNat lo) (hi := Int32.ofNat hi) rfl rfl, onS]
    constructor
    · intro q
      obtain ⟨r1, a1, a2, a3⟩ := g_next h g
      rw [if_pos ⟨(zLE (by omega) (by omega)).mpr q.2.1, (zLE (by omega) (by omega)).mpr q.2.2⟩, brn (by decide), g.2.2.1, brp rfl, a1, onS]
      exact ⟨r1, rfl, a2, a3⟩
    · intro q
      obtain ⟨r1, a1, a2, a3⟩ := g_blames (Z := Z) g hl (k := 3) (by decide) (by decide)
      rw [if_neg (fun z => q ⟨e, (zLE (by omega) (by omega)).mp z.1, (zLE (by omega) (by omega)).mp z.2⟩), brp rfl, show (3 : Int32) = Int32.ofNat 3 from rfl, a1, onS, D2_g, brn a2.n, if_pos e]
      rw [if_neg (show ¬ (tok c n (bgn c n p)).1 = 2 by omega)] at a2
      exact ⟨_, r1, rfl, a2, a3⟩
  · rw [brn (fun z => e (kd2.mp z))]
    refine ⟨fun q => absurd q.1 e, fun _ => ?_⟩
    obtain ⟨r1, a1, a2, a3⟩ := g_blames (Z := Z) g hl (k := 2) (by decide) (by decide)
    rw [show (2 : Int32) = Int32.ofNat 2 from rfl, a1, onS, D2_g, brn a2.n, if_neg e]
    exact ⟨_, r1, rfl, a2, a3⟩
theorem b_stop {k pl : Nat} (h : Bz r k pl) : f_X12_stop 0 (D2 Z fr r) = some (D2 Z fr r) := by
  unfold f_X12_stop
  simp only [bvN, D2_g]
  rw [brn h.n, brn h.n]
theorem g_stop (h : Tpr Z c n) (g : Gd c n fr r p cd rn) (hl : cd.length < 440) : ((tok c n (bgn c n p)).1 = 59 → ∃ r', f_X12_stop 0 (D2 Z fr r) = some (D2 Z fr r') ∧ Gd c n fr r' (tok c n (bgn c n p)).2 cd rn ∧ Fx r r') ∧ (¬ (tok c n (bgn c n p)).1 = 59 → ∃ r', f_X12_stop 0 (D2 Z fr r) = some (D2 Z fr r') ∧ Bz r' (if (tok c n (bgn c n p)).1 = 2 then 1 else 2) (bgn c n p) ∧ Fx r r') := by
  have t3 := (tk_pos (c := c) g.1).1
  have i59 : (sgv (tok c n (bgn c n p)).1 = 59) ↔ (tok c n (bgn c n p)).1 = 59 := sgvE (k := 59) t3 (by omega) (by omega)
  unfold f_X12_stop
  simp only [bvN, D2_g]
  rw [g.2.2.1, brp rfl, g.2.1.2.2.2.2.2]
  constructor
  · intro e
    obtain ⟨r1, a1, a2, a3⟩ := g_next h g
    rw [brp (i59.mpr e), brp rfl, a1, onS]
    exact ⟨r1, rfl, a2, a3⟩
  · intro e
    obtain ⟨r1, a1, a2, a3⟩ := g_blames (Z := Z) g hl (k := 2) (by decide) (by decide)
    rw [brn (fun z => e (i59.mp z)), show (2 : Int32) = Int32.ofNat 2 from rfl, a1, onS, D2_g, brn a2.n]
    exact ⟨r1, rfl, a2, a3⟩
/-- a rule's end -/
def tl3 (x3 : Int32) (S_28 : St) : Option St := ck (inb x3 440 = true) (bv (si S_28 67 0 (nn x3) (((gi S_28 60 0 20) - x3) - 1)) (fun S_31 => on (f_X12_stop 0 S_31) (fun S_33 => ck (inb 0 440 = true) (ck (inb 0 440 = true) (bv (si S_33 67 0 (nn 0) ((gi S_33 67 0 (nn 0)) + 1)) (fun S_36 => some S_36))))))
/-- a rule behind its amount -/
def tl2 (r_2 v_16 : Int32) (S_17 : St) : Option St := on (f_X12_puts 0 r_2 S_17) (fun S_20 => on (f_X12_puts 0 v_16 S_20) (fun S_22 => bv (gi S_22 60 0 20) (fun x3_23 => on (f_X12_puts 0 0 S_22) (fun S_25 => on (f_X12_isWord 0 24 S_25) (fun r_27 => bv (tl3 x3_23) (fun J_29 => br (r_27 = 0) (J_29 S_25) (on (f_X12_next 0 S_25) (fun S_39 => bv (si S_39 60 0 21 0) (fun S_40 => on (f_X12_readSome 0 S_40) (fun S_42 => J_29 S_42))))))))))
theorem rr_eq (S : St) : f_X12_readRule 0 S = on (f_X12_doing 0 S) (fun r_2 => bv (fun  (S_3 : St) => bv (fun (v_5 : Int32) (S_6 : St) => on (f_X12_blames 0 v_5 S_6) (fun S_9 => some S_9)) (fun J_7 => br (r_2 = ((-1))) (J_7 2 S_3) (J_7 4 S_3))) (fun J_4 => br (r_2 = ((-1))) (J_4 S) (ck (inb 0 440 = true) (br ((gi S 67 0 (nn 0)) = 12) (J_4 S) (on (f_X12_next 0 S) (fun S_15 => bv (tl2 r_2) (fun J_18 => br (4 ≤ r_2) (J_18 0 S_15) (on2 (f_X12_number 0 0 99 S_15) (fun r_46 S_45 => J_18 r_46 S_45))))))))) := rfl
theorem b_tl3 {k pl x : Nat} (h : Bz r k pl) (hx : x < 440) : ∃ fr', tl3 (Int32.ofNat x) (D2 Z fr r) = some (D2 Z fr' r) := by
  unfold tl3
  rw [ck_t (ib hx (by omega)), bvN, D2_67, b_stop h, onS, ck_t (by decide), ck_t (by decide), bvN, D2_67]
  exact ⟨_, rfl⟩
theorem b_tl2 {k pl : Nat} (h : Bz r k pl) {a v : Int32} : ∃ fr', tl2 a v (D2 Z fr r) = some (D2 Z fr' r) := by
  unfold tl2
  obtain ⟨top, h1, h2⟩ := h.2.2.2.2
  rw [b_puts h, onS, b_puts h, onS, bvN, D2_g, h2, b_puts h, onS, b_word h, onS, bvN, brp rfl]
  exact b_tl3 h h1
theorem Gd.set (g : Gd c n fr r p cd rn) {j : Nat} {v : Int32} (hj : j < cd.length) : Gd c n (upd fr j v) r p (cd.set j v) rn := by
  obtain ⟨g1, g2, g3, g4, g5, g6⟩ := g
  refine ⟨g1, g2, g3, by rw [List.length_set]; exact g4, g5, fun i hi => ?_⟩
  rw [List.length_set] at hi
  rw [List.getD_eq_getElem?_getD, List.getElem?_set]
  by_cases e : i = j
  · rw [e, upd_eq, if_pos rfl, if_pos hj]; rfl
  · rw [upd_ne e, if_neg (fun z => e z.symm), ← List.getD_eq_getElem?_getD]; exact g6 i hi
theorem r_tl3 (h : Tpr Z c n) {hd a v : Int32} {tl O : List Int32} {st : Nat} (h0 : 0 < st) (h8 : st < 8) (g : Gd c n fr r p (hd :: tl ++ (a :: v :: 0 :: O)) rn) (hl : (hd :: tl ++ (a :: v :: 0 :: O)).length < 440) (hb : beR st (tok c n (bgn c n p)).1 = if (tok c n (bgn c n p)).1 = 59 then 0 else 99) : ∃ fr' r', tl3 (Int32.ofNat ((hd :: tl).length + 2)) (D2 Z fr r) = some (D2 Z fr' r') ∧ Fx r r' ∧ ((∃ k pl, Bz r' k pl ∧ Fa c n p st 0 k pl) ∨ ∃ p', p < p' ∧ Gd c n fr' r' p' ((hd + 1) :: (tl ++ (a :: v :: Int32.ofNat O.length :: O))) rn ∧ Go c n p st 0 p' 0 0 [59]) := by
  have ln : (hd :: tl ++ (a :: v :: 0 :: O)).length = tl.length + 4 + O.length := by rw [List.length_append, List.length_cons, List.length_cons, List.length_cons, List.length_cons]; omega
  have l1 : (hd :: tl).length = tl.length + 1 := rfl
  have dif : Int32.ofNat (hd :: tl ++ (a :: v :: 0 :: O)).length - Int32.ofNat ((hd :: tl).length + 2) - 1 = Int32.ofNat O.length := by
    rw [zS _ (by rw [ln, l1]; omega), zSub1 (by rw [ln, l1]; omega)]
    congr 1
    rw [ln, l1]; omega
  have s1 := g.set (j := (hd :: tl).length + 2) (v := Int32.ofNat O.length) (by rw [ln, l1]; omega)
  have es : (hd :: tl ++ (a :: v :: 0 :: O)).set ((hd :: tl).length + 2) (Int32.ofNat O.length) = hd :: tl ++ (a :: v :: Int32.ofNat O.length :: O) := by
    rw [List.set_append_right _ _ (by omega), show (hd :: tl).length + 2 - (hd :: tl).length = 2 by omega]; rfl
  rw [es] at s1
  have ln2 : (hd :: tl ++ (a :: v :: Int32.ofNat O.length :: O)).length = tl.length + 4 + O.length := by rw [List.length_append, List.length_cons, List.length_cons, List.length_cons, List.length_cons]; omega
  unfold tl3
  rw [ck_t (ib (by rw [l1]; omega) (by rw [l1]; omega)), zN (by rw [l1]; omega), D2_g, g.2.2.2.1, dif, bvN, D2_67]
  obtain ⟨y, no9⟩ := g_stop h s1 (by omega)
  have f0 : upd fr ((hd :: tl).length + 2) (Int32.ofNat O.length) 0 = hd := by
    have := s1.2.2.2.2.2 0 (by omega)
    exact this
  by_cases e : (tok c n (bgn c n p)).1 = 59
  · obtain ⟨r1, a1, a2, a3⟩ := y e
    have s2 := a2.set (j := 0) (v := hd + 1) (by omega)
    rw [a1, onS, ck_t (by decide), ck_t (by decide), D2_h, show upd fr ((hd :: tl).length + 2) (Int32.ofNat O.length) (nn 0) = hd from f0, bvN, D2_67]
    refine ⟨_, r1, rfl, a3, Or.inr ⟨(tok c n (bgn c n p)).2, (tk_pos (c := c) g.1).2.2.2 (by omega), s2, ?_⟩⟩
    have := go1 (c := c) (no := 0) (no1 := 0) g.1 h0 h8 e (by rw [← e, hb, if_pos e]) (by decide) (by decide) (by decide) (by decide) rfl
    exact this
  · obtain ⟨r1, a1, a2, a3⟩ := no9 e
    rw [a1, onS, ck_t (by decide), ck_t (by decide), bvN, D2_67]
    refine ⟨_, r1, rfl, a3, Or.inl ⟨_, _, a2, fa1 g.1 h0 h8 rfl ?_ (by split <;> decide)⟩⟩
    rw [hb, if_neg e, if_pos rfl]
theorem r_tl2 (h : Tpr Z c n) {hd a v : Int32} {tl : List Int32} {K : Nat} (hK : K ≤ 20) (g : Gd c n fr r p (hd :: tl) rn) (hl : (hd :: tl).length + 3 ≤ p + K) : ∃ fr' r', tl2 a v (D2 Z fr r) = some (D2 Z fr' r') ∧ Fx r r' ∧ ((∃ k pl, Bz r' k pl ∧ Fa c n p 2 0 k pl) ∨ ∃ p' os rn', (∀ a ∈ os, a ≠ [] ∧ ∀ x ∈ a, okC x) ∧ (cdO os).length + p + 1 ≤ p' ∧ Gd c n fr' r' p' ((hd + 1) :: (tl ++ (a :: v :: Int32.ofNat (cdO os).length :: cdO os))) rn' ∧ Go c n p 2 0 p' 0 0 ((if os = [] then [] else 106 :: tkO os) ++ [59])) := by
  have h4 := h.1
  have p4 := g.1
  obtain ⟨fr1, r1, a1, a2, a3⟩ := g_puts (Z := Z) g (by omega) a
  obtain ⟨fr2, r2, b1, b2, b3⟩ := g_puts (Z := Z) a2 (by rw [List.length_append]; show _ + 1 < 440; omega) v
  obtain ⟨fr3, r3, d1, d2, d3⟩ := g_puts (Z := Z) b2 (by rw [List.length_append, List.length_append]; show _ + 1 + 1 < 440; omega) 0
  have x3 : r2 20 = Int32.ofNat ((hd :: tl).length + 2) := by
    rw [b2.2.2.2.1, List.length_append, List.length_append]; rfl
  rw [List.append_assoc, List.append_assoc] at d2
  have d2 : Gd c n fr3 r3 p (hd :: tl ++ (a :: v :: 0 :: [])) rn := d2
  have l2 : ∀ O : List Int32, (hd :: tl ++ (a :: v :: 0 :: O)).length = (hd :: tl).length + 3 + O.length := fun O => by simp only [List.length_append, List.length_cons]; omega
  have fx : Fx r r3 := a3.tr (b3.tr d3)
  unfold tl2
  rw [a1, onS, b1, onS, bvN, D2_g, x3, d1, onS]
  obtain ⟨t3, -, e2, e3⟩ := tk_pos (c := c) g.1
  by_cases q : (tok c n (bgn c n p)).1 = 106
  case neg =>
    rw [g_wn h d2 (w := 24) (j := 6) (by decide) (by decide +kernel) q, onS, bvN, brp rfl]
    obtain ⟨fr4, r4, w1, w2, w3⟩ := r_tl3 h (st := 2) (by decide) (by decide) d2 (by rw [l2]; show _ + 3 + 0 < 440; omega) (by
      show (if _ = 106 then 3 else if _ = 59 then 0 else 99) = _
      rw [if_neg q])
    refine ⟨fr4, r4, w1, fx.tr w2, ?_⟩
    rcases w3 with w3 | ⟨p', w4, w5, w6⟩
    · exact Or.inl w3
    · exact Or.inr ⟨p', [], rn, fun a ha => (by cases ha), by show 0 + p + 1 ≤ p'; omega, w5, w6⟩
  have e1 := e3 (by omega)
  obtain ⟨r4, s1, s2, s3⟩ := g_next h d2
  have gs : Go c n p 2 0 (tok c n (bgn c n p)).2 3 0 [tc 106] := go1 g.1 (by decide) (by decide) q rfl (by decide) (by decide) (by decide) (by decide) rfl
  rw [g_wy h d2 (w := 24) (j := 6) (by decide) (by decide +kernel) q, onS, bvN, brn (by decide), s1, onS, bvN, D2_60]
  obtain ⟨fr5, r5, o1, o2, o3⟩ := r_some h (K := K) (by omega) (s2.n21 0) (by rw [l2]; show _ + 3 + 0 ≤ _; omega)
  have o1 : f_X12_readSome 0 (D2 Z fr3 (upd r4 21 0)) = some (D2 Z fr5 r5) := o1
  rw [o1, onS]
  have fx2 : Fx r r5 := fx.tr (s3.tr ((Fx.up (by omega)).tr o2))
  rcases o3 with ⟨k, pl, o4, o5⟩ | ⟨p', os, ne, o4, o5, o6, o7, o8, o9, o10, o11⟩
  · obtain ⟨fr6, w1⟩ := b_tl3 (Z := Z) (fr := fr5) o4 (show (hd :: tl).length + 2 < 440 by omega)
    exact ⟨fr6, r5, w1, fx2, Or.inl ⟨k, pl, o4, gs.fa o5⟩⟩
  have p5 := o6.1
  rw [List.append_assoc] at o6
  have o6 : Gd c n fr5 r5 p' (hd :: tl ++ (a :: v :: 0 :: cdO os)) 0 := o6
  obtain ⟨fr6, r6, w1, w2, w3⟩ := r_tl3 h (st := 7) (by decide) (by decide) o6 (by rw [l2]; omega) (by rw [beR7 o8, if_neg (fun z => z.elim o9 o10)])
  refine ⟨fr6, r6, w1, fx2.tr w2, ?_⟩
  rcases w3 with ⟨k, pl, w4, w5⟩ | ⟨p2, w4, w5, w6⟩
  · exact Or.inl ⟨k, pl, w4, (gs.tr o11).fa w5⟩
  · refine Or.inr ⟨p2, os, 0, o4, by omega, w5, ?_⟩
    rw [if_neg ne]
    exact (gs.tr o11).tr w6
end
end
