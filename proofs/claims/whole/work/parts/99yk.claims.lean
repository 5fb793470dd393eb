section
-- READING: claims
def rcF (rec : St → Option St) (S : St) : Option St := br ((gi S 60 0 16) = 0) (on (f_X12_isWord 0 25 S) (fun r_3 => br (r_3 = 0) (on (f_X12_readSum 0 S) (fun S_6 => bv (gi S_6 60 0 15) (fun x1_7 => bv (fun  (S_8 : St) => br ((gi S_8 60 0 16) = 0) (on (f_X12_next 0 S_8) (fun S_12 => on (f_X12_readSum 0 S_12) (fun S_14 => bv (fun (v_15 : Int32) (S_16 : St) => on (f_X12_puts 0 v_15 S_16) (fun S_19 => some S_19)) (fun J_17 => br (x1_7 = 60) (J_17 112 S_14) (br (x1_7 = 61) (J_17 113 S_14) (J_17 114 S_14)))))) (some S_8)) (fun J_9 => br ((gi S_6 60 0 16) = 0) (br (x1_7 = 60) (J_9 S_6) (br (x1_7 = 61) (J_9 S_6) (br (x1_7 = 62) (J_9 S_6) (on (f_X12_blames 0 2 S_6) (fun S_27 => J_9 S_27))))) (J_9 S_6))))) (br ((gi S 60 0 21) = 4) (on (f_X12_blames 0 4 S) (fun S_38 => some S_38)) (bv (si S 60 0 21 ((gi S 60 0 21) + 1)) (fun S_29 => on (f_X12_next 0 S_29) (fun S_31 => on (rec S_31) (fun S_33 => bv (si S_33 60 0 21 ((gi S_33 60 0 21) - 1)) (fun S_34 => on (f_X12_puts 0 115 S_34) (fun S_36 => some S_36))))))))) (some S)
def rcN : Nat → St → Option St
  | 0 => f_X12_readClause_1 0
  | i + 1 => rcF (rcN i)
theorem rc2 : f_X12_readClause_2 0 = rcN 1 := rfl
theorem rc3 : f_X12_readClause_3 0 = rcN 2 := by
  show rcF (f_X12_readClause_2 0) = rcF (rcN 1)
  rw [rc2]
theorem rc4 : f_X12_readClause_4 0 = rcN 3 := by
  show rcF (f_X12_readClause_3 0) = rcF (rcN 2)
  rw [rc3]
theorem rc5 : f_X12_readClause_5 0 = rcN 4 := by
  show rcF (f_X12_readClause_4 0) = rcF (rcN 3)
  rw [rc4]
theorem rc6 : f_X12_readClause 0 = rcN 5 := by
  show rcF (f_X12_readClause_5 0) = rcF (rcN 4)
  rw [rc5]
section
variable {Z : St} {c : Nat → Nat} {n : Nat} {fr r : Nat → Int32} {p rn : Nat} {cd : List Int32}
theorem Gd.n21 (g : Gd c n fr r p cd rn) (k : Nat) : Gd c n fr (upd r 21 (Int32.ofNat k)) p cd k := by
  obtain ⟨g1, g2, g3, g4, g5, g6⟩ := g
  refine ⟨g1, ?_, by rw [upd_ne (by decide)]; exact g3, by rw [upd_ne (by decide)]; exact g4, upd_eq, g6⟩
  unfold Cu at g2 ⊢
  rw [upd_ne (by decide), upd_ne (by decide), upd_ne (by decide), upd_ne (by decide), upd_ne (by decide), upd_ne (by decide)]
  exact g2
theorem Bz.n21 {k pl : Nat} (h : Bz r k pl) (v : Int32) : Bz (upd r 21 v) k pl := by
  unfold Bz at h ⊢
  rw [upd_ne (by decide), upd_ne (by decide), upd_ne (by decide)]; exact h
theorem beR5 {t : Nat} (h : ¬ (t = 43 ∨ t = 45)) : beR 5 t = if 60 ≤ t ∧ t ≤ 62 then 6 else 99 := by
  show (if t = 43 ∨ t = 45 then 4 else if 60 ≤ t ∧ t ≤ 62 then 6 else 99) = _
  rw [if_neg h]
/-- a claim that doesn't begin with not -/
theorem r_cl0 (h : Tpr Z c n) {K rn : Nat} (hK : K ≤ 29) {rec : St → Option St} (g : Gd c n fr r p cd rn) (hl : cd.length ≤ p + K) (e9 : ¬ (tok c n (bgn c n p)).1 = 109) {no : Nat} : Oc c n Z (rcF rec (D2 Z fr r)) r p 3 no (fun fr' r' p' => ∃ x : Cl_, okC x ∧ x.1 = 0 ∧ p < p' ∧ Gd c n fr' r' p' (cd ++ cdC x) rn ∧ (cdC x).length + p ≤ p' ∧ ¬ ((tok c n (bgn c n p')).1 = 43 ∨ (tok c n (bgn c n p')).1 = 45) ∧ Go c n p 3 no p' 7 0 (tkC x)) := by
  have h4 := h.1
  have p4 := g.1
  obtain ⟨fr1, r1, o1, o2, o3⟩ := r_sum (no := no) h (K := K) (by omega) (Or.inl ⟨rfl, rfl⟩) g hl (s0 := 3) (by decide) (by decide) (by
    show (if _ = 109 then 3 else if isT _ = true then 5 else 99) = _
    rw [if_neg e9])
  have ev : ∀ X : Option St, X = (bv (gi (D2 Z fr1 r1) 60 0 15) (fun x1_7 => bv (fun  (S_8 : St) => br ((gi S_8 60 0 16) = 0) (on (f_X12_next 0 S_8) (fun S_12 => on (f_X12_readSum 0 S_12) (fun S_14 => bv (fun (v_15 : Int32) (S_16 : St) => on (f_X12_puts 0 v_15 S_16) (fun S_19 => some S_19)) (fun J_17 => br (x1_7 = 60) (J_17 112 S_14) (br (x1_7 = 61) (J_17 113 S_14) (J_17 114 S_14)))))) (some S_8)) (fun J_9 => br ((gi (D2 Z fr1 r1) 60 0 16) = 0) (br (x1_7 = 60) (J_9 (D2 Z fr1 r1)) (br (x1_7 = 61) (J_9 (D2 Z fr1 r1)) (br (x1_7 = 62) (J_9 (D2 Z fr1 r1)) (on (f_X12_blames 0 2 (D2 Z fr1 r1)) (fun S_27 => J_9 S_27))))) (J_9 (D2 Z fr1 r1))))) → rcF rec (D2 Z fr r) = X := by
    intro X hX
    unfold rcF
    rw [D2_g, g.2.2.1, brp rfl, g_wn h g (w := 25) (j := 9) (by decide) (by decide +kernel) e9, onS, brp rfl, o1, onS, hX]
  rcases o3 with ⟨k, pl, o4, o5⟩ | ⟨p1, x, o4, o5, o6, o7, o8, o9⟩
  · refine ⟨fr1, r1, ev _ ?_, o2, Or.inl ⟨k, pl, o4, o5⟩⟩
    simp only [bvN, D2_g]
    rw [brn o4.n, brn o4.n]
  have p5 := o6.1
  have l6 : (cd ++ cdS x).length ≤ p1 + K := by rw [List.length_append]; omega
  obtain ⟨t3, -, e2, e3⟩ := tk_pos (c := c) o6.1
  have i60 : (sgv (tok c n (bgn c n p1)).1 = 60) ↔ (tok c n (bgn c n p1)).1 = 60 := sgvE (k := 60) t3 (by omega) (by omega)
  have i61 : (sgv (tok c n (bgn c n p1)).1 = 61) ↔ (tok c n (bgn c n p1)).1 = 61 := sgvE (k := 61) t3 (by omega) (by omega)
  have i62 : (sgv (tok c n (bgn c n p1)).1 = 62) ↔ (tok c n (bgn c n p1)).1 = 62 := sgvE (k := 62) t3 (by omega) (by omega)
  by_cases q : 60 ≤ (tok c n (bgn c n p1)).1 ∧ (tok c n (bgn c n p1)).1 ≤ 62
  case neg =>
    obtain ⟨r2, a1, a2, a3⟩ := g_blames (Z := Z) o6 (by omega) (k := 2) (by decide) (by decide)
    refine ⟨fr1, r2, ev _ ?_, o2.tr a3, Or.inl ⟨_, _, a2, o9.fa (fa1 o6.1 (by decide) (by decide) rfl ?_ (by split <;> decide))⟩⟩
    · simp only [bvN, D2_g]
      rw [o6.2.2.1, brp rfl, o6.2.1.2.2.2.2.2, brn (fun z => q (by have := i60.mp z; omega)), brn (fun z => q (by have := i61.mp z; omega)), brn (fun z => q (by have := i62.mp z; omega)), show (2 : Int32) = Int32.ofNat 2 from rfl, a1, onS, D2_g, brn a2.n]
    · rw [beR5 o8, if_neg q, if_pos rfl]
  have e1 := e3 (by omega)
  obtain ⟨r2, a1, a2, a3⟩ := g_next h o6
  have gs : Go c n p1 5 0 (tok c n (bgn c n p1)).2 6 0 [tc (tok c n (bgn c n p1)).1] := go1 o6.1 (by decide) (by decide) rfl (by rw [beR5 o8, if_pos q]) (by decide) (by omega) (by omega) (by omega) (by rw [if_neg (by omega)])
  obtain ⟨fr3, r3, d1, d2, d3⟩ := r_sum (no := 0) h (K := K) (by omega) (Or.inr ⟨rfl, rfl⟩) a2 (by omega) (s0 := 6) (by decide) (by decide) rfl
  have ev2 : ∀ X : Option St, X = br (sgv (tok c n (bgn c n p1)).1 = 60) (on (f_X12_puts 0 112 (D2 Z fr3 r3)) (fun S_19 => some S_19)) (br (sgv (tok c n (bgn c n p1)).1 = 61) (on (f_X12_puts 0 113 (D2 Z fr3 r3)) (fun S_19 => some S_19)) (on (f_X12_puts 0 114 (D2 Z fr3 r3)) (fun S_19 => some S_19))) → rcF rec (D2 Z fr r) = X := by
    intro X hX
    refine ev X ?_
    simp only [bvN, D2_g]
    rw [o6.2.2.1, brp rfl, brp rfl, o6.2.1.2.2.2.2.2, a1, onS, d1, onS, ← hX]
    unfold br
    by_cases z0 : (tok c n (bgn c n p1)).1 = 60
    · rw [if_pos (i60.mpr z0)]
    · rw [if_neg (fun z => z0 (i60.mp z))]
      by_cases z1 : (tok c n (bgn c n p1)).1 = 61
      · rw [if_pos (i61.mpr z1)]
      · rw [if_neg (fun z => z1 (i61.mp z)), if_pos (i62.mpr (by omega))]
  rcases d3 with ⟨k, pl, d4, d5⟩ | ⟨p2, y, d4, d5, d6, d7, d8, d9⟩
  · refine ⟨fr3, r3, ev2 _ ?_, o2.tr (a3.tr d2), Or.inl ⟨k, pl, d4, o9.fa (gs.fa d5)⟩⟩
    rw [b_puts d4, b_puts d4, b_puts d4, onS]
    unfold br; split
    · rfl
    · split <;> rfl
  · obtain ⟨u, hu⟩ : ∃ u, (tok c n (bgn c n p1)).1 = 60 + u := ⟨(tok c n (bgn c n p1)).1 - 60, by omega⟩
    have p6 := d6.1
    obtain ⟨fr4, r4, w1, w2, w3⟩ := g_puts (Z := Z) d6 (by rw [List.length_append, List.length_append]; omega) (Int32.ofNat (112 + u))
    refine ⟨fr4, r4, ev2 _ ?_, o2.tr (a3.tr (d2.tr w3)), Or.inr ⟨p2, (0, x, u, y), ⟨Nat.zero_le _, o4, by show u < 3; omega, d4⟩, rfl, by omega, ?_, ?_, d8, ?_⟩⟩
    · rcases (show u = 0 ∨ u = 1 ∨ u = 2 by omega) with rfl | rfl | rfl
      · rw [brp (i60.mpr hu)]
        rw [show (112 : Int32) = Int32.ofNat (112 + 0) from rfl, w1, onS]
      · rw [brn (fun z => absurd (i60.mp z) (by omega)), brp (i61.mpr hu)]
        rw [show (113 : Int32) = Int32.ofNat (112 + 1) from rfl, w1, onS]
      · rw [brn (fun z => absurd (i60.mp z) (by omega)), brn (fun z => absurd (i61.mp z) (by omega))]
        rw [show (114 : Int32) = Int32.ofNat (112 + 2) from rfl, w1, onS]
    · rw [List.append_assoc, List.append_assoc] at w2; exact w2
    · show (cdS x ++ (cdS y ++ [Int32.ofNat (112 + u)])).length + p ≤ p2
      rw [List.length_append, List.length_append]
      show _ + (_ + 1) + p ≤ p2
      omega
    · have := (o9.tr gs).tr d9
      rw [hu, tc_n (by omega) (by omega), List.append_assoc] at this
      exact this
theorem r_clause (h : Tpr Z c n) {K : Nat} (hK : K ≤ 29) : ∀ (i p : Nat) (fr r : Nat → Int32) (cd : List Int32), i ≤ 4 → Gd c n fr r p cd (4 - i) → cd.length ≤ p + K → Oc c n Z (rcN (i + 1) (D2 Z fr r)) r p 3 (4 - i) (fun fr' r' p' => ∃ x : Cl_, okC x ∧ x.1 ≤ i ∧ p < p' ∧ Gd c n fr' r' p' (cd ++ cdC x) (4 - i) ∧ (cdC x).length + p ≤ p' ∧ ¬ ((tok c n (bgn c n p')).1 = 43 ∨ (tok c n (bgn c n p')).1 = 45) ∧ Go c n p 3 (4 - i) p' 7 0 (tkC x)) := by
  have h4 := h.1
  have c0 : ∀ (i p : Nat) (fr r : Nat → Int32) (cd : List Int32), Gd c n fr r p cd (4 - i) → cd.length ≤ p + K → ¬ (tok c n (bgn c n p)).1 = 109 → Oc c n Z (rcN (i + 1) (D2 Z fr r)) r p 3 (4 - i) (fun fr' r' p' => ∃ x : Cl_, okC x ∧ x.1 ≤ i ∧ p < p' ∧ Gd c n fr' r' p' (cd ++ cdC x) (4 - i) ∧ (cdC x).length + p ≤ p' ∧ ¬ ((tok c n (bgn c n p')).1 = 43 ∨ (tok c n (bgn c n p')).1 = 45) ∧ Go c n p 3 (4 - i) p' 7 0 (tkC x)) := by
    intro i p fr r cd g hl e9
    obtain ⟨fr1, r1, o1, o2, o3⟩ := r_cl0 h (rec := rcN i) (no := 4 - i) hK g hl e9
    refine ⟨fr1, r1, o1, o2, o3.imp id (fun z => ?_)⟩
    obtain ⟨p', x, z1, z2, z3⟩ := z
    exact ⟨p', x, z1, by omega, z3⟩
  intro i
  induction i with
  | zero =>
    intro p fr r cd hi g hl
    by_cases e9 : (tok c n (bgn c n p)).1 = 109
    · have p4 := g.1
      obtain ⟨r1, a1, a2, a3⟩ := g_blames (Z := Z) g (by omega) (k := 4) (by decide) (by decide)
      rw [if_neg (show ¬ (tok c n (bgn c n p)).1 = 2 by omega)] at a2
      refine ⟨fr, r1, ?_, a3, Or.inl ⟨_, _, a2, fa1 g.1 (by decide) (by decide) e9 ?_ (by decide)⟩⟩
      · show rcF (rcN 0) (D2 Z fr r) = _
        unfold rcF
        rw [D2_g, g.2.2.1, brp rfl, g_wy h g (w := 25) (j := 9) (by decide) (by decide +kernel) e9, onS, brn (by decide), g.2.2.2.2.1, brp (show Int32.ofNat (4 - 0) = 4 from rfl), show (4 : Int32) = Int32.ofNat 4 from rfl, a1, onS]
      · rfl
    · exact c0 0 p fr r cd g hl e9
  | succ i ih =>
    intro p fr r cd hi g hl
    by_cases e9 : (tok c n (bgn c n p)).1 = 109
    case neg => exact c0 (i + 1) p fr r cd g hl e9
    obtain ⟨t3, -, e2, e3⟩ := tk_pos (c := c) g.1
    have p4 := g.1
    have e1 := e3 (by omega)
    have g1 := g.n21 (4 - i)
    obtain ⟨r1, a1, a2, a3⟩ := g_next h g1
    obtain ⟨fr2, r2, o1, o2, o3⟩ := ih (tok c n (bgn c n p)).2 fr r1 cd (by omega) a2 (by omega)
    have gs : Go c n p 3 (4 - (i + 1)) (tok c n (bgn c n p)).2 3 (4 - i) [tc 109] := go1 g.1 (by decide) (by decide) e9 rfl (by decide) (by decide) (by decide) (by omega) (by rw [if_pos rfl]; omega)
    have ev : ∀ X : Option St, X = on (f_X12_next 0 (D2 Z fr (upd r 21 (Int32.ofNat (4 - i))))) (fun S_31 => on (rcN (i + 1) S_31) (fun S_33 => bv (si S_33 60 0 21 ((gi S_33 60 0 21) - 1)) (fun S_34 => on (f_X12_puts 0 115 S_34) (fun S_36 => some S_36)))) → rcN (i + 1 + 1) (D2 Z fr r) = X := by
      intro X hX
      show rcF (rcN (i + 1)) (D2 Z fr r) = _
      unfold rcF
      rw [D2_g, g.2.2.1, brp rfl, g_wy h g (w := 25) (j := 9) (by decide) (by decide +kernel) e9, onS, brn (by decide), g.2.2.2.2.1, brn (show ¬ Int32.ofNat (4 - (i + 1)) = 4 from fun z => absurd ((zE (b := 4) (by omega) (by omega)).mp z) (by omega)), bvN, zp1, D2_60, show 4 - (i + 1) + 1 = 4 - i by omega, hX]
    have f0 : Fx r r1 := (Fx.up (by omega)).tr a3
    rcases o3 with ⟨k, pl, o4, o5⟩ | ⟨p', x, o4, o5, o6, o7, o8, o9, o10⟩
    · refine ⟨fr2, upd r2 21 (r2 21 - 1), ev _ ?_, f0.tr (o2.tr (Fx.up (by omega))), Or.inl ⟨k, pl, o4.n21 _, gs.fa o5⟩⟩
      rw [a1, onS, o1, onS, bvN, D2_g, D2_60, b_puts (o4.n21 _), onS]
    · have m1 : r2 21 - 1 = Int32.ofNat (4 - (i + 1)) := by
        rw [o7.2.2.2.2.1, zSub1 (by omega)]
        congr 1
      have g2 := o7.n21 (4 - (i + 1))
      have p5 := o7.1
      obtain ⟨fr3, r3, d1, d2, d3⟩ := g_puts (Z := Z) g2 (by rw [List.length_append]; omega) 115
      have cc : cdC (x.1 + 1, x.2) = cdC x ++ [115] := by
        unfold cdC
        rw [List.replicate_succ', List.append_assoc, List.append_assoc, List.cons_append]
      refine ⟨fr3, r3, ev _ ?_, f0.tr (o2.tr ((Fx.up (by omega)).tr d3)), Or.inr ⟨p', (x.1 + 1, x.2), ⟨by show x.1 + 1 ≤ 4; omega, o4.2⟩, by show x.1 + 1 ≤ i + 1; omega, by omega, ?_, ?_, o9, ?_⟩⟩
      · rw [a1, onS, o1, onS, bvN, D2_g, D2_60, m1, d1, onS]
      · rw [cc, ← List.append_assoc]; exact d2
      · rw [cc, List.length_append]
        show _ + 1 + p ≤ p'
        omega
      · have := gs.tr o10
        rw [show tkC (x.1 + 1, x.2) = [tc 109] ++ tkC x from rfl]
        exact this
theorem b_rc {k pl i : Nat} (h : Bz r k pl) : rcN (i + 1) (D2 Z fr r) = some (D2 Z fr r) := by
  show rcF (rcN i) (D2 Z fr r) = _
  unfold rcF
  rw [D2_g, brn h.n]
end
end
