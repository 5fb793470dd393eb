section
-- READING: some of all of claims
theorem tkA_c (x : Cl_) (xs : List Cl_) : tkA (x :: xs) = tkC x ++ xs.flatMap (fun d => 108 :: tkC d) := by
  induction xs generalizing x with
  | nil => rw [tkA1, List.flatMap_nil, List.append_nil]
  | cons y ys ih => rw [tkA2, ih y, List.flatMap_cons, List.cons_append]; rfl
theorem tkO_c (x : List Cl_) (xs : List (List Cl_)) : tkO (x :: xs) = tkA x ++ xs.flatMap (fun d => 107 :: tkA d) := by
  induction xs generalizing x with
  | nil => rw [tkO1, List.flatMap_nil, List.append_nil]
  | cons y ys ih => rw [tkO2, ih y, List.flatMap_cons, List.cons_append]; rfl
theorem beR7 {t : Nat} (h : ¬ (t = 43 ∨ t = 45)) : beR 7 t = if t = 108 ∨ t = 107 then 3 else if t = 59 then 0 else 99 := by
  show (if t = 43 ∨ t = 45 then 6 else if t = 108 ∨ t = 107 then 3 else if t = 59 then 0 else 99) = _
  rw [if_neg h]
section
variable {Z : St} {c : Nat → Nat} {n : Nat} {fr r : Nat → Int32} {p : Nat} {cd : List Int32}
theorem b_all4 {k pl m : Nat} (h : Bz r k pl) (hm : 0 < m) : f_X12_readAll_4 0 (fun S => some S) m (D2 Z fr r) = some (D2 Z fr r) := by
  obtain ⟨m, rfl⟩ : ∃ x, m = x + 1 := ⟨m - 1, by omega⟩
  rw [f_X12_readAll_4, b_word h, onS, brp rfl]
theorem r_all4 (h : Tpr Z c n) {K : Nat} (hK : K ≤ 29) : ∀ (m p : Nat) (fr r : Nat → Int32) (cd : List Int32), Gd c n fr r p cd 0 → cd.length ≤ p + K → n - p < m → ¬ ((tok c n (bgn c n p)).1 = 43 ∨ (tok c n (bgn c n p)).1 = 45) → Oc c n Z (f_X12_readAll_4 0 (fun S => some S) m (D2 Z fr r)) r p 7 0 (fun fr' r' p' => ∃ xs : List Cl_, (∀ x ∈ xs, okC x) ∧ p ≤ p' ∧ Gd c n fr' r' p' (cd ++ xs.flatMap (fun x => cdC x ++ [116])) 0 ∧ (xs.flatMap (fun x => cdC x ++ [(116 : Int32)])).length + p ≤ p' ∧ ¬ ((tok c n (bgn c n p')).1 = 43 ∨ (tok c n (bgn c n p')).1 = 45) ∧ ¬ (tok c n (bgn c n p')).1 = 108 ∧ Go c n p 7 0 p' 7 0 (xs.flatMap (fun x => 108 :: tkC x))) := by
  have h4 := h.1
  intro m
  induction m with
  | zero => intro p fr r cd _ _ hm; omega
  | succ m ih =>
    intro p fr r cd g hl hm hpm
    obtain ⟨t3, -, e2, e3⟩ := tk_pos (c := c) g.1
    have p4 := g.1
    rw [f_X12_readAll_4]
    by_cases q : (tok c n (bgn c n p)).1 = 108
    case neg =>
      rw [g_wn h g (w := 35) (j := 8) (by decide) (by decide +kernel) q, onS, brp rfl]
      exact ⟨fr, r, rfl, Fx.rf, Or.inr ⟨p, [], fun q hq => (by cases hq), Nat.le_refl _, by rw [List.flatMap_nil, List.append_nil]; exact g, by rw [List.flatMap_nil]; exact Nat.le_of_eq (Nat.zero_add p), hpm, q, Go.rf⟩⟩
    have e1 := e3 (by omega)
    obtain ⟨r1, a1, a2, a3⟩ := g_next h g
    have gs : Go c n p 7 0 (tok c n (bgn c n p)).2 3 0 [tc 108] := go1 g.1 (by decide) (by decide) q rfl (by decide) (by decide) (by decide) (by decide) rfl
    rw [g_wy h g (w := 35) (j := 8) (by decide) (by decide +kernel) q, onS, brn (by decide), a1, onS]
    obtain ⟨fr2, r2, o1, o2, o3⟩ := r_clause h hK 4 (tok c n (bgn c n p)).2 fr r1 cd (by omega) a2 (by omega)
    rw [rc6, o1, onS]
    rcases o3 with ⟨k, pl, o4, o5⟩ | ⟨p1, x, o4, o5, o6, o7, o8, o9, o10⟩
    · rw [b_puts o4, onS, b_all4 o4 (by omega)]
      exact ⟨fr2, r2, rfl, a3.tr o2, Or.inl ⟨k, pl, o4, gs.fa o5⟩⟩
    have p5 := o7.1
    obtain ⟨fr3, r3, d1, d2, d3⟩ := g_puts (Z := Z) o7 (by rw [List.length_append]; omega) 116
    rw [d1, onS]
    obtain ⟨fr4, r4, w1, w2, w3⟩ := ih p1 fr3 r3 _ d2 (by rw [List.length_append, List.length_append]; show _ + _ + 1 ≤ _; omega) (by omega) o9
    refine ⟨fr4, r4, w1, a3.tr (o2.tr (d3.tr w2)), ?_⟩
    rcases w3 with ⟨k, pl, w4, w5⟩ | ⟨p', xs, w4, w5, w6, w7, w8, w9, w10⟩
    · exact Or.inl ⟨k, pl, w4, (gs.tr o10).fa w5⟩
    · refine Or.inr ⟨p', x :: xs, ?_, by omega, ?_, ?_, w8, w9, ?_⟩
      · intro y hy
        rcases List.mem_cons.mp hy with rfl | hy
        · exact o4
        · exact w4 y hy
      · rw [List.flatMap_cons]
        rw [List.append_assoc, List.append_assoc, ← List.append_assoc (cdC x)] at w6
        exact w6
      · rw [List.flatMap_cons, List.length_append, List.length_append]
        show _ + 1 + _ + p ≤ p'
        omega
      · rw [List.flatMap_cons]
        have := (gs.tr o10).tr w10
        exact this
theorem r_all (h : Tpr Z c n) {K : Nat} (hK : K ≤ 29) (g : Gd c n fr r p cd 0) (hl : cd.length ≤ p + K) : Oc c n Z (f_X12_readAll 0 (D2 Z fr r)) r p 3 0 (fun fr' r' p' => ∃ xs : List Cl_, xs ≠ [] ∧ (∀ x ∈ xs, okC x) ∧ p < p' ∧ Gd c n fr' r' p' (cd ++ cdA xs) 0 ∧ (cdA xs).length + p ≤ p' ∧ ¬ ((tok c n (bgn c n p')).1 = 43 ∨ (tok c n (bgn c n p')).1 = 45) ∧ ¬ (tok c n (bgn c n p')).1 = 108 ∧ Go c n p 3 0 p' 7 0 (tkA xs)) := by
  have h4 := h.1
  have F : FU = 100000 := rfl
  have p4 := g.1
  unfold f_X12_readAll
  obtain ⟨fr2, r2, o1, o2, o3⟩ := r_clause h hK 4 p fr r cd (by omega) g hl
  rw [rc6, o1, onS]
  rcases o3 with ⟨k, pl, o4, o5⟩ | ⟨p1, x, o4, o5, o6, o7, o8, o9, o10⟩
  · rw [b_all4 o4 (by omega)]
    exact ⟨fr2, r2, rfl, o2, Or.inl ⟨k, pl, o4, o5⟩⟩
  have p5 := o7.1
  obtain ⟨fr4, r4, w1, w2, w3⟩ := r_all4 h hK FU p1 fr2 r2 _ o7 (by rw [List.length_append]; omega) (by omega) o9
  refine ⟨fr4, r4, w1, o2.tr w2, ?_⟩
  rcases w3 with ⟨k, pl, w4, w5⟩ | ⟨p', xs, w4, w5, w6, w7, w8, w9, w10⟩
  · exact Or.inl ⟨k, pl, w4, o10.fa w5⟩
  · refine Or.inr ⟨p', x :: xs, List.cons_ne_nil _ _, ?_, by omega, ?_, ?_, w8, w9, ?_⟩
    · intro y hy
      rcases List.mem_cons.mp hy with rfl | hy
      · exact o4
      · exact w4 y hy
    · rw [List.append_assoc] at w6; exact w6
    · show (cdC x ++ xs.flatMap (fun x => cdC x ++ [116])).length + p ≤ p'
      rw [List.length_append]; omega
    · rw [tkA_c]; exact o10.tr w10
theorem b_some4 {k pl m : Nat} (h : Bz r k pl) (hm : 0 < m) : f_X12_readSome_4 0 (fun S => some S) m (D2 Z fr r) = some (D2 Z fr r) := by
  obtain ⟨m, rfl⟩ : ∃ x, m = x + 1 := ⟨m - 1, by omega⟩
  rw [f_X12_readSome_4, b_word h, onS, brp rfl]
theorem r_some4 (h : Tpr Z c n) {K : Nat} (hK : K ≤ 29) : ∀ (m p : Nat) (fr r : Nat → Int32) (cd : List Int32), Gd c n fr r p cd 0 → cd.length ≤ p + K → n - p < m → ¬ ((tok c n (bgn c n p)).1 = 43 ∨ (tok c n (bgn c n p)).1 = 45) → ¬ (tok c n (bgn c n p)).1 = 108 → Oc c n Z (f_X12_readSome_4 0 (fun S => some S) m (D2 Z fr r)) r p 7 0 (fun fr' r' p' => ∃ xs : List (List Cl_), (∀ a ∈ xs, a ≠ [] ∧ ∀ x ∈ a, okC x) ∧ p ≤ p' ∧ Gd c n fr' r' p' (cd ++ xs.flatMap (fun x => cdA x ++ [117])) 0 ∧ (xs.flatMap (fun x => cdA x ++ [(117 : Int32)])).length + p ≤ p' ∧ ¬ ((tok c n (bgn c n p')).1 = 43 ∨ (tok c n (bgn c n p')).1 = 45) ∧ ¬ (tok c n (bgn c n p')).1 = 108 ∧ ¬ (tok c n (bgn c n p')).1 = 107 ∧ Go c n p 7 0 p' 7 0 (xs.flatMap (fun x => 107 :: tkA x))) := by
  have h4 := h.1
  intro m
  induction m with
  | zero => intro p fr r cd _ _ hm; omega
  | succ m ih =>
    intro p fr r cd g hl hm hpm h108
    obtain ⟨t3, -, e2, e3⟩ := tk_pos (c := c) g.1
    have p4 := g.1
    rw [f_X12_readSome_4]
    by_cases q : (tok c n (bgn c n p)).1 = 107
    case neg =>
      rw [g_wn h g (w := 36) (j := 7) (by decide) (by decide +kernel) q, onS, brp rfl]
      exact ⟨fr, r, rfl, Fx.rf, Or.inr ⟨p, [], fun q hq => (by cases hq), Nat.le_refl _, by rw [List.flatMap_nil, List.append_nil]; exact g, by rw [List.flatMap_nil]; exact Nat.le_of_eq (Nat.zero_add p), hpm, h108, q, Go.rf⟩⟩
    have e1 := e3 (by omega)
    obtain ⟨r1, a1, a2, a3⟩ := g_next h g
    have gs : Go c n p 7 0 (tok c n (bgn c n p)).2 3 0 [tc 107] := go1 g.1 (by decide) (by decide) q rfl (by decide) (by decide) (by decide) (by decide) rfl
    rw [g_wy h g (w := 36) (j := 7) (by decide) (by decide +kernel) q, onS, brn (by decide), a1, onS]
    obtain ⟨fr2, r2, o1, o2, o3⟩ := r_all h hK a2 (by omega)
    rw [o1, onS]
    rcases o3 with ⟨k, pl, o4, o5⟩ | ⟨p1, x, ne, o4, o6, o7, o8, o9, o11, o10⟩
    · rw [b_puts o4, onS, b_some4 o4 (by omega)]
      exact ⟨fr2, r2, rfl, a3.tr o2, Or.inl ⟨k, pl, o4, gs.fa o5⟩⟩
    have p5 := o7.1
    obtain ⟨fr3, r3, d1, d2, d3⟩ := g_puts (Z := Z) o7 (by rw [List.length_append]; omega) 117
    rw [d1, onS]
    obtain ⟨fr4, r4, w1, w2, w3⟩ := ih p1 fr3 r3 _ d2 (by rw [List.length_append, List.length_append]; show _ + _ + 1 ≤ _; omega) (by omega) o9 o11
    refine ⟨fr4, r4, w1, a3.tr (o2.tr (d3.tr w2)), ?_⟩
    rcases w3 with ⟨k, pl, w4, w5⟩ | ⟨p', xs, w4, w5, w6, w7, w8, w9, w11, w10⟩
    · exact Or.inl ⟨k, pl, w4, (gs.tr o10).fa w5⟩
    · refine Or.inr ⟨p', x :: xs, ?_, by omega, ?_, ?_, w8, w9, w11, ?_⟩
      · intro y hy
        rcases List.mem_cons.mp hy with rfl | hy
        · exact ⟨ne, o4⟩
        · exact w4 y hy
      · rw [List.flatMap_cons]
        rw [List.append_assoc, List.append_assoc, ← List.append_assoc (cdA x)] at w6
        exact w6
      · rw [List.flatMap_cons, List.length_append, List.length_append]
        show _ + 1 + _ + p ≤ p'
        omega
      · rw [List.flatMap_cons]
        exact (gs.tr o10).tr w10
theorem r_some (h : Tpr Z c n) {K : Nat} (hK : K ≤ 29) (g : Gd c n fr r p cd 0) (hl : cd.length ≤ p + K) : Oc c n Z (f_X12_readSome 0 (D2 Z fr r)) r p 3 0 (fun fr' r' p' => ∃ xs : List (List Cl_), xs ≠ [] ∧ (∀ a ∈ xs, a ≠ [] ∧ ∀ x ∈ a, okC x) ∧ p < p' ∧ Gd c n fr' r' p' (cd ++ cdO xs) 0 ∧ (cdO xs).length + p ≤ p' ∧ ¬ ((tok c n (bgn c n p')).1 = 43 ∨ (tok c n (bgn c n p')).1 = 45) ∧ ¬ (tok c n (bgn c n p')).1 = 108 ∧ ¬ (tok c n (bgn c n p')).1 = 107 ∧ Go c n p 3 0 p' 7 0 (tkO xs)) := by
  have h4 := h.1
  have F : FU = 100000 := rfl
  have p4 := g.1
  unfold f_X12_readSome
  obtain ⟨fr2, r2, o1, o2, o3⟩ := r_all h hK g hl
  rw [o1, onS]
  rcases o3 with ⟨k, pl, o4, o5⟩ | ⟨p1, x, ne, o4, o6, o7, o8, o9, o11, o10⟩
  · rw [b_some4 o4 (by omega)]
    exact ⟨fr2, r2, rfl, o2, Or.inl ⟨k, pl, o4, o5⟩⟩
  have p5 := o7.1
  obtain ⟨fr4, r4, w1, w2, w3⟩ := r_some4 h hK FU p1 fr2 r2 _ o7 (by rw [List.length_append]; omega) (by omega) o9 o11
  refine ⟨fr4, r4, w1, o2.tr w2, ?_⟩
  rcases w3 with ⟨k, pl, w4, w5⟩ | ⟨p', xs, w4, w5, w6, w7, w8, w9, w11, w10⟩
  · exact Or.inl ⟨k, pl, w4, o10.fa w5⟩
  · refine Or.inr ⟨p', x :: xs, List.cons_ne_nil _ _, ?_, by omega, ?_, ?_, w8, w9, w11, ?_⟩
    · intro y hy
      rcases List.mem_cons.mp hy with rfl | hy
      · exact ⟨ne, o4⟩
      · exact w4 y hy
    · rw [List.append_assoc] at w6; exact w6
    · show (cdA x ++ xs.flatMap (fun x => cdA x ++ [117])).length + p ≤ p'
      rw [List.length_append]; omega
    · rw [tkO_c]; exact o10.tr w10
end
end
