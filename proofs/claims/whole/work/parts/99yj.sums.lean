section
-- READING: terms and sums
def tm (t : Nat) : Nat := if 200 ≤ t then t - 200 else t - 10
theorem tm_ok {t : Nat} (ht : t < 300) (h : isT t = true) : okT (tm t) ∧ tkT (tm t) = tc t ∧ ¬ t = 0 ∧ ¬ t = 2 ∧ ¬ t = 109 := by
  have h := isT_i.mp h
  unfold tm okT tkT
  by_cases e : 200 ≤ t
  · rw [if_pos e, if_pos (by omega), tc_n (by omega) (by omega), show 200 + (t - 200) = t by omega]
    exact ⟨by omega, rfl, by omega, by omega, by omega⟩
  · rw [if_neg e, if_neg (by omega), tc_n (by omega) (by omega), show 10 + (t - 10) = t by omega]
    exact ⟨by omega, rfl, by omega, by omega, by omega⟩
theorem kd2 {t : Nat} : kd t = 2 ↔ 200 ≤ t := by
  unfold kd
  by_cases h0 : t = 0
  · rw [if_pos h0]; exact ⟨fun z => absurd z (by decide), fun z => by omega⟩
  rw [if_neg h0]
  by_cases h2 : t = 2
  · rw [if_pos h2]; exact ⟨fun z => absurd z (by decide), fun z => by omega⟩
  rw [if_neg h2]
  by_cases h3 : 200 ≤ t
  · rw [if_pos h3]; exact ⟨fun _ => h3, fun _ => rfl⟩
  rw [if_neg h3]
  refine ⟨fun z => absurd z ?_, fun z => absurd z h3⟩
  split <;> decide
theorem sgvE {t k : Nat} (ht : t < 300) (hk : 3 ≤ k) (hk2 : k < 100) : sgv t = Int32.ofNat k ↔ t = k := by
  unfold sgv
  by_cases h : 3 ≤ t ∧ t < 100
  · rw [if_pos h]; exact zE (by omega) (by omega)
  · rw [if_neg h]
    exact ⟨fun z => absurd ((zE (a := 0) (by omega) (by omega)).mp z) (by omega), fun z => absurd z (by omega)⟩
def Oc (c : Nat → Nat) (n : Nat) (Z : St) (v : Option St) (r : Nat → Int32) (p st no : Nat) (G : (Nat → Int32) → (Nat → Int32) → Nat → Prop) : Prop := ∃ fr' r', v = some (D2 Z fr' r') ∧ Fx r r' ∧ ((∃ k pl, Bz r' k pl ∧ Fa c n p st no k pl) ∨ ∃ p', G fr' r' p')
section
variable {Z : St} {c : Nat → Nat} {n : Nat} {fr r : Nat → Int32} {p rn : Nat} {cd : List Int32}
theorem tk_pos (hp : p ≤ n) : (tok c n (bgn c n p)).1 < 300 ∧ p ≤ (tok c n (bgn c n p)).2 ∧ (tok c n (bgn c n p)).2 ≤ n ∧ (¬ (tok c n (bgn c n p)).1 = 0 → p < (tok c n (bgn c n p)).2) := by
  have bb := bgn_ge (c := c) hp
  have ta := tok_all (c := c) (n := n) (b := bgn c n p)
  omega
theorem e_knw (h : Tpr Z c n) (g : Gd c n fr r p cd rn) : f_X12_known 0 (D2 Z fr r) = some (if 110 ≤ (tok c n (bgn c n p)).1 ∧ (tok c n (bgn c n p)).1 ≤ 118 then Int32.ofNat ((tok c n (bgn c n p)).1 - 10) else -1) := by
  unfold f_X12_known
  by_cases e0 : (tok c n (bgn c n p)).1 = 110
  · rw [g_wy h g (w := 26) (j := 10) (by decide) (by decide +kernel) e0, onS, bvN, brn (by decide), if_pos (by omega), e0]; rfl
  rw [g_wn h g (w := 26) (j := 10) (by decide) (by decide +kernel) e0, onS, bvN, brp rfl]
  by_cases e1 : (tok c n (bgn c n p)).1 = 111
  · rw [g_wy h g (w := 27) (j := 11) (by decide) (by decide +kernel) e1, onS, brn (by decide), if_pos (by omega), e1]; rfl
  rw [g_wn h g (w := 27) (j := 11) (by decide) (by decide +kernel) e1, onS, brp rfl]
  by_cases e2 : (tok c n (bgn c n p)).1 = 112
  · rw [g_wy h g (w := 28) (j := 12) (by decide) (by decide +kernel) e2, onS, brn (by decide), if_pos (by omega), e2]; rfl
  rw [g_wn h g (w := 28) (j := 12) (by decide) (by decide +kernel) e2, onS, brp rfl]
  by_cases e3 : (tok c n (bgn c n p)).1 = 113
  · rw [g_wy h g (w := 29) (j := 13) (by decide) (by decide +kernel) e3, onS, brn (by decide), if_pos (by omega), e3]; rfl
  rw [g_wn h g (w := 29) (j := 13) (by decide) (by decide +kernel) e3, onS, brp rfl]
  by_cases e4 : (tok c n (bgn c n p)).1 = 114
  · rw [g_wy h g (w := 30) (j := 14) (by decide) (by decide +kernel) e4, onS, brn (by decide), if_pos (by omega), e4]; rfl
  rw [g_wn h g (w := 30) (j := 14) (by decide) (by decide +kernel) e4, onS, brp rfl]
  by_cases e5 : (tok c n (bgn c n p)).1 = 115
  · rw [g_wy h g (w := 31) (j := 15) (by decide) (by decide +kernel) e5, onS, brn (by decide), if_pos (by omega), e5]; rfl
  rw [g_wn h g (w := 31) (j := 15) (by decide) (by decide +kernel) e5, onS, brp rfl]
  by_cases e6 : (tok c n (bgn c n p)).1 = 116
  · rw [g_wy h g (w := 32) (j := 16) (by decide) (by decide +kernel) e6, onS, brn (by decide), if_pos (by omega), e6]; rfl
  rw [g_wn h g (w := 32) (j := 16) (by decide) (by decide +kernel) e6, onS, brp rfl]
  by_cases e7 : (tok c n (bgn c n p)).1 = 117
  · rw [g_wy h g (w := 33) (j := 17) (by decide) (by decide +kernel) e7, onS, brn (by decide), if_pos (by omega), e7]; rfl
  rw [g_wn h g (w := 33) (j := 17) (by decide) (by decide +kernel) e7, onS, brp rfl]
  by_cases e8 : (tok c n (bgn c n p)).1 = 118
  · rw [g_wy h g (w := 34) (j := 18) (by decide) (by decide +kernel) e8, onS, brn (by decide), if_pos (by omega), e8]; rfl
  rw [g_wn h g (w := 34) (j := 18) (by decide) (by decide +kernel) e8, onS, brp rfl]
  rw [if_neg (by omega)]
theorem e_doing (h : Tpr Z c n) (g : Gd c n fr r p cd rn) : f_X12_doing 0 (D2 Z fr r) = some (if 100 ≤ (tok c n (bgn c n p)).1 ∧ (tok c n (bgn c n p)).1 ≤ 105 then Int32.ofNat ((tok c n (bgn c n p)).1 - 100) else -1) := by
  unfold f_X12_doing
  by_cases e0 : (tok c n (bgn c n p)).1 = 100
  · rw [g_wy h g (w := 18) (j := 0) (by decide) (by decide +kernel) e0, onS, bvN, brn (by decide), if_pos (by omega), e0]; rfl
  rw [g_wn h g (w := 18) (j := 0) (by decide) (by decide +kernel) e0, onS, bvN, brp rfl]
  by_cases e1 : (tok c n (bgn c n p)).1 = 101
  · rw [g_wy h g (w := 19) (j := 1) (by decide) (by decide +kernel) e1, onS, brn (by decide), if_pos (by omega), e1]; rfl
  rw [g_wn h g (w := 19) (j := 1) (by decide) (by decide +kernel) e1, onS, brp rfl]
  by_cases e2 : (tok c n (bgn c n p)).1 = 102
  · rw [g_wy h g (w := 20) (j := 2) (by decide) (by decide +kernel) e2, onS, brn (by decide), if_pos (by omega), e2]; rfl
  rw [g_wn h g (w := 20) (j := 2) (by decide) (by decide +kernel) e2, onS, brp rfl]
  by_cases e3 : (tok c n (bgn c n p)).1 = 103
  · rw [g_wy h g (w := 21) (j := 3) (by decide) (by decide +kernel) e3, onS, brn (by decide), if_pos (by omega), e3]; rfl
  rw [g_wn h g (w := 21) (j := 3) (by decide) (by decide +kernel) e3, onS, brp rfl]
  by_cases e4 : (tok c n (bgn c n p)).1 = 104
  · rw [g_wy h g (w := 22) (j := 4) (by decide) (by decide +kernel) e4, onS, brn (by decide), if_pos (by omega), e4]; rfl
  rw [g_wn h g (w := 22) (j := 4) (by decide) (by decide +kernel) e4, onS, brp rfl]
  by_cases e5 : (tok c n (bgn c n p)).1 = 105
  · rw [g_wy h g (w := 23) (j := 5) (by decide) (by decide +kernel) e5, onS, brn (by decide), if_pos (by omega), e5]; rfl
  rw [g_wn h g (w := 23) (j := 5) (by decide) (by decide +kernel) e5, onS, brp rfl]
  rw [if_neg (by omega)]
theorem r_term (h : Tpr Z c n) (g : Gd c n fr r p cd rn) (hl : cd.length < 440) : (isT (tok c n (bgn c n p)).1 = true → ∃ fr' r', f_X12_readTerm 0 (D2 Z fr r) = some (D2 Z fr' r') ∧ Gd c n fr' r' (tok c n (bgn c n p)).2 (cd ++ [Int32.ofNat (tm (tok c n (bgn c n p)).1)]) rn ∧ Fx r r') ∧ (¬ isT (tok c n (bgn c n p)).1 = true → ∃ r', f_X12_readTerm 0 (D2 Z fr r) = some (D2 Z fr r') ∧ Bz r' (if (tok c n (bgn c n p)).1 = 2 then 1 else 2) (bgn c n p) ∧ Fx r r') := by
  have t3 := (tk_pos (c := c) g.1).1
  unfold f_X12_readTerm
  rw [D2_g, g.2.2.1, brp rfl, e_knw h g, onS, g.2.1.2.2.2.1]
  simp only [bvN]
  have put : ∀ v : Int32, ¬ v = -1 → ∃ fr' r', br (v = -1) (on (f_X12_blames 0 2 (D2 Z fr r)) (fun S_13 => some S_13)) (on (f_X12_puts 0 v (D2 Z fr r)) (fun S_9 => on (f_X12_next 0 S_9) (fun S_11 => some S_11))) = some (D2 Z fr' r') ∧ Gd c n fr' r' (tok c n (bgn c n p)).2 (cd ++ [v]) rn ∧ Fx r r' := by
    intro v hv
    obtain ⟨fr1, r1, a1, a2, a3⟩ := g_puts (Z := Z) g hl v
    obtain ⟨r2, b1, b2, b3⟩ := g_next h a2
    exact ⟨fr1, r2, by rw [brn hv, a1, onS, b1, onS], b2, a3.tr b3⟩
  constructor
  · intro ht
    have ht := isT_i.mp ht
    by_cases e : 200 ≤ (tok c n (bgn c n p)).1
    · rw [brp (kd2.mpr e), g.2.1.2.2.2.2.1 e, tm, if_pos e]
      exact put _ (zNe (by omega))
    · rw [brn (fun z => e (kd2.mp z)), if_pos (by omega), tm, if_neg e]
      exact put _ (zNe (by omega))
  · intro ht
    have ht : ¬ (200 ≤ (tok c n (bgn c n p)).1 ∨ (110 ≤ (tok c n (bgn c n p)).1 ∧ (tok c n (bgn c n p)).1 ≤ 118)) := fun z => ht (isT_i.mpr z)
    rw [brn (fun z => ht (Or.inl (kd2.mp z))), if_neg (fun z => ht (Or.inr z)), brp rfl]
    obtain ⟨r1, a1, a2, a3⟩ := g_blames (Z := Z) g hl (k := 2) (by decide) (by decide)
    exact ⟨r1, by rw [show (2 : Int32) = Int32.ofNat 2 from rfl, a1, onS], a2, a3⟩
theorem b_sum4 {k pl m : Nat} (h : Bz r k pl) (hm : 0 < m) : f_X12_readSum_4 0 (fun S => some S) m (D2 Z fr r) = some (D2 Z fr r) := by
  obtain ⟨m, rfl⟩ : ∃ x, m = x + 1 := ⟨m - 1, by omega⟩
  rw [f_X12_readSum_4, D2_g, brn h.n]
theorem beA {sA sB t : Nat} (hs : (sA = 4 ∧ sB = 5) ∨ (sA = 6 ∧ sB = 7)) : beR sA t = (if isT t = true then sB else 99) ∧ beR sB 43 = sA ∧ beR sB 45 = sA := by
  rcases hs with ⟨rfl, rfl⟩ | ⟨rfl, rfl⟩
  · exact ⟨rfl, rfl, rfl⟩
  · exact ⟨rfl, rfl, rfl⟩
theorem r_sum4 (h : Tpr Z c n) {K sA sB : Nat} (hK : K ≤ 30) (hs : (sA = 4 ∧ sB = 5) ∨ (sA = 6 ∧ sB = 7)) : ∀ (m p : Nat) (fr r : Nat → Int32) (cd : List Int32), Gd c n fr r p cd rn → cd.length ≤ p + K → n - p < m → Oc c n Z (f_X12_readSum_4 0 (fun S => some S) m (D2 Z fr r)) r p sB 0 (fun fr' r' p' => ∃ qs : List (Bool × Nat), (∀ q ∈ qs, okT q.2) ∧ p ≤ p' ∧ Gd c n fr' r' p' (cd ++ qs.flatMap (fun q => [Int32.ofNat q.2, if q.1 then 110 else 111])) rn ∧ (qs.flatMap (fun q => [Int32.ofNat q.2, if q.1 then (110 : Int32) else 111])).length + p ≤ p' ∧ ¬ ((tok c n (bgn c n p')).1 = 43 ∨ (tok c n (bgn c n p')).1 = 45) ∧ Go c n p sB 0 p' sB 0 (qs.flatMap (fun q => [if q.1 then 43 else 45, tkT q.2]))) := by
  have h4 := h.1
  intro m
  induction m with
  | zero => intro p fr r cd _ _ hm; omega
  | succ m ih =>
    intro p fr r cd g hl hm
    obtain ⟨t3, -, e2, e3⟩ := tk_pos (c := c) g.1
    have p4 := g.1
    have i43 : (sgv (tok c n (bgn c n p)).1 = 43) ↔ (tok c n (bgn c n p)).1 = 43 := sgvE (k := 43) t3 (by omega) (by omega)
    have i45 : (sgv (tok c n (bgn c n p)).1 = 45) ↔ (tok c n (bgn c n p)).1 = 45 := sgvE (k := 45) t3 (by omega) (by omega)
    rw [f_X12_readSum_4, D2_g, g.2.2.1, brp rfl, g.2.1.2.2.2.2.2]
    simp only [bvN, D2_g, g.2.1.2.2.2.2.2]
    by_cases q : (tok c n (bgn c n p)).1 = 43 ∨ (tok c n (bgn c n p)).1 = 45
    case neg =>
      rw [brn (fun z => q (Or.inl (i43.mp z))), brn (fun z => q (Or.inr (i45.mp z)))]
      exact ⟨fr, r, rfl, Fx.rf, Or.inr ⟨p, [], fun q hq => (by cases hq), Nat.le_refl _, by rw [List.flatMap_nil, List.append_nil]; exact g, by rw [List.flatMap_nil]; exact Nat.le_of_eq (Nat.zero_add p), q, Go.rf⟩⟩
    have e1 : p < (tok c n (bgn c n p)).2 := e3 (by omega)
    obtain ⟨r1, a1, a2, a3⟩ := g_next h g
    have gs : Go c n p sB 0 (tok c n (bgn c n p)).2 sA 0 [tc (tok c n (bgn c n p)).1] := go1 g.1 (by omega) (by omega) rfl (by
      rcases q with q | q
      · rw [q]; exact (beA (t := 0) hs).2.1
      · rw [q]; exact (beA (t := 0) hs).2.2) (by omega) (by omega) (by omega) (by omega) (by rw [if_neg (by omega)])
    generalize (tok c n (bgn c n p)).2 = p1 at *
    obtain ⟨s3, -, f2, f3⟩ := tk_pos (c := c) a2.1
    obtain ⟨y, no9⟩ := r_term h a2 (by omega)
    by_cases ht : isT (tok c n (bgn c n p1)).1 = true
    case neg =>
      obtain ⟨r2, b1, b2, b3⟩ := no9 ht
      have fa : Fa c n p sB 0 (if (tok c n (bgn c n p1)).1 = 2 then 1 else 2) (bgn c n p1) := gs.fa (fa1 a2.1 (by omega) (by omega) rfl (by rw [(beA hs).1, if_neg ht, if_pos rfl]) (by split <;> decide))
      have key : ∀ v : Int32, Oc c n Z (on (f_X12_next 0 (D2 Z fr r)) (fun S_8 => on (f_X12_readTerm 0 S_8) (fun S_10 => br (sgv (tok c n (bgn c n p)).1 = 43) (on (f_X12_puts 0 110 S_10) (fun S_15 => f_X12_readSum_4 0 (fun S => some S) m S_15)) (on (f_X12_puts 0 111 S_10) (fun S_15 => f_X12_readSum_4 0 (fun S => some S) m S_15))))) r p sB 0 (fun fr' r' p' => ∃ qs : List (Bool × Nat), (∀ q ∈ qs, okT q.2) ∧ p ≤ p' ∧ Gd c n fr' r' p' (cd ++ qs.flatMap (fun q => [Int32.ofNat q.2, if q.1 then 110 else 111])) rn ∧ (qs.flatMap (fun q => [Int32.ofNat q.2, if q.1 then (110 : Int32) else 111])).length + p ≤ p' ∧ ¬ ((tok c n (bgn c n p')).1 = 43 ∨ (tok c n (bgn c n p')).1 = 45) ∧ Go c n p sB 0 p' sB 0 (qs.flatMap (fun q => [if q.1 then 43 else 45, tkT q.2]))) := by
        intro v
        rw [a1, onS, b1, onS, b_puts b2, onS, b_puts b2, onS, b_sum4 b2 (by omega)]
        refine ⟨fr, r2, ?_, a3.tr b3, Or.inl ⟨_, _, b2, fa⟩⟩
        unfold br; split <;> rfl
      by_cases q3 : (tok c n (bgn c n p)).1 = 43
      · rw [brp (i43.mpr q3)]; exact key 0
      · rw [brn (fun z => q3 (i43.mp z)), brp (i45.mpr (q.resolve_left q3))]; exact key 0
    obtain ⟨fr2, r2, b1, b2, b3⟩ := y ht
    obtain ⟨k1, k2, k3, k4, k5⟩ := tm_ok s3 ht
    have gt : Go c n p1 sA 0 (tok c n (bgn c n p1)).2 sB 0 [tc (tok c n (bgn c n p1)).1] := go1 a2.1 (by omega) (by omega) rfl (by rw [(beA hs).1, if_pos ht]) (by omega) k3 k4 (fun z => k5 z.1) (by rw [if_neg k5])
    have f1 := f3 k3
    -- one sign and its term, then the rest
    have key : ∀ s : Bool, (tok c n (bgn c n p)).1 = (if s then 43 else 45) → Oc c n Z (on (f_X12_puts 0 (if s then 110 else 111) (D2 Z fr2 r2)) (fun S_15 => f_X12_readSum_4 0 (fun S => some S) m S_15)) r p sB 0 (fun fr' r' p' => ∃ qs : List (Bool × Nat), (∀ q ∈ qs, okT q.2) ∧ p ≤ p' ∧ Gd c n fr' r' p' (cd ++ qs.flatMap (fun q => [Int32.ofNat q.2, if q.1 then 110 else 111])) rn ∧ (qs.flatMap (fun q => [Int32.ofNat q.2, if q.1 then (110 : Int32) else 111])).length + p ≤ p' ∧ ¬ ((tok c n (bgn c n p')).1 = 43 ∨ (tok c n (bgn c n p')).1 = 45) ∧ Go c n p sB 0 p' sB 0 (qs.flatMap (fun q => [if q.1 then 43 else 45, tkT q.2]))) := by
      intro s hsg
      obtain ⟨fr3, r3, d1, d2, d3⟩ := g_puts (Z := Z) b2 (by rw [List.length_append]; show cd.length + 1 < 440; omega) (if s then 110 else 111)
      have tcs : tc (tok c n (bgn c n p)).1 = if s then 43 else 45 := by rw [hsg]; cases s <;> rfl
      obtain ⟨fr4, r4, o1, o2, o3⟩ := ih (tok c n (bgn c n p1)).2 fr3 r3 _ d2 (by rw [List.length_append, List.length_append]; show cd.length + 1 + 1 ≤ _; omega) (by omega)
      refine ⟨fr4, r4, by rw [d1, onS, o1], a3.tr (b3.tr (d3.tr o2)), ?_⟩
      rcases o3 with ⟨k, pl, o4, o5⟩ | ⟨p', qs, o4, o5, o6, o7, o8, o9⟩
      · exact Or.inl ⟨k, pl, o4, (gs.tr gt).fa o5⟩
      · refine Or.inr ⟨p', (s, tm (tok c n (bgn c n p1)).1) :: qs, ?_, by omega, ?_, ?_, o8, ?_⟩
        · intro q hq
          rcases List.mem_cons.mp hq with rfl | hq
          · exact k1
          · exact o4 q hq
        · rw [List.flatMap_cons]
          rw [List.append_assoc, List.append_assoc] at o6
          exact o6
        · rw [List.flatMap_cons, List.length_append]
          show 2 + _ + p ≤ p'
          omega
        · rw [List.flatMap_cons]
          have := (gs.tr gt).tr o9
          rw [tcs, ← k2] at this
          exact this
    by_cases q3 : (tok c n (bgn c n p)).1 = 43
    · rw [brp (i43.mpr q3), a1, onS, b1, onS, brp (i43.mpr q3)]; exact key true q3
    · have q4 := q.resolve_left q3
      rw [brn (fun z => q3 (i43.mp z)), brp (i45.mpr q4), a1, onS, b1, onS, brn (fun z => q3 (i43.mp z))]; exact key false q4
theorem r_sum (h : Tpr Z c n) {K sA sB s0 no : Nat} (hK : K ≤ 30) (hs : (sA = 4 ∧ sB = 5) ∨ (sA = 6 ∧ sB = 7)) (g : Gd c n fr r p cd rn) (hl : cd.length ≤ p + K) (h0 : 0 < s0) (h8 : s0 < 8) (hb : beR s0 (tok c n (bgn c n p)).1 = if isT (tok c n (bgn c n p)).1 = true then sB else 99) : Oc c n Z (f_X12_readSum 0 (D2 Z fr r)) r p s0 no (fun fr' r' p' => ∃ x : Sm, okS x ∧ p < p' ∧ Gd c n fr' r' p' (cd ++ cdS x) rn ∧ (cdS x).length + p ≤ p' ∧ ¬ ((tok c n (bgn c n p')).1 = 43 ∨ (tok c n (bgn c n p')).1 = 45) ∧ Go c n p s0 no p' sB 0 (tkS x)) := by
  have h4 := h.1
  have F : FU = 100000 := rfl
  have p4 := g.1
  obtain ⟨t3, -, e2, e3⟩ := tk_pos (c := c) g.1
  obtain ⟨y, no9⟩ := r_term h g (by omega)
  unfold f_X12_readSum
  by_cases ht : isT (tok c n (bgn c n p)).1 = true
  case neg =>
    obtain ⟨r2, b1, b2, b3⟩ := no9 ht
    refine ⟨fr, r2, by rw [b1, onS, b_sum4 b2 (by omega)], b3, Or.inl ⟨_, _, b2, fa1 g.1 h0 h8 rfl ?_ (by split <;> decide)⟩⟩
    rw [hb, if_neg ht, if_pos rfl]
  obtain ⟨fr2, r2, b1, b2, b3⟩ := y ht
  obtain ⟨k1, k2, k3, k4, k5⟩ := tm_ok t3 ht
  have e1 := e3 k3
  have gt : Go c n p s0 no (tok c n (bgn c n p)).2 sB 0 [tc (tok c n (bgn c n p)).1] := go1 g.1 h0 h8 rfl (by rw [hb, if_pos ht]) (by omega) k3 k4 (fun z => k5 z.1) (by rw [if_neg k5])
  obtain ⟨fr4, r4, o1, o2, o3⟩ := r_sum4 (rn := rn) h hK hs FU (tok c n (bgn c n p)).2 fr2 r2 _ b2 (by rw [List.length_append]; show cd.length + 1 ≤ _; omega) (by omega)
  refine ⟨fr4, r4, by rw [b1, onS, o1], b3.tr o2, ?_⟩
  rcases o3 with ⟨k, pl, o4, o5⟩ | ⟨p', qs, o4, o5, o6, o7, o8, o9⟩
  · exact Or.inl ⟨k, pl, o4, gt.fa o5⟩
  · refine Or.inr ⟨p', (tm (tok c n (bgn c n p)).1, qs), ⟨k1, o4⟩, by omega, ?_, ?_, o8, ?_⟩
    · rw [List.append_assoc] at o6; exact o6
    · unfold cdS
      rw [List.length_cons]
      show (qs.flatMap (fun q => [Int32.ofNat q.2, if q.1 then (110 : Int32) else 111])).length + 1 + p ≤ p'
      omega
    · have := gt.tr o9
      rw [← k2] at this
      exact this
theorem b_term {k pl : Nat} (h : Bz r k pl) : f_X12_readTerm 0 (D2 Z fr r) = some (D2 Z fr r) := by
  unfold f_X12_readTerm
  rw [D2_g, brn h.n]
end
end
