section ST
variable {α : Type} {P : α → Prop} {Z : St}
theorem Ok.st1 {F : Int32 → St → Option α} {c p : Prop} [Decidable c] [Decidable p] {a b : Int32} (hp : p) (H : ∀ x, x = (if c then a else b) → Ok (F x Z) P) : Ok (bv F (fun J => br c (J a Z) (ck p (bv b (fun q => J q Z))))) P := by
  refine Ok.v ?_
  by_cases h : c
  · exact Ok.bt h (H a (by rw [if_pos h]))
  · exact Ok.bf h (Ok.c hp (Ok.v (H b (by rw [if_neg h]))))
theorem Ok.st2 {F : Int32 → St → Option α} {c1 c2 p : Prop} [Decidable c1] [Decidable c2] [Decidable p] {a b : Int32} (hp : p) (H : ∀ x, x = (if c1 then (if c2 then a else b) else a) → Ok (F x Z) P) : Ok (bv F (fun J => br c1 (br c2 (J a Z) (ck p (bv b (fun q => J q Z)))) (J a Z))) P := by
  refine Ok.v ?_
  by_cases h : c1
  · refine Ok.bt h ?_
    by_cases h2 : c2
    · exact Ok.bt h2 (H a (by rw [if_pos h, if_pos h2]))
    · exact Ok.bf h2 (Ok.c hp (Ok.v (H b (by rw [if_pos h, if_neg h2]))))
  · exact Ok.bf h (H a (by rw [if_neg h]))
theorem Ok.st3 {X Y : Option α} {c1 p : Prop} [Decidable c1] [Decidable p] {q : Int32} {c2 : Int32 → Prop} [∀ z, Decidable (c2 z)] (hp : p) (H1 : (c1 ∨ c2 q) → Ok X P) (H2 : ¬ (c1 ∨ c2 q) → Ok Y P) : Ok (br c1 X (ck p (bv q (fun z => br (c2 z) X Y)))) P := by
  by_cases h : c1
  · exact Ok.bt h (H1 (Or.inl h))
  · refine Ok.bf h (Ok.c hp (Ok.v ?_))
    by_cases h2 : c2 q
    · exact Ok.bt h2 (H1 (Or.inr h2))
    · exact Ok.bf h2 (H2 (fun z => z.elim h h2))
end ST
theorem e_makes {T W : Nat → Int32} {a t : Nat} {m w : Int32} {Z Z1 : St} [Decidable (lwo T W)] (ha : a < 4) (hS : f_X12_seen 0 (Int32.ofNat a) (Int32.ofNat t - 1) Z = some (W 0)) (hwi : f_X12_wish 0 (Int32.ofNat a) (Int32.ofNat t) Z = some (w, Z1)) (eT : gi Z1 61 0 = T) (hs : f_X12_sinceAt 0 (Int32.ofNat a) (Int32.ofNat t) Z1 = some (W 6)) (w3 : W 3 = T (8 + a)) (w4 : W 4 = rmI (Int32.ofNat t) 24) (h124 : T 124 = 0 ∨ T 124 = 1) : f_X12_makes 0 (Int32.ofNat a) (Int32.ofNat t) Z = some (if lwo T W then lwq T W w else W 0, Z1) := by
  have t120 : gi Z1 61 0 (nn 120) = T 120 := by rw [eT]; rfl
  have t121 : gi Z1 61 0 (nn 121) = T 121 := by rw [eT]; rfl
  have t122 : gi Z1 61 0 (nn 122) = T 122 := by rw [eT]; rfl
  have t124 : gi Z1 61 0 (nn 124) = T 124 := by rw [eT]; rfl
  have t8 : gi Z1 61 0 (nn (8 + Int32.ofNat a)) = T (8 + a) := by rw [nA (by omega), eT]
  unfold f_X12_makes
  refine Ok.get (Ok.oe hS (Ok.o2e hwi (Ok.c (by decide) (Ok.st1 (by decide) (fun x hx => Ok.c (by decide) (Ok.st2 (ibA (by omega) (by omega)) (fun y hy => Ok.v (Ok.v ?_))))))))
  rw [t122] at hx
  rw [t124, t8] at hy
  have ey : y = lw2 T W w := by
    have ex : x = lw1 T W w := hx
    rw [hy, ex, ← w3]
    unfold lw2
    rcases h124 with e | e
    · rw [e, if_neg (by decide), if_pos rfl]
    · rw [e, if_pos rfl, if_neg (show ¬ (1 : Int32) = 0 by decide)]
  have eq : mxI 0 (mnI 99 y) = lwq T W w := by rw [ey, mn_comm]; rfl
  rw [eq]
  by_cases hq : lwq T W w = W 0
  · refine Ok.bt hq (Ok.sm ?_)
    by_cases ho : lwo T W
    · rw [if_pos ho, hq]
    · rw [if_neg ho]
  refine Ok.bf hq (Ok.c (by decide) (Ok.v (Ok.v (Ok.v (Ok.st3 (by decide) (fun h1 => ?_) (fun h1 => ?_))))))
  · rw [t121, ← w4] at h1
    refine Ok.c (by decide) (Ok.v ?_)
    rw [t120]
    by_cases h2 : T 120 = -1
    · refine Ok.bt h2 (Ok.v (Ok.bf (by decide) (Ok.sm ?_)))
      rw [if_pos ⟨h1, Or.inl h2⟩]
    · refine Ok.bf h2 (Ok.oe hs (Ok.c (by decide) ?_))
      by_cases h3 : W 6 < T 120
      · refine Ok.bt h3 (Ok.v (Ok.bt rfl (Ok.sm ?_)))
        rw [if_neg (fun z => z.2.elim h2 (fun q => q h3))]
      · refine Ok.bf h3 (Ok.v (Ok.bf (by decide) (Ok.sm ?_)))
        rw [if_pos ⟨h1, Or.inr h3⟩]
  · rw [t121, ← w4] at h1
    refine Ok.v (Ok.bt rfl (Ok.sm ?_))
    rw [if_neg (fun z => h1 z.1)]
/-- class and reference make one price -/
theorem dec_two {S : St} {G N hi a t : Nat} {T : Nat → Int32} {B : Int32 → Nat → Int32} {sc m : Int32} (hBc : Bc S G N hi B) (hBr : Br T m N hi B) (hN : N ≤ 4) (k0 : gi S 2 0 0 = Int32.ofNat N) (n0 : T 0 = Int32.ofNat N) (ha : a < N) (h3 : gi S 3 0 a = T (8 + a)) (h4 : gi S 4 0 a = T (16 + a)) (hl : Lt 4 (T (16 + a))) (ht : t ≤ hi) (hh : hi ≤ 3000) (hsc : 0 ≤ sc) (hs : ∀ Z : St, gi Z 61 0 = T → gi Z 60 0 23 = m → f_X12_sinceAt 0 (Int32.ofNat a) (Int32.ofNat t) Z = some sc) (cl : Cla (gr S 2 0 8) (gi S 35) T) (cr : Cru N (gr S 8 0) S T) : ∃ v : Int32, Pr v ∧ (∃ S', f_X2_decide 0 G (Int32.ofNat a) (Int32.ofNat t) sc S = some (v, S') ∧ Fr (fun k x => k = 27 ∧ x = 0) S S') ∧ ∀ Z : St, gi Z 61 0 = T → gi Z 60 0 23 = m → ∃ Z', f_X12_makes 0 (Int32.ofNat a) (Int32.ofNat t) Z = some (v, Z') ∧ Fr (fun k x => k = 69 ∧ x = 0) Z Z' := by
  have hP : ∀ (x : Int32) (s : Nat), s < N → x.toInt < (hi : Int) → Pr (B x s) := fun x s hs hx => (hBc x s hs hx).2
  obtain ⟨S1, e1, f1, hW⟩ := e_look (sc := sc) hBc hN k0 ha h3 h4 hl ht hh
  obtain ⟨W, eW⟩ : ∃ W, W = Wv B T N a t sc := ⟨_, rfl⟩
  rw [← eW] at hW
  have w0 : W 0 = B (Int32.ofNat t - 1) a := by rw [eW]; rfl
  have w3 : W 3 = T (8 + a) := by rw [eW]; rfl
  have w4 : W 4 = rmI (Int32.ofNat t) 24 := by rw [eW]; rfl
  have w6 : W 6 = sc := by rw [eW]; rfl
  have zt := (zI1 (t := t) (l := 0) (by omega) (by omega)).1
  have p0 : Pr (W 0) := by rw [w0]; exact hP _ a ha (by omega)
  have hw : ∀ (Z : St) (c : Nat), gi Z 61 0 = T → gi Z 60 0 23 = m → c < 109 → f_X12_worth 0 (Int32.ofNat c) (Int32.ofNat a) (Int32.ofNat t) Z = some (vl W c) := fun Z c eT em hc => by
    rw [eW]; exact e_worth hBr hP eT em n0 hN ha hl ht hh (hs Z eT em) hc
  have hle : ∀ Z : St, gi Z 61 0 = T → gi Z 60 0 23 = m → f_X12_least 0 (Int32.ofNat a) (Int32.ofNat t) 0 Z = some (W 1) := fun Z eT em => by
    rw [eW]; exact (e_least (sc := sc) hBr hP eT em n0 hN ha hl ht hh).1
  have hse : ∀ Z : St, gi Z 61 0 = T → gi Z 60 0 23 = m → f_X12_seen 0 (Int32.ofNat a) (Int32.ofNat t - 1) Z = some (W 0) := fun Z eT em => by
    rw [w0]; exact hBr Z eT em _ a ha (by omega)
  -- the rules
  obtain ⟨rs, ok, rl12, rT, rlen, rloc, cw⟩ : ∃ rs : List Ru, (∀ r ∈ rs, okR r) ∧ rs.length ≤ 12 ∧ T (125 + 440 * a) = Int32.ofNat rs.length ∧ (cdRs rs).length < 440 ∧ Loc T (125 + 440 * a + 1) (cdRs rs) ∧ ∀ (F : Int32 → St → Option (Int32 × St)) (P : Int32 × St → Prop), Ok (F (wv W rs) S1) P → Ok (oz (gr S1 8 0 a) (ck (inb 0 9 = true) (F (gi S1 27 0 (nn 0)) S1)) (fun g_18 => on (f_X7_wanted g_18 0 S1) (fun r_22 => F r_22 S1))) P := by
    have := cr.2 a ha
    rw [(f1 8 0 (by omega)).2.2.1]
    cases hr : gr S 8 0 a with
    | none =>
      rw [hr] at this
      refine ⟨[], fun r hr => (by cases hr), by simp, this, by decide, fun i hi => absurd hi (Nat.not_lt_zero i), fun F P hF => ?_⟩
      rw [ozN]
      refine Ok.c (by decide) ?_
      rw [show gi S1 27 0 (nn 0) = W 0 from hW 0 (by omega)]
      exact hF
    | some g =>
      rw [hr] at this
      obtain ⟨rs, q1, q2, q3, q4, q5, q6, q7, q8, q9, q10⟩ := this
      refine ⟨rs, q1, q2, q9, q8, q10, fun F P hF => ?_⟩
      have r33 := f1 33 g (by omega)
      have r34 := f1 34 g (by omega)
      have wt : f_X7_wanted g 0 S1 = some (wv W rs) := e_wanted (nt := gn S 33 g) (ns := gn S 34 g) (r33.2.2.2) q4 (r34.2.2.2) (by omega) hW rs 0 0 FU q1 (fun j hj => by rw [r34.1, Nat.zero_add]; exact q7 j (by omega)) (fun i hi => by rw [r33.1, Nat.zero_add]; exact q5 i (by omega)) (by omega) (by omega) (by unfold FU; omega)
      exact Ok.oe wt hF
  have hwi : ∀ Z : St, gi Z 61 0 = T → gi Z 60 0 23 = m → ∃ Z', Fr (fun k x => k = 69 ∧ x = 0) Z Z' ∧ f_X12_wish 0 (Int32.ofNat a) (Int32.ofNat t) Z = some (wv W rs, Z') := fun Z eT em => by
    obtain ⟨Z', f, e⟩ := e_wish hw hle (by omega) rT rl12 rs 0 (125 + 440 * a + 1) FU Z ok rloc (by omega) rlen (by omega) (by unfold FU; omega) eT em
    refine ⟨Z', f, ?_⟩
    unfold f_X12_wish
    rw [hse Z eT em, onS, bvN, zMu, zA, zp1]
    exact e
  have h124 : T 124 = 0 ∨ T 124 = 1 := by
    cases hL : gr S 2 0 8 with
    | none => rw [hL] at cl; exact Or.inl cl.2.2.2.2
    | some g => rw [hL] at cl; exact cl.2.2.2.2.2.2.2.2
  haveI : Decidable (lwo T W) := Classical.propDecidable _
  refine ⟨if lwo T W then lwq T W (wv W rs) else W 0, ?_, ⟨S1, ?_, f1⟩, fun Z eT em => ?_⟩
  · by_cases ho : lwo T W
    · rw [if_pos ho]; exact lwq_pr
    · rw [if_neg ho]; exact p0
  · unfold f_X2_decide
    refine Ok.get (Ok.oe e1 (Ok.c (ib (by omega) (by omega)) (Ok.v ?_)))
    rw [zN (by omega)]
    refine cw (fun v_4 S_5 => bv (fun v_7 S_8 => some (v_7, S_8)) fun J_9 => oz (gr S_5 2 0 8) (on (f_X5_bounded v_4 S_5) fun r_14 => J_9 r_14 S_5) fun g_11 => on (f_X5_allowed g_11 v_4 0 S_5) fun r_16 => J_9 r_16 S_5) _ (Ok.v ?_)
    rw [(f1 2 0 (by omega)).2.2.1]
    cases hL : gr S 2 0 8 with
    | none =>
      rw [hL] at cl
      obtain ⟨q1, q2, q3, q4, q5⟩ := cl
      rw [ozN]
      refine Ok.oe (e_bounded _) (Ok.sm ?_)
      have ho : lwo T W := ⟨Or.inl q2, Or.inl q1⟩
      rw [if_pos ho]
      unfold lwq lw2 lw1
      rw [if_pos q5, if_pos q3]
    | some g =>
      rw [hL] at cl
      obtain ⟨q1, q2, q3, q4, q5, q6, -⟩ := cl
      have r35 := (f1 35 g (by omega)).1
      exact Ok.oe (e_allowed (T := T) (W := W) hW (by rw [w6]; exact hsc) (by rw [r35]; exact q1) (by rw [r35]; exact q3) (by rw [r35]; exact q4) (by rw [r35]; exact q6)) (Ok.sm rfl)
  · obtain ⟨Z', f, e⟩ := hwi Z eT em
    have eT' : gi Z' 61 0 = T := by rw [(f 61 0 (by omega)).1, eT]
    have em' : gi Z' 60 0 23 = m := by rw [(f 60 0 (by omega)).1, em]
    exact ⟨Z', e_makes (m := m) (by omega) (hse Z eT em) e eT' (by rw [w6]; exact hs Z' eT' em') w3 w4 h124, f⟩
