section
-- CASE rules
theorem cpk {L m : Nat} (h : L ≤ m) (hL : L < 2147483648) : cpok 0 0 (Int32.ofNat L) m L = true := by
  unfold cpok
  rw [decide_eq_false (zNeg hL), zN hL, decide_eq_true (show nn 0 + L ≤ m by rw [show nn 0 = 0 from rfl]; omega), decide_eq_true (show nn 0 + L ≤ L by rw [show nn 0 = 0 from rfl]; omega)]; rfl
theorem in7 {S : St} {g L U : Nat} (h3 : gi S 28 0 3 = Int32.ofNat L) (hL : L ≤ 400) (h5 : gi S 28 0 5 = Int32.ofNat U) (hU : U ≤ 12) : ∃ S', f_X7_init g 0 S = some S' ∧ Fr (fun k x => (k = 32 ∨ k = 33 ∨ k = 34) ∧ x = g) S S' ∧ gn S' 33 g = L ∧ gn S' 34 g = U ∧ (∀ i, i < L → gi S' 33 g i = gi S 30 0 i) ∧ ∀ i, i < U → gi S' 34 g i = gi S 31 0 i := by
  unfold f_X7_init
  have m12 : mnI (Int32.ofNat U) 12 = Int32.ofNat U := by
    rw [show (12 : Int32) = Int32.ofNat 12 from rfl, zmn (by omega) (by omega), Nat.min_eq_left hU]
  have n33 : gn (zr S 33 g L) 33 g = L := by rw [pgn_zr, if_pos ⟨rfl, rfl⟩]
  rw [h3, ck_t ⟨zNeg (by omega), by rw [zN (by omega)]; exact hL⟩, zN (by omega), bvN, n33, ck_t (cpk hL (by omega)), bvN]
  have e5 : ∀ f : Nat → Int32, gi (ai (zr S 33 g L) 33 g f) 28 0 5 = Int32.ofNat U := fun f => by
    rw [pgi_ai, if_neg (by omega), pgi_zr, if_neg (by omega)]; exact h5
  rw [e5, m12, bvN, ck_t ⟨zNeg (by omega), by rw [zN (by omega)]; exact hU⟩, zN (show U < 2147483648 by omega), bvN, bvN]
  have n34 : ∀ X : St, gn (cp (zr X 34 g U) 132 32 g) 34 g = U := fun X => by rw [pgn_cp, pgn_zr, if_pos ⟨rfl, rfl⟩]
  rw [n34, ck_t (cpk hU (by omega)), bvN]
  refine ⟨_, rfl, ?_, ?_, ?_, ?_, ?_⟩
  · exact (Fr.zr ⟨by omega, rfl⟩).tr ((Fr.ai ⟨by omega, rfl⟩).tr ((Fr.zr ⟨by omega, rfl⟩).tr ((Fr.cp ⟨by omega, rfl⟩).tr (Fr.ai ⟨by omega, rfl⟩))))
  · rw [pgn_ai, pgn_cp, pgn_zr, if_neg (by omega), pgn_ai, n33]
  · rw [pgn_ai, n34]
  · intro i hi
    rw [pgi_ai, if_neg (by omega), pgi_cp, if_neg (by omega), pgi_zr, if_neg (by omega), pgi_ai, if_pos ⟨rfl, rfl⟩, va_c (zN (by omega)) hi, pgi_zr, if_neg (by omega)]
  · intro i hi
    rw [pgi_ai, if_pos ⟨rfl, rfl⟩, va_c (zN (by omega)) hi, pgi_cp, if_neg (by omega), pgi_zr, if_neg (by omega), pgi_ai, if_neg (by omega), pgi_zr, if_neg (by omega)]
theorem C3_f {S : St} {tk sts r : Nat → Int32} : Fr (fun k x => (k = 28 ∨ k = 30 ∨ k = 31) ∧ x = 0) S (C3 S tk sts r) := by
  unfold C3
  exact (Fr.ai ⟨by omega, rfl⟩).tr ((Fr.ai ⟨by omega, rfl⟩).tr (Fr.ai ⟨by omega, rfl⟩))
theorem D2_f {Z : St} {fr r : Nat → Int32} : Fr (fun k x => (k = 60 ∨ k = 67) ∧ x = 0) Z (D2 Z fr r) := by
  unfold D2
  exact (Fr.ai ⟨by omega, rfl⟩).tr (Fr.ai ⟨by omega, rfl⟩)
/-- the bytes of a text, for both -/
theorem tps {S : St} {n N0 : Nat} (hN : N0 ≤ 400) (hn : n ≤ N0) (q : ∀ i, i < N0 → gi S 29 0 i = vp_nar .byte (gi S 66 0 i) ∧ Lt 256 (gi S 66 0 i)) : ∃ c, Tpc S c n ∧ ∀ Z, gi Z 66 0 = gi S 66 0 → Tpr Z c n := by
  obtain ⟨c, hc⟩ := Classical.axiomOfChoice (r := fun (i d : Nat) => i < N0 → d < 256 ∧ gi S 66 0 i = Int32.ofNat d) (fun i => by
    by_cases hi : i < N0
    · obtain ⟨d, h1, h2⟩ := (q i hi).2
      exact ⟨d, fun _ => ⟨h1, h2⟩⟩
    · exact ⟨0, fun z => absurd z hi⟩)
  refine ⟨c, ⟨by omega, fun i hi => ⟨(hc i (by omega)).1, ?_⟩⟩, fun Z eZ => ⟨by omega, fun i hi => ⟨(hc i (by omega)).1, by rw [eZ]; exact (hc i (by omega)).2⟩⟩⟩
  rw [(q i (by omega)).1, (hc i (by omega)).2, nb_eq]
theorem pc_5 {t : Nat} {S : St} {a1 a2 a3 a4 a5 : Int32} (h : Inv t S) : Ok (fc_5 (t + 1) a1 a2 a3 a4 a5 S) (Inv (t + 1)) := by
  unfold fc_5 f_L_rules f_X11_rules
  refine tw_i (S := S) ?_
  obtain ⟨N, D, hh, lv, ri, to, ch, c1, c2, c3, c4, c5, c6, c7, c8, c9, c10, c11, c12, c13, c14, c15⟩ := id h.1
  have b0 := c1.1.2
  have n0 := c1.1.1
  obtain ⟨N0, q1, q2, q3, q4, q5, q6⟩ := id h.2.2.1
  by_cases hs : a1 < 0 ∨ ¬ a1 < Int32.ofNat N
  · exact Ok.xl (n_st c2.1 hs) (Tw.l (cd := 1) rfl ⟨by decide, Ok.v (Ok.oe (m_stn n0 b0 hs) (Ok.bt rfl (Ok.o2e rfl (Ok.sm ⟨rfl, (h.thr.thr).t (Nat.le_succ t)⟩))))⟩)
  obtain ⟨s, hsN, rfl⟩ := or_st b0 hs
  refine Ok.xr (y_st c2.1 b0 hsN) ?_
  by_cases hv : 0 ≤ a2 ∧ a2 ≤ Int32.ofNat N0
  case neg =>
    exact Ok.xl (n_wi (by rw [q1]; exact hv)) (Tw.l (cd := 2) rfl ⟨by decide, Ok.v (Ok.oe (m_sty n0 b0 hsN) (Ok.bf (by decide) (Ok.oe (m_wn (lo := 0) (hi := gi S 60 0 9) (by decide) rfl (by rw [q2]; exact hv)) (Ok.bt rfl (Ok.o2e rfl (Ok.sm ⟨rfl, (h.thr.thr).t (Nat.le_succ t)⟩))))))⟩)
  refine Ok.xr (y_wi (by rw [q1]; exact hv)) ?_
  obtain ⟨n, hn, rfl⟩ := zWle (n := N0) (by omega) hv
  obtain ⟨c, tp, tr⟩ := tps q3 hn q4
  -- what the machine says
  obtain ⟨fr0, r0, -, -, -, ref0⟩ := ref_rules (tr S rfl) (x1 := 0)
  have e30 : ∀ Z fr r, gl (D2 Z fr r) = gl Z := fun Z fr r => rfl
  rcases ref0 with ⟨k, pl, -, hm⟩ | ⟨rs, l12, okr, -, -, l440, -, hm⟩
  · -- a fault
    obtain ⟨tk, sts, r, rd, rd1, k0, k4, r6, r7⟩ := rdAll (R := true) tp hm
    have rd : f_X9_read 0 (Int32.ofNat n) 1 S = some (C3 S tk sts r) := rd
    have rn : ¬ r 6 = 0 := by
      rw [r6]; exact fun z => k0 ((zE (b := 0) (by have := k4; omega) (by omega)).mp z)
    have an : f_X9_answer 0 (C3 S tk sts r) = some (-10 - Int32.ofNat k) := by
      unfold f_X9_answer
      rw [C3_g, bvN, brn rn, r6]
    refine Ok.oe rd (Ok.bf (by rw [C3_g]; exact rn) (Ok.oe an (Ok.sm (Tw.r ?_))))
    have fc := C3_f (S := S) (tk := tk) (sts := sts) (r := r)
    have c61 : gi (C3 S tk sts r) 61 0 = gi S 61 0 := rfl
    obtain ⟨fr, r', w1, w2, w3, w4⟩ := ref_all (Z := sl (C3 S tk sts r) 81 0 (nn 0) (Int32.toInt64 (-10 - Int32.ofNat k))) (c := c) (N := N) (s := s) (n := n) (N0 := N0) n0 b0 hsN q2 hn q3 (tr _ rfl)
    rcases w4 with ⟨k', pl', v1, v2, v3, v4, v5, v6⟩ | ⟨rs, -, -, -, v3, -⟩
    · have ek := Option.some.inj (hm.symm.trans v3)
      have ek := Sum.inl.inj ek
      have ek1 : k' = k := (congrArg Prod.fst ek).symm
      have ek2 : pl' = pl := (congrArg Prod.snd ek).symm
      subst ek1 ek2
      refine Ok.eq v6 ⟨?_, rfl, rfl, ?_⟩
      · show gi (D2 _ fr r') 60 0 5 = 0
        rw [D2_g]; exact w2
      · have fz : Fr (WT t) S (D2 (sl (C3 S tk sts r) 81 0 (nn 0) (Int32.toInt64 (-10 - Int32.ofNat k'))) fr r') := by
          refine (fc.mono (fun k x hw => ?_)).tr ((Fr.sl ?_).tr (D2_f.mono (fun k x hw => ?_)))
          · unfold WT; omega
          · unfold WT WS Scr; omega
          · unfold WT WS Scr; omega
        refine h.txt fz rfl rfl ⟨0, rd1, ?_, by omega, fun i hi => absurd hi (Nat.not_lt_zero i), ?_, ?_⟩ ?_
        · rw [D2_g]; exact w3
        · rw [D2_g, v4]; exact r6
        · rw [D2_g, v5]; exact r7
        · refine (Cr.fr (W := fun k x => (k = 28 ∨ k = 30 ∨ k = 31) ∧ x = 0 ∨ k = 81 ∨ k = 60 ∨ k = 67) ?_ (fun k x hw ho => by unfold own at ho; omega) h.1).t (Nat.le_succ t)
          exact (fc.mono (fun k x hw => Or.inl hw)).tr ((Fr.sl (by omega)).tr (D2_f.mono (fun k x hw => by omega)))
    · exact absurd (hm.symm.trans v3) (fun z => by cases Option.some.inj z)
  · -- rules
    obtain ⟨tk, sts, r, rd, rd1, r6, r7, r3, r5, l4, l4u, htk, hst⟩ := rdAll (R := true) tp hm
    have rd : f_X9_read 0 (Int32.ofNat n) 1 S = some (C3 S tk sts r) := rd
    dsimp only at r3 r5 l4 l4u htk hst
    rw [stR_l] at r5 hst
    have fc := C3_f (S := S) (tk := tk) (sts := sts) (r := r)
    obtain ⟨S1, i1, i2, i3, i4, i5, i6⟩ := in7 (S := zr (C3 S tk sts r) 132 (t + 1) 0) (g := t + 1) (L := (tkRs rs).length) (U := rs.length) (by rw [pgi_zr, if_neg (by omega), C3_g]; exact r3) l4 (by rw [pgi_zr, if_neg (by omega), C3_g]; exact r5) l12
    have f1 : Fr (fun k x => ((k = 28 ∨ k = 30 ∨ k = 31) ∧ x = 0) ∨ ((k = 132 ∨ k = 32 ∨ k = 33 ∨ k = 34) ∧ x = t + 1)) S S1 := (fc.mono (fun k x hw => Or.inl hw)).tr ((Fr.zr (by omega)).tr (i2.mono (fun k x hw => by omega)))
    have e28 : gi S1 28 0 = r := by rw [(i2 28 0 (by omega)).1, pgi_zr, if_neg (by omega), C3_g]
    have an : f_X9_answer 0 (sr S1 8 0 s (some (t + 1))) = some (Int32.ofNat rs.length) := by
      unfold f_X9_answer
      rw [pgi_sr, e28, bvN, brp r6, r5]
    refine Ok.oe rd (Ok.bt (by rw [C3_g]; exact r6) (Ok.v (Ok.oe i1 (Ok.c (ib (by omega) (by omega)) (Ok.ve (x := sr S1 8 0 s (some (t + 1))) (by rw [zN (by omega)]) (Ok.oe an (Ok.sm (Tw.r ?_))))))))
    have f61 := f1 61 0 (by omega)
    have f60 := f1 60 0 (by omega)
    have f66 := f1 66 0 (by omega)
    obtain ⟨fr, r', w1, w2, w3, w4⟩ := ref_all (Z := sl (sr S1 8 0 s (some (t + 1))) 81 0 (nn 0) (Int32.toInt64 (Int32.ofNat rs.length))) (c := c) (N := N) (s := s) (n := n) (N0 := N0) (by show gi S1 61 0 0 = _; rw [f61.1]; exact n0) b0 hsN (by show gi S1 60 0 9 = _; rw [f60.1]; exact q2) hn q3 (tr _ f66.1)
    rcases w4 with ⟨k', pl', v1, v2, v3, -⟩ | ⟨rs', l12', okr', l440', v3, v4, v5, v6⟩
    · exact absurd (hm.symm.trans v3) (fun z => by cases Option.some.inj z)
    have em := Sum.inr.inj (Option.some.inj (hm.symm.trans v3))
    have et : tkRs rs = tkRs rs' := congrArg Prod.fst em
    have es : stR 0 rs = stR 0 rs' := congrArg Prod.snd em
    have er : rs.length = rs'.length := by rw [← stR_l rs 0, ← stR_l rs' 0, es]
    rw [et] at i3 i5 htk l4
    rw [er] at i4 i6 hst
    rw [es] at hst
    clear hm em r3
    -- the state behind both
    generalize hZ : D2 (ai (sl (sr S1 8 0 s (some (t + 1))) 81 0 (nn 0) (Int32.toInt64 (Int32.ofNat rs.length))) 61 0 (rT (gi (sl (sr S1 8 0 s (some (t + 1))) 81 0 (nn 0) (Int32.toInt64 (Int32.ofNat rs.length))) 61 0) s rs')) fr r' = Z at v6
    have fZ : Fr (fun k x => ((k = 28 ∨ k = 30 ∨ k = 31) ∧ x = 0) ∨ ((k = 132 ∨ k = 32 ∨ k = 33 ∨ k = 34) ∧ x = t + 1) ∨ (k = 8 ∧ x = 0) ∨ k = 81 ∨ (k = 61 ∧ x = 0) ∨ (k = 60 ∧ x = 0) ∨ k = 67) S Z := by
      rw [← hZ]
      refine (f1.mono (fun k x hw => by omega)).tr ((Fr.sr (by omega)).tr ((Fr.sl (by omega)).tr ((Fr.ai (by omega)).tr (D2_f.mono (fun k x hw => by omega)))))
    have g60 : gi Z 60 0 = r' := by rw [← hZ, D2_g]
    have g61 : gi Z 61 0 = rT (gi S 61 0) s rs' := by
      rw [← hZ]
      show rT (gi S1 61 0) s rs' = _
      rw [f61.1]
    have g28 : gi Z 28 0 = r := by rw [← hZ]; exact e28
    have g8 : gr Z 8 0 = va_up (gr S 8 0) s (some (t + 1)) := by
      rw [← hZ]
      show va_up (gr S1 8 0) s (some (t + 1)) = _
      rw [(f1 8 0 (by omega)).2.2.1]
    have h60 : gl Z 60 0 = gl S 60 0 := by
      rw [← hZ]
      show gl S1 60 0 = _
      rw [f60.2.1]
    have h81 : gl Z 81 0 (nn 0) = Int32.toInt64 (Int32.ofNat rs.length) := by rw [← hZ]; rfl
    have a33 : gi Z 33 (t + 1) = gi S1 33 (t + 1) ∧ gn Z 33 (t + 1) = gn S1 33 (t + 1) := by rw [← hZ]; exact ⟨rfl, rfl⟩
    have a34 : gi Z 34 (t + 1) = gi S1 34 (t + 1) ∧ gn Z 34 (t + 1) = gn S1 34 (t + 1) := by rw [← hZ]; exact ⟨rfl, rfl⟩
    clear hZ
    have G : ∀ k x, k ≠ 8 → k ≠ 28 → k ≠ 30 → k ≠ 31 → k ≠ 60 → k ≠ 61 → k ≠ 67 → k ≠ 81 → k < 100 → ¬ (32 ≤ k ∧ k ≤ 34 ∧ x = t + 1) → gi Z k x = gi S k x ∧ gl Z k x = gl S k x ∧ gr Z k x = gr S k x ∧ gn Z k x = gn S k x := fun k x _ _ _ _ _ _ _ _ _ _ => fZ k x (by omega)
    have g : ∀ k x, k < 26 → k ≠ 8 → gi Z k x = gi S k x ∧ gl Z k x = gl S k x ∧ gr Z k x = gr S k x ∧ gn Z k x = gn S k x := fun k x h1 h2 => fZ k x (by omega)
    have nw : ∀ i, (i < 125 + 440 * s ∨ 125 + 440 * s + 440 ≤ i) → rT (gi S 61 0) s rs' i = gi S 61 0 i := fun i hi => if_neg (by omega)
    refine Ok.eq v6 ⟨?_, ?_, h81, ?_⟩
    · rw [g60]; exact w2
    · rw [er]
    refine h.txt (fZ.mono (fun k x hw => by unfold WT WS Scr; omega)) (by rw [h60]) (by rw [h60]) ⟨0, by rw [g28]; exact rd1, by rw [g60]; exact w3, by omega, fun i hi => absurd hi (Nat.not_lt_zero i), by rw [g28, g60, v4]; exact r6, by rw [g28, g60, v5]; exact r7⟩ ?_
    rw [g61, (fZ 63 0 (by omega)).2.1]
    refine ⟨N, D, hh, lv, ri, to, ch, c1.cg (fun i hi => nw i (by omega)), ?_, ?_, ?_, ?_, ?_, ?_, ?_, ?_, ?_, ?_, ?_, ⟨fun s' h1 h2 => ?_, fun s' hs' => ?_⟩, ?_, fun s' x hx => ?_⟩
    · unfold Ckn
      rw [(g 2 0 (by omega) (by omega)).1, (g 9 0 (by omega) (by omega)).1, (g 14 (2 * 0) (by omega) (by omega)).1, (g 22 0 (by omega) (by omega)).1, (g 14 (2 * 0 + 1) (by omega) (by omega)).1, (g 17 0 (by omega) (by omega)).1, (g 15 (2 * 0) (by omega) (by omega)).2.2.2, (g 15 (2 * 0 + 1) (by omega) (by omega)).2.2.2]
      exact c2
    · rw [(g 3 0 (by omega) (by omega)).1, (g 4 0 (by omega) (by omega)).1, (g 5 0 (by omega) (by omega)).1]; exact c3.cg b0 (fun i hi => nw i (by omega))
    · rw [(g 6 0 (by omega) (by omega)).2.1, (g 7 0 (by omega) (by omega)).2.1, (g 2 0 (by omega) (by omega)).2.1]; exact c4
    · rw [(g 10 0 (by omega) (by omega)).1, (g 11 0 (by omega) (by omega)).1, (g 12 0 (by omega) (by omega)).1, (g 13 0 (by omega) (by omega)).1]; exact c5.cg c1.2.1.2 (fun i hi => nw i (by omega))
    · rw [(g 15 (2 * 0) (by omega) (by omega)).1, (g 16 (2 * 0) (by omega) (by omega)).1]; exact c6.cg b0 (fun i hi => nw i (by omega))
    · rw [(g 15 (2 * 0 + 1) (by omega) (by omega)).1, (g 16 (2 * 0 + 1) (by omega) (by omega)).1]; exact c7.cg b0 c1.2.2.2.2.2.1.2 (fun i hi => nw i (by omega))
    · rw [(g 18 0 (by omega) (by omega)).1, (g 19 0 (by omega) (by omega)).1, (g 20 0 (by omega) (by omega)).1]; exact c8.cg c1.2.2.2.2.2.2.2 (fun i hi => nw i (by omega))
    · rw [(g 21 0 (by omega) (by omega)).1]; exact c9.cg c1.2.2.2.1.2 (fun i hi => nw i (by omega))
    · rw [(g 22 0 (by omega) (by omega)).1, (g 25 0 (by omega) (by omega)).1]; exact c10.cg c1.2.2.2.2.1.2 (fun i hi => nw i (by omega))
    · rw [(g 24 (2 * 0) (by omega) (by omega)).1, (g 24 (2 * 0 + 1) (by omega) (by omega)).1]; exact c11.cg (fun i hi => nw i (by omega))
    · rw [(g 2 0 (by omega) (by omega)).2.2.1, show gi Z 35 = gi S 35 from funext fun y => (fZ 35 y (by omega)).1]; exact c12.cg (fun i hi => nw i (by omega))
    · rw [g8, show va_up (gr S 8 0) s (some (t + 1)) s' = gr S 8 0 s' from if_neg (by omega)]; exact c13.1 s' h1 h2
    · rw [g8]
      by_cases e : s' = s
      · subst e
        rw [show va_up (gr S 8 0) s' (some (t + 1)) s' = some (t + 1) from if_pos rfl]
        refine ⟨rs', okr', l12', by rw [a33.2]; exact i3, by rw [a33.2, i3]; exact l4, fun i hi => ?_, by rw [a34.2]; exact i4, fun i hi => ?_, by omega, ?_, fun i hi => ?_⟩
        · rw [a33.2, i3] at hi
          rw [a33.1, i5 i hi, pgi_zr, if_neg (by omega)]
          exact htk i hi
        · rw [a34.2, i4] at hi
          rw [a34.1, i6 i hi, pgi_zr, if_neg (by omega)]
          exact hst i hi (by omega)
        · show (if _ then _ else _) = _
          rw [if_pos (by omega), Nat.sub_self]; rfl
        · show (if _ then _ else _) = _
          rw [if_pos (by omega), show 125 + 440 * s' + 1 + i - (125 + 440 * s') = i + 1 by omega]; rfl
      · rw [show va_up (gr S 8 0) s (some (t + 1)) s' = gr S 8 0 s' from if_neg e]
        have := c13.2 s' hs'
        cases hr : gr S 8 0 s' with
        | none =>
          rw [hr] at this
          show rT (gi S 61 0) s rs' (125 + 440 * s') = 0
          rw [nw _ (by omega)]; exact this
        | some r9 =>
          rw [hr] at this
          have l9 := c15 s' r9 hr
          obtain ⟨rs9, q9⟩ := this
          refine ⟨rs9, ?_⟩
          rw [(fZ 33 r9 (by omega)).1, (fZ 34 r9 (by omega)).1, (fZ 33 r9 (by omega)).2.2.2, (fZ 34 r9 (by omega)).2.2.2]
          exact q9.cg (fun i hi => nw i (by omega))
    · rw [(g 2 0 (by omega) (by omega)).2.2.1]
      exact fun x hx => Nat.le_succ_of_le (c14 x hx)
    · rw [g8] at hx
      by_cases e : s' = s
      · rw [e, show va_up (gr S 8 0) s (some (t + 1)) s = some (t + 1) from if_pos rfl] at hx
        exact Nat.le_of_eq (Option.some.inj hx).symm
      · rw [show va_up (gr S 8 0) s (some (t + 1)) s' = gr S 8 0 s' from if_neg e] at hx
        exact Nat.le_succ_of_le (c15 s' x hx)
end
