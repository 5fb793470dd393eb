section
-- CASE law, as a whole
theorem pc_6 {t : Nat} {S : St} {a1 a2 a3 a4 a5 : Int32} (h : Inv t S) : Ok (fc_6 (t + 1) a1 a2 a3 a4 a5 S) (Inv (t + 1)) := by
  unfold fc_6 f_L_law f_X11_law
  refine tw_i (S := S) ?_
  obtain ⟨N, D, hh, lv, ri, to, ch, c1, c2, c3, c4, c5, c6, c7, c8, c9, c10, c11, c12, c13, c14, c15⟩ := id h.1
  have b0 := c1.1.2
  obtain ⟨N0, q1, q2, q3, q4, q5, q6⟩ := id h.2.2.1
  by_cases hv : 0 ≤ a1 ∧ a1 ≤ Int32.ofNat N0
  case neg =>
    exact Ok.xl (n_wi (by rw [q1]; exact hv)) (Tw.l (cd := 1) rfl ⟨by decide, Ok.v (Ok.oe (m_wn (lo := 0) (hi := gi S 60 0 9) (by decide) rfl (by rw [q2]; exact hv)) (Ok.bt rfl (Ok.o2e rfl (Ok.sm ⟨rfl, (h.thr.thr).t (Nat.le_succ t)⟩))))⟩)
  refine Ok.xr (y_wi (by rw [q1]; exact hv)) ?_
  obtain ⟨n, hn, rfl⟩ := zWle (n := N0) (by omega) hv
  obtain ⟨c, tp, tr⟩ := tps q3 hn q4
  obtain ⟨fl9, r9, -, -, -, ref0⟩ := ref_law q2 hn q3 (tr S rfl)
  rcases ref0 with ⟨k, pl, -, -, hm, -⟩ | ⟨ls, us, okl, -, hm, -⟩
  · -- a fault
    obtain ⟨tk, sts, r, rd, rd1, k0, k4, r6, r7⟩ := rdAll (R := false) tp hm
    have rd : f_X9_read 0 (Int32.ofNat n) 0 S = some (C3 S tk sts r) := rd
    have rn : ¬ r 6 = 0 := by
      rw [r6]; exact fun z => k0 ((zE (b := 0) (by have := k4; omega) (by omega)).mp z)
    have an : f_X9_answer 0 (C3 S tk sts r) = some (-10 - Int32.ofNat k) := by
      unfold f_X9_answer
      rw [C3_g, bvN, brn rn, r6]
    refine Ok.oe rd (Ok.bf (by rw [C3_g]; exact rn) (Ok.oe an (Ok.sm (Tw.r ?_))))
    have fc := C3_f (S := S) (tk := tk) (sts := sts) (r := r)
    obtain ⟨fl, r', w1, w2, w3, w4⟩ := ref_law (Z := sl (C3 S tk sts r) 81 0 (nn 0) (Int32.toInt64 (-10 - Int32.ofNat k))) (c := c) (n := n) (N0 := N0) q2 hn q3 (tr _ rfl)
    rcases w4 with ⟨k', pl', v1, v2, v3, v4, v5, v6⟩ | ⟨ls, us, -, -, v3, -⟩
    · have ek := Sum.inl.inj (Option.some.inj (hm.symm.trans v3))
      have ek1 : k' = k := (congrArg Prod.fst ek).symm
      have ek2 : pl' = pl := (congrArg Prod.snd ek).symm
      subst ek1 ek2
      refine Ok.eq v6 ⟨?_, rfl, rfl, ?_⟩
      · show gi (L2 _ fl r') 60 0 5 = 0
        rw [L2_g]; exact w2
      · have fz : Fr (WT t) S (L2 (sl (C3 S tk sts r) 81 0 (nn 0) (Int32.toInt64 (-10 - Int32.ofNat k'))) fl r') := by
          refine (fc.mono (fun k x hw => ?_)).tr ((Fr.sl ?_).tr (L2_f.mono (fun k x hw => ?_)))
          · unfold WT; omega
          · unfold WT WS Scr; omega
          · unfold WT WS Scr; omega
        refine h.txt fz rfl rfl ⟨0, rd1, ?_, by omega, fun i hi => absurd hi (Nat.not_lt_zero i), ?_, ?_⟩ ?_
        · rw [L2_g]; exact w3
        · rw [L2_g, v4]; exact r6
        · rw [L2_g, v5]; exact r7
        · refine (Cr.fr (W := fun k x => (k = 28 ∨ k = 30 ∨ k = 31) ∧ x = 0 ∨ k = 81 ∨ k = 60 ∨ k = 68) ?_ (fun k x hw ho => by unfold own at ho; omega) h.1).t (Nat.le_succ t)
          exact (fc.mono (fun k x hw => Or.inl hw)).tr ((Fr.sl (by omega)).tr (L2_f.mono (fun k x hw => by omega)))
    · exact absurd (hm.symm.trans v3) (fun z => by cases Option.some.inj z)
  · -- a law
    obtain ⟨tk, sts, r, rd, rd1, r6, r7, r3, r5, l4, l4u, htk, hst⟩ := rdAll (R := false) tp hm
    have rd : f_X9_read 0 (Int32.ofNat n) 0 S = some (C3 S tk sts r) := rd
    dsimp only at r3 r5 l4 l4u htk hst
    have fc := C3_f (S := S) (tk := tk) (sts := sts) (r := r)
    have y3 : gi (zr (C3 S tk sts r) 135 (t + 1) 0) 28 0 3 = Int32.ofNat (ls.flatMap tkLn).length := by rw [pgi_zr, if_neg (by omega), C3_g]; exact r3
    have y30 : gi (zr (C3 S tk sts r) 135 (t + 1) 0) 30 0 = tk := by rw [pgi_zr, if_neg (by omega)]; rfl
    obtain ⟨S1, i1, i2, -⟩ := in5 (S := zr (C3 S tk sts r) 135 (t + 1) 0) (g := t + 1) (L := (ls.flatMap tkLn).length) y3 l4 (ls := ls) rfl (fun i hi => by rw [y30]; exact htk i hi) okl (fl := fl0 (fun _ => 0)) rfl rfl rfl rfl rfl
    have f1 : Fr (fun k x => ((k = 28 ∨ k = 30 ∨ k = 31) ∧ x = 0) ∨ ((k = 135 ∨ k = 35) ∧ x = t + 1)) S S1 := (fc.mono (fun k x hw => Or.inl hw)).tr ((Fr.zr (by omega)).tr (i2.mono (fun k x hw => by omega)))
    have e28 : gi S1 28 0 = r := by rw [(i2 28 0 (by omega)).1, pgi_zr, if_neg (by omega), C3_g]
    have an : f_X9_answer 0 (sr S1 2 0 8 (some (t + 1))) = some (Int32.ofNat us.length) := by
      unfold f_X9_answer
      rw [pgi_sr, e28, bvN, brp r6, r5]
    refine Ok.oe rd (Ok.bt (by rw [C3_g]; exact r6) (Ok.v (Ok.oe i1 (Ok.v (Ok.oe an (Ok.sm (Tw.r ?_)))))))
    have f61 := f1 61 0 (by omega)
    have f60 := f1 60 0 (by omega)
    have f66 := f1 66 0 (by omega)
    obtain ⟨fl, r', w1, w2, w3, w4⟩ := ref_law (Z := sl (sr S1 2 0 8 (some (t + 1))) 81 0 (nn 0) (Int32.toInt64 (Int32.ofNat us.length))) (c := c) (n := n) (N0 := N0) (by show gi S1 60 0 9 = _; rw [f60.1]; exact q2) hn q3 (tr _ f66.1)
    rcases w4 with ⟨k', pl', v1, v2, v3, -⟩ | ⟨ls', us', okl', efl, v3, v4, v5, v6⟩
    · exact absurd (hm.symm.trans v3) (fun z => by cases Option.some.inj z)
    have em := Sum.inr.inj (Option.some.inj (hm.symm.trans v3))
    have et : ls.flatMap tkLn = ls'.flatMap tkLn := congrArg Prod.fst em
    have eu : us = us' := congrArg Prod.snd em
    -- the class's words by the reference's lines
    obtain ⟨S1', i1', -, o0, o1, o2, o3, o4⟩ := in5 (S := zr (C3 S tk sts r) 135 (t + 1) 0) (g := t + 1) (L := (ls.flatMap tkLn).length) y3 l4 (ls := ls') (by rw [et]) (fun i hi => by rw [y30, ← et]; exact htk i hi) okl' (fl := fl0 (gi (sl (sr S1 2 0 8 (some (t + 1))) 81 0 (nn 0) (Int32.toInt64 (Int32.ofNat us.length))) 68 0)) rfl rfl rfl rfl rfl
    rw [← efl] at o0 o1 o2 o3 o4
    obtain rfl : S1' = S1 := Option.some.inj (i1'.symm.trans i1)
    have lok : Lok fl := by rw [efl]; exact Lok.fo ls' _ ⟨Or.inl rfl, Or.inl rfl, Or.inl rfl, Or.inl rfl⟩ okl'
    clear efl em v3 hm
    generalize hZ : L2 (ai (sl (sr S1' 2 0 8 (some (t + 1))) 81 0 (nn 0) (Int32.toInt64 (Int32.ofNat us.length))) 61 0 (lT (gi (sl (sr S1' 2 0 8 (some (t + 1))) 81 0 (nn 0) (Int32.toInt64 (Int32.ofNat us.length))) 61 0) fl)) fl r' = Z at v6
    have fZ : Fr (fun k x => ((k = 28 ∨ k = 30 ∨ k = 31) ∧ x = 0) ∨ ((k = 135 ∨ k = 35) ∧ x = t + 1) ∨ (k = 2 ∧ x = 0) ∨ k = 81 ∨ (k = 61 ∧ x = 0) ∨ (k = 60 ∧ x = 0) ∨ k = 68) S Z := by
      rw [← hZ]
      refine (f1.mono (fun k x hw => by omega)).tr ((Fr.sr (by omega)).tr ((Fr.sl (by omega)).tr ((Fr.ai (by omega)).tr (L2_f.mono (fun k x hw => by omega)))))
    have g60 : gi Z 60 0 = r' := by rw [← hZ, L2_g]
    have g61 : gi Z 61 0 = lT (gi S 61 0) fl := by
      rw [← hZ]
      show lT (gi S1' 61 0) fl = _
      rw [f61.1]
    have g28 : gi Z 28 0 = r := by rw [← hZ]; exact e28
    have g2r : gr Z 2 0 = va_up (gr S 2 0) 8 (some (t + 1)) := by
      rw [← hZ]
      show va_up (gr S1' 2 0) 8 (some (t + 1)) = _
      rw [(f1 2 0 (by omega)).2.2.1]
    have g2 : gi Z 2 0 = gi S 2 0 ∧ gl Z 2 0 = gl S 2 0 := by
      rw [← hZ]
      exact ⟨(f1 2 0 (by omega)).1, (f1 2 0 (by omega)).2.1⟩
    have h60 : gl Z 60 0 = gl S 60 0 := by
      rw [← hZ]
      show gl S1' 60 0 = _
      rw [f60.2.1]
    have h81 : gl Z 81 0 (nn 0) = Int32.toInt64 (Int32.ofNat us.length) := by rw [← hZ]; rfl
    have a35 : gi Z 35 (t + 1) = gi S1' 35 (t + 1) := by rw [← hZ]; rfl
    clear hZ
    have g : ∀ k x, k < 26 → k ≠ 2 → gi Z k x = gi S k x ∧ gl Z k x = gl S k x ∧ gr Z k x = gr S k x ∧ gn Z k x = gn S k x := fun k x h1 h2 => fZ k x (by omega)
    have nw : ∀ i, (i < 120 ∨ 125 ≤ i) → lT (gi S 61 0) fl i = gi S 61 0 i := fun i hi => if_neg (by omega)
    refine Ok.eq v6 ⟨?_, ?_, h81, ?_⟩
    · rw [g60]; exact w2
    · rw [eu]
    refine h.txt (fZ.mono (fun k x hw => by unfold WT WS Scr; omega)) (by rw [h60]) (by rw [h60]) ⟨0, by rw [g28]; exact rd1, by rw [g60]; exact w3, by omega, fun i hi => absurd hi (Nat.not_lt_zero i), by rw [g28, g60, v4]; exact r6, by rw [g28, g60, v5]; exact r7⟩ ?_
    rw [g61, (fZ 63 0 (by omega)).2.1]
    refine ⟨N, D, hh, lv, ri, to, ch, c1.cg (fun i hi => nw i (by omega)), ?_, ?_, ?_, ?_, ?_, ?_, ?_, ?_, ?_, ?_, ?_, ?_, ?_, ?_⟩
    · unfold Ckn
      rw [g2.1, (g 9 0 (by omega) (by omega)).1, (g 14 (2 * 0) (by omega) (by omega)).1, (g 22 0 (by omega) (by omega)).1, (g 14 (2 * 0 + 1) (by omega) (by omega)).1, (g 17 0 (by omega) (by omega)).1, (g 15 (2 * 0) (by omega) (by omega)).2.2.2, (g 15 (2 * 0 + 1) (by omega) (by omega)).2.2.2]
      exact c2
    · rw [(g 3 0 (by omega) (by omega)).1, (g 4 0 (by omega) (by omega)).1, (g 5 0 (by omega) (by omega)).1]; exact c3.cg b0 (fun i hi => nw i (by omega))
    · rw [(g 6 0 (by omega) (by omega)).2.1, (g 7 0 (by omega) (by omega)).2.1, g2.2]; exact c4
    · rw [(g 10 0 (by omega) (by omega)).1, (g 11 0 (by omega) (by omega)).1, (g 12 0 (by omega) (by omega)).1, (g 13 0 (by omega) (by omega)).1]; exact c5.cg c1.2.1.2 (fun i hi => nw i (by omega))
    · rw [(g 15 (2 * 0) (by omega) (by omega)).1, (g 16 (2 * 0) (by omega) (by omega)).1]; exact c6.cg b0 (fun i hi => nw i (by omega))
    · rw [(g 15 (2 * 0 + 1) (by omega) (by omega)).1, (g 16 (2 * 0 + 1) (by omega) (by omega)).1]; exact c7.cg b0 c1.2.2.2.2.2.1.2 (fun i hi => nw i (by omega))
    · rw [(g 18 0 (by omega) (by omega)).1, (g 19 0 (by omega) (by omega)).1, (g 20 0 (by omega) (by omega)).1]; exact c8.cg c1.2.2.2.2.2.2.2 (fun i hi => nw i (by omega))
    · rw [(g 21 0 (by omega) (by omega)).1]; exact c9.cg c1.2.2.2.1.2 (fun i hi => nw i (by omega))
    · rw [(g 22 0 (by omega) (by omega)).1, (g 25 0 (by omega) (by omega)).1]; exact c10.cg c1.2.2.2.2.1.2 (fun i hi => nw i (by omega))
    · rw [(g 24 (2 * 0) (by omega) (by omega)).1, (g 24 (2 * 0 + 1) (by omega) (by omega)).1]; exact c11.cg (fun i hi => nw i (by omega))
    · rw [g2r, show va_up (gr S 2 0) 8 (some (t + 1)) 8 = some (t + 1) from if_pos rfl]
      obtain ⟨l1, l2, l3, l5⟩ := lok
      have T0 : lT (gi S 61 0) fl 120 = fl 0 := rfl
      have T1 : lT (gi S 61 0) fl 121 = fl 1 := rfl
      have T2 : lT (gi S 61 0) fl 122 = fl 2 := rfl
      have T3 : lT (gi S 61 0) fl 123 = fl 3 := rfl
      have T4 : lT (gi S 61 0) fl 124 = fl 4 := rfl
      show (gi Z 35 (t + 1) 0 = if lT (gi S 61 0) fl 120 = -1 then 0 else lT (gi S 61 0) fl 120) ∧ (lT (gi S 61 0) fl 120 = -1 ∨ (Lt 100 (lT (gi S 61 0) fl 120) ∧ lT (gi S 61 0) fl 120 ≠ 0)) ∧ gi Z 35 (t + 1) 1 = lT (gi S 61 0) fl 121 ∧ gi Z 35 (t + 1) 2 = lT (gi S 61 0) fl 122 ∧ (lT (gi S 61 0) fl 122 = -1 ∨ Lt 100 (lT (gi S 61 0) fl 122)) ∧ gi Z 35 (t + 1) 3 = lT (gi S 61 0) fl 124 ∧ gi Z 35 (t + 1) 4 = lT (gi S 61 0) fl 123 ∧ (lT (gi S 61 0) fl 123 = 0 ∨ lT (gi S 61 0) fl 123 = 1) ∧ (lT (gi S 61 0) fl 124 = 0 ∨ lT (gi S 61 0) fl 124 = 1)
      rw [T0, T1, T2, T3, T4, a35]
      exact ⟨o0, l1, o1, o2, l2, o3, o4, l3, l5⟩
    · rw [(g 8 0 (by omega) (by omega)).2.2.1]
      refine Cru.st (S := S) (fun k x hk => ⟨?_, ?_⟩) (c13.cg b0 (fun i hi => nw i (by omega)))
      · exact (fZ k x (by omega)).1
      · exact (fZ k x (by omega)).2.2.2
    · intro x hx
      rw [g2r, show va_up (gr S 2 0) 8 (some (t + 1)) 8 = some (t + 1) from if_pos rfl] at hx
      exact Nat.le_of_eq (Option.some.inj hx).symm
    · rw [(g 8 0 (by omega) (by omega)).2.2.1]
      exact fun s x hx => Nat.le_succ_of_le (c15 s x hx)
end
