-- CASE would
theorem sc_ok {h : Nat} {c : Int32} (hh : h ≤ 3000) (hc : c = -1 ∨ Lt h c) : ∃ n : Nat, n ≤ 99 ∧ mnI (if c = -1 then Int32.ofNat h + 1 else Int32.ofNat h - c) 99 = Int32.ofNat n := by
  obtain ⟨e, he, ee⟩ : ∃ e : Nat, e ≤ 3001 ∧ (if c = -1 then Int32.ofNat h + 1 else Int32.ofNat h - c) = Int32.ofNat e := by
    by_cases h1 : c = -1
    · exact ⟨h + 1, by omega, by rw [if_pos h1, zp1]⟩
    · rcases hc with h2 | ⟨d, hd, e⟩
      · exact absurd h2 h1
      · exact ⟨h - d, by omega, by rw [if_neg h1, e, zS d (by omega)]⟩
  exact ⟨min e 99, by omega, by rw [ee]; exact zmn (a := e) (b := 99) (by omega) (by omega)⟩
theorem pc_11 {t : Nat} {S : St} {a1 a2 a3 a4 a5 : Int32} (h : Inv t S) : Ok (fc_11 (t + 1) a1 a2 a3 a4 a5 S) (Inv (t + 1)) := by
  unfold fc_11 f_L_would f_X11_would
  refine tw_i (S := S) ?_
  obtain ⟨⟨N, D, hh, lv, ri, to, ch, c1, c2, c3, c4, c5, c6, c7, c8, c9, c10, c11, c12, c13, c14, c15⟩, -⟩ := id h
  have n0 := c1.1.1
  have b0 := c1.1.2
  have n2 := c1.2.2.1.1
  have b2 := c1.2.2.1.2
  have cap := c2.2.2.2.2.2.2.2.1
  have len := c2.2.2.2.2.2.2.2.2.2.1
  by_cases hs : a1 < 0 ∨ ¬ a1 < Int32.ofNat N
  · exact Ok.xl (n_st c2.1 hs) (Tw.l (cd := 1) rfl ⟨by decide, Ok.v (Ok.oe (m_stn (S := si S 60 0 5 0) n0 b0 hs) (Ok.bt rfl (Ok.o2e rfl (Ok.sm ⟨rfl, pf_bad h.thr⟩))))⟩)
  obtain ⟨a, ha, rfl⟩ := or_st b0 hs
  obtain ⟨q1, q2, q3, q4, q5, q6⟩ := c3 a ha
  obtain ⟨n, hn, en⟩ := sc_ok b2 q6
  obtain ⟨v, pv, ⟨S1, e1, f1⟩, mk⟩ := dec_two (S := S) (G := 2 * 0) (N := N) (hi := hh) (a := a) (t := hh) (T := gi S 61 0) (B := B0 (gi S 61 0)) (sc := Int32.ofNat n) (m := 0) (bc0 cap len c6 b0 b2) (br0 b0 b2) b0 c2.1 n0 ha q1 q3 q4 (Nat.le_refl _) b2 (zGe (by omega)) (fun Z eT em => by
    rw [e_since0 em (by omega), eT, ← en, mn_comm]) c12 c13
  refine Ok.xr (y_st c2.1 b0 ha) (Ok.ve (x := Int32.ofNat hh) c2.2.2.1 (Ok.c (ib (by omega) (by omega)) (Ok.oe (x := Int32.ofNat n) ?_ (Ok.o2e e1 (Ok.sm (Tw.r ?_))))))
  · rw [e_sinceIn, zN (by omega), q5, en]
  have eT : gi (si (si (sl S1 81 0 (nn 0) v.toInt64) 60 0 5 0) 60 0 23 0) 61 0 = gi S 61 0 := (f1 61 0 (by omega)).1
  obtain ⟨Z', e2, f2⟩ := mk (si (si (sl S1 81 0 (nn 0) v.toInt64) 60 0 5 0) 60 0 23 0) eT rfl
  refine Ok.v (Ok.oe (m_sty (S := si (sl S1 81 0 (nn 0) v.toInt64) 60 0 5 0) (by show gi S1 61 0 0 = _; rw [(f1 61 0 (by omega)).1]; exact n0) b0 ha) (Ok.bf (by decide) (Ok.v (Ok.c (by decide) (Ok.o2e (x := v) (S := Z') ?_ (Ok.sm ⟨?_, rfl, ?_, ?_⟩))))))
  · rw [eT, show gi S 61 0 (nn 2) = Int32.ofNat hh from n2]; exact e2
  · show gi Z' 60 0 5 = 0
    rw [(f2 60 0 (by omega)).1]; rfl
  · show gl Z' 81 0 (nn 0) = _
    rw [(f2 81 0 (by omega)).2.1]; rfl
  · have r60 := f1 60 0 (by omega)
    have z60 := f2 60 0 (by omega)
    refine Inv.t (Nat.le_succ t) (h.scr ?_ ?_ ?_ ?_ ?_ ?_)
    · refine (f1.mono (fun k x hw => ?_)).tr ((Fr.sl ?_).tr ((Fr.si ?_).tr ((Fr.si ?_).tr (f2.mono (fun k x hw => ?_)))))
      · unfold WS Scr; omega
      · unfold WS Scr; omega
      · unfold WS; omega
      · unfold WS; omega
      · unfold WS Scr; omega
    · rw [z60.1]; show gi S1 60 0 9 = _; rw [r60.1]
    · rw [z60.1]; show gi S1 60 0 18 = _; rw [r60.1]
    · rw [z60.1]; show gi S1 60 0 19 = _; rw [r60.1]
    · rw [z60.2.1]; show gl S1 60 0 26 = _; rw [r60.2.1]
    · rw [z60.2.1]; show gl S1 60 0 27 = _; rw [r60.2.1]
