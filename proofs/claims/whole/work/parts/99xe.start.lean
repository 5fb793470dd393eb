theorem pure_start : ∃ S0, initf = some S0 ∧ Inv 0 S0 := by
  obtain ⟨S2, e2, f2, q2, r2⟩ := inCr (S := zr S00 100 0 0) (g := 0) (t := 0) (T := TF) (M := fun _ => 0) ⟨fun i hi => by unfold TF; rw [upd_ne (by omega), upd_ne (by omega), if_neg (by omega)], fun i h1 h2 => by unfold TF; rw [upd_ne (by omega), upd_ne (by omega), if_pos ⟨by omega, h2⟩], rfl, rfl, rfl, rfl, rfl⟩ (fun _ _ => rfl)
  obtain ⟨S6, e6, f6, a1, a2, a3⟩ := i9 (S := zr (zr S2 1 0 3) 128 0 0)
  obtain ⟨S9, e9, f9, d1, d2⟩ := i10 (S := zr S6 149 0 0)
  obtain ⟨S12, e12, f12⟩ := i4 (S := zr S9 136 0 0)
  obtain ⟨S15, e15, f15⟩ := i6 (S := zr S12 144 0 0)
  obtain ⟨Sf, ef, ff, t61, t63, t65, t9, t18, t19, t26, t27, t78, t79⟩ := i12 (S := cp S15 100 0 0)
  refine ⟨zr Sf 81 0 1, ?_, ?_⟩
  · unfold initf f_X11_init
    rw [bvE, bvE, e2, onS, bvE, bvE, e6, onS, bvE, e9, onS, bvE, e12, onS, bvE, e15, onS, bvE, onS, bvE, ef, onS, bvE]
  -- frames
  have g15 : Fr (fun k x => (36 ≤ k ∧ k ≤ 48) ∨ k = 58 ∨ (k = 26 ∧ x = 0) ∨ 100 ≤ k) S9 S15 := (Fr.zr (by omega)).tr ((f12.mono (fun k x hw => by omega)).tr ((Fr.zr (by omega)).tr (f15.mono (fun k x hw => by omega))))
  have gf : Fr (fun k x => k = 0 ∨ 60 ≤ k) S15 (zr Sf 81 0 1) := (Fr.cp (by omega)).tr ((ff.mono (fun k x hw => by omega)).tr (Fr.zr (by omega)))
  have g9f : Fr (fun k x => k = 0 ∨ (36 ≤ k ∧ k ≤ 48) ∨ 58 ≤ k ∨ (k = 26 ∧ x = 0)) S9 (zr Sf 81 0 1) := (g15.mono (fun k x hw => by omega)).tr (gf.mono (fun k x hw => by omega))
  have g6f : Fr (fun k x => k = 0 ∨ 36 ≤ k ∨ (k = 26 ∧ x = 0)) S6 (zr Sf 81 0 1) := (Fr.zr (by omega)).tr ((f9.mono (fun k x hw => by omega)).tr (g9f.mono (fun k x hw => by omega)))
  have g2f : Fr (fun k x => k = 0 ∨ k = 1 ∨ (28 ≤ k ∧ k ≤ 31) ∨ 36 ≤ k ∨ (k = 26 ∧ x = 0)) S2 (zr Sf 81 0 1) := (Fr.zr (by omega)).tr ((Fr.zr (by omega)).tr ((f6.mono (fun k x hw => by omega)).tr (g6f.mono (fun k x hw => by omega))))
  have z : ∀ k x, k ≠ 81 → gi (zr Sf 81 0 1) k x = gi Sf k x ∧ gl (zr Sf 81 0 1) k x = gl Sf k x := fun k x hk => ⟨(zr_o (fun e => hk e.1)).1, (zr_o (fun e => hk e.1)).2.1⟩
  have i1 : ∀ i, gr (zr Sf 81 0 1) 1 0 i = none := fun i => by
    have e : gr (zr Sf 81 0 1) 1 0 = gr S6 1 0 := (g6f 1 0 (by omega)).2.2.1
    rw [e, (f6 1 0 (by omega)).2.2.1, pgr_zr, if_neg (by omega), pgr_zr, if_pos ⟨rfl, rfl⟩]
  refine ⟨?_, ⟨fun i hi => ?_, fun i j g hi hj hg => ?_⟩, ?_, ?_, ?_⟩
  · rw [(z 61 0 (by omega)).1, t61]
    exact (Cr.fr g2f (fun k x hw ho => by unfold own at ho; omega) q2).cgT (fun k _ => rfl) (fun k _ => by rw [(z 63 0 (by omega)).2, t63])
  · rw [i1 i]
    show gi (zr Sf 81 0 1) 65 0 i = 0
    rw [(z 65 0 (by omega)).1, t65]
  · rw [i1 i] at hg; cases hg
  · refine ⟨0, ?_, ?_, by omega, fun i hi => by omega, ?_, ?_⟩
    · rw [(g6f 28 0 (by omega)).1, a1, pgi_zr, if_pos ⟨rfl, rfl⟩]; rfl
    · rw [(z 60 0 (by omega)).1, t9]; rfl
    · rw [(g6f 28 0 (by omega)).1, a2, pgi_zr, if_pos ⟨rfl, rfl⟩, (z 60 0 (by omega)).1, t18]
    · rw [(g6f 28 0 (by omega)).1, a3, (z 60 0 (by omega)).1, t19]
  · have e100 : gl S15 100 0 = fun _ => 0 := by
      have u1 : gl S15 100 0 = gl S9 100 0 := by
        rw [(f15 100 0 (by omega)).2.1, pgl_zr, if_neg (by omega), (f12 100 0 (by omega)).2.1, pgl_zr, if_neg (by omega)]
      rw [u1, (f9 100 0 (by omega)).2.1, pgl_zr, if_neg (by omega), (f6 100 0 (by omega)).2.1, pgl_zr, if_neg (by omega), pgl_zr, if_neg (by omega), (f2 100 0 (by unfold WI ow0; omega)).2.1, pgl_zr, if_pos ⟨rfl, rfl⟩]
    have e0 : gl (zr Sf 81 0 1) 0 0 = fun _ => 0 := by
      rw [(z 0 0 (by omega)).2, (ff 0 0 (by omega)).2.1, pgl_cp, if_pos ⟨rfl, rfl⟩, e100]
    refine ⟨?_, ?_⟩
    · rw [e0, (z 60 0 (by omega)).2, t26]
    · rw [e0, (z 60 0 (by omega)).2, t27]
  · intro s hs
    refine ⟨?_, Or.inl ?_, 0, by omega, ?_, ?_, fun k hk => by omega⟩
    · rw [(g9f 50 0 (by omega)).1, d1 s hs, (z 78 0 (by omega)).1, t78 s hs]
    · rw [(z 78 0 (by omega)).1, t78 s hs]
    · rw [(g9f 51 0 (by omega)).1, d2 s]; rfl
    · rw [(z 79 0 (by omega)).1, t79 s]; rfl
