-- CASE station
theorem pc_0 {t : Nat} {S : St} {a1 a2 a3 a4 a5 : Int32} (h : Inv t S) : Ok (fc_0 (t + 1) a1 a2 a3 a4 a5 S) (Inv (t + 1)) := by
  unfold fc_0 f_L_station f_X11_station
  refine tw_i (S := S) ?_
  obtain ⟨⟨N, D, hh, lv, ri, to, ch, c1, c2, c3, c4, c5, c6, c7, c8, c9, c10, c11, c12, c13, c14, c15⟩, -⟩ := id h
  have b0 := c1.1.2
  have n0 := c1.1.1
  have k0 := c2.1
  have n2 := c1.2.2.1.1
  have b2 := c1.2.2.1.2
  have k2 := c2.2.2.1
  have n5 := c1.2.2.2.2.2.1.1
  have b5 := c1.2.2.2.2.2.1.2
  have k5 := c2.2.2.2.2.2.1
  have z : ∀ n : Nat, n ≤ 3000 → (0 < Int32.ofNat n ↔ 0 < n) := fun n hn => zL (a := 0) (b := n) (by omega) (by omega)
  refine Ok.v ?_
  by_cases e2 : 0 < hh
  · refine Ok.bt (by rw [k2]; exact (z hh (by omega)).mpr e2) (Ok.sm (Tw.l (cd := 1) rfl ⟨by decide, ?_⟩))
    exact Ok.v (Ok.c (by decide) (Ok.v (Ok.bt (show 0 < gi S 61 0 2 by rw [n2]; exact (z hh (by omega)).mpr e2) (Ok.o2e rfl (Ok.sm ⟨rfl, h.thr.thr.t (Nat.le_succ t)⟩)))))
  have e2 : hh = 0 := by omega
  subst e2
  refine Ok.bf (by rw [k2]; decide) ?_
  have hb2 : ¬ 0 < gi S 61 0 2 := by rw [n2]; decide
  by_cases e5 : 0 < to
  · refine Ok.bf (by rw [k5]; exact fun w => absurd ((z to (by omega)).mpr e5) (Int32.not_lt.mpr w)) (Ok.sm (Tw.l (cd := 1) rfl ⟨by decide, ?_⟩))
    exact Ok.v (Ok.c (by decide) (Ok.v (Ok.bf hb2 (Ok.c (by decide) (Ok.bf (show ¬ gi S 61 0 5 ≤ 0 by rw [n5]; exact fun w => absurd ((z to (by omega)).mpr e5) (Int32.not_lt.mpr w)) (Ok.o2e rfl (Ok.sm ⟨rfl, h.thr.thr.t (Nat.le_succ t)⟩)))))))
  have e5 : to = 0 := by omega
  subst e5
  refine Ok.bt (by rw [k5]; decide) ?_
  have hb5 : gi S 61 0 5 ≤ 0 := by rw [n5]; decide
  by_cases h1 : 0 ≤ a1 ∧ a1 ≤ 99
  rotate_left
  · refine Ok.xl (n_pr h1) (Tw.l (cd := 2) rfl ⟨by decide, ?_⟩)
    exact Ok.v (Ok.c (by decide) (Ok.v (Ok.bf hb2 (Ok.c (by decide) (Ok.bt hb5 (Ok.oe (m_wn (lo := 0) (hi := 99) (by decide) (by decide) h1) (Ok.v (Ok.bt rfl (Ok.o2e rfl (Ok.sm ⟨rfl, h.thr.thr.t (Nat.le_succ t)⟩))))))))))
  by_cases h2 : 0 ≤ a2 ∧ a2 ≤ 99
  rotate_left
  · refine Ok.xr (y_pr h1) (Ok.xl (n_pr h2) (Tw.l (cd := 2) rfl ⟨by decide, ?_⟩))
    exact Ok.v (Ok.c (by decide) (Ok.v (Ok.bf hb2 (Ok.c (by decide) (Ok.bt hb5 (Ok.oe (m_wy (lo := 0) (hi := 99) (by decide) (by decide) h1) (Ok.v (Ok.bf (by decide) (Ok.oe (m_wn (lo := 0) (hi := 99) (by decide) (by decide) h2) (Ok.bt rfl (Ok.o2e rfl (Ok.sm ⟨rfl, h.thr.thr.t (Nat.le_succ t)⟩))))))))))))
  by_cases h3 : 0 ≤ a3 ∧ a3 ≤ 3
  rotate_left
  · refine Ok.xr (y_pr h1) (Ok.xr (y_pr h2) (Ok.xl (n_wi h3) (Tw.l (cd := 2) rfl ⟨by decide, ?_⟩)))
    exact Ok.v (Ok.c (by decide) (Ok.v (Ok.bf hb2 (Ok.c (by decide) (Ok.bt hb5 (Ok.oe (m_wy (lo := 0) (hi := 99) (by decide) (by decide) h1) (Ok.v (Ok.bf (by decide) (Ok.oe (m_wy (lo := 0) (hi := 99) (by decide) (by decide) h2) (Ok.bf (by decide) (Ok.oe (m_wn (lo := 0) (hi := 3) (by decide) (by decide) h3) (Ok.bt rfl (Ok.o2e rfl (Ok.sm ⟨rfl, h.thr.thr.t (Nat.le_succ t)⟩))))))))))))))
  obtain ⟨p1, hp1, rfl⟩ := zWle (x := a1) (n := 99) (by omega) h1
  obtain ⟨p2, hp2, rfl⟩ := zWle (x := a2) (n := 99) (by omega) h2
  obtain ⟨p3, hp3, rfl⟩ := zWle (x := a3) (n := 3) (by omega) h3
  refine Ok.xr (y_pr h1) (Ok.xr (y_pr h2) (Ok.xr (y_wi h3) ?_))
  unfold f_X2_addStation
  by_cases h4 : N < 4
  · rw [brp (show gi S 2 0 0 < 4 by rw [k0]; exact (zL (a := N) (b := 4) (by omega) (by omega)).mpr h4)]
    show Ok (on2 (bv (gi S 2 0 0) _) _) _
    refine Ok.o2 (Q := fun o => o = (Int32.ofNat N, si (si (si (si (si S 2 0 0 (Int32.ofNat N + 1)) 3 0 N (Int32.ofNat p1)) 4 0 N (Int32.ofNat p3)) 5 0 N (-1)) 16 (2 * 0) N (Int32.ofNat p2))) ?_ ?_
    · refine Ok.ve k0 (Ok.v (Ok.c (ib h4 (by omega)) ?_))
      rw [zN (show N < 2147483648 by omega)]
      exact Ok.v (Ok.c (ib h4 (by omega)) (Ok.v (Ok.c (ib h4 (by omega)) (Ok.v (Ok.c (ib h4 (by omega)) (Ok.v (Ok.sm rfl)))))))
    · intro x S2 he
      cases he
      refine Ok.sm (Tw.r ?_)
      refine Ok.v (Ok.c (by decide) (Ok.v (Ok.bf hb2 (Ok.c (by decide) (Ok.bt hb5 (Ok.oe (m_wy (lo := 0) (hi := 99) (by decide) (by decide) h1) (Ok.v (Ok.bf (by decide) (Ok.oe (m_wy (lo := 0) (hi := 99) (by decide) (by decide) h2) (Ok.bf (by decide) (Ok.oe (m_wy (lo := 0) (hi := 3) (by decide) (by decide) h3) (Ok.bf (by decide) (Ok.c (by decide) ?_)))))))))))))
      refine Ok.bf (show ¬ gi S 61 0 0 = 4 by rw [n0]; exact fun w => by have := (zE (a := N) (b := 4) (by omega) (by omega)).mp w; omega) (Ok.c (by decide) (Ok.ve (x := Int32.ofNat N) n0 ?_))
      refine Ok.c (ibA (by omega) (by omega)) ?_
      rw [nA (a := 8) (show 8 + N < 2147483648 by omega)]
      refine Ok.v (Ok.c (ibA (by omega) (by omega)) ?_)
      rw [nA (a := 12) (show 12 + N < 2147483648 by omega)]
      refine Ok.v (Ok.c (ibA (by omega) (by omega)) ?_)
      rw [nA (a := 16) (show 16 + N < 2147483648 by omega)]
      refine Ok.v (Ok.c (ibA (by omega) (by omega)) ?_)
      rw [nA (a := 20) (show 20 + N < 2147483648 by omega)]
      refine Ok.v (Ok.c (ibA (by omega) (by omega)) ?_)
      rw [nA (a := 24) (show 24 + N < 2147483648 by omega), zMu]
      refine Ok.v (Ok.c (ibA (by omega) (by omega)) ?_)
      rw [nA (a := 125) (show 125 + 440 * N < 2147483648 by omega)]
      refine Ok.v (Ok.c (by decide) (Ok.c (by decide) (Ok.v (Ok.sm ⟨rfl, rfl, rfl, ?_⟩))))
      -- the new told
      obtain ⟨T1, hT1⟩ : ∃ T1, T1 = upd (upd (upd (upd (upd (upd (gi S 61 0) (8 + N) (Int32.ofNat p1)) (12 + N) (Int32.ofNat p2)) (16 + N) (Int32.ofNat p3)) (20 + N) (Int32.ofNat p2)) (24 + N) (-1)) (125 + 440 * N) 0 := ⟨_, rfl⟩
      have o1 : ∀ i, i ≠ 8 + N → i ≠ 12 + N → i ≠ 16 + N → i ≠ 20 + N → i ≠ 24 + N → i ≠ 125 + 440 * N → T1 i = gi S 61 0 i := fun i h1 h2 h3 h4 h5 h6 => by
        rw [hT1, upd_ne h6, upd_ne h5, upd_ne h4, upd_ne h3, upd_ne h2, upd_ne h1]
      have v8 : T1 (8 + N) = Int32.ofNat p1 := by rw [hT1, upd_ne (by omega), upd_ne (by omega), upd_ne (by omega), upd_ne (by omega), upd_ne (by omega), upd_eq]
      have v12 : T1 (12 + N) = Int32.ofNat p2 := by rw [hT1, upd_ne (by omega), upd_ne (by omega), upd_ne (by omega), upd_ne (by omega), upd_eq]
      have v16 : T1 (16 + N) = Int32.ofNat p3 := by rw [hT1, upd_ne (by omega), upd_ne (by omega), upd_ne (by omega), upd_eq]
      have v20 : T1 (20 + N) = Int32.ofNat p2 := by rw [hT1, upd_ne (by omega), upd_ne (by omega), upd_eq]
      have v24 : T1 (24 + N) = -1 := by rw [hT1, upd_ne (by omega), upd_eq]
      have v125 : T1 (125 + 440 * N) = 0 := by rw [hT1, upd_eq]
      have o0 : T1 0 = Int32.ofNat N := (o1 0 (by omega) (by omega) (by omega) (by omega) (by omega) (by omega)).trans n0
      obtain ⟨T2, hT2⟩ : ∃ T2, T2 = upd T1 0 (Int32.ofNat (N + 1)) := ⟨_, rfl⟩
      have o2 : ∀ i, 0 < i → T2 i = T1 i := fun i hi => by rw [hT2, upd_ne (by omega)]
      have o3 : ∀ i, 0 < i → i ≠ 8 + N → i ≠ 12 + N → i ≠ 16 + N → i ≠ 20 + N → i ≠ 24 + N → i ≠ 125 + 440 * N → T2 i = gi S 61 0 i := fun i h0 h1 h2 h3 h4 h5 h6 => (o2 i h0).trans (o1 i h1 h2 h3 h4 h5 h6)
      refine Inv.t (Nat.le_succ t) (h.now ?_ rfl rfl rfl rfl rfl ?_)
      · exact ((((((((((((Fr.si (by unfold WN WS Scr; omega)).tr (Fr.si (by unfold WN WS Scr; omega))).tr (Fr.si (by unfold WN WS Scr; omega))).tr (Fr.si (by unfold WN WS Scr; omega))).tr (Fr.si (by unfold WN WS Scr; omega))).tr (Fr.sl (by unfold WN WS Scr; omega))).tr (Fr.si (by unfold WN WS Scr; omega))).tr (Fr.si (by unfold WN WS Scr; omega))).tr (Fr.si (by unfold WN WS Scr; omega))).tr (Fr.si (by unfold WN WS Scr; omega))).tr (Fr.si (by unfold WN WS Scr; omega))).tr (Fr.si (by unfold WN WS Scr; omega))).tr ((Fr.si (by unfold WN WS Scr; omega)).tr (Fr.si (by unfold WN WS Scr; omega)))
      · show Cr t _ 0 (upd (upd (upd (upd (upd (upd (upd (gi S 61 0) (8 + N) (Int32.ofNat p1)) (12 + N) (Int32.ofNat p2)) (16 + N) (Int32.ofNat p3)) (20 + N) (Int32.ofNat p2)) (24 + N) (-1)) (125 + 440 * N) 0) 0 ((upd (upd (upd (upd (upd (upd (gi S 61 0) (8 + N) (Int32.ofNat p1)) (12 + N) (Int32.ofNat p2)) (16 + N) (Int32.ofNat p3)) (20 + N) (Int32.ofNat p2)) (24 + N) (-1)) (125 + 440 * N) 0) 0 + 1)) (gl S 63 0)
        rw [← hT1, o0, show Int32.ofNat N + 1 = Int32.ofNat (N + 1) from zA' 1 N, ← hT2]
        refine ⟨N + 1, D, 0, lv, ri, 0, ch, ?_, ?_, ?_, c4, ?_, ?_, ?_, ?_, ?_, ?_, ?_, ?_, ?_, c14, c15⟩
        · rw [hT2]
          exact Cn.s0 (c1.cg (fun i hi => o1 i (by omega) (by omega) (by omega) (by omega) (by omega) (by omega))) rfl (by omega)
        · exact ⟨rfl, c2.2⟩
        · show Cst (N + 1) 0 (upd (gi S 3 0) N (Int32.ofNat p1)) (upd (gi S 4 0) N (Int32.ofNat p3)) (upd (gi S 5 0) N (-1)) T2
          intro s hs
          by_cases e : s = N
          · subst e
            rw [upd_eq, upd_eq, upd_eq, o2 _ (by omega), o2 _ (by omega), o2 _ (by omega), v8, v16, v24]
            exact ⟨rfl, ⟨p1, hp1, rfl⟩, rfl, ⟨p3, by omega, rfl⟩, rfl, Or.inl rfl⟩
          · rw [upd_ne e, upd_ne e, upd_ne e, o3 (8 + s) (by omega) (by omega) (by omega) (by omega) (by omega) (by omega) (by omega), o3 (16 + s) (by omega) (by omega) (by omega) (by omega) (by omega) (by omega) (by omega), o3 (24 + s) (by omega) (by omega) (by omega) (by omega) (by omega) (by omega) (by omega)]
            exact c3 s (by omega)
        · intro k hk
          have bD := c1.2.1.2
          rw [o3 (28 + 4 * k) (by omega) (by omega) (by omega) (by omega) (by omega) (by omega) (by omega), o3 (28 + 4 * k + 1) (by omega) (by omega) (by omega) (by omega) (by omega) (by omega) (by omega), o3 (28 + 4 * k + 2) (by omega) (by omega) (by omega) (by omega) (by omega) (by omega) (by omega), o3 (28 + 4 * k + 3) (by omega) (by omega) (by omega) (by omega) (by omega) (by omega) (by omega)]
          obtain ⟨q1, q2, q3, q4, q5, q6, q7, q8⟩ := c5 k hk
          exact ⟨q1, q2, q3, q4, q5, q6.mono (by omega), q7.mono (Nat.pow_le_pow_right (by omega) (by omega)), q8⟩
        · show Chr (N + 1) 0 (gi S 15 (2 * 0)) (upd (gi S 16 (2 * 0)) N (Int32.ofNat p2)) T2
          refine ⟨fun s hs => ?_, fun q s hq => absurd hq (by omega), fun s hs => ?_⟩
          · by_cases e : s = N
            · subst e
              rw [upd_eq, o2 _ (by omega), v20]
              exact ⟨rfl, p2, hp2, rfl⟩
            · rw [upd_ne e, o3 (20 + s) (by omega) (by omega) (by omega) (by omega) (by omega) (by omega) (by omega)]
              exact c6.1 s (by omega)
          · rw [if_pos rfl]
            by_cases e : s = N
            · subst e
              rw [o2 _ (by omega), o2 _ (by omega), v20, v12]
            · rw [o3 (12 + s) (by omega) (by omega) (by omega) (by omega) (by omega) (by omega) (by omega), o3 (20 + s) (by omega) (by omega) (by omega) (by omega) (by omega) (by omega) (by omega)]
              have := c6.2.2 s (by omega)
              rw [if_pos rfl] at this
              exact this
        · exact ⟨fun k s hk => absurd hk (by omega), fun h0 => absurd h0 (by omega)⟩
        · intro k hk
          have bC := c1.2.2.2.2.2.2.2
          rw [o3 (3149 + 3 * k) (by omega) (by omega) (by omega) (by omega) (by omega) (by omega) (by omega), o3 (3149 + 3 * k + 1) (by omega) (by omega) (by omega) (by omega) (by omega) (by omega) (by omega), o3 (3149 + 3 * k + 2) (by omega) (by omega) (by omega) (by omega) (by omega) (by omega) (by omega)]
          obtain ⟨q1, q2, q3, q4, q5⟩ := c8 k hk
          exact ⟨q1, q2, q3, q4.mono (by omega), q5⟩
        · exact c9.cg c1.2.2.2.1.2 (fun i hi => o3 i (by omega) (by omega) (by omega) (by omega) (by omega) (by omega) (by omega))
        · exact c10.cg c1.2.2.2.2.1.2 (fun i hi => o3 i (by omega) (by omega) (by omega) (by omega) (by omega) (by omega) (by omega))
        · exact c11.cg (fun i hi => o3 i (by omega) (by omega) (by omega) (by omega) (by omega) (by omega) (by omega))
        · exact c12.cg (fun i hi => o3 i (by omega) (by omega) (by omega) (by omega) (by omega) (by omega) (by omega))
        · refine ⟨fun s h1 h2 => c13.1 s (by omega) h2, fun s hs => ?_⟩
          show match gr S 8 0 s with
            | none => T2 (125 + 440 * s) = 0
            | some r => ∃ rs, Cru1 rs (gn S 33 r) (gn S 34 r) (gi S 33 r) (gi S 34 r) T2 (125 + 440 * s)
          by_cases e : s = N
          · subst e
            rw [c13.1 s (by omega) h4]
            show T2 (125 + 440 * s) = 0
            rw [o2 _ (by omega), v125]
          · have := c13.2 s (by omega)
            cases hr : gr S 8 0 s with
            | none =>
              rw [hr] at this
              show T2 (125 + 440 * s) = 0
              rw [o3 (125 + 440 * s) (by omega) (by omega) (by omega) (by omega) (by omega) (by omega) (by omega)]
              exact this
            | some r =>
              rw [hr] at this
              obtain ⟨rs, h9⟩ := this
              exact ⟨rs, h9.cg (fun i hi => o3 i (by omega) (by omega) (by omega) (by omega) (by omega) (by omega) (by omega))⟩
  · have e4 : N = 4 := by omega
    subst e4
    rw [brn (show ¬ gi S 2 0 0 < 4 by rw [k0]; decide)]
    refine Ok.sm (Tw.r ?_)
    refine Ok.v (Ok.c (by decide) (Ok.v (Ok.bf hb2 (Ok.c (by decide) (Ok.bt hb5 (Ok.oe (m_wy (lo := 0) (hi := 99) (by decide) (by decide) h1) (Ok.v (Ok.bf (by decide) (Ok.oe (m_wy (lo := 0) (hi := 99) (by decide) (by decide) h2) (Ok.bf (by decide) (Ok.oe (m_wy (lo := 0) (hi := 3) (by decide) (by decide) h3) (Ok.bf (by decide) (Ok.c (by decide) ?_)))))))))))))
    exact Ok.bt n0 (Ok.sm ⟨rfl, rfl, rfl, h.out.thr.t (Nat.le_succ t)⟩)
