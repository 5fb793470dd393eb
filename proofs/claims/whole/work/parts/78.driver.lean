theorem zp1 (n : Nat) : Int32.ofNat n + 1 = Int32.ofNat (n + 1) := zA' 1 n
theorem zp2 (n : Nat) : Int32.ofNat n + 2 = Int32.ofNat (n + 2) := zA' 2 n
theorem zp3 (n : Nat) : Int32.ofNat n + 3 = Int32.ofNat (n + 3) := zA' 3 n
theorem sh1 {N : Nat} (h : N ≤ 4) : (1 : Int32) <<< (Int32.ofNat N &&& 31) = Int32.ofNat (2 ^ N) := by
  rcases (show N = 0 ∨ N = 1 ∨ N = 2 ∨ N = 3 ∨ N = 4 by omega) with rfl | rfl | rfl | rfl | rfl <;> decide
theorem pw4 {N : Nat} (h : N ≤ 4) : 0 < 2 ^ N ∧ 2 ^ N ≤ 16 := by
  rcases (show N = 0 ∨ N = 1 ∨ N = 2 ∨ N = 3 ∨ N = 4 by omega) with rfl | rfl | rfl | rfl | rfl <;> decide
-- CASE driver
theorem pc_1 {t : Nat} {S : St} {a1 a2 a3 a4 a5 : Int32} (h : Inv t S) : Ok (fc_1 (t + 1) a1 a2 a3 a4 a5 S) (Inv (t + 1)) := by
  unfold fc_1 f_L_driver f_X11_driver
  refine tw_i (S := S) ?_
  obtain ⟨⟨N, D, hh, lv, ri, to, ch, c1, c2, c3, c4, c5, c6, c7, c8, c9, c10, c11, c12, c13, c14, c15⟩, -⟩ := id h
  have b0 := c1.1.2
  have n0 := c1.1.1
  have k0 := c2.1
  have n1 := c1.2.1.1
  have b1 := c1.2.1.2
  have k1 := c2.2.1
  have bad := h.thr (v := 0) |>.thr (v := 2) |>.t (Nat.le_succ t)
  by_cases hs : a2 < 0 ∨ ¬ a2 < Int32.ofNat N
  · exact Ok.xl (n_st k0 hs) (Tw.l (cd := 1) rfl ⟨by decide, Ok.v (Ok.oe (m_stn n0 b0 hs) (Ok.bt rfl (Ok.o2e rfl (Ok.sm ⟨rfl, h.thr.thr.t (Nat.le_succ t)⟩))))⟩)
  obtain ⟨n, hn, rfl⟩ := or_st b0 hs
  by_cases h1 : 1 ≤ a1 ∧ a1 ≤ 99
  rotate_left
  · exact Ok.xr (y_st k0 b0 hn) (Ok.xl (n_wi h1) (Tw.l (cd := 2) rfl ⟨by decide, Ok.v (Ok.oe (m_sty n0 b0 hn) (Ok.bf (by decide) (Ok.oe (m_wn (lo := 1) (hi := 99) (by decide) (by decide) h1) (Ok.v (Ok.bt rfl (Ok.o2e rfl (Ok.sm ⟨rfl, bad⟩)))))))⟩))
  have hsh : (1 : Int32) <<< (gi S 61 0 0 &&& 31) = Int32.ofNat (2 ^ N) := by rw [n0]; exact sh1 b0
  have hsk : ((1 : Int32) <<< (gi S 2 0 0 &&& 31)) - 1 = Int32.ofNat (2 ^ N - 1) := by rw [k0, sh1 b0]; exact zSub1 (pw4 b0).1
  have pw := pw4 b0
  by_cases h3 : 0 ≤ a3 ∧ a3 ≤ Int32.ofNat (2 ^ N - 1)
  rotate_left
  · refine Ok.xr (y_st k0 b0 hn) (Ok.xr (y_wi h1) (Ok.xl (by rw [hsk]; exact n_wi h3) (Tw.l (cd := 2) rfl ⟨by decide, Ok.v (Ok.oe (m_sty n0 b0 hn) (Ok.bf (by decide) (Ok.oe (m_wy (lo := 1) (hi := 99) (by decide) (by decide) h1) (Ok.v (Ok.bf (by decide) ?_)))))⟩)))
    by_cases hz : a3 < 0
    · exact Ok.bt hz (Ok.o2e rfl (Ok.sm ⟨rfl, bad⟩))
    · refine Ok.bf hz (Ok.c (by decide) (Ok.bt ?_ (Ok.o2e rfl (Ok.sm ⟨rfl, bad⟩))))
      show (1 : Int32) <<< (gi S 61 0 0 &&& 31) ≤ a3
      rw [hsh]
      refine Int32.not_lt.mp (fun w => h3 ⟨Int32.not_lt.mp hz, ?_⟩)
      obtain ⟨d, hd, rfl⟩ := zW (by omega) hz w
      exact (zLE (by omega) (by omega)).mpr (by omega)
  obtain ⟨p3, hp3, rfl⟩ := zWle (x := a3) (n := 2 ^ N - 1) (by omega) h3
  have q3 : ¬ (1 : Int32) <<< (gi S 61 0 0 &&& 31) ≤ Int32.ofNat p3 := by rw [hsh, zLE (by omega) (by omega)]; omega
  by_cases h4 : 0 ≤ a4 ∧ a4 ≤ 20
  rotate_left
  · exact Ok.xr (y_st k0 b0 hn) (Ok.xr (y_wi h1) (Ok.xr (by rw [hsk]; exact y_wi h3) (Ok.xl (n_wi h4) (Tw.l (cd := 2) rfl ⟨by decide, Ok.v (Ok.oe (m_sty n0 b0 hn) (Ok.bf (by decide) (Ok.oe (m_wy (lo := 1) (hi := 99) (by decide) (by decide) h1) (Ok.v (Ok.bf (by decide) (Ok.bf (zNeg (by omega)) (Ok.c (by decide) (Ok.bf q3 (Ok.oe (m_wn (lo := 0) (hi := 20) (by decide) (by decide) h4) (Ok.bt rfl (Ok.o2e rfl (Ok.sm ⟨rfl, bad⟩))))))))))))⟩))))
  obtain ⟨p1, hp1, rfl⟩ := zWle (x := a1) (n := 99) (by omega) ⟨Int32.le_trans (by decide) h1.1, h1.2⟩
  obtain ⟨p4, hp4, rfl⟩ := zWle (x := a4) (n := 20) (by omega) h4
  refine Ok.xr (y_st k0 b0 hn) (Ok.xr (y_wi h1) (Ok.xr (by rw [hsk]; exact y_wi h3) (Ok.xr (y_wi h4) ?_)))
  unfold f_X3_add
  by_cases h6 : D < 6
  · rw [brp (show gi S 9 0 0 < 6 by rw [k1]; exact (zL (a := D) (b := 6) (by omega) (by omega)).mpr h6)]
    have eD : ∀ x : Int32, x = Int32.ofNat D → inb x 6 = true ∧ nn x = D := fun x e => by rw [e]; exact ⟨ib h6 (by omega), zN (by omega)⟩
    refine Ok.o2 (Q := fun o => o = (Int32.ofNat D, si (si (si (si (si S 10 0 D (Int32.ofNat p1)) 11 0 D (Int32.ofNat n)) 12 0 D (Int32.ofNat p3)) 13 0 D (Int32.ofNat p4)) 9 0 0 (Int32.ofNat D + 1))) ?_ ?_
    · refine Ok.c (eD _ k1).1 ?_
      rw [(eD _ k1).2]
      refine Ok.v (Ok.c (eD _ k1).1 ?_)
      rw [(eD (gi (si S 10 0 D (Int32.ofNat p1)) 9 0 0) k1).2]
      refine Ok.v (Ok.c (eD _ k1).1 ?_)
      rw [(eD (gi (si (si S 10 0 D (Int32.ofNat p1)) 11 0 D (Int32.ofNat n)) 9 0 0) k1).2]
      refine Ok.v (Ok.c (eD _ k1).1 ?_)
      rw [(eD (gi (si (si (si S 10 0 D (Int32.ofNat p1)) 11 0 D (Int32.ofNat n)) 12 0 D (Int32.ofNat p3)) 9 0 0) k1).2]
      exact Ok.v (Ok.ve (x := Int32.ofNat D) k1 (Ok.v (Ok.sm rfl)))
    · intro x S2 he
      cases he
      refine Ok.sm (Tw.r ?_)
      refine Ok.v (Ok.oe (m_sty n0 b0 hn) (Ok.bf (by decide) (Ok.oe (m_wy (lo := 1) (hi := 99) (by decide) (by decide) h1) (Ok.v (Ok.bf (by decide) (Ok.bf (zNeg (by omega)) (Ok.c (by decide) (Ok.bf q3 (Ok.oe (m_wy (lo := 0) (hi := 20) (by decide) (by decide) h4) (Ok.bf (by decide) (Ok.c (by decide) (Ok.bf (show ¬ gi S 61 0 1 = 6 by rw [n1]; exact fun w => by have := (zE (a := D) (b := 6) (by omega) (by omega)).mp w; omega) (Ok.c (by decide) (Ok.ve (x := Int32.ofNat (28 + 4 * D)) (show 28 + 4 * gi S 61 0 1 = _ by rw [n1, zMu, zA]) ?_))))))))))))))
      refine Ok.c (ib (by omega) (by omega)) ?_
      rw [zN (show 28 + 4 * D < 2147483648 by omega)]
      refine Ok.v ?_
      rw [zp1, zp2, zp3]
      refine Ok.c (ib (by omega) (by omega)) ?_
      rw [zN (show 28 + 4 * D + 1 < 2147483648 by omega)]
      refine Ok.v (Ok.c (ib (by omega) (by omega)) ?_)
      rw [zN (show 28 + 4 * D + 2 < 2147483648 by omega)]
      refine Ok.v (Ok.c (ib (by omega) (by omega)) ?_)
      rw [zN (show 28 + 4 * D + 3 < 2147483648 by omega)]
      refine Ok.v (Ok.c (by decide) (Ok.c (by decide) (Ok.v (Ok.c (by decide) (Ok.sm ⟨rfl, ?_, rfl, ?_⟩)))))
      all_goals obtain ⟨T1, hT1⟩ : ∃ T1, T1 = upd (upd (upd (upd (gi S 61 0) (28 + 4 * D) (Int32.ofNat p1)) (28 + 4 * D + 1) (Int32.ofNat n)) (28 + 4 * D + 2) (Int32.ofNat p3)) (28 + 4 * D + 3) (Int32.ofNat p4) := ⟨_, rfl⟩
      all_goals have o1 : ∀ i, (i < 28 + 4 * D ∨ 28 + 4 * D + 3 < i) → T1 i = gi S 61 0 i := fun i hi => by rw [hT1, upd_ne (by omega), upd_ne (by omega), upd_ne (by omega), upd_ne (by omega)]
      all_goals have o0 : T1 1 = Int32.ofNat D := (o1 1 (by omega)).trans n1
      · show (upd (upd (upd (upd (gi S 61 0) (28 + 4 * D) (Int32.ofNat p1)) (28 + 4 * D + 1) (Int32.ofNat n)) (28 + 4 * D + 2) (Int32.ofNat p3)) (28 + 4 * D + 3) (Int32.ofNat p4)) 1 + 1 - 1 = Int32.ofNat D
        rw [← hT1, o0, Int32.add_sub_cancel]
      · refine Inv.t (Nat.le_succ t) (h.now ?_ rfl rfl rfl rfl rfl ?_)
        · exact (((((((((((Fr.si (by unfold WN WS Scr; omega)).tr (Fr.si (by unfold WN WS Scr; omega))).tr (Fr.si (by unfold WN WS Scr; omega))).tr (Fr.si (by unfold WN WS Scr; omega))).tr (Fr.si (by unfold WN WS Scr; omega))).tr (Fr.sl (by unfold WN WS Scr; omega))).tr (Fr.si (by unfold WN WS Scr; omega))).tr (Fr.si (by unfold WN WS Scr; omega))).tr (Fr.si (by unfold WN WS Scr; omega))).tr (Fr.si (by unfold WN WS Scr; omega))).tr (Fr.si (by unfold WN WS Scr; omega))).tr (Fr.si (by unfold WN WS Scr; omega))
        · show Cr t _ 0 (upd (upd (upd (upd (upd (gi S 61 0) (28 + 4 * D) (Int32.ofNat p1)) (28 + 4 * D + 1) (Int32.ofNat n)) (28 + 4 * D + 2) (Int32.ofNat p3)) (28 + 4 * D + 3) (Int32.ofNat p4)) 1 ((upd (upd (upd (upd (gi S 61 0) (28 + 4 * D) (Int32.ofNat p1)) (28 + 4 * D + 1) (Int32.ofNat n)) (28 + 4 * D + 2) (Int32.ofNat p3)) (28 + 4 * D + 3) (Int32.ofNat p4)) 1 + 1)) (gl S 63 0)
          rw [← hT1, o0, show Int32.ofNat D + 1 = Int32.ofNat (D + 1) from zA' 1 D]
          have o3 : ∀ i, i ≠ 1 → (i < 28 + 4 * D ∨ 28 + 4 * D + 3 < i) → upd T1 1 (Int32.ofNat (D + 1)) i = gi S 61 0 i := fun i h1 h2 => (upd_ne h1).trans (o1 i h2)
          refine ⟨N, D + 1, hh, lv, ri, to, ch, Cn.s1 (c1.cg (fun i hi => o1 i (by omega))) rfl (by omega), ⟨k0, rfl, c2.2.2⟩, c3.cg b0 (fun i hi => o3 i (by omega) (by omega)), c4, ?_, c6.cg b0 (fun i hi => o3 i (by omega) (by omega)), c7.cg b0 c1.2.2.2.2.2.1.2 (fun i hi => o3 i (by omega) (by omega)), c8.cg c1.2.2.2.2.2.2.2 (fun i hi => o3 i (by omega) (by omega)), c9.cg c1.2.2.2.1.2 (fun i hi => o3 i (by omega) (by omega)), c10.cg c1.2.2.2.2.1.2 (fun i hi => o3 i (by omega) (by omega)), c11.cg (fun i hi => o3 i (by omega) (by omega)), c12.cg (fun i hi => o3 i (by omega) (by omega)), c13.cg b0 (fun i hi => o3 i (by omega) (by omega)), c14, c15⟩
          show Cdr N (D + 1) (upd (gi S 10 0) D _) (upd (gi S 11 0) D _) (upd (gi S 12 0) D _) (upd (gi S 13 0) D _) _
          intro k hk
          by_cases e : k = D
          · subst e
            have v0 : upd T1 1 (Int32.ofNat (k + 1)) (28 + 4 * k) = Int32.ofNat p1 := by rw [upd_ne (by omega), hT1, upd_ne (by omega), upd_ne (by omega), upd_ne (by omega), upd_eq]
            have v1 : upd T1 1 (Int32.ofNat (k + 1)) (28 + 4 * k + 1) = Int32.ofNat n := by rw [upd_ne (by omega), hT1, upd_ne (by omega), upd_ne (by omega), upd_eq]
            have v2 : upd T1 1 (Int32.ofNat (k + 1)) (28 + 4 * k + 2) = Int32.ofNat p3 := by rw [upd_ne (by omega), hT1, upd_ne (by omega), upd_eq]
            have v3 : upd T1 1 (Int32.ofNat (k + 1)) (28 + 4 * k + 3) = Int32.ofNat p4 := by rw [upd_ne (by omega), hT1, upd_eq]
            rw [v0, v1, v2, v3, upd_eq, upd_eq, upd_eq, upd_eq]
            exact ⟨rfl, rfl, rfl, rfl, ⟨p1, hp1, rfl⟩, ⟨n, hn, rfl⟩, ⟨p3, by omega, rfl⟩, ⟨p4, by omega, rfl⟩⟩
          · rw [upd_ne e, upd_ne e, upd_ne e, upd_ne e, o3 (28 + 4 * k) (by omega) (by omega), o3 (28 + 4 * k + 1) (by omega) (by omega), o3 (28 + 4 * k + 2) (by omega) (by omega), o3 (28 + 4 * k + 3) (by omega) (by omega)]
            exact c5 k (by omega)
  · have e6 : D = 6 := by omega
    subst e6
    rw [brn (show ¬ gi S 9 0 0 < 6 by rw [k1]; decide)]
    refine Ok.sm (Tw.r ?_)
    exact Ok.v (Ok.oe (m_sty n0 b0 hn) (Ok.bf (by decide) (Ok.oe (m_wy (lo := 1) (hi := 99) (by decide) (by decide) h1) (Ok.v (Ok.bf (by decide) (Ok.bf (zNeg (by omega)) (Ok.c (by decide) (Ok.bf q3 (Ok.oe (m_wy (lo := 0) (hi := 20) (by decide) (by decide) h4) (Ok.bf (by decide) (Ok.c (by decide) (Ok.bt n1 (Ok.sm ⟨rfl, rfl, rfl, h.out.thr.t (Nat.le_succ t)⟩)))))))))))))
