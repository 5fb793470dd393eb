-- CASE told
theorem pc_33 {t : Nat} {S : St} {a1 a2 a3 a4 a5 : Int32} (h : Inv t S) : Ok (fc_33 (t + 1) a1 a2 a3 a4 a5 S) (Inv (t + 1)) := by
  unfold fc_33 f_L_told f_X11_told
  obtain ⟨⟨N, D, hh, lv, ri, to, ch, c1, c2, c3, c4, c5, c6, c7, c8, c9, c10, c11, c12, c13, c14, c15⟩, -⟩ := id h
  have b0 := c1.1.2
  have n0 := c1.1.1
  have n5 := c1.2.2.2.2.2.1.1
  have b5 := c1.2.2.2.2.2.1.2
  obtain ⟨d0, d1, d2, d3, d4, d5, d6, d7, d8, d9, d10⟩ := id c2
  by_cases e0 : N = 0
  · subst e0
    refine tw_i (S := S) (Ok.bt (show gi S 2 0 0 = 0 from d0) (Ok.sm (Tw.l (cd := 1) rfl ⟨by decide, Ok.v (Ok.c (by decide) (Ok.bt (show gi S 61 0 0 = 0 from n0) (Ok.o2e rfl (Ok.sm ⟨rfl, pf_bad h.thr⟩))))⟩)))
  have nz : ¬ Int32.ofNat N = 0 := fun z => e0 ((zE (b := 0) (by omega) (by omega)).mp z)
  have cls : ∀ K, br (gi S 2 0 0 = 0) (some ((Sum.inl 1 : Nat ⊕ Int32), S)) (ck (inb 0 4 = true) (bv (si S 26 (0 + 1) (nn 0) a1) (fun S_3 => ck (inb 1 4 = true) (bv (si S_3 26 (0 + 1) (nn 1) a2) (fun S_5 => ck (inb 2 4 = true) (bv (si S_5 26 (0 + 1) (nn 2) a3) (fun S_7 => ck (inb 3 4 = true) (bv (si S_7 26 (0 + 1) (nn 3) a4) (fun S_9 => f_X11_told_54 0 (0 + 1) K FU 0 S_9))))))))) = f_X11_told_54 0 (0 + 1) K FU 0 (tS S a1 a2 a3 a4) := by
    intro K
    rw [d0, brn nz, ck_t (by decide), bvE, ck_t (by decide), bvE, ck_t (by decide), bvE, ck_t (by decide), bvE]; rfl
  have I4 : Inv t (tS S a1 a2 a3 a4) := h.scr (tS_f.mono (fun k x hw => Or.inl (Or.inl hw.1))) rfl rfl rfl rfl rfl
  rw [cls]
  by_cases hp : ∀ s, s < N → 0 ≤ pv a1 a2 a3 a4 s ∧ pv a1 a2 a3 a4 s ≤ 99
  case neg =>
    refine two_i (S := tS S a1 a2 a3 a4) (Or.inl ⟨2, 2, (t54 d0 b0).2 hp, rfl, by decide, ?_⟩)
    refine Ok.v (Ok.c (by decide) (Ok.bf (show ¬ gi S 61 0 0 = 0 by rw [n0]; exact nz) ?_))
    exact Ok.eq ((t23 (Z := si (tS S a1 a2 a3 a4) 60 0 5 0) (N := N) n0 b0).2 hp) ⟨rfl, pf_bad I4.thr⟩
  rw [(t54 d0 b0).1 hp]
  refine tw_i (S := S) ?_
  by_cases h6 : to < 60
  case neg =>
    have e6 : to = 60 := by omega
    have ad : f_X2_addTold 0 (0 + 1) (tS S a1 a2 a3 a4) = some (-1, tS S a1 a2 a3 a4) := by
      unfold f_X2_addTold
      rw [show gi (tS S a1 a2 a3 a4) 14 (2 * 0 + 1) 3 = Int32.ofNat to from d5, e6, brn (by decide)]
    refine Ok.o2e ad (Ok.sm (Tw.r ?_))
    refine Ok.v (Ok.c (by decide) (Ok.bf (show ¬ gi S 61 0 0 = 0 by rw [n0]; exact nz) ?_))
    rw [(t23 (Z := si (sl (tS S a1 a2 a3 a4) 81 0 (nn 0) (Int32.toInt64 (-1))) 60 0 5 0) (N := N) n0 b0).1 hp]
    exact Ok.c (by decide) (Ok.bt (show gi S 61 0 5 = 60 by rw [n5, e6]; rfl) (Ok.sm ⟨rfl, rfl, rfl, pf_bad I4.out⟩))
  obtain ⟨S6, ad, f6, g14, g143, g15, g16, gn15⟩ := ad_told (x1 := a1) (x2 := a2) (x3 := a3) (x4 := a4) d5 d8 d10 h6
  refine Ok.o2e ad (Ok.sm (Tw.r ?_))
  have r : ∀ k x, ¬ ((k = 26 ∨ k = 14 ∨ k = 15 ∨ k = 16) ∧ x = 1) → gi S6 k x = gi S k x ∧ gl S6 k x = gl S k x ∧ gr S6 k x = gr S k x ∧ gn S6 k x = gn S k x := fun k x hn => f6 k x hn
  have e61 : gi S6 61 0 = gi S 61 0 := (r 61 0 (by omega)).1
  have m0 : gi (si (sl S6 81 0 (nn 0) (Int32.ofNat (to + 1)).toInt64) 60 0 5 0) 61 0 0 = Int32.ofNat N := by show gi S6 61 0 0 = _; rw [e61]; exact n0
  have m5 : gi (si (sl S6 81 0 (nn 0) (Int32.ofNat (to + 1)).toInt64) 60 0 5 0) 61 0 5 = Int32.ofNat to := by show gi S6 61 0 5 = _; rw [e61]; exact n5
  refine Ok.v (Ok.c (by decide) (Ok.bf (by rw [show gi (si (sl S6 81 0 (nn 0) (Int32.ofNat (to + 1)).toInt64) 60 0 5 0) 61 0 (nn 0) = Int32.ofNat N from m0]; exact nz) ?_))
  rw [(t23 (N := N) m0 b0).1 hp]
  refine Ok.c (by decide) (Ok.bf (by rw [show gi (si (sl S6 81 0 (nn 0) (Int32.ofNat (to + 1)).toInt64) 60 0 5 0) 61 0 (nn 5) = Int32.ofNat to from m5]; exact fun z => absurd ((zE (b := 60) (by omega) (by omega)).mp z) (by omega)) ?_)
  have w := t107 (x1 := a1) (x2 := a2) (x3 := a3) (x4 := a4) (K := fun (S_34 : St) => ck (inb 5 3179 = true) (ck (inb 5 3179 = true) (bv (si S_34 61 0 (nn 5) ((gi S_34 61 0 (nn 5)) + 1)) (fun S_37 => ck (inb 5 3179 = true) (some (gi S_37 61 0 (nn 5), S_37)))))) b0 h6 FU 0 _ (by omega) (by unfold FU; omega) m0 m5
  rw [show Int32.ofNat 0 = (0 : Int32) from rfl] at w
  rw [w]
  have nw : ∀ i, i ≠ 5 → (i < 2909 + 4 * to ∨ 2909 + 4 * to + N ≤ i) → upd (fun j => if 2909 + 4 * to + 0 ≤ j ∧ j < 2909 + 4 * to + N then pv a1 a2 a3 a4 (j - (2909 + 4 * to)) else gi S6 61 0 j) 5 (Int32.ofNat (to + 1)) i = gi S 61 0 i := fun i h4 hi => by
    rw [upd_ne h4, if_neg (by omega), e61]
  have nv : ∀ s, s < N → upd (fun j => if 2909 + 4 * to + 0 ≤ j ∧ j < 2909 + 4 * to + N then pv a1 a2 a3 a4 (j - (2909 + 4 * to)) else gi S6 61 0 j) 5 (Int32.ofNat (to + 1)) (2909 + 4 * to + s) = pv a1 a2 a3 a4 s := fun s hs => by
    rw [upd_ne (by omega), if_pos (by omega), show 2909 + 4 * to + s - (2909 + 4 * to) = s by omega]
  refine Ok.c (by decide) (Ok.c (by decide) (Ok.ve (x := si (ai (si (sl S6 81 0 (nn 0) (Int32.ofNat (to + 1)).toInt64) 60 0 5 0) 61 0 (fun j => if 2909 + 4 * to + 0 ≤ j ∧ j < 2909 + 4 * to + N then pv a1 a2 a3 a4 (j - (2909 + 4 * to)) else gi S6 61 0 j)) 61 0 5 (Int32.ofNat (to + 1))) ?_ (Ok.c (by decide) (Ok.sm ⟨?_, rfl, rfl, ?_⟩))))
  · rw [← zp1]
    congr 1
    show (if 2909 + 4 * to + 0 ≤ 5 ∧ 5 < 2909 + 4 * to + N then pv a1 a2 a3 a4 (5 - (2909 + 4 * to)) else gi S6 61 0 5) + 1 = _
    rw [if_neg (by omega), e61, n5]
  · rfl
  · refine Inv.t (Nat.le_succ t) (h.now (S' := si (ai (si (sl S6 81 0 (nn 0) (Int32.ofNat (to + 1)).toInt64) 60 0 5 0) 61 0 (fun j => if 2909 + 4 * to + 0 ≤ j ∧ j < 2909 + 4 * to + N then pv a1 a2 a3 a4 (j - (2909 + 4 * to)) else gi S6 61 0 j)) 61 0 5 (Int32.ofNat (to + 1))) ?_ ?_ ?_ ?_ ?_ ?_ ?_)
    · have w61 : WN 61 0 := Or.inr (Or.inl ⟨rfl, rfl⟩)
      refine (f6.mono (fun k x hw => ?_)).tr ((Fr.sl ?_).tr ((Fr.si ?_).tr ((Fr.ai w61).tr (Fr.si w61))))
      · obtain ⟨hk, hx⟩ := hw
        rcases hk with hk | hk
        · exact Or.inl (Or.inl (Or.inl hk))
        · exact Or.inr (Or.inr (Or.inr (Or.inr ⟨by omega, Or.inr hx⟩)))
      · exact Or.inl (Or.inl (by unfold Scr; omega))
      · exact Or.inl (Or.inr ⟨rfl, rfl⟩)
    · show gi S6 60 0 9 = _
      rw [(r 60 0 (by omega)).1]
    · show gi S6 60 0 18 = _
      rw [(r 60 0 (by omega)).1]
    · show gi S6 60 0 19 = _
      rw [(r 60 0 (by omega)).1]
    · show gl S6 60 0 26 = _
      rw [(r 60 0 (by omega)).2.1]
    · show gl S6 60 0 27 = _
      rw [(r 60 0 (by omega)).2.1]
    · refine ⟨N, D, hh, lv, ri, to + 1, ch, ⟨⟨(nw 0 (by omega) (by omega)).trans c1.1.1, c1.1.2⟩, ⟨(nw 1 (by omega) (by omega)).trans c1.2.1.1, c1.2.1.2⟩, ⟨(nw 2 (by omega) (by omega)).trans c1.2.2.1.1, c1.2.2.1.2⟩, ⟨(nw 3 (by omega) (by omega)).trans c1.2.2.2.1.1, c1.2.2.2.1.2⟩, ⟨(nw 4 (by omega) (by omega)).trans c1.2.2.2.2.1.1, c1.2.2.2.2.1.2⟩, ⟨rfl, by omega⟩, ⟨(nw 6 (by omega) (by omega)).trans c1.2.2.2.2.2.2.1, c1.2.2.2.2.2.2.2⟩⟩, ?_, ?_, ?_, ?_, ?_, ?_, ?_, ?_, ?_, ?_, ?_, ?_, ?_, ?_⟩
      · exact ⟨(congrFun (r 2 0 (by omega)).1 0).trans d0, (congrFun (r 9 0 (by omega)).1 0).trans d1, (congrFun (r 14 0 (by omega)).1 3).trans d2, (congrFun (r 2 0 (by omega)).1 14).trans d3, (congrFun (r 22 0 (by omega)).1 3).trans d4, g143, (congrFun (r 17 0 (by omega)).1 3).trans d6, (congrFun (r 14 0 (by omega)).1 0).trans d7, (g14 0 (by decide)).trans d8, (r 15 0 (by omega)).2.2.2.trans d9, gn15.trans d10⟩
      · show Cst N hh (gi S6 3 0) (gi S6 4 0) (gi S6 5 0) _
        rw [(r 3 0 (by omega)).1, (r 4 0 (by omega)).1, (r 5 0 (by omega)).1]; exact c3.cg b0 (fun i hi => nw i (by omega) (by omega))
      · show Csu (gl S6 6 0) (gl S6 7 0) (gl S6 2 0 6) (gl S6 63 0)
        rw [(r 6 0 (by omega)).2.1, (r 7 0 (by omega)).2.1, (r 2 0 (by omega)).2.1, (r 63 0 (by omega)).2.1]; exact c4
      · show Cdr N D (gi S6 10 0) (gi S6 11 0) (gi S6 12 0) (gi S6 13 0) _
        rw [(r 10 0 (by omega)).1, (r 11 0 (by omega)).1, (r 12 0 (by omega)).1, (r 13 0 (by omega)).1]; exact c5.cg c1.2.1.2 (fun i hi => nw i (by omega) (by omega))
      · show Chr N hh (gi S6 15 0) (gi S6 16 0) _
        rw [(r 15 0 (by omega)).1, (r 16 0 (by omega)).1]; exact c6.cg b0 (fun i hi => nw i (by omega) (by omega))
      · show Cto N (to + 1) (gi S6 15 1) (gi S6 16 1) _
        refine ⟨fun k s hk hs => ?_, fun _ s hs => ?_⟩
        · show gi S6 15 1 (4 * k + s) = upd (fun j => if 2909 + 4 * to + 0 ≤ j ∧ j < 2909 + 4 * to + N then pv a1 a2 a3 a4 (j - (2909 + 4 * to)) else gi S6 61 0 j) 5 (Int32.ofNat (to + 1)) (2909 + 4 * k + s) ∧ Pr (upd (fun j => if 2909 + 4 * to + 0 ≤ j ∧ j < 2909 + 4 * to + N then pv a1 a2 a3 a4 (j - (2909 + 4 * to)) else gi S6 61 0 j) 5 (Int32.ofNat (to + 1)) (2909 + 4 * k + s))
          rw [g15]
          by_cases ek : k = to
          · subst ek
            rw [nv s hs, if_pos (by omega), show 4 * k + s - 4 * k = s by omega]
            obtain ⟨d, hd, ed⟩ := zWle (n := 99) (by omega) (hp s hs)
            exact ⟨rfl, d, hd, ed⟩
          · rw [nw (2909 + 4 * k + s) (by omega) (by omega), if_neg (by omega)]
            exact c7.1 k s (by omega) hs
        · show gi S6 16 1 s = upd (fun j => if 2909 + 4 * to + 0 ≤ j ∧ j < 2909 + 4 * to + N then pv a1 a2 a3 a4 (j - (2909 + 4 * to)) else gi S6 61 0 j) 5 (Int32.ofNat (to + 1)) (2909 + s)
          rw [g16 s (by omega)]
          by_cases et : to = 0
          · rw [if_pos et, ← nv s hs, et]
          · rw [if_neg et, nw (2909 + s) (by omega) (by omega)]
            exact c7.2 (by omega) s hs
      · show Cch N hh ch (gi S6 18 0) (gi S6 19 0) (gi S6 20 0) _
        rw [(r 18 0 (by omega)).1, (r 19 0 (by omega)).1, (r 20 0 (by omega)).1]; exact c8.cg c1.2.2.2.2.2.2.2 (fun i hi => nw i (by omega) (by omega))
      · show Clv lv (gi S6 21 0) _
        rw [(r 21 0 (by omega)).1]; exact c9.cg c1.2.2.2.1.2 (fun i hi => nw i (by omega) (by omega))
      · show Cri ri (gi S6 22 0 2) (gi S6 25 0) _
        rw [(r 22 0 (by omega)).1, (r 25 0 (by omega)).1]; exact c10.cg c1.2.2.2.2.1.2 (fun i hi => nw i (by omega) (by omega))
      · show Cwe (gi S6 24 0) (gi S6 24 1) _
        rw [(r 24 0 (by omega)).1, (r 24 1 (by omega)).1]; exact c11.cg (fun i hi => nw i (by omega) (by omega))
      · show Cla (gr S6 2 0 8) (gi S6 35) _
        rw [(r 2 0 (by omega)).2.2.1, show gi S6 35 = gi S 35 from funext fun y => (r 35 y (by omega)).1]; exact c12.cg (fun i hi => nw i (by omega) (by omega))
      · show Cru N (gr S6 8 0) _ _
        rw [(r 8 0 (by omega)).2.2.1]
        refine Cru.st (S := S) (fun k x hk => ⟨?_, ?_⟩) (c13.cg b0 (fun i hi => nw i (by omega) (by omega)))
        · rcases hk with rfl | rfl
          · exact (r 33 x (by omega)).1
          · exact (r 34 x (by omega)).1
        · rcases hk with rfl | rfl
          · exact (r 33 x (by omega)).2.2.2
          · exact (r 34 x (by omega)).2.2.2
      · show ∀ r9, gr S6 2 0 8 = some r9 → r9 ≤ t
        rw [(r 2 0 (by omega)).2.2.1]; exact c14
      · show ∀ s r9, gr S6 8 0 s = some r9 → r9 ≤ t
        rw [(r 8 0 (by omega)).2.2.1]; exact c15
