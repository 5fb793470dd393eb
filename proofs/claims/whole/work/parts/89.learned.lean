-- LEARNING: the cases
section PM
variable {t N D hh lv ri to ch a b : Nat} {S : St}
theorem play2 {ρ : Type} (toL : ρ → Int64) {kc : St → Option ((Nat ⊕ ρ) × St)} {km md : St → Option (ρ × St)} {h : Nat → St → Option (Int32 × St)} {E : Int32 → Prop} (I : Inv t S) (c1 : Cn (gi S 61 0) N D hh lv ri to ch) (c2 : Ckn S 0 N D hh lv ri to ch) (c3 : Cst N hh (gi S 3 0) (gi S 4 0) (gi S 5 0) (gi S 61 0)) (c5 : Cdr N D (gi S 10 0) (gi S 11 0) (gi S 12 0) (gi S 13 0) (gi S 61 0)) (c6 : Chr N hh (gi S 15 (2 * 0)) (gi S 16 (2 * 0)) (gi S 61 0)) (c9 : Clv lv (gi S 21 0) (gi S 61 0)) (c12 : Cla (gr S 2 0 8) (gi S 35) (gi S 61 0)) (ha : a < N) (hb : b < N)
    (HM : ∀ (S9 : St) (Q : ρ × St → Prop), gi S9 61 0 = gi S 61 0 → Ok (on (f_X12_layGains 0 (Int32.ofNat a) (Int32.ofNat b) (si S9 60 0 5 0)) km) Q → Ok (md S9) Q)
    (H : ∀ S1 S2, Gm lv (GX (gi S 61 0) N D a b a) (GX (gi S 61 0) N D a b b) S1 S2 → ∃ r S1' S2', kc S1 = some (.inr r, S1') ∧ Fr Wp S1 S1' ∧ km S2 = some (r, S2') ∧ Fr (fun k x => Wp k x ∨ (k = 60 ∧ x = 0)) S2 S2' ∧ (∀ j, j < 33 → gi S2' 60 0 j = gi S2 60 0 j) ∧ gl S2' 60 0 = gl S2 60 0) :
    Ok (on (f_X4_begin 0 0 (Int32.ofNat a) (Int32.ofNat b) S) kc) (Tw S h E (fun r S1 => Ok (md (sl S1 81 0 (nn 0) (toL r))) (fun o => gi o.2 60 0 5 = 0 ∧ o.1 = r ∧ gl o.2 81 0 (nn 0) = toL r ∧ Inv (t + 1) o.2))) := by
  refine Ok.o (e_begin I c1 c2 c3 c5 c6 c9 c12 ha hb) (fun S1 q => ?_)
  have e1 : gi S1 61 0 = gi S 61 0 := (q.1.r (by decide) (by decide) (by decide) (by decide)).1
  have gm : ∀ {S3 S4 : St}, gi S3 61 0 = gi S 61 0 → Lg S3 (gi S 61 0) N D lv a b lv 0 S4 → Gm lv (GX (gi S 61 0) N D a b a) (GX (gi S 61 0) N D a b b) S1 S4 := fun e q2 => Gm.mk c1.2.2.2.1.2 c1.2.2.2.1.1 q.1 e q2
  obtain ⟨S4, -, q4⟩ := e_lay (S3 := S1) e1 c1 c5 ha hb
  obtain ⟨r, S1', -, k1, k2, -⟩ := H S1 S4 (gm e1 q4)
  refine Ok.eq k1 ?_
  have np : ∀ k x, (¬ Scr k ∨ k = 81) → ¬ Wp k x := fun k x hk w => hk.elim (fun z => z w.1) w.2
  have s60 : ¬ Scr 60 := by unfold Scr; omega
  have s61 : ¬ Scr 61 := by unfold Scr; omega
  have f1 : gi S1' 61 0 = gi S 61 0 := ((k2 61 0 (np _ _ (Or.inl s61))).1).trans e1
  have I1 : Inv t S1' := q.2.scr (k2.mono (fun k x hw => Or.inl hw.1)) (by rw [(k2 60 0 (np _ _ (Or.inl s60))).1]) (by rw [(k2 60 0 (np _ _ (Or.inl s60))).1]) (by rw [(k2 60 0 (np _ _ (Or.inl s60))).1]) (by rw [(k2 60 0 (np _ _ (Or.inl s60))).2.1]) (by rw [(k2 60 0 (np _ _ (Or.inl s60))).2.1])
  show Ok (md (sl S1' 81 0 (nn 0) (toL r))) _
  refine HM _ _ f1 ?_
  refine Ok.o (e_lay (S3 := si (sl S1' 81 0 (nn 0) (toL r)) 60 0 5 0) f1 c1 c5 ha hb) (fun S5 q5 => ?_)
  obtain ⟨r', S9, S5', k1', -, k3, k4, k5, k6⟩ := H S1 S5 (gm (S3 := si (sl S1' 81 0 (nn 0) (toL r)) 60 0 5 0) f1 q5)
  rw [k1] at k1'
  cases k1'
  have g60 : ∀ j, j < 33 → gi S5' 60 0 j = gi (si (sl S1' 81 0 (nn 0) (toL r)) 60 0 5 0) 60 0 j := fun j hj => by rw [k5 j hj, (q5.1 60 0 (fun z => by omega)).1]
  have l60 : gl S5' 60 0 = gl S1' 60 0 := k6.trans (q5.1 60 0 (fun z => by omega)).2.1
  refine Ok.eq k3 ⟨by rw [g60 5 (by omega)]; rfl, rfl, ?_, ?_⟩
  · show gl S5' 81 0 (nn 0) = _
    rw [(k4 81 0 (fun z => z.elim (np _ _ (Or.inr rfl)) (fun w => by omega))).2.1, (q5.1 81 0 (fun z => by omega)).2.1]; rfl
  · refine Inv.t (Nat.le_succ t) (Inv.scr ((I1.out (j := nn 0) (v := toL r)).thr (v := 0)) ((q5.1.mono (fun k x hw => Or.inl (by unfold Scr; omega))).tr (k4.mono (fun k x hw => hw.elim (fun w => Or.inl w.1) Or.inr))) ?_ ?_ ?_ ?_ ?_)
    all_goals first | exact g60 _ (by omega) | rw [l60]; rfl
end PM
theorem lf1 {x1 x2 x3 x4 k : Int32} {S : St} (e : f_X12_pairFault 0 x1 x2 S = some k) (h : ¬ k ≤ 0) : f_X12_learnFault 0 x1 x2 x3 x4 S = some k := by
  unfold f_X12_learnFault
  rw [e]
  show br (k ≤ 0) _ (some k) = _
  rw [brn h]
theorem lf2 {x1 x2 x3 x4 : Int32} {S : St} (e : f_X12_pairFault 0 x1 x2 S = some 0) (h : ¬ (1 ≤ x3 ∧ x3 ≤ x4)) : f_X12_learnFault 0 x1 x2 x3 x4 S = some 2 := by
  unfold f_X12_learnFault
  rw [e, m_wn (lo := 1) (hi := x4) (by decide) rfl h]; rfl
theorem lf3 {x1 x2 x3 x4 : Int32} {S : St} (e : f_X12_pairFault 0 x1 x2 S = some 0) (h : 1 ≤ x3 ∧ x3 ≤ x4) : f_X12_learnFault 0 x1 x2 x3 x4 S = some 0 := by
  unfold f_X12_learnFault
  rw [e, m_wy (lo := 1) (hi := x4) (by decide) rfl h]; rfl
theorem z1n {x : Int32} {n : Nat} (hn : n < 2147483647) (h : 1 ≤ x ∧ x ≤ Int32.ofNat n) : ∃ k : Nat, 1 ≤ k ∧ k ≤ n ∧ x = Int32.ofNat k := by
  obtain ⟨k, hk, e⟩ := zWle hn ⟨Int32.le_trans (by decide) h.1, h.2⟩
  refine ⟨k, ?_, hk, e⟩
  have := h.1
  rw [e] at this
  exact (zLE (a := 1) (by omega) (by omega)).mp this
theorem Rl.f1 {lv p q : Nat} {A B S1 S2 : St} (R : Rl lv A B S1 S2 p q) : Fr Wp A S1 := R.1.mono (fun k x hw => by unfold Wp Scr; omega)
theorem Rl.f2 {lv p q : Nat} {A B S1 S2 : St} (R : Rl lv A B S1 S2 p q) : Fr (fun k x => Wp k x ∨ (k = 60 ∧ x = 0)) B S2 := R.2.1.mono (fun k x hw => by unfold Wp Scr; omega)
-- CASE learn
theorem pc_26 {t : Nat} {S : St} {a1 a2 a3 a4 a5 : Int32} (h : Inv t S) : Ok (fc_26 (t + 1) a1 a2 a3 a4 a5 S) (Inv (t + 1)) := by
  unfold fc_26 f_L_learn f_X11_learn
  refine tw_i (S := S) ?_
  obtain ⟨⟨N, D, hh, lv, ri, to, ch, c1, c2, c3, c4, c5, c6, c7, c8, c9, c10, c11, c12, -⟩, -⟩ := id h
  have n0 := c1.1.1
  have n3 := c1.2.2.2.1.1
  have hl := c1.2.2.2.1.2
  rcases two_cases a1 a2 c1.1.2 with ⟨p1, p2⟩ | ⟨p1, p2⟩ | ⟨a, b, ha, hb, hab, rfl, rfl, p1, p2⟩
  · exact Ok.xl (p1 S c2.1) (Tw.l (cd := 1) rfl ⟨by decide, Ok.oe (lf1 (p2 S n0) (by decide)) (Ok.v (Ok.bf (show ¬ (1 : Int32) ≤ 0 by decide) (Ok.sm ⟨rfl, pf_bad h⟩)))⟩)
  · exact Ok.xl (p1 S c2.1) (Tw.l (cd := 2) rfl ⟨by decide, Ok.oe (lf1 (p2 S n0) (by decide)) (Ok.v (Ok.bf (show ¬ (2 : Int32) ≤ 0 by decide) (Ok.sm ⟨rfl, pf_bad h⟩)))⟩)
  refine Ok.xr (p1 S c2.1) ?_
  by_cases hw : 1 ≤ a3 ∧ a3 ≤ 2000
  case neg => exact Ok.xl (n_wi hw) (Tw.l (cd := 2) rfl ⟨by decide, Ok.oe (lf2 (p2 S n0) hw) (Ok.v (Ok.bf (show ¬ (2 : Int32) ≤ 0 by decide) (Ok.sm ⟨rfl, pf_bad h⟩)))⟩)
  refine Ok.xr (y_wi hw) ?_
  by_cases h0 : lv = 0
  · subst h0
    refine Ok.bt (show gi S 2 0 14 = 0 from c2.2.2.2.1) (Ok.sm (Tw.r ?_))
    exact Ok.oe (lf3 (p2 _ n0) hw) (Ok.v (Ok.bt (show (0 : Int32) ≤ 0 by decide) (Ok.c (by decide) (Ok.bt (show gi S 61 0 3 = 0 from n3) (Ok.sm ⟨rfl, rfl, rfl, pf_bad h.out⟩)))))
  have nz : ¬ Int32.ofNat lv = 0 := fun z => absurd ((zE (b := 0) (by omega) (by omega)).mp z) h0
  refine Ok.bf (show ¬ gi S 2 0 14 = 0 by rw [c2.2.2.2.1]; exact nz) ?_
  obtain ⟨m, hm1, hm2, em⟩ := z1n (n := 2000) (by omega) hw
  refine play2 (fun r : Int32 => r.toInt64) h c1 c2 c3 c5 c6 c9 c12 ha hb (km := fun S8 => on (f_X12_learns 0 a3 a4 S8) (fun S10 => some (10 * gi S10 60 0 34 + gi S10 60 0 35, S10))) (fun S9 Q e9 hq => Ok.oe (lf3 (p2 S9 (by rw [e9]; exact n0)) hw) (Ok.v (Ok.bt (show (0 : Int32) ≤ 0 by decide) (Ok.c (by decide) (Ok.bf (show ¬ gi S9 61 0 3 = 0 by rw [e9, n3]; exact nz) hq))))) (fun S1 S2 g => ?_)
  obtain ⟨X, Y, p, q, x1, y1, R⟩ := rl_all (y := a4) g (by omega) em hm1 hm2
  refine ⟨10 * Int32.ofNat p + Int32.ofNat q, X, Y, ?_, R.f1, ?_, R.f2, R.2.2.1.1, R.2.2.1.2⟩
  · rw [x1]
    show some (Sum.inr (10 * gi X 44 0 3 + gi X 44 0 4), X) = _
    rw [R.2.2.2.2.2.1.1, R.2.2.2.2.2.2.1.1]
  · rw [y1]
    show some (10 * gi Y 60 0 34 + gi Y 60 0 35, Y) = _
    rw [R.2.2.2.2.2.1.2.1, R.2.2.2.2.2.2.1.2.1]
-- CASE punish
theorem pc_28 {t : Nat} {S : St} {a1 a2 a3 a4 a5 : Int32} (h : Inv t S) : Ok (fc_28 (t + 1) a1 a2 a3 a4 a5 S) (Inv (t + 1)) := by
  unfold fc_28 f_L_punish f_X11_punish
  refine tw_i (S := S) ?_
  obtain ⟨⟨N, D, hh, lv, ri, to, ch, c1, c2, c3, c4, c5, c6, c7, c8, c9, c10, c11, c12, -⟩, -⟩ := id h
  have n0 := c1.1.1
  have n3 := c1.2.2.2.1.1
  have hl := c1.2.2.2.1.2
  rcases two_cases a1 a2 c1.1.2 with ⟨p1, p2⟩ | ⟨p1, p2⟩ | ⟨a, b, ha, hb, hab, rfl, rfl, p1, p2⟩
  · exact Ok.xl (p1 S c2.1) (Tw.l (cd := 1) rfl ⟨by decide, Ok.oe (lf1 (p2 S n0) (by decide)) (Ok.v (Ok.bf (show ¬ (1 : Int32) ≤ 0 by decide) (Ok.sm ⟨rfl, pf_bad h⟩)))⟩)
  · exact Ok.xl (p1 S c2.1) (Tw.l (cd := 2) rfl ⟨by decide, Ok.oe (lf1 (p2 S n0) (by decide)) (Ok.v (Ok.bf (show ¬ (2 : Int32) ≤ 0 by decide) (Ok.sm ⟨rfl, pf_bad h⟩)))⟩)
  refine Ok.xr (p1 S c2.1) ?_
  by_cases hw : 1 ≤ a3 ∧ a3 ≤ 2000
  case neg => exact Ok.xl (n_wi hw) (Tw.l (cd := 2) rfl ⟨by decide, Ok.oe (lf2 (p2 S n0) hw) (Ok.v (Ok.bf (show ¬ (2 : Int32) ≤ 0 by decide) (Ok.sm ⟨rfl, pf_bad h⟩)))⟩)
  refine Ok.xr (y_wi hw) ?_
  rcases lev_cases a5 hl with ⟨u1, u2⟩ | ⟨i, hi, rfl, u1, u2⟩
  · exact Ok.xl (u1 S c2.2.2.2.1) (Tw.l (cd := 3) rfl ⟨by decide, Ok.oe (lf3 (p2 S n0) hw) (Ok.v (Ok.bt (show (0 : Int32) ≤ 0 by decide) (Ok.oe (u2 _ n3) (Ok.bt rfl (Ok.o2e rfl (Ok.sm ⟨rfl, pf_bad h.thr⟩))))))⟩)
  refine Ok.xr (u1 S c2.2.2.2.1) ?_
  obtain ⟨m, hm1, hm2, em⟩ := z1n (n := 2000) (by omega) hw
  refine play2 (fun r : Int32 => r.toInt64) h c1 c2 c3 c5 c6 c9 c12 ha hb (km := fun S9 => on (f_X12_learns 0 a3 a4 S9) (fun S11 => on (f_X12_greatest 0 1 (Int32.ofNat i) S11) (fun r => some (r, S11)))) (fun S9 Q e9 hq => Ok.oe (lf3 (p2 S9 (by rw [e9]; exact n0)) hw) (Ok.v (Ok.bt (show (0 : Int32) ≤ 0 by decide) (Ok.oe (u2 (si S9 60 0 5 0) (by show gi S9 61 0 3 = _; rw [e9]; exact n3)) (Ok.bf (by decide) hq))))) (fun S1 S2 g => ?_)
  obtain ⟨X, Y, p, q, x1, y1, R⟩ := rl_all (y := a4) g (by omega) em hm1 hm2
  obtain ⟨d, hd, d1, d2⟩ := rl_best (w := 1) g R (by omega) hi
  refine ⟨Int32.ofNat d, X, Y, ?_, R.f1, ?_, R.f2, R.2.2.1.1, R.2.2.1.2⟩
  · rw [x1]
    show on (f_X6_answerOfB 0 (Int32.ofNat i) X) _ = _
    unfold f_X6_answerOfB
    rw [ck_t (ib (by omega) (by omega)), zN (by omega), d1]; rfl
  · rw [y1]
    show on (f_X12_greatest 0 (Int32.ofNat 1) (Int32.ofNat i) Y) _ = _
    rw [d2]; rfl
-- CASE above
theorem ab_loop {lv : Nat} {GA GB : Nat → Nat → Int32} {A B : St} {x3 x6 : Int32} {m m4 : Nat} (h1 : 1 ≤ lv) (ex : x3 = Int32.ofNat m) (hm : 1 ≤ m) (hm2 : m ≤ 2000) (h4 : m4 ≤ 20) : ∀ (n k : Nat) (c : Int32) (S1 S2 : St), k ≤ m4 + 1 → m4 + 1 < n + k → Fr Wp A S1 → Fr (fun k x => Wp k x ∨ (k = 60 ∧ x = 0)) B S2 → (∀ j, j < 33 → gi S2 60 0 j = gi B 60 0 j) → gl S2 60 0 = gl B 60 0 → Gm lv GA GB S1 S2 → ∃ (r : Int32) (S1' S2' : St), f_X11_above_80 0 x3 (Int32.ofNat m4) x6 (fun r S => some (.inr r, S)) n c (Int32.ofNat k) S1 = some (.inr r, S1') ∧ Fr Wp A S1' ∧ f_X12_above_91 0 x3 (Int32.ofNat m4) x6 (fun r S => some (r, S)) n c (Int32.ofNat k) S2 = some (r, S2') ∧ Fr (fun k x => Wp k x ∨ (k = 60 ∧ x = 0)) B S2' ∧ (∀ j, j < 33 → gi S2' 60 0 j = gi B 60 0 j) ∧ gl S2' 60 0 = gl B 60 0 := by
  intro n
  induction n with
  | zero => intro k c S1 S2 _ h; omega
  | succ n ih =>
    intro k c S1 S2 hk hn f1 f2 f3 f4 g
    rw [f_X11_above_80, f_X12_above_91]
    by_cases hc : m4 < k
    · have := (zL (a := m4) (b := k) (by omega) (by omega)).mpr hc
      rw [brp this, brp this]; exact ⟨c, S1, S2, rfl, f1, rfl, f2, f3, f4⟩
    · have nx : ¬ Int32.ofNat m4 < Int32.ofNat k := fun w => hc ((zL (by omega) (by omega)).mp w)
      obtain ⟨X, Y, p, q, x1, y1, R⟩ := rl_all (y := Int32.ofNat k) g h1 ex hm hm2
      have t1 := e_tog1 (R.gm g) R.2.2.2.2.2.1.2.2 R.2.2.2.2.2.2.1.2.2
      have t2 := e_tog2 (R.gm g) R.2.2.2.2.2.1.2.2 R.2.2.2.2.2.2.1.2.2
      rw [brn nx, brn nx, x1, y1]
      unfold on
      dsimp only
      rw [R.2.2.2.2.2.1.1, R.2.2.2.2.2.2.1.1, R.2.2.2.2.2.1.2.1, R.2.2.2.2.2.2.1.2.1, t1, t2]
      unfold bv
      dsimp only
      rw [zp1, Int32.add_zero]
      have F1 := f1.tr R.f1
      have F2 := f2.tr R.f2
      have F3 : ∀ j, j < 33 → gi Y 60 0 j = gi B 60 0 j := fun j hj => (R.2.2.1.1 j hj).trans (f3 j hj)
      have F4 := R.2.2.1.2.trans f4
      by_cases hq : GA p q + GB p q ≤ x6
      · rw [brp hq, brp hq]; exact ih (k + 1) c X Y (by omega) (by omega) F1 F2 F3 F4 (R.gm g)
      · rw [brn hq, brn hq]; exact ih (k + 1) (c + 1) X Y (by omega) (by omega) F1 F2 F3 F4 (R.gm g)
theorem pc_27 {t : Nat} {S : St} {a1 a2 a3 a4 a5 : Int32} (h : Inv t S) : Ok (fc_27 (t + 1) a1 a2 a3 a4 a5 S) (Inv (t + 1)) := by
  unfold fc_27 f_L_above f_X11_above
  refine tw_i (S := S) ?_
  obtain ⟨⟨N, D, hh, lv, ri, to, ch, c1, c2, c3, c4, c5, c6, c7, c8, c9, c10, c11, c12, -⟩, -⟩ := id h
  have n0 := c1.1.1
  rcases two_cases a1 a2 c1.1.2 with ⟨p1, p2⟩ | ⟨p1, p2⟩ | ⟨a, b, ha, hb, hab, rfl, rfl, p1, p2⟩
  · exact Ok.xl (p1 S c2.1) (Tw.l (cd := 1) rfl ⟨by decide, Ok.oe (lf1 (p2 S n0) (by decide)) (Ok.v (Ok.v (Ok.bf (show ¬ (1 : Int32) = 0 by decide) (Ok.bf (show ¬ (1 : Int32) ≤ 0 by decide) (Ok.sm ⟨rfl, pf_bad h⟩)))))⟩)
  · exact Ok.xl (p1 S c2.1) (Tw.l (cd := 2) rfl ⟨by decide, Ok.oe (lf1 (p2 S n0) (by decide)) (Ok.v (Ok.v (Ok.bf (show ¬ (2 : Int32) = 0 by decide) (Ok.bf (show ¬ (2 : Int32) ≤ 0 by decide) (Ok.sm ⟨rfl, pf_bad h⟩)))))⟩)
  refine Ok.xr (p1 S c2.1) ?_
  by_cases hw : 1 ≤ a3 ∧ a3 ≤ 300
  case neg => exact Ok.xl (n_wi hw) (Tw.l (cd := 2) rfl ⟨by decide, Ok.oe (lf2 (p2 S n0) hw) (Ok.v (Ok.v (Ok.bf (show ¬ (2 : Int32) = 0 by decide) (Ok.bf (show ¬ (2 : Int32) ≤ 0 by decide) (Ok.sm ⟨rfl, pf_bad h⟩)))))⟩)
  refine Ok.xr (y_wi hw) ?_
  by_cases hv : 1 ≤ a4 ∧ a4 ≤ 20
  case neg => exact Ok.xl (n_wi hv) (Tw.l (cd := 2) rfl ⟨by decide, Ok.oe (lf3 (p2 S n0) hw) (Ok.v (Ok.v (Ok.bt (show (0 : Int32) = 0 by decide) (Ok.oe (m_wn (lo := 1) (hi := 20) (by decide) (by decide) hv) (Ok.bt rfl (Ok.v (Ok.bf (show ¬ (2 : Int32) ≤ 0 by decide) (Ok.sm ⟨rfl, pf_bad h.thr⟩))))))))⟩)
  refine Ok.xr (y_wi hv) ?_
  obtain ⟨m, hm1, hm2, em⟩ := z1n (n := 300) (by omega) hw
  obtain ⟨m4, hq1, hq2, rfl⟩ := z1n (n := 20) (by omega) hv
  refine play2 (fun r : Int32 => r.toInt64) h c1 c2 c3 c5 c6 c9 c12 ha hb (km := fun S8 => on (f_X12_evenAt 0 0 S8) (fun r_10 => br (r_10 = -1) (some (-1, S8)) (bv (dvI r_10 10) (fun q_12 => bv (rmI r_10 10) (fun q_13 => on (f_X12_together 0 q_12 q_13 S8) (fun r_15 => f_X12_above_91 0 a3 (Int32.ofNat m4) r_15 (fun (x7_27 : Int32) (S_28 : St) => some (x7_27, S_28)) FU 0 1 S8)))))) (fun S9 Q e9 hq => Ok.oe (lf3 (p2 S9 (by rw [e9]; exact n0)) hw) (Ok.v (Ok.v (Ok.bt (show (0 : Int32) = 0 by decide) (Ok.oe (m_wy (lo := 1) (hi := 20) (by decide) (by decide) hv) (Ok.bf (by decide) (Ok.bt (show (0 : Int32) ≤ 0 by decide) hq))))))) (fun S1 S2 g => ?_)
  have hl := g.1
  obtain ⟨r, r0, r1, r2⟩ := pkk_two (x := 0) g (by decide)
  rw [r1, r2]
  unfold on
  dsimp only
  rcases r0 with rfl | ⟨p, q, hp, hq, rfl⟩
  · exact ⟨-1, S1, S2, by rw [brp rfl], Fr.rf, by rw [brp rfl], Fr.rf, fun j _ => rfl, rfl⟩
  · have d := dv10 p (by omega) q (by omega)
    have nn1 : ¬ Int32.ofNat (10 * p + q) = -1 := zNe (by omega)
    obtain ⟨w, X, Y, w1, w2, w3, w4, w5, w6⟩ := ab_loop (A := S1) (B := S2) (x6 := GX (gi S 61 0) N D a b a p q + GX (gi S 61 0) N D a b b p q) (by omega) em hm1 (by omega) hq2 FU 1 0 S1 S2 (by omega) (by unfold FU; omega) Fr.rf Fr.rf (fun j _ => rfl) rfl g
    refine ⟨w, X, Y, ?_, w2, ?_, w4, w5, w6⟩
    · rw [brn nn1]
      unfold bv
      dsimp only
      rw [d.1, d.2, e_tog1 g hp hq]; exact w1
    · rw [brn nn1]
      unfold bv
      dsimp only
      rw [d.1, d.2, e_tog2 g hp hq]; exact w3
