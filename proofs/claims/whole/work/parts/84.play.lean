-- PLAYING: class, then reference, over one table
def Wp (k _x : Nat) : Prop := Scr k ∧ k ≠ 81
section PL
variable {t N D hh lv ri to ch a b : Nat} {S : St}
theorem play {ρ : Type} (toL : ρ → Int64) {kc : St → Option ((Nat ⊕ ρ) × St)} {km md : St → Option (ρ × St)} {h : Nat → St → Option (Int32 × St)} {E : Int32 → Prop} (I : Inv t S) (c1 : Cn (gi S 61 0) N D hh lv ri to ch) (c2 : Ckn S 0 N D hh lv ri to ch) (c3 : Cst N hh (gi S 3 0) (gi S 4 0) (gi S 5 0) (gi S 61 0)) (c5 : Cdr N D (gi S 10 0) (gi S 11 0) (gi S 12 0) (gi S 13 0) (gi S 61 0)) (c6 : Chr N hh (gi S 15 (2 * 0)) (gi S 16 (2 * 0)) (gi S 61 0)) (c9 : Clv lv (gi S 21 0) (gi S 61 0)) (c12 : Cla (gr S 2 0 8) (gi S 35) (gi S 61 0)) (ha : a < N) (hb : b < N)
    (HM : ∀ (S9 : St) (Q : ρ × St → Prop), gi S9 61 0 = gi S 61 0 → Ok (on (f_X12_layGains 0 (Int32.ofNat a) (Int32.ofNat b) (si S9 60 0 5 0)) km) Q → Ok (md S9) Q)
    (H : ∀ S1 S2, Gm lv (GX (gi S 61 0) N D a b a) (GX (gi S 61 0) N D a b b) S1 S2 → ∃ r S1' S2', kc S1 = some (.inr r, S1') ∧ Fr Wp S1 S1' ∧ km S2 = some (r, S2') ∧ Fr Wp S2 S2') :
    Ok (on (f_X4_begin 0 0 (Int32.ofNat a) (Int32.ofNat b) S) kc) (Tw S h E (fun r S1 => Ok (md (sl S1 81 0 (nn 0) (toL r))) (fun o => gi o.2 60 0 5 = 0 ∧ o.1 = r ∧ gl o.2 81 0 (nn 0) = toL r ∧ Inv (t + 1) o.2))) := by
  refine Ok.o (e_begin I c1 c2 c3 c5 c6 c9 c12 ha hb) (fun S1 q => ?_)
  have e1 : gi S1 61 0 = gi S 61 0 := (q.1.r (by decide) (by decide) (by decide) (by decide)).1
  have gm : ∀ {S3 S4 : St}, gi S3 61 0 = gi S 61 0 → Lg S3 (gi S 61 0) N D lv a b lv 0 S4 → Gm lv (GX (gi S 61 0) N D a b a) (GX (gi S 61 0) N D a b b) S1 S4 := fun e q2 => Gm.mk c1.2.2.2.1.2 c1.2.2.2.1.1 q.1 e q2
  obtain ⟨S4, -, q4⟩ := e_lay (S3 := S1) e1 c1 c5 ha hb
  obtain ⟨r, S1', -, k1, k2, -⟩ := H S1 S4 (gm e1 q4)
  refine Ok.eq k1 ?_
  have np : ∀ k x, (¬ Scr k ∨ k = 81) → ¬ Wp k x := fun k x hk w => hk.elim (fun z => z w.1) w.2
  have s60 : ¬ Scr 60 := by unfold Scr; omega
  have s61 : ¬ Scr 61 := by unfold Scr; omega
  have f1 : gi S1' 61 0 = gi S 61 0 := ((k2 61 0 (np _ _ (Or.inl s61))).1).trans e1
  have I1 : Inv t S1' := q.2.scr (k2.mono (fun k x hw => Or.inl hw.1)) (by rw [(k2 60 0 (np _ _ (Or.inl s60))).1]) (by rw [(k2 60 0 (np _ _ (Or.inl s60))).1]) (by rw [(k2 60 0 (np _ _ (Or.inl s60))).1]) (by rw [(k2 60 0 (np _ _ (Or.inl s60))).2.1]) (by rw [(k2 60 0 (np _ _ (Or.inl s60))).2.1])
  show Ok (md (sl S1' 81 0 (nn 0) (toL r))) _
  refine HM _ _ f1 ?_
  refine Ok.o (e_lay (S3 := si (sl S1' 81 0 (nn 0) (toL r)) 60 0 5 0) f1 c1 c5 ha hb) (fun S5 q5 => ?_)
  obtain ⟨r', S9, S5', k1', -, k3, k4⟩ := H S1 S5 (gm (S3 := si (sl S1' 81 0 (nn 0) (toL r)) 60 0 5 0) f1 q5)
  rw [k1] at k1'
  cases k1'
  have g60 : gi S5' 60 0 = gi (si (sl S1' 81 0 (nn 0) (toL r)) 60 0 5 0) 60 0 := ((k4 60 0 (np _ _ (Or.inl s60))).1).trans (q5.1 60 0 (fun z => by omega)).1
  have l60 : gl S5' 60 0 = gl S1' 60 0 := ((k4 60 0 (np _ _ (Or.inl s60))).2.1).trans (q5.1 60 0 (fun z => by omega)).2.1
  refine Ok.eq k3 ⟨by rw [g60]; rfl, rfl, ?_, ?_⟩
  · show gl S5' 81 0 (nn 0) = _
    rw [(k4 81 0 (np _ _ (Or.inr rfl))).2.1, (q5.1 81 0 (fun z => by omega)).2.1]; rfl
  · refine Inv.t (Nat.le_succ t) (Inv.scr ((I1.out (j := nn 0) (v := toL r)).thr (v := 0)) ((q5.1.mono (fun k x hw => Or.inl (by unfold Scr; omega))).tr (k4.mono (fun k x hw => Or.inl hw.1))) ?_ ?_ ?_ ?_ ?_)
    all_goals first | rw [g60] | rw [l60]; rfl
end PL
theorem pf_bad {t : Nat} {S : St} {v : Int32} (h : Inv t S) : Inv (t + 1) (si S 60 0 5 v) := h.thr.t (Nat.le_succ t)
-- CASE gain
theorem pc_20 {t : Nat} {S : St} {a1 a2 a3 a4 a5 : Int32} (h : Inv t S) : Ok (fc_20 (t + 1) a1 a2 a3 a4 a5 S) (Inv (t + 1)) := by
  unfold fc_20 f_L_gain
  obtain ⟨⟨N, D, hh, lv, ri, to, ch, c1, c2, c3, c4, c5, c6, c7, c8, c9, c10, c11, c12, -⟩, -⟩ := id h
  have n0 := c1.1.1
  have n3 := c1.2.2.2.1.1
  have go : ∀ v : Int32, (v = 0 ∨ v = 1) → Ok (f_X11_gain 0 a1 a2 a3 a4 v S) (Tw S (fun k S => br (k = 3) (some (1, S)) (br (k = 2) (some (2, S)) (br (k = 4) (some (3, S)) (none)))) (fun cd => cd ≠ 0 ∧ Ok (f_X12_gain 0 a1 a2 a3 a4 v S) (fun o => gi o.2 60 0 5 = cd ∧ Inv (t + 1) o.2)) (fun r S1 => Ok (f_X12_gain 0 a1 a2 a3 a4 v (sl S1 81 0 (nn 0) r.toInt64)) (fun o => gi o.2 60 0 5 = 0 ∧ o.1 = r ∧ gl o.2 81 0 (nn 0) = r.toInt64 ∧ Inv (t + 1) o.2))) := by
    intro v hv
    unfold f_X11_gain
    rcases two_cases a1 a2 c1.1.2 with ⟨p1, p2⟩ | ⟨p1, p2⟩ | ⟨a, b, ha, hb, hab, rfl, rfl, p1, p2⟩
    · exact Ok.xl (p1 S c2.1) (Tw.l (cd := 1) rfl ⟨by decide, Ok.oe (p2 S n0) (Ok.v (Ok.bf (show ¬ (1 : Int32) ≤ 0 by decide) (Ok.sm ⟨rfl, pf_bad h⟩)))⟩)
    · exact Ok.xl (p1 S c2.1) (Tw.l (cd := 2) rfl ⟨by decide, Ok.oe (p2 S n0) (Ok.v (Ok.bf (show ¬ (2 : Int32) ≤ 0 by decide) (Ok.sm ⟨rfl, pf_bad h⟩)))⟩)
    refine Ok.xr (p1 S c2.1) ?_
    rcases lev_cases a3 c1.2.2.2.1.2 with ⟨u1, u2⟩ | ⟨i, hi, rfl, u1, u2⟩
    · exact Ok.xl (u1 S c2.2.2.2.1) (Tw.l (cd := 3) rfl ⟨by decide, Ok.oe (p2 S n0) (Ok.v (Ok.bt (show (0 : Int32) ≤ 0 by decide) (Ok.oe (u2 _ n3) (Ok.v (Ok.bt rfl (Ok.o2e rfl (Ok.sm ⟨rfl, pf_bad h.thr⟩)))))))⟩)
    refine Ok.xr (u1 S c2.2.2.2.1) ?_
    rcases lev_cases a4 c1.2.2.2.1.2 with ⟨w1, w2⟩ | ⟨j, hj, rfl, w1, w2⟩
    · exact Ok.xl (w1 S c2.2.2.2.1) (Tw.l (cd := 3) rfl ⟨by decide, Ok.oe (p2 S n0) (Ok.v (Ok.bt (show (0 : Int32) ≤ 0 by decide) (Ok.oe (u2 _ n3) (Ok.v (Ok.bf (by decide) (Ok.oe (w2 _ n3) (Ok.bt rfl (Ok.o2e rfl (Ok.sm ⟨rfl, pf_bad h.thr⟩)))))))))⟩)
    refine Ok.xr (w1 S c2.2.2.2.1) ?_
    refine play (fun r : Int32 => r.toInt64) h c1 c2 c3 c5 c6 c9 c12 ha hb (km := fun S17 => on (f_X12_gainOf 0 (Int32.ofNat i) (Int32.ofNat j) v S17) (fun r => some (r, S17))) (fun S9 Q e9 hq => Ok.oe (p2 S9 (by rw [e9]; exact n0)) (Ok.v (Ok.bt (show (0 : Int32) ≤ 0 by decide) (Ok.oe (u2 (si S9 60 0 5 0) (by show gi S9 61 0 3 = _; rw [e9]; exact n3)) (Ok.v (Ok.bf (by decide) (Ok.oe (w2 (si S9 60 0 5 0) (by show gi S9 61 0 3 = _; rw [e9]; exact n3)) (Ok.bf (by decide) hq)))))))) (fun S1 S2 g => ?_)
    · have e := g.2.2.1 i j hi hj
      have e2 := g.2.2.2.2 i j hi hj
      have hl := g.1
      rcases hv with rfl | rfl
      · refine ⟨_, S1, S2, ?_, Fr.rf, by rw [e2.1]; rfl, Fr.rf⟩
        unfold bv
        dsimp only
        rw [brp rfl, ck_t (ib (by omega) (by omega)), ck_t (ib (by omega) (by omega)), zN (by omega), zN (by omega), e.1]
      · refine ⟨_, S1, S2, ?_, Fr.rf, by rw [e2.2]; rfl, Fr.rf⟩
        unfold bv
        dsimp only
        rw [brn (by decide), ck_t (ib (by omega) (by omega)), ck_t (ib (by omega) (by omega)), zN (by omega), zN (by omega), e.2]
  by_cases h5 : a5 = 0
  · exact Ok.v (Ok.bt h5 (Ok.k2 (fun r S5 => brp h5) (tw_i (S := S) (go 0 (Or.inl rfl)))))
  · exact Ok.v (Ok.bf h5 (Ok.k2 (fun r S5 => brn h5) (tw_i (S := S) (go 1 (Or.inr rfl)))))
