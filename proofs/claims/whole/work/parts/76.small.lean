-- rows of the state written more than once
theorem ai_ai {S : St} {k g : Nat} {f f' : Nat → Int32} : ai (ai S k g f) k g f' = ai S k g f' := by
  unfold ai
  congr 1
  funext k' g'
  unfold up2
  by_cases h : k' = k ∧ g' = g
  · rw [if_pos h, if_pos h]
  · rw [if_neg h, if_neg h]
    exact if_neg h
theorem Ok.ve {α σ : Type} {e x : σ} {k : σ → Option α} {P : α → Prop} (h : e = x) (hk : Ok (k x) P) : Ok (bv e k) P := by subst h; exact hk
theorem ai_self {S : St} {k g : Nat} : ai S k g (gi S k g) = S := by
  unfold ai
  have : up2 S.1 k g (gi S k g) = S.1 := by
    funext k' g'
    unfold up2
    split
    · rename_i h; rw [h.1, h.2]; rfl
    · rfl
  rw [this]
theorem zWle {x : Int32} {n : Nat} (hn : n < 2147483647) (h : 0 ≤ x ∧ x ≤ Int32.ofNat n) : ∃ k : Nat, k ≤ n ∧ x = Int32.ofNat k := by
  obtain ⟨k, hk, e⟩ := zW (x := x) (n := n + 1) (by omega) (Int32.not_lt.mpr h.1) (by
    have := Int32.le_iff_toInt_le.mp h.2
    rw [Int32.lt_iff_toInt_lt, zI (by omega)]
    rw [zI (by omega)] at this
    omega)
  exact ⟨k, by omega, e⟩
theorem zIn {k lo hi : Nat} (hk : k < 2147483648) (hl : lo < 2147483648) (hh : hi < 2147483648) : (Int32.ofNat lo ≤ Int32.ofNat k ∧ Int32.ofNat k ≤ Int32.ofNat hi) ↔ (lo ≤ k ∧ k ≤ hi) := by rw [zLE hl hk, zLE hk hh]
theorem Lt.mono {n m : Nat} {x : Int32} (h : Lt n x) (hm : n ≤ m) : Lt m x := by
  obtain ⟨d, hd, e⟩ := h
  exact ⟨d, by omega, e⟩
section CNS
variable {T : Nat → Int32} {N D h lv ri to ch : Nat} {v : Int32}
theorem Cn.s0 (q : Cn T N D h lv ri to ch) {n : Nat} (e : v = Int32.ofNat n) (b : n ≤ 4) : Cn (upd T 0 v) n D h lv ri to ch := ⟨⟨e, b⟩, q.2⟩
theorem Cn.s1 (q : Cn T N D h lv ri to ch) {n : Nat} (e : v = Int32.ofNat n) (b : n ≤ 6) : Cn (upd T 1 v) N n h lv ri to ch := ⟨q.1, ⟨e, b⟩, q.2.2⟩
theorem Cn.s2 (q : Cn T N D h lv ri to ch) {n : Nat} (e : v = Int32.ofNat n) (b : n ≤ 3000) : Cn (upd T 2 v) N D n lv ri to ch := ⟨q.1, q.2.1, ⟨e, b⟩, q.2.2.2⟩
theorem Cn.s3 (q : Cn T N D h lv ri to ch) {n : Nat} (e : v = Int32.ofNat n) (b : n ≤ 8) : Cn (upd T 3 v) N D h n ri to ch := ⟨q.1, q.2.1, q.2.2.1, ⟨e, b⟩, q.2.2.2.2⟩
theorem Cn.s4 (q : Cn T N D h lv ri to ch) {n : Nat} (e : v = Int32.ofNat n) (b : n ≤ 6) : Cn (upd T 4 v) N D h lv n to ch := ⟨q.1, q.2.1, q.2.2.1, q.2.2.2.1, ⟨e, b⟩, q.2.2.2.2.2⟩
theorem Cn.s5 (q : Cn T N D h lv ri to ch) {n : Nat} (e : v = Int32.ofNat n) (b : n ≤ 60) : Cn (upd T 5 v) N D h lv ri n ch := ⟨q.1, q.2.1, q.2.2.1, q.2.2.2.1, q.2.2.2.2.1, ⟨e, b⟩, q.2.2.2.2.2.2⟩
theorem Cn.s6 (q : Cn T N D h lv ri to ch) {n : Nat} (e : v = Int32.ofNat n) (b : n ≤ 10) : Cn (upd T 6 v) N D h lv ri to n := ⟨q.1, q.2.1, q.2.2.1, q.2.2.2.1, q.2.2.2.2.1, q.2.2.2.2.2.1, ⟨e, b⟩⟩
end CNS
-- CASE level
theorem pc_19 {t : Nat} {S : St} {a1 a2 a3 a4 a5 : Int32} (h : Inv t S) : Ok (fc_19 (t + 1) a1 a2 a3 a4 a5 S) (Inv (t + 1)) := by
  unfold fc_19 f_L_level f_X11_level
  refine tw_i (S := S) ?_
  obtain ⟨⟨N, D, hh, lv, ri, to, ch, c1, c2, c3, c4, c5, c6, c7, c8, c9, c10, c11, c12, c13, c14, c15⟩, -⟩ := id h
  have n3 := c1.2.2.2.1.1
  have b3 := c1.2.2.2.1.2
  have k3 := c2.2.2.2.1
  have b0 := c1.1.2
  -- what the reference does where the price isn't above
  have bad : ∀ S1 : St, Inv t S1 → gi S1 61 0 = gi S 61 0 → ¬ ((0 ≤ a1 ∧ a1 ≤ 99) ∧ (0 < lv → gi S 61 0 (52 + (lv - 1)) < a1)) → Ok (f_X12_level 0 a1 S1) (fun o => gi o.2 60 0 5 = 1 ∧ Inv (t + 1) o.2) := by
    intro S1 hI e hb
    unfold f_X12_level
    refine Ok.v (Ok.c (by decide) (Ok.ve (x := Int32.ofNat lv) ((congrFun e 3).trans n3) (Ok.v ?_)))
    by_cases hl : lv = 0
    · subst hl
      refine Ok.bt rfl (Ok.oe (m_wn (lo := 0) (hi := 99) (by decide) (by decide) (fun z => hb ⟨z, fun h9 => absurd h9 (by omega)⟩)) (Ok.bt rfl (Ok.o2e rfl (Ok.sm ⟨rfl, (hI.thr.thr).t (Nat.le_succ t)⟩))))
    · refine Ok.bf (fun z => hl ((zE (a := lv) (b := 0) (by omega) (by omega)).mp z)) ?_
      have ei : (52 + Int32.ofNat lv) - 1 = Int32.ofNat (52 + (lv - 1)) := by
        rw [zA, zSub1 (by omega)]; congr 1; omega
      rw [ei]
      refine Ok.c (ib (by omega) (by omega)) (Ok.oe (m_wn (lo := gi S 61 0 (52 + (lv - 1)) + 1) (hi := 99) ?_ (by decide) ?_) (Ok.bt rfl (Ok.o2e rfl (Ok.sm ⟨rfl, (hI.thr.thr).t (Nat.le_succ t)⟩))))
      · show Int32.toInt64 (gi S1 61 0 (nn (Int32.ofNat (52 + (lv - 1)))) + 1) = _
        rw [zN (by omega), e]
      · intro z
        obtain ⟨d, hd, ed⟩ := (c9 (lv - 1) (by omega)).2
        have z1 : gi S 61 0 (52 + (lv - 1)) < a1 := by
          have z1 := z.1
          rw [ed, zA'] at z1
          rw [ed, Int32.lt_iff_toInt_lt, zI (by omega)]
          have := Int32.le_iff_toInt_le.mp z1
          rw [zI (by omega)] at this
          omega
        refine hb ⟨⟨?_, z.2⟩, fun _ => z1⟩
        rw [ed] at z1
        exact Int32.le_of_lt (Int32.lt_of_le_of_lt (zGe (by omega)) z1)
  by_cases hp : 0 ≤ a1 ∧ a1 ≤ 99
  · refine Ok.xr (y_pr hp) (Ok.v ?_)
    rw [k3]
    obtain ⟨p, hp1, rfl⟩ := zWle (x := a1) (n := 99) (by omega) hp
    by_cases hab : 0 < lv → gi S 61 0 (52 + (lv - 1)) < Int32.ofNat p
    · -- above the last one
      have go : Ok (on2 (f_X2_addLevel 0 (Int32.ofNat p) S) (fun r S9 => some (.inr r, S9))) (Tw (σ := Int32) S (fun k S => br (k = 2) (some (1, S)) none) (fun cd => cd ≠ 0 ∧ Ok (f_X12_level 0 (Int32.ofNat p) S) (fun o => gi o.2 60 0 5 = cd ∧ Inv (t + 1) o.2)) (fun r S1 => Ok (f_X12_level 0 (Int32.ofNat p) (sl S1 81 0 (nn 0) r.toInt64)) (fun o => gi o.2 60 0 5 = 0 ∧ o.1 = r ∧ gl o.2 81 0 (nn 0) = r.toInt64 ∧ Inv (t + 1) o.2))) := by
        -- the reference's way up to the test of room
        have ref : ∀ (S1 : St) (P : Int32 × St → Prop), gi S1 61 0 = gi S 61 0 → Ok (br (Int32.ofNat lv = 8) (some ((-1), si S1 60 0 5 0)) (ck (inb (52 + Int32.ofNat lv) 3179 = true) (bv (si (si S1 60 0 5 0) 61 0 (nn (52 + Int32.ofNat lv)) (Int32.ofNat p)) (fun S_12 => ck (inb 3 3179 = true) (ck (inb 3 3179 = true) (bv (si S_12 61 0 (nn 3) ((gi S_12 61 0 (nn 3)) + 1)) (fun S_15 => some (Int32.ofNat lv, S_15)))))))) P → Ok (f_X12_level 0 (Int32.ofNat p) S1) P := by
          intro S1 P e hk
          unfold f_X12_level
          refine Ok.v (Ok.c (by decide) (Ok.ve (x := Int32.ofNat lv) ((congrFun e 3).trans n3) (Ok.v ?_)))
          by_cases hl : lv = 0
          · subst hl
            exact Ok.bt rfl (Ok.oe (m_wy (lo := 0) (hi := 99) (by decide) (by decide) hp) (Ok.bf (by decide) hk))
          · refine Ok.bf (fun z => hl ((zE (a := lv) (b := 0) (by omega) (by omega)).mp z)) ?_
            have ei : (52 + Int32.ofNat lv) - 1 = Int32.ofNat (52 + (lv - 1)) := by
              rw [zA, zSub1 (by omega)]; congr 1; omega
            rw [ei]
            refine Ok.c (ib (by omega) (by omega)) (Ok.oe (m_wy (lo := gi S 61 0 (52 + (lv - 1)) + 1) (hi := 99) ?_ (by decide) ⟨?_, hp.2⟩) (Ok.bf (by decide) hk))
            · show Int32.toInt64 (gi S1 61 0 (nn (Int32.ofNat (52 + (lv - 1)))) + 1) = _
              rw [zN (by omega), e]
            · have ha := hab (by omega)
              obtain ⟨d, hd, ed⟩ := (c9 (lv - 1) (by omega)).2
              rw [ed] at ha ⊢
              rw [zL (by omega) (by omega)] at ha
              rw [zA', zLE (by omega) (by omega)]
              omega
        unfold f_X2_addLevel
        rw [k3]
        by_cases h8 : lv < 8
        · rw [brp (show Int32.ofNat lv < 8 from (zL (a := lv) (b := 8) (by omega) (by omega)).mpr h8), ck_t (ib h8 (by omega)), zN (by omega)]
          refine Ok.sm (Tw.r ?_)
          show Ok (f_X12_level 0 (Int32.ofNat p) (sl (si (si S 21 0 lv (Int32.ofNat p)) 2 0 14 (gi S 2 0 14 + 1)) 81 0 (nn 0) (gi S 2 0 14).toInt64)) _
          rw [k3]
          refine ref _ _ rfl (Ok.bf (fun z => by have := (zE (a := lv) (b := 8) (by omega) (by omega)).mp z; omega) (Ok.c (ibA (by omega) (by omega)) (Ok.v (Ok.c (by decide) (Ok.c (by decide) (Ok.v (Ok.sm ⟨rfl, k3.symm, congrArg Int32.toInt64 k3.symm, ?_⟩)))))))
          rw [nA (by omega)]
          refine Inv.t (Nat.le_succ t) (h.now ?_ rfl rfl rfl rfl rfl ⟨N, D, hh, lv + 1, ri, to, ch, ?_, ?_, ?_, c4, ?_, ?_, ?_, ?_, ?_, ?_, ?_, ?_, ?_, c14, c15⟩)
          · exact ((((Fr.si (by unfold WN WS Scr; omega)).tr (Fr.si (by unfold WN WS Scr; omega))).tr (Fr.sl (by unfold WN WS Scr; omega))).tr (Fr.si (by unfold WN WS Scr; omega))).tr ((Fr.si (by unfold WN WS Scr; omega)).tr (Fr.si (by unfold WN WS Scr; omega)))
          · exact Cn.s3 (T := upd (gi S 61 0) (52 + lv) (Int32.ofNat p)) (c1.cg (fun i hi => upd_ne (by omega))) (by
              show upd (gi S 61 0) (52 + lv) (Int32.ofNat p) 3 + 1 = _
              rw [upd_ne (by omega), n3]; exact zA' 1 lv) (by omega)
          · obtain ⟨q0, q1, q2, q3, q4⟩ := c2
            exact ⟨q0, q1, q2, zA' 1 lv, q4⟩
          · exact c3.cg b0 (fun i hi => (upd_ne (by show i ≠ 3; omega)).trans (upd_ne (by omega)))
          · exact c5.cg c1.2.1.2 (fun i hi => (upd_ne (by show i ≠ 3; omega)).trans (upd_ne (by omega)))
          · exact c6.cg b0 (fun i hi => (upd_ne (by show i ≠ 3; omega)).trans (upd_ne (by omega)))
          · exact c7.cg b0 c1.2.2.2.2.2.1.2 (fun i hi => (upd_ne (by show i ≠ 3; omega)).trans (upd_ne (by omega)))
          · exact c8.cg c1.2.2.2.2.2.2.2 (fun i hi => (upd_ne (by show i ≠ 3; omega)).trans (upd_ne (by omega)))
          · show Clv (lv + 1) (upd (gi S 21 0) lv (Int32.ofNat p)) (upd (upd (gi S 61 0) (52 + lv) (Int32.ofNat p)) 3 _)
            intro i hi
            rw [upd_ne (show 52 + i ≠ 3 by omega)]
            by_cases e : i = lv
            · subst e
              rw [upd_eq, upd_eq]
              exact ⟨rfl, p, hp1, rfl⟩
            · rw [upd_ne e, upd_ne (by omega)]
              exact c9 i (by omega)
          · exact c10.cg c1.2.2.2.2.1.2 (fun i hi => (upd_ne (by show i ≠ 3; omega)).trans (upd_ne (by omega)))
          · exact c11.cg (fun i hi => (upd_ne (by show i ≠ 3; omega)).trans (upd_ne (by omega)))
          · exact c12.cg (fun i hi => (upd_ne (by show i ≠ 3; omega)).trans (upd_ne (by omega)))
          · exact c13.cg b0 (fun i hi => (upd_ne (by show i ≠ 3; omega)).trans (upd_ne (by omega)))
        · have e8 : lv = 8 := by omega
          subst e8
          rw [brn (by decide)]
          refine Ok.sm (Tw.r ?_)
          exact ref _ _ rfl (Ok.bt rfl (Ok.sm ⟨rfl, rfl, rfl, h.out.thr.t (Nat.le_succ t)⟩))
      by_cases hl : lv = 0
      · subst hl
        exact Ok.bt (by decide) go
      · refine Ok.bf (fun z => hl (by have := (zLE (a := lv) (b := 0) (by omega) (by omega)).mp z; omega)) ?_
        rw [zSub1 (by omega)]
        refine Ok.c (ib (by omega) (by omega)) (Ok.bt ?_ go)
        rw [zN (by omega), (c9 (lv - 1) (by omega)).1]
        exact hab (by omega)
    · have hl : 0 < lv := by
        rcases Nat.eq_zero_or_pos lv with e | e
        · exact absurd (fun h9 => absurd h9 (by omega)) hab
        · exact e
      refine Ok.bf (fun z => by have := (zLE (a := lv) (b := 0) (by omega) (by omega)).mp z; omega) ?_
      rw [zSub1 (by omega)]
      refine Ok.c (ib (by omega) (by omega)) (Ok.bf ?_ (Ok.sm (Tw.l (cd := 1) rfl ⟨by decide, bad S h rfl (fun z => hab z.2)⟩)))
      rw [zN (by omega), (c9 (lv - 1) (by omega)).1]
      exact fun z => hab (fun _ => z)
  · exact Ok.xl (n_pr hp) (Tw.l (cd := 1) rfl ⟨by decide, bad S h rfl (fun z => hp z.1)⟩)
