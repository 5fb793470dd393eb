-- STORY: weights out of a tray
theorem ai_ext {S : St} {k g : Nat} {f f' : Nat → Int32} (h : ∀ j, f j = f' j) : ai S k g f = ai S k g f' := by rw [funext h]
theorem gai {S : St} {k g : Nat} {f : Nat → Int32} : gi (ai S k g f) k g = f := by rw [pgi_ai, if_pos ⟨rfl, rfl⟩]
theorem fi_n {S : St} {tr : Nat} (ht : tr < 4) (h : gi S 50 0 tr = -1) : f_X11_needFilledTray 0 (Int32.ofNat tr) S = some (.inl 1, S) := by
  unfold f_X11_needFilledTray f_X10_isMissing
  rw [ck_t (ib ht (by omega)), bvE, zN (by omega), brp h]; rfl
theorem fi_y {S : St} {tr : Nat} (ht : tr < 4) (h : ¬ gi S 50 0 tr = -1) : f_X11_needFilledTray 0 (Int32.ofNat tr) S = some (.inr (), S) := by
  unfold f_X11_needFilledTray f_X10_isMissing
  rw [ck_t (ib ht (by omega)), bvE, zN (by omega), brn h]; rfl
theorem e_allW {S : St} {tr n : Nat} {L : Int32} (ht : tr < 4) (hn : n ≤ 28) (e : gi S 51 0 tr = Int32.ofNat n) : ((∀ k, k < n → 0 ≤ gl S 53 tr k ∧ gl S 53 tr k ≤ L.toInt64) → f_X10_allWithin 0 (Int32.ofNat tr) L S = some 1) ∧ (¬ (∀ k, k < n → 0 ≤ gl S 53 tr k ∧ gl S 53 tr k ≤ L.toInt64) → f_X10_allWithin 0 (Int32.ofNat tr) L S = some 0) := by
  have st : ∀ m k, k < n → f_X10_allWithin_2 0 (Int32.ofNat tr) L S (fun _ => some 1) (m + 1) (Int32.ofNat k) = br ((lg_cmp (gl S 53 tr k) 0) < 0) (some 0) (br ((lg_cmp (gl S 53 tr k) L.toInt64) ≤ 0) (f_X10_allWithin_2 0 (Int32.ofNat tr) L S (fun _ => some 1) m (Int32.ofNat (k + 1))) (some 0)) := by
    intro m k hk
    rw [f_X10_allWithin_2, ck_t (ib ht (by omega)), zN (by omega), e, brn (fun w => absurd ((zLE (by omega) (by omega)).mp w) (by omega)), ck_t (ib ht (by omega)), ck_t (ib (by omega) (by omega)), zN (by omega)]
    simp only [bvE, zp1]
    rw [ck_t (ib ht (by omega)), ck_t (ib (by omega) (by omega))]
  have := allLoop (fun m k => f_X10_allWithin_2 0 (Int32.ofNat tr) L S (fun _ => some 1) m (Int32.ofNat k)) (fun k => 0 ≤ gl S 53 tr k ∧ gl S 53 tr k ≤ L.toInt64) n (some 1) (some 0) (fun m => by
      show f_X10_allWithin_2 _ _ _ _ _ (m + 1) _ = _
      rw [f_X10_allWithin_2, ck_t (ib ht (by omega)), zN (by omega), e, brp ((zLE (by omega) (by omega)).mpr (Nat.le_refl n))]) (fun m k hk hc => by
      show f_X10_allWithin_2 _ _ _ _ _ (m + 1) _ = _
      rw [st m k hk, brn (fun z => absurd ((lg_cmp_lt _ _).mp z) (Int64.not_lt.mpr hc.1)), brp ((lg_cmp_le _ _).mpr hc.2)]) (fun m k hk _ hc => by
      show f_X10_allWithin_2 _ _ _ _ _ (m + 1) _ = _
      rw [st m k hk]
      by_cases h1 : 0 ≤ gl S 53 tr k
      · rw [brn (fun z => absurd ((lg_cmp_lt _ _).mp z) (Int64.not_lt.mpr h1)), brn (fun z => hc ⟨h1, (lg_cmp_le _ _).mp z⟩)]
      · rw [brp ((lg_cmp_lt _ _).mpr (Int64.not_le.mp h1))]) FU 0 (by omega) (by unfold FU; omega)
  exact ⟨fun z => this.1 (fun k _ b => z k b), fun z => this.2 (fun w => z (fun k b => w k (by omega) b))⟩
theorem sw_loop {x tr : Nat} {K : St → Option St} (hx : x < 2) : ∀ (n k : Nat) (S : St), k ≤ 21 → 21 - k < n → f_X8_setWeights_2 0 (Int32.ofNat x) tr K n (Int32.ofNat k) S = K (ai S 24 (2 * 0 + x) (fun j => if k ≤ j ∧ j < 21 then (gl S 53 tr j).toInt32 else gi S 24 (2 * 0 + x) j)) := by
  intro n
  induction n with
  | zero => intro k S _ h; omega
  | succ n ih =>
    intro k S hk hn
    rw [f_X8_setWeights_2]
    by_cases hc : 21 ≤ k
    · rw [brp (show (21 : Int32) ≤ Int32.ofNat k from (zLE (a := 21) (by omega) (by omega)).mpr hc), ai_ext (f' := gi S 24 (2 * 0 + x)) (fun j => if_neg (by omega)), ai_self]
    · rw [brn (show ¬ (21 : Int32) ≤ Int32.ofNat k from fun w => hc ((zLE (a := 21) (by omega) (by omega)).mp w)), ck_t (ib hx (by omega)), ck_t (ib (by omega) (by omega)), ck_t (ib (by omega) (by omega)), zN (by omega), zN (by omega), bvE, bvE, zp1, ih (k + 1) _ (by omega) (by omega)]
      unfold si
      rw [ai_ai]
      congr 1
      refine ai_ext (fun j => ?_)
      rw [gai, pgl_ai]
      by_cases e : j = k
      · subst e
        rw [if_neg (by omega), upd_eq, if_pos (by omega)]
      · rw [upd_ne e]
        by_cases e2 : k + 1 ≤ j ∧ j < 21
        · rw [if_pos e2, if_pos (by omega)]
        · rw [if_neg e2, if_neg (by omega)]
theorem st_loop {x tr : Nat} {K : St → Option (Int32 × St)} (hx : x < 2) (ht : tr < 4) : ∀ (n k : Nat) (S : St), k ≤ 21 → 21 - k < n → f_X12_story_99 0 (Int32.ofNat x) (Int32.ofNat tr) K n (Int32.ofNat k) S = K (ai S 61 0 (fun j => if 78 + 21 * x + k ≤ j ∧ j < 78 + 21 * x + 21 then (gl S 80 0 (28 * tr + (j - (78 + 21 * x)))).toInt32 else gi S 61 0 j)) := by
  intro n
  induction n with
  | zero => intro k S _ h; omega
  | succ n ih =>
    intro k S hk hn
    rw [f_X12_story_99]
    by_cases hc : 21 ≤ k
    · rw [brp (show (21 : Int32) ≤ Int32.ofNat k from (zLE (a := 21) (by omega) (by omega)).mpr hc), ai_ext (f' := gi S 61 0) (fun j => if_neg (by omega)), ai_self]
    · rw [brn (show ¬ (21 : Int32) ≤ Int32.ofNat k from fun w => hc ((zLE (a := 21) (by omega) (by omega)).mp w)), zMu, zMu, zA, zAA, zAA, ck_t (ib (by omega) (by omega)), ck_t (ib (by omega) (by omega)), zN (by omega), zN (by omega), bvE, bvE, zp1, ih (k + 1) _ (by omega) (by omega)]
      unfold si
      rw [ai_ai]
      congr 1
      refine ai_ext (fun j => ?_)
      rw [gai, pgl_ai]
      by_cases e : j = 78 + 21 * x + k
      · rw [if_neg (by omega), e, upd_eq, if_pos (by omega), show 78 + 21 * x + k - (78 + 21 * x) = k by omega]
      · rw [upd_ne e]
        by_cases e2 : 78 + 21 * x + (k + 1) ≤ j ∧ j < 78 + 21 * x + 21
        · rw [if_pos e2, if_pos (by omega)]
        · rw [if_neg e2, if_neg (by omega)]
theorem lt10 {v : Int64} (h : 0 ≤ v ∧ v ≤ (9 : Int32).toInt64) : Lt 10 v.toInt32 := by
  have h1 := Int64.le_iff_toInt_le.mp h.1
  have h2 := Int64.le_iff_toInt_le.mp h.2
  have h1 : 0 ≤ v.toInt := h1
  have h2 : v.toInt ≤ 9 := h2
  refine ⟨v.toInt.toNat, by omega, ?_⟩
  rw [← Int32.toInt_inj, zI (by omega), Int64.toInt_toInt32]
  show v.toInt.bmod (2 ^ 32) = _
  rw [Int.bmod_def]; omega
-- CASE story
theorem pc_29 {t : Nat} {S : St} {a1 a2 a3 a4 a5 : Int32} (h : Inv t S) : Ok (fc_29 (t + 1) a1 a2 a3 a4 a5 S) (Inv (t + 1)) := by
  unfold fc_29 f_L_story f_X11_story
  refine tw_b (S := S) ?_
  obtain ⟨⟨N, D, hh, lv, ri, to, ch, c1, c2, c3, c4, c5, c6, c7, c8, c9, c10, c11, c12, c13, c14, c15⟩, -⟩ := id h
  have b0 := c1.1.2
  refine Ok.v ?_
  by_cases hx : 0 ≤ a1 ∧ a1 ≤ 1
  case neg =>
    have bad : Ok (f_X12_story 0 a1 a2 S) (fun o => gi o.2 60 0 5 = 1 ∧ Inv (t + 1) o.2) := Ok.oe (m_wn (lo := 0) (hi := 1) (by decide) (by decide) hx) (Ok.v (Ok.v (Ok.bt rfl (Ok.v (Ok.v (Ok.bt (show (0 : Int32) < 1 by decide) (Ok.sm ⟨rfl, pf_bad h⟩)))))))
    by_cases hz : a1 < 0
    · exact Ok.bt hz (Ok.sm (Tw.l (cd := 1) rfl ⟨by decide, bad⟩))
    · refine Ok.bf hz (Ok.bf (fun w => hx ⟨Int32.not_lt.mp hz, ?_⟩) (Ok.sm (Tw.l (cd := 1) rfl ⟨by decide, bad⟩)))
      rw [Int32.lt_iff_toInt_lt] at w
      rw [Int32.le_iff_toInt_le]
      have e3 : (1 : Int32).toInt = 1 := rfl
      have e4 : (2 : Int32).toInt = 2 := rfl
      omega
  obtain ⟨x, hx1, rfl⟩ := zWle (n := 1) (by omega) hx
  have hx2 : x < 2 := by omega
  refine Ok.bf (zNeg (by omega)) (Ok.bt (show Int32.ofNat x < 2 from (zL (b := 2) (by omega) (by omega)).mpr hx2) ?_)
  by_cases ht : 0 ≤ a2 ∧ a2 ≤ 3
  case neg => exact Ok.xl (n_tr ht) (Tw.l (cd := 1) rfl ⟨by decide, Ok.oe (m_wy (lo := 0) (hi := 1) (by decide) (by decide) hx) (Ok.v (Ok.v (Ok.bf (by decide) (Ok.oe (m_trn ht) (Ok.bt rfl (Ok.v (Ok.v (Ok.bt (show (0 : Int32) < 1 by decide) (Ok.sm ⟨rfl, pf_bad h⟩)))))))))⟩)
  obtain ⟨tr, ht1, rfl⟩ := zWle (n := 3) (by omega) ht
  have ht4 : tr < 4 := by omega
  refine Ok.xr (y_tr ht4) ?_
  obtain ⟨r1, r2, n, hn, r3, r4, r5⟩ := h.2.2.2.2 tr ht4
  by_cases hf : gi S 78 0 tr = -1
  · refine Ok.xl (fi_n ht4 (by rw [r1]; exact hf)) (Tw.l (cd := 2) rfl ⟨by decide, Ok.oe (m_wy (lo := 0) (hi := 1) (by decide) (by decide) hx) (Ok.v (Ok.v (Ok.bf (by decide) (Ok.oe (m_try ht) (Ok.bf (by decide) (Ok.c (ib ht4 (by omega)) (Ok.bt ?_ (Ok.v (Ok.v (Ok.bt (show (0 : Int32) < 2 by decide) (Ok.sm ⟨rfl, pf_bad h⟩)))))))))))⟩)
    rw [zN (by omega)]; exact hf
  refine Ok.xr (fi_y ht4 (by rw [r1]; exact hf)) (Ok.c (ib ht4 (by omega)) (Ok.v ?_))
  have ref : ∀ (Z : St) (Q : Int32 × St → Prop), gi Z 78 0 = gi S 78 0 → Ok (br ((gi (si Z 60 0 5 0) 79 0 tr) = 21) (f_X12_story_62 0 (Int32.ofNat x) (Int32.ofNat tr) (fun (S_18 : St) => f_X12_story_99 0 (Int32.ofNat x) (Int32.ofNat tr) (fun (S_24 : St) => some (1, S_24)) FU 0 S_18) FU 0 (si Z 60 0 5 0)) (some (0, si Z 60 0 5 0))) Q → Ok (f_X12_story 0 (Int32.ofNat x) (Int32.ofNat tr) Z) Q := by
    intro Z Q e hq
    refine Ok.oe (m_wy (lo := 0) (hi := 1) (by decide) (by decide) hx) (Ok.v (Ok.v (Ok.bf (by decide) (Ok.oe (m_try ht) (Ok.bf (by decide) (Ok.c (ib ht4 (by omega)) (Ok.bf ?_ (Ok.v (Ok.v (Ok.bf (show ¬ (0 : Int32) < 0 by decide) (Ok.c (ib ht4 (by omega)) ?_)))))))))))
    · rw [zN (by omega), e]; exact hf
    · rw [zN (by omega)]; exact hq
  have wl : ∀ Z : St, gl Z 80 0 = gl S 80 0 → n = 21 → ∀ K, ((∀ k, k < 21 → 0 ≤ gl S 53 tr k ∧ gl S 53 tr k ≤ (9 : Int32).toInt64) → f_X12_story_62 0 (Int32.ofNat x) (Int32.ofNat tr) K FU 0 Z = K Z) ∧ (¬ (∀ k, k < 21 → 0 ≤ gl S 53 tr k ∧ gl S 53 tr k ≤ (9 : Int32).toInt64) → f_X12_story_62 0 (Int32.ofNat x) (Int32.ofNat tr) K FU 0 Z = some (0, Z)) := by
    intro Z eZ en K
    have st : ∀ m k, k < 21 → f_X12_story_62 0 (Int32.ofNat x) (Int32.ofNat tr) K (m + 1) (Int32.ofNat k) Z = br ((if 0 ≤ gl S 53 tr k ∧ gl S 53 tr k ≤ (9 : Int32).toInt64 then (1 : Int32) else 0) = 0) (some (0, Z)) (f_X12_story_62 0 (Int32.ofNat x) (Int32.ofNat tr) K m (Int32.ofNat (k + 1)) Z) := by
      intro m k hk
      rw [f_X12_story_62, brn (show ¬ (21 : Int32) ≤ Int32.ofNat k from fun w => absurd ((zLE (a := 21) (by omega) (by omega)).mp w) (by omega)), zMu, zAA, ck_t (ib (by omega) (by omega)), zN (by omega), eZ, ← r5 k (by omega), e_within]
      unfold on
      dsimp only
      rw [bvE, zp1]; rfl
    have := allLoop (fun m k => f_X12_story_62 0 (Int32.ofNat x) (Int32.ofNat tr) K m (Int32.ofNat k) Z) (fun k => 0 ≤ gl S 53 tr k ∧ gl S 53 tr k ≤ (9 : Int32).toInt64) 21 (K Z) (some (0, Z)) (fun m => by
      show f_X12_story_62 _ _ _ _ (m + 1) _ _ = _
      rw [f_X12_story_62, brp (show (21 : Int32) ≤ Int32.ofNat 21 by decide)]) (fun m k hk hc => by
      show f_X12_story_62 _ _ _ _ (m + 1) _ _ = _
      rw [st m k hk, if_pos hc, brn (by decide)]) (fun m k hk _ hc => by
      show f_X12_story_62 _ _ _ _ (m + 1) _ _ = _
      rw [st m k hk, if_neg hc, brp rfl]) FU 0 (by omega) (by unfold FU; omega)
    exact ⟨fun z => this.1 (fun k _ b => z k b), fun z => this.2 (fun w => z (fun k b => w k (by omega) b))⟩
  have no : ∀ v : Int64, v = 0 → (n = 21 → ¬ (∀ k, k < 21 → 0 ≤ gl S 53 tr k ∧ gl S 53 tr k ≤ (9 : Int32).toInt64)) → Ok (f_X12_story 0 (Int32.ofNat x) (Int32.ofNat tr) (sl S 81 0 (nn 0) v)) (fun o => gi o.2 60 0 5 = 0 ∧ (o.1 = 0 ↔ (0 : Int32) = 0) ∧ gl o.2 81 0 (nn 0) = v ∧ Inv (t + 1) o.2) := by
    intro v hv hw
    refine ref _ _ rfl ?_
    by_cases e : n = 21
    · refine Ok.bt (show gi S 79 0 tr = 21 by rw [r4, e]; rfl) ?_
      exact Ok.eq ((wl (si (sl S 81 0 (nn 0) v) 60 0 5 0) rfl e _).2 (hw e)) ⟨rfl, Iff.rfl, rfl, pf_bad h.out⟩
    · refine Ok.bf (show ¬ gi S 79 0 tr = 21 by rw [r4]; exact fun z => e ((zE (b := 21) (by omega) (by omega)).mp z)) ?_
      exact Ok.sm ⟨rfl, Iff.rfl, rfl, pf_bad h.out⟩
  by_cases e : n = 21
  case neg =>
    refine Ok.bf ?_ (Ok.sm (Tw.r (fun v hv => no v (hv.trans (if_pos rfl)) (fun z => absurd z e))))
    rw [zN (by omega), r3]; exact fun z => e ((zE (b := 21) (by omega) (by omega)).mp z)
  refine Ok.bt (by rw [zN (by omega), r3, e]; rfl) ?_
  obtain ⟨w1, w2⟩ := e_allW (S := S) (L := 9) ht4 hn r3
  rw [e] at w1 w2
  by_cases hw : ∀ k, k < 21 → 0 ≤ gl S 53 tr k ∧ gl S 53 tr k ≤ (9 : Int32).toInt64
  case neg => exact Ok.oe (w2 hw) (Ok.bt rfl (Ok.sm (Tw.r (fun v hv => no v (hv.trans (if_pos rfl)) (fun _ => hw)))))
  refine Ok.oe (w1 hw) (Ok.bf (by decide) (Ok.c (ib ht4 (by omega)) ?_))
  rw [zN (by omega)]
  have sw := sw_loop (tr := tr) (K := fun S => some S) hx2 FU 0 S (by omega) (by unfold FU; omega)
  refine Ok.oe sw (Ok.sm (Tw.r (fun v hv => ?_)))
  refine ref _ _ rfl (Ok.bt (show gi S 79 0 tr = 21 by rw [r4, e]; rfl) ?_)
  rw [(wl (si (sl (ai S 24 (2 * 0 + x) (fun j => if 0 ≤ j ∧ j < 21 then (gl S 53 tr j).toInt32 else gi S 24 (2 * 0 + x) j)) 81 0 (nn 0) v) 60 0 5 0) rfl e _).1 hw]
  refine Ok.eq (st_loop hx2 ht4 FU 0 _ (by omega) (by unfold FU; omega)) ⟨rfl, ⟨fun z => absurd z (show ¬ (1 : Int32) = 0 by decide), fun z => absurd z (show ¬ (1 : Int32) = 0 by decide)⟩, rfl, ?_⟩
  have nw : ∀ i, (i < 78 + 21 * x ∨ 78 + 21 * x + 21 ≤ i) → (if 78 + 21 * x + 0 ≤ i ∧ i < 78 + 21 * x + 21 then (gl S 80 0 (28 * tr + (i - (78 + 21 * x)))).toInt32 else gi S 61 0 i) = gi S 61 0 i := fun i hi => if_neg (by omega)
  refine Inv.t (Nat.le_succ t) (h.now (S' := ai (si (sl (ai S 24 (2 * 0 + x) (fun j => if 0 ≤ j ∧ j < 21 then (gl S 53 tr j).toInt32 else gi S 24 (2 * 0 + x) j)) 81 0 (nn 0) v) 60 0 5 0) 61 0 (fun j => if 78 + 21 * x + 0 ≤ j ∧ j < 78 + 21 * x + 21 then (gl S 80 0 (28 * tr + (j - (78 + 21 * x)))).toInt32 else gi S 61 0 j)) ?_ rfl rfl rfl rfl rfl ?_)
  · refine (Fr.ai ?_).tr ((Fr.sl ?_).tr ((Fr.si ?_).tr (Fr.ai ?_)))
    · exact Or.inr (Or.inr (Or.inr (Or.inr ⟨by omega, by omega⟩)))
    · exact Or.inl (Or.inl (by unfold Scr; omega))
    · exact Or.inl (Or.inr ⟨rfl, rfl⟩)
    · exact Or.inr (Or.inl ⟨rfl, rfl⟩)
  · refine ⟨N, D, hh, lv, ri, to, ch, c1.cg (fun i hi => nw i (by omega)), c2, c3.cg b0 (fun i hi => nw i (by omega)), c4, c5.cg c1.2.1.2 (fun i hi => nw i (by omega)), c6.cg b0 (fun i hi => nw i (by omega)), c7.cg b0 c1.2.2.2.2.2.1.2 (fun i hi => nw i (by omega)), c8.cg c1.2.2.2.2.2.2.2 (fun i hi => nw i (by omega)), c9.cg c1.2.2.2.1.2 (fun i hi => nw i (by omega)), c10.cg c1.2.2.2.2.1.2 (fun i hi => nw i (by omega)), ?_, c12.cg (fun i hi => nw i (by omega)), c13.cg b0 (fun i hi => nw i (by omega)), c14, c15⟩
    intro i hi
    obtain ⟨q1, q2, q3, q4⟩ := c11 i hi
    have nv : ∀ y, (if 78 + 21 * x + 0 ≤ 78 + 21 * x + y ∧ 78 + 21 * x + y < 78 + 21 * x + 21 then (gl S 80 0 (28 * tr + (78 + 21 * x + y - (78 + 21 * x)))).toInt32 else gi S 61 0 (78 + 21 * x + y)) = if y < 21 then (gl S 80 0 (28 * tr + y)).toInt32 else gi S 61 0 (78 + 21 * x + y) := by
      intro y
      by_cases hy : y < 21
      · rw [if_pos (by omega), if_pos hy, show 78 + 21 * x + y - (78 + 21 * x) = y by omega]
      · rw [if_neg (by omega), if_neg hy]
    have new := nv i
    rw [if_pos hi, ← r5 i (by omega)] at new
    have ten := lt10 (hw i hi)
    have own24 : (if 0 ≤ i ∧ i < 21 then (gl S 53 tr i).toInt32 else gi S 24 (2 * 0 + x) i) = (gl S 53 tr i).toInt32 := if_pos (by omega)
    rcases (show x = 0 ∨ x = 1 by omega) with rfl | rfl
    · refine ⟨own24.trans new.symm, q2.trans (nw (99 + i) (by omega)).symm, ?_, ?_⟩
      · show Lt 10 (if 78 + 21 * 0 + 0 ≤ 78 + i ∧ 78 + i < 78 + 21 * 0 + 21 then _ else _)
        rw [show (if 78 + 21 * 0 + 0 ≤ 78 + i ∧ 78 + i < 78 + 21 * 0 + 21 then (gl S 80 0 (28 * tr + (78 + i - (78 + 21 * 0)))).toInt32 else gi S 61 0 (78 + i)) = (gl S 53 tr i).toInt32 from new]
        exact ten
      · show Lt 10 (if 78 + 21 * 0 + 0 ≤ 99 + i ∧ 99 + i < 78 + 21 * 0 + 21 then _ else _)
        rw [nw (99 + i) (by omega)]; exact q4
    · refine ⟨q1.trans (nw (78 + i) (by omega)).symm, own24.trans new.symm, ?_, ?_⟩
      · show Lt 10 (if 78 + 21 * 1 + 0 ≤ 78 + i ∧ 78 + i < 78 + 21 * 1 + 21 then _ else _)
        rw [nw (78 + i) (by omega)]; exact q3
      · show Lt 10 (if 78 + 21 * 1 + 0 ≤ 99 + i ∧ 99 + i < 78 + 21 * 1 + 21 then _ else _)
        rw [show (if 78 + 21 * 1 + 0 ≤ 99 + i ∧ 99 + i < 78 + 21 * 1 + 21 then (gl S 80 0 (28 * tr + (99 + i - (78 + 21 * 1)))).toInt32 else gi S 61 0 (99 + i)) = (gl S 53 tr i).toInt32 from new]
        exact ten
