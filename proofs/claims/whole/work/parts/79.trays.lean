theorem al_al {S : St} {k g : Nat} {f f' : Nat → Int64} : al (al S k g f) k g f' = al S k g f' := by
  unfold al
  congr 2
  funext k' g'
  unfold up2
  by_cases h : k' = k ∧ g' = g
  · rw [if_pos h, if_pos h]
  · rw [if_neg h, if_neg h]
    exact if_neg h
theorem al_self {S : St} {k g : Nat} : al S k g (gl S k g) = S := by
  unfold al
  have : up2 S.2.1 k g (gl S k g) = S.2.1 := by
    funext k' g'
    unfold up2
    split
    · rename_i h; rw [h.1, h.2]; rfl
    · rfl
  rw [this]
theorem al_ext {S : St} {k g : Nat} {f f' : Nat → Int64} (h : ∀ j, f j = f' j) : al S k g f = al S k g f' := by rw [funext h]
theorem mn_comm {a b : Int32} : mnI a b = mnI b a := by
  show (if b < a then b else a) = (if a < b then a else b)
  by_cases h1 : b < a
  · rw [if_pos h1, if_neg (Int32.not_lt.mpr (Int32.le_of_lt h1))]
  · rw [if_neg h1]
    by_cases h2 : a < b
    · rw [if_pos h2]
    · rw [if_neg h2]
      exact Int32.le_antisymm (Int32.not_lt.mp h1) (Int32.not_lt.mp h2)
theorem e_sinceIn {x c : Int32} {S : St} : f_X11_sinceIn x c S = some (mnI (if c = -1 then x + 1 else x - c) 99) := by
  unfold f_X11_sinceIn bv
  dsimp only
  by_cases h : c = -1
  · rw [brp h, if_pos h]
  · rw [brn h, if_neg h]
theorem FUp : FU = (FU - 1) + 1 := rfl
theorem e_since0 {S : St} {s : Nat} {x : Int32} (hb : gi S 60 0 23 = 0) (hs : s < 4) : f_X12_sinceAt 0 (Int32.ofNat s) x S = some (mnI 99 (if gi S 61 0 (24 + s) = -1 then x + 1 else x - gi S 61 0 (24 + s))) := by
  have lp : ∀ (K : Int32 → Option Int32) (y z : Int32), f_X12_sinceAt_24 0 (Int32.ofNat s) x S K FU y z = K y := fun K y z => by
    rw [FUp, f_X12_sinceAt_24]
    by_cases h1 : x ≤ z
    · rw [brp h1]
    · rw [brn h1, brp hb]
  unfold f_X12_sinceAt bv
  dsimp only
  rw [brp hb, ck_t (ibA (by omega) (by omega)), nA (by omega), lp]
  show br (gi S 61 0 (24 + s) = -1) _ _ = _
  by_cases h : gi S 61 0 (24 + s) = -1
  · rw [brp h, if_pos h]
  · rw [brn h, if_neg h]
-- CASE of
theorem pc_12 {t : Nat} {S : St} {a1 a2 a3 a4 a5 : Int32} (h : Inv t S) : Ok (fc_12 (t + 1) a1 a2 a3 a4 a5 S) (Inv (t + 1)) := by
  unfold fc_12 f_L_of f_X11_of
  refine tw_l (S := S) ?_
  obtain ⟨⟨N, D, hh, lv, ri, to, ch, c1, c2, c3, c4, -⟩, -⟩ := id h
  have b0 := c1.1.2
  have n0 := c1.1.1
  have k0 := c2.1
  by_cases hs : a1 < 0 ∨ ¬ a1 < Int32.ofNat N
  · exact Ok.xl (n_st k0 hs) (Tw.l (cd := 1) rfl ⟨by decide, Ok.v (Ok.oe (m_stn n0 b0 hs) (Ok.bt rfl (Ok.o2e rfl (Ok.sm ⟨rfl, h.thr.thr.t (Nat.le_succ t)⟩))))⟩)
  obtain ⟨n, hn, rfl⟩ := or_st b0 hs
  refine Ok.xr (y_st k0 b0 hn) ?_
  have fin : ∀ (v : Int64), Inv (t + 1) (si (si (sl S 81 0 (nn 0) v) 60 0 5 0) 60 0 23 0) := fun v => ((h.out.thr).scr (Fr.si (Or.inr ⟨rfl, rfl⟩)) rfl rfl rfl rfl rfl).t (Nat.le_succ t)
  by_cases e0 : a2 = 0
  · subst e0
    refine Ok.bt rfl (Ok.c (ib (by omega) (by omega)) (Ok.sm (Tw.r ?_)))
    refine Ok.v (Ok.oe (m_sty n0 b0 hn) (Ok.bf (by decide) (Ok.oe (m_wy (lo := 0) (hi := 2) (by decide) (by decide) (by decide)) (Ok.bf (by decide) (Ok.v (Ok.v (Ok.bf (by decide) ?_)))))))
    rw [show (4 * 0 + Int32.ofNat n : Int32) = Int32.ofNat n from zA 0 n |>.trans (by rw [show (OfNat.ofNat 0 + n : Nat) = n from Nat.zero_add n])]
    refine Ok.c (ib (by omega) (by omega)) (Ok.sm ⟨rfl, ?_, rfl, fin _⟩)
    show gl S 63 0 (nn (Int32.ofNat n)) = gl S 6 0 (nn (Int32.ofNat n))
    rw [zN (by omega)]
    exact (c4.1 n (by omega)).1.symm
  refine Ok.bf e0 ?_
  by_cases e1 : a2 = 1
  · subst e1
    refine Ok.bt rfl (Ok.c (ib (by omega) (by omega)) (Ok.sm (Tw.r ?_)))
    refine Ok.v (Ok.oe (m_sty n0 b0 hn) (Ok.bf (by decide) (Ok.oe (m_wy (lo := 0) (hi := 2) (by decide) (by decide) (by decide)) (Ok.bf (by decide) (Ok.v (Ok.v (Ok.bf (by decide) ?_)))))))
    rw [show (4 * 1 + Int32.ofNat n : Int32) = Int32.ofNat (4 + n) from zA 4 n]
    refine Ok.c (ib (by omega) (by omega)) (Ok.sm ⟨rfl, ?_, rfl, fin _⟩)
    show gl S 63 0 (nn (Int32.ofNat (4 + n))) = gl S 7 0 (nn (Int32.ofNat n))
    rw [zN (by omega), zN (by omega)]
    exact (c4.1 n (by omega)).2.symm
  refine Ok.bf e1 ?_
  by_cases e2 : a2 = 2
  · subst e2
    refine Ok.bt rfl (Ok.c (ib (by omega) (by omega)) (Ok.oe e_sinceIn (Ok.sm (Tw.r ?_))))
    refine Ok.v (Ok.oe (m_sty n0 b0 hn) (Ok.bf (by decide) (Ok.oe (m_wy (lo := 0) (hi := 2) (by decide) (by decide) (by decide)) (Ok.bf (by decide) (Ok.v (Ok.v (Ok.bt rfl (Ok.c (by decide) (Ok.oe (e_since0 rfl (by omega)) (Ok.sm ⟨rfl, ?_, rfl, fin _⟩))))))))))
    show Int32.toInt64 (mnI 99 (if gi S 61 0 (24 + n) = -1 then gi S 61 0 2 + 1 else gi S 61 0 2 - gi S 61 0 (24 + n))) = Int32.toInt64 (mnI (if gi S 5 0 (nn (Int32.ofNat n)) = -1 then gi S 14 (2 * 0) 3 + 1 else gi S 14 (2 * 0) 3 - gi S 5 0 (nn (Int32.ofNat n))) 99)
    rw [zN (by omega), (c3 n hn).2.2.2.2.1, c2.2.2.1, c1.2.2.1.1, mn_comm]
  · refine Ok.bf e2 (Ok.sm (Tw.l (cd := 2) rfl ⟨by decide, Ok.v (Ok.oe (m_sty n0 b0 hn) (Ok.bf (by decide) (Ok.oe (m_wn (lo := 0) (hi := 2) (by decide) (by decide) ?_) (Ok.bt rfl (Ok.o2e rfl (Ok.sm ⟨rfl, h.thr.thr.t (Nat.le_succ t)⟩))))))⟩))
    intro z
    obtain ⟨d, hd, rfl⟩ := zWle (n := 2) (by omega) z
    rcases (show d = 0 ∨ d = 1 ∨ d = 2 by omega) with rfl | rfl | rfl
    · exact e0 rfl
    · exact e1 rfl
    · exact e2 rfl
-- TRAYS
theorem n_tr {S : St} {g : Nat} {x : Int32} (h : ¬ (0 ≤ x ∧ x ≤ 3)) : f_X11_needTray g x S = some (.inl 3, S) := by
  unfold f_X11_needTray bv
  dsimp only
  by_cases h0 : x < 0
  · rw [brp h0]
  · rw [brn h0, brn (fun w => h ⟨Int32.not_lt.mp h0, by
      rw [Int32.lt_iff_toInt_lt] at w
      rw [Int32.le_iff_toInt_le]
      have e3 : (3 : Int32).toInt = 3 := rfl
      have e4 : (4 : Int32).toInt = 4 := rfl
      omega⟩)]
theorem y_tr {S : St} {g n : Nat} (h : n < 4) : f_X11_needTray g (Int32.ofNat n) S = some (.inr (), S) := by
  unfold f_X11_needTray bv
  dsimp only
  rw [brn (zNeg (by omega)), brp (show Int32.ofNat n < 4 from (zL (b := 4) (by omega) (by omega)).mpr h)]
theorem m_trn {S : St} {x : Int32} (h : ¬ (0 ≤ x ∧ x ≤ 3)) : f_X12_isTray x S = some 0 := by
  unfold f_X12_isTray
  rw [m_wn (lo := 0) (hi := 3) (by decide) (by decide) h]; exact ck_t (Or.inl rfl) _
theorem m_try {S : St} {x : Int32} (h : 0 ≤ x ∧ x ≤ 3) : f_X12_isTray x S = some 1 := by
  unfold f_X12_isTray
  rw [m_wy (lo := 0) (hi := 3) (by decide) (by decide) h]; exact ck_t (Or.inr rfl) _
theorem clr_loop {tr m : Nat} {K : St → Option St} (ht : tr < 4) (hm : m ≤ 28) : ∀ (n k : Nat) (S : St), k ≤ m → m - k < n → f_X10_clear_17 0 (Int32.ofNat tr) (Int32.ofNat m) K n (Int32.ofNat k) S = K (al S 53 tr (fun j => if k ≤ j ∧ j < m then 0 else gl S 53 tr j)) := by
  intro n
  induction n with
  | zero => intro k S _ h; omega
  | succ n ih =>
    intro k S hk hn
    rw [f_X10_clear_17]
    by_cases hc : m ≤ k
    · rw [brp ((zLE (by omega) (by omega)).mpr hc)]
      rw [al_ext (f' := gl S 53 tr) (fun j => if_neg (by omega)), al_self]
    · rw [brn (fun w => hc ((zLE (by omega) (by omega)).mp w)), ck_t (ib ht (by omega)), ck_t (ib (by omega) (by omega)), zN (by omega), zN (by omega)]
      show f_X10_clear_17 0 _ _ K n (Int32.ofNat k + 1) (sl S 53 tr k 0) = _
      rw [zp1, ih (k + 1) _ (by omega) (by omega)]
      show K (al (al S 53 tr (vp_updL (gl S 53 tr) k 0)) 53 tr _) = _
      rw [al_al]
      congr 1
      refine al_ext (fun j => ?_)
      rw [show gl (sl S 53 tr k 0) 53 tr j = vp_updL (gl S 53 tr) k 0 j by rw [pgl_sl, if_pos ⟨rfl, rfl⟩]]
      by_cases e : j = k
      · subst e
        rw [if_neg (by omega), updL_eq, if_pos (by omega)]
      · rw [updL_ne e]
        by_cases e2 : k + 1 ≤ j ∧ j < m
        · rw [if_pos e2, if_pos (by omega)]
        · rw [if_neg e2, if_neg (by omega)]
theorem trc_loop {tr : Nat} {K : St → Option St} (ht : tr < 4) : ∀ (n k : Nat) (S : St), k ≤ 28 → 28 - k < n → f_X12_tray_69 0 (Int32.ofNat tr) K n (Int32.ofNat k) S = K (al S 80 0 (fun j => if 28 * tr + k ≤ j ∧ j < 28 * tr + 28 then 0 else gl S 80 0 j)) := by
  intro n
  induction n with
  | zero => intro k S _ h; omega
  | succ n ih =>
    intro k S hk hn
    rw [f_X12_tray_69]
    by_cases hc : 28 ≤ k
    · rw [brp (show (28 : Int32) ≤ Int32.ofNat k from (zLE (a := 28) (by omega) (by omega)).mpr hc)]
      rw [al_ext (f' := gl S 80 0) (fun j => if_neg (by omega)), al_self]
    · rw [brn (show ¬ (28 : Int32) ≤ Int32.ofNat k from fun w => hc ((zLE (a := 28) (by omega) (by omega)).mp w)), show (28 * Int32.ofNat tr + Int32.ofNat k : Int32) = Int32.ofNat (28 * tr + k) by rw [zMu, zAA], ck_t (ib (by omega) (by omega)), zN (by omega)]
      show f_X12_tray_69 0 _ K n (Int32.ofNat k + 1) (sl S 80 0 (28 * tr + k) 0) = _
      rw [zp1, ih (k + 1) _ (by omega) (by omega)]
      show K (al (al S 80 0 (vp_updL (gl S 80 0) (28 * tr + k) 0)) 80 0 _) = _
      rw [al_al]
      congr 1
      refine al_ext (fun j => ?_)
      show (if 28 * tr + (k + 1) ≤ j ∧ j < 28 * tr + 28 then 0 else vp_updL (gl S 80 0) (28 * tr + k) 0 j) = _
      by_cases e : j = 28 * tr + k
      · subst e
        rw [if_neg (by omega), updL_eq, if_pos (by omega)]
      · rw [updL_ne e]
        by_cases e2 : 28 * tr + (k + 1) ≤ j ∧ j < 28 * tr + 28
        · rw [if_pos e2, if_pos (by omega)]
        · rw [if_neg e2, if_neg (by omega)]
/-- the rest of the invariant stands where trays change -/
theorem Inv.tr {t : Nat} {S S' : St} (h : Inv t S) (hf : Fr (fun k x => WS k x ∨ k = 50 ∨ k = 51 ∨ k = 53 ∨ k = 78 ∨ k = 79 ∨ k = 80) S S') (h9 : gi S' 60 0 9 = gi S 60 0 9) (h18 : gi S' 60 0 18 = gi S 60 0 18) (h19 : gi S' 60 0 19 = gi S 60 0 19) (h26 : gl S' 60 0 26 = gl S 60 0 26) (h27 : gl S' 60 0 27 = gl S 60 0 27) (hc : Ctr S') : Inv t S' := by
  have n : ∀ k x, (k = 0 ∨ k = 1 ∨ k = 28 ∨ k = 29 ∨ k = 61 ∨ k = 62 ∨ k = 63 ∨ k = 64 ∨ k = 65 ∨ k = 66) → ¬ (WS k x ∨ k = 50 ∨ k = 51 ∨ k = 53 ∨ k = 78 ∨ k = 79 ∨ k = 80) := by
    intro k x hk hw
    unfold WS Scr at hw
    omega
  obtain ⟨q1, q2, q3, q4, q5⟩ := h
  have ow : ∀ g k x, (WS k x ∨ k = 50 ∨ k = 51 ∨ k = 53 ∨ k = 78 ∨ k = 79 ∨ k = 80) → ¬ own g k x := by
    intro g k x hw
    unfold WS Scr at hw
    unfold own
    omega
  refine ⟨?_, ?_, ?_, ?_, hc⟩
  · rw [(hf 61 0 (n 61 0 (by omega))).1, (hf 63 0 (n 63 0 (by omega))).2.1]
    exact Cr.fr hf (fun k x hw => ow 0 k x hw) q1
  · exact Cim.fr hf (Nat.le_refl _) (fun g k x _ _ hw => ow g k x hw) (n 1 0 (by omega)) (n 62 0 (by omega)) (n 64 0 (by omega)) (n 65 0 (by omega)) q2
  · unfold Crd
    rw [(hf 28 0 (n 28 0 (by omega))).1, (hf 29 0 (n 29 0 (by omega))).1, (hf 66 0 (n 66 0 (by omega))).1, h9, h18, h19]
    exact q3
  · unfold Cfr
    rw [(hf 0 0 (n 0 0 (by omega))).2.1, h26, h27]
    exact q4
theorem pc_35 {t : Nat} {S : St} {a1 a2 a3 a4 a5 : Int32} (h : Inv t S) : Ok (fc_35 (t + 1) a1 a2 a3 a4 a5 S) (Inv (t + 1)) := by
  unfold fc_35 f_L_tray f_X11_tray
  refine tw_v (S := S) ?_
  have bad : ∀ v, Inv (t + 1) (si S 60 0 5 v) := fun v => h.thr.t (Nat.le_succ t)
  by_cases h1 : 0 ≤ a1 ∧ a1 ≤ 3
  rotate_left
  · exact Ok.xl (n_tr h1) (Tw.l (cd := 1) rfl (Ok.oe (m_trn h1) (Ok.v (Ok.bt rfl (Ok.v (Ok.bf (show ¬ (1 : Int32) ≤ 0 by decide) (Ok.sm ⟨rfl, bad 1⟩)))))))
  obtain ⟨n, hn, rfl⟩ := zWle (x := a1) (n := 3) (by omega) h1
  refine Ok.xr (y_tr (by omega)) ?_
  by_cases h2 : 0 ≤ a2 ∧ a2 ≤ 3
  rotate_left
  · exact Ok.xl (n_wi h2) (Tw.l (cd := 2) rfl (Ok.oe (m_try h1) (Ok.v (Ok.bf (by decide) (Ok.oe (m_wn (lo := 0) (hi := 3) (by decide) (by decide) h2) (Ok.v (Ok.bt rfl (Ok.v (Ok.bf (show ¬ (2 : Int32) ≤ 0 by decide) (Ok.sm ⟨rfl, bad 2⟩))))))))))
  refine Ok.xr (y_wi h2) ?_
  by_cases h3 : 0 ≤ a3 ∧ a3 ≤ 28
  rotate_left
  · exact Ok.xl (n_wi h3) (Tw.l (cd := 2) rfl (Ok.oe (m_try h1) (Ok.v (Ok.bf (by decide) (Ok.oe (m_wy (lo := 0) (hi := 3) (by decide) (by decide) h2) (Ok.v (Ok.bf (by decide) (Ok.oe (m_wn (lo := 0) (hi := 28) (by decide) (by decide) h3) (Ok.bt rfl (Ok.v (Ok.bf (show ¬ (2 : Int32) ≤ 0 by decide) (Ok.sm ⟨rfl, bad 2⟩))))))))))))
  obtain ⟨m, hm, rfl⟩ := zWle (x := a3) (n := 28) (by omega) h3
  obtain ⟨so, hso, rfl⟩ := zWle (x := a2) (n := 3) (by omega) h2
  refine Ok.xr (y_wi h3) (Ok.oe (x := al (si (si S 50 0 n (Int32.ofNat so)) 51 0 n (Int32.ofNat m)) 53 n (fun j => if 0 ≤ j ∧ j < m then 0 else gl S 53 n j)) ?_ (Ok.sm (Tw.r ?_)))
  · unfold f_X10_clear bv
    dsimp only
    rw [ck_t (ib (by omega) (by omega)), ck_t (ib (by omega) (by omega)), zN (by omega)]
    exact clr_loop (by omega) hm FU 0 _ (by omega) (by unfold FU; omega)
  · refine Ok.oe (m_try h1) (Ok.v (Ok.bf (by decide) (Ok.oe (m_wy (lo := 0) (hi := 3) (by decide) (by decide) h2) (Ok.v (Ok.bf (by decide) (Ok.oe (m_wy (lo := 0) (hi := 28) (by decide) (by decide) h3) (Ok.bf (by decide) (Ok.v (Ok.bt (show (0 : Int32) ≤ 0 by decide) (Ok.c (ib (by omega) (by omega)) (Ok.v (Ok.c (ib (by omega) (by omega)) (Ok.v ?_)))))))))))))
    rw [zN (by omega)]
    refine Ok.eq (trc_loop (by omega) FU 0 _ (by omega) (by unfold FU; omega)) ⟨rfl, Inv.t (Nat.le_succ t) (h.tr ?_ rfl rfl rfl rfl rfl ?_)⟩
    · exact (((((Fr.si (by omega)).tr (Fr.si (by omega))).tr (Fr.al (by omega))).tr (Fr.si (Or.inl (Or.inr ⟨rfl, rfl⟩)))).tr (Fr.si (by omega))).tr ((Fr.si (by omega)).tr (Fr.al (by omega)))
    · intro t9 ht
      show upd (gi S 50 0) n (Int32.ofNat so) t9 = upd (gi S 78 0) n (Int32.ofNat so) t9 ∧ (upd (gi S 78 0) n (Int32.ofNat so) t9 = -1 ∨ Lt 4 (upd (gi S 78 0) n (Int32.ofNat so) t9)) ∧ ∃ n9, n9 ≤ 28 ∧ upd (gi S 51 0) n (Int32.ofNat m) t9 = Int32.ofNat n9 ∧ upd (gi S 79 0) n (Int32.ofNat m) t9 = Int32.ofNat n9 ∧ ∀ k, k < n9 → (if 53 = 53 ∧ t9 = n then (fun j => if 0 ≤ j ∧ j < m then 0 else gl S 53 n j) else gl S 53 t9) k = (if 28 * n + 0 ≤ 28 * t9 + k ∧ 28 * t9 + k < 28 * n + 28 then 0 else gl S 80 0 (28 * t9 + k))
      by_cases e : t9 = n
      · subst e
        rw [upd_eq, upd_eq, upd_eq, upd_eq, if_pos ⟨rfl, rfl⟩]
        refine ⟨rfl, Or.inr ⟨so, by omega, rfl⟩, m, hm, rfl, rfl, fun k hk => ?_⟩
        rw [if_pos (by omega)]
        exact (if_pos (by omega)).symm
      · rw [upd_ne e, upd_ne e, upd_ne e, upd_ne e, if_neg (fun z => e z.2)]
        obtain ⟨q1, q2, n9, q3, q4, q5, q6⟩ := h.2.2.2.2 t9 ht
        exact ⟨q1, q2, n9, q3, q4, q5, fun k hk => by rw [if_neg (by omega)]; exact q6 k hk⟩
