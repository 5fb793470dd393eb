-- WRITE: a number cut to a tray's kind
theorem cut_gen (v : BitVec 64) (k : Nat) (hk : k ≤ 64) (h0 : 0 < k) : ((v.setWidth k).signExtend 64) = (v <<< (64 - k)).sshiftRight (64 - k) := by
  ext i hi
  rw [BitVec.getElem_signExtend, BitVec.getElem_sshiftRight]
  have hm : (v.setWidth k).msb = v.getLsbD (k - 1) := by
    rw [BitVec.msb_eq_getLsbD_last, BitVec.getLsbD_setWidth]; simp; omega
  have hn : (v <<< (64 - k)).msb = v.getLsbD (k - 1) := by
    rw [BitVec.msb_eq_getLsbD_last, BitVec.getLsbD_shiftLeft]
    have : 64 - 1 - (64 - k) = k - 1 := by omega
    rw [this]; simp; omega
  rw [hm, hn]
  by_cases h : i < k
  · rw [dif_pos h, dif_pos (by omega), BitVec.getElem_setWidth, BitVec.getElem_shiftLeft]
    have h1 : ¬ 64 - k + i < 64 - k := by omega
    have : 64 - k + i - (64 - k) = i := by omega
    simp [this, BitVec.getLsbD_eq_getElem hi]
  · rw [dif_neg h, dif_neg (by omega)]
theorem cut_8 (v : Int64) : (v.toInt32.toInt8.toInt32).toInt64 = (v <<< (56 : Int64)) >>> (56 : Int64) := by
  apply Int64.toBitVec_inj.mp
  have e : ((v <<< (56 : Int64)) >>> (56 : Int64)).toBitVec = (v.toBitVec <<< 56).sshiftRight 56 := rfl
  rw [e, ← cut_gen v.toBitVec 8 (by omega) (by omega)]
  apply BitVec.eq_of_toInt_eq
  show ((v.toInt32.toInt8.toInt32).toInt64).toInt = _
  rw [Int32.toInt_toInt64, Int8.toInt_toInt32, Int32.toInt_toInt8, Int64.toInt_toInt32, BitVec.toInt_signExtend_of_le (by omega), BitVec.toInt_setWidth]
  show _ = (v.toBitVec.toNat : Int).bmod 256
  have : v.toInt = (v.toBitVec.toNat : Int).bmod (2 ^ 64) := BitVec.toInt_eq_toNat_bmod _
  rw [this]
  simp only [Int.bmod_def]
  omega
theorem cut_16 (v : Int64) : (v.toInt32.toInt16.toInt32).toInt64 = (v <<< (48 : Int64)) >>> (48 : Int64) := by
  apply Int64.toBitVec_inj.mp
  have e : ((v <<< (48 : Int64)) >>> (48 : Int64)).toBitVec = (v.toBitVec <<< 48).sshiftRight 48 := rfl
  rw [e, ← cut_gen v.toBitVec 16 (by omega) (by omega)]
  apply BitVec.eq_of_toInt_eq
  show ((v.toInt32.toInt16.toInt32).toInt64).toInt = _
  rw [Int32.toInt_toInt64, Int16.toInt_toInt32, Int32.toInt_toInt16, Int64.toInt_toInt32, BitVec.toInt_signExtend_of_le (by omega), BitVec.toInt_setWidth]
  show _ = (v.toBitVec.toNat : Int).bmod 65536
  have : v.toInt = (v.toBitVec.toNat : Int).bmod (2 ^ 64) := BitVec.toInt_eq_toNat_bmod _
  rw [this]
  simp only [Int.bmod_def]
  omega
theorem cut_32 (v : Int64) : (v.toInt32).toInt64 = (v <<< (32 : Int64)) >>> (32 : Int64) := by
  apply Int64.toBitVec_inj.mp
  have e : ((v <<< (32 : Int64)) >>> (32 : Int64)).toBitVec = (v.toBitVec <<< 32).sshiftRight 32 := rfl
  rw [e, ← cut_gen v.toBitVec 32 (by omega) (by omega)]
  apply BitVec.eq_of_toInt_eq
  show ((v.toInt32).toInt64).toInt = _
  rw [Int32.toInt_toInt64, Int64.toInt_toInt32, BitVec.toInt_signExtend_of_le (by omega), BitVec.toInt_setWidth]
  show _ = (v.toBitVec.toNat : Int).bmod 4294967296
  have : v.toInt = (v.toBitVec.toNat : Int).bmod (2 ^ 64) := BitVec.toInt_eq_toNat_bmod _
  rw [this]
  simp only [Int.bmod_def]
  omega
theorem cut_64 (v : Int64) : v = (v <<< (0 : Int64)) >>> (0 : Int64) := by
  apply Int64.toBitVec_inj.mp
  have e : ((v <<< (0 : Int64)) >>> (0 : Int64)).toBitVec = (v.toBitVec <<< 0).sshiftRight 0 := rfl
  rw [e, BitVec.shiftLeft_zero, BitVec.sshiftRight_zero]
theorem e_cut {d : Nat} (hd : d < 4) (v : Int64) (S : St) : f_X10_cut (Int32.ofNat d) v S = some (srL (slL v (64 - ((8 : Int32) <<< (Int32.ofNat d &&& 31)))) (64 - ((8 : Int32) <<< (Int32.ofNat d &&& 31)))) := by
  unfold f_X10_cut
  rcases (show d = 0 ∨ d = 1 ∨ d = 2 ∨ d = 3 by omega) with rfl | rfl | rfl | rfl
  · rw [brp (by decide)]
    exact congrArg some (cut_8 v)
  · rw [brn (by decide), brp (by decide)]
    exact congrArg some (cut_16 v)
  · rw [brn (by decide), brn (by decide), brp (by decide)]
    exact congrArg some (cut_32 v)
  · rw [brn (by decide), brn (by decide), brn (by decide)]
    exact congrArg some (cut_64 v)
-- CASE write
theorem pc_36 {t : Nat} {S : St} {a1 a2 a3 a4 a5 : Int32} (h : Inv t S) : Ok (fc_36 (t + 1) a1 a2 a3 a4 a5 S) (Inv (t + 1)) := by
  unfold fc_36 f_L_write f_X11_write
  refine Ok.v (Ok.k2 (fun r S5 => bvE _ _) (tw_l (S := S) ?_))
  generalize (slL (Int32.toInt64 a3) 32 ||| ((Int32.toInt64 a4) &&& 4294967295)) = w
  by_cases ht : 0 ≤ a1 ∧ a1 ≤ 3
  case neg => exact Ok.xl (n_tr ht) (Tw.l (cd := 1) rfl ⟨by decide, Ok.v (Ok.oe (m_trn ht) (Ok.bt rfl (Ok.o2e rfl (Ok.sm ⟨rfl, pf_bad h.thr⟩))))⟩)
  obtain ⟨tr, ht1, rfl⟩ := zWle (n := 3) (by omega) ht
  have ht4 : tr < 4 := by omega
  have zt : nn (Int32.ofNat tr) = tr := zN (by omega)
  refine Ok.xr (y_tr ht4) ?_
  obtain ⟨r1, r2, n, hn, r3, r4, r5⟩ := h.2.2.2.2 tr ht4
  by_cases hf : gi S 78 0 tr = -1
  · refine Ok.xl (fi_n ht4 (by rw [r1]; exact hf)) (Tw.l (cd := 2) rfl ⟨by decide, Ok.v (Ok.oe (m_try ht) (Ok.bf (by decide) (Ok.c (ib ht4 (by omega)) (Ok.bt ?_ (Ok.o2e rfl (Ok.sm ⟨rfl, pf_bad h.thr⟩))))))⟩)
    rw [zt]; exact hf
  refine Ok.xr (fi_y ht4 (by rw [r1]; exact hf)) (Ok.v ?_)
  have wi : ∀ Z : St, gi Z 79 0 = gi S 79 0 → f_X12_within a2.toInt64 0 (Int32.toInt64 ((gi Z 79 0 tr) - 1)) Z = some (if ¬ a2 < 0 ∧ a2 < Int32.ofNat n then 1 else 0) := by
    intro Z e
    rw [e, r4, e_wi (a := 0) (lo := 0) (hi := Int32.ofNat n - 1) (by decide) rfl]
    congr 1
    have e9 : (0 ≤ a2 ∧ a2 ≤ Int32.ofNat n - 1) ↔ (¬ a2 < 0 ∧ a2 < Int32.ofNat n) := by
      rw [Int32.not_lt]
      refine and_congr Iff.rfl ?_
      rw [Int32.le_iff_toInt_le, Int32.lt_iff_toInt_lt, zI (show n < 2147483648 by omega)]
      have : (Int32.ofNat n - 1).toInt = (n : Int) - 1 := by
        rw [Int32.toInt_sub, zI (show n < 2147483648 by omega)]
        show ((n : Int) - 1).bmod (2 ^ 32) = _
        rw [Int.bmod_def]; omega
      rw [this]; omega
    by_cases hc : 0 ≤ a2 ∧ a2 ≤ Int32.ofNat n - 1
    · rw [if_pos hc, if_pos (e9.mp hc)]
    · rw [if_neg hc, if_neg (fun z => hc (e9.mpr z))]
  by_cases hx : ¬ a2 < 0 ∧ a2 < Int32.ofNat n
  case neg =>
    have bad : Ok (f_X12_write 0 (Int32.ofNat tr) a2 w S) (fun o => gi o.2 60 0 5 = 3 ∧ Inv (t + 1) o.2) := by
      refine Ok.v (Ok.oe (m_try ht) (Ok.bf (by decide) (Ok.c (ib ht4 (by omega)) (Ok.bf ?_ (Ok.c (ib ht4 (by omega)) ?_)))))
      · rw [zt]; exact hf
      · rw [zt]
        exact Ok.oe (wi (si S 60 0 5 0) rfl) (Ok.bt (if_neg hx) (Ok.o2e rfl (Ok.sm ⟨rfl, pf_bad h.thr⟩)))
    by_cases hz : a2 < 0
    · exact Ok.bt hz (Ok.sm (Tw.l (cd := 3) rfl ⟨by decide, bad⟩))
    · refine Ok.bf hz (Ok.c (ib ht4 (by omega)) (Ok.bf ?_ (Ok.sm (Tw.l (cd := 3) rfl ⟨by decide, bad⟩))))
      rw [zt, r3]; exact fun z => hx ⟨hz, z⟩
  obtain ⟨k, hk, rfl⟩ := zW (x := a2) (n := n) (by omega) hx.1 hx.2
  have zk : nn (Int32.ofNat k) = k := zN (by omega)
  refine Ok.bf hx.1 (Ok.c (ib ht4 (by omega)) (Ok.bt (by rw [zt, r3]; exact hx.2) ?_))
  obtain ⟨d, hd, ed⟩ := r2.resolve_left hf
  have pt : f_X10_put 0 (Int32.ofNat tr) (Int32.ofNat k) w S = some (srL (slL w (64 - ((8 : Int32) <<< (Int32.ofNat d &&& 31)))) (64 - ((8 : Int32) <<< (Int32.ofNat d &&& 31))), sl S 53 tr k (srL (slL w (64 - ((8 : Int32) <<< (Int32.ofNat d &&& 31)))) (64 - ((8 : Int32) <<< (Int32.ofNat d &&& 31))))) := by
    unfold f_X10_put
    rw [ck_t (ib ht4 (by omega)), ck_t (ib ht4 (by omega)), zt, r1, ed, e_cut hd]
    unfold on
    dsimp only
    rw [ck_t (ib (by omega) (by omega)), bvE, ck_t (ib ht4 (by omega)), ck_t (ib (by omega) (by omega)), zk]
    congr 2
    rw [pgl_sl, if_pos ⟨rfl, rfl⟩, updL_eq]
  obtain ⟨q, eq⟩ : ∃ q, srL (slL w (64 - ((8 : Int32) <<< (Int32.ofNat d &&& 31)))) (64 - ((8 : Int32) <<< (Int32.ofNat d &&& 31))) = q := ⟨_, rfl⟩
  rw [eq] at pt
  refine Ok.o2e pt (Ok.sm (Tw.r ?_))
  refine Ok.v (Ok.oe (m_try ht) (Ok.bf (by decide) (Ok.c (ib ht4 (by omega)) (Ok.bf (by rw [zt]; exact hf) (Ok.c (ib ht4 (by omega)) ?_)))))
  rw [zt, zMu, zAA]
  refine Ok.oe (wi (si (sl (sl S 53 tr k q) 81 0 (nn 0) q) 60 0 5 0) rfl) (Ok.bf (by rw [if_pos hx]; decide) (Ok.c (ib ht4 (by omega)) (Ok.v (Ok.v (Ok.ve (x := q) ?_ (Ok.c (ib (by omega) (by omega)) (Ok.v (Ok.c (ib (by omega) (by omega)) (Ok.sm ⟨rfl, ?_, rfl, ?_⟩)))))))))
  · show srL (slL w (64 - ((8 : Int32) <<< (gi S 78 0 tr &&& 31)))) (64 - ((8 : Int32) <<< (gi S 78 0 tr &&& 31))) = q
    rw [ed]; exact eq
  · rw [zN (by omega)]
    show vp_updL (gl S 80 0) (28 * tr + k) q (28 * tr + k) = q
    exact updL_eq
  · rw [zN (by omega)]
    refine Inv.t (Nat.le_succ t) (h.tr (S' := sl (si (sl (sl S 53 tr k q) 81 0 (nn 0) q) 60 0 5 0) 80 0 (28 * tr + k) q) ?_ rfl rfl rfl rfl rfl ?_)
    · refine (Fr.sl ?_).tr ((Fr.sl ?_).tr ((Fr.si ?_).tr (Fr.sl ?_)))
      · exact Or.inr (by omega)
      · exact Or.inl (Or.inl (by unfold Scr; omega))
      · exact Or.inl (Or.inr ⟨rfl, rfl⟩)
      · exact Or.inr (by omega)
    · intro t' ht'
      obtain ⟨u1, u2, m, hm, u3, u4, u5⟩ := h.2.2.2.2 t' ht'
      refine ⟨u1, u2, m, hm, u3, u4, fun k' hk' => ?_⟩
      show gl (sl S 53 tr k q) 53 t' k' = vp_updL (gl S 80 0) (28 * tr + k) q (28 * t' + k')
      rw [pgl_sl]
      by_cases e : t' = tr
      · subst e
        rw [if_pos ⟨rfl, rfl⟩]
        by_cases e2 : k' = k
        · rw [e2, updL_eq, updL_eq]
        · rw [updL_ne e2, updL_ne (by omega)]; exact u5 k' hk'
      · rw [if_neg (fun z => e z.2), updL_ne (by omega)]; exact u5 k' hk'
