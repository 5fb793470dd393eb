-- more numbers
theorem zD {a b : Nat} (ha : a < 2147483648) (hb : b < 2147483648) : Int32.ofNat a / Int32.ofNat b = Int32.ofNat (a / b) := by
  rw [← Int32.toInt_inj, Int32.toInt_div, zI ha, zI hb, zI (Nat.lt_of_le_of_lt (Nat.div_le_self a b) ha), Int.tdiv_eq_ediv_of_nonneg (by omega)]
  rw [show ((a : Int) / (b : Int)) = ((a / b : Nat) : Int) from rfl]
  have := Nat.div_le_self a b
  generalize a / b = q at *
  rw [Int.bmod_def]
  omega
theorem zR {a b : Nat} (ha : a < 2147483648) (hb : b < 2147483648) : rmI (Int32.ofNat a) (Int32.ofNat b) = Int32.ofNat (a % b) := by
  show Int32.ofNat a - Int32.ofNat a / Int32.ofNat b * Int32.ofNat b = _
  rw [zD ha hb, ← Int32.ofNat_mul, zS _ (Nat.div_mul_le_self a b)]
  congr 1
  have := Nat.div_add_mod a b
  rw [Nat.mul_comm] at this
  omega
theorem zNeg {n : Nat} (h : n < 2147483648) : ¬ Int32.ofNat n < 0 := by
  rw [Int32.lt_iff_toInt_lt, zI h]; show ¬ (n : Int) < 0; omega
theorem zGe {n : Nat} (h : n < 2147483648) : 0 ≤ Int32.ofNat n := Int32.not_lt.mp (zNeg h)
theorem zNe {n : Nat} (h : n < 2147483648) : Int32.ofNat n ≠ -1 := fun e => by
  have := congrArg Int32.toInt e
  rw [zI h] at this
  have e1 : (-1 : Int32).toInt = -1 := rfl
  omega
theorem zSub1 {n : Nat} (h : 0 < n) : Int32.ofNat n - 1 = Int32.ofNat (n - 1) := zS 1 h
-- rows of boards
/-- the board of hour x: ahead of the first one, the first prices -/
def bd (T : Nat → Int32) (x s : Nat) : Int32 := T (1885 + 4 * (x % 256) + s)
section BD
variable {S : St} {g N h : Nat} {T : Nat → Int32}
theorem at_h (cap : gi S 14 (2 * g) 0 = 256) (len : gn S 15 (2 * g) = 1024) (q : Chr N h (gi S 15 (2 * g)) (gi S 16 (2 * g)) T) (hN : N ≤ 4) (hh : h ≤ 3000) {s t : Nat} (hs : s < N) (ht : t < h) : f_X0_at (2 * g) (Int32.ofNat s) (Int32.ofNat t) S = some (bd T t s) := by
  unfold f_X0_at bv
  dsimp only
  have e : rmI (Int32.ofNat t) (gi S 14 (2 * g) 0) = Int32.ofNat (t % 256) := by rw [cap]; exact zR (a := t) (b := 256) (by omega) (by omega)
  have e2 : rmI (Int32.ofNat t) (gi S 14 (2 * g) 0) * 4 + Int32.ofNat s = Int32.ofNat (4 * (t % 256) + s) := by
    rw [e, zMu', zAA]; congr 1; omega
  rw [brp (zGe (by omega)), ck_t (by rw [cap]; decide), e2, len, ck_t (ib (by omega) (by omega)), zN (by omega)]
  exact congrArg some (q.2.1 (t % 256) s (by omega) (by omega) hs).1
theorem at_n (q : Chr N h (gi S 15 (2 * g)) (gi S 16 (2 * g)) T) (hN : N ≤ 4) {s : Nat} {x : Int32} (hs : s < N) (hx : x < 0) : f_X0_at (2 * g) (Int32.ofNat s) x S = some (T (20 + s)) := by
  unfold f_X0_at bv
  dsimp only
  rw [brn (Int32.not_le.mpr hx), ck_t (ib (by omega) (by omega)), zN (by omega)]
  exact congrArg some (q.1 s hs).1
theorem pn_h (cap : gi S 14 (2 * g) 0 = 256) (len : gn S 15 (2 * g) = 1024) (rw_ : gi S 14 (2 * g) 3 = Int32.ofNat h) (q : Chr N h (gi S 15 (2 * g)) (gi S 16 (2 * g)) T) (hN : N ≤ 4) (hh : h ≤ 3000) {s : Nat} (hs : s < N) : f_X2_priceNow g (Int32.ofNat s) S = some (T (12 + s)) := by
  unfold f_X2_priceNow
  rw [rw_, q.2.2 s hs]
  by_cases h0 : h = 0
  · subst h0
    rw [if_pos rfl, at_n q hN hs (by decide)]; rfl
  · rw [if_neg h0, zSub1 (by omega), at_h cap len q hN hh hs (by omega)]; rfl
theorem e_boardOf {s t : Nat} (hs : s < 4) (ht : t < 3000) : f_X12_boardOf 0 (Int32.ofNat s) (Int32.ofNat t) S = some (bd (gi S 61 0) t s) := by
  unfold f_X12_boardOf bv
  dsimp only
  have e2 : 1885 + 4 * rmI (Int32.ofNat t) 256 + Int32.ofNat s = Int32.ofNat (1885 + 4 * (t % 256) + s) := by
    rw [show rmI (Int32.ofNat t) 256 = Int32.ofNat (t % 256) from zR (a := t) (b := 256) (by omega) (by omega), zMu, zA, zAA]
  rw [e2, ck_t (ib (by omega) (by omega)), zN (by omega)]; rfl
theorem e_kept (cap : gi S 14 (2 * g) 0 = 256) (rw_ : gi S 14 (2 * g) 3 = Int32.ofNat h) (hh : h ≤ 3000) : f_X0_kept (2 * g) S = some (Int32.ofNat (min h 256)) := by
  unfold f_X0_kept bv
  dsimp only
  rw [rw_, cap, show (256 : Int32) = Int32.ofNat 256 from rfl, zmn (by omega) (by omega)]
theorem e_first (cap : gi S 14 (2 * g) 0 = 256) (rw_ : gi S 14 (2 * g) 3 = Int32.ofNat h) (hh : h ≤ 3000) : f_X0_first (2 * g) S = some (Int32.ofNat (h - 256)) := by
  unfold f_X0_first
  rw [e_kept cap rw_ hh, rw_]
  show some (Int32.ofNat h - Int32.ofNat (min h 256)) = _
  rw [zS _ (Nat.min_le_left _ _), show h - min h 256 = h - 256 by omega]
/-- is the board of hour x kept -/
def kp (h : Nat) (x : Int32) : Prop := ¬ x < Int32.ofNat (h - 256) ∧ x < Int32.ofNat h
theorem e_has (cap : gi S 14 (2 * g) 0 = 256) (rw_ : gi S 14 (2 * g) 3 = Int32.ofNat h) (hh : h ≤ 3000) {x : Int32} : (kp h x → f_X0_has (2 * g) x S = some 1) ∧ (¬ kp h x → f_X0_has (2 * g) x S = some 0) := by
  unfold f_X0_has bv
  rw [e_first cap rw_ hh, rw_]
  dsimp only [on]
  constructor
  · intro hk
    rw [brn hk.1, brn (Int32.not_le.mpr hk.2)]
    exact ck_t (Or.inr rfl) _
  · intro hk
    by_cases h1 : x < Int32.ofNat (h - 256)
    · rw [brp h1]
      exact ck_t (Or.inl rfl) _
    · rw [brn h1, brp (Int32.not_lt.mp (fun h2 => hk ⟨h1, h2⟩))]
      exact ck_t (Or.inl rfl) _
theorem mx0 {h : Nat} (hh : h ≤ 3000) : mxI 0 (Int32.ofNat h - 256) = Int32.ofNat (h - 256) := by
  have e : (Int32.ofNat h - 256).toInt = (h : Int) - 256 := by
    rw [Int32.toInt_sub, zI (show h < 2147483648 by omega)]
    show ((h : Int) - 256).bmod (2 ^ 32) = _
    rw [Int.bmod_def]; omega
  rw [← Int32.toInt_inj, zI (by omega)]
  show (if (0 : Int32) < Int32.ofNat h - 256 then Int32.ofNat h - 256 else 0).toInt = _
  by_cases hc : (0 : Int32) < Int32.ofNat h - 256
  · rw [if_pos hc, e]
    rw [Int32.lt_iff_toInt_lt, e] at hc
    have hc : (0 : Int) < (h : Int) - 256 := hc
    omega
  · rw [if_neg hc]
    rw [Int32.lt_iff_toInt_lt, e] at hc
    have hc : ¬ (0 : Int) < (h : Int) - 256 := hc
    show (0 : Int) = _
    omega
theorem e_isBoard (n2 : gi S 61 0 2 = Int32.ofNat h) (hh : h ≤ 3000) {x : Int32} : (kp h x → f_X12_isBoard 0 x S = some 1) ∧ (¬ kp h x → f_X12_isBoard 0 x S = some 0) := by
  have hi : ∀ y : Int32, (y ≤ Int32.ofNat h - 1) ↔ y < Int32.ofNat h := fun y => by
    rw [Int32.le_iff_toInt_le, Int32.lt_iff_toInt_lt, zI (show h < 2147483648 by omega)]
    have : (Int32.ofNat h - 1).toInt = (h : Int) - 1 := by
      rw [Int32.toInt_sub, zI (show h < 2147483648 by omega)]
      show ((h : Int) - 1).bmod (2 ^ 32) = _
      rw [Int.bmod_def]; omega
    rw [this]; omega
  unfold f_X12_isBoard bv
  rw [ck_t (by decide), show gi S 61 0 (nn 2) = Int32.ofNat h from n2, mx0 hh]
  dsimp only
  rw [ck_t (by decide), e_wi (lo := Int32.ofNat (h - 256)) (hi := Int32.ofNat h - 1) rfl rfl]
  constructor
  · intro hk
    rw [if_pos ⟨Int32.not_lt.mp hk.1, (hi x).mpr hk.2⟩]
    exact ck_t (Or.inr rfl) _
  · intro hk
    rw [if_neg (fun z => hk ⟨Int32.not_lt.mpr z.1, (hi x).mp z.2⟩)]
    exact ck_t (Or.inl rfl) _
theorem kp_nat {h : Nat} (hh : h ≤ 3000) {x : Int32} (hk : kp h x) : ∃ d, d < h ∧ h ≤ d + 256 ∧ x = Int32.ofNat d := by
  obtain ⟨d, hd, rfl⟩ := zW (x := x) (n := h) (by omega) (fun z => by
    have h1 := hk.1
    rw [Int32.lt_iff_toInt_lt, zI (by omega)] at h1
    rw [Int32.lt_iff_toInt_lt] at z
    have z : x.toInt < 0 := z
    omega) hk.2
  refine ⟨d, hd, ?_, rfl⟩
  have h1 := hk.1
  rw [zL (by omega) (by omega)] at h1
  omega
end BD
-- CASES price, board
theorem pc_9 {t : Nat} {S : St} {a1 a2 a3 a4 a5 : Int32} (h : Inv t S) : Ok (fc_9 (t + 1) a1 a2 a3 a4 a5 S) (Inv (t + 1)) := by
  unfold fc_9 f_L_price f_X11_price
  refine tw_i (S := S) ?_
  obtain ⟨⟨N, D, hh, lv, ri, to, ch, c1, c2, c3, c4, c5, c6, -⟩, -⟩ := id h
  have b0 := c1.1.2
  by_cases hs : a1 < 0 ∨ ¬ a1 < Int32.ofNat N
  · exact Ok.xl (n_st c2.1 hs) (Tw.l (cd := 1) rfl ⟨by decide, Ok.v (Ok.oe (m_stn c1.1.1 b0 hs) (Ok.v (Ok.bt rfl (Ok.o2e rfl (Ok.sm ⟨rfl, (h.thr.thr).t (Nat.le_succ t)⟩)))))⟩)
  · obtain ⟨n, hn, rfl⟩ := or_st b0 hs
    refine Ok.xr (y_st c2.1 b0 hn) (Ok.oe (pn_h (g := 0) c2.2.2.2.2.2.2.2.1 c2.2.2.2.2.2.2.2.2.2.1 c2.2.2.1 c6 b0 c1.2.2.1.2 hn) (Ok.sm (Tw.r ?_)))
    refine Ok.v (Ok.oe (m_sty c1.1.1 b0 hn) (Ok.v (Ok.bf (by decide) (Ok.c (ibA (by omega) (by omega)) (Ok.sm ⟨rfl, ?_, rfl, h.out.thr.t (Nat.le_succ t)⟩)))))
    show gi S 61 0 (nn (12 + Int32.ofNat n)) = gi S 61 0 (12 + n)
    rw [nA (by omega)]
theorem pc_10 {t : Nat} {S : St} {a1 a2 a3 a4 a5 : Int32} (h : Inv t S) : Ok (fc_10 (t + 1) a1 a2 a3 a4 a5 S) (Inv (t + 1)) := by
  unfold fc_10 f_L_board f_X11_board
  refine tw_i (S := S) ?_
  obtain ⟨⟨N, D, hh, lv, ri, to, ch, c1, c2, c3, c4, c5, c6, -⟩, -⟩ := id h
  have b0 := c1.1.2
  have cap := c2.2.2.2.2.2.2.2.1
  have len := c2.2.2.2.2.2.2.2.2.2.1
  have b2 := c1.2.2.1.2
  by_cases hs : a1 < 0 ∨ ¬ a1 < Int32.ofNat N
  · exact Ok.xl (n_st c2.1 hs) (Tw.l (cd := 1) rfl ⟨by decide, Ok.v (Ok.oe (m_stn c1.1.1 b0 hs) (Ok.v (Ok.v (Ok.bt rfl (Ok.o2e rfl (Ok.sm ⟨rfl, (h.thr.thr).t (Nat.le_succ t)⟩))))))⟩)
  · obtain ⟨n, hn, rfl⟩ := or_st b0 hs
    refine Ok.xr (y_st c2.1 b0 hn) ?_
    by_cases hk : kp hh a2
    · refine Ok.oe ((e_has (g := 0) cap c2.2.2.1 b2).1 hk) (Ok.bf (by decide) ?_)
      obtain ⟨d, hd, -, rfl⟩ := kp_nat b2 hk
      refine Ok.oe (at_h (g := 0) cap len c6 b0 b2 hn hd) (Ok.sm (Tw.r ?_))
      exact Ok.v (Ok.oe (m_sty c1.1.1 b0 hn) (Ok.v (Ok.v (Ok.bf (by decide) (Ok.oe ((e_isBoard (S := si (sl S 81 0 (nn 0) _) 60 0 5 0) c1.2.2.1.1 b2).1 hk) (Ok.bf (by decide) (Ok.oe (e_boardOf (by omega) (by omega)) (Ok.sm ⟨rfl, rfl, rfl, h.out.thr.t (Nat.le_succ t)⟩))))))))
    · refine Ok.oe ((e_has (g := 0) cap c2.2.2.1 b2).2 hk) (Ok.bt rfl (Ok.sm (Tw.l (cd := 1) rfl ⟨by decide, ?_⟩)))
      exact Ok.v (Ok.oe (m_sty c1.1.1 b0 hn) (Ok.v (Ok.v (Ok.bf (by decide) (Ok.oe ((e_isBoard (S := si S 60 0 5 0) c1.2.2.1.1 b2).2 hk) (Ok.bt rfl (Ok.o2e rfl (Ok.sm ⟨rfl, (h.thr.thr).t (Nat.le_succ t)⟩))))))))
