-- FEED: bytes of words
theorem lo8 (x : BitVec 32) (s : Nat) (hs : s + 8 ≤ 32) : (x.sshiftRight s).setWidth 8 = ((x >>> s) &&& 255#32).setWidth 8 := by
  ext i hi
  simp only [BitVec.getElem_setWidth, BitVec.getLsbD_sshiftRight, BitVec.getLsbD_and, BitVec.getLsbD_ushiftRight]
  have h255 : (255#32).getLsbD i = true := by
    have : ∀ i : Fin 8, (255#32).getLsbD i.val = true := by decide
    exact this ⟨i, hi⟩
  rw [h255]
  have h1 : s + i < 32 := by omega
  have h2 : ¬ 32 ≤ i := by omega
  simp [h1, h2]
theorem by_eq (x : Int32) : ∀ d, d < 4 → vp_nar .byte (tb (x >>> (Int32.ofNat (24 - 8 * d) &&& 31))) = vp_nar .byte ((usI x (Int32.ofNat (24 - 8 * d))) &&& 255) ∧ Lt 256 ((usI x (Int32.ofNat (24 - 8 * d))) &&& 255) := by
  intro d hd
  have key : ∀ s : Nat, s + 8 ≤ 32 → ∀ a b : Int32, a.toBitVec = x.toBitVec.sshiftRight s → b.toBitVec = (x.toBitVec >>> s) &&& 255#32 → vp_nar .byte (tb a) = vp_nar .byte b ∧ Lt 256 b := by
    intro s hs a b ea eb
    have e8 : a.toInt8 = b.toInt8 := by
      apply Int8.toBitVec_inj.mp
      show a.toBitVec.signExtend 8 = b.toBitVec.signExtend 8
      rw [BitVec.signExtend_eq_setWidth_of_le _ (by omega), BitVec.signExtend_eq_setWidth_of_le _ (by omega), ea, eb, lo8 _ s hs]
    refine ⟨?_, ?_⟩
    · show (a.toInt8.toInt32).toInt8.toInt32 = b.toInt8.toInt32
      rw [Int8.toInt8_toInt32, e8]
    · have lt : b.toBitVec.toNat < 256 := by
        rw [eb, BitVec.toNat_and]
        exact Nat.lt_of_le_of_lt Nat.and_le_right (by decide)
      refine ⟨b.toBitVec.toNat, lt, ?_⟩
      rw [← Int32.toInt_inj, zI (by omega)]
      show b.toBitVec.toInt = _
      rw [BitVec.toInt_eq_toNat_of_lt (by omega)]
  rcases (show d = 0 ∨ d = 1 ∨ d = 2 ∨ d = 3 by omega) with rfl | rfl | rfl | rfl
  · exact key 24 (by omega) _ _ rfl rfl
  · exact key 16 (by omega) _ _ rfl rfl
  · exact key 8 (by omega) _ _ rfl rfl
  · exact key 0 (by omega) _ _ rfl rfl
def wd (x1 x2 x3 x4 x5 : Int32) (w : Nat) : Int32 := if w = 0 then x1 else if w = 1 then x2 else if w = 2 then x3 else if w = 3 then x4 else x5
/-- class's byte i, n0 bytes before -/
def fB (S0 : St) (x : Nat → Int32) (n0 i : Nat) : Int32 := if i < n0 then gi S0 29 0 i else vp_nar .byte (tb (x ((i - n0) / 4) >>> (Int32.ofNat (24 - 8 * ((i - n0) % 4)) &&& 31)))
def fC (S0 : St) (x : Nat → Int32) (n0 i : Nat) : Int32 := if i < n0 then gi S0 66 0 i else (usI (x ((i - n0) / 4)) (Int32.ofNat (24 - 8 * ((i - n0) % 4)))) &&& 255
def Pc (S0 : St) (x : Nat → Int32) (n0 : Nat) (S : St) (n : Nat) : Prop := Fr (fun k x => (k = 28 ∨ k = 29) ∧ x = 0) S0 S ∧ (∀ j, j ≠ 1 → gi S 28 0 j = gi S0 28 0 j) ∧ gi S 28 0 1 = Int32.ofNat n ∧ ∀ i, i < n → gi S 29 0 i = fB S0 x n0 i
def Pm (S0 : St) (x : Nat → Int32) (n0 : Nat) (S : St) (n : Nat) : Prop := Fr (fun k x => (k = 60 ∨ k = 66) ∧ x = 0) S0 S ∧ ((∀ j, j ≠ 9 → gi S 60 0 j = gi S0 60 0 j) ∧ gl S 60 0 = gl S0 60 0) ∧ gi S 60 0 9 = Int32.ofNat n ∧ ∀ i, i < n → gi S 66 0 i = fC S0 x n0 i
section FE
variable {S0 S : St} {x : Nat → Int32} {n0 n : Nat}
theorem Pc.add (h : Pc S0 x n0 S n) {v : Int32} (hv : v = fB S0 x n0 n) : Pc S0 x n0 (si (si S 29 0 n v) 28 0 1 (Int32.ofNat (n + 1))) (n + 1) := by
  refine ⟨h.1.tr ((Fr.si ⟨Or.inr rfl, rfl⟩).tr (Fr.si ⟨Or.inl rfl, rfl⟩)), fun j hj => ?_, rfl, fun i hi => ?_⟩
  · show upd (gi S 28 0) 1 _ j = _
    rw [upd_ne hj]; exact h.2.1 j hj
  · show upd (gi S 29 0) n v i = _
    by_cases e : i = n
    · rw [e, upd_eq, hv]
    · rw [upd_ne e]; exact h.2.2.2 i (by omega)
theorem Pm.add (h : Pm S0 x n0 S n) {v : Int32} (hv : v = fC S0 x n0 n) : Pm S0 x n0 (si (si S 66 0 n v) 60 0 9 (Int32.ofNat (n + 1))) (n + 1) := by
  refine ⟨h.1.tr ((Fr.si ⟨Or.inr rfl, rfl⟩).tr (Fr.si ⟨Or.inl rfl, rfl⟩)), ⟨fun j hj => ?_, h.2.1.2⟩, rfl, fun i hi => ?_⟩
  · show upd (gi S 60 0) 9 _ j = _
    rw [upd_ne hj]; exact h.2.1.1 j hj
  · show upd (gi S 66 0) n v i = _
    by_cases e : i = n
    · rw [e, upd_eq, hv]
    · rw [upd_ne e]; exact h.2.2.2 i (by omega)
theorem ap_step {K : St → Option St} {m s : Nat} {y : Int32} (hs : s < 32) (e : gi S 28 0 1 = Int32.ofNat n) (hn : n < 400) : f_X9_append_3 0 y K (m + 1) (Int32.ofNat s) S = f_X9_append_3 0 y K m (Int32.ofNat s + -8) (si (si S 29 0 n (vp_nar .byte (tb (y >>> (Int32.ofNat s &&& 31))))) 28 0 1 (Int32.ofNat (n + 1))) := by
  rw [f_X9_append_3, brn (zNeg (by omega)), e, brn (show ¬ (400 : Int32) ≤ Int32.ofNat n from fun w => absurd ((zLE (a := 400) (by omega) (by omega)).mp w) (by omega)), ck_t (ib hn (by omega)), zN (by omega), bvE, bvE, bvE]
  rw [show gi (si S 29 0 n (vp_nar .byte (tb (y >>> (Int32.ofNat s &&& 31))))) 28 0 1 = Int32.ofNat n from e, zp1]
theorem ap_word {w : Nat} (h : Pc S0 x n0 S (n0 + 4 * w)) (hn : n0 + 4 * w + 4 ≤ 400) : ∃ S', f_X9_append 0 (x w) S = some S' ∧ Pc S0 x n0 S' (n0 + 4 * (w + 1)) := by
  have fb : ∀ d, d < 4 → vp_nar .byte (tb (x w >>> (Int32.ofNat (24 - 8 * d) &&& 31))) = fB S0 x n0 (n0 + 4 * w + d) := by
    intro d hd
    unfold fB
    rw [if_neg (by omega), show (n0 + 4 * w + d - n0) / 4 = w by omega, show (n0 + 4 * w + d - n0) % 4 = d by omega]
  have p1 := h.add (fb 0 (by omega))
  have p2 := p1.add (fb 1 (by omega))
  have p3 := p2.add (fb 2 (by omega))
  have p4 := p3.add (fb 3 (by omega))
  refine ⟨_, ?_, p4⟩
  unfold f_X9_append
  rw [show FU = 99995 + 1 + 1 + 1 + 1 + 1 from rfl, show (24 : Int32) = Int32.ofNat 24 from rfl, ap_step (by omega) h.2.2.1 (by omega), show Int32.ofNat 24 + -8 = Int32.ofNat 16 by decide, ap_step (by omega) p1.2.2.1 (by omega), show Int32.ofNat 16 + -8 = Int32.ofNat 8 by decide, ap_step (by omega) p2.2.2.1 (by omega), show Int32.ofNat 8 + -8 = Int32.ofNat 0 by decide, ap_step (by omega) p3.2.2.1 (by omega), show Int32.ofNat 0 + -8 = (-8 : Int32) by decide, f_X9_append_3, brp (by decide)]
theorem fe_loop {x1 x2 x3 x4 x5 : Int32} {K : St → Option (Int32 × St)} (hn : n0 + 20 ≤ 400) : ∀ (m k : Nat) (S : St), k ≤ 20 → 20 < m + k → Pm S0 (wd x1 x2 x3 x4 x5) n0 S (n0 + k) → ∃ S', f_X12_feed_23 0 x1 x2 x3 x4 x5 K m (Int32.ofNat k) S = K S' ∧ Pm S0 (wd x1 x2 x3 x4 x5) n0 S' (n0 + 20) := by
  have sh : ∀ k, k < 20 → (24 - (8 * (Int32.ofNat k &&& 3)) : Int32) = Int32.ofNat (24 - 8 * (k % 4)) := by decide
  intro m
  induction m with
  | zero => intro k S _ h; omega
  | succ m ih =>
    intro k S hk hm h
    by_cases hc : 20 ≤ k
    · rw [f_X12_feed_23, brp (show (20 : Int32) ≤ Int32.ofNat k from (zLE (a := 20) (by omega) (by omega)).mpr hc)]
      exact ⟨S, rfl, by rw [show k = 20 by omega] at h; exact h⟩
    · have st : f_X12_feed_23 0 x1 x2 x3 x4 x5 K (m + 1) (Int32.ofNat k) S = f_X12_feed_23 0 x1 x2 x3 x4 x5 K m (Int32.ofNat (k + 1)) (si (si S 66 0 (n0 + k) ((usI (wd x1 x2 x3 x4 x5 (k / 4)) (Int32.ofNat (24 - 8 * (k % 4)))) &&& 255)) 60 0 9 (Int32.ofNat (n0 + k + 1))) := by
        have e9 : ∀ v : Int32, gi (si S 66 0 (n0 + k) v) 60 0 9 = Int32.ofNat (n0 + k) := fun v => h.2.2.1
        rw [f_X12_feed_23, brn (show ¬ (20 : Int32) ≤ Int32.ofNat k from fun w => hc ((zLE (a := 20) (by omega) (by omega)).mp w))]
        simp only [bvE]
        rw [sh k (by omega), h.2.2.1, zN (by omega)]
        simp only [ck_t (ib (show n0 + k < 400 by omega) (show n0 + k < 2147483648 by omega)), e9, zp1]
        have y : ∀ c : Nat, c ≤ 16 → ((no_index (Int32.ofNat c)) ≤ Int32.ofNat k ↔ c ≤ k) := fun c h9 => zLE (by omega) (by omega)
        by_cases c1 : 4 ≤ k
        · rw [brp (show (4 : Int32) ≤ Int32.ofNat k from (y 4 (by omega)).mpr c1)]
          by_cases c2 : 8 ≤ k
          · rw [brp (show (8 : Int32) ≤ Int32.ofNat k from (y 8 (by omega)).mpr c2)]
            by_cases c3 : 12 ≤ k
            · rw [brp (show (12 : Int32) ≤ Int32.ofNat k from (y 12 (by omega)).mpr c3)]
              by_cases c4 : 16 ≤ k
              · rw [brp (show (16 : Int32) ≤ Int32.ofNat k from (y 16 (by omega)).mpr c4), show k / 4 = 4 by omega]; rfl
              · rw [brn (show ¬ (16 : Int32) ≤ Int32.ofNat k from fun z => c4 ((y 16 (by omega)).mp z)), show k / 4 = 3 by omega]; rfl
            · rw [brn (show ¬ (12 : Int32) ≤ Int32.ofNat k from fun z => c3 ((y 12 (by omega)).mp z)), show k / 4 = 2 by omega]; rfl
          · rw [brn (show ¬ (8 : Int32) ≤ Int32.ofNat k from fun z => c2 ((y 8 (by omega)).mp z)), show k / 4 = 1 by omega]; rfl
        · rw [brn (show ¬ (4 : Int32) ≤ Int32.ofNat k from fun z => c1 ((y 4 (by omega)).mp z)), show k / 4 = 0 by omega]; rfl
      rw [st]
      refine ih (k + 1) _ (by omega) (by omega) (h.add ?_)
      unfold fC
      rw [if_neg (by omega), show n0 + k - n0 = k by omega]
end FE
