-- FEED: bytes of words
theorem lo8 (x : BitVec 32) (s : Nat) (hs : s + 8 ≤ 32) : (x.sshiftRight s).setWidth 8 = ((x >>> s) &&& 255#32).setWidth 8 := by
  ext i hi
  simp only [BitVec.getElem_setWidth, BitVec.getLsbD_sshiftRight, BitVec.getLsbD_and, BitVec.getLsbD_ushiftRight]
  have h255 : (255#32).getLsbD i = true := by
    have : ∀ i : Fin 8, (255#32).getLsbD i.val = true := by decide
    exact this ⟨i, hi⟩
  rw [h255]
  have h1 : s + i < 32 := by omega
  have h2 : ¬ 32 ≤ i := by omega
  simp [h1, h2]
theorem by_eq (x : Int32) : ∀ d, d < 4 → vp_nar .byte (tb (x >>> (Int32.ofNat (24 - 8 * d) &&& 31))) = vp_nar .byte ((usI x (Int32.ofNat (24 - 8 * d))) &&& 255) ∧ Lt 256 ((usI x (Int32.ofNat (24 - 8 * d))) &&& 255) := by
  intro d hd
  have key : ∀ s : Nat, s + 8 ≤ 32 → ∀ a b : Int32, a.toBitVec = x.toBitVec.sshiftRight s → b.toBitVec = (x.toBitVec >>> s) &&& 255#32 → vp_nar .byte (tb a) = vp_nar .byte b ∧ Lt 256 b := by
    intro s hs a b ea eb
    have e8 : a.toInt8 = b.toInt8 := by
      apply Int8.toBitVec_inj.mp
      show a.toBitVec.signExtend 8 = b.toBitVec.signExtend 8
      rw [BitVec.signExtend_eq_setWidth_of_le _ (by omega), BitVec.signExtend_eq_setWidth_of_le _ (by omega), ea, eb, lo8 _ s hs]
    refine ⟨?_, ?_⟩
    · show (a.toInt8.toInt32).toInt8.toInt32 = b.toInt8.toInt32
      rw [Int8.toInt8_toInt32, e8]
    · have lt : b.toBitVec.toNat < 256 := by
        rw [eb, BitVec.toNat_and]
        exact Nat.lt_of_le_of_lt Nat.and_le_right (by decide)
      refine ⟨b.toBitVec.toNat, lt, ?_⟩
      rw [← Int32.toInt_inj, zI (by omega)]
      show b.toBitVec.toInt = _
      rw [BitVec.toInt_eq_toNat_of_lt (by omega)]
  rcases (show d = 0 ∨ d = 1 ∨ d = 2 ∨ d = 3 by omega) with rfl | rfl | rfl | rfl
  · exact key 24 (by omega) _ _ rfl rfl
  · exact key 16 (by omega) _ _ rfl rfl
  · exact key 8 (by omega) _ _ rfl rfl
  · exact key 0 (by omega) _ _ rfl rfl
def wd (x1 x2 x3 x4 x5 : Int32) (w : Nat) : Int32 := if w = 0 then x1 else if w = 1 then x2 else if w = 2 then x3 else if w = 3 then x4 else x5
/-- class's byte i, n0 bytes before -/
def fB (S0 : St) (x : Nat → Int32) (n0 i : Nat) : Int32 := if i < n0 then gi S0 29 0 i else vp_nar .byte (tb (x ((i - n0) / 4) >>> (Int32.ofNat (24 - 8 * ((i - n0) % 4)) &&& 31)))
def fC (S0 : St) (x : Nat → Int32) (n0 i : Nat) : Int32 := if i < n0 then gi S0 66 0 i else (usI (x ((i - n0) / 4)) (Int32.ofNat (24 - 8 * ((i - n0) % 4)))) &&& 255
def Pc (S0 : St) (x : Nat → Int32) (n0 : Nat) (S : St) (n : Nat) : Prop := Fr (fun k x => (k = 28 ∨ k = 29) ∧ x = 0) S0 S ∧ (∀ j, j ≠ 1 → gi S 28 0 j = gi S0 28 0 j) ∧ gi S 28 0 1 = Int32.ofNat n ∧ ∀ i, i < n → gi S 29 0 i = fB S0 x n0 i
def Pm (S0 : St) (x : Nat → Int32) (n0 : Nat) (S : St) (n : Nat) : Prop := Fr (fun k x => (k = 60 ∨ k = 66) ∧ x = 0) S0 S ∧ ((∀ j, j ≠ 9 → gi S 60 0 j = gi S0 60 0 j) ∧ gl S 60 0 = gl S0 60 0) ∧ gi S 60 0 9 = Int32.ofNat n ∧ ∀ i, i < n → gi S 66 0 i = fC S0 x n0 i
section FE
variable {S0 S : St} {x : Nat → Int32} {n0 n : Nat}
theorem Pc.add (h : Pc S0 x n0 S n) {v : Int32} (hv : v = fB S0 x n0 n) : Pc S0 x n0 (si (si S 29 0 n v) 28 0 1 (Int32.ofNat (n + 1))) (n + 1) := by
  refine ⟨h.1.tr ((Fr.si ⟨Or.inr rfl, rfl⟩).tr (Fr.si ⟨Or.inl rfl, rfl⟩)), fun j hj => ?_, rfl, fun i hi => ?_⟩
  · show upd (gi S 28 0) 1 _ j = _
    rw [upd_ne hj]; exact h.2.1 j hj
  · show upd (gi S 29 0) n v i = _
    by_cases e : i = n
    · rw [e, upd_eq, hv]
    · rw [upd_ne e]; exact h.2.2.2 i (by omega)
theorem Pm.add (h : Pm S0 x n0 S n) {v : Int32} (hv : v = fC S0 x n0 n) : Pm S0 x n0 (si (si S 66 0 n v) 60 0 9 (Int32.ofNat (n + 1))) (n + 1) := by
  refine ⟨h.1.tr ((Fr.si ⟨Or.inr rfl, rfl⟩).tr (Fr.si ⟨Or.inl rfl, rfl⟩)), ⟨fun j hj => ?_, h.2.1.2⟩, rfl, fun i hi => ?_⟩
  · show upd (gi S 60 0) 9 _ j = _
    rw [upd_ne hj]; exact h.2.1.1 j hj
  · show upd (gi S 66 0) n v i = _
    by_cases e : i = n
    · rw [e, upd_eq, hv]
    · rw [upd_ne e]; exact h.2.2.2 i (by omega)
theorem ap_step {K : St → Option St} {m s : Nat} {y : Int32} (hs : s < 32) (e : gi S 28 0 1 = Int32.ofNat n) (hn : n < 400) : f_X9_append_3 0 y K (m + 1) (Int32.ofNat s) S = f_X9_append_3 0 y K m (Int32.ofNat s + -8) (si (si S 29 0 n (vp_nar .byte (tb (y >>> (Int32.ofNat s &&& 31))))) 28 0 1 (Int32.ofNat (n + 1))) := by
  rw [f_X9_append_3, brn (zNeg (by omega)), e, brn (show ¬ (400 : Int32) ≤ Int32.ofNat n from fun w => absurd ((zLE (a := 400) (by omega) (by omega)).mp w) (by omega)), ck_t (ib hn (by omega)), zN (by omega), bvE, bvE, bvE]
  rw [show gi (si S 29 0 n (vp_nar .byte (tb (y >>> (Int32.ofNat s &&& 31))))) 28 0 1 = Int32.ofNat n from e, zp1]
theorem ap_word {w : Nat} (h : Pc S0 x n0 S (n0 + 4 * w)) (hn : n0 + 4 * w + 4 ≤ 400) : ∃ S', f_X9_append 0 (x w) S = some S' ∧ Pc S0 x n0 S' (n0 + 4 * (w + 1)) := by
  have fb : ∀ d, d < 4 → vp_nar .byte (tb (x w >>> (Int32.ofNat (24 - 8 * d) &&& 31))) = fB S0 x n0 (n0 + 4 * w + d) := by
    intro d hd
    unfold fB
    rw [if_neg (by omega), show (n0 + 4 * w + d - n0) / 4 = w by omega, show (n0 + 4 * w + d - n0) % 4 = d by omega]
  have p1 := h.add (fb 0 (by omega))
  have p2 := p1.add (fb 1 (by omega))
  have p3 := p2.add (fb 2 (by omega))
  have p4 := p3.add (fb 3 (by omega))
  refine ⟨_, ?_, p4⟩
  unfold f_X9_append
  rw [show FU = 99995 + 1 + 1 + 1 + 1 + 1 from rfl, show (24 : Int32) = Int32.ofNat 24 from rfl, ap_step (by omega) h.2.2.1 (by omega), show Int32.ofNat 24 + -8 = Int32.ofNat 16 by decide, ap_step (by omega) p1.2.2.1 (by omega), show Int32.ofNat 16 + -8 = Int32.ofNat 8 by decide, ap_step (by omega) p2.2.2.1 (by omega), show Int32.ofNat 8 + -8 = Int32.ofNat 0 by decide, ap_step (by omega) p3.2.2.1 (by omega), show Int32.ofNat 0 + -8 = (-8 : Int32) by decide, f_X9_append_3, brp (by decide)]
theorem fe_loop {x1 x2 x3 x4 x5 : Int32} {K : St → Option (Int32 × St)} (hn : n0 + 20 ≤ 400) : ∀ (m k : Nat) (S : St), k ≤ 20 → 20 < m + k → Pm S0 (wd x1 x2 x3 x4 x5) n0 S (n0 + k) → ∃ S', f_X12_feed_23 0 x1 x2 x3 x4 x5 K m (Int32.ofNat k) S = K S' ∧ Pm S0 (wd x1 x2 x3 x4 x5) n0 S' (n0 + 20) := by
  have sh : ∀ k, k < 20 → (24 - (8 * (Int32.ofNat k &&& 3)) : Int32) = Int32.ofNat (24 - 8 * (k % 4)) := by decide
  intro m
  induction m with
  | zero => intro k S _ h; omega
  | succ m ih =>
    intro k S hk hm h
    by_cases hc : 20 ≤ k
    · rw [f_X12_feed_23, brp (show (20 : Int32) ≤ Int32.ofNat k from (zLE (a := 20) (by omega) (by omega)).mpr hc)]
      exact ⟨S, rfl, by rw [show k = 20 by omega] at h; exact h⟩
    · have st : f_X12_feed_23 0 x1 x2 x3 x4 x5 K (m + 1) (Int32.ofNat k) S = f_X12_feed_23 0 x1 x2 x3 x4 x5 K m (Int32.ofNat (k + 1)) (si (si S 66 0 (n0 + k) ((usI (wd x1 x2 x3 x4 x5 (k / 4)) (Int32.ofNat (24 - 8 * (k % 4)))) &&& 255)) 60 0 9 (Int32.ofNat (n0 + k + 1))) := by
        have e9 : ∀ v : Int32, gi (si S 66 0 (n0 + k) v) 60 0 9 = Int32.ofNat (n0 + k) := fun v => h.2.2.1
        rw [f_X12_feed_23, brn (show ¬ (20 : Int32) ≤ Int32.ofNat k from fun w => hc ((zLE (a := 20) (by omega) (by omega)).mp w))]
        simp only [bvE]
        rw [sh k (by omega), h.2.2.1, zN (by omega)]
        simp only [ck_t (ib (show n0 + k < 400 by omega) (show n0 + k < 2147483648 by omega)), e9, zp1]
        have y : ∀ c : Nat, c ≤ 16 → ((no_index (Int32.ofNat c)) ≤ Int32.ofNat k ↔ c ≤ k) := fun c h9 => zLE (by omega) (by omega)
        by_cases c1 : 4 ≤ k
        · rw [brp (show (4 : Int32) ≤ Int32.ofNat k from (y 4 (by omega)).mpr c1)]
          by_cases c2 : 8 ≤ k
          · rw [brp (show (8 : Int32) ≤ Int32.ofNat k from (y 8 (by omega)).mpr c2)]
            by_cases c3 : 12 ≤ k
            · rw [brp (show (12 : Int32) ≤ Int32.ofNat k from (y 12 (by omega)).mpr c3)]
              by_cases c4 : 16 ≤ k
              · rw [brp (show (16 : Int32) ≤ Int32.ofNat k from (y 16 (by omega)).mpr c4), show k / 4 = 4 by omega]; rfl
              · rw [brn (show ¬ (16 : Int32) ≤ Int32.ofNat k from fun z => c4 ((y 16 (by omega)).mp z)), show k / 4 = 3 by omega]; rfl
            · rw [brn (show ¬ (12 : Int32) ≤ Int32.ofNat k from fun z => c3 ((y 12 (by omega)).mp z)), show k / 4 = 2 by omega]; rfl
          · rw [brn (show ¬ (8 : Int32) ≤ Int32.ofNat k from fun z => c2 ((y 8 (by omega)).mp z)), show k / 4 = 1 by omega]; rfl
        · rw [brn (show ¬ (4 : Int32) ≤ Int32.ofNat k from fun z => c1 ((y 4 (by omega)).mp z)), show k / 4 = 0 by omega]; rfl
      rw [st]
      refine ih (k + 1) _ (by omega) (by omega) (h.add ?_)
      unfold fC
      rw [if_neg (by omega), show n0 + k - n0 = k by omega]
end FE
theorem Inv.rd {t : Nat} {S S' : St} (h : Inv t S) (hf : Fr (fun k x => WS k x ∨ k = 28 ∨ k = 29 ∨ k = 66) S S') (h26 : gl S' 60 0 26 = gl S 60 0 26) (h27 : gl S' 60 0 27 = gl S 60 0 27) (hc : Crd S') : Inv t S' := by
  have n : ∀ k x, (k = 0 ∨ k = 1 ∨ k = 50 ∨ k = 51 ∨ k = 53 ∨ k = 78 ∨ k = 79 ∨ k = 80 ∨ k = 61 ∨ k = 62 ∨ k = 63 ∨ k = 64 ∨ k = 65) → ¬ (WS k x ∨ k = 28 ∨ k = 29 ∨ k = 66) := by
    intro k x hk hw
    unfold WS Scr at hw
    omega
  obtain ⟨q1, q2, q3, q4, q5⟩ := h
  have ow : ∀ g k x, (WS k x ∨ k = 28 ∨ k = 29 ∨ k = 66) → ¬ own g k x := by
    intro g k x hw
    unfold WS Scr at hw
    unfold own
    omega
  refine ⟨?_, ?_, hc, ?_, ?_⟩
  · rw [(hf 61 0 (n 61 0 (by omega))).1, (hf 63 0 (n 63 0 (by omega))).2.1]
    exact Cr.fr hf (fun k x hw => ow 0 k x hw) q1
  · exact Cim.fr hf (Nat.le_refl _) (fun g k x _ _ hw => ow g k x hw) (n 1 0 (by omega)) (n 62 0 (by omega)) (n 64 0 (by omega)) (n 65 0 (by omega)) q2
  · unfold Cfr
    rw [(hf 0 0 (n 0 0 (by omega))).2.1, h26, h27]
    exact q4
  · intro t' ht'
    rw [(hf 50 0 (n 50 0 (by omega))).1, (hf 78 0 (n 78 0 (by omega))).1, (hf 51 0 (n 51 0 (by omega))).1, (hf 79 0 (n 79 0 (by omega))).1, (hf 53 t' (n 53 t' (by omega))).2.1, (hf 80 0 (n 80 0 (by omega))).2.1]
    exact q5 t' ht'
-- CASE feed
theorem pc_4 {t : Nat} {S : St} {a1 a2 a3 a4 a5 : Int32} (h : Inv t S) : Ok (fc_4 (t + 1) a1 a2 a3 a4 a5 S) (Inv (t + 1)) := by
  unfold fc_4
  obtain ⟨n, r1, r2, r3, r4, r5, r6⟩ := h.2.2.1
  have room : f_X9_hasRoom 0 S = some (if n + 20 ≤ 400 then 1 else 0) := by
    unfold f_X9_hasRoom
    rw [bvE, r1, show Int32.ofNat n + 20 = Int32.ofNat (n + 20) from zAA 20 n]
    by_cases e : n + 20 ≤ 400
    · rw [if_pos e, brn (show ¬ (400 : Int32) < Int32.ofNat (n + 20) from fun w => absurd ((zL (a := 400) (by omega) (by omega)).mp w) (by omega))]; rfl
    · rw [if_neg e, brp (show (400 : Int32) < Int32.ofNat (n + 20) from (zL (a := 400) (by omega) (by omega)).mpr (by omega))]; rfl
  have mr : (gi S 60 0 9 + 20 ≤ 400) ↔ n + 20 ≤ 400 := by
    rw [r2, show Int32.ofNat n + 20 = Int32.ofNat (n + 20) from zAA 20 n]
    exact zLE (b := 400) (by omega) (by omega)
  by_cases e : n + 20 ≤ 400
  case neg =>
    have c : f_X11_feed 0 a1 a2 a3 a4 a5 S = some (-1, S) := by
      unfold f_X11_feed
      rw [room, if_neg e]
      exact brp rfl
    refine Ok.o2e c (Ok.o2e (x := -1) (S := si S 60 0 5 0) ?_ (Ok.bt rfl (Ok.sm (pf_bad h))))
    unfold f_X12_feed
    rw [bvE, show gi (si S 60 0 5 0) 60 0 9 = gi S 60 0 9 from rfl, brn (fun w => e (mr.mp w))]
  have P0 : Pc S (wd a1 a2 a3 a4 a5) n S (n + 4 * 0) := ⟨Fr.rf, fun _ _ => rfl, r1, fun i hi => by unfold fB; rw [if_pos (by omega)]⟩
  obtain ⟨S1, s1, P1⟩ := ap_word P0 (by omega)
  obtain ⟨S2, s2, P2⟩ := ap_word P1 (by omega)
  obtain ⟨S3, s3, P3⟩ := ap_word P2 (by omega)
  obtain ⟨S4, s4, P4⟩ := ap_word P3 (by omega)
  obtain ⟨S5, s5, P5⟩ := ap_word P4 (by omega)
  have s1 : f_X9_append 0 a1 S = some S1 := s1
  have s2 : f_X9_append 0 a2 S1 = some S2 := s2
  have s3 : f_X9_append 0 a3 S2 = some S3 := s3
  have s4 : f_X9_append 0 a4 S3 = some S4 := s4
  have s5 : f_X9_append 0 a5 S4 = some S5 := s5
  have c : f_X11_feed 0 a1 a2 a3 a4 a5 S = some (Int32.ofNat (n + 20), S5) := by
    unfold f_X11_feed
    rw [room, if_pos e]
    unfold on
    dsimp only
    rw [brn (by decide), s1]
    dsimp only
    rw [s2]
    dsimp only
    rw [s3]
    dsimp only
    rw [s4]
    dsimp only
    rw [s5]
    dsimp only
    rw [P5.2.2.1]
  refine Ok.o2e c ?_
  have r : ∀ k x, k ≠ 28 → k ≠ 29 → gi S5 k x = gi S k x ∧ gl S5 k x = gl S k x ∧ gr S5 k x = gr S k x ∧ gn S5 k x = gn S k x := fun k x h1 h2 => P5.1 k x (fun z => by omega)
  have M0 : Pm (si S5 60 0 5 0) (wd a1 a2 a3 a4 a5) n (si S5 60 0 5 0) (n + 0) := by
    refine ⟨Fr.rf, ⟨fun _ _ => rfl, rfl⟩, ?_, fun i hi => by unfold fC; rw [if_pos (by omega)]⟩
    show gi S5 60 0 9 = _
    rw [(r 60 0 (by decide) (by decide)).1]; exact r2
  obtain ⟨Z, z1, M1⟩ := fe_loop (K := fun S_16 => some (gi S_16 60 0 9, S_16)) e FU 0 _ (by omega) (by unfold FU; omega) M0
  rw [show Int32.ofNat 0 = (0 : Int32) from rfl] at z1
  refine Ok.o2e (x := Int32.ofNat (n + 20)) (S := Z) ?_ (Ok.bt rfl (Ok.sm ?_))
  · unfold f_X12_feed
    rw [bvE, show gi (si S5 60 0 5 0) 60 0 9 = gi S 60 0 9 by show gi S5 60 0 9 = _; rw [(r 60 0 (by decide) (by decide)).1], brp (mr.mpr e), z1, M1.2.2.1]
  · have rz : ∀ k x, k ≠ 60 → k ≠ 66 → gi Z k x = gi (si S5 60 0 5 0) k x ∧ gl Z k x = gl S5 k x ∧ gr Z k x = gr S5 k x ∧ gn Z k x = gn S5 k x := fun k x h1 h2 => M1.1 k x (fun z => by omega)
    refine Inv.t (Nat.le_succ t) (h.rd ?_ ?_ ?_ ?_)
    · refine (P5.1.mono (fun k x hw => Or.inr (by omega))).tr ((Fr.si (Or.inl (Or.inr ⟨rfl, rfl⟩))).tr (M1.1.mono (fun k x hw => ?_)))
      rcases hw.1 with e9 | e9
      · exact Or.inl (Or.inr ⟨e9, hw.2⟩)
      · exact Or.inr (Or.inr (Or.inr e9))
    · rw [M1.2.1.2]
      show gl S5 60 0 26 = _
      rw [(r 60 0 (by decide) (by decide)).2.1]
    · rw [M1.2.1.2]
      show gl S5 60 0 27 = _
      rw [(r 60 0 (by decide) (by decide)).2.1]
    · have e28 : gi Z 28 0 = gi S5 28 0 := (rz 28 0 (by decide) (by decide)).1
      have e29 : gi Z 29 0 = gi S5 29 0 := (rz 29 0 (by decide) (by decide)).1
      refine ⟨n + 20, by rw [e28]; exact P5.2.2.1, M1.2.2.1, e, fun i hi => ?_, ?_, ?_⟩
      · rw [e29, P5.2.2.2 i (by omega), M1.2.2.2 i hi]
        unfold fB fC
        by_cases hi2 : i < n
        · rw [if_pos hi2, if_pos hi2]
          show gi S 29 0 i = vp_nar .byte (gi S5 66 0 i) ∧ Lt 256 (gi S5 66 0 i)
          rw [(r 66 0 (by decide) (by decide)).1]; exact r4 i hi2
        · rw [if_neg hi2, if_neg hi2]
          exact by_eq _ ((i - n) % 4) (Nat.mod_lt _ (by omega))
      · rw [e28, P5.2.1 6 (by decide), M1.2.1.1 18 (by decide), r5]
        show _ = gi S5 60 0 18
        rw [(r 60 0 (by decide) (by decide)).1]
      · rw [e28, P5.2.1 7 (by decide), M1.2.1.1 19 (by decide), r6]
        show _ = gi S5 60 0 19
        rw [(r 60 0 (by decide) (by decide)).1]
