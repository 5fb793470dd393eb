-- GAMES: who may play, class's and reference's tables side by side
theorem Ok.k2 {α σ : Type} {P : α → Prop} {v : Option (σ × St)} {k k' : σ → St → Option α} (h : ∀ r S, k r S = k' r S) (hk : Ok (on2 v k') P) : Ok (on2 v k) P := by
  have : k = k' := funext fun r => funext fun S => h r S
  rw [this]; exact hk
theorem two_cases {N : Nat} (x1 x2 : Int32) (hN : N ≤ 4) :
    ((∀ S : St, gi S 2 0 0 = Int32.ofNat N → f_X11_needTwo 0 x1 x2 S = some (.inl 3, S)) ∧ ∀ S : St, gi S 61 0 0 = Int32.ofNat N → f_X12_pairFault 0 x1 x2 S = some 1) ∨
    ((∀ S : St, gi S 2 0 0 = Int32.ofNat N → f_X11_needTwo 0 x1 x2 S = some (.inl 2, S)) ∧ ∀ S : St, gi S 61 0 0 = Int32.ofNat N → f_X12_pairFault 0 x1 x2 S = some 2) ∨
    (∃ a b, a < N ∧ b < N ∧ a ≠ b ∧ x1 = Int32.ofNat a ∧ x2 = Int32.ofNat b ∧ (∀ S : St, gi S 2 0 0 = Int32.ofNat N → f_X11_needTwo 0 x1 x2 S = some (.inr (), S)) ∧ ∀ S : St, gi S 61 0 0 = Int32.ofNat N → f_X12_pairFault 0 x1 x2 S = some 0) := by
  by_cases h1 : x1 < 0 ∨ ¬ x1 < Int32.ofNat N
  · exact Or.inl ⟨fun S e => by unfold f_X11_needTwo; rw [n_st e h1]; rfl, fun S e => by unfold f_X12_pairFault; rw [m_stn e hN h1]; rfl⟩
  obtain ⟨a, ha, rfl⟩ := or_st hN h1
  by_cases h2 : x2 < 0 ∨ ¬ x2 < Int32.ofNat N
  · refine Or.inl ⟨fun S e => ?_, fun S e => ?_⟩
    · unfold f_X11_needTwo; rw [y_st e hN ha]
      show xb (τ := Unit) (f_X11_needStation 0 x2 S) _ = _
      rw [n_st e h2]; rfl
    · unfold f_X12_pairFault; rw [m_sty e hN ha]
      show br ((1 : Int32) = 0) (some 1) (on (f_X12_isStation 0 x2 S) _) = _
      rw [m_stn e hN h2]; rfl
  obtain ⟨b, hb, rfl⟩ := or_st hN h2
  have e1 : ∀ S : St, gi S 2 0 0 = Int32.ofNat N → f_X11_needTwo 0 (Int32.ofNat a) (Int32.ofNat b) S = br (Int32.ofNat a = Int32.ofNat b) (some (.inl 2, S)) (some (.inr (), S)) := by
    intro S e
    unfold f_X11_needTwo; rw [y_st e hN ha]
    show xb (τ := Unit) (f_X11_needStation 0 (Int32.ofNat b) S) _ = _
    rw [y_st e hN hb]; rfl
  have e2 : ∀ S : St, gi S 61 0 0 = Int32.ofNat N → f_X12_pairFault 0 (Int32.ofNat a) (Int32.ofNat b) S = br (Int32.ofNat a = Int32.ofNat b) (some 2) (some 0) := by
    intro S e
    unfold f_X12_pairFault; rw [m_sty e hN ha]
    show br ((1 : Int32) = 0) (some 1) (on (f_X12_isStation 0 (Int32.ofNat b) S) _) = _
    rw [m_sty e hN hb]; rfl
  by_cases h3 : a = b
  · exact Or.inr (Or.inl ⟨fun S e => by rw [e1 S e, brp (by rw [h3])], fun S e => by rw [e2 S e, brp (by rw [h3])]⟩)
  · have h4 : ¬ Int32.ofNat a = Int32.ofNat b := fun z => h3 ((zE (by omega) (by omega)).mp z)
    exact Or.inr (Or.inr ⟨a, b, ha, hb, h3, rfl, rfl, fun S e => by rw [e1 S e, brn h4], fun S e => by rw [e2 S e, brn h4]⟩)
theorem lev_cases {lv : Nat} (x : Int32) (hl : lv ≤ 8) :
    ((∀ S : St, gi S 2 0 14 = Int32.ofNat lv → f_X11_needLevel 0 x S = some (.inl 4, S)) ∧ ∀ S : St, gi S 61 0 3 = Int32.ofNat lv → f_X12_isLevel 0 x S = some 0) ∨
    (∃ i, i < lv ∧ x = Int32.ofNat i ∧ (∀ S : St, gi S 2 0 14 = Int32.ofNat lv → f_X11_needLevel 0 x S = some (.inr (), S)) ∧ ∀ S : St, gi S 61 0 3 = Int32.ofNat lv → f_X12_isLevel 0 x S = some 1) := by
  have e2 : ∀ S : St, gi S 61 0 3 = Int32.ofNat lv → f_X12_isLevel 0 x S = some (if ¬ x < 0 ∧ x < Int32.ofNat lv then 1 else 0) := by
    intro S e
    unfold f_X12_isLevel
    rw [ck_t (by decide), show gi S 61 0 (nn 3) = Int32.ofNat lv from e, e_wi (a := 0) (lo := 0) (hi := Int32.ofNat lv - 1) (by decide) rfl]
    have e9 : (0 ≤ x ∧ x ≤ Int32.ofNat lv - 1) ↔ (¬ x < 0 ∧ x < Int32.ofNat lv) := by
      rw [Int32.not_lt]
      refine and_congr Iff.rfl ?_
      rw [Int32.le_iff_toInt_le, Int32.lt_iff_toInt_lt, zI (show lv < 2147483648 by omega)]
      have : (Int32.ofNat lv - 1).toInt = (lv : Int) - 1 := by
        rw [Int32.toInt_sub, zI (show lv < 2147483648 by omega)]
        show ((lv : Int) - 1).bmod (2 ^ 32) = _
        rw [Int.bmod_def]; omega
      rw [this]; omega
    by_cases hc : 0 ≤ x ∧ x ≤ Int32.ofNat lv - 1
    · rw [if_pos hc, if_pos (e9.mp hc)]; rfl
    · rw [if_neg hc, if_neg (fun z => hc (e9.mpr z))]; rfl
  by_cases h1 : x < 0 ∨ ¬ x < Int32.ofNat lv
  · refine Or.inl ⟨fun S e => ?_, fun S e => by rw [e2 S e, if_neg (fun z => h1.elim z.1 (fun w => w z.2))]⟩
    unfold f_X11_needLevel bv
    dsimp only
    rw [e]
    by_cases h2 : x < 0
    · rw [brp h2]
    · rw [brn h2, brn (h1.resolve_left h2)]
  · obtain ⟨i, hi, rfl⟩ := zW (x := x) (n := lv) (by omega) (fun z => h1 (Or.inl z)) (Classical.byContradiction fun z => h1 (Or.inr z))
    refine Or.inr ⟨i, hi, rfl, fun S e => ?_, fun S e => by rw [e2 S e, if_pos ⟨fun z => h1 (Or.inl z), (zL (by omega) (by omega)).mpr hi⟩]⟩
    unfold f_X11_needLevel bv
    dsimp only
    rw [e, brn (fun z => h1 (Or.inl z)), brp ((zL (by omega) (by omega)).mpr hi)]
section GB
variable {t N D hh lv ri to ch a b : Nat} {S : St}
theorem e_begin (I : Inv t S) (c1 : Cn (gi S 61 0) N D hh lv ri to ch) (c2 : Ckn S 0 N D hh lv ri to ch) (c3 : Cst N hh (gi S 3 0) (gi S 4 0) (gi S 5 0) (gi S 61 0)) (c5 : Cdr N D (gi S 10 0) (gi S 11 0) (gi S 12 0) (gi S 13 0) (gi S 61 0)) (c6 : Chr N hh (gi S 15 (2 * 0)) (gi S 16 (2 * 0)) (gi S 61 0)) (c9 : Clv lv (gi S 21 0) (gi S 61 0)) (c12 : Cla (gr S 2 0 8) (gi S 35) (gi S 61 0)) (ha : a < N) (hb : b < N) : Ok (f_X4_begin 0 0 (Int32.ofNat a) (Int32.ofNat b) S) (fun S' => Bg S (gi S 61 0) N D lv a b lv 0 S' ∧ Inv t S') := by
  unfold f_X4_begin
  refine Ok.v (Ok.o (tk_loop (S := si S 36 0 0 (gi S 2 0 14)) (g1 := 0) (T := gi S 61 0) (P := fun S' => Fr (Wr 0) (si S 36 0 0 (gi S 2 0 14)) S' ∧ ∀ i, i < N → gi S' 26 0 i = gi S 61 0 (12 + i)) c2.1 c2.2.2.2.2.2.2.2.1 c2.2.2.2.2.2.2.2.2.2.1 c2.2.2.1 c6 c1.1.2 c1.2.2.1.2 (fun S' hf hi => Ok.sm ⟨hf, hi⟩) FU 0 _ Fr.rf (fun i hi => absurd hi (by omega)) (by omega) (by have := c1.1.2; unfold FU; omega)) (fun S1 hq => ?_))
  obtain ⟨hf, hp⟩ := hq
  have r : ∀ k x, k ≠ 26 → gi S1 k x = gi (si S 36 0 0 (gi S 2 0 14)) k x ∧ gl S1 k x = gl S k x ∧ gr S1 k x = gr S k x ∧ gn S1 k x = gn S k x := fun k x hk => hf k x (fun z => hk z.1)
  obtain ⟨x, ex, hx⟩ := e_known (S := S1) (T := gi S 61 0) (by rw [(r 2 0 (by decide)).1]; exact c2.1) c1.1.2 (by rw [(r 2 0 (by decide)).2.2.1, show gi S1 35 = gi S 35 from funext fun y => (r 35 y (by decide)).1]; exact c12)
  refine Ok.oe ex (bg_all (S := S) (T := gi S 61 0) (P := fun S' => Bg S (gi S 61 0) N D lv a b lv 0 S' ∧ Inv t S') c1.1.2 c1.2.1.2 c1.2.2.2.1.2 ha hb c2.2.1 c5 c9 (fun s hs => (c3 s hs).1) hx (fun S' q => Ok.sm ⟨q, ?_⟩) FU 0 S1 ⟨?_, ?_, fun s hs _ _ => hp s hs, fun i' j' _ _ h9 => by omega⟩ (by omega) (by have := c1.2.2.2.1.2; unfold FU; omega))
  · have r9 : gi S' 60 0 = gi S 60 0 := (q.r (by decide) (by decide) (by decide) (by decide)).1
    have r8 : gl S' 60 0 = gl S 60 0 := (q.r (by decide) (by decide) (by decide) (by decide)).2.1
    exact I.scr (q.1.mono (fun k x hw => Or.inl (by unfold Wb at hw; unfold Scr; omega))) (by rw [r9]) (by rw [r9]) (by rw [r9]) (by rw [r8]) (by rw [r8])
  · exact (Fr.si (Or.inr (Or.inl ⟨rfl, rfl⟩))).tr (hf.mono (fun k x hw => Or.inl hw))
  · rw [(r 36 0 (by decide)).1]; exact c2.2.2.2.1
theorem e_lay {S3 : St} {T : Nat → Int32} {mn hb9 kn dt : Nat → Int32} (eT : gi S3 61 0 = T) (c1 : Cn T N D hh lv ri to ch) (c5 : Cdr N D mn hb9 kn dt T) (ha : a < N) (hb : b < N) : Ok (f_X12_layGains 0 (Int32.ofNat a) (Int32.ofNat b) S3) (Lg S3 T N D lv a b lv 0) := by
  unfold f_X12_layGains
  refine Ok.o (ps_loop (S := S3) (N := N) (P := fun S' => Fr (fun k x => k = 70 ∧ x = 0) S3 S' ∧ ∀ i, i < N → gi S' 70 0 i = gi S3 61 0 (12 + i)) (by rw [eT]; exact c1.1.1) c1.1.2 (fun S' hf hi => Ok.sm ⟨hf, hi⟩) FU 0 _ Fr.rf (fun i hi => absurd hi (by omega)) (by omega) (by unfold FU; omega)) (fun S4 hq => ?_)
  exact lg_all (S := S3) (P := Lg S3 T N D lv a b lv 0) c1.1.2 c1.2.1.2 c1.2.2.2.1.2 ha hb eT c1.1.1 c1.2.1.1 c1.2.2.2.1.1 c5 (fun S' q => Ok.sm q) FU 0 S4 ⟨hq.1.mono (fun k x hw => ⟨Or.inl hw.1, hw.2⟩), fun s hs _ _ => by rw [hq.2 s hs, eT], fun i' j' _ _ h9 => by omega⟩ (by omega) (by have := c1.2.2.2.1.2; unfold FU; omega)
/-- class's table in S1, reference's in S2 -/
def Gm (lv : Nat) (GA GB : Nat → Nat → Int32) (S1 S2 : St) : Prop := lv ≤ 8 ∧ gi S1 36 0 0 = Int32.ofNat lv ∧ (∀ i j, i < lv → j < lv → gi S1 38 i j = GA i j ∧ gi S1 40 i j = GB i j) ∧ gi S2 61 0 3 = Int32.ofNat lv ∧ ∀ i j, i < lv → j < lv → f_X12_gainOf 0 (Int32.ofNat i) (Int32.ofNat j) 0 S2 = some (GA i j) ∧ f_X12_gainOf 0 (Int32.ofNat i) (Int32.ofNat j) 1 S2 = some (GB i j)
theorem Gm.mk {T : Nat → Int32} {S1 S3 S4 : St} (hl : lv ≤ 8) (n3 : T 3 = Int32.ofNat lv) (q1 : Bg S T N D lv a b lv 0 S1) (eT : gi S3 61 0 = T) (q2 : Lg S3 T N D lv a b lv 0 S4) : Gm lv (GX T N D a b a) (GX T N D a b b) S1 S4 := by
  refine ⟨hl, q1.2.1, fun i j hi hj => q1.2.2.2 i j hi hj (Or.inl hi), ?_, fun i j hi hj => ?_⟩
  · rw [(q2.1 61 0 (fun z => by omega)).1, eT]; exact n3
  · have e := q2.2.2 i j hi hj (Or.inl hi)
    unfold f_X12_gainOf bv
    dsimp only
    rw [brp rfl, brn (by decide), show (0 + 8 * Int32.ofNat i + Int32.ofNat j : Int32) = Int32.ofNat (8 * i + j) by rw [zMu, Int32.zero_add, zAA], show (64 + 8 * Int32.ofNat i + Int32.ofNat j : Int32) = Int32.ofNat (64 + 8 * i + j) by rw [zMu, zA, zAA], ck_t (ib (by omega) (by omega)), ck_t (ib (by omega) (by omega)), zN (by omega), zN (by omega), e.1, e.2]
    exact ⟨rfl, rfl⟩
end GB
