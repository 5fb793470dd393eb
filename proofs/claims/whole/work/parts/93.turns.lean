-- TURNS: all of them, and the cases
section TW
variable {lv : Nat} {GA GB : Nat → Nat → Int32} {A B : St} {m t : Nat}
theorem tn_lev (g : Gm lv GA GB A B) (hb : ∀ i k, i < lv → k < lv → Bd (GA i k) 58806 ∧ Bd (GB i k) 58806) (hm : m ≤ 40) (ht : t < m) : ∀ (n j : Nat) (S1 S2 : St), j ≤ lv → lv < n + j → Rt lv m A B S1 S2 t j → ∃ S1' S2', Rt lv m A B S1' S2' t lv ∧ (∀ K, f_X4_foresee_44 0 (Int32.ofNat t) K n (Int32.ofNat j) S1 = K S1') ∧ ∀ K, f_X12_layTurns_61 0 (Int32.ofNat t) K n (Int32.ofNat j) S2 = K S2' := by
  have hl := g.1
  intro n
  induction n with
  | zero => intro j S1 S2 _ h; omega
  | succ n ih =>
    intro j S1 S2 hj hn R
    have G := R.gm g
    by_cases hc : lv ≤ j
    · have ej : j = lv := by omega
      subst ej
      refine ⟨S1, S2, R, fun K => ?_, fun K => ?_⟩
      · rw [f_X4_foresee_44, G.2.1, brp ((zLE (by omega) (by omega)).mpr hc)]
      · rw [f_X12_layTurns_61, ck_t (by decide), show gi S2 61 0 (nn 3) = Int32.ofNat j from G.2.2.2.1, brp ((zLE (by omega) (by omega)).mpr hc)]
    · obtain ⟨X, Y, x1, y1, R1⟩ := tn_cell g hb (show j < lv by omega) hm ht rfl R
      obtain ⟨X2, Y2, R2, w1, w2⟩ := ih (j + 1) X Y (by omega) (by omega) R1
      refine ⟨X2, Y2, R2, fun K => ?_, fun K => ?_⟩
      · rw [f_X4_foresee_44, G.2.1, brn (fun w => hc ((zLE (by omega) (by omega)).mp w)), x1]
        show f_X4_foresee_44 0 _ K n (Int32.ofNat j + 1) X = _
        rw [zp1]; exact w1 K
      · rw [f_X12_layTurns_61, ck_t (by decide), show gi S2 61 0 (nn 3) = Int32.ofNat lv from G.2.2.2.1, brn (fun w => hc ((zLE (by omega) (by omega)).mp w)), bvE, bvE, bvE, show rmI (Int32.ofNat t) 2 = Int32.ofNat (t % 2) from zR (b := 2) (by omega) (by omega), zMu, zAA]
        by_cases h : t % 2 = 0
        · rw [if_pos h] at y1
          rw [h, brp (show Int32.ofNat 0 = 0 from rfl)]
          dsimp only
          rw [y1, bvE, zp1]; exact w2 K
        · rw [if_neg h] at y1
          rw [show t % 2 = 1 by omega, brn (by decide)]
          dsimp only
          rw [y1, bvE, zp1]; exact w2 K
theorem tn_all (g : Gm lv GA GB A B) (hb : ∀ i k, i < lv → k < lv → Bd (GA i k) 58806 ∧ Bd (GB i k) 58806) (hm : m ≤ 40) : ∀ (n r : Nat) (S1 S2 : St), r ≤ m → r < n → Rt lv m A B S1 S2 r lv → ∃ S1' S2', Rt lv m A B S1' S2' 0 lv ∧ (∀ K, f_X4_foresee_38 0 K n (Int32.ofNat r - 1) S1 = K S1') ∧ ∀ K, f_X12_layTurns_53 0 K n (Int32.ofNat r - 1) S2 = K S2' := by
  intro n
  induction n with
  | zero => intro r S1 S2 _ h; omega
  | succ n ih =>
    intro r S1 S2 hr hn R
    cases r with
    | zero =>
      have : Int32.ofNat 0 - 1 < 0 := by decide
      exact ⟨S1, S2, R, fun K => by rw [f_X4_foresee_38, brp this], fun K => by rw [f_X12_layTurns_53, brp this]⟩
    | succ t =>
      have nx : ¬ Int32.ofNat t < 0 := zNeg (by omega)
      obtain ⟨X, Y, R1, x1, y1⟩ := tn_lev g hb hm (show t < m by omega) FU 0 S1 S2 (by omega) (by have := g.1; unfold FU; omega) ⟨R.1, R.2.1, fun t' j hj ht' hc => R.2.2 t' j hj ht' (by omega)⟩
      obtain ⟨X2, Y2, R2, w1, w2⟩ := ih t X Y (by omega) (by omega) R1
      have o0 : Int32.ofNat 0 = (0 : Int32) := rfl
      rw [o0] at x1 y1
      have mo : Int32.ofNat t + (-1) = Int32.ofNat t - 1 := (Int32.sub_eq_add_neg _ _).symm
      refine ⟨X2, Y2, R2, fun K => ?_, fun K => ?_⟩
      · rw [zSub1 (by omega), show t + 1 - 1 = t by omega, f_X4_foresee_38, brn nx, x1, bvE, mo]; exact w1 K
      · rw [zSub1 (by omega), show t + 1 - 1 = t by omega, f_X12_layTurns_53, brn nx, y1, bvE, mo]; exact w2 K
theorem z_1 (hl : lv ≤ 8) (hm : m ≤ 40) : ∀ (n i : Nat) (S : St), i ≤ lv → lv < n + i → gi A 36 0 0 = Int32.ofNat lv → Fr (fun k _ => k = 42 ∨ k = 48 ∨ k = 58) A S → (∀ d, d < i → gi S 48 m d = 0 ∧ gi S 58 m d = 0) → ∃ S', Fr (fun k _ => k = 42 ∨ k = 48 ∨ k = 58) A S' ∧ (∀ d, d < lv → gi S' 48 m d = 0 ∧ gi S' 58 m d = 0) ∧ ∀ K, f_X4_foresee_2 0 (Int32.ofNat m) K n (Int32.ofNat i) S = K S' := by
  intro n
  induction n with
  | zero => intro j S _ h; omega
  | succ n ih =>
    intro i S hj hn k0 hf hz
    have k1 : gi S 36 0 0 = Int32.ofNat lv := by rw [(hf 36 0 (fun z => by omega)).1]; exact k0
    by_cases hc : lv ≤ i
    · exact ⟨S, hf, fun d hd => hz d (by omega), fun K => by rw [f_X4_foresee_2, k1, brp ((zLE (by omega) (by omega)).mpr hc)]⟩
    · obtain ⟨S', w1, w2, w3⟩ := ih (i + 1) (si (si S 48 m i 0) 58 m i 0) (by omega) (by omega) k0 (hf.tr ((Fr.si (Or.inr (Or.inl rfl))).tr (Fr.si (Or.inr (Or.inr rfl))))) (fun d hd => by
        rw [pgi_si, if_neg (by omega), pgi_si, if_pos ⟨rfl, rfl⟩, pgi_si, if_pos ⟨rfl, rfl⟩, pgi_si, if_neg (by omega)]
        by_cases e : d = i
        · rw [e, upd_eq, upd_eq]; exact ⟨rfl, rfl⟩
        · rw [upd_ne e, upd_ne e]; exact hz d (by omega))
      refine ⟨S', w1, w2, fun K => ?_⟩
      rw [f_X4_foresee_2, k1, brn (fun w => hc ((zLE (by omega) (by omega)).mp w)), ck_t (ib (by omega) (by omega)), ck_t (ib (by omega) (by omega)), bvE, ck_t (ib (by omega) (by omega)), ck_t (ib (by omega) (by omega)), bvE, bvE, zN (by omega), zN (by omega), zp1]; exact w3 K
theorem z_2 (hm : m ≤ 40) : ∀ (n i : Nat) (S : St), i ≤ 8 → 8 < n + i → Fr Wt A S → (∀ d, d < i → gl S 74 0 (8 * m + d) = 0 ∧ gl S 75 0 (8 * m + d) = 0) → ∃ S', Fr Wt A S' ∧ (∀ d, d < 8 → gl S' 74 0 (8 * m + d) = 0 ∧ gl S' 75 0 (8 * m + d) = 0) ∧ ∀ K, f_X12_layTurns_9 0 (Int32.ofNat m) K n (Int32.ofNat i) S = K S' := by
  intro n
  induction n with
  | zero => intro j S _ h; omega
  | succ n ih =>
    intro i S hj hn hf hz
    by_cases hc : 8 ≤ i
    · exact ⟨S, hf, fun d hd => hz d (by omega), fun K => by rw [f_X12_layTurns_9, brp (show (8 : Int32) ≤ Int32.ofNat i from (zLE (a := 8) (by omega) (by omega)).mpr hc)]⟩
    · obtain ⟨S', w1, w2, w3⟩ := ih (i + 1) (sl (sl S 74 0 (8 * m + i) 0) 75 0 (8 * m + i) 0) (by omega) (by omega) (hf.tr ((Fr.sl ⟨Or.inr (Or.inl rfl), rfl⟩).tr (Fr.sl ⟨Or.inr (Or.inr rfl), rfl⟩))) (fun d hd => by
        show vp_updL (gl S 74 0) (8 * m + i) 0 (8 * m + d) = 0 ∧ vp_updL (gl S 75 0) (8 * m + i) 0 (8 * m + d) = 0
        by_cases e : d = i
        · rw [e, updL_eq, updL_eq]; exact ⟨rfl, rfl⟩
        · rw [updL_ne (by omega), updL_ne (by omega)]; exact hz d (by omega))
      refine ⟨S', w1, w2, fun K => ?_⟩
      rw [f_X12_layTurns_9, brn (show ¬ (8 : Int32) ≤ Int32.ofNat i from fun w => hc ((zLE (a := 8) (by omega) (by omega)).mp w)), zMu, zAA, ck_t (ib (by omega) (by omega)), bvE, ck_t (ib (by omega) (by omega)), bvE, bvE, zN (by omega), zp1]; exact w3 K
theorem tn_two (g : Gm lv GA GB A B) (hb : ∀ i k, i < lv → k < lv → Bd (GA i k) 58806 ∧ Bd (GB i k) 58806) (hm1 : 1 ≤ m) (hm : m ≤ 40) : ∃ S1' S2', Rt lv m A B S1' S2' 0 lv ∧ f_X4_foresee 0 (Int32.ofNat m) A = some S1' ∧ ∀ K : St → Option St, f_X12_layTurns_9 0 (Int32.ofNat m) (fun S_9 => bv (Int32.ofNat m - 1) (fun x4_10 => f_X12_layTurns_53 0 K FU x4_10 S_9)) FU 0 B = K S2' := by
  have hl := g.1
  obtain ⟨X, x1, x2, x3⟩ := z_1 (A := A) hl hm FU 0 A (by omega) (by unfold FU; omega) g.2.1 Fr.rf (fun d h => by omega)
  obtain ⟨Y, y1, y2, y3⟩ := z_2 (A := B) hm FU 0 B (by omega) (by unfold FU; omega) Fr.rf (fun d h => by omega)
  have R0 : Rt lv m A B X Y m lv := by
    refine ⟨x1, y1, fun t' j hj ht' hc => ?_⟩
    have e : t' = m := by omega
    subst e
    have a1 := x2 j hj
    have a2 := y2 j (by omega)
    have z : ∀ n, Bd (0 : Int32) n := fun n => ⟨by show -(n : Int) ≤ 0; omega, by show (0 : Int) ≤ n; omega⟩
    unfold Cell
    rw [a2.1, a2.2, a1.1, a1.2]
    refine ⟨?_, ?_, z _, z _, fun h => by omega⟩
    · split
      · rw [a1.1]; rfl
      · rw [a1.2]; rfl
    · split
      · rw [a1.2]; rfl
      · rw [a1.1]; rfl
  obtain ⟨X2, Y2, R2, w1, w2⟩ := tn_all g hb hm FU m X Y (by omega) (by unfold FU; omega) R0
  have o0 : Int32.ofNat 0 = (0 : Int32) := rfl
  rw [o0] at x3 y3
  refine ⟨X2, Y2, R2, ?_, fun K => ?_⟩
  · unfold f_X4_foresee
    rw [x3, bvE, w1]
  · rw [y3, bvE, w2]
theorem Rt.f1 {S1 S2 : St} {i : Nat} (R : Rt lv m A B S1 S2 t i) : Fr Wp A S1 := R.1.mono (fun k x hw => by unfold Wp Scr; omega)
theorem Rt.f2 {S1 S2 : St} {i : Nat} (R : Rt lv m A B S1 S2 t i) : Fr Wp B S2 := R.2.1.mono (fun k x hw => by unfold Wt at hw; unfold Wp Scr; omega)
theorem tf1 {x1 x2 x3 x4 k : Int32} {S : St} (e : f_X12_pairFault 0 x1 x2 S = some k) (h : ¬ k ≤ 0) : f_X12_turnFault 0 x1 x2 x3 x4 S = some k := by
  unfold f_X12_turnFault
  rw [e]
  show br (k ≤ 0) _ (some k) = _
  rw [brn h]
theorem tf2 {x1 x2 x3 x4 : Int32} {S : St} (e : f_X12_pairFault 0 x1 x2 S = some 0) (h : ¬ (1 ≤ x4 ∧ x4 ≤ 40)) : f_X12_turnFault 0 x1 x2 x3 x4 S = some 2 := by
  unfold f_X12_turnFault
  rw [e, m_wn (lo := 1) (hi := 40) (by decide) (by decide) h]; rfl
theorem tf3 {x1 x2 x3 x4 : Int32} {S : St} (e : f_X12_pairFault 0 x1 x2 S = some 0) (h : 1 ≤ x4 ∧ x4 ≤ 40) (u : f_X12_isLevel 0 x3 S = some 0) : f_X12_turnFault 0 x1 x2 x3 x4 S = some 3 := by
  unfold f_X12_turnFault
  rw [e, m_wy (lo := 1) (hi := 40) (by decide) (by decide) h, u]; rfl
theorem tf4 {x1 x2 x3 x4 : Int32} {S : St} (e : f_X12_pairFault 0 x1 x2 S = some 0) (h : 1 ≤ x4 ∧ x4 ≤ 40) (u : f_X12_isLevel 0 x3 S = some 1) : f_X12_turnFault 0 x1 x2 x3 x4 S = some 0 := by
  unfold f_X12_turnFault
  rw [e, m_wy (lo := 1) (hi := 40) (by decide) (by decide) h, u]; rfl
/-- the level set in turn x -/
theorem set_two {S1 S2 : St} {x : Nat} (hl : lv ≤ 8) (hm : m ≤ 40) (hx : x < m) (R : Rt lv m A B S1 S2 0 lv) : ∀ (n n' k c : Nat), k ≤ x → c < lv → x + 1 < n + k → x < n' + k → ∃ r, f_X4_setInTurn_5 0 (Int32.ofNat x) S1 (fun y => some y) n (Int32.ofNat c) (Int32.ofNat k) = some r ∧ f_X12_turn_53 0 (Int32.ofNat x) (fun (x6 : Int32) (S : St) => ck (inb (8 * Int32.ofNat x + x6) 328 = true) (some (gi S 73 0 (nn (8 * Int32.ofNat x + x6)), S))) n' (Int32.ofNat c) (Int32.ofNat k) S2 = some (r, S2) := by
  intro n
  induction n with
  | zero => intro n' k c _ _ h; omega
  | succ n ih =>
    intro n' k c hk hc hn hn'
    obtain ⟨n', rfl⟩ : ∃ y, n' = y + 1 := ⟨n' - 1, by omega⟩
    obtain ⟨d, hd, d1, d2⟩ := (R.2.2 k c hc (by omega) (by omega)).2.2.2.2 (by omega)
    rw [f_X4_setInTurn_5, f_X12_turn_53, brn (fun w => absurd ((zL (by omega) (by omega)).mp w) (by omega)), ck_t (ib (by omega) (by omega)), ck_t (ib (by omega) (by omega)), zN (by omega), zN (by omega), d1, bvE, bvE, zp1]
    by_cases e : k = x
    · subst e
      rw [brp ((zLE (by omega) (by omega)).mpr (Nat.le_refl k)), zMu, zAA, ck_t (ib (by omega) (by omega)), zN (by omega), d2]
      obtain ⟨n, rfl⟩ : ∃ y, n = y + 1 := ⟨n - 1, by omega⟩
      rw [f_X4_setInTurn_5, brp ((zL (by omega) (by omega)).mpr (by omega))]
      exact ⟨_, rfl, rfl⟩
    · rw [brn (fun w => absurd ((zLE (by omega) (by omega)).mp w) (by omega)), show (8 * Int32.ofNat k + Int32.ofNat c : Int32) = Int32.ofNat (8 * k + c) by rw [zMu, zAA], ck_t (ib (by omega) (by omega)), zN (by omega), d2, bvE, bvE]
      exact ih n' (k + 1) d (by omega) hd (by omega) (by omega)
end TW
-- CASES turn, gains
theorem pc_24 {t : Nat} {S : St} {a1 a2 a3 a4 a5 : Int32} (h : Inv t S) : Ok (fc_24 (t + 1) a1 a2 a3 a4 a5 S) (Inv (t + 1)) := by
  unfold fc_24 f_L_turn f_X11_turn
  refine tw_i (S := S) ?_
  obtain ⟨⟨N, D, hh, lv, ri, to, ch, c1, c2, c3, c4, c5, c6, c7, c8, c9, c10, c11, c12, -⟩, -⟩ := id h
  have n0 := c1.1.1
  have n3 := c1.2.2.2.1.1
  have hl := c1.2.2.2.1.2
  rcases two_cases a1 a2 c1.1.2 with ⟨p1, p2⟩ | ⟨p1, p2⟩ | ⟨a, b, ha, hb, hab, rfl, rfl, p1, p2⟩
  · exact Ok.xl (n := 3) (S := S) (by unfold f_X11_needTurns; rw [p1 S c2.1]; rfl) (Tw.l (cd := 1) rfl ⟨by decide, Ok.oe (tf1 (p2 S n0) (by decide)) (Ok.v (Ok.bf (show ¬ (1 : Int32) ≤ 0 by decide) (Ok.sm ⟨rfl, pf_bad h⟩)))⟩)
  · exact Ok.xl (n := 2) (S := S) (by unfold f_X11_needTurns; rw [p1 S c2.1]; rfl) (Tw.l (cd := 2) rfl ⟨by decide, Ok.oe (tf1 (p2 S n0) (by decide)) (Ok.v (Ok.bf (show ¬ (2 : Int32) ≤ 0 by decide) (Ok.sm ⟨rfl, pf_bad h⟩)))⟩)
  have nt : f_X11_needTurns 0 (Int32.ofNat a) (Int32.ofNat b) a3 a4 S = xb (τ := Unit) (f_X11_needWithin 0 a4 1 40 S) (fun _u S_4 => xb (τ := Unit) (f_X11_needLevel 0 a3 S_4) (fun _u S_6 => some (.inr (), S_6))) := by
    unfold f_X11_needTurns; rw [p1 S c2.1]; rfl
  by_cases hw : 1 ≤ a4 ∧ a4 ≤ 40
  case neg => exact Ok.xl (n := 2) (S := S) (by rw [nt, n_wi hw]; rfl) (Tw.l (cd := 2) rfl ⟨by decide, Ok.oe (tf2 (p2 S n0) hw) (Ok.v (Ok.bf (show ¬ (2 : Int32) ≤ 0 by decide) (Ok.sm ⟨rfl, pf_bad h⟩)))⟩)
  have nt2 : f_X11_needTurns 0 (Int32.ofNat a) (Int32.ofNat b) a3 a4 S = xb (τ := Unit) (f_X11_needLevel 0 a3 S) (fun _u S_6 => some (.inr (), S_6)) := by rw [nt, y_wi hw]; rfl
  rcases lev_cases a3 hl with ⟨u1, u2⟩ | ⟨i, hi, rfl, u1, u2⟩
  · exact Ok.xl (n := 4) (S := S) (by rw [nt2, u1 S c2.2.2.2.1]; rfl) (Tw.l (cd := 3) rfl ⟨by decide, Ok.oe (tf3 (p2 S n0) hw (u2 S n3)) (Ok.v (Ok.bf (show ¬ (3 : Int32) ≤ 0 by decide) (Ok.sm ⟨rfl, pf_bad h⟩)))⟩)
  refine Ok.xr (S := S) (x := ()) (by rw [nt2, u1 S c2.2.2.2.1]; rfl) (Ok.v ?_)
  obtain ⟨m, hm1, hm2, rfl⟩ := z1n (n := 40) (by omega) hw
  have wi : ∀ S9 : St, f_X12_within a5.toInt64 0 (Int32.toInt64 (Int32.ofNat m - 1)) S9 = some (if ¬ a5 < 0 ∧ a5 < Int32.ofNat m then 1 else 0) := by
    intro S9
    rw [e_wi (a := 0) (lo := 0) (hi := Int32.ofNat m - 1) (by decide) rfl]
    congr 1
    have e9 : (0 ≤ a5 ∧ a5 ≤ Int32.ofNat m - 1) ↔ (¬ a5 < 0 ∧ a5 < Int32.ofNat m) := by
      rw [Int32.not_lt]
      refine and_congr Iff.rfl ?_
      rw [Int32.le_iff_toInt_le, Int32.lt_iff_toInt_lt, zSub1 hm1, zI (by omega), zI (by omega)]; omega
    by_cases hc : 0 ≤ a5 ∧ a5 ≤ Int32.ofNat m - 1
    · rw [if_pos hc, if_pos (e9.mp hc)]
    · rw [if_neg hc, if_neg (fun z => hc (e9.mpr z))]
  by_cases hx : ¬ a5 < 0 ∧ a5 < Int32.ofNat m
  case neg =>
    have fin : Ok (f_X12_turn 0 (Int32.ofNat a) (Int32.ofNat b) (Int32.ofNat i) (Int32.ofNat m) a5 (sl S 81 0 (nn 0) (Int32.toInt64 (-1)))) (fun o => gi o.2 60 0 5 = 0 ∧ o.1 = -1 ∧ gl o.2 81 0 (nn 0) = Int32.toInt64 (-1) ∧ Inv (t + 1) o.2) :=
      Ok.oe (tf4 (p2 _ n0) hw (u2 _ n3)) (Ok.v (Ok.bt (show (0 : Int32) ≤ 0 by decide) (Ok.oe (wi _) (Ok.bt (if_neg hx) (Ok.sm ⟨rfl, rfl, rfl, pf_bad h.out⟩)))))
    by_cases hz : a5 < 0
    · exact Ok.bt hz (Ok.sm (Tw.r fin))
    · exact Ok.bf hz (Ok.bf (fun w => hx ⟨hz, w⟩) (Ok.sm (Tw.r fin)))
  obtain ⟨x, hxm, rfl⟩ := zW (x := a5) (n := m) (by omega) hx.1 hx.2
  refine Ok.bf hx.1 (Ok.bt hx.2 ?_)
  refine play (fun r : Int32 => r.toInt64) h c1 c2 c3 c5 c6 c9 c12 ha hb (km := fun S_2 => on (f_X12_layTurns_9 0 (Int32.ofNat m) (fun S_9 => bv (Int32.ofNat m - 1) (fun x4_10 => f_X12_layTurns_53 0 (fun S => some S) FU x4_10 S_9)) FU 0 S_2) (fun S_9 => f_X12_turn_53 0 (Int32.ofNat x) (fun (x6_14 : Int32) (S_15 : St) => ck (inb ((8 * Int32.ofNat x) + x6_14) 328 = true) (some (gi S_15 73 0 (nn ((8 * Int32.ofNat x) + x6_14)), S_15))) FU (Int32.ofNat i) 0 S_9)) (fun S9 Q e9 hq => Ok.oe (tf4 (p2 S9 (by rw [e9]; exact n0)) hw (u2 S9 (by rw [e9]; exact n3))) (Ok.v (Ok.bt (show (0 : Int32) ≤ 0 by decide) (Ok.oe (wi _) (Ok.bf (by rw [if_pos hx]; decide) ?_))))) (fun S1 S2 g => ?_)
  · obtain ⟨o, e1, e2⟩ := hq
    refine ⟨o, ?_, e2⟩
    rw [← e1]
    unfold f_X12_layTurns
    cases f_X12_layGains 0 (Int32.ofNat a) (Int32.ofNat b) (si S9 60 0 5 0) <;> rfl
  · obtain ⟨X, Y, R, x1, y1⟩ := tn_two g (fun i k hi hk => ⟨bd_gx c1.2.1.2 c5 c9 c3 ha (Or.inl rfl) hi hk, bd_gx c1.2.1.2 c5 c9 c3 hb (Or.inr rfl) hi hk⟩) hm1 hm2
    obtain ⟨r, r1, r2⟩ := set_two hl hm2 hxm R FU FU 0 i (by omega) hi (by unfold FU; omega) (by unfold FU; omega)
    rw [show Int32.ofNat 0 = (0 : Int32) from rfl] at r1 r2
    refine ⟨r, X, Y, ?_, R.f1, ?_, R.f2⟩
    · rw [x1]
      show on (f_X4_setInTurn 0 (Int32.ofNat i) (Int32.ofNat x) X) _ = _
      unfold f_X4_setInTurn
      rw [r1]; rfl
    · rw [y1]
      exact r2
theorem pc_25 {t : Nat} {S : St} {a1 a2 a3 a4 a5 : Int32} (h : Inv t S) : Ok (fc_25 (t + 1) a1 a2 a3 a4 a5 S) (Inv (t + 1)) := by
  unfold fc_25 f_L_gains
  obtain ⟨⟨N, D, hh, lv, ri, to, ch, c1, c2, c3, c4, c5, c6, c7, c8, c9, c10, c11, c12, -⟩, -⟩ := id h
  have n0 := c1.1.1
  have n3 := c1.2.2.2.1.1
  have hl := c1.2.2.2.1.2
  have go : ∀ v : Int32, (v = 0 ∨ v = 1) → Ok (f_X11_gains 0 a1 a2 a3 a4 v S) (Tw S (fun k S => br (k = 3) (some (1, S)) (br (k = 2) (some (2, S)) (br (k = 4) (some (3, S)) (none)))) (fun cd => cd ≠ 0 ∧ Ok (f_X12_gains 0 a1 a2 a3 a4 v S) (fun o => gi o.2 60 0 5 = cd ∧ Inv (t + 1) o.2)) (fun r S1 => Ok (f_X12_gains 0 a1 a2 a3 a4 v (sl S1 81 0 (nn 0) r)) (fun o => gi o.2 60 0 5 = 0 ∧ o.1 = r ∧ gl o.2 81 0 (nn 0) = r ∧ Inv (t + 1) o.2))) := by
    intro v hv
    unfold f_X11_gains
    rcases two_cases a1 a2 c1.1.2 with ⟨p1, p2⟩ | ⟨p1, p2⟩ | ⟨a, b, ha, hb, hab, rfl, rfl, p1, p2⟩
    · exact Ok.xl (n := 3) (S := S) (by unfold f_X11_needTurns; rw [p1 S c2.1]; rfl) (Tw.l (cd := 1) rfl ⟨by decide, Ok.oe (tf1 (p2 S n0) (by decide)) (Ok.v (Ok.bf (show ¬ (1 : Int32) ≤ 0 by decide) (Ok.sm ⟨rfl, pf_bad h⟩)))⟩)
    · exact Ok.xl (n := 2) (S := S) (by unfold f_X11_needTurns; rw [p1 S c2.1]; rfl) (Tw.l (cd := 2) rfl ⟨by decide, Ok.oe (tf1 (p2 S n0) (by decide)) (Ok.v (Ok.bf (show ¬ (2 : Int32) ≤ 0 by decide) (Ok.sm ⟨rfl, pf_bad h⟩)))⟩)
    have nt : f_X11_needTurns 0 (Int32.ofNat a) (Int32.ofNat b) a3 a4 S = xb (τ := Unit) (f_X11_needWithin 0 a4 1 40 S) (fun _u S_4 => xb (τ := Unit) (f_X11_needLevel 0 a3 S_4) (fun _u S_6 => some (.inr (), S_6))) := by
      unfold f_X11_needTurns; rw [p1 S c2.1]; rfl
    by_cases hw : 1 ≤ a4 ∧ a4 ≤ 40
    case neg => exact Ok.xl (n := 2) (S := S) (by rw [nt, n_wi hw]; rfl) (Tw.l (cd := 2) rfl ⟨by decide, Ok.oe (tf2 (p2 S n0) hw) (Ok.v (Ok.bf (show ¬ (2 : Int32) ≤ 0 by decide) (Ok.sm ⟨rfl, pf_bad h⟩)))⟩)
    have nt2 : f_X11_needTurns 0 (Int32.ofNat a) (Int32.ofNat b) a3 a4 S = xb (τ := Unit) (f_X11_needLevel 0 a3 S) (fun _u S_6 => some (.inr (), S_6)) := by rw [nt, y_wi hw]; rfl
    rcases lev_cases a3 hl with ⟨u1, u2⟩ | ⟨i, hi, rfl, u1, u2⟩
    · exact Ok.xl (n := 4) (S := S) (by rw [nt2, u1 S c2.2.2.2.1]; rfl) (Tw.l (cd := 3) rfl ⟨by decide, Ok.oe (tf3 (p2 S n0) hw (u2 S n3)) (Ok.v (Ok.bf (show ¬ (3 : Int32) ≤ 0 by decide) (Ok.sm ⟨rfl, pf_bad h⟩)))⟩)
    refine Ok.xr (S := S) (x := ()) (by rw [nt2, u1 S c2.2.2.2.1]; rfl) ?_
    obtain ⟨m, hm1, hm2, rfl⟩ := z1n (n := 40) (by omega) hw
    refine play (fun r : Int64 => r) h c1 c2 c3 c5 c6 c9 c12 ha hb (km := fun S_2 => on (f_X12_layTurns_9 0 (Int32.ofNat m) (fun S_9 => bv (Int32.ofNat m - 1) (fun x4_10 => f_X12_layTurns_53 0 (fun S => some S) FU x4_10 S_9)) FU 0 S_2) (fun S_6 => br (v = 0) (ck (inb (Int32.ofNat i) 328 = true) (some (gl S_6 74 0 (nn (Int32.ofNat i)), S_6))) (ck (inb (Int32.ofNat i) 328 = true) (some (gl S_6 75 0 (nn (Int32.ofNat i)), S_6))))) (fun S9 Q e9 hq => Ok.oe (tf4 (p2 S9 (by rw [e9]; exact n0)) hw (u2 S9 (by rw [e9]; exact n3))) (Ok.v (Ok.bt (show (0 : Int32) ≤ 0 by decide) ?_))) (fun S1 S2 g => ?_)
    · obtain ⟨o, e1, e2⟩ := hq
      refine ⟨o, ?_, e2⟩
      rw [← e1]
      unfold f_X12_layTurns
      cases f_X12_layGains 0 (Int32.ofNat a) (Int32.ofNat b) (si S9 60 0 5 0) <;> rfl
    · obtain ⟨X, Y, R, x1, y1⟩ := tn_two g (fun i k hi hk => ⟨bd_gx c1.2.1.2 c5 c9 c3 ha (Or.inl rfl) hi hk, bd_gx c1.2.1.2 c5 c9 c3 hb (Or.inr rfl) hi hk⟩) hm1 hm2
      have cl := R.2.2 0 i hi (by omega) (by omega)
      have q1 : (gi X 48 0 i).toInt64 = gl Y 74 0 i := by have := cl.1; rw [show 8 * 0 + i = i by omega] at this; exact this
      have q2 : (gi X 58 0 i).toInt64 = gl Y 75 0 i := by have := cl.2.1; rw [show 8 * 0 + i = i by omega] at this; exact this
      rcases hv with rfl | rfl
      · refine ⟨gl Y 74 0 i, X, Y, ?_, R.f1, ?_, R.f2⟩
        · rw [x1]
          unfold on
          dsimp only
          rw [bvE, brp rfl, ck_t (by decide), ck_t (ib (by omega) (by omega)), zN (by omega), ← q1]; rfl
        · rw [y1]
          unfold on
          dsimp only
          rw [brp rfl, ck_t (ib (by omega) (by omega)), zN (by omega)]
      · refine ⟨gl Y 75 0 i, X, Y, ?_, R.f1, ?_, R.f2⟩
        · rw [x1]
          unfold on
          dsimp only
          rw [bvE, brn (by decide), ck_t (by decide), ck_t (ib (by omega) (by omega)), zN (by omega), ← q2]; rfl
        · rw [y1]
          unfold on
          dsimp only
          rw [brn (by decide), ck_t (ib (by omega) (by omega)), zN (by omega)]
  by_cases h5 : a5 = 0
  · exact Ok.v (Ok.bt h5 (Ok.k2 (fun r S5 => brp h5) (tw_l (S := S) (go 0 (Or.inl rfl)))))
  · exact Ok.v (Ok.bf h5 (Ok.k2 (fun r S5 => brn h5) (tw_l (S := S) (go 1 (Or.inr rfl)))))
