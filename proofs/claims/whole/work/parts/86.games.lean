-- GAMES: joint, and the cases
theorem dv10 : ∀ p, p < 8 → ∀ q, q < 8 → dvI (Int32.ofNat (10 * p + q)) 10 = Int32.ofNat p ∧ rmI (Int32.ofNat (10 * p + q)) 10 = Int32.ofNat q := by decide
section GD
variable {lv : Nat} {GA GB : Nat → Nat → Int32} {S1 S2 : St}
def Jn (lv : Nat) (GA GB : Nat → Nat → Int32) (x y : Int32) : Prop := x = -1 ∨ ∃ p q, p < lv ∧ q < lv ∧ x = Int32.ofNat (10 * p + q) ∧ y = GA p q + GB p q
theorem e_tog1 (g : Gm lv GA GB S1 S2) {i j : Nat} (hi : i < lv) (hj : j < lv) : f_X4_together 0 (Int32.ofNat i) (Int32.ofNat j) S1 = some (GA i j + GB i j) := by
  have hl := g.1
  have e := g.2.2.1 i j hi hj
  unfold f_X4_together
  rw [ck_t (ib (by omega) (by omega)), ck_t (ib (by omega) (by omega)), ck_t (ib (by omega) (by omega)), ck_t (ib (by omega) (by omega)), zN (by omega), zN (by omega), e.1, e.2]
theorem e_tog2 (g : Gm lv GA GB S1 S2) {i j : Nat} (hi : i < lv) (hj : j < lv) : f_X12_together 0 (Int32.ofNat i) (Int32.ofNat j) S2 = some (GA i j + GB i j) := by
  have e := g.2.2.2.2 i j hi hj
  unfold f_X12_together
  rw [e.1, e.2]; rfl
theorem jn_in (g : Gm lv GA GB S1 S2) {i : Nat} (hi : i < lv) : ∀ (n : Nat) (x y : Int32) (j : Nat), j ≤ lv → lv < n + j → Jn lv GA GB x y → ∃ x' y', Jn lv GA GB x' y' ∧ (∀ K, f_X4_jointPair_17 0 (Int32.ofNat i) S1 K n x y (Int32.ofNat j) = K x' y') ∧ ∀ K, f_X12_joint_44 0 (Int32.ofNat i) K n x (Int32.ofNat j) S2 = K x' S2 := by
  have hl := g.1
  intro n
  induction n with
  | zero => intro x y j _ h; omega
  | succ n ih =>
    intro x y j hj hn hJ
    by_cases hc : lv ≤ j
    · refine ⟨x, y, hJ, fun K => ?_, fun K => ?_⟩
      · rw [f_X4_jointPair_17, g.2.1, brp ((zLE (by omega) (by omega)).mpr hc)]
      · rw [f_X12_joint_44, ck_t (by decide), show gi S2 61 0 (nn 3) = Int32.ofNat lv from g.2.2.2.1, brp ((zLE (by omega) (by omega)).mpr hc)]
    · have hj' : j < lv := by omega
      have s1 : ∀ K, f_X4_jointPair_17 0 (Int32.ofNat i) S1 K (n + 1) x y (Int32.ofNat j) = br (x = -1) (f_X4_jointPair_17 0 (Int32.ofNat i) S1 K n (Int32.ofNat (10 * i + j)) (GA i j + GB i j) (Int32.ofNat (j + 1))) (br (GA i j + GB i j ≤ y) (f_X4_jointPair_17 0 (Int32.ofNat i) S1 K n x y (Int32.ofNat (j + 1))) (f_X4_jointPair_17 0 (Int32.ofNat i) S1 K n (Int32.ofNat (10 * i + j)) (GA i j + GB i j) (Int32.ofNat (j + 1)))) := by
        intro K
        rw [f_X4_jointPair_17, g.2.1, brn (fun w => hc ((zLE (by omega) (by omega)).mp w)), e_tog1 g hi hj', ← zp1, ← zAA, ← zMu]; rfl
      obtain ⟨x1, y1, q0, q1, q2⟩ := ih (Int32.ofNat (10 * i + j)) (GA i j + GB i j) (j + 1) (by omega) (by omega) (Or.inr ⟨i, j, hi, hj', rfl, rfl⟩)
      rcases hJ with hx | ⟨p, q, hp, hq, hx, hy⟩
      · refine ⟨x1, y1, q0, fun K => by rw [s1, brp hx]; exact q1 K, fun K => ?_⟩
        rw [f_X12_joint_44, ck_t (by decide), show gi S2 61 0 (nn 3) = Int32.ofNat lv from g.2.2.2.1, brn (fun w => hc ((zLE (by omega) (by omega)).mp w))]
        show br (x = -1) (f_X12_joint_44 0 (Int32.ofNat i) K n (10 * Int32.ofNat i + Int32.ofNat j) (Int32.ofNat j + 1) S2) _ = _
        rw [brp hx, zp1, zMu, zAA]; exact q2 K
      · have hn1 : ¬ x = -1 := by
          intro z
          have := zI (show 10 * p + q < 2147483648 by omega)
          rw [← hx, z] at this
          have w : ((-1 : Int32)).toInt = -1 := by decide
          omega
        have s2 : ∀ K, f_X12_joint_44 0 (Int32.ofNat i) K (n + 1) x (Int32.ofNat j) S2 = br (GA i j + GB i j ≤ y) (f_X12_joint_44 0 (Int32.ofNat i) K n x (Int32.ofNat (j + 1)) S2) (f_X12_joint_44 0 (Int32.ofNat i) K n (Int32.ofNat (10 * i + j)) (Int32.ofNat (j + 1)) S2) := by
          intro K
          rw [f_X12_joint_44, ck_t (by decide), show gi S2 61 0 (nn 3) = Int32.ofNat lv from g.2.2.2.1, brn (fun w => hc ((zLE (by omega) (by omega)).mp w))]
          unfold bv
          dsimp only
          have d := dv10 p (by omega) q (by omega)
          rw [brn hn1, e_tog2 g hi hj', show dvI x 10 = Int32.ofNat p by rw [hx]; exact d.1, show rmI x 10 = Int32.ofNat q by rw [hx]; exact d.2, e_tog2 g hp hq, ← hy, zp1, zMu, zAA]; rfl
        by_cases hw : GA i j + GB i j ≤ y
        · obtain ⟨x2, y2, w0, w1, w2⟩ := ih x y (j + 1) (by omega) (by omega) (Or.inr ⟨p, q, hp, hq, hx, hy⟩)
          exact ⟨x2, y2, w0, fun K => by rw [s1, brn hn1, brp hw]; exact w1 K, fun K => by rw [s2, brp hw]; exact w2 K⟩
        · exact ⟨x1, y1, q0, fun K => by rw [s1, brn hn1, brn hw]; exact q1 K, fun K => by rw [s2, brn hw]; exact q2 K⟩
theorem jn_two (g : Gm lv GA GB S1 S2) : ∃ r, f_X4_jointPair 0 S1 = some r ∧ f_X12_joint_30 0 (fun x S => some (x, S)) FU (-1) 0 S2 = some (r, S2) := by
  have hl := g.1
  have lp : ∀ (n : Nat) (x y : Int32) (i : Nat), i ≤ lv → lv < n + i → Jn lv GA GB x y → ∃ r, f_X4_jointPair_6 0 S1 (fun x => some x) n x y (Int32.ofNat i) = some r ∧ f_X12_joint_30 0 (fun x S => some (x, S)) n x (Int32.ofNat i) S2 = some (r, S2) := by
    intro n
    induction n with
    | zero => intro x y i _ h; omega
    | succ n ih =>
      intro x y i hi hn hJ
      rw [f_X4_jointPair_6, f_X12_joint_30, g.2.1, ck_t (c := inb 3 3179 = true) (by decide), show gi S2 61 0 (nn 3) = Int32.ofNat lv from g.2.2.2.1]
      by_cases hc : lv ≤ i
      · rw [brp ((zLE (by omega) (by omega)).mpr hc), brp ((zLE (by omega) (by omega)).mpr hc)]; exact ⟨x, rfl, rfl⟩
      · rw [brn (fun w => hc ((zLE (by omega) (by omega)).mp w)), brn (fun w => hc ((zLE (by omega) (by omega)).mp w))]
        obtain ⟨x', y', q0, q1, q2⟩ := jn_in g (show i < lv by omega) FU x y 0 (by omega) (by unfold FU; omega) hJ
        rw [show (0 : Int32) = Int32.ofNat 0 from rfl, q1, q2]
        unfold bv
        dsimp only
        rw [zp1]; exact ih x' y' (i + 1) (by omega) (by omega) q0
  exact lp FU (-1) 0 0 (by omega) (by unfold FU; omega) (Or.inl rfl)
end GD
-- CASE reply
theorem pc_21 {t : Nat} {S : St} {a1 a2 a3 a4 a5 : Int32} (h : Inv t S) : Ok (fc_21 (t + 1) a1 a2 a3 a4 a5 S) (Inv (t + 1)) := by
  unfold fc_21 f_L_reply f_X11_reply
  refine tw_i (S := S) ?_
  obtain ⟨⟨N, D, hh, lv, ri, to, ch, c1, c2, c3, c4, c5, c6, c7, c8, c9, c10, c11, c12, -⟩, -⟩ := id h
  have n0 := c1.1.1
  have n3 := c1.2.2.2.1.1
  rcases two_cases a1 a2 c1.1.2 with ⟨p1, p2⟩ | ⟨p1, p2⟩ | ⟨a, b, ha, hb, hab, rfl, rfl, p1, p2⟩
  · exact Ok.xl (p1 S c2.1) (Tw.l (cd := 1) rfl ⟨by decide, Ok.oe (p2 S n0) (Ok.v (Ok.bf (show ¬ (1 : Int32) ≤ 0 by decide) (Ok.sm ⟨rfl, pf_bad h⟩)))⟩)
  · exact Ok.xl (p1 S c2.1) (Tw.l (cd := 2) rfl ⟨by decide, Ok.oe (p2 S n0) (Ok.v (Ok.bf (show ¬ (2 : Int32) ≤ 0 by decide) (Ok.sm ⟨rfl, pf_bad h⟩)))⟩)
  refine Ok.xr (p1 S c2.1) ?_
  rcases lev_cases a3 c1.2.2.2.1.2 with ⟨u1, u2⟩ | ⟨i, hi, rfl, u1, u2⟩
  · exact Ok.xl (u1 S c2.2.2.2.1) (Tw.l (cd := 3) rfl ⟨by decide, Ok.oe (p2 S n0) (Ok.v (Ok.bt (show (0 : Int32) ≤ 0 by decide) (Ok.oe (u2 _ n3) (Ok.bt rfl (Ok.o2e rfl (Ok.sm ⟨rfl, pf_bad h.thr⟩))))))⟩)
  refine Ok.xr (u1 S c2.2.2.2.1) ?_
  refine play (fun r : Int32 => r.toInt64) h c1 c2 c3 c5 c6 c9 c12 ha hb (km := fun S9 => f_X12_reply_45 0 (Int32.ofNat i) (fun x S => some (x, S)) FU 0 1 S9) (fun S9 Q e9 hq => Ok.oe (p2 S9 (by rw [e9]; exact n0)) (Ok.v (Ok.bt (show (0 : Int32) ≤ 0 by decide) (Ok.oe (u2 (si S9 60 0 5 0) (by show gi S9 61 0 3 = _; rw [e9]; exact n3)) (Ok.bf (by decide) hq))))) (fun S1 S2 g => ?_)
  have hl := g.1
  obtain ⟨r, r1, r2⟩ := rp_two g hi FU 0 1 (by omega) (by omega) (by unfold FU; omega)
  refine ⟨r, S1, S2, ?_, Fr.rf, r2, Fr.rf⟩
  show on (f_X4_replyOfA_4 0 (Int32.ofNat i) S1 (fun x => some x) FU (Int32.ofNat 0) (Int32.ofNat 1)) _ = _
  rw [r1]; rfl
-- CASE even
theorem pc_22 {t : Nat} {S : St} {a1 a2 a3 a4 a5 : Int32} (h : Inv t S) : Ok (fc_22 (t + 1) a1 a2 a3 a4 a5 S) (Inv (t + 1)) := by
  unfold fc_22 f_L_even f_X11_even
  refine tw_i (S := S) ?_
  obtain ⟨⟨N, D, hh, lv, ri, to, ch, c1, c2, c3, c4, c5, c6, c7, c8, c9, c10, c11, c12, -⟩, -⟩ := id h
  have n0 := c1.1.1
  rcases two_cases a1 a2 c1.1.2 with ⟨p1, p2⟩ | ⟨p1, p2⟩ | ⟨a, b, ha, hb, hab, rfl, rfl, p1, p2⟩
  · exact Ok.xl (p1 S c2.1) (Tw.l (cd := 1) rfl ⟨by decide, Ok.oe (p2 S n0) (Ok.v (Ok.bf (show ¬ (1 : Int32) ≤ 0 by decide) (Ok.sm ⟨rfl, pf_bad h⟩)))⟩)
  · exact Ok.xl (p1 S c2.1) (Tw.l (cd := 2) rfl ⟨by decide, Ok.oe (p2 S n0) (Ok.v (Ok.bf (show ¬ (2 : Int32) ≤ 0 by decide) (Ok.sm ⟨rfl, pf_bad h⟩)))⟩)
  refine Ok.xr (p1 S c2.1) ?_
  refine play (fun r : Int32 => r.toInt64) h c1 c2 c3 c5 c6 c9 c12 ha hb (km := fun S6 => on (f_X12_evenAt 0 a3 S6) (fun r => some (r, S6))) (fun S9 Q e9 hq => Ok.oe (p2 S9 (by rw [e9]; exact n0)) (Ok.v (Ok.bt (show (0 : Int32) ≤ 0 by decide) hq))) (fun S1 S2 g => ?_)
  unfold bv
  dsimp only
  by_cases hx : a3 = -1
  · subst hx
    obtain ⟨r, r1, r2⟩ := ct_two g
    exact ⟨r, S1, S2, by rw [brp rfl, r1]; rfl, Fr.rf, by rw [r2]; rfl, Fr.rf⟩
  · obtain ⟨r, -, r1, r2⟩ := pkk_two g hx
    exact ⟨r, S1, S2, by rw [brn hx, r1]; rfl, Fr.rf, by rw [r2]; rfl, Fr.rf⟩
-- CASE joint
theorem pc_23 {t : Nat} {S : St} {a1 a2 a3 a4 a5 : Int32} (h : Inv t S) : Ok (fc_23 (t + 1) a1 a2 a3 a4 a5 S) (Inv (t + 1)) := by
  unfold fc_23 f_L_joint f_X11_joint
  refine tw_i (S := S) ?_
  obtain ⟨⟨N, D, hh, lv, ri, to, ch, c1, c2, c3, c4, c5, c6, c7, c8, c9, c10, c11, c12, -⟩, -⟩ := id h
  have n0 := c1.1.1
  rcases two_cases a1 a2 c1.1.2 with ⟨p1, p2⟩ | ⟨p1, p2⟩ | ⟨a, b, ha, hb, hab, rfl, rfl, p1, p2⟩
  · exact Ok.xl (p1 S c2.1) (Tw.l (cd := 1) rfl ⟨by decide, Ok.oe (p2 S n0) (Ok.v (Ok.bf (show ¬ (1 : Int32) ≤ 0 by decide) (Ok.sm ⟨rfl, pf_bad h⟩)))⟩)
  · exact Ok.xl (p1 S c2.1) (Tw.l (cd := 2) rfl ⟨by decide, Ok.oe (p2 S n0) (Ok.v (Ok.bf (show ¬ (2 : Int32) ≤ 0 by decide) (Ok.sm ⟨rfl, pf_bad h⟩)))⟩)
  refine Ok.xr (p1 S c2.1) ?_
  refine play (fun r : Int32 => r.toInt64) h c1 c2 c3 c5 c6 c9 c12 ha hb (km := fun S6 => f_X12_joint_30 0 (fun x S => some (x, S)) FU (-1) 0 S6) (fun S9 Q e9 hq => Ok.oe (p2 S9 (by rw [e9]; exact n0)) (Ok.v (Ok.bt (show (0 : Int32) ≤ 0 by decide) hq))) (fun S1 S2 g => ?_)
  obtain ⟨r, r1, r2⟩ := jn_two g
  exact ⟨r, S1, S2, by rw [r1]; rfl, Fr.rf, r2, Fr.rf⟩
