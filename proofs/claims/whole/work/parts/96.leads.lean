-- LEADS: followed, and the case
section LG
variable {S Z : St} {N h a : Nat} {T : Nat → Int32}
def Bh (T : Nat → Int32) (x s : Nat) : Prop := ∀ y, x + 1 ≤ y → y < x + 7 → Up T y s = 0
def Fw (T : Nat → Int32) (N a x : Nat) : Prop := ∀ s, s < N → s = a ∨ ¬ Bh T x s
theorem e_behind (cap : gi S 14 (2 * 0) 0 = 256) (len : gn S 15 (2 * 0) = 1024) (q : Chr N h (gi S 15 (2 * 0)) (gi S 16 (2 * 0)) T) (hN : N ≤ 4) (hh : h ≤ 3000) {x s : Nat} (hs : s < N) (hx : x + 6 < h) : (Bh T x s → f_X0_wentUpBehind (2 * 0) (Int32.ofNat s) (Int32.ofNat x) S = some 0) ∧ (¬ Bh T x s → f_X0_wentUpBehind (2 * 0) (Int32.ofNat s) (Int32.ofNat x) S = some 1) := by
  have e6 : Int32.ofNat x + 6 = Int32.ofNat (x + 6) := zAA 6 x
  have st : ∀ n y, x + 1 ≤ y → y < x + 7 → f_X0_wentUpBehind_4 (2 * 0) (Int32.ofNat s) (Int32.ofNat x) S (fun _ => some 0) (n + 1) (Int32.ofNat y) = br (Up T y s = 0) (f_X0_wentUpBehind_4 (2 * 0) (Int32.ofNat s) (Int32.ofNat x) S (fun _ => some 0) n (Int32.ofNat (y + 1))) (some 1) := by
    intro n y h1 h2
    rw [f_X0_wentUpBehind_4, e6, brn (fun w => absurd ((zL (by omega) (by omega)).mp w) (by omega)), e_up cap len q hN hh hs (by omega) (by omega)]
    unfold on
    dsimp only
    rw [bvE, zp1]
  have := allLoop (fun n y => if x + 1 ≤ y then f_X0_wentUpBehind_4 (2 * 0) (Int32.ofNat s) (Int32.ofNat x) S (fun _ => some 0) n (Int32.ofNat y) else some 1) (fun y => x + 1 ≤ y ∧ Up T y s = 0) (x + 7) (some 0) (some 1) (fun n => by
      show (if x + 1 ≤ x + 7 then f_X0_wentUpBehind_4 _ _ _ _ _ (n + 1) _ else _) = _
      rw [if_pos (by omega), f_X0_wentUpBehind_4, e6, brp ((zL (by omega) (by omega)).mpr (by omega))]) (fun n y hy hc => by
      show (if x + 1 ≤ y then f_X0_wentUpBehind_4 _ _ _ _ _ (n + 1) _ else _) = (if x + 1 ≤ y + 1 then _ else _)
      rw [if_pos hc.1, if_pos (by omega), st n y hc.1 hy, brp hc.2]) (fun n y hy _ hc => by
      show (if x + 1 ≤ y then f_X0_wentUpBehind_4 _ _ _ _ _ (n + 1) _ else _) = _
      by_cases e : x + 1 ≤ y
      · rw [if_pos e, st n y e hy, brn (fun z => hc ⟨e, z⟩)]
      · rw [if_neg e]) FU (x + 1) (by omega) (by unfold FU; omega)
  unfold f_X0_wentUpBehind
  rw [bvE, zp1]
  have t1 : (if x + 1 ≤ x + 1 then f_X0_wentUpBehind_4 (2 * 0) (Int32.ofNat s) (Int32.ofNat x) S (fun _ => some 0) FU (Int32.ofNat (x + 1)) else some 1) = f_X0_wentUpBehind_4 (2 * 0) (Int32.ofNat s) (Int32.ofNat x) S (fun _ => some 0) FU (Int32.ofNat (x + 1)) := if_pos (by omega)
  simp only [t1] at this
  exact ⟨fun z => this.1 (fun y h1 h2 => ⟨h1, z y h1 h2⟩), fun z => this.2 (fun w => z (fun y h1 h2 => (w y h1 h2).2))⟩
theorem e_foll1 (cap : gi S 14 (2 * 0) 0 = 256) (len : gn S 15 (2 * 0) = 1024) (rw_ : gi S 14 (2 * 0) 3 = Int32.ofNat h) (q : Chr N h (gi S 15 (2 * 0)) (gi S 16 (2 * 0)) T) (hN : N ≤ 4) (hh : h ≤ 3000) (ha : a < N) {x : Nat} (h1 : h - 256 ≤ x) (hx : x < h) : (x + 6 < h ∧ Fw T N a x → f_X0_isFollowed (2 * 0) (Int32.ofNat a) (Int32.ofNat x) (Int32.ofNat N) S = some 1) ∧ (¬ (x + 6 < h ∧ Fw T N a x) → f_X0_isFollowed (2 * 0) (Int32.ofNat a) (Int32.ofNat x) (Int32.ofNat N) S = some 0) := by
  unfold f_X0_isFollowed
  have e6 : Int32.ofNat x + 6 = Int32.ofNat (x + 6) := zAA 6 x
  obtain ⟨k1, k2⟩ := e_has (S := S) (g := 0) (h := h) cap rw_ hh (x := Int32.ofNat (x + 6))
  rw [e6]
  by_cases hc : x + 6 < h
  · rw [k1 ⟨fun z => absurd ((zL (by omega) (by omega)).mp z) (by omega), (zL (by omega) (by omega)).mpr hc⟩]
    unfold on
    dsimp only
    rw [brn (by decide)]
    have st : ∀ n s, s < N → f_X0_isFollowed_16 (2 * 0) (Int32.ofNat a) (Int32.ofNat x) (Int32.ofNat N) S (fun _ => some 1) (n + 1) (Int32.ofNat s) = br (s = a) (f_X0_isFollowed_16 (2 * 0) (Int32.ofNat a) (Int32.ofNat x) (Int32.ofNat N) S (fun _ => some 1) n (Int32.ofNat (s + 1))) (on (f_X0_wentUpBehind (2 * 0) (Int32.ofNat s) (Int32.ofNat x) S) (fun r => br (r = 0) (some 0) (f_X0_isFollowed_16 (2 * 0) (Int32.ofNat a) (Int32.ofNat x) (Int32.ofNat N) S (fun _ => some 1) n (Int32.ofNat (s + 1))))) := by
      intro n s hs
      rw [f_X0_isFollowed_16, brn (fun w => absurd ((zLE (by omega) (by omega)).mp w) (by omega))]
      simp only [bvE, zp1]
      by_cases e : s = a
      · rw [brp e, brp (show Int32.ofNat s = Int32.ofNat a by rw [e])]
      · rw [brn e, brn (fun z => e ((zE (by omega) (by omega)).mp z))]
    have := allLoop (fun n s => f_X0_isFollowed_16 (2 * 0) (Int32.ofNat a) (Int32.ofNat x) (Int32.ofNat N) S (fun _ => some 1) n (Int32.ofNat s)) (fun s => s = a ∨ ¬ Bh T x s) N (some 1) (some 0) (fun n => by
        show f_X0_isFollowed_16 _ _ _ _ _ _ (n + 1) _ = _
        rw [f_X0_isFollowed_16, brp ((zLE (by omega) (by omega)).mpr (Nat.le_refl N))]) (fun n s hs hc9 => by
        show f_X0_isFollowed_16 _ _ _ _ _ _ (n + 1) _ = _
        rw [st n s hs]
        by_cases e : s = a
        · rw [brp e]
        · rw [brn e, (e_behind cap len q hN hh hs hc).2 (hc9.resolve_left e)]
          exact brn (by decide)) (fun n s hs _ hc9 => by
        show f_X0_isFollowed_16 _ _ _ _ _ _ (n + 1) _ = _
        rw [st n s hs, brn (fun z => hc9 (Or.inl z)), (e_behind cap len q hN hh hs hc).1 (Classical.byContradiction fun z => hc9 (Or.inr z))]
        exact brp rfl) FU 0 (by omega) (by unfold FU; omega)
    exact ⟨fun z => this.1 (fun s' _ b => z.2 s' b), fun z => this.2 (fun w => z ⟨hc, fun s' b => w s' (by omega) b⟩)⟩
  · rw [k2 (fun z => hc ((zL (by omega) (by omega)).mp z.2))]
    exact ⟨fun z => absurd z.1 hc, fun _ => rfl⟩
theorem e_foll2 (eT : gi Z 61 0 = T) (n0 : T 0 = Int32.ofNat N) (n2 : T 2 = Int32.ofNat h) (hN : N ≤ 4) (hh : h ≤ 3000) (ha : a < N) {x : Nat} (h1 : h - 256 ≤ x) (hx : x < h) : (x + 6 < h ∧ Fw T N a x → f_X12_isFollowed 0 (Int32.ofNat a) (Int32.ofNat x) Z = some 1) ∧ (¬ (x + 6 < h ∧ Fw T N a x) → f_X12_isFollowed 0 (Int32.ofNat a) (Int32.ofNat x) Z = some 0) := by
  unfold f_X12_isFollowed
  have e6 : Int32.ofNat x + 6 = Int32.ofNat (x + 6) := zAA 6 x
  obtain ⟨k1, k2⟩ := e_isBoard (S := Z) (h := h) (by rw [eT]; exact n2) hh (x := Int32.ofNat (x + 6))
  rw [e6]
  by_cases hc : x + 6 < h
  · rw [k1 ⟨fun z => absurd ((zL (by omega) (by omega)).mp z) (by omega), (zL (by omega) (by omega)).mpr hc⟩]
    unfold on
    dsimp only
    rw [brn (by decide)]
    have en : ∀ n s (K : Int32 → Option Int32) (f : Int32), f_X12_isFollowed_40 0 (Int32.ofNat a) (Int32.ofNat x) (Int32.ofNat s) Z K (n + 1) f (Int32.ofNat 7) = K f := by
      intro n s K f
      rw [f_X12_isFollowed_40, brp (by decide)]
    have s1 : ∀ n s y (K : Int32 → Option Int32), y < 7 → f_X12_isFollowed_40 0 (Int32.ofNat a) (Int32.ofNat x) (Int32.ofNat s) Z K (n + 1) 1 (Int32.ofNat y) = f_X12_isFollowed_40 0 (Int32.ofNat a) (Int32.ofNat x) (Int32.ofNat s) Z K n 1 (Int32.ofNat (y + 1)) := by
      intro n s y K hy
      rw [f_X12_isFollowed_40, brn (show ¬ (6 : Int32) < Int32.ofNat y from fun w => absurd ((zL (a := 6) (by omega) (by omega)).mp w) (by omega))]
      simp only [bvE, zp1]
      rw [brn (by decide)]
    have s0 : ∀ n s y (K : Int32 → Option Int32), s < N → 1 ≤ y → y < 7 → f_X12_isFollowed_40 0 (Int32.ofNat a) (Int32.ofNat x) (Int32.ofNat s) Z K (n + 1) 0 (Int32.ofNat y) = br (Up T (x + y) s = 0) (f_X12_isFollowed_40 0 (Int32.ofNat a) (Int32.ofNat x) (Int32.ofNat s) Z K n 0 (Int32.ofNat (y + 1))) (f_X12_isFollowed_40 0 (Int32.ofNat a) (Int32.ofNat x) (Int32.ofNat s) Z K n 1 (Int32.ofNat (y + 1))) := by
      intro n s y K hs hy1 hy
      rw [f_X12_isFollowed_40, brn (show ¬ (6 : Int32) < Int32.ofNat y from fun w => absurd ((zL (a := 6) (by omega) (by omega)).mp w) (by omega)), zAA, e_rose eT (by omega) (by omega) (by omega)]
      simp only [bvE, zp1, brT]
      rfl
    have g1 : ∀ s n y (K : Int32 → Option Int32), y ≤ 7 → 7 < n + y → f_X12_isFollowed_40 0 (Int32.ofNat a) (Int32.ofNat x) (Int32.ofNat s) Z K n 1 (Int32.ofNat y) = K 1 := by
      intro s n
      induction n with
      | zero => intro y K _ h; omega
      | succ n ih =>
        intro y K hy hn
        by_cases e : y = 7
        · subst e; exact en n s K 1
        · rw [s1 n s y K (by omega)]; exact ih (y + 1) K (by omega) (by omega)
    have g0 : ∀ s (K : Int32 → Option Int32), s < N → (Bh T x s → f_X12_isFollowed_40 0 (Int32.ofNat a) (Int32.ofNat x) (Int32.ofNat s) Z K FU 0 1 = K 0) ∧ (¬ Bh T x s → f_X12_isFollowed_40 0 (Int32.ofNat a) (Int32.ofNat x) (Int32.ofNat s) Z K FU 0 1 = K 1) := by
      intro s K hs
      have := allLoop (fun n y => if 1 ≤ y then f_X12_isFollowed_40 0 (Int32.ofNat a) (Int32.ofNat x) (Int32.ofNat s) Z K n 0 (Int32.ofNat y) else K 1) (fun y => 1 ≤ y ∧ Up T (x + y) s = 0) 7 (K 0) (K 1) (fun n => by
        show (if 1 ≤ 7 then f_X12_isFollowed_40 _ _ _ _ _ _ (n + 1) _ _ else _) = _
        rw [if_pos (by omega), en n s K 0]) (fun n y hy hc => by
        show (if 1 ≤ y then f_X12_isFollowed_40 _ _ _ _ _ _ (n + 1) _ _ else _) = (if 1 ≤ y + 1 then _ else _)
        rw [if_pos hc.1, if_pos (by omega), s0 n s y K hs hc.1 hy, brp hc.2]) (fun n y hy hn hc => by
        show (if 1 ≤ y then f_X12_isFollowed_40 _ _ _ _ _ _ (n + 1) _ _ else _) = _
        by_cases e : 1 ≤ y
        · rw [if_pos e, s0 n s y K hs e hy, brn (fun z => hc ⟨e, z⟩), g1 s n (y + 1) K (by omega) (by omega)]
        · rw [if_neg e]) FU 1 (by omega) (by unfold FU; omega)
      have t1 : (if 1 ≤ 1 then f_X12_isFollowed_40 0 (Int32.ofNat a) (Int32.ofNat x) (Int32.ofNat s) Z K FU 0 (Int32.ofNat 1) else K 1) = f_X12_isFollowed_40 0 (Int32.ofNat a) (Int32.ofNat x) (Int32.ofNat s) Z K FU 0 (Int32.ofNat 1) := if_pos (by omega)
      have t2 : Int32.ofNat 1 = (1 : Int32) := rfl
      rw [t2] at t1
      rw [t2, t1] at this
      exact ⟨fun z => this.1 (fun y h1 h2 => ⟨h1, z (x + y) (by omega) (by omega)⟩), fun z => this.2 (fun w => z (fun y h1 h2 => by
        have := (w (y - x) (by omega) (by omega)).2
        rw [show x + (y - x) = y by omega] at this
        exact this))⟩
    have st : ∀ n s, s < N → f_X12_isFollowed_15 0 (Int32.ofNat a) (Int32.ofNat x) Z (fun _ => some 1) (n + 1) (Int32.ofNat s) = (if s = a then f_X12_isFollowed_15 0 (Int32.ofNat a) (Int32.ofNat x) Z (fun _ => some 1) n (Int32.ofNat (s + 1)) else f_X12_isFollowed_40 0 (Int32.ofNat a) (Int32.ofNat x) (Int32.ofNat s) Z (fun (x4_17 : Int32) => br (x4_17 = 0) (some 0) (f_X12_isFollowed_15 0 (Int32.ofNat a) (Int32.ofNat x) Z (fun _ => some 1) n (Int32.ofNat (s + 1)))) FU 0 1) := by
      intro n s hs
      rw [f_X12_isFollowed_15, ck_t (by decide), eT, show T (nn 0) = Int32.ofNat N from n0, brn (fun w => absurd ((zLE (by omega) (by omega)).mp w) (by omega))]
      simp only [bvE, zp1]
      by_cases e : s = a
      · have := g1 s FU 1 (fun (x4_17 : Int32) => br (x4_17 = 0) (some 0) (f_X12_isFollowed_15 0 (Int32.ofNat a) (Int32.ofNat x) Z (fun _ => some 1) n (Int32.ofNat (s + 1)))) (by omega) (by unfold FU; omega)
        rw [show Int32.ofNat 1 = (1 : Int32) from rfl] at this
        rw [if_pos e, brp (show Int32.ofNat s = Int32.ofNat a by rw [e]), this, brn (by decide)]
      · rw [if_neg e, brn (fun z => e ((zE (by omega) (by omega)).mp z))]
    have := allLoop (fun n s => f_X12_isFollowed_15 0 (Int32.ofNat a) (Int32.ofNat x) Z (fun _ => some 1) n (Int32.ofNat s)) (fun s => s = a ∨ ¬ Bh T x s) N (some 1) (some 0) (fun n => by
        show f_X12_isFollowed_15 _ _ _ _ _ (n + 1) _ = _
        rw [f_X12_isFollowed_15, ck_t (by decide), eT, show T (nn 0) = Int32.ofNat N from n0, brp ((zLE (by omega) (by omega)).mpr (Nat.le_refl N))]) (fun n s hs hc9 => by
        show f_X12_isFollowed_15 _ _ _ _ _ (n + 1) _ = _
        rw [st n s hs]
        by_cases e : s = a
        · rw [if_pos e]
        · rw [if_neg e, (g0 s _ hs).2 (hc9.resolve_left e)]
          exact brn (by decide)) (fun n s hs _ hc9 => by
        show f_X12_isFollowed_15 _ _ _ _ _ (n + 1) _ = _
        rw [st n s hs, if_neg (fun z => hc9 (Or.inl z)), (g0 s _ hs).1 (Classical.byContradiction fun z => hc9 (Or.inr z))]
        exact brp rfl) FU 0 (by omega) (by unfold FU; omega)
    exact ⟨fun z => this.1 (fun s' _ b => z.2 s' b), fun z => this.2 (fun w => z ⟨hc, fun s' b => w s' (by omega) b⟩)⟩
  · rw [k2 (fun z => hc ((zL (by omega) (by omega)).mp z.2))]
    exact ⟨fun z => absurd z.1 hc, fun _ => rfl⟩
end LG
-- CASE leads
theorem pc_15 {t : Nat} {S : St} {a1 a2 a3 a4 a5 : Int32} (h : Inv t S) : Ok (fc_15 (t + 1) a1 a2 a3 a4 a5 S) (Inv (t + 1)) := by
  unfold fc_15 f_L_leads
  obtain ⟨⟨N, D, hh, lv, ri, to, ch, c1, c2, c3, c4, c5, c6, -⟩, -⟩ := id h
  have n0 := c1.1.1
  have b0 := c1.1.2
  have n2 := c1.2.2.1.1
  have b2 := c1.2.2.1.2
  have cap := c2.2.2.2.2.2.2.2.1
  have len := c2.2.2.2.2.2.2.2.2.2.1
  have rw_ := c2.2.2.1
  have go : ∀ v : Int32, Ok (f_X11_leads 0 a1 v S) (Tw S (fun k S => br (k = 3) (some (1, S)) (none)) (fun cd => cd ≠ 0 ∧ Ok (f_X12_leads 0 a1 v S) (fun o => gi o.2 60 0 5 = cd ∧ Inv (t + 1) o.2)) (fun r S1 => Ok (f_X12_leads 0 a1 v (sl S1 81 0 (nn 0) r.toInt64)) (fun o => gi o.2 60 0 5 = 0 ∧ o.1 = r ∧ gl o.2 81 0 (nn 0) = r.toInt64 ∧ Inv (t + 1) o.2))) := by
    intro v
    unfold f_X11_leads
    by_cases hs : a1 < 0 ∨ ¬ a1 < Int32.ofNat N
    · exact Ok.xl (n_st c2.1 hs) (Tw.l (cd := 1) rfl ⟨by decide, Ok.v (Ok.oe (m_stn (S := si S 60 0 5 0) n0 b0 hs) (Ok.bt rfl (Ok.o2e rfl (Ok.sm ⟨rfl, pf_bad h.thr⟩))))⟩)
    obtain ⟨a, ha, rfl⟩ := or_st b0 hs
    refine Ok.xr (y_st c2.1 b0 ha) (Ok.oe (e_first cap rw_ b2) ?_)
    have lp : ∀ (n x : Nat) (c : Int32), hh - 256 + 2 ≤ x → (hh < n + x ∧ 0 < n) → (x ≤ hh ∨ x = hh - 256 + 2) → ∃ r, f_X11_leads_21 0 (Int32.ofNat a) v (fun (x : Int32) (S : St) => some (.inr x, S)) n c (Int32.ofNat x) S = some (.inr r, S) ∧ ∀ Z, gi Z 61 0 = gi S 61 0 → f_X12_leads_39 0 (Int32.ofNat a) v (fun (x : Int32) (S : St) => some (x, S)) n c (Int32.ofNat x) Z = some (r, Z) := by
      intro n
      induction n with
      | zero => intro x c h1 h2 h3; omega
      | succ n ih =>
        intro x c h1 h2 h3
        by_cases hc : hh ≤ x
        · refine ⟨c, ?_, fun Z eZ => ?_⟩
          · rw [f_X11_leads_21, rw_, brp ((zLE (by omega) (by omega)).mpr hc)]
          · rw [f_X12_leads_39, ck_t (by decide), eZ, show gi S 61 0 (nn 2) = Int32.ofNat hh from n2, brp ((zLE (by omega) (by omega)).mpr hc)]
        · have nb : ¬ Int32.ofNat hh ≤ Int32.ofNat x := fun w => hc ((zLE (by omega) (by omega)).mp w)
          obtain ⟨l1, l2⟩ := e_lead1 (S := S) (T := gi S 61 0) cap len c6 b0 b2 ha (show 2 ≤ x by omega) (show x < hh by omega)
          obtain ⟨f1, f2⟩ := e_foll1 (S := S) (T := gi S 61 0) cap len rw_ c6 b0 b2 ha (show hh - 256 ≤ x by omega) (show x < hh by omega)
          have L2 := fun Z (eZ : gi Z 61 0 = gi S 61 0) => e_lead2 (Z := Z) eZ n0 n2 b0 b2 ha h1 (show x < hh by omega)
          have F2 := fun Z (eZ : gi Z 61 0 = gi S 61 0) => e_foll2 (Z := Z) eZ n0 n2 b0 b2 ha (show hh - 256 ≤ x by omega) (show x < hh by omega)
          obtain ⟨r0, p0, q0⟩ := ih (x + 1) c (by omega) (by omega) (by omega)
          obtain ⟨r1, p1, q1⟩ := ih (x + 1) (c + 1) (by omega) (by omega) (by omega)
          have s1 : ∀ k : Int32, f_X0_isLead (2 * 0) (Int32.ofNat a) (Int32.ofNat x) (Int32.ofNat N) S = some k → f_X11_leads_21 0 (Int32.ofNat a) v (fun (x : Int32) (S : St) => some (.inr x, S)) (n + 1) c (Int32.ofNat x) S = br (k = 0) (some (.inr r0, S)) (br (v = 0) (some (.inr r1, S)) (on (f_X0_isFollowed (2 * 0) (Int32.ofNat a) (Int32.ofNat x) (Int32.ofNat N) S) (fun r => br (r = 0) (some (.inr r0, S)) (some (.inr r1, S))))) := by
            intro k ek
            rw [f_X11_leads_21, rw_, brn nb, c2.1, ek]
            unfold on
            dsimp only
            simp only [bvE, zp1, p0, p1]
          have s2 : ∀ Z (k : Int32), gi Z 61 0 = gi S 61 0 → f_X12_isLead 0 (Int32.ofNat a) (Int32.ofNat x) Z = some k → f_X12_leads_39 0 (Int32.ofNat a) v (fun (x : Int32) (S : St) => some (x, S)) (n + 1) c (Int32.ofNat x) Z = br (k = 0) (some (r0, Z)) (br (v = 0) (some (r1, Z)) (on (f_X12_isFollowed 0 (Int32.ofNat a) (Int32.ofNat x) Z) (fun r => br (r = 0) (some (r0, Z)) (some (r1, Z))))) := by
            intro Z k eZ ek
            rw [f_X12_leads_39, ck_t (by decide), eZ, show gi S 61 0 (nn 2) = Int32.ofNat hh from n2, brn nb, ek]
            unfold on
            dsimp only
            simp only [bvE, zp1, q0 Z eZ, q1 Z eZ]
          by_cases hl : Ld (gi S 61 0) N a x
          · by_cases hv : v = 0
            · exact ⟨r1, by rw [s1 1 (l1 hl), brn (by decide), brp hv], fun Z eZ => by rw [s2 Z 1 eZ ((L2 Z eZ).1 hl), brn (by decide), brp hv]⟩
            · by_cases hf : x + 6 < hh ∧ Fw (gi S 61 0) N a x
              · exact ⟨r1, by rw [s1 1 (l1 hl), brn (by decide), brn hv, f1 hf]; exact brn (by decide), fun Z eZ => by rw [s2 Z 1 eZ ((L2 Z eZ).1 hl), brn (by decide), brn hv, (F2 Z eZ).1 hf]; exact brn (by decide)⟩
              · exact ⟨r0, by rw [s1 1 (l1 hl), brn (by decide), brn hv, f2 hf]; exact brp rfl, fun Z eZ => by rw [s2 Z 1 eZ ((L2 Z eZ).1 hl), brn (by decide), brn hv, (F2 Z eZ).2 hf]; exact brp rfl⟩
          · exact ⟨r0, by rw [s1 0 (l2 hl), brp rfl], fun Z eZ => by rw [s2 Z 0 eZ ((L2 Z eZ).2 hl), brp rfl]⟩
    obtain ⟨r, r1, r2⟩ := lp FU (hh - 256 + 2) 0 (by omega) (by unfold FU; omega) (Or.inr rfl)
    refine Ok.v ?_
    rw [zp2]
    refine Ok.eq r1 (Tw.r ?_)
    refine Ok.v (Ok.oe (m_sty (S := si (sl S 81 0 (nn 0) r.toInt64) 60 0 5 0) n0 b0 ha) (Ok.bf (by decide) (Ok.c (by decide) (Ok.ve (x := Int32.ofNat (hh - 256 + 2)) ?_ ?_))))
    · have m0 := mx0 b2
      rw [show gi (si (sl S 81 0 (nn 0) r.toInt64) 60 0 5 0) 61 0 (nn 2) = Int32.ofNat hh from n2]
      have e1 : (Int32.ofNat hh - 256).toInt = (hh : Int) - 256 := by
        rw [Int32.toInt_sub, zI (show hh < 2147483648 by omega)]
        show ((hh : Int) - 256).bmod (2 ^ 32) = _
        rw [Int.bmod_def]; omega
      have e2 : (Int32.ofNat hh - 256 + 2).toInt = (hh : Int) - 254 := by
        rw [Int32.toInt_add, e1]
        show ((hh : Int) - 256 + 2).bmod (2 ^ 32) = _
        rw [Int.bmod_def]; omega
      rw [← Int32.toInt_inj, zI (by omega)]
      show (if (2 : Int32) < Int32.ofNat hh - 256 + 2 then Int32.ofNat hh - 256 + 2 else 2).toInt = _
      by_cases hc : (2 : Int32) < Int32.ofNat hh - 256 + 2
      · rw [if_pos hc, e2]
        rw [Int32.lt_iff_toInt_lt, e2] at hc
        have hc : (2 : Int) < (hh : Int) - 254 := hc
        omega
      · rw [if_neg hc]
        rw [Int32.lt_iff_toInt_lt, e2] at hc
        have hc : ¬ (2 : Int) < (hh : Int) - 254 := hc
        show (2 : Int) = _
        omega
    · exact Ok.eq (r2 (si (sl S 81 0 (nn 0) r.toInt64) 60 0 5 0) rfl) ⟨rfl, rfl, rfl, pf_bad h.out⟩
  by_cases h5 : a2 = 0
  · exact Ok.v (Ok.bt h5 (Ok.k2 (fun r S5 => brp h5) (tw_i (S := S) (go 0))))
  · exact Ok.v (Ok.bf h5 (Ok.k2 (fun r S5 => brn h5) (tw_i (S := S) (go 1))))
