-- TOLD
def pv (x1 x2 x3 x4 : Int32) (s : Nat) : Int32 := if s = 0 then x1 else if s = 1 then x2 else if s = 2 then x3 else x4
def tS (S : St) (x1 x2 x3 x4 : Int32) : St := si (si (si (si S 26 (0 + 1) (nn 0) x1) 26 (0 + 1) (nn 1) x2) 26 (0 + 1) (nn 2) x3) 26 (0 + 1) (nn 3) x4
theorem tS_r {S : St} {x1 x2 x3 x4 : Int32} : ∀ s, s < 4 → gi (tS S x1 x2 x3 x4) 26 1 s = pv x1 x2 x3 x4 s := by
  intro s hs
  rcases (show s = 0 ∨ s = 1 ∨ s = 2 ∨ s = 3 by omega) with rfl | rfl | rfl | rfl <;> rfl
theorem tS_f {S : St} {x1 x2 x3 x4 : Int32} : Fr (fun k x => k = 26 ∧ x = 1) S (tS S x1 x2 x3 x4) := (Fr.si ⟨rfl, rfl⟩).tr ((Fr.si ⟨rfl, rfl⟩).tr ((Fr.si ⟨rfl, rfl⟩).tr (Fr.si ⟨rfl, rfl⟩)))
section TO
variable {S Z : St} {N to : Nat} {x1 x2 x3 x4 : Int32}
theorem t54 (k0 : gi S 2 0 0 = Int32.ofNat N) (hN : N ≤ 4) {K : St → Option ((Nat ⊕ Int32) × St)} : ((∀ s, s < N → 0 ≤ pv x1 x2 x3 x4 s ∧ pv x1 x2 x3 x4 s ≤ 99) → f_X11_told_54 0 (0 + 1) K FU 0 (tS S x1 x2 x3 x4) = K (tS S x1 x2 x3 x4)) ∧ (¬ (∀ s, s < N → 0 ≤ pv x1 x2 x3 x4 s ∧ pv x1 x2 x3 x4 s ≤ 99) → f_X11_told_54 0 (0 + 1) K FU 0 (tS S x1 x2 x3 x4) = some (.inl 2, tS S x1 x2 x3 x4)) := by
  have k1 : gi (tS S x1 x2 x3 x4) 2 0 0 = Int32.ofNat N := k0
  have := allLoop (fun n s => f_X11_told_54 0 (0 + 1) K n (Int32.ofNat s) (tS S x1 x2 x3 x4)) (fun s => 0 ≤ pv x1 x2 x3 x4 s ∧ pv x1 x2 x3 x4 s ≤ 99) N (K (tS S x1 x2 x3 x4)) (some (.inl 2, tS S x1 x2 x3 x4)) (fun n => by
      show f_X11_told_54 _ _ _ (n + 1) _ _ = _
      rw [f_X11_told_54, k1, brp ((zLE (by omega) (by omega)).mpr (Nat.le_refl N))]) (fun n s hs hc => by
      show f_X11_told_54 _ _ _ (n + 1) _ _ = _
      rw [f_X11_told_54, k1, brn (fun w => absurd ((zLE (by omega) (by omega)).mp w) (by omega)), ck_t (ib (by omega) (by omega)), zN (by omega), show gi (tS S x1 x2 x3 x4) 26 (0 + 1) s = pv x1 x2 x3 x4 s from tS_r s (by omega), y_pr hc]
      show f_X11_told_54 0 (0 + 1) K n (Int32.ofNat s + 1) _ = _
      rw [zp1]) (fun n s hs _ hc => by
      show f_X11_told_54 _ _ _ (n + 1) _ _ = _
      rw [f_X11_told_54, k1, brn (fun w => absurd ((zLE (by omega) (by omega)).mp w) (by omega)), ck_t (ib (by omega) (by omega)), zN (by omega), show gi (tS S x1 x2 x3 x4) 26 (0 + 1) s = pv x1 x2 x3 x4 s from tS_r s (by omega), n_pr hc]; rfl) FU 0 (by omega) (by unfold FU; omega)
  exact ⟨fun z => this.1 (fun s _ b => z s b), fun z => this.2 (fun w => z (fun s b => w s (by omega) b))⟩
theorem jpv {α : Type} {F : Int32 → Option α} {s : Nat} (hs : s < 4) : br (Int32.ofNat s = 0) (F x1) (br (Int32.ofNat s = 1) (F x2) (br (Int32.ofNat s = 2) (F x3) (F x4))) = F (pv x1 x2 x3 x4 s) := by
  rcases (show s = 0 ∨ s = 1 ∨ s = 2 ∨ s = 3 by omega) with rfl | rfl | rfl | rfl <;> rfl
theorem t23 (n0 : gi Z 61 0 0 = Int32.ofNat N) (hN : N ≤ 4) {K : St → Option (Int32 × St)} : ((∀ s, s < N → 0 ≤ pv x1 x2 x3 x4 s ∧ pv x1 x2 x3 x4 s ≤ 99) → f_X12_told_23 0 x1 x2 x3 x4 K FU 0 Z = K Z) ∧ (¬ (∀ s, s < N → 0 ≤ pv x1 x2 x3 x4 s ∧ pv x1 x2 x3 x4 s ≤ 99) → f_X12_told_23 0 x1 x2 x3 x4 K FU 0 Z = some (0, si Z 60 0 5 2)) := by
  have st : ∀ n s, s < N → f_X12_told_23 0 x1 x2 x3 x4 K (n + 1) (Int32.ofNat s) Z = br ((if 0 ≤ pv x1 x2 x3 x4 s ∧ pv x1 x2 x3 x4 s ≤ 99 then (1 : Int32) else 0) = 0) (some (0, si Z 60 0 5 2)) (f_X12_told_23 0 x1 x2 x3 x4 K n (Int32.ofNat (s + 1)) Z) := by
    intro n s hs
    rw [f_X12_told_23, ck_t (by decide), show gi Z 61 0 (nn 0) = Int32.ofNat N from n0, brn (fun w => absurd ((zLE (by omega) (by omega)).mp w) (by omega))]
    simp only [bvE]
    rw [jpv (F := fun x => on (f_X12_within x.toInt64 0 99 Z) (fun r_10 => br (r_10 = 0) (on2 (f_X12_fails 0 2 Z) (fun r_15 S_14 => some (r_15, S_14))) (f_X12_told_23 0 x1 x2 x3 x4 K n (Int32.ofNat s + 1) Z))) (by omega), e_wi (lo := 0) (hi := 99) (by decide) (by decide), zp1]; rfl
  have := allLoop (fun n s => f_X12_told_23 0 x1 x2 x3 x4 K n (Int32.ofNat s) Z) (fun s => 0 ≤ pv x1 x2 x3 x4 s ∧ pv x1 x2 x3 x4 s ≤ 99) N (K Z) (some (0, si Z 60 0 5 2)) (fun n => by
      show f_X12_told_23 _ _ _ _ _ _ (n + 1) _ _ = _
      rw [f_X12_told_23, ck_t (by decide), show gi Z 61 0 (nn 0) = Int32.ofNat N from n0, brp ((zLE (by omega) (by omega)).mpr (Nat.le_refl N))]) (fun n s hs hc => by
      show f_X12_told_23 _ _ _ _ _ _ (n + 1) _ _ = _
      rw [st n s hs, if_pos hc, brn (by decide)]) (fun n s hs _ hc => by
      show f_X12_told_23 _ _ _ _ _ _ (n + 1) _ _ = _
      rw [st n s hs, if_neg hc, brp rfl]) FU 0 (by omega) (by unfold FU; omega)
  exact ⟨fun z => this.1 (fun s _ b => z s b), fun z => this.2 (fun w => z (fun s b => w s (by omega) b))⟩
theorem t107 (hN : N ≤ 4) (ht : to < 60) {K : St → Option (Int32 × St)} : ∀ (n s : Nat) (Z : St), s ≤ N → N < n + s → gi Z 61 0 0 = Int32.ofNat N → gi Z 61 0 5 = Int32.ofNat to → f_X12_told_107 0 x1 x2 x3 x4 K n (Int32.ofNat s) Z = K (ai Z 61 0 (fun j => if 2909 + 4 * to + s ≤ j ∧ j < 2909 + 4 * to + N then pv x1 x2 x3 x4 (j - (2909 + 4 * to)) else gi Z 61 0 j)) := by
  intro n
  induction n with
  | zero => intro s Z _ h; omega
  | succ n ih =>
    intro s Z hs hn n0 n5
    rw [f_X12_told_107, ck_t (by decide), show gi Z 61 0 (nn 0) = Int32.ofNat N from n0]
    by_cases hc : N ≤ s
    · rw [brp ((zLE (by omega) (by omega)).mpr hc), ai_ext (f' := gi Z 61 0) (fun j => if_neg (by omega)), ai_self]
    · rw [brn (fun w => hc ((zLE (by omega) (by omega)).mp w)), ck_t (by decide), show gi Z 61 0 (nn 5) = Int32.ofNat to from n5, zMu, zA, zAA]
      simp only [bvE]
      rw [jpv (F := fun v => ck (inb (Int32.ofNat (2909 + 4 * to + s)) 3179 = true) (f_X12_told_107 0 x1 x2 x3 x4 K n (Int32.ofNat s + 1) (si Z 61 0 (nn (Int32.ofNat (2909 + 4 * to + s))) v))) (by omega), ck_t (ib (by omega) (by omega)), zN (by omega), zp1, ih (s + 1) _ (by omega) (by omega) (by
        show upd (gi Z 61 0) (2909 + 4 * to + s) _ 0 = _
        rw [upd_ne (by omega)]; exact n0) (by
        show upd (gi Z 61 0) (2909 + 4 * to + s) _ 5 = _
        rw [upd_ne (by omega)]; exact n5)]
      unfold si
      rw [ai_ai]
      congr 1
      refine ai_ext (fun j => ?_)
      rw [gai]
      by_cases e : j = 2909 + 4 * to + s
      · rw [if_neg (by omega), e, upd_eq, if_pos (by omega), show 2909 + 4 * to + s - (2909 + 4 * to) = s by omega]
      · rw [upd_ne e]
        by_cases e2 : 2909 + 4 * to + (s + 1) ≤ j ∧ j < 2909 + 4 * to + N
        · rw [if_pos e2, if_pos (by omega)]
        · rw [if_neg e2, if_neg (by omega)]
theorem ad_told (k5 : gi S 14 (2 * 0 + 1) 3 = Int32.ofNat to) (k8 : gi S 14 (2 * 0 + 1) 0 = 60) (len : gn S 15 (2 * 0 + 1) = 240) (ht : to < 60) : ∃ S6, f_X2_addTold 0 (0 + 1) (tS S x1 x2 x3 x4) = some (Int32.ofNat (to + 1), S6) ∧ Fr (fun k x => (k = 26 ∨ k = 14 ∨ k = 15 ∨ k = 16) ∧ x = 1) S S6 ∧ (∀ j, j ≠ 3 → gi S6 14 1 j = gi S 14 1 j) ∧ gi S6 14 1 3 = Int32.ofNat (to + 1) ∧ (∀ j, gi S6 15 1 j = if 4 * to ≤ j ∧ j < 4 * to + 4 then pv x1 x2 x3 x4 (j - 4 * to) else gi S 15 1 j) ∧ (∀ s, s < 4 → gi S6 16 1 s = if to = 0 then pv x1 x2 x3 x4 s else gi S 16 1 s) ∧ gn S6 15 1 = gn S 15 1 := by
  have add : ∀ S5 : St, Fr (fun k x => (k = 26 ∨ k = 14 ∨ k = 15 ∨ k = 16) ∧ x = 1) S S5 → gi S5 14 1 = gi S 14 1 → gi S5 15 1 = gi S 15 1 → gn S5 15 1 = gn S 15 1 → (∀ s, s < 4 → gi S5 26 1 s = pv x1 x2 x3 x4 s) → (∀ s, s < 4 → gi S5 16 1 s = if to = 0 then pv x1 x2 x3 x4 s else gi S 16 1 s) → ∃ S6, on (f_X0_add (2 * 0 + 1) (0 + 1) S5) (fun S_5 => some (gi S_5 14 (2 * 0 + 1) 3, S_5)) = some (Int32.ofNat (to + 1), S6) ∧ Fr (fun k x => (k = 26 ∨ k = 14 ∨ k = 15 ∨ k = 16) ∧ x = 1) S S6 ∧ (∀ j, j ≠ 3 → gi S6 14 1 j = gi S 14 1 j) ∧ gi S6 14 1 3 = Int32.ofNat (to + 1) ∧ (∀ j, gi S6 15 1 j = if 4 * to ≤ j ∧ j < 4 * to + 4 then pv x1 x2 x3 x4 (j - 4 * to) else gi S 15 1 j) ∧ (∀ s, s < 4 → gi S6 16 1 s = if to = 0 then pv x1 x2 x3 x4 s else gi S 16 1 s) ∧ gn S6 15 1 = gn S 15 1 := by
    intro S5 f g14 g15 gl15 g26 g16
    have a0 : gi S5 14 (2 * 0 + 1) 0 = 60 := (congrFun g14 0).trans k8
    have a3 : gi S5 14 (2 * 0 + 1) 3 = Int32.ofNat to := (congrFun g14 3).trans k5
    refine ⟨si (ai S5 15 1 (va_cpy (gi S5 26 1) (gi S5 15 1) 0 (4 * to) 4)) 14 1 3 (Int32.ofNat (to + 1)), ?_, f.tr ((Fr.ai ⟨by omega, rfl⟩).tr (Fr.si ⟨by omega, rfl⟩)), fun j hj => ?_, rfl, fun j => ?_, g16, gl15⟩
    · unfold f_X0_add
      rw [a0, ck_t (by decide), a3, bvE, show rmI (Int32.ofNat to) 60 = Int32.ofNat (to % 60) from zR (b := 60) (by omega) (by omega), Nat.mod_eq_of_lt ht, show Int32.ofNat to * 4 = Int32.ofNat (4 * to) by rw [zMu']; congr 1; omega, show gn S5 15 (2 * 0 + 1) = 240 from gl15.trans len, ck_t ?_, bvE, bvE, zN (by omega)]
      · unfold on
        dsimp only
        rw [show gi (ai S5 15 (2 * 0 + 1) (va_cpy (gi S5 26 (0 + 1)) (gi S5 15 (2 * 0 + 1)) (nn 0) (4 * to) (nn 4))) 14 (2 * 0 + 1) 3 = Int32.ofNat to from a3, zp1]; rfl
      · unfold cpok
        rw [zN (show 4 * to < 2147483648 by omega), decide_eq_false (zNeg (show 4 * to < 2147483648 by omega)), decide_eq_true (show 4 * to + nn 4 ≤ 240 by show 4 * to + 4 ≤ 240; omega)]; rfl
    · show upd (gi S5 14 1) 3 _ j = _
      rw [upd_ne hj, g14]
    · show va_cpy (gi S5 26 1) (gi S5 15 1) 0 (4 * to) 4 j = _
      unfold va_cpy
      by_cases e : 4 * to ≤ j ∧ j < 4 * to + 4
      · rw [if_pos e, if_pos e, Nat.zero_add]; exact g26 _ (by omega)
      · rw [if_neg e, if_neg e, g15]
  unfold f_X2_addTold
  have k5' : gi (tS S x1 x2 x3 x4) 14 (2 * 0 + 1) 3 = Int32.ofNat to := k5
  rw [k5', brp (show Int32.ofNat to < 60 from (zL (b := 60) (by omega) (by omega)).mpr ht), bvE]
  have fr0 : Fr (fun k x => (k = 26 ∨ k = 14 ∨ k = 15 ∨ k = 16) ∧ x = 1) S (tS S x1 x2 x3 x4) := tS_f.mono (fun k x hw => ⟨Or.inl hw.1, hw.2⟩)
  by_cases e : to = 0
  · rw [brp (show Int32.ofNat to = 0 by rw [e]; rfl), ck_t (by decide), bvE]
    refine add (ai (tS S x1 x2 x3 x4) 16 (2 * 0 + 1) (va_cpy (gi (tS S x1 x2 x3 x4) 26 (0 + 1)) (gi (tS S x1 x2 x3 x4) 16 (2 * 0 + 1)) (nn 0) (nn 0) (nn 4))) (fr0.tr (Fr.ai ⟨by omega, rfl⟩)) rfl rfl rfl tS_r (fun s hs => ?_)
    show va_cpy (gi (tS S x1 x2 x3 x4) 26 1) (gi (tS S x1 x2 x3 x4) 16 1) 0 0 4 s = _
    unfold va_cpy
    rw [if_pos (by omega), if_pos e, Nat.zero_add, Nat.sub_zero]; exact tS_r s hs
  · rw [brn (show ¬ Int32.ofNat to = 0 from fun z => e ((zE (b := 0) (by omega) (by omega)).mp z))]
    exact add _ fr0 rfl rfl rfl tS_r (fun s hs => by rw [if_neg e]; rfl)
end TO
