-- LEADS
theorem allLoop {ρ : Type} (F : Nat → Nat → ρ) (c : Nat → Prop) (N : Nat) (good bad : ρ) (h1 : ∀ n, F (n + 1) N = good) (h2 : ∀ n s, s < N → c s → F (n + 1) s = F n (s + 1)) (h3 : ∀ n s, s < N → N < n + 1 + s → ¬ c s → F (n + 1) s = bad) : ∀ (n s : Nat), s ≤ N → N < n + s → ((∀ s', s ≤ s' → s' < N → c s') → F n s = good) ∧ (¬ (∀ s', s ≤ s' → s' < N → c s') → F n s = bad) := by
  intro n
  induction n with
  | zero => intro s _ h; omega
  | succ n ih =>
    intro s hs hn
    by_cases hc : s = N
    · subst hc
      exact ⟨fun _ => h1 n, fun z => absurd (fun s' a b => by omega) z⟩
    · obtain ⟨i1, i2⟩ := ih (s + 1) (by omega) (by omega)
      by_cases e : c s
      · rw [h2 n s (by omega) e]
        refine ⟨fun z => i1 (fun s' a b => z s' (by omega) b), fun z => i2 (fun w => z (fun s' a b => ?_))⟩
        by_cases e9 : s' = s
        · rw [e9]; exact e
        · exact w s' (by omega) b
      · exact ⟨fun z => absurd (z s (by omega) (by omega)) e, fun _ => h3 n s (by omega) hn e⟩
section LD
variable {S Z : St} {N h a : Nat} {T : Nat → Int32}
def Up (T : Nat → Int32) (x s : Nat) : Int32 := if bd T x s ≤ bd T (x - 1) s then 0 else 1
theorem Up01 {x s : Nat} : Up T x s = 0 ∨ Up T x s = 1 := by unfold Up; split <;> simp
theorem e_up (cap : gi S 14 (2 * 0) 0 = 256) (len : gn S 15 (2 * 0) = 1024) (q : Chr N h (gi S 15 (2 * 0)) (gi S 16 (2 * 0)) T) (hN : N ≤ 4) (hh : h ≤ 3000) {s x : Nat} (hs : s < N) (h1 : 1 ≤ x) (hx : x < h) : f_X0_wentUp (2 * 0) (Int32.ofNat s) (Int32.ofNat x) S = some (Up T x s) := by
  unfold f_X0_wentUp Up
  rw [at_h cap len q hN hh hs hx, zSub1 h1, at_h cap len q hN hh hs (by omega)]
  unfold on
  dsimp only
  rw [bvE]
  by_cases e : bd T x s ≤ bd T (x - 1) s
  · rw [brp e, if_pos e]; rfl
  · rw [brn e, if_neg e]; rfl
theorem e_rose (eT : gi Z 61 0 = T) {s x : Nat} (hs : s < 4) (h1 : 1 ≤ x) (hx : x < 3000) : f_X12_rose 0 (Int32.ofNat s) (Int32.ofNat x) Z = some (Up T x s) := by
  unfold f_X12_rose Up
  rw [e_boardOf hs hx, zSub1 h1, e_boardOf hs (by omega), eT]
  unfold on
  dsimp only
  rw [bvE]
  by_cases e : bd T x s ≤ bd T (x - 1) s
  · rw [brp e, if_pos e]; rfl
  · rw [brn e, if_neg e]; rfl
def Ld (T : Nat → Int32) (N a x : Nat) : Prop := ∀ s, s < N → Up T x s = (if s = a then 1 else 0) ∧ Up T (x - 1) s = 0
theorem e_lead1 (cap : gi S 14 (2 * 0) 0 = 256) (len : gn S 15 (2 * 0) = 1024) (q : Chr N h (gi S 15 (2 * 0)) (gi S 16 (2 * 0)) T) (hN : N ≤ 4) (hh : h ≤ 3000) (ha : a < N) {x : Nat} (h1 : 2 ≤ x) (hx : x < h) : (Ld T N a x → f_X0_isLead (2 * 0) (Int32.ofNat a) (Int32.ofNat x) (Int32.ofNat N) S = some 1) ∧ (¬ Ld T N a x → f_X0_isLead (2 * 0) (Int32.ofNat a) (Int32.ofNat x) (Int32.ofNat N) S = some 0) := by
  have st : ∀ n s, s < N → f_X0_isLead_3 (2 * 0) (Int32.ofNat a) (Int32.ofNat x) (Int32.ofNat N) S (fun _ => some 1) (n + 1) (Int32.ofNat s) = br (Up T x s = (if s = a then 1 else 0)) (br (Up T (x - 1) s = 0) (f_X0_isLead_3 (2 * 0) (Int32.ofNat a) (Int32.ofNat x) (Int32.ofNat N) S (fun _ => some 1) n (Int32.ofNat (s + 1))) (some 0)) (some 0) := by
    intro n s hs
    rw [f_X0_isLead_3, brn (fun w => absurd ((zLE (by omega) (by omega)).mp w) (by omega)), e_up cap len q hN hh hs (by omega) hx]
    unfold on
    dsimp only
    rw [zSub1 (by omega), e_up cap len q hN hh hs (by omega) (by omega)]
    simp only [bvE, zp1]
    by_cases e : s = a
    · rw [if_pos e, brp (by rw [e])]
    · rw [if_neg e, brn (fun z => e ((zE (by omega) (by omega)).mp z))]
  have := allLoop (fun n s => f_X0_isLead_3 (2 * 0) (Int32.ofNat a) (Int32.ofNat x) (Int32.ofNat N) S (fun _ => some 1) n (Int32.ofNat s)) (fun s => Up T x s = (if s = a then 1 else 0) ∧ Up T (x - 1) s = 0) N (some 1) (some 0) (fun n => by
      show f_X0_isLead_3 _ _ _ _ _ _ (n + 1) _ = _
      rw [f_X0_isLead_3, brp ((zLE (by omega) (by omega)).mpr (Nat.le_refl N))]) (fun n s hs hc => by
      show f_X0_isLead_3 _ _ _ _ _ _ (n + 1) _ = _
      rw [st n s hs, brp hc.1, brp hc.2]) (fun n s hs _ hc => by
      show f_X0_isLead_3 _ _ _ _ _ _ (n + 1) _ = _
      rw [st n s hs]
      by_cases e : Up T x s = (if s = a then 1 else 0)
      · rw [brp e, brn (fun z => hc ⟨e, z⟩)]
      · rw [brn e]) FU 0 (by omega) (by unfold FU; omega)
  exact ⟨fun z => this.1 (fun s' _ b => z s' b), fun z => this.2 (fun w => z (fun s' b => w s' (by omega) b))⟩
theorem e_lead2 (eT : gi Z 61 0 = T) (n0 : T 0 = Int32.ofNat N) (n2 : T 2 = Int32.ofNat h) (hN : N ≤ 4) (hh : h ≤ 3000) (ha : a < N) {x : Nat} (h1 : h - 256 + 2 ≤ x) (hx : x < h) : (Ld T N a x → f_X12_isLead 0 (Int32.ofNat a) (Int32.ofNat x) Z = some 1) ∧ (¬ Ld T N a x → f_X12_isLead 0 (Int32.ofNat a) (Int32.ofNat x) Z = some 0) := by
  have st : ∀ n s (K : Int32 → Option Int32), s < N → f_X12_isLead_28 0 (Int32.ofNat a) (Int32.ofNat x) Z K (n + 1) 1 (Int32.ofNat s) = br (Up T (x - 1) s = 0) (br (s = a) (f_X12_isLead_28 0 (Int32.ofNat a) (Int32.ofNat x) Z K n 1 (Int32.ofNat (s + 1))) (br (Up T x s = 0) (f_X12_isLead_28 0 (Int32.ofNat a) (Int32.ofNat x) Z K n 1 (Int32.ofNat (s + 1))) (f_X12_isLead_28 0 (Int32.ofNat a) (Int32.ofNat x) Z K n 0 (Int32.ofNat (s + 1))))) (f_X12_isLead_28 0 (Int32.ofNat a) (Int32.ofNat x) Z K n 0 (Int32.ofNat (s + 1))) := by
    intro n s K hs
    rw [f_X12_isLead_28, ck_t (by decide), eT, show T (nn 0) = Int32.ofNat N from n0, brn (fun w => absurd ((zLE (by omega) (by omega)).mp w) (by omega)), brn (by decide), zSub1 (by omega), e_rose eT (by omega) (by omega) (by omega), e_rose eT (by omega) (by omega) (by omega)]
    unfold on
    dsimp only
    simp only [bvE, zp1]
    by_cases e : s = a
    · rw [brp e, brp (show Int32.ofNat s = Int32.ofNat a by rw [e])]
    · rw [brn e, brn (fun z => e ((zE (by omega) (by omega)).mp z))]
  have f0 : ∀ n s (K : Int32 → Option Int32), s ≤ N → f_X12_isLead_28 0 (Int32.ofNat a) (Int32.ofNat x) Z K (n + 1) 0 (Int32.ofNat s) = K 0 := by
    intro n s K hs
    rw [f_X12_isLead_28, ck_t (by decide), eT, show T (nn 0) = Int32.ofNat N from n0]
    by_cases hc : Int32.ofNat N ≤ Int32.ofNat s
    · rw [brp hc]
    · rw [brn hc, brp rfl]
  have L := fun (K : Int32 → Option Int32) => allLoop (fun n s => f_X12_isLead_28 0 (Int32.ofNat a) (Int32.ofNat x) Z K n 1 (Int32.ofNat s)) (fun s => Up T (x - 1) s = 0 ∧ (s = a ∨ Up T x s = 0)) N (K 1) (K 0) (fun n => by
      show f_X12_isLead_28 _ _ _ _ _ (n + 1) _ _ = _
      rw [f_X12_isLead_28, ck_t (by decide), eT, show T (nn 0) = Int32.ofNat N from n0, brp ((zLE (by omega) (by omega)).mpr (Nat.le_refl N))]) (fun n s hs hc => by
      show f_X12_isLead_28 _ _ _ _ _ (n + 1) _ _ = _
      rw [st n s K hs, brp hc.1]
      rcases hc.2 with e | e
      · rw [brp e]
      · by_cases e9 : s = a
        · rw [brp e9]
        · rw [brn e9, brp e]) (fun n s hs hn hc => by
      show f_X12_isLead_28 _ _ _ _ _ (n + 1) _ _ = _
      obtain ⟨m, rfl⟩ : ∃ m, n = m + 1 := ⟨n - 1, by omega⟩
      rw [st _ s K hs, f0 m (s + 1) K (by omega)]
      by_cases e : Up T (x - 1) s = 0
      · rw [brp e, brn (fun z => hc ⟨e, Or.inl z⟩), brn (fun z => hc ⟨e, Or.inr z⟩)]
      · rw [brn e]) FU 0 (by omega) (by unfold FU; omega)
  unfold f_X12_isLead
  have kb : kp h (Int32.ofNat x - 2) := by
    rw [show Int32.ofNat x - 2 = Int32.ofNat (x - 2) from zS 2 (by omega)]
    exact ⟨fun z => absurd ((zL (by omega) (by omega)).mp z) (by omega), (zL (by omega) (by omega)).mpr (by omega)⟩
  rw [(e_isBoard (S := Z) (by rw [eT]; exact n2) hh).1 kb, e_rose eT (by omega) (by omega) (by omega)]
  unfold on
  dsimp only
  simp only [bvE]
  rw [brn (show ¬ (1 : Int32) = 0 by decide)]
  obtain ⟨l1, l2⟩ := L (fun (x3_20 : Int32) => ck (x3_20 = 0 ∨ x3_20 = 1) (some x3_20))
  have l1 : _ → f_X12_isLead_28 0 (Int32.ofNat a) (Int32.ofNat x) Z (fun (x3_20 : Int32) => ck (x3_20 = 0 ∨ x3_20 = 1) (some x3_20)) FU 1 0 = some 1 := l1
  have l2 : _ → f_X12_isLead_28 0 (Int32.ofNat a) (Int32.ofNat x) Z (fun (x3_20 : Int32) => ck (x3_20 = 0 ∨ x3_20 = 1) (some x3_20)) FU 1 0 = some 0 := l2
  rcases Up01 (T := T) (x := x) (s := a) with u | u
  · rw [brp u]
    refine ⟨fun z => absurd (z a ha).1 (by rw [u, if_pos rfl]; decide), fun _ => ?_⟩
    exact f0 99999 0 (fun (x3_20 : Int32) => ck (x3_20 = 0 ∨ x3_20 = 1) (some x3_20)) (by omega)
  · rw [brn (by rw [u]; decide)]
    refine ⟨fun z => l1 (fun s' _ b => ⟨(z s' b).2, ?_⟩), fun z => l2 (fun w => z (fun s' b => ⟨?_, (w s' (by omega) b).1⟩))⟩
    · by_cases e : s' = a
      · exact Or.inl e
      · have := (z s' b).1
        rw [if_neg e] at this
        exact Or.inr this
    · rcases (w s' (by omega) b).2 with e | e
      · rw [if_pos e, e]; exact u
      · by_cases e9 : s' = a
        · rw [if_pos e9, e9]; exact u
        · rw [if_neg e9]; exact e
end LD
