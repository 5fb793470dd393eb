section
-- NEW RULES, A NEW LAW: what stays
theorem Cr.fr2 {t g : Nat} {S S' : St} {T : Nat → Int32} {M : Nat → Int64} {W : Nat → Nat → Prop} (hf : Fr W S S') (hw : ∀ k x, W k x → ¬ own g k x ∨ (32 ≤ k ∧ k ≤ 35 ∧ t < x)) (h : Cr t S g T M) : Cr t S' g T M := by
  have e : ∀ k x, own g k x → ¬ (32 ≤ k ∧ k ≤ 35) → gi S' k x = gi S k x ∧ gl S' k x = gl S k x ∧ gr S' k x = gr S k x ∧ gn S' k x = gn S k x := fun k x ho hn => hf k x (fun z => (hw k x z).elim (fun y => y ho) (fun y => hn ⟨y.1, y.2.1⟩))
  have a : ∀ k, (2 ≤ k ∧ k ≤ 13 ∨ 17 ≤ k ∧ k ≤ 22 ∨ k = 25) → gi S' k g = gi S k g ∧ gl S' k g = gl S k g ∧ gr S' k g = gr S k g ∧ gn S' k g = gn S k g := fun k hk => e k g (Or.inl ⟨hk, rfl⟩) (by omega)
  have b0 : ∀ k, (k = 14 ∨ k = 15 ∨ k = 16 ∨ k = 24) → gi S' k (2 * g) = gi S k (2 * g) ∧ gl S' k (2 * g) = gl S k (2 * g) ∧ gr S' k (2 * g) = gr S k (2 * g) ∧ gn S' k (2 * g) = gn S k (2 * g) := fun k hk => e k _ (Or.inr (Or.inl ⟨hk, Or.inl rfl⟩)) (by omega)
  have b1 : ∀ k, (k = 14 ∨ k = 15 ∨ k = 16 ∨ k = 24) → gi S' k (2 * g + 1) = gi S k (2 * g + 1) ∧ gl S' k (2 * g + 1) = gl S k (2 * g + 1) ∧ gr S' k (2 * g + 1) = gr S k (2 * g + 1) ∧ gn S' k (2 * g + 1) = gn S k (2 * g + 1) := fun k hk => e k _ (Or.inr (Or.inl ⟨hk, Or.inr rfl⟩)) (by omega)
  have r : ∀ k x, 32 ≤ k → k ≤ 35 → x ≤ t → gi S' k x = gi S k x ∧ gl S' k x = gl S k x ∧ gr S' k x = gr S k x ∧ gn S' k x = gn S k x := fun k x h1 h2 h3 => hf k x (fun z => (hw k x z).elim (fun y => y (Or.inr (Or.inr ⟨h1, h2⟩))) (fun y => by omega))
  obtain ⟨N, D, h', lv, ri, to, ch, c1, c2, c3, c4, c5, c6, c7, c8, c9, c10, c11, c12, c13, c14, c15⟩ := h
  refine ⟨N, D, h', lv, ri, to, ch, c1, ?_, ?_, ?_, ?_, ?_, ?_, ?_, ?_, ?_, ?_, ?_, ?_, ?_, ?_⟩
  · unfold Ckn
    rw [(a 2 (by omega)).1, (a 9 (by omega)).1, (b0 14 (by omega)).1, (a 22 (by omega)).1, (b1 14 (by omega)).1, (a 17 (by omega)).1, (b0 15 (by omega)).2.2.2, (b1 15 (by omega)).2.2.2]
    exact c2
  · rw [(a 3 (by omega)).1, (a 4 (by omega)).1, (a 5 (by omega)).1]; exact c3
  · rw [(a 6 (by omega)).2.1, (a 7 (by omega)).2.1, (a 2 (by omega)).2.1]; exact c4
  · rw [(a 10 (by omega)).1, (a 11 (by omega)).1, (a 12 (by omega)).1, (a 13 (by omega)).1]; exact c5
  · rw [(b0 15 (by omega)).1, (b0 16 (by omega)).1]; exact c6
  · rw [(b1 15 (by omega)).1, (b1 16 (by omega)).1]; exact c7
  · rw [(a 18 (by omega)).1, (a 19 (by omega)).1, (a 20 (by omega)).1]; exact c8
  · rw [(a 21 (by omega)).1]; exact c9
  · rw [(a 22 (by omega)).1, (a 25 (by omega)).1]; exact c10
  · rw [(b0 24 (by omega)).1, (b1 24 (by omega)).1]; exact c11
  · rw [(a 2 (by omega)).2.2.1]
    cases hL : gr S 2 g 8 with
    | none => rw [hL] at c12; exact c12
    | some L =>
      rw [hL] at c12
      have eL : gi S' 35 L = gi S 35 L := (r 35 L (by omega) (by omega) (c14 L hL)).1
      unfold Cla at c12 ⊢
      dsimp only at c12 ⊢
      rw [eL]; exact c12
  · rw [(a 8 (by omega)).2.2.1]
    refine ⟨c13.1, fun s hs => ?_⟩
    have := c13.2 s hs
    cases hr : gr S 8 g s with
    | none => rw [hr] at this; exact this
    | some r9 =>
      rw [hr] at this
      have l9 := c15 s r9 hr
      show ∃ rs, Cru1 rs (gn S' 33 r9) (gn S' 34 r9) (gi S' 33 r9) (gi S' 34 r9) T _
      rw [(r 33 r9 (by omega) (by omega) l9).1, (r 34 r9 (by omega) (by omega) l9).1, (r 33 r9 (by omega) (by omega) l9).2.2.2, (r 34 r9 (by omega) (by omega) l9).2.2.2]
      exact this
  · rw [(a 2 (by omega)).2.2.1]; exact c14
  · rw [(a 8 (by omega)).2.2.1]; exact c15
/-- rows that a new text may write -/
def WT (t k x : Nat) : Prop := WS k x ∨ k = 28 ∨ k = 30 ∨ k = 31 ∨ (k = 61 ∧ x = 0) ∨ ((k = 2 ∨ k = 8) ∧ x = 0) ∨ (32 ≤ k ∧ k ≤ 35 ∧ t < x) ∨ 100 ≤ k
theorem Inv.txt {t : Nat} {S S' : St} (h : Inv t S) (hf : Fr (WT t) S S') (h26 : gl S' 60 0 26 = gl S 60 0 26) (h27 : gl S' 60 0 27 = gl S 60 0 27) (hd : Crd S') (hc : Cr (t + 1) S' 0 (gi S' 61 0) (gl S' 63 0)) : Inv (t + 1) S' := by
  have n : ∀ k x, (k = 0 ∨ k = 1 ∨ k = 29 ∨ k = 50 ∨ k = 51 ∨ k = 53 ∨ k = 62 ∨ k = 64 ∨ k = 65 ∨ k = 66 ∨ k = 78 ∨ k = 79 ∨ k = 80) → ¬ WT t k x := by
    intro k x hk hw
    unfold WT WS Scr at hw
    omega
  have e : ∀ k x, (k = 0 ∨ k = 1 ∨ k = 29 ∨ k = 50 ∨ k = 51 ∨ k = 53 ∨ k = 62 ∨ k = 64 ∨ k = 65 ∨ k = 66 ∨ k = 78 ∨ k = 79 ∨ k = 80) → gi S' k x = gi S k x ∧ gl S' k x = gl S k x ∧ gr S' k x = gr S k x ∧ gn S' k x = gn S k x := fun k x hk => hf k x (n k x hk)
  obtain ⟨q1, q2, q3, q4, q5⟩ := h
  refine ⟨hc, ⟨fun i hi => ?_, fun i j g => ?_⟩, hd, ?_, ?_⟩
  · have := q2.1 i hi
    rw [(e 1 0 (by omega)).2.2.1]
    cases hr : gr S 1 0 i with
    | none => rw [hr] at this; show gi S' 65 0 i = 0; rw [(e 65 0 (by omega)).1]; exact this
    | some g =>
      rw [hr] at this
      obtain ⟨a1, a2, a3, a4⟩ := this
      refine ⟨by rw [(e 65 0 (by omega)).1]; exact a1, a2, by omega, ?_⟩
      rw [(e 62 0 (by omega)).1, (e 64 0 (by omega)).2.1]
      refine (Cr.fr2 hf (fun k x hw => ?_) a4).t (Nat.le_succ t)
      unfold WT WS Scr at hw
      unfold own
      omega
  · rw [(e 1 0 (by omega)).2.2.1]; exact q2.2 i j g
  · unfold Cfr
    rw [(e 0 0 (by omega)).2.1, h26, h27]
    exact q4
  · intro t9 ht
    rw [(e 50 0 (by omega)).1, (e 78 0 (by omega)).1, (e 51 0 (by omega)).1, (e 79 0 (by omega)).1, (e 53 t9 (by omega)).2.1, (e 80 0 (by omega)).2.1]
    exact q5 t9 ht
theorem ru86 {s L : Nat} (hs : s < 4) (hL : L ≤ 440) {K : St → Option (Int32 × St)} : ∀ (n k : Nat) (S : St), k ≤ L → L - k < n → gi S 60 0 20 = Int32.ofNat L → f_X12_rules_86 0 (Int32.ofNat s) K n (Int32.ofNat k) S = K (ai S 61 0 (fun j => if 125 + 440 * s + k ≤ j ∧ j < 125 + 440 * s + L then gi S 67 0 (j - (125 + 440 * s)) else gi S 61 0 j)) := by
  intro n
  induction n with
  | zero => intro k S _ h; omega
  | succ n ih =>
    intro k S hk hn h20
    rw [f_X12_rules_86, h20]
    by_cases hc : L ≤ k
    · rw [brp ((zLE (by omega) (by omega)).mpr hc), ai_ext (f' := gi S 61 0) (fun j => if_neg (by omega)), ai_self]
    · rw [brn (fun w => hc ((zLE (by omega) (by omega)).mp w)), ck_t (ib (by omega) (by omega)), zMu, zA, zAA, ck_t (ib (by omega) (by omega)), zN (by omega), zN (by omega), bvN, bvN, zp1, ih (k + 1) (si S 61 0 (125 + 440 * s + k) (gi S 67 0 k)) (by omega) (by omega) h20]
      show K (ai (ai S 61 0 (upd (gi S 61 0) (125 + 440 * s + k) (gi S 67 0 k))) 61 0 (fun j => if 125 + 440 * s + (k + 1) ≤ j ∧ j < 125 + 440 * s + L then gi S 67 0 (j - (125 + 440 * s)) else upd (gi S 61 0) (125 + 440 * s + k) (gi S 67 0 k) j)) = _
      rw [ai_ai]
      congr 1
      refine ai_ext (fun j => ?_)
      by_cases e : j = 125 + 440 * s + k
      · subst e
        rw [if_neg (by omega), upd_eq, if_pos (by omega), show 125 + 440 * s + k - (125 + 440 * s) = k by omega]
      · rw [upd_ne e]
        by_cases e2 : 125 + 440 * s + (k + 1) ≤ j ∧ j < 125 + 440 * s + L
        · rw [if_pos e2, if_pos (by omega)]
        · rw [if_neg e2, if_neg (by omega)]
section
variable {Z : St} {c : Nat → Nat} {n : Nat}
theorem e_starts (h : Tpr Z c n) : ∃ r, f_X12_starts 0 (Int32.ofNat n) Z = some (D2 Z (gi Z 67 0) r) ∧ Cu c n r 0 ∧ r 16 = 0 ∧ r 9 = 0 ∧ ∀ j, j < 9 ∨ 17 ≤ j → r j = gi Z 60 0 j := by
  have e7 : ∀ r : Nat → Int32, ai Z 60 0 r = D2 Z (gi Z 67 0) r := fun r => by
    unfold D2; rw [ai_self]
  obtain ⟨r1, a1, a2, a3⟩ := rNext h (r := upd (upd (upd (upd (gi Z 60 0) 10 (Int32.ofNat n)) 9 0) 11 0) 16 0) (p := 0) (by omega) (by simp [upd_ap]) (by simp [upd_ap])
  refine ⟨r1, ?_, a2, ?_, ?_, fun j hj => ?_⟩
  · unfold f_X12_starts
    rw [bvN, bvN, bvN, bvN, show si Z 60 0 10 (Int32.ofNat n) = ai Z 60 0 (upd (gi Z 60 0) 10 (Int32.ofNat n)) from rfl, si_ai, si_ai, si_ai, a1, onS, e7]
  · rw [a3 16 (by omega), upd_eq]
  · rw [a3 9 (by omega)]; simp [upd_ap]
  · rw [a3 j (by omega), upd_ne (by omega), upd_ne (by omega), upd_ne (by omega), upd_ne (by omega)]
/-- the reference reads rules: what it does, and what the machine says -/
theorem ref_rules (h : Tpr Z c n) {x1 : Int32} : ∃ fr r, (∀ K, on (f_X12_starts 0 (Int32.ofNat n) Z) (fun S_9 => ck (inb 0 440 = true) (bv (si S_9 67 0 (nn 0) 0) (fun S_11 => bv (si S_11 60 0 20 1) (fun S_12 => f_X12_rules_56 0 x1 K FU S_12)))) = K (D2 Z fr r)) ∧ (∀ j, j < 9 ∨ j = 18 ∨ j = 19 ∨ 22 ≤ j → r j = gi Z 60 0 j) ∧ r 9 = 0 ∧ ((∃ k pl, Bz r k pl ∧ mach c n true 401 0 0 [] [] 0 = some (.inl (k, pl))) ∨ ∃ rs, rs.length ≤ 12 ∧ (∀ x ∈ rs, okR x) ∧ r 16 = 0 ∧ r 20 = Int32.ofNat ((cdRs rs).length + 1) ∧ (cdRs rs).length < 440 - 1 ∧ (∀ i, i < (cdRs rs).length + 1 → fr i = (Int32.ofNat rs.length :: cdRs rs).getD i 0) ∧ mach c n true 401 0 0 [] [] 0 = some (.inr (tkRs rs, stR 0 rs))) := by
  have h4 := h.1
  have F : FU = 100000 := rfl
  obtain ⟨r1, a1, a2, a3, a4, a5⟩ := e_starts h
  obtain ⟨rn, ern⟩ := i32_nat (r1 21)
  have g : Gd c n (upd (gi Z 67 0) 0 0) (upd r1 20 1) 0 (Int32.ofNat ([] : List Ru).length :: cdRs []) rn := by
    refine ⟨by omega, ?_, by rw [upd_ne (by decide)]; exact a3, upd_eq, by rw [upd_ne (by decide)]; exact ern, fun i hi => ?_⟩
    · unfold Cu at a2 ⊢
      rw [upd_ne (by decide), upd_ne (by decide), upd_ne (by decide), upd_ne (by decide), upd_ne (by decide), upd_ne (by decide)]
      exact a2
    · have hi : i < 0 + 1 := hi
      obtain rfl : i = 0 := by omega
      rfl
  obtain ⟨fr, r, o1, o2, o3⟩ := r_rules h (x1 := x1) FU 0 _ _ [] rn (by omega) (by decide) (fun x hx => (by cases hx)) g (by decide)
  refine ⟨fr, r, fun K => ?_, fun j hj => ?_, ?_, ?_⟩
  · rw [a1, onS, ck_t (by decide), bvN, bvN, D2_67, D2_60]
    exact o1 K
  · rw [o2 j (by omega), upd_ne (by omega), a5 j (by omega)]
  · rw [o2 9 (by omega), upd_ne (by decide)]; exact a4
  · rcases o3 with ⟨k, pl, b1, b2⟩ | ⟨rs, b1, b2, b3, b4, b5, b6, b7⟩
    · exact Or.inl ⟨k, pl, b1, b2 401 0 (by omega)⟩
    · exact Or.inr ⟨rs, b1, b2, b3, b4, b5, b6, b7 401 0 (by omega)⟩
theorem e_ends {fr r : Nat → Int32} {v : Int32} : (r 16 = 0 → f_X12_ends 0 v (D2 Z fr r) = some (v, D2 Z fr (upd (upd r 18 (r 16)) 19 (-1)))) ∧ (¬ r 16 = 0 → f_X12_ends 0 v (D2 Z fr r) = some (-10 - r 16, D2 Z fr (upd (upd r 18 (r 16)) 19 (r 17)))) := by
  unfold f_X12_ends
  have g16 : ∀ x : Int32, upd r 18 x 16 = r 16 := fun x => upd_ne (by decide)
  have g17 : ∀ x : Int32, upd r 18 x 17 = r 17 := fun x => upd_ne (by decide)
  have g16b : ∀ x y : Int32, upd (upd r 18 x) 19 y 16 = r 16 := fun x y => by rw [upd_ne (by decide), upd_ne (by decide)]
  simp only [bvN, D2_g, D2_60, g16, g17, g16b]
  exact ⟨fun e => by rw [brp e, brp e], fun e => by rw [brn e, brn e]⟩
end
end
