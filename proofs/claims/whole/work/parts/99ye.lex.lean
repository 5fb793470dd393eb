section
-- READING: the reference's next token
/-- the reference's bytes -/
def Tpr (Z : St) (c : Nat → Nat) (n : Nat) : Prop := n ≤ 400 ∧ ∀ i, i < n → c i < 256 ∧ gi Z 66 0 i = Int32.ofNat (c i)
theorem uu2 {r : Nat → Int32} {k l : Nat} {a b x y : Int32} : upd (upd (upd (upd r k a) l b) k x) l y = upd (upd r k x) l y := by
  funext j
  by_cases e : j = l
  · rw [e, upd_eq, upd_eq]
  rw [upd_ne e, upd_ne e]
  by_cases e2 : j = k
  · rw [e2, upd_eq, upd_eq]
  rw [upd_ne e2, upd_ne e2, upd_ne e, upd_ne e2]
/-- what the digits from b to e tell, two at most -/
def nv2 (c : Nat → Nat) (b e : Nat) : Nat := if e - b = 0 then 0 else nmv c b e
section
variable {Z : St} {c : Nat → Nat} {n : Nat}
theorem nx0 (h : Tpr Z c n) : ∀ (m p : Nat) (r : Nat → Int32), p ≤ n → n - p < m → r 10 = Int32.ofNat n → r 11 = Int32.ofNat p → ∀ K, f_X12_next_0 0 K m (ai Z 60 0 r) = K (ai Z 60 0 (upd r 11 (Int32.ofNat (bgn c n p)))) := by
  have h4 := h.1
  intro m
  induction m with
  | zero => intro p r _ h; omega
  | succ m ih =>
    intro p r hp hm h10 h8 K
    have t66 : gi (ai Z 60 0 r) 66 0 = gi Z 66 0 := rfl
    rw [f_X12_next_0, gai, h8, h10, t66]
    by_cases c0 : n ≤ p
    · rw [brp ((zLE (by omega) (by omega)).mpr c0), bgn_st (by omega), us h8]
    have hd := (h.2 p (by omega)).1
    rw [brn (fun z => c0 ((zLE (by omega) (by omega)).mp z)), ck_t (ib (by omega) (by omega)), zN (by omega), (h.2 p (by omega)).2]
    have go : f_X12_next_0 0 K m (si (ai Z 60 0 r) 60 0 11 (Int32.ofNat p + 1)) = K (ai Z 60 0 (upd r 11 (Int32.ofNat (bgn c n (p + 1))))) := by
      rw [si_ai, zp1, ih (p + 1) _ (by omega) (by omega) (by rw [upd_ne (by decide)]; exact h10) upd_eq K, uu]
    simp only [bvN, gai, h8, ck_t (show inb (Int32.ofNat p) 400 = true from ib (by omega) (by omega))]
    by_cases w1 : c p = 32
    · rw [brp (show Int32.ofNat (c p) = 32 by rw [w1]; rfl), go, bgn_go (p := p) (by omega) (wsp_i.mpr (Or.inl w1))]
    · rw [brn (show ¬ Int32.ofNat (c p) = 32 from fun z => w1 ((zE (b := 32) (by omega) (by omega)).mp z))]
      by_cases w2 : c p = 10
      · rw [brp (show Int32.ofNat (c p) = 10 by rw [w2]; rfl), go, bgn_go (p := p) (by omega) (wsp_i.mpr (Or.inr w2))]
      · rw [brn (show ¬ Int32.ofNat (c p) = 10 from fun z => w2 ((zE (b := 10) (by omega) (by omega)).mp z)), bgn_st (fun z => (wsp_i.mp z.2).elim w1 w2), us h8]
theorem e_see (h : Tpr Z c n) {r : Nat → Int32} {p : Nat} (hp : p ≤ n) (h10 : r 10 = Int32.ofNat n) : f_X12_see 0 (Int32.ofNat p) (ai Z 60 0 r) = some (Int32.ofNat (if p < n then c p else 0)) := by
  have h4 := h.1
  have t66 : gi (ai Z 60 0 r) 66 0 = gi Z 66 0 := rfl
  unfold f_X12_see
  rw [gai, h10, t66, bvN]
  by_cases c0 : n ≤ p
  · rw [brp ((zLE (by omega) (by omega)).mpr c0), if_neg (by omega)]; rfl
  · rw [brn (fun z => c0 ((zLE (by omega) (by omega)).mp z)), ck_t (ib (by omega) (by omega)), zN (by omega), (h.2 p (by omega)).2, if_pos (by omega)]
theorem nx99 (h : Tpr Z c n) : ∀ (m p : Nat) (r : Nat → Int32), p ≤ n → n - p < m → r 10 = Int32.ofNat n → r 11 = Int32.ofNat p → ∀ K, f_X12_next_99 0 K m (ai Z 60 0 r) = K (ai Z 60 0 (upd r 11 (Int32.ofNat (enL c n p)))) := by
  have h4 := h.1
  intro m
  induction m with
  | zero => intro p r _ h; omega
  | succ m ih =>
    intro p r hp hm h10 h8 K
    have hd : (if p < n then c p else 0) < 256 := by
      by_cases c0 : p < n
      · rw [if_pos c0]; exact (h.2 p c0).1
      · rw [if_neg c0]; omega
    rw [f_X12_next_99, gai, h8, e_see h hp h10, onS, (byt hd).2.2.1, onS]
    by_cases c0 : p < n
    · rw [if_pos c0]
      by_cases w1 : ltr (c p) = true
      · rw [w1, brn (by decide), bvN, si_ai, zp1, ih (p + 1) _ (by omega) (by omega) (by rw [upd_ne (by decide)]; exact h10) upd_eq K, uu, enL_go (p := p) c0 w1]
      · rw [Bool.eq_false_iff.mpr w1, brp (show bo1 false = 0 by decide), enL_st (fun z => w1 z.2), us h8]
    · rw [if_neg c0, brp (show bo1 (ltr 0) = 0 by decide), enL_st (fun z => c0 z.1), us h8]
theorem nx146 (h : Tpr Z c n) {b : Nat} : ∀ (m p : Nat) (r : Nat → Int32), b ≤ p → p ≤ n → n - p < m → r 10 = Int32.ofNat n → r 11 = Int32.ofNat p → r 12 = Int32.ofNat b → r 14 = Int32.ofNat (nv2 c b p) → ∀ K, f_X12_next_146 0 K m (ai Z 60 0 r) = K (ai Z 60 0 (upd (upd r 14 (Int32.ofNat (nv2 c b (enD c n p)))) 11 (Int32.ofNat (enD c n p)))) := by
  have h4 := h.1
  intro m
  induction m with
  | zero => intro p r _ _ h; omega
  | succ m ih =>
    intro p r hbp hp hm h10 h8 h12 h14 K
    have hd : (if p < n then c p else 0) < 256 := by
      by_cases c0 : p < n
      · rw [if_pos c0]; exact (h.2 p c0).1
      · rw [if_neg c0]; omega
    rw [f_X12_next_146, gai, h8, e_see h hp h10, onS, (byt hd).2.2.2.1, onS]
    have stop : K (ai Z 60 0 r) = K (ai Z 60 0 (upd (upd r 14 (Int32.ofNat (nv2 c b p))) 11 (Int32.ofNat p))) := by rw [us h14, us h8]
    by_cases c0 : p < n
    · rw [if_pos c0]
      by_cases w1 : dgt (c p) = true
      · obtain ⟨d1, d2⟩ := dgt_i.mp w1
        have go : ∀ v : Int32, v = Int32.ofNat (nv2 c b (p + 1)) → f_X12_next_146 0 K m (ai Z 60 0 (upd (upd r 14 v) 11 (Int32.ofNat (p + 1)))) = K (ai Z 60 0 (upd (upd r 14 (Int32.ofNat (nv2 c b (enD c n p)))) 11 (Int32.ofNat (enD c n p)))) := by
          intro v hv
          rw [ih (p + 1) _ (by omega) (by omega) (by omega) (by rw [upd_ne (by decide), upd_ne (by decide)]; exact h10) upd_eq (by rw [upd_ne (by decide), upd_ne (by decide)]; exact h12) (by rw [upd_ne (by decide), upd_eq]; exact hv) K, uu2, enD_go (p := p) c0 w1]
        have t66 : gi (ai Z 60 0 r) 66 0 = gi Z 66 0 := rfl
        have g11 : ∀ v : Int32, upd r 14 v 11 = Int32.ofNat p := fun v => by rw [upd_ne (by decide)]; exact h8
        rw [w1, brn (by decide)]
        simp only [bvN, gai, h12, h14, h8, si_ai, t66, g11, zp1]
        rw [zS b hbp]
        by_cases c2 : 2 ≤ p - b
        · rw [brp (show (2 : Int32) ≤ Int32.ofNat (p - b) from (zLE (a := 2) (by omega) (by omega)).mpr c2)]
          refine go _ ?_
          unfold nv2 nmv
          rw [if_neg (by omega), if_neg (by omega), if_neg (by omega), if_neg (by omega)]
        · rw [brn (show ¬ (2 : Int32) ≤ Int32.ofNat (p - b) from fun z => c2 ((zLE (a := 2) (by omega) (by omega)).mp z)), ck_t (ib (by omega) (by omega)), zN (by omega), (h.2 p c0).2]
          refine go _ ?_
          by_cases c1 : p - b = 0
          · have e0 : p = b := by omega
            unfold nv2 nmv
            rw [if_pos c1, if_neg (by omega), if_pos (by omega), e0, zMu, zAA]
            refine (zS 48 (by rw [e0] at d1; omega)).trans ?_
            congr 1
            rw [e0] at d1; omega
          · have e0 : p = b + 1 := by omega
            unfold nv2 nmv
            rw [if_neg c1, if_pos (by omega), if_neg (by omega), if_neg (by omega), e0, zMu, zAA]
            refine (zS 48 (by rw [e0] at d1; omega)).trans ?_
            congr 1
            rw [e0] at d1; omega
      · rw [Bool.eq_false_iff.mpr w1, brp (show bo1 false = 0 by decide), enD_st (fun z => w1 z.2)]; exact stop
    · rw [if_neg c0, brp (show bo1 (dgt 0) = 0 by decide), enD_st (fun z => c0 z.1)]; exact stop
end
end
