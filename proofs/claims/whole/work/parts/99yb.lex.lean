section
-- READING: the class's next token
theorem wsp_i {d : Nat} : wsp d = true ↔ d = 32 ∨ d = 10 := by
  unfold wsp; rw [Bool.or_eq_true, decide_eq_true_eq, decide_eq_true_eq]
theorem ltr_i {d : Nat} : ltr d = true ↔ 97 ≤ d ∧ d ≤ 122 := by
  unfold ltr; rw [Bool.and_eq_true, decide_eq_true_eq, decide_eq_true_eq]
theorem dgt_i {d : Nat} : dgt d = true ↔ 48 ≤ d ∧ d ≤ 57 := by
  unfold dgt; rw [Bool.and_eq_true, decide_eq_true_eq, decide_eq_true_eq]
theorem nb_d {d : Nat} (h : d < 128) : nb d = Int32.ofNat d := (nb_ch (by omega) h).mpr rfl
section
variable {c : Nat → Nat} {n p : Nat}
theorem bgn_go (h : p < n) (hp : wsp (c p) = true) : bgn c n p = bgn c n (p + 1) := ru_go (P := fun i => wsp (c i)) h hp
theorem bgn_st (h : ¬ (p < n ∧ wsp (c p) = true)) : bgn c n p = p := ru_st (P := fun i => wsp (c i)) h
theorem enL_go (h : p < n) (hp : ltr (c p) = true) : enL c n p = enL c n (p + 1) := ru_go (P := fun i => ltr (c i)) h hp
theorem enL_st (h : ¬ (p < n ∧ ltr (c p) = true)) : enL c n p = p := ru_st (P := fun i => ltr (c i)) h
theorem enD_go (h : p < n) (hp : dgt (c p) = true) : enD c n p = enD c n (p + 1) := ru_go (P := fun i => dgt (c i)) h hp
theorem enD_st (h : ¬ (p < n ∧ dgt (c p) = true)) : enD c n p = p := ru_st (P := fun i => dgt (c i)) h
end
/-- the class's bytes -/
def Tpc (S : St) (c : Nat → Nat) (n : Nat) : Prop := n ≤ 400 ∧ ∀ i, i < n → c i < 256 ∧ gi S 29 0 i = nb (c i)
section
variable {S : St} {c : Nat → Nat} {n : Nat}
theorem nt8 (h : Tpc S c n) : ∀ (m p : Nat) (r : Nat → Int32), p ≤ n → n - p < m → r 8 = Int32.ofNat p → ∀ K, f_X9_nextToken_8 0 (Int32.ofNat n) K m (ai S 28 0 r) = K (ai S 28 0 (upd r 8 (Int32.ofNat (bgn c n p)))) := by
  have h4 := h.1
  intro m
  induction m with
  | zero => intro p r _ h; omega
  | succ m ih =>
    intro p r hp hm h8 K
    have t29 : gi (ai S 28 0 r) 29 0 = gi S 29 0 := rfl
    rw [f_X9_nextToken_8, gai, h8, t29]
    by_cases c0 : n ≤ p
    · rw [brp ((zLE (by omega) (by omega)).mpr c0), bgn_st (by omega), us h8]
    rw [brn (fun z => c0 ((zLE (by omega) (by omega)).mp z)), ck_t (ib (by omega) (by omega)), zN (by omega), (h.2 p (by omega)).2]
    obtain ⟨-, -, -, -, -, -, y7, y8, -⟩ := byt (S := S) (h.2 p (by omega)).1
    have go : f_X9_nextToken_8 0 (Int32.ofNat n) K m (si (ai S 28 0 r) 28 0 8 (Int32.ofNat p + 1)) = K (ai S 28 0 (upd r 8 (Int32.ofNat (bgn c n (p + 1))))) := by
      rw [si_ai, zp1, ih (p + 1) _ (by omega) (by omega) upd_eq K, uu]
    simp only [bvN, gai, h8, ck_t (show inb (Int32.ofNat p) 400 = true from ib (by omega) (by omega))]
    by_cases w1 : c p = 32
    · rw [brp (y7.mpr w1), go, bgn_go (p := p) (by omega) (wsp_i.mpr (Or.inl w1))]
    · rw [brn (fun z => w1 (y7.mp z))]
      by_cases w2 : c p = 10
      · rw [brp (y8.mpr w2), go, bgn_go (p := p) (by omega) (wsp_i.mpr (Or.inr w2))]
      · rw [brn (fun z => w2 (y8.mp z)), bgn_st (fun z => (wsp_i.mp z.2).elim w1 w2), us h8]
theorem nt92 (h : Tpc S c n) : ∀ (m p : Nat) (r : Nat → Int32), p ≤ n → n - p < m → r 9 = Int32.ofNat p → ∀ K, f_X9_nextToken_92 0 (Int32.ofNat n) K m (ai S 28 0 r) = K (ai S 28 0 (upd r 9 (Int32.ofNat (enL c n p)))) := by
  have h4 := h.1
  intro m
  induction m with
  | zero => intro p r _ h; omega
  | succ m ih =>
    intro p r hp hm h8 K
    have t29 : gi (ai S 28 0 r) 29 0 = gi S 29 0 := rfl
    rw [f_X9_nextToken_92, gai, h8, t29]
    by_cases c0 : n ≤ p
    · rw [brp ((zLE (by omega) (by omega)).mpr c0), enL_st (by omega), us h8]
    rw [brn (fun z => c0 ((zLE (by omega) (by omega)).mp z)), ck_t (ib (by omega) (by omega)), zN (by omega), (h.2 p (by omega)).2, (byt (h.2 p (by omega)).1).1, onS]
    by_cases w1 : ltr (c p) = true
    · rw [w1, brn (by decide), bvN, si_ai, zp1, ih (p + 1) _ (by omega) (by omega) upd_eq K, uu, enL_go (p := p) (by omega) w1]
    · rw [Bool.eq_false_iff.mpr w1, brp (show bo1 false = 0 by decide), enL_st (fun z => w1 z.2), us h8]
theorem nt140 (h : Tpc S c n) : ∀ (m p : Nat) (r : Nat → Int32), p ≤ n → n - p < m → r 9 = Int32.ofNat p → ∀ K, f_X9_nextToken_140 0 (Int32.ofNat n) K m (ai S 28 0 r) = K (ai S 28 0 (upd r 9 (Int32.ofNat (enD c n p)))) := by
  have h4 := h.1
  intro m
  induction m with
  | zero => intro p r _ h; omega
  | succ m ih =>
    intro p r hp hm h8 K
    have t29 : gi (ai S 28 0 r) 29 0 = gi S 29 0 := rfl
    rw [f_X9_nextToken_140, gai, h8, t29]
    by_cases c0 : n ≤ p
    · rw [brp ((zLE (by omega) (by omega)).mpr c0), enD_st (by omega), us h8]
    rw [brn (fun z => c0 ((zLE (by omega) (by omega)).mp z)), ck_t (ib (by omega) (by omega)), zN (by omega), (h.2 p (by omega)).2, (byt (h.2 p (by omega)).1).2.1, onS]
    by_cases w1 : dgt (c p) = true
    · rw [w1, brn (by decide), bvN, si_ai, zp1, ih (p + 1) _ (by omega) (by omega) upd_eq K, uu, enD_go (p := p) (by omega) w1]
    · rw [Bool.eq_false_iff.mpr w1, brp (show bo1 false = 0 by decide), enD_st (fun z => w1 z.2), us h8]
theorem cNum (h : Tpc S c n) {r : Nat → Int32} {b e : Nat} (h8 : r 8 = Int32.ofNat b) (h9 : r 9 = Int32.ofNat e) (hb : b < e) (he : e ≤ n) (hd : ∀ i, b ≤ i → i < e → dgt (c i) = true) : f_X9_codeOfNumber 0 (ai S 28 0 r) = some (if e - b ≤ 2 then Int32.ofNat (200 + nmv c b e) else -2) := by
  have h4 := h.1
  unfold f_X9_codeOfNumber
  have t29 : gi (ai S 28 0 r) 29 0 = gi S 29 0 := rfl
  rw [gai, h8, h9, zS b (by omega), bvN]
  by_cases c2 : e - b ≤ 2
  · rw [if_pos c2, brp (show Int32.ofNat (e - b) ≤ 2 from (zLE (b := 2) (by omega) (by omega)).mpr c2), bvN]
    obtain ⟨m, hm⟩ : ∃ m, FU = m + 1 + 1 + 1 := ⟨99997, rfl⟩
    obtain ⟨d1, d2⟩ := dgt_i.mp (hd b (by omega) hb)
    have v1 : (10 * (0 : Int32) + nb (c b) - 48) = Int32.ofNat (c b - 48) := by
      rw [nb_d (by omega), show (10 * (0 : Int32)) = 0 from rfl, Int32.zero_add]; exact zS 48 d1
    rw [hm, f_X9_codeOfNumber_25, gai, h9, brn (fun z => absurd ((zLE (by omega) (by omega)).mp z) (by omega)), ck_t (ib (by omega) (by omega)), t29, zN (by omega), (h.2 b (by omega)).2, v1, bvN, bvN, zp1, f_X9_codeOfNumber_25, gai, h9]
    by_cases c1 : e - b = 1
    · rw [brp ((zLE (by omega) (by omega)).mpr (by omega)), zA, nmv, if_pos c1]
    · obtain ⟨d3, d4⟩ := dgt_i.mp (hd (b + 1) (by omega) (by omega))
      have v2 : (10 * Int32.ofNat (c b - 48) + nb (c (b + 1)) - 48) = Int32.ofNat (10 * (c b - 48) + (c (b + 1) - 48)) := by
        rw [nb_d (by omega), zMu, zAA]
        refine (zS 48 (by omega)).trans ?_
        congr 1; omega
      rw [brn (fun z => absurd ((zLE (by omega) (by omega)).mp z) (by omega)), ck_t (ib (by omega) (by omega)), t29, zN (by omega), (h.2 (b + 1) (by omega)).2, v2, bvN, bvN, zp1, f_X9_codeOfNumber_25, gai, h9, brp ((zLE (by omega) (by omega)).mpr (by omega)), zA, nmv, if_neg c1]
  · rw [if_neg c2, brn (show ¬ Int32.ofNat (e - b) ≤ 2 from fun z => c2 ((zLE (b := 2) (by omega) (by omega)).mp z))]
end
end
