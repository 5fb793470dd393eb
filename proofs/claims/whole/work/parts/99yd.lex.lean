section
-- READING: the class's next token, as a whole
section
variable {c : Nat → Nat} {n p : Nat}
theorem bgn_ge (h : p ≤ n) : p ≤ bgn c n p ∧ bgn c n p ≤ n := by
  obtain ⟨a1, a2, -⟩ := ru_ge (P := fun i => wsp (c i)) (n := n) n p (by omega)
  exact ⟨a1, a2 h⟩
theorem bgn_bgn : bgn c n (bgn c n p) = bgn c n p := by
  obtain ⟨a1, a2, a3, -⟩ := ru_ge (P := fun i => wsp (c i)) (n := n) n p (by omega)
  exact bgn_st a3
theorem enL_ge (h : p < n) (hp : ltr (c p) = true) : p < enL c n p ∧ enL c n p ≤ n := by
  rw [enL_go h hp]
  obtain ⟨a1, a2, -⟩ := ru_ge (P := fun i => ltr (c i)) (n := n) n (p + 1) (by omega)
  exact ⟨a1, a2 h⟩
theorem enD_ge (h : p < n) (hp : dgt (c p) = true) : p < enD c n p ∧ enD c n p ≤ n ∧ ∀ i, p ≤ i → i < enD c n p → dgt (c i) = true := by
  obtain ⟨-, -, -, a4⟩ := ru_ge (P := fun i => dgt (c i)) (n := n) n p (by omega)
  refine ⟨?_, ?_, a4⟩
  · rw [enD_go h hp]
    exact (ru_ge (P := fun i => dgt (c i)) (n := n) n (p + 1) (by omega)).1
  · rw [enD_go h hp]
    exact (ru_ge (P := fun i => dgt (c i)) (n := n) n (p + 1) (by omega)).2.1 h
end
theorem sgn_i {d : Nat} (h : sgn d = true) : d = 59 ∨ d = 60 ∨ d = 61 ∨ d = 62 ∨ d = 43 ∨ d = 45 := by
  unfold sgn at h
  simp only [Bool.or_eq_true, decide_eq_true_eq] at h
  omega
theorem sg_pair {x : Int32} {S : St} : br (x = 59) (some (x, S)) (on (f_X9_isPlusOrMinus x S) (fun r_29 => br (r_29 = 0) (on (f_X9_isRelation x S) (fun r_32 => br (r_32 = 0) (some (-2, S)) (some (x, S)))) (some (x, S)))) = on (sg9 x S) (fun v => some (v, S)) := by
  unfold sg9
  simp only [bvN]
  by_cases h1 : x = 59
  · rw [brp h1, brp h1]; rfl
  rw [brn h1, brn h1]
  cases f_X9_isPlusOrMinus x S with
  | none => rfl
  | some q =>
    rw [onS, onS]
    by_cases h2 : q = 0
    · rw [brp h2, brp h2]
      cases f_X9_isRelation x S with
      | none => rfl
      | some u =>
        rw [onS, onS]
        by_cases h3 : u = 0
        · rw [brp h3, brp h3]; rfl
        · rw [brn h3, brn h3]; rfl
    · rw [brn h2, brn h2]; rfl
section
variable {S : St} {c : Nat → Nat} {n : Nat}
theorem cTok (h : Tpc S c n) {r : Nat → Int32} {p : Nat} (hp : p ≤ n) (h9 : r 9 = Int32.ofNat p) : f_X9_nextToken 0 (Int32.ofNat n) (ai S 28 0 r) = some (tc (tok c n (bgn c n p)).1, ai S 28 0 (upd (upd r 8 (Int32.ofNat (bgn c n p))) 9 (Int32.ofNat (tok c n (bgn c n p)).2))) := by
  have h4 := h.1
  have F : FU = 100000 := rfl
  have bb := bgn_ge (c := c) hp
  unfold f_X9_nextToken
  rw [gai, h9, bvN, si_ai, nt8 h FU p _ hp (by omega) upd_eq, uu, gai, upd_eq, bvN, si_ai]
  generalize bgn c n p = b at *
  have R8 : upd (upd r 8 (Int32.ofNat b)) 9 (Int32.ofNat b) 8 = Int32.ofNat b := by rw [upd_ne (by decide), upd_eq]
  have R9 : upd (upd r 8 (Int32.ofNat b)) 9 (Int32.ofNat b) 9 = Int32.ofNat b := upd_eq
  have U : ∀ x : Int32, upd (upd (upd r 8 (Int32.ofNat b)) 9 (Int32.ofNat b)) 9 x = upd (upd r 8 (Int32.ofNat b)) 9 x := fun x => uu
  have G8 : ∀ x : Int32, upd (upd r 8 (Int32.ofNat b)) 9 x 8 = Int32.ofNat b := fun x => by rw [upd_ne (by decide), upd_eq]
  have t29 : ∀ r' : Nat → Int32, gi (ai S 28 0 r') 29 0 = gi S 29 0 := fun _ => rfl
  rw [gai, R8, t29]
  unfold tok
  by_cases c0 : n ≤ b
  · rw [brn (fun z => absurd ((zL (by omega) (by omega)).mp z) (by omega)), if_pos c0]; rfl
  obtain ⟨hd, hx⟩ := h.2 b (by omega)
  rw [brp ((zL (by omega) (by omega)).mpr (by omega)), if_neg c0, ck_t (ib (by omega) (by omega)), zN (by omega), hx, bvN, (byt hd).1, onS]
  by_cases w : ltr (c b) = true
  · obtain ⟨e1, e2⟩ := enL_ge (show b < n by omega) w
    rw [if_pos w, w, brn (by decide), nt92 h FU b _ (by omega) (by omega) R9, U, cWord h (G8 _) upd_eq (by omega) e2, onS]
  rw [if_neg w, Bool.eq_false_iff.mpr w, brp (show bo1 false = 0 by decide), (byt hd).2.1, onS]
  by_cases w2 : dgt (c b) = true
  · obtain ⟨e1, e2, e3⟩ := enD_ge (show b < n by omega) w2
    rw [if_pos w2, w2, brn (by decide), nt140 h FU b _ (by omega) (by omega) R9, U, cNum h (G8 _) upd_eq e1 e2 e3, onS]
    by_cases q : enD c n b - b ≤ 2
    · rw [if_pos q, if_pos q, tc_n (by omega) (by omega)]
    · rw [if_neg q, if_neg q]; rfl
  rw [if_neg w2, Bool.eq_false_iff.mpr w2, brp (show bo1 false = 0 by decide)]
  rw [si_ai, R9, zp1, U]
  simp only [bvN]
  rw [sg_pair, (byt hd).2.2.2.2.2.1, onS]
  by_cases q : sgn (c b) = true
  · have := sgn_i q
    rw [if_pos q, if_pos q, tc_n (by omega) (by omega)]
  · rw [if_neg q, if_neg q]; rfl
end
end
