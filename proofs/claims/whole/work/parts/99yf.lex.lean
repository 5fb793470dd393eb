section
-- READING: the reference's next token, as a whole; its words
def kd (t : Nat) : Int32 := if t = 0 then 0 else if t = 2 then 4 else if 200 ≤ t then 2 else if t = 1 ∨ 100 ≤ t then 1 else 3
def sgv (t : Nat) : Int32 := if 3 ≤ t ∧ t < 100 then Int32.ofNat t else 0
/-- the reference has the token from p on before it -/
def Cu (c : Nat → Nat) (n : Nat) (r : Nat → Int32) (p : Nat) : Prop := r 10 = Int32.ofNat n ∧ r 11 = Int32.ofNat (tok c n (bgn c n p)).2 ∧ r 12 = Int32.ofNat (bgn c n p) ∧ r 13 = kd (tok c n (bgn c n p)).1 ∧ (200 ≤ (tok c n (bgn c n p)).1 → r 14 = Int32.ofNat ((tok c n (bgn c n p)).1 - 200)) ∧ r 15 = sgv (tok c n (bgn c n p)).1
theorem upd_ap {f : Nat → Int32} {k i : Nat} {v : Int32} : upd f k v i = if i = k then v else f i := rfl
theorem upd_o {f : Nat → Int32} {k i : Nat} {v : Int32} (hk : 11 ≤ k ∧ k ≤ 15) (hi : i < 11 ∨ 15 < i) : upd f k v i = f i := upd_ne (by omega)
section
variable {c : Nat → Nat} {n b : Nat}
/-- what a token can be -/
theorem tok_all : ((tok c n b).1 = 0 ∧ n ≤ b ∧ (tok c n b).2 = b) ∨ (b < n ∧ b < (tok c n b).2 ∧ (tok c n b).2 ≤ n ∧ (((tok c n b).1 = lk (tx c b (tok c n b).2) wds 100 ∧ ((tok c n b).1 = 1 ∨ 100 ≤ (tok c n b).1 ∧ (tok c n b).1 < 123)) ∨ (200 ≤ (tok c n b).1 ∧ (tok c n b).1 < 300) ∨ (tok c n b).1 = 2 ∨ ((tok c n b).1 = 59 ∨ (tok c n b).1 = 60 ∨ (tok c n b).1 = 61 ∨ (tok c n b).1 = 62 ∨ (tok c n b).1 = 43 ∨ (tok c n b).1 = 45))) := by
  unfold tok
  by_cases c0 : n ≤ b
  · rw [if_pos c0]; exact Or.inl ⟨rfl, c0, rfl⟩
  rw [if_neg c0]
  refine Or.inr ⟨by omega, ?_⟩
  by_cases w : ltr (c b) = true
  · obtain ⟨e1, e2⟩ := enL_ge (show b < n by omega) w
    rw [if_pos w]
    refine ⟨e1, e2, Or.inl ⟨rfl, ?_⟩⟩
    have := lk_ge (x := tx c b (enL c n b)) wds 100
    rw [show wds.length = 23 from rfl] at this
    exact this
  rw [if_neg w]
  by_cases w2 : dgt (c b) = true
  · obtain ⟨e1, e2, e3⟩ := enD_ge (show b < n by omega) w2
    rw [if_pos w2]
    refine ⟨e1, e2, ?_⟩
    by_cases q : enD c n b - b ≤ 2
    · rw [if_pos q]
      refine Or.inr (Or.inl ?_)
      show 200 ≤ 200 + nmv c b (enD c n b) ∧ 200 + nmv c b (enD c n b) < 300
      have a1 := dgt_i.mp w2
      unfold nmv
      by_cases q1 : enD c n b - b = 1
      · rw [if_pos q1]; omega
      · rw [if_neg q1]
        have a2 := dgt_i.mp (e3 (b + 1) (by omega) (by omega))
        omega
    · rw [if_neg q]; exact Or.inr (Or.inr (Or.inl rfl))
  rw [if_neg w2]
  refine ⟨Nat.lt_succ_self b, by omega, Or.inr (Or.inr ?_)⟩
  by_cases q : sgn (c b) = true
  · rw [if_pos q]; exact Or.inr (sgn_i q)
  · rw [if_neg q]; exact Or.inl rfl
end
section
variable {Z : St} {c : Nat → Nat} {n : Nat}
theorem rNext (h : Tpr Z c n) {r : Nat → Int32} {p : Nat} (hp : p ≤ n) (h10 : r 10 = Int32.ofNat n) (h11 : r 11 = Int32.ofNat p) : ∃ r', f_X12_next 0 (ai Z 60 0 r) = some (ai Z 60 0 r') ∧ Cu c n r' p ∧ ∀ j, j < 11 ∨ 15 < j → r' j = r j := by
  have h4 := h.1
  have F : FU = 100000 := rfl
  have bb := bgn_ge (c := c) hp
  unfold f_X12_next Cu
  rw [nx0 h FU p _ hp (by omega) h10 h11]
  generalize bgn c n p = b at *
  have t66 : ∀ r' : Nat → Int32, gi (ai Z 60 0 r') 66 0 = gi Z 66 0 := fun _ => rfl
  have e1 : upd (upd (upd r 11 (Int32.ofNat b)) 12 (Int32.ofNat b)) 15 0 11 = Int32.ofNat b := by simp [upd_ap]
  have e2 : upd (upd (upd r 11 (Int32.ofNat b)) 12 (Int32.ofNat b)) 15 0 10 = Int32.ofNat n := by simp [upd_ap, h10]
  have e3 : upd (upd (upd r 11 (Int32.ofNat b)) 12 (Int32.ofNat b)) 15 0 12 = Int32.ofNat b := by simp [upd_ap]
  have e5 : upd (upd (upd r 11 (Int32.ofNat b)) 12 (Int32.ofNat b)) 15 0 15 = 0 := by simp [upd_ap]
  have eo : ∀ j, j < 11 ∨ 15 < j → upd (upd (upd r 11 (Int32.ofNat b)) 12 (Int32.ofNat b)) 15 0 j = r j := fun j hj => by
    rw [upd_o (by omega) hj, upd_o (by omega) hj, upd_o (by omega) hj]
  rw [gai, upd_eq, bvN, si_ai, bvN, si_ai]
  generalize upd (upd (upd r 11 (Int32.ofNat b)) 12 (Int32.ofNat b)) 15 0 = R at *
  rw [gai, e1, e2, t66]
  unfold tok
  by_cases c0 : n ≤ b
  · rw [brn (fun z => absurd ((zL (by omega) (by omega)).mp z) (by omega)), if_pos c0, bvN, si_ai]
    exact ⟨_, rfl, ⟨by simp [upd_ap, e2], by simp [upd_ap, e1], by simp [upd_ap, e3], by simp [upd_ap, kd], fun z => absurd (show 200 ≤ 0 from z) (by decide), by simp [upd_ap, e5, sgv]⟩, fun j hj => by rw [upd_o (by omega) hj, eo j hj]⟩
  obtain ⟨hd, hx⟩ := h.2 b (by omega)
  rw [brp ((zL (by omega) (by omega)).mpr (by omega)), if_neg c0, ck_t (ib (by omega) (by omega)), zN (by omega), hx, bvN, (byt hd).2.2.1, onS, bvN]
  by_cases w : ltr (c b) = true
  · obtain ⟨g1, g2⟩ := enL_ge (show b < n by omega) w
    rw [if_pos w, w, brn (by decide), nx99 h FU b _ (by omega) (by omega) e2 e1, bvN, si_ai]
    have lg := lk_ge (x := tx c b (enL c n b)) wds 100
    rw [show wds.length = 23 from rfl] at lg
    generalize lk (tx c b (enL c n b)) wds 100 = t at *
    refine ⟨_, rfl, ⟨by simp [upd_ap, e2], by simp [upd_ap], by simp [upd_ap, e3], ?_, fun z => absurd (show 200 ≤ t from z) (by omega), ?_⟩, fun j hj => by rw [upd_o (by omega) hj, upd_o (by omega) hj, eo j hj]⟩
    · rw [upd_eq]
      show 1 = kd t
      unfold kd
      rw [if_neg (by omega), if_neg (by omega), if_neg (by omega), if_pos (by omega)]
    · rw [upd_ne (by decide), upd_ne (by decide), e5]
      show 0 = sgv t
      unfold sgv
      rw [if_neg (by omega)]
  rw [if_neg w, Bool.eq_false_iff.mpr w, brp (show bo1 false = 0 by decide), (byt hd).2.2.2.1, onS]
  by_cases w2 : dgt (c b) = true
  · obtain ⟨g1, g2, g3⟩ := enD_ge (show b < n by omega) w2
    rw [if_pos w2, w2, brn (by decide), bvN, si_ai, nx146 h (b := b) FU b _ (by omega) (by omega) (by omega) (by simp [upd_ap, e2]) (by simp [upd_ap, e1]) (by simp [upd_ap, e3]) (by rw [upd_eq, nv2, if_pos (by omega)]; rfl)]
    have m1 : upd (upd (upd R 14 0) 14 (Int32.ofNat (nv2 c b (enD c n b)))) 11 (Int32.ofNat (enD c n b)) 11 = Int32.ofNat (enD c n b) := upd_eq
    have m2 : upd (upd (upd R 14 0) 14 (Int32.ofNat (nv2 c b (enD c n b)))) 11 (Int32.ofNat (enD c n b)) 12 = Int32.ofNat b := by simp [upd_ap, e3]
    simp only [bvN, gai, si_ai, m1, m2]
    rw [zS b (by omega)]
    have key : ∀ v : Int32, v = kd (if enD c n b - b ≤ 2 then 200 + nmv c b (enD c n b) else 2) → ∃ r', some (ai Z 60 0 (upd (upd (upd (upd R 14 0) 14 (Int32.ofNat (nv2 c b (enD c n b)))) 11 (Int32.ofNat (enD c n b))) 13 v)) = some (ai Z 60 0 r') ∧ (r' 10 = Int32.ofNat n ∧ r' 11 = Int32.ofNat (enD c n b) ∧ r' 12 = Int32.ofNat b ∧ r' 13 = kd (if enD c n b - b ≤ 2 then 200 + nmv c b (enD c n b) else 2) ∧ (200 ≤ (if enD c n b - b ≤ 2 then 200 + nmv c b (enD c n b) else 2) → r' 14 = Int32.ofNat ((if enD c n b - b ≤ 2 then 200 + nmv c b (enD c n b) else 2) - 200)) ∧ r' 15 = sgv (if enD c n b - b ≤ 2 then 200 + nmv c b (enD c n b) else 2)) ∧ ∀ j, j < 11 ∨ 15 < j → r' j = r j := by
      intro v hv
      refine ⟨_, rfl, ⟨by simp [upd_ap, e2], by simp [upd_ap], by simp [upd_ap, e3], by rw [upd_eq]; exact hv, fun z => ?_, ?_⟩, fun j hj => by rw [upd_o (by omega) hj, upd_o (by omega) hj, upd_o (by omega) hj, upd_o (by omega) hj, eo j hj]⟩
      · by_cases q : enD c n b - b ≤ 2
        · rw [if_pos q, upd_ne (by decide), upd_ne (by decide), upd_eq, nv2, if_neg (by omega), show 200 + nmv c b (enD c n b) - 200 = nmv c b (enD c n b) by omega]
        · rw [if_neg q] at z; exact absurd z (by decide)
      · rw [upd_ne (by decide), upd_ne (by decide), upd_ne (by decide), upd_ne (by decide), e5]
        unfold sgv
        by_cases q : enD c n b - b ≤ 2
        · rw [if_pos q, if_neg (by omega)]
        · rw [if_neg q, if_neg (by omega)]
    by_cases q : enD c n b - b ≤ 2
    · rw [brp (show Int32.ofNat (enD c n b - b) ≤ 2 from (zLE (b := 2) (by omega) (by omega)).mpr q)]
      refine key 2 ?_
      unfold kd
      rw [if_pos q, if_neg (by omega), if_neg (by omega), if_pos (by omega)]
    · rw [brn (show ¬ Int32.ofNat (enD c n b - b) ≤ 2 from fun z => q ((zLE (b := 2) (by omega) (by omega)).mp z))]
      refine key 4 ?_
      rw [if_neg q]; rfl
  rw [if_neg w2, Bool.eq_false_iff.mpr w2, brp (show bo1 false = 0 by decide), (byt hd).2.2.2.2.1, onS]
  by_cases q : sgn (c b) = true
  · have sg := sgn_i q
    rw [if_pos q, q]
    have m3 : upd R 13 3 13 = 3 := upd_eq
    have m4 : ∀ v : Int32, upd (upd R 13 3) 15 v 11 = Int32.ofNat b := fun v => by simp [upd_ap, e1]
    simp only [bvN, gai, si_ai]
    rw [brn (show ¬ bo1 true = 0 by decide), m3, brp rfl, m4, zp1]
    refine ⟨_, rfl, ⟨by simp [upd_ap, e2], by simp [upd_ap], by simp [upd_ap, e3], ?_, fun z => absurd (show 200 ≤ c b from z) (by omega), ?_⟩, fun j hj => by rw [upd_o (by omega) hj, upd_o (by omega) hj, upd_o (by omega) hj, eo j hj]⟩
    · rw [upd_ne (by decide), upd_ne (by decide), upd_eq]
      show 3 = kd (c b)
      unfold kd
      rw [if_neg (by omega), if_neg (by omega), if_neg (by omega), if_neg (by omega)]
    · rw [upd_ne (by decide), upd_eq]
      show _ = sgv (c b)
      unfold sgv
      rw [if_pos (by omega)]
  · rw [if_neg q, Bool.eq_false_iff.mpr q]
    have m3 : upd R 13 4 13 = 4 := upd_eq
    have m4 : ∀ v : Int32, upd (upd R 13 4) 15 v 11 = Int32.ofNat b := fun v => by simp [upd_ap, e1]
    simp only [bvN, gai, si_ai]
    rw [brp (show bo1 false = 0 by decide), m3, brn (by decide), m4, zp1]
    refine ⟨_, rfl, ⟨by simp [upd_ap, e2], by simp [upd_ap], by simp [upd_ap, e3], ?_, fun z => absurd z (by decide), ?_⟩, fun j hj => by rw [upd_o (by omega) hj, upd_o (by omega) hj, upd_o (by omega) hj, eo j hj]⟩
    · rw [upd_ne (by decide), upd_ne (by decide), upd_eq]; rfl
    · rw [upd_ne (by decide), upd_eq]; rfl
theorem iw39 (h : Tpr Z c n) {r : Nat → Int32} {b e w : Nat} {L : List Nat} (h12 : r 12 = Int32.ofNat b) (he : e ≤ n) (hw : sby w = L.map Int32.ofNat) (hL : ∀ x ∈ L, 97 ≤ x ∧ x ≤ 122) (hb : b + L.length = e) : ∀ (k i m : Nat), i + k = L.length → k < m → f_X12_isWord_39 0 w (ai Z 60 0 r) (fun x => ck (x = 0 ∨ x = 1) (some x)) m 1 (Int32.ofNat i) = some (if tx c (b + i) e = L.drop i then 1 else 0) := by
  have h4 := h.1
  have t66 : gi (ai Z 60 0 r) 66 0 = gi Z 66 0 := rfl
  have sl : slen w = Int32.ofNat L.length := by unfold slen; rw [hw, List.length_map]
  intro k
  induction k with
  | zero =>
    intro i m hi hm
    obtain ⟨m, rfl⟩ : ∃ x, m = x + 1 := ⟨m - 1, by omega⟩
    rw [f_X12_isWord_39, brn (by decide), sl, brp ((zLE (by omega) (by omega)).mpr (by omega)), ck_t (Or.inr rfl), tx_nil (by omega), List.drop_eq_nil_of_le (by omega), if_pos rfl]
  | succ k ih =>
    intro i m hi hm
    obtain ⟨m, rfl⟩ : ∃ x, m = x + 1 := ⟨m - 1, by omega⟩
    have hiL : i < L.length := by omega
    have ld : L.drop i = L[i] :: L.drop (i + 1) := List.drop_eq_getElem_cons hiL
    obtain ⟨x1, x2⟩ := hL L[i] (List.getElem_mem hiL)
    have ch : schr w (Int32.ofNat i) = Int32.ofNat L[i] := by
      unfold schr
      rw [hw, zN (by omega), List.getD_eq_getElem?_getD, List.getElem?_map, List.getElem?_eq_getElem hiL]
      exact (byt (S := Z) (d := L[i]) (by omega)).2.2.2.2.2.2.2.2.1
    have hd := (h.2 (b + i) (by omega)).1
    rw [f_X12_isWord_39, brn (by decide), sl, brn (fun z => absurd ((zLE (by omega) (by omega)).mp z) (by omega)), gai, h12, zAA, ck_t (ib (by omega) (by omega)), ck_t (by rw [hw, List.length_map]; exact ib hiL (by omega)), t66, zN (by omega), (h.2 (b + i) (by omega)).2, ch]
    simp only [bvN, zp1]
    rw [tx_cons (show b + i < e by omega), ld]
    by_cases q : c (b + i) = L[i]
    · rw [brp (by rw [q]), ih (i + 1) m (by omega) (by omega), q, show b + (i + 1) = b + i + 1 by omega]
      by_cases q2 : tx c (b + i + 1) e = L.drop (i + 1)
      · rw [if_pos q2, if_pos (by rw [q2])]
      · rw [if_neg q2, if_neg (fun z => q2 (List.cons.inj z).2)]
    · obtain ⟨m, rfl⟩ : ∃ x, m = x + 1 := ⟨m - 1, by omega⟩
      rw [brn (fun z => q ((zE (by omega) (by omega)).mp z)), f_X12_isWord_39, brp rfl, ck_t (Or.inl rfl), if_neg (fun z => q (List.cons.inj z).1)]
theorem isW (h : Tpr Z c n) {r : Nat → Int32} {p w j : Nat} (hC : Cu c n r p) (hj : j < 23) (hw : sby w = (wds.getD j []).map Int32.ofNat) : f_X12_isWord 0 w (ai Z 60 0 r) = some (if r 16 = 0 ∧ (tok c n (bgn c n p)).1 = 100 + j then 1 else 0) := by
  have h4 := h.1
  have F : FU = 99999 + 1 := rfl
  obtain ⟨h10, h11, h12, h13, -, -⟩ := hC
  have z0 : f_X12_isWord_39 0 w (ai Z 60 0 r) (fun x => ck (x = 0 ∨ x = 1) (some x)) FU 0 0 = some 0 := by
    rw [F, f_X12_isWord_39, brp rfl, ck_t (Or.inl rfl)]
  unfold f_X12_isWord
  rw [gai]
  simp only [bvN, z0]
  by_cases q : r 16 = 0
  case neg => rw [brn q, if_neg (fun z => q z.1)]
  rw [brp q, h13, h11, h12]
  generalize bgn c n p = b at *
  have ta := tok_all (c := c) (n := n) (b := b)
  generalize tok c n b = te at *
  obtain ⟨t, e⟩ := te
  dsimp only at *
  by_cases k1 : kd t = 1
  case neg =>
    rw [brn k1, if_neg (fun z => k1 (by unfold kd; rw [if_neg (by omega), if_neg (by omega), if_neg (by omega), if_pos (by omega)]))]
  rw [brp k1]
  have tw : t = lk (tx c b e) wds 100 ∧ b < e ∧ e ≤ n := by
    unfold kd at k1
    rcases ta with ⟨a1, -, -⟩ | ⟨a0, a1, a2, ⟨a3, -⟩ | a3 | a3 | a3⟩
    · rw [if_pos a1] at k1; exact absurd k1 (by decide)
    · exact ⟨a3, a1, a2⟩
    · rw [if_neg (by omega), if_neg (by omega), if_pos a3.1] at k1; exact absurd k1 (by decide)
    · rw [if_neg (by omega), if_pos a3] at k1; exact absurd k1 (by decide)
    · rw [if_neg (by omega), if_neg (by omega), if_neg (by omega), if_neg (by omega)] at k1; exact absurd k1 (by decide)
  obtain ⟨tw, b1, b2⟩ := tw
  have iff := lk_iff (x := tx c b e) wds 100 j wds_nd (by omega) hj
  rw [← tw] at iff
  have wm : wds.getD j [] ∈ wds := by
    rw [List.getD_eq_getElem?_getD, List.getElem?_eq_getElem (show j < wds.length from hj)]
    exact List.getElem_mem _
  have sl : slen w = Int32.ofNat (wds.getD j []).length := by unfold slen; rw [hw, List.length_map]
  have l8 := (wds_c _ wm).2
  rw [zS b (by omega), sl]
  by_cases ll : e - b = (wds.getD j []).length
  · rw [brp (by rw [ll])]
    have := iw39 h h12 b2 hw (wds_c _ wm).1 (by omega) (wds.getD j []).length 0 FU (by omega) (by omega)
    rw [show Int32.ofNat 0 = (0 : Int32) from rfl] at this
    rw [this, Nat.add_zero, List.drop_zero]
    by_cases y : tx c b e = wds.getD j []
    · rw [if_pos y, if_pos ⟨q, iff.mpr y⟩]
    · rw [if_neg y, if_neg (fun z => y (iff.mp z.2))]
  · rw [brn (fun z => ll ((zE (by omega) (by omega)).mp z)), if_neg (fun z => ll ?_)]
    rw [← iff.mp z.2, tx_len]
end
end
