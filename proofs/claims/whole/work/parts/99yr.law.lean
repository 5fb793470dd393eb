section
-- THE LAW: the reference's steps
def L2 (Z : St) (fl r : Nat → Int32) : St := ai (ai Z 68 0 fl) 60 0 r
section
variable {Z : St} {fl r : Nat → Int32} {j : Nat} {v : Int32}
theorem L2_60 : si (L2 Z fl r) 60 0 j v = L2 Z fl (upd r j v) := si_ai
theorem L2_68 : si (L2 Z fl r) 68 0 j v = L2 Z (upd fl j v) r := by
  show ai (L2 Z fl r) 68 0 (upd fl j v) = _
  unfold L2
  rw [ai_comm (by decide), ai_ai]
theorem L2_g : gi (L2 Z fl r) 60 0 = r := gai
theorem L2_h : gi (L2 Z fl r) 68 0 = fl := rfl
end
def Gw (c : Nat → Nat) (n : Nat) (r : Nat → Int32) (p : Nat) : Prop := p ≤ n ∧ Cu c n r p ∧ r 16 = 0
def Bw (r : Nat → Int32) (k pl : Nat) : Prop := k ≠ 0 ∧ k ≤ 4 ∧ r 16 = Int32.ofNat k ∧ r 17 = Int32.ofNat pl
theorem Bw.n {r : Nat → Int32} {k pl : Nat} (h : Bw r k pl) : ¬ r 16 = 0 := by
  rw [h.2.2.1]
  exact fun z => h.1 ((zE (b := 0) (by have := h.2.1; omega) (by omega)).mp z)
section
variable {Z : St} {c : Nat → Nat} {n : Nat} {fl r : Nat → Int32} {p : Nat}
theorem l_next (h : Tpr Z c n) (g : Gw c n r p) : ∃ r', f_X12_next 0 (L2 Z fl r) = some (L2 Z fl r') ∧ Gw c n r' (tok c n (bgn c n p)).2 ∧ Fx r r' := by
  obtain ⟨g1, g2, g3⟩ := g
  have bb := tk_pos (c := c) g1
  have h' : Tpr (ai Z 68 0 fl) c n := h
  obtain ⟨r', a1, a2, a3⟩ := rNext h' (r := r) (p := (tok c n (bgn c n p)).2) (by omega) g2.1 g2.2.1
  exact ⟨r', a1, ⟨by omega, a2, by rw [a3 16 (by omega)]; exact g3⟩, fun j hj => a3 j (by omega)⟩
theorem l_blames (g : Gw c n r p) {k : Nat} (hk : k ≠ 0) (hk4 : k ≤ 4) : ∃ r', f_X12_blames 0 (Int32.ofNat k) (L2 Z fl r) = some (L2 Z fl r') ∧ Bw r' (if (tok c n (bgn c n p)).1 = 2 then 1 else k) (bgn c n p) ∧ Fx r r' := by
  obtain ⟨g1, g2, g3⟩ := g
  refine ⟨upd (upd r 16 (Int32.ofNat (if (tok c n (bgn c n p)).1 = 2 then 1 else k))) 17 (Int32.ofNat (bgn c n p)), ?_, ⟨?_, ?_, ?_, upd_eq⟩, (Fx.up (by omega)).tr (Fx.up (by omega))⟩
  · unfold f_X12_blames
    rw [L2_g, g3, brp rfl, g2.2.2.2.1]
    have g12 : ∀ v : Int32, upd r 16 v 12 = Int32.ofNat (bgn c n p) := fun v => by rw [upd_ne (by decide)]; exact g2.2.2.1
    simp only [bvN, L2_60, L2_g, g12]
    by_cases e : (tok c n (bgn c n p)).1 = 2
    · rw [brp (kd4.mpr e), if_pos e]; rfl
    · rw [brn (fun z => e (kd4.mp z)), if_neg e]
  · split <;> omega
  · split <;> omega
  · rw [upd_ne (by decide), upd_eq]
theorem l_word (h : Tpr Z c n) (g : Gw c n r p) {w j : Nat} (hj : j < 23) (hw : sby w = (wds.getD j []).map Int32.ofNat) : f_X12_isWord 0 w (L2 Z fl r) = some (if (tok c n (bgn c n p)).1 = 100 + j then 1 else 0) := by
  have h' : Tpr (ai Z 68 0 fl) c n := h
  have := isW h' g.2.1 hj hw
  rw [g.2.2] at this
  refine this.trans ?_
  by_cases e : (tok c n (bgn c n p)).1 = 100 + j
  · rw [if_pos e, if_pos ⟨rfl, e⟩]
  · rw [if_neg e, if_neg (fun z => e z.2)]
theorem l_wy (h : Tpr Z c n) (g : Gw c n r p) {w j : Nat} (hj : j < 23) (hw : sby w = (wds.getD j []).map Int32.ofNat) (e : (tok c n (bgn c n p)).1 = 100 + j) : f_X12_isWord 0 w (L2 Z fl r) = some 1 := by rw [l_word h g hj hw, if_pos e]
theorem l_wn (h : Tpr Z c n) (g : Gw c n r p) {w j : Nat} (hj : j < 23) (hw : sby w = (wds.getD j []).map Int32.ofNat) (e : ¬ (tok c n (bgn c n p)).1 = 100 + j) : f_X12_isWord 0 w (L2 Z fl r) = some 0 := by rw [l_word h g hj hw, if_neg e]
theorem l_number (h : Tpr Z c n) (g : Gw c n r p) {lo hi : Nat} (hlo : lo < 1000) (hhi : hi < 1000) : (200 ≤ (tok c n (bgn c n p)).1 ∧ lo ≤ (tok c n (bgn c n p)).1 - 200 ∧ (tok c n (bgn c n p)).1 - 200 ≤ hi → ∃ r', f_X12_number 0 (Int32.ofNat lo) (Int32.ofNat hi) (L2 Z fl r) = some (Int32.ofNat ((tok c n (bgn c n p)).1 - 200), L2 Z fl r') ∧ Gw c n r' (tok c n (bgn c n p)).2 ∧ Fx r r') ∧ (¬ (200 ≤ (tok c n (bgn c n p)).1 ∧ lo ≤ (tok c n (bgn c n p)).1 - 200 ∧ (tok c n (bgn c n p)).1 - 200 ≤ hi) → ∃ v r', f_X12_number 0 (Int32.ofNat lo) (Int32.ofNat hi) (L2 Z fl r) = some (v, L2 Z fl r') ∧ Bw r' (if 200 ≤ (tok c n (bgn c n p)).1 then 3 else if (tok c n (bgn c n p)).1 = 2 then 1 else 2) (bgn c n p) ∧ Fx r r') := by
  have t3 := (tk_pos (c := c) g.1).1
  unfold f_X12_number
  rw [L2_g, g.2.1.2.2.2.1]
  simp only [bvN, L2_g]
  by_cases e : 200 ≤ (tok c n (bgn c n p)).1
  · have e14 := g.2.1.2.2.2.2.1 e
    rw [brp (kd2.mpr e), e14, e_wi (lo := Int32.ofNat lo) (hi := Int32.ofNat hi) rfl rfl, onS]
    constructor
    · intro q
      obtain ⟨r1, a1, a2, a3⟩ := l_next (fl := fl) h g
      rw [if_pos ⟨(zLE (by omega) (by omega)).mpr q.2.1, (zLE (by omega) (by omega)).mpr q.2.2⟩, brn (by decide), g.2.2, brp rfl, a1, onS]
      exact ⟨r1, rfl, a2, a3⟩
    · intro q
      obtain ⟨r1, a1, a2, a3⟩ := l_blames (Z := Z) (fl := fl) g (k := 3) (by decide) (by decide)
      rw [if_neg (fun z => q ⟨e, (zLE (by omega) (by omega)).mp z.1, (zLE (by omega) (by omega)).mp z.2⟩), brp rfl, show (3 : Int32) = Int32.ofNat 3 from rfl, a1, onS, L2_g, brn a2.n, if_pos e]
      rw [if_neg (show ¬ (tok c n (bgn c n p)).1 = 2 by omega)] at a2
      exact ⟨_, r1, rfl, a2, a3⟩
  · rw [brn (fun z => e (kd2.mp z))]
    refine ⟨fun q => absurd q.1 e, fun _ => ?_⟩
    obtain ⟨r1, a1, a2, a3⟩ := l_blames (Z := Z) (fl := fl) g (k := 2) (by decide) (by decide)
    rw [show (2 : Int32) = Int32.ofNat 2 from rfl, a1, onS, L2_g, brn a2.n, if_neg e]
    exact ⟨_, r1, rfl, a2, a3⟩
theorem lb_stop {k pl : Nat} (h : Bw r k pl) : f_X12_stop 0 (L2 Z fl r) = some (L2 Z fl r) := by
  unfold f_X12_stop
  simp only [bvN, L2_g]
  rw [brn h.n, brn h.n]
theorem l_stop (h : Tpr Z c n) (g : Gw c n r p) : ((tok c n (bgn c n p)).1 = 59 → ∃ r', f_X12_stop 0 (L2 Z fl r) = some (L2 Z fl r') ∧ Gw c n r' (tok c n (bgn c n p)).2 ∧ Fx r r') ∧ (¬ (tok c n (bgn c n p)).1 = 59 → ∃ r', f_X12_stop 0 (L2 Z fl r) = some (L2 Z fl r') ∧ Bw r' (if (tok c n (bgn c n p)).1 = 2 then 1 else 2) (bgn c n p) ∧ Fx r r') := by
  have t3 := (tk_pos (c := c) g.1).1
  have i59 : (sgv (tok c n (bgn c n p)).1 = 59) ↔ (tok c n (bgn c n p)).1 = 59 := sgvE (k := 59) t3 (by omega) (by omega)
  unfold f_X12_stop
  simp only [bvN, L2_g]
  rw [g.2.2, brp rfl, g.2.1.2.2.2.2.2]
  constructor
  · intro e
    obtain ⟨r1, a1, a2, a3⟩ := l_next (fl := fl) h g
    rw [brp (i59.mpr e), brp rfl, a1, onS]
    exact ⟨r1, rfl, a2, a3⟩
  · intro e
    obtain ⟨r1, a1, a2, a3⟩ := l_blames (Z := Z) (fl := fl) g (k := 2) (by decide) (by decide)
    rw [brn (fun z => e (i59.mp z)), show (2 : Int32) = Int32.ofNat 2 from rfl, a1, onS, L2_g, brn a2.n]
    exact ⟨r1, rfl, a2, a3⟩
end
-- THE LAW: steps of the machine
theorem fkL {st t us no : Nat} : fk false st t us no = if t = 2 then 1 else if beL st t = 99 then 2 else if (st = 8 ∧ t = 200) ∨ (st = 9 ∧ 223 < t) then 3 else 0 := by
  unfold fk
  rw [show be false st t = beL st t from if_neg (by decide)]
  by_cases q1 : t = 2
  · rw [if_pos q1, if_pos q1]
  rw [if_neg q1, if_neg q1]
  by_cases q2 : beL st t = 99
  · rw [if_pos q2, if_pos q2]
  rw [if_neg q2, if_neg q2]
  by_cases q3 : (st = 8 ∧ t = 200) ∨ (st = 9 ∧ 223 < t)
  · rw [if_pos q3, if_pos q3]
  rw [if_neg q3, if_neg q3, if_neg]
  rintro (⟨z, -⟩ | ⟨z, -⟩)
  · exact absurd z (by decide)
  · refine q2 ?_
    rw [z]
    unfold beL
    by_cases s0 : st = 0
    · rw [if_pos s0]; rfl
    rw [if_neg s0]
    by_cases s1 : st = 1 ∨ st = 8 ∨ st = 9
    · rw [if_pos s1]; rfl
    rw [if_neg s1]
    by_cases s2 : st = 10
    · rw [if_pos s2]; rfl
    rw [if_neg s2]
section
variable {c : Nat → Nat} {n p st no st1 k F : Nat} {ts : List Int32} {us : List Nat}
theorem gl1 {t : Nat} (et : (tok c n (bgn c n p)).1 = t) (hb : beL st t = st1) (h9 : st1 < 11) (ht : ¬ t = 0) (h2 : ¬ t = 2) (h3 : ¬ ((st = 8 ∧ t = 200) ∨ (st = 9 ∧ 223 < t))) (h109 : ¬ t = 109) : mach c n false (F + 1) p st ts us no = mach c n false F (tok c n (bgn c n p)).2 st1 (ts ++ [tc t]) (if st = 0 then us ++ [ts.length] else us) 0 := by
  have f0 : fk false st t us.length no = 0 := by
    rw [fkL, if_neg h2, if_neg (by omega), if_neg h3]
  rw [mach, et, if_neg (fun z => z f0), if_neg ht, show be false st t = beL st t from if_neg (by decide), hb, if_neg h109]
theorem fl1 {t : Nat} (et : (tok c n (bgn c n p)).1 = t) (hk : k = if t = 2 then 1 else if beL st t = 99 then 2 else if (st = 8 ∧ t = 200) ∨ (st = 9 ∧ 223 < t) then 3 else 0) (h0 : ¬ k = 0) : mach c n false (F + 1) p st ts us no = some (.inl (k, bgn c n p)) := by
  have f0 : fk false st t us.length no = k := by rw [fkL, hk]
  rw [mach, et, f0, if_pos h0]
end
end
