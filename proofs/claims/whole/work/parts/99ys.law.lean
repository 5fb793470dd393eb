section
-- THE LAW: a line
def okL (l : Nat × Nat) : Prop := (l.1 = 119 ∧ 1 ≤ l.2 ∧ l.2 ≤ 99) ∨ (l.1 = 120 ∧ l.2 ≤ 23) ∨ (l.1 = 121 ∧ l.2 ≤ 99) ∨ ((l.1 = 122 ∨ l.1 = 113) ∧ l.2 = 0)
def tkLn (l : Nat × Nat) : List Int32 := if 119 ≤ l.1 ∧ l.1 ≤ 121 then [Int32.ofNat l.1, Int32.ofNat (200 + l.2), 59] else [Int32.ofNat l.1, 59]
def stepL (fl : Nat → Int32) (l : Nat × Nat) : Nat → Int32 := if l.1 = 119 then upd fl 0 (Int32.ofNat l.2) else if l.1 = 120 then upd fl 1 (fl 1 ||| ((1 : Int32) <<< (Int32.ofNat l.2 &&& 31))) else if l.1 = 121 then upd fl 2 (Int32.ofNat l.2) else if l.1 = 122 then upd fl 3 1 else upd fl 4 1
/-- what reading a line and its stop comes to -/
def Ol (c : Nat → Nat) (n : Nat) (Z : St) (X : Option St) (fl r : Nat → Int32) (p : Nat) : Prop := ∃ fl1 r1 r', X = some (L2 Z fl1 r1) ∧ f_X12_stop 0 (L2 Z fl1 r1) = some (L2 Z fl1 r') ∧ Fx r r' ∧ ((∃ k pl, Bw r' k pl ∧ ∀ (F : Nat) (ts : List Int32) (us : List Nat) (no : Nat), n + 1 ≤ p + F → mach c n false F p 0 ts us no = some (.inl (k, pl))) ∨ ∃ p' l, okL l ∧ p < p' ∧ Gw c n r' p' ∧ fl1 = stepL fl l ∧ ∀ (F : Nat) (ts : List Int32) (us : List Nat) (no : Nat), n + 1 ≤ p + F → ∃ F', n + 1 ≤ p' + F' ∧ mach c n false F p 0 ts us no = mach c n false F' p' 0 (ts ++ tkLn l) (us ++ [ts.length]) 0)
section
variable {Z : St} {c : Nat → Nat} {n : Nat} {fl r : Nat → Int32} {p : Nat}
theorem line_amt (h : Tpr Z c n) (g : Gw c n r p) {w st1 lo hi : Nat} (et : (tok c n (bgn c n p)).1 = w) (hst : (w = 119 ∧ st1 = 8 ∧ lo = 1 ∧ hi = 99) ∨ (w = 120 ∧ st1 = 9 ∧ lo = 0 ∧ hi = 23) ∨ (w = 121 ∧ st1 = 1 ∧ lo = 0 ∧ hi = 99)) {Gf : Int32 → St → Option St} (hG1 : ∀ (v : Nat) (r2 : Nat → Int32), r2 16 = 0 → Gf (Int32.ofNat v) (L2 Z fl r2) = some (L2 Z (stepL fl (w, v)) r2)) (hG2 : ∀ (v : Int32) (r2 : Nat → Int32), ∃ fl2, Gf v (L2 Z fl r2) = some (L2 Z fl2 r2)) : Ol c n Z (on (f_X12_next 0 (L2 Z fl r)) (fun S => on2 (f_X12_number 0 (Int32.ofNat lo) (Int32.ofNat hi) S) Gf)) fl r p := by
  have p4 := g.1
  obtain ⟨t3, -, e2, e3⟩ := tk_pos (c := c) g.1
  have e1 := e3 (by omega)
  have b0 : beL 0 w = st1 := by
    rcases hst with ⟨rfl, rfl, -⟩ | ⟨rfl, rfl, -⟩ | ⟨rfl, rfl, -⟩ <;> rfl
  have s1 : ∀ (F : Nat) (ts : List Int32) (us : List Nat) (no : Nat), mach c n false (F + 1) p 0 ts us no = mach c n false F (tok c n (bgn c n p)).2 st1 (ts ++ [Int32.ofNat w]) (us ++ [ts.length]) 0 := fun F ts us no => by
    rw [gl1 et b0 (by omega) (by omega) (by omega) (by omega) (by omega), if_pos rfl, tc_n (by omega) (by omega)]
  obtain ⟨r1, a1, a2, a3⟩ := l_next (fl := fl) h g
  rw [a1, onS]
  generalize (tok c n (bgn c n p)).2 = p1 at *
  obtain ⟨s3, -, f2, f3⟩ := tk_pos (c := c) a2.1
  obtain ⟨y, no9⟩ := l_number (fl := fl) h a2 (lo := lo) (hi := hi) (by omega) (by omega)
  have bl : beL st1 (tok c n (bgn c n p1)).1 = if 200 ≤ (tok c n (bgn c n p1)).1 then 10 else 99 := by
    rcases hst with ⟨-, rfl, -⟩ | ⟨-, rfl, -⟩ | ⟨-, rfl, -⟩ <;> rfl
  by_cases q : 200 ≤ (tok c n (bgn c n p1)).1 ∧ lo ≤ (tok c n (bgn c n p1)).1 - 200 ∧ (tok c n (bgn c n p1)).1 - 200 ≤ hi
  case neg =>
    obtain ⟨v, r2, d1, d2, d3⟩ := no9 q
    obtain ⟨fl2, hg⟩ := hG2 v r2
    refine ⟨fl2, r2, r2, by rw [d1, on2S, hg], lb_stop d2, a3.tr d3, Or.inl ⟨_, _, d2, fun F ts us no hF => ?_⟩⟩
    obtain ⟨F, rfl⟩ : ∃ x, F = x + 1 := ⟨F - 1, by omega⟩
    have p5 := a2.1
    obtain ⟨F, rfl⟩ : ∃ x, F = x + 1 := ⟨F - 1, by omega⟩
    rw [s1]
    refine fl1 rfl ?_ ?_
    · rw [bl]
      by_cases z : 200 ≤ (tok c n (bgn c n p1)).1
      · rw [if_pos z, if_pos z, if_neg (by omega), if_neg (by decide), if_pos (by omega)]
      · rw [if_neg z, if_neg z, if_pos rfl]
    · split
      · decide
      · split <;> decide
  obtain ⟨r2, d1, d2, d3⟩ := y q
  rw [d1, on2S, hG1 _ r2 d2.2.2]
  have f1 := f3 (by omega)
  have s2 : ∀ (F : Nat) (ts : List Int32) (us : List Nat) (no : Nat), mach c n false (F + 1) p1 st1 ts us no = mach c n false F (tok c n (bgn c n p1)).2 10 (ts ++ [Int32.ofNat (tok c n (bgn c n p1)).1]) us 0 := fun F ts us no => by
    rw [gl1 (st := st1) rfl (by rw [bl, if_pos q.1]) (by decide) (by omega) (by omega) (by omega) (by omega), if_neg (by omega), tc_n (by omega) (by omega)]
  obtain ⟨v, ev⟩ : ∃ v, (tok c n (bgn c n p1)).1 = 200 + v := ⟨(tok c n (bgn c n p1)).1 - 200, by omega⟩
  rw [ev] at s2 ⊢
  rw [ev] at q
  generalize (tok c n (bgn c n p1)).2 = p2 at *
  obtain ⟨u3, -, h2, h3⟩ := tk_pos (c := c) d2.1
  obtain ⟨y2, no2⟩ := l_stop (fl := stepL fl (w, 200 + v - 200)) h d2
  by_cases z : (tok c n (bgn c n p2)).1 = 59
  · obtain ⟨r3, k1, k2, k3⟩ := y2 z
    refine ⟨_, r2, r3, rfl, k1, a3.tr (d3.tr k3), Or.inr ⟨(tok c n (bgn c n p2)).2, (w, v), ?_, by have := h3 (by omega); omega, k2, by rw [show 200 + v - 200 = v by omega], fun F ts us no hF => ?_⟩⟩
    · unfold okL; dsimp only; omega
    · have p5 := d2.1
      have h1 := h3 (by omega)
      obtain ⟨F, rfl⟩ : ∃ x, F = x + 1 + 1 + 1 := ⟨F - 3, by omega⟩
      refine ⟨F, by omega, ?_⟩
      rw [s1, s2, gl1 (st := 10) z rfl (by decide) (by decide) (by decide) (by omega) (by decide), if_neg (by decide), List.append_assoc, List.append_assoc]
      unfold tkLn
      rw [if_pos (show 119 ≤ w ∧ w ≤ 121 by omega)]; rfl
  · obtain ⟨r3, k1, k2, k3⟩ := no2 z
    refine ⟨_, r2, r3, rfl, k1, a3.tr (d3.tr k3), Or.inl ⟨_, _, k2, fun F ts us no hF => ?_⟩⟩
    have p5 := d2.1
    obtain ⟨F, rfl⟩ : ∃ x, F = x + 1 + 1 + 1 := ⟨F - 3, by omega⟩
    rw [s1, s2]
    refine fl1 (st := 10) rfl ?_ (by split <;> decide)
    rw [show beL 10 (tok c n (bgn c n p2)).1 = if (tok c n (bgn c n p2)).1 = 59 then 0 else 99 from rfl, if_neg z, if_pos rfl]
theorem line_no (h : Tpr Z c n) (g : Gw c n r p) {w : Nat} (et : (tok c n (bgn c n p)).1 = w) (hw : w = 122 ∨ w = 113) {Gf : St → Option St} (hG : ∀ (r2 : Nat → Int32), Gf (L2 Z fl r2) = some (L2 Z (stepL fl (w, 0)) r2)) : Ol c n Z (on (f_X12_next 0 (L2 Z fl r)) Gf) fl r p := by
  have p4 := g.1
  obtain ⟨t3, -, e2, e3⟩ := tk_pos (c := c) g.1
  have e1 := e3 (by omega)
  have b0 : beL 0 w = 10 := by
    rcases hw with rfl | rfl <;> rfl
  have s1 : ∀ (F : Nat) (ts : List Int32) (us : List Nat) (no : Nat), mach c n false (F + 1) p 0 ts us no = mach c n false F (tok c n (bgn c n p)).2 10 (ts ++ [Int32.ofNat w]) (us ++ [ts.length]) 0 := fun F ts us no => by
    rw [gl1 et b0 (by omega) (by omega) (by omega) (by omega) (by omega), if_pos rfl, tc_n (by omega) (by omega)]
  obtain ⟨r1, a1, a2, a3⟩ := l_next (fl := fl) h g
  rw [a1, onS, hG]
  generalize (tok c n (bgn c n p)).2 = p2 at *
  obtain ⟨u3, -, h2, h3⟩ := tk_pos (c := c) a2.1
  obtain ⟨y2, no2⟩ := l_stop (fl := stepL fl (w, 0)) h a2
  by_cases z : (tok c n (bgn c n p2)).1 = 59
  · obtain ⟨r3, k1, k2, k3⟩ := y2 z
    refine ⟨_, r1, r3, rfl, k1, a3.tr k3, Or.inr ⟨(tok c n (bgn c n p2)).2, (w, 0), ?_, by have := h3 (by omega); omega, k2, rfl, fun F ts us no hF => ?_⟩⟩
    · unfold okL; dsimp only; omega
    · have p5 := a2.1
      have h1 := h3 (by omega)
      obtain ⟨F, rfl⟩ : ∃ x, F = x + 1 + 1 := ⟨F - 2, by omega⟩
      refine ⟨F, by omega, ?_⟩
      rw [s1, gl1 (st := 10) z rfl (by decide) (by decide) (by decide) (by omega) (by decide), if_neg (by decide), List.append_assoc]
      unfold tkLn
      rw [if_neg (show ¬ (119 ≤ w ∧ w ≤ 121) by omega)]; rfl
  · obtain ⟨r3, k1, k2, k3⟩ := no2 z
    refine ⟨_, r1, r3, rfl, k1, a3.tr k3, Or.inl ⟨_, _, k2, fun F ts us no hF => ?_⟩⟩
    have p5 := a2.1
    obtain ⟨F, rfl⟩ : ∃ x, F = x + 1 + 1 := ⟨F - 2, by omega⟩
    rw [s1]
    refine fl1 (st := 10) rfl ?_ (by split <;> decide)
    rw [show beL 10 (tok c n (bgn c n p2)).1 = if (tok c n (bgn c n p2)).1 = 59 then 0 else 99 from rfl, if_neg z, if_pos rfl]
theorem r_line (h : Tpr Z c n) (g : Gw c n r p) (ht : ¬ (tok c n (bgn c n p)).1 = 0) : Ol c n Z (f_X12_readLine 0 (L2 Z fl r)) fl r p := by
  have p4 := g.1
  unfold f_X12_readLine
  have n0 : nn (0 : Int32) = 0 := rfl
  have n1 : nn (1 : Int32) = 1 := rfl
  have n2 : nn (2 : Int32) = 2 := rfl
  have n3 : nn (3 : Int32) = 3 := rfl
  have n4 : nn (4 : Int32) = 4 := rfl
  by_cases e0 : (tok c n (bgn c n p)).1 = 119
  · rw [l_wy h g (w := 37) (j := 19) (by decide) (by decide +kernel) e0, onS, bvN, brn (by decide)]
    refine line_amt h g e0 (lo := 1) (hi := 99) (Or.inl ⟨rfl, rfl, rfl, rfl⟩) (fun v r2 _ => ?_) (fun v r2 => ⟨upd fl 0 v, ?_⟩)
    · rw [ck_t (by decide), bvN, L2_68, n0]; rfl
    · rw [ck_t (by decide), bvN, L2_68, n0]
  rw [l_wn h g (w := 37) (j := 19) (by decide) (by decide +kernel) e0, onS, bvN, brp rfl]
  by_cases e1 : (tok c n (bgn c n p)).1 = 120
  · rw [l_wy h g (w := 38) (j := 20) (by decide) (by decide +kernel) e1, onS, brn (by decide)]
    refine line_amt h g e1 (lo := 0) (hi := 23) (Or.inr (Or.inl ⟨rfl, rfl, rfl, rfl⟩)) (fun v r2 h16 => ?_) (fun v r2 => ?_)
    · rw [bvN, L2_g, brp h16, ck_t (by decide), ck_t (by decide), bvN, L2_68, L2_h, n1]; rfl
    · by_cases z : r2 16 = 0
      · refine ⟨upd fl 1 (fl 1 ||| ((1 : Int32) <<< (v &&& 31))), ?_⟩
        rw [bvN, L2_g, brp z, ck_t (by decide), ck_t (by decide), bvN, L2_68, L2_h, n1]
      · refine ⟨fl, ?_⟩
        rw [bvN, L2_g, brn z]
  rw [l_wn h g (w := 38) (j := 20) (by decide) (by decide +kernel) e1, onS, brp rfl]
  by_cases e2 : (tok c n (bgn c n p)).1 = 121
  · rw [l_wy h g (w := 39) (j := 21) (by decide) (by decide +kernel) e2, onS, brn (by decide)]
    refine line_amt h g e2 (lo := 0) (hi := 99) (Or.inr (Or.inr ⟨rfl, rfl, rfl, rfl⟩)) (fun v r2 _ => ?_) (fun v r2 => ⟨upd fl 2 v, ?_⟩)
    · rw [ck_t (by decide), bvN, L2_68, n2]; rfl
    · rw [ck_t (by decide), bvN, L2_68, n2]
  rw [l_wn h g (w := 39) (j := 21) (by decide) (by decide +kernel) e2, onS, brp rfl]
  by_cases e3 : (tok c n (bgn c n p)).1 = 122
  · rw [l_wy h g (w := 40) (j := 22) (by decide) (by decide +kernel) e3, onS, brn (by decide)]
    refine line_no h g e3 (Or.inl rfl) (fun r2 => ?_)
    rw [ck_t (by decide), bvN, L2_68, n3]; rfl
  rw [l_wn h g (w := 40) (j := 22) (by decide) (by decide +kernel) e3, onS, brp rfl]
  by_cases e4 : (tok c n (bgn c n p)).1 = 113
  · rw [l_wy h g (w := 29) (j := 13) (by decide) (by decide +kernel) e4, onS, brn (by decide)]
    refine line_no h g e4 (Or.inr rfl) (fun r2 => ?_)
    rw [ck_t (by decide), bvN, L2_68, n4]; rfl
  rw [l_wn h g (w := 29) (j := 13) (by decide) (by decide +kernel) e4, onS, brp rfl]
  obtain ⟨r1, a1, a2, a3⟩ := l_blames (Z := Z) (fl := fl) g (k := 2) (by decide) (by decide)
  rw [show (2 : Int32) = Int32.ofNat 2 from rfl, a1, onS]
  refine ⟨fl, r1, r1, rfl, lb_stop a2, a3, Or.inl ⟨_, _, a2, fun F ts us no hF => ?_⟩⟩
  obtain ⟨F, rfl⟩ : ∃ x, F = x + 1 := ⟨F - 1, by omega⟩
  refine fl1 (st := 0) rfl ?_ (by split <;> decide)
  have b9 : beL 0 (tok c n (bgn c n p)).1 = 99 := by
    show (if _ = 0 then 0 else if _ = 119 then 8 else if _ = 120 then 9 else if _ = 121 then 1 else if _ = 122 ∨ _ = 113 then 10 else 99) = 99
    rw [if_neg ht, if_neg e0, if_neg e1, if_neg e2, if_neg (fun z => z.elim e3 e4)]
  rw [b9, if_pos rfl]
theorem r_lines (h : Tpr Z c n) : ∀ (f p x2 : Nat) (fl r : Nat → Int32), n - p < f → Gw c n r p → ∃ fl' r' x', (∀ K, f_X12_law_67 0 K f (Int32.ofNat x2) (L2 Z fl r) = K (Int32.ofNat x') (L2 Z fl' r')) ∧ Fx r r' ∧ ((∃ k pl, Bw r' k pl ∧ ∀ (F : Nat) (ts : List Int32) (us : List Nat) (no : Nat), n + 1 ≤ p + F → mach c n false F p 0 ts us no = some (.inl (k, pl))) ∨ ∃ ls : List (Nat × Nat), (∀ l ∈ ls, okL l) ∧ r' 16 = 0 ∧ fl' = ls.foldl stepL fl ∧ ∀ (F : Nat) (ts : List Int32) (us : List Nat) (no : Nat), n + 1 ≤ p + F → us.length = x2 → ∃ us' : List Nat, us'.length = x' ∧ mach c n false F p 0 ts us no = some (.inr (ts ++ ls.flatMap tkLn, us'))) := by
  intro f
  induction f with
  | zero => intro p x2 fl r hf; omega
  | succ f ih =>
    intro p x2 fl r hf g
    have p4 := g.1
    by_cases ht : (tok c n (bgn c n p)).1 = 0
    · refine ⟨fl, r, x2, fun K => ?_, Fx.rf, Or.inr ⟨[], fun l hl => (by cases hl), g.2.2, rfl, fun F ts us no hF hu => ⟨us, hu, ?_⟩⟩⟩
      · rw [f_X12_law_67, L2_g, g.2.2, brp rfl, g.2.1.2.2.2.1, brp (kd0.mpr ht)]
      · obtain ⟨F, rfl⟩ : ∃ x, F = x + 1 := ⟨F - 1, by omega⟩
        have fq : fk false 0 (tok c n (bgn c n p)).1 us.length no = 0 := by
          rw [fkL, ht]; rfl
        rw [mach, fq, if_neg (fun z => z rfl), if_pos ht, List.flatMap_nil, List.append_nil]
    · obtain ⟨fl1, r0, r1, o1, o2, o3, o4⟩ := r_line (fl := fl) h g ht
      have ev : ∀ K, f_X12_law_67 0 K (f + 1) (Int32.ofNat x2) (L2 Z fl r) = f_X12_law_67 0 K f (Int32.ofNat (x2 + 1)) (L2 Z fl1 r1) := fun K => by
        rw [f_X12_law_67, L2_g, g.2.2, brp rfl, g.2.1.2.2.2.1, brn (fun z => ht (kd0.mp z)), o1, onS, o2, onS, bvN, zp1]
      rcases o4 with ⟨k, pl, o4, o5⟩ | ⟨p', l, o5, o6, o7, o8, o9⟩
      · refine ⟨fl1, r1, x2 + 1, fun K => ?_, o3, Or.inl ⟨k, pl, o4, o5⟩⟩
        rw [ev]
        obtain ⟨f, rfl⟩ : ∃ y, f = y + 1 := ⟨f - 1, by have := (tk_pos (c := c) g.1); omega⟩
        rw [f_X12_law_67, L2_g, brn o4.n]
      · have p5 := o7.1
        obtain ⟨fl2, r2, x', w1, w2, w3⟩ := ih p' (x2 + 1) fl1 r1 (by omega) o7
        refine ⟨fl2, r2, x', fun K => by rw [ev, w1], o3.tr w2, ?_⟩
        rcases w3 with ⟨k, pl, w4, w5⟩ | ⟨ls, w4, w5, w6, w7⟩
        · exact Or.inl ⟨k, pl, w4, fun F ts us no hF => by
            obtain ⟨F', y1, y2⟩ := o9 F ts us no hF
            rw [y2, w5 F' _ _ 0 y1]⟩
        · refine Or.inr ⟨l :: ls, ?_, w5, by rw [List.foldl_cons, ← o8]; exact w6, fun F ts us no hF hu => ?_⟩
          · intro y hy
            rcases List.mem_cons.mp hy with rfl | hy
            · exact o5
            · exact w4 y hy
          · obtain ⟨F', y1, y2⟩ := o9 F ts us no hF
            obtain ⟨us', z1, z2⟩ := w7 F' (ts ++ tkLn l) (us ++ [ts.length]) 0 y1 (by rw [List.length_append, hu]; rfl)
            exact ⟨us', z1, by rw [y2, z2, List.flatMap_cons, List.append_assoc]⟩
end
end
