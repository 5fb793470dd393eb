section
-- READING: rules, one behind another
/-- the machine reads one more rule, the m+1st -/
def GoR (c : Nat → Nat) (n p p' m : Nat) (tks : List Int32) : Prop := ∀ (F : Nat) (ts : List Int32) (us : List Nat) (no : Nat), us.length = m → n + 1 ≤ p + F → ∃ F', n + 1 ≤ p' + F' ∧ mach c n true F p 0 ts us no = mach c n true F' p' 0 (ts ++ tks) (us ++ [ts.length]) 0
def FaR (c : Nat → Nat) (n p m k pl : Nat) : Prop := ∀ (F : Nat) (ts : List Int32) (us : List Nat) (no : Nat), us.length = m → n + 1 ≤ p + F → mach c n true F p 0 ts us no = some (.inl (k, pl))
theorem i32_nat (x : Int32) : ∃ k : Nat, x = Int32.ofNat k := ⟨x.toBitVec.toNat, Int32.toBitVec_inj.mp (by simp)⟩
theorem tkRs_s {rs : List Ru} {x : Ru} : tkRs (rs ++ [x]) = tkRs rs ++ tkR x := by
  unfold tkRs; rw [List.flatMap_append, List.flatMap_cons, List.flatMap_nil, List.append_nil]
theorem cdRs_s {rs : List Ru} {x : Ru} : cdRs (rs ++ [x]) = cdRs rs ++ cdR x := by
  unfold cdRs; rw [List.flatMap_append, List.flatMap_cons, List.flatMap_nil, List.append_nil]
theorem stR_s {x : Ru} : ∀ (rs : List Ru) (k : Nat), stR k (rs ++ [x]) = stR k rs ++ [k + (tkRs rs).length] := by
  intro rs
  induction rs with
  | nil => intro k; rfl
  | cons y ys ih =>
    intro k
    rw [List.cons_append, stR, stR, ih, List.cons_append]
    congr 3
    unfold tkRs
    rw [List.flatMap_cons, List.length_append]; omega
theorem stR_l : ∀ (rs : List Ru) (k : Nat), (stR k rs).length = rs.length := by
  intro rs
  induction rs with
  | nil => intro k; rfl
  | cons y ys ih => intro k; rw [stR, List.length_cons, List.length_cons, ih]
section
variable {Z : St} {c : Nat → Nat} {n : Nat} {fr r : Nat → Int32} {p rn : Nat}
theorem r_rule (h : Tpr Z c n) {m : Nat} {tl : List Int32} (hm : m ≤ 12) (g : Gd c n fr r p (Int32.ofNat m :: tl) rn) (hl : tl.length + 1 ≤ p + (1 + m)) (ht : ¬ (tok c n (bgn c n p)).1 = 0) : ∃ fr' r', f_X12_readRule 0 (D2 Z fr r) = some (D2 Z fr' r') ∧ Fx r r' ∧ ((∃ k pl, Bz r' k pl ∧ FaR c n p m k pl) ∨ ∃ p' x rn', okR x ∧ m < 12 ∧ p < p' ∧ Gd c n fr' r' p' (Int32.ofNat (m + 1) :: (tl ++ cdR x)) rn' ∧ (tl ++ cdR x).length + 1 ≤ p' + (1 + (m + 1)) ∧ GoR c n p p' m (tkR x)) := by
  have h4 := h.1
  have p4 := g.1
  obtain ⟨t3, -, e2, e3⟩ := tk_pos (c := c) g.1
  have e1 := e3 ht
  have l0 : (Int32.ofNat m :: tl).length = tl.length + 1 := rfl
  have fr0 : fr 0 = Int32.ofNat m := g.2.2.2.2.2 0 (by rw [l0]; omega)
  rw [rr_eq, e_doing h g, onS]
  simp only [bvN]
  by_cases w : 100 ≤ (tok c n (bgn c n p)).1 ∧ (tok c n (bgn c n p)).1 ≤ 105
  case neg =>
    obtain ⟨r1, a1, a2, a3⟩ := g_blames (Z := Z) g (by rw [l0]; omega) (k := 2) (by decide) (by decide)
    rw [if_neg w, brp rfl, brp rfl, show (2 : Int32) = Int32.ofNat 2 from rfl, a1, onS]
    refine ⟨fr, r1, rfl, a3, Or.inl ⟨_, _, a2, fun F ts us no hu hF => ?_⟩⟩
    obtain ⟨F, rfl⟩ : ∃ x, F = x + 1 := ⟨F - 1, by omega⟩
    have b9 : be true 0 (tok c n (bgn c n p)).1 = 99 := by
      show (if _ = 0 then 0 else if 100 ≤ _ ∧ _ ≤ 103 then 1 else if _ = 104 ∨ _ = 105 then 2 else 99) = 99
      rw [if_neg ht, if_neg (by omega), if_neg (by omega)]
    have fq : fk true 0 (tok c n (bgn c n p)).1 us.length no = if (tok c n (bgn c n p)).1 = 2 then 1 else 2 := by
      unfold fk
      rw [if_pos b9]
    rw [mach, fq, if_pos (by split <;> decide)]
  rw [if_pos w]
  have nm : ¬ Int32.ofNat ((tok c n (bgn c n p)).1 - 100) = -1 := zNe (by omega)
  rw [brn nm, ck_t (by decide), D2_h, show fr (nn 0) = Int32.ofNat m from fr0]
  have be0 : be true 0 (tok c n (bgn c n p)).1 = if (tok c n (bgn c n p)).1 ≤ 103 then 1 else 2 := by
    show (if _ = 0 then 0 else if 100 ≤ _ ∧ _ ≤ 103 then 1 else if _ = 104 ∨ _ = 105 then 2 else 99) = _
    rw [if_neg ht]
    by_cases q : (tok c n (bgn c n p)).1 ≤ 103
    · rw [if_pos ⟨w.1, q⟩, if_pos q]
    · rw [if_neg (by omega), if_neg q, if_pos (by omega)]
  by_cases h12 : m = 12
  · obtain ⟨r1, a1, a2, a3⟩ := g_blames (Z := Z) g (by rw [l0]; omega) (k := 4) (by decide) (by decide)
    rw [brp (show Int32.ofNat m = 12 by rw [h12]; rfl), brn nm, show (4 : Int32) = Int32.ofNat 4 from rfl, a1, onS]
    refine ⟨fr, r1, rfl, a3, Or.inl ⟨_, _, a2, fun F ts us no hu hF => ?_⟩⟩
    obtain ⟨F, rfl⟩ : ∃ x, F = x + 1 := ⟨F - 1, by omega⟩
    have fq : fk true 0 (tok c n (bgn c n p)).1 us.length no = 4 := by
      unfold fk
      rw [if_neg (by omega), be0, if_neg (by split <;> decide), if_neg (by omega), if_pos (Or.inl ⟨rfl, rfl, ht, by omega⟩)]
    rw [mach, fq, if_pos (by decide), if_neg (show ¬ (tok c n (bgn c n p)).1 = 2 by omega)]
  rw [brn (show ¬ Int32.ofNat m = 12 from fun z => h12 ((zE (b := 12) (by omega) (by omega)).mp z))]
  obtain ⟨r1, a1, a2, a3⟩ := g_next h g
  rw [a1, onS]
  -- the first token, in the machine
  have st1 : ∀ (F : Nat) (ts : List Int32) (us : List Nat) (no : Nat), us.length = m → mach c n true (F + 1) p 0 ts us no = mach c n true F (tok c n (bgn c n p)).2 (if (tok c n (bgn c n p)).1 ≤ 103 then 1 else 2) (ts ++ [Int32.ofNat (tok c n (bgn c n p)).1]) (us ++ [ts.length]) 0 := by
    intro F ts us no hu
    have fq : fk true 0 (tok c n (bgn c n p)).1 us.length no = 0 := by
      unfold fk
      rw [if_neg (by omega), be0, if_neg (by split <;> decide), if_neg (by omega), if_neg (by omega)]
    rw [mach, fq, if_neg (fun z => z rfl), if_neg ht, be0, if_pos rfl, if_neg (show ¬ (tok c n (bgn c n p)).1 = 109 by omega), tc_n (by omega) (by omega)]
  have upF : ∀ {k pl : Nat}, Fa c n (tok c n (bgn c n p)).2 (if (tok c n (bgn c n p)).1 ≤ 103 then 1 else 2) 0 k pl → FaR c n p m k pl := by
    intro k pl hf F ts us no hu hF
    obtain ⟨F, rfl⟩ : ∃ x, F = x + 1 := ⟨F - 1, by omega⟩
    rw [st1 F ts us no hu, hf F _ _ (by omega)]
  have upG : ∀ {p' : Nat} {tks : List Int32}, Go c n (tok c n (bgn c n p)).2 (if (tok c n (bgn c n p)).1 ≤ 103 then 1 else 2) 0 p' 0 0 tks → GoR c n p p' m (Int32.ofNat (tok c n (bgn c n p)).1 :: tks) := by
    intro p' tks hg F ts us no hu hF
    obtain ⟨F, rfl⟩ : ∃ x, F = x + 1 := ⟨F - 1, by omega⟩
    obtain ⟨F', f1, f2⟩ := hg F (ts ++ [Int32.ofNat (tok c n (bgn c n p)).1]) (us ++ [ts.length]) (by omega)
    exact ⟨F', f1, by rw [st1 F ts us no hu, f2, List.append_assoc]; rfl⟩
  generalize (tok c n (bgn c n p)).2 = p1 at *
  generalize (tok c n (bgn c n p)).1 = t at *
  by_cases q4 : 104 ≤ t
  · -- no amount
    rw [brp (show (4 : Int32) ≤ Int32.ofNat (t - 100) from (zLE (a := 4) (by omega) (by omega)).mpr (by omega))]
    rw [if_neg (show ¬ t ≤ 103 by omega)] at upF upG
    obtain ⟨fr2, r2, o1, o2, o3⟩ := r_tl2 h (a := Int32.ofNat (t - 100)) (v := 0) (K := m + 3) (by omega) a2 (by rw [l0]; omega)
    refine ⟨fr2, r2, o1, a3.tr o2, ?_⟩
    rcases o3 with ⟨k, pl, o4, o5⟩ | ⟨p', os, rn', o4, o5, o6, o7⟩
    · exact Or.inl ⟨k, pl, o4, upF o5⟩
    · refine Or.inr ⟨p', (t - 100, 0, os), rn', ⟨by show t - 100 < 6; omega, by show 0 < 100; omega, fun _ => rfl, o4⟩, by omega, by omega, ?_, ?_, ?_⟩
      · rw [zp1] at o6; exact o6
      · rw [List.length_append]
        show _ + ((cdO os).length + 3) + 1 ≤ _
        omega
      · have := upG o7
        unfold tkR
        rw [show 100 + (t - 100) = t by omega, if_neg (show ¬ t - 100 < 4 by omega), List.nil_append]
        exact this
  · rw [brn (show ¬ (4 : Int32) ≤ Int32.ofNat (t - 100) from fun z => absurd ((zLE (a := 4) (by omega) (by omega)).mp z) (by omega))]
    rw [if_pos (show t ≤ 103 by omega)] at upF upG
    obtain ⟨s3, -, f2, f3⟩ := tk_pos (c := c) a2.1
    obtain ⟨y, no9⟩ := g_number h a2 (by rw [l0]; omega) (lo := 0) (hi := 99) (by decide) (by decide)
    have n0 : f_X12_number 0 0 99 (D2 Z fr r1) = f_X12_number 0 (Int32.ofNat 0) (Int32.ofNat 99) (D2 Z fr r1) := rfl
    have b1 : beR 1 (tok c n (bgn c n p1)).1 = if 200 ≤ (tok c n (bgn c n p1)).1 then 2 else 99 := rfl
    by_cases q : 200 ≤ (tok c n (bgn c n p1)).1
    · obtain ⟨r2, d1, d2, d3⟩ := y ⟨q, by omega, by omega⟩
      rw [n0, d1, on2S]
      have gs : Go c n p1 1 0 (tok c n (bgn c n p1)).2 2 0 [tc (tok c n (bgn c n p1)).1] := go1 a2.1 (by decide) (by decide) rfl (by rw [b1, if_pos q]) (by decide) (by omega) (by omega) (by omega) (by rw [if_neg (by omega)])
      have f1 := f3 (by omega)
      obtain ⟨fr2, r3, o1, o2, o3⟩ := r_tl2 h (a := Int32.ofNat (t - 100)) (v := Int32.ofNat ((tok c n (bgn c n p1)).1 - 200)) (K := m + 3) (by omega) d2 (by rw [l0]; omega)
      refine ⟨fr2, r3, o1, a3.tr (d3.tr o2), ?_⟩
      rcases o3 with ⟨k, pl, o4, o5⟩ | ⟨p', os, rn', o4, o5, o6, o7⟩
      · exact Or.inl ⟨k, pl, o4, upF (gs.fa o5)⟩
      · refine Or.inr ⟨p', (t - 100, (tok c n (bgn c n p1)).1 - 200, os), rn', ⟨by show t - 100 < 6; omega, by show (tok c n (bgn c n p1)).1 - 200 < 100; omega, fun z => absurd (show 4 ≤ t - 100 from z) (by omega), o4⟩, by omega, by omega, ?_, ?_, ?_⟩
        · rw [zp1] at o6; exact o6
        · rw [List.length_append]
          show _ + ((cdO os).length + 3) + 1 ≤ _
          omega
        · have := upG (gs.tr o7)
          unfold tkR
          dsimp only
          rw [show 100 + (t - 100) = t by omega, if_pos (show t - 100 < 4 by omega), show 200 + ((tok c n (bgn c n p1)).1 - 200) = (tok c n (bgn c n p1)).1 by omega]
          rw [tc_n (by omega) (by omega)] at this
          exact this
    · obtain ⟨v, r2, d1, d2, d3⟩ := no9 (fun z => q z.1)
      rw [n0, d1, on2S]
      obtain ⟨fr2, o1⟩ := b_tl2 (Z := Z) (fr := fr) d2 (a := Int32.ofNat (t - 100)) (v := v)
      refine ⟨fr2, r2, o1, a3.tr d3, Or.inl ⟨_, _, d2, upF (fa1 a2.1 (by decide) (by decide) rfl ?_ ?_)⟩⟩
      · rw [if_neg q, b1, if_neg q, if_pos rfl]
      · rw [if_neg q]; split <;> decide
theorem kd0 {t : Nat} : kd t = 0 ↔ t = 0 := by
  unfold kd
  by_cases h0 : t = 0
  · rw [if_pos h0]; exact ⟨fun _ => h0, fun _ => rfl⟩
  rw [if_neg h0]
  refine ⟨fun z => absurd z ?_, fun z => absurd z h0⟩
  split
  · decide
  · split
    · decide
    · split <;> decide
theorem r_rules (h : Tpr Z c n) {x1 : Int32} : ∀ (f p : Nat) (fr r : Nat → Int32) (rs : List Ru) (rn : Nat), n - p < f → rs.length ≤ 12 → (∀ x ∈ rs, okR x) → Gd c n fr r p (Int32.ofNat rs.length :: cdRs rs) rn → (cdRs rs).length + 1 ≤ p + (1 + rs.length) → ∃ fr' r', (∀ K, f_X12_rules_56 0 x1 K f (D2 Z fr r) = K (D2 Z fr' r')) ∧ Fx r r' ∧ ((∃ k pl, Bz r' k pl ∧ ∀ F no, n + 1 ≤ p + F → mach c n true F p 0 (tkRs rs) (stR 0 rs) no = some (.inl (k, pl))) ∨ ∃ rs', rs'.length ≤ 12 ∧ (∀ x ∈ rs', okR x) ∧ r' 16 = 0 ∧ r' 20 = Int32.ofNat ((cdRs rs').length + 1) ∧ (cdRs rs').length < 440 - 1 ∧ (∀ i, i < (cdRs rs').length + 1 → fr' i = (Int32.ofNat rs'.length :: cdRs rs').getD i 0) ∧ ∀ F no, n + 1 ≤ p + F → mach c n true F p 0 (tkRs rs) (stR 0 rs) no = some (.inr (tkRs rs', stR 0 rs'))) := by
  have h4 := h.1
  intro f
  induction f with
  | zero => intro p fr r rs rn hf; omega
  | succ f ih =>
    intro p fr r rs rn hf hr ok g hl
    have p4 := g.1
    by_cases ht : (tok c n (bgn c n p)).1 = 0
    · refine ⟨fr, r, fun K => ?_, Fx.rf, Or.inr ⟨rs, hr, ok, g.2.2.1, g.2.2.2.1, by omega, g.2.2.2.2.2, fun F no hF => ?_⟩⟩
      · rw [f_X12_rules_56, D2_g, g.2.2.1, brp rfl, g.2.1.2.2.2.1, brp (kd0.mpr ht)]
      · obtain ⟨F, rfl⟩ : ∃ x, F = x + 1 := ⟨F - 1, by omega⟩
        have fq : fk true 0 (tok c n (bgn c n p)).1 (stR 0 rs).length no = 0 := by
          rw [ht]
          unfold fk
          rw [if_neg (by decide), if_neg (by decide), if_neg (by omega), if_neg (by omega)]
        rw [mach, fq, if_neg (fun z => z rfl), if_pos ht]
    · obtain ⟨fr1, r1, o1, o2, o3⟩ := r_rule h hr g (by omega) ht
      have ev : ∀ K, f_X12_rules_56 0 x1 K (f + 1) (D2 Z fr r) = f_X12_rules_56 0 x1 K f (D2 Z fr1 r1) := fun K => by
        rw [f_X12_rules_56, D2_g, g.2.2.1, brp rfl, g.2.1.2.2.2.1, brn (fun z => ht (kd0.mp z)), o1, onS]
      rcases o3 with ⟨k, pl, o4, o5⟩ | ⟨p', x, rn', o4, o5, o6, o7, o8, o9⟩
      · refine ⟨fr1, r1, fun K => ?_, o2, Or.inl ⟨k, pl, o4, fun F no hF => o5 F _ _ no (stR_l rs 0) hF⟩⟩
        rw [ev]
        obtain ⟨f, rfl⟩ : ∃ y, f = y + 1 := ⟨f - 1, by have := (tk_pos (c := c) g.1); omega⟩
        rw [f_X12_rules_56, D2_g, brn o4.n]
      · have ls : (rs ++ [x]).length = rs.length + 1 := by rw [List.length_append]; rfl
        have p5 := o7.1
        obtain ⟨fr2, r2, w1, w2, w3⟩ := ih p' fr1 r1 (rs ++ [x]) rn' (by omega) (by omega) (fun y hy => (List.mem_append.mp hy).elim (ok y) (fun z => by rw [List.mem_singleton.mp z]; exact o4)) (by rw [ls, cdRs_s]; exact o7) (by rw [ls, cdRs_s]; exact o8)
        refine ⟨fr2, r2, fun K => by rw [ev, w1], o2.tr w2, ?_⟩
        have mv : ∀ F no, n + 1 ≤ p + F → ∃ F', n + 1 ≤ p' + F' ∧ mach c n true F p 0 (tkRs rs) (stR 0 rs) no = mach c n true F' p' 0 (tkRs (rs ++ [x])) (stR 0 (rs ++ [x])) 0 := fun F no hF => by
          obtain ⟨F', y1, y2⟩ := o9 F (tkRs rs) (stR 0 rs) no (stR_l rs 0) hF
          exact ⟨F', y1, by rw [y2, tkRs_s, stR_s, Nat.zero_add]⟩
        rcases w3 with ⟨k, pl, w4, w5⟩ | ⟨rs', w4, w5, w6, w7, w8, w9, w10⟩
        · exact Or.inl ⟨k, pl, w4, fun F no hF => by
            obtain ⟨F', y1, y2⟩ := mv F no hF
            rw [y2, w5 F' 0 y1]⟩
        · exact Or.inr ⟨rs', w4, w5, w6, w7, w8, w9, fun F no hF => by
            obtain ⟨F', y1, y2⟩ := mv F no hF
            rw [y2, w10 F' 0 y1]⟩
end
end
