section
-- READING: the class reads as the machine does
theorem ai_comm {S : St} {k g k' g' : Nat} {f f' : Nat → Int32} (h : k ≠ k') : ai (ai S k g f) k' g' f' = ai (ai S k' g' f') k g f := by
  refine Prod.ext (funext fun a => funext fun b => ?_) rfl
  show up2 (up2 S.1 k g f) k' g' f' a b = up2 (up2 S.1 k' g' f') k g f a b
  unfold up2
  by_cases e1 : a = k' ∧ b = g'
  · rw [if_pos e1, if_neg (fun z => h (z.1.symm.trans e1.1)), if_pos e1]
  · rw [if_neg e1]
    by_cases e2 : a = k ∧ b = g
    · rw [if_pos e2, if_pos e2]
    · rw [if_neg e2, if_neg e2, if_neg e1]
/-- the rows that reading writes in the class -/
def C3 (S : St) (tk sts r : Nat → Int32) : St := ai (ai (ai S 30 0 tk) 31 0 sts) 28 0 r
section
variable {S : St} {tk sts r : Nat → Int32} {j : Nat} {v : Int32}
theorem C3_28 : si (C3 S tk sts r) 28 0 j v = C3 S tk sts (upd r j v) := si_ai
theorem C3_31 : si (C3 S tk sts r) 31 0 j v = C3 S tk (upd sts j v) r := by
  show ai (C3 S tk sts r) 31 0 (upd sts j v) = _
  unfold C3
  rw [ai_comm (by decide), ai_ai]
theorem C3_30 : si (C3 S tk sts r) 30 0 j v = C3 S (upd tk j v) sts r := by
  show ai (C3 S tk sts r) 30 0 (upd tk j v) = _
  unfold C3
  rw [ai_comm (by decide), ai_comm (k := 31) (by decide), ai_ai]
theorem C3_g : gi (C3 S tk sts r) 28 0 = r := gai
theorem C3_s : C3 S (gi S 30 0) (gi S 31 0) r = ai S 28 0 r := by
  unfold C3
  rw [ai_self]
  exact congrArg (fun X => ai X 28 0 r) ai_self
end
theorem keepT {S : St} {tk sts r : Nat → Int32} {t st L U no : Nat} (ht : t < 300) (hs : st < 11) (hL : L < 400) (hU : U ≤ 400) (hn : no ≤ 400) (h3 : r 3 = Int32.ofNat L) (h5 : r 5 = Int32.ofNat U) (h10 : r 10 = Int32.ofNat no) : ∃ tk' sts' r', f_X9_keepToken 0 (tc t) (Int32.ofNat st) (C3 S tk sts r) = some (C3 S tk' sts' r') ∧ tk' L = tc t ∧ (∀ i, i < L → tk' i = tk i) ∧ (∀ i, i < U → sts' i = sts i) ∧ (st = 0 → U < 12 → sts' U = Int32.ofNat L) ∧ r' 3 = Int32.ofNat (L + 1) ∧ r' 5 = Int32.ofNat (if st = 0 then U + 1 else U) ∧ r' 10 = Int32.ofNat (if t = 109 then no + 1 else 0) ∧ ∀ j, j ≠ 3 → j ≠ 5 → j ≠ 10 → r' j = r j := by
  have i2 : (tc t = 109) ↔ t = 109 := tcE (k := 109) (by omega) (by omega) (by omega) (by omega)
  have i7 : (Int32.ofNat st = 0) ↔ st = 0 := zE (b := 0) (by omega) (by omega)
  -- behind the units
  have tail : ∀ (sts1 r1 : Nat → Int32), r1 3 = Int32.ofNat L → r1 10 = Int32.ofNat no → ∃ tk' r', bv (fun (v_3 : Int32) (S_4 : St) => bv (si S_4 28 0 10 v_3) (fun S_6 => bv (fun  (S_7 : St) => some S_7) (fun J_8 => br (400 ≤ (gi S_6 28 0 3)) (J_8 S_6) (ck (inb (gi S_6 28 0 3) 400 = true) (bv (si S_6 30 0 (nn (gi S_6 28 0 3)) (tc t)) (fun S_11 => bv (si S_11 28 0 3 ((gi S_11 28 0 3) + 1)) (fun S_12 => J_8 S_12))))))) (fun J_5 => br (tc t = 109) (J_5 ((gi (C3 S tk sts1 r1) 28 0 10) + 1) (C3 S tk sts1 r1)) (J_5 0 (C3 S tk sts1 r1))) = some (C3 S tk' sts1 r') ∧ tk' L = tc t ∧ (∀ i, i < L → tk' i = tk i) ∧ r' 3 = Int32.ofNat (L + 1) ∧ r' 10 = Int32.ofNat (if t = 109 then no + 1 else 0) ∧ ∀ j, j ≠ 3 → j ≠ 10 → r' j = r1 j := by
    intro sts1 r1 q3 q10
    have g3 : ∀ v : Int32, upd r1 10 v 3 = Int32.ofNat L := fun v => by rw [upd_ne (by decide)]; exact q3
    have n4 : ¬ (400 : Int32) ≤ Int32.ofNat L := fun z => absurd ((zLE (a := 400) (by omega) (by omega)).mp z) (by omega)
    simp only [bvN, C3_28, C3_g, C3_30, q10, g3, zp1, ck_t (show inb (Int32.ofNat L) 400 = true from ib hL (by omega)), zN (show L < 2147483648 by omega)]
    by_cases e : t = 109
    · rw [brp (i2.mpr e), brn n4]
      refine ⟨_, _, rfl, upd_eq, fun i hi => upd_ne (by omega), upd_eq, ?_, fun j h1 h2 => by rw [upd_ne h1, upd_ne h2]⟩
      rw [upd_ne (by decide), upd_eq, if_pos e]
    · rw [brn (fun z => e (i2.mp z)), brn n4]
      refine ⟨_, _, rfl, upd_eq, fun i hi => upd_ne (by omega), upd_eq, ?_, fun j h1 h2 => by rw [upd_ne h1, upd_ne h2]⟩
      rw [upd_ne (by decide), upd_eq, if_neg e]; rfl
  unfold f_X9_keepToken
  by_cases e : st = 0
  · have go : ∀ sts1, (∀ i, i < U → sts1 i = sts i) → (U < 12 → sts1 U = Int32.ofNat L) → ∃ tk' sts' r', bv (fun (v_3 : Int32) (S_4 : St) => bv (si S_4 28 0 10 v_3) (fun S_6 => bv (fun  (S_7 : St) => some S_7) (fun J_8 => br (400 ≤ (gi S_6 28 0 3)) (J_8 S_6) (ck (inb (gi S_6 28 0 3) 400 = true) (bv (si S_6 30 0 (nn (gi S_6 28 0 3)) (tc t)) (fun S_11 => bv (si S_11 28 0 3 ((gi S_11 28 0 3) + 1)) (fun S_12 => J_8 S_12))))))) (fun J_5 => br (tc t = 109) (J_5 ((gi (C3 S tk sts1 (upd r 5 (Int32.ofNat (U + 1)))) 28 0 10) + 1) (C3 S tk sts1 (upd r 5 (Int32.ofNat (U + 1))))) (J_5 0 (C3 S tk sts1 (upd r 5 (Int32.ofNat (U + 1)))))) = some (C3 S tk' sts' r') ∧ tk' L = tc t ∧ (∀ i, i < L → tk' i = tk i) ∧ (∀ i, i < U → sts' i = sts i) ∧ (st = 0 → U < 12 → sts' U = Int32.ofNat L) ∧ r' 3 = Int32.ofNat (L + 1) ∧ r' 5 = Int32.ofNat (if st = 0 then U + 1 else U) ∧ r' 10 = Int32.ofNat (if t = 109 then no + 1 else 0) ∧ ∀ j, j ≠ 3 → j ≠ 5 → j ≠ 10 → r' j = r j := by
      intro sts1 s1 s2
      obtain ⟨tk', r', a1, a2, a3, a4, a5, a6⟩ := tail sts1 (upd r 5 (Int32.ofNat (U + 1))) (by rw [upd_ne (by decide)]; exact h3) (by rw [upd_ne (by decide)]; exact h10)
      exact ⟨tk', sts1, r', a1, a2, a3, s1, fun _ => s2, a4, by rw [a6 5 (by decide) (by decide), upd_eq, if_pos e], a5, fun j j1 j2 j3 => by rw [a6 j j1 j3, upd_ne j2]⟩
    rw [bvN, brp (i7.mpr e), bvN, C3_g, h5, h3]
    by_cases e2 : U < 12
    · rw [brn (show ¬ (12 : Int32) ≤ Int32.ofNat U from fun z => absurd ((zLE (a := 12) (by omega) (by omega)).mp z) (by omega)), ck_t (ib e2 (by omega)), zN (by omega), C3_31, bvN]
      dsimp only
      rw [bvN, C3_g, h5, zp1, C3_28]
      exact go _ (fun i hi => upd_ne (by omega)) (fun _ => upd_eq)
    · rw [brp (show (12 : Int32) ≤ Int32.ofNat U from (zLE (a := 12) (by omega) (by omega)).mpr (by omega))]
      dsimp only
      rw [bvN, C3_g, h5, zp1, C3_28]
      exact go _ (fun i hi => rfl) (fun z => absurd z e2)
  · rw [bvN, brn (fun z => e (i7.mp z))]
    obtain ⟨tk', r', a1, a2, a3, a4, a5, a6⟩ := tail sts r h3 h10
    exact ⟨tk', sts, r', a1, a2, a3, fun _ _ => rfl, fun z => absurd z e, a4, by rw [a6 5 (by decide) (by decide), if_neg e]; exact h5, a5, fun j j1 j2 j3 => a6 j j1 j3⟩
/-- what the class has behind reading -/
def Rd (res : (Nat × Nat) ⊕ (List Int32 × List Nat)) (tk sts r : Nat → Int32) (v7 : Int32) : Prop := match res with
  | .inl k => k.1 ≠ 0 ∧ k.1 ≤ 4 ∧ r 6 = Int32.ofNat k.1 ∧ r 7 = Int32.ofNat k.2
  | .inr q => r 6 = 0 ∧ r 7 = v7 ∧ r 3 = Int32.ofNat q.1.length ∧ r 5 = Int32.ofNat q.2.length ∧ q.1.length ≤ 400 ∧ q.2.length ≤ 400 ∧ (∀ i, i < q.1.length → tk i = q.1.getD i 0) ∧ ∀ i, i < q.2.length → i < 12 → sts i = Int32.ofNat (q.2.getD i 0)
theorem fk_le {R : Bool} {st t us no : Nat} : fk R st t us no ≤ 4 := by
  unfold fk
  repeat' split
  all_goals omega
theorem fk_be {R : Bool} {st t us no : Nat} (h : fk R st t us no = 0) : ¬ t = 2 ∧ be R st t < 11 := by
  unfold fk at h
  by_cases h1 : t = 2
  · rw [if_pos h1] at h; exact absurd h (by decide)
  rw [if_neg h1] at h
  by_cases h2 : be R st t = 99
  · rw [if_pos h2] at h; exact absurd h (by decide)
  exact ⟨h1, be_lt.resolve_right h2⟩
theorem getD_snoc {α : Type} {l : List α} {x d : α} {i : Nat} : (i < l.length → (l ++ [x]).getD i d = l.getD i d) ∧ (l ++ [x]).getD l.length d = x := by
  constructor
  · intro h
    rw [List.getD_eq_getElem?_getD, List.getD_eq_getElem?_getD, List.getElem?_append_left h]
  · rw [List.getD_eq_getElem?_getD, List.getElem?_append_right (Nat.le_refl _), Nat.sub_self]; rfl
section
variable {S : St} {c : Nat → Nat} {n : Nat} {R : Bool}
theorem rd40 (h : Tpc S c n) {res : (Nat × Nat) ⊕ (List Int32 × List Nat)} : ∀ (f m p st : Nat) (ts : List Int32) (us : List Nat) (no : Nat) (tk sts r : Nat → Int32), f ≤ m → mach c n R f p st ts us no = some res → p ≤ n → st < 11 → ts.length ≤ p → us.length ≤ ts.length → no ≤ p → r 9 = Int32.ofNat p → r 3 = Int32.ofNat ts.length → r 5 = Int32.ofNat us.length → r 10 = Int32.ofNat no → (∀ i, i < ts.length → tk i = ts.getD i 0) → (∀ i, i < us.length → i < 12 → sts i = Int32.ofNat (us.getD i 0)) → ∃ tk' sts' r', f_X9_read_40 0 (Int32.ofNat n) (bo1 R) (fun S => some S) m (Int32.ofNat st) (Int32.ofNat ts.length) (C3 S tk sts r) = some (C3 S tk' sts' r') ∧ r' 1 = r 1 ∧ Rd res tk' sts' r' (r 7) := by
  have h4 := h.1
  intro f
  induction f with
  | zero => intro m p st ts us no tk sts r _ hm; exact absurd hm (by rw [mach]; exact fun z => by cases z)
  | succ f ih =>
    intro m p st ts us no tk sts r hf hm hp hst htl hul hno h9 h3 h5 h10 htk hsts
    obtain ⟨m, rfl⟩ : ∃ x, m = x + 1 := ⟨m - 1, by omega⟩
    have h' : Tpc (ai (ai S 30 0 tk) 31 0 sts) c n := h
    have bb := bgn_ge (c := c) hp
    have ct := cTok h' (r := r) hp h9
    have ta := tok_all (c := c) (n := n) (b := bgn c n p)
    rw [mach] at hm
    generalize bgn c n p = b at *
    generalize tok c n b = te at *
    obtain ⟨t, e⟩ := te
    dsimp only at *
    have t3 : t < 300 := by omega
    have eb : b ≤ e ∧ e ≤ n := by omega
    have u5 : upd (upd r 8 (Int32.ofNat b)) 9 (Int32.ofNat e) 5 = Int32.ofNat us.length := by rw [upd_ne (by decide), upd_ne (by decide)]; exact h5
    have u10 : upd (upd r 8 (Int32.ofNat b)) 9 (Int32.ofNat e) 10 = Int32.ofNat no := by rw [upd_ne (by decide), upd_ne (by decide)]; exact h10
    have ct : f_X9_nextToken 0 (Int32.ofNat n) (C3 S tk sts r) = some (tc t, C3 S tk sts (upd (upd r 8 (Int32.ofNat b)) 9 (Int32.ofNat e))) := ct
    have ef : ∀ S1, gi S1 28 0 5 = Int32.ofNat us.length → gi S1 28 0 10 = Int32.ofNat no → f_X9_faultOf 0 (tc t) (Int32.ofNat st) (bI (be R st t)) (bo1 R) S1 = some (Int32.ofNat (fk R st t us.length no)) := fun S1 q1 q2 => e_fault t3 hst (by omega) (by omega) q1 q2
    rw [f_X9_read_40, brn (show ¬ (400 : Int32) < Int32.ofNat ts.length from fun z => absurd ((zL (a := 400) (by omega) (by omega)).mp z) (by omega)), ct, on2S, bvN]
    -- what follows, whichever may come next
    suffices hh : ∃ tk' sts' r', on (f_X9_faultOf 0 (tc t) (Int32.ofNat st) (bI (be R st t)) (bo1 R) (C3 S tk sts (upd (upd r 8 (Int32.ofNat b)) 9 (Int32.ofNat e)))) (fun r_16 => bv (si (C3 S tk sts (upd (upd r 8 (Int32.ofNat b)) 9 (Int32.ofNat e))) 28 0 6 r_16) (fun S_17 => br ((gi S_17 28 0 6) = 0) (br (tc t = 0) (some S_17) (on (f_X9_keepToken 0 (tc t) (Int32.ofNat st) S_17) (fun S_21 => bv (Int32.ofNat ts.length + 1) (fun x4_22 => f_X9_read_40 0 (Int32.ofNat n) (bo1 R) (fun S => some S) m (bI (be R st t)) x4_22 S_21)))) (bv (si S_17 28 0 7 (gi S_17 28 0 8)) (fun S_23 => some S_23)))) = some (C3 S tk' sts' r') ∧ r' 1 = r 1 ∧ Rd res tk' sts' r' (r 7) by
      cases R with
      | false => rw [brp (show bo1 false = 0 by decide), (beh hst t3).2, onS]; exact hh
      | true => rw [brn (show ¬ bo1 true = 0 by decide), (beh hst t3).1, onS]; exact hh
    rw [ef _ (by rw [C3_g]; exact u5) (by rw [C3_g]; exact u10), onS, bvN, C3_28, C3_g, upd_eq]
    by_cases q : fk R st t us.length no = 0
    case neg =>
      rw [if_pos q] at hm
      obtain rfl := Option.some.inj hm
      have fl := fk_le (R := R) (st := st) (t := t) (us := us.length) (no := no)
      rw [brn (show ¬ Int32.ofNat (fk R st t us.length no) = 0 from fun z => q ((zE (b := 0) (by omega) (by omega)).mp z)), bvN, C3_28]
      refine ⟨_, _, _, rfl, ?_, q, fl, ?_, ?_⟩
      · rw [upd_ne (by decide), upd_ne (by decide), upd_ne (by decide), upd_ne (by decide)]
      · rw [upd_ne (by decide), upd_eq]
      · rw [upd_eq, upd_ne (by decide), upd_ne (by decide), upd_eq]
    rw [if_neg (fun z => z q)] at hm
    rw [q, brp (show Int32.ofNat 0 = 0 from rfl)]
    by_cases q2 : t = 0
    · rw [if_pos q2] at hm
      obtain rfl := Option.some.inj hm
      rw [brp (by rw [q2]; rfl)]
      refine ⟨_, _, _, rfl, ?_, ?_, ?_, ?_, ?_, by show ts.length ≤ 400; omega, by show us.length ≤ 400; omega, htk, hsts⟩
      · rw [upd_ne (by decide), upd_ne (by decide), upd_ne (by decide)]
      · rw [upd_eq]; rfl
      · rw [upd_ne (by decide), upd_ne (by decide), upd_ne (by decide)]
      · rw [upd_ne (by decide), upd_ne (by decide), upd_ne (by decide)]; exact h3
      · rw [upd_ne (by decide)]; exact u5
    rw [if_neg q2] at hm
    rw [brn (show ¬ tc t = 0 from fun z => q2 ((tcE (k := 0) (by omega) (by omega) (by omega) (by omega)).mp z))]
    have eb2 : b < e := by omega
    obtain ⟨tk1, sts1, r1, k1, k2, k3, k4, k5, k6, k7, k8, k9⟩ := keepT (S := S) (tk := tk) (sts := sts) (r := upd (upd (upd r 8 (Int32.ofNat b)) 9 (Int32.ofNat e)) 6 (Int32.ofNat 0)) (t := t) (st := st) (L := ts.length) (U := us.length) (no := no) t3 hst (by omega) (by omega) (by omega) (by rw [upd_ne (by decide), upd_ne (by decide), upd_ne (by decide)]; exact h3) (by rw [upd_ne (by decide)]; exact u5) (by rw [upd_ne (by decide)]; exact u10)
    have nx := (fk_be q).2
    rw [k1, onS, bvN, zp1, show bI (be R st t) = Int32.ofNat (be R st t) from if_neg (by omega)]
    have ul : (if st = 0 then us ++ [ts.length] else us).length = if st = 0 then us.length + 1 else us.length := by
      by_cases z : st = 0
      · rw [if_pos z, if_pos z, List.length_append]; rfl
      · rw [if_neg z, if_neg z]
    have ul2 : (if st = 0 then us.length + 1 else us.length) ≤ us.length + 1 := by split <;> omega
    have tl : (ts ++ [tc t]).length = ts.length + 1 := by rw [List.length_append]; rfl
    obtain ⟨tk', sts', r', a1, a2, a3⟩ := ih m e (be R st t) (ts ++ [tc t]) (if st = 0 then us ++ [ts.length] else us) (if t = 109 then no + 1 else 0) tk1 sts1 r1 (by omega) hm eb.2 nx (by rw [tl]; omega) (by rw [tl, ul]; omega) (by split <;> omega) (by rw [k9 9 (by decide) (by decide) (by decide), upd_ne (by decide), upd_eq]) (by rw [tl]; exact k6) (by rw [ul]; exact k7) k8 (fun i hi => by
      rw [tl] at hi
      by_cases z : i = ts.length
      · rw [z, (getD_snoc (i := 0)).2]; exact k2
      · rw [getD_snoc.1 (show i < ts.length by omega), k3 i (by omega)]; exact htk i (by omega)) (fun i hi h12 => by
      rw [ul] at hi
      by_cases z : st = 0
      · rw [if_pos z] at hi ⊢
        by_cases y : i = us.length
        · rw [y, (getD_snoc (i := 0)).2]; exact k5 z (by omega)
        · rw [getD_snoc.1 (show i < us.length by omega), k4 i (by omega)]; exact hsts i (by omega) h12
      · rw [if_neg z] at hi ⊢
        rw [k4 i hi]; exact hsts i hi h12)
    rw [tl] at a1
    refine ⟨tk', sts', r', a1, ?_, ?_⟩
    · rw [a2, k9 1 (by decide) (by decide) (by decide), upd_ne (by decide), upd_ne (by decide), upd_ne (by decide)]
    · rw [k9 7 (by decide) (by decide) (by decide), upd_ne (by decide), upd_ne (by decide), upd_ne (by decide)] at a3
      exact a3
theorem rdAll (h : Tpc S c n) {res : (Nat × Nat) ⊕ (List Int32 × List Nat)} (hm : mach c n R 401 0 0 [] [] 0 = some res) : ∃ tk sts r, f_X9_read 0 (Int32.ofNat n) (bo1 R) S = some (C3 S tk sts r) ∧ r 1 = 0 ∧ Rd res tk sts r (-1) := by
  have F : FU = 100000 := rfl
  obtain ⟨r0, er⟩ : ∃ r0, r0 = upd (upd (upd (upd (upd (upd (upd (gi S 28 0) 3 0) 5 0) 9 0) 10 0) 1 0) 6 0) 7 (-1) := ⟨_, rfl⟩
  obtain ⟨tk, sts, r, a1, a2, a3⟩ := rd40 (R := R) h 401 FU 0 0 [] [] 0 (gi S 30 0) (gi S 31 0) r0 (by omega) hm (by omega) (by omega) (Nat.le_refl _) (Nat.le_refl _) (Nat.le_refl _) (by rw [er]; rfl) (by rw [er]; rfl) (by rw [er]; rfl) (by rw [er]; rfl) (fun i hi => absurd hi (Nat.not_lt_zero i)) (fun i hi => absurd hi (Nat.not_lt_zero i))
  refine ⟨tk, sts, r, ?_, a2.trans (by rw [er]; rfl), ?_⟩
  · unfold f_X9_read
    rw [bvN, bvN, bvN, bvN, bvN, bvN, bvN]
    rw [C3_s] at a1
    have e7 : si (si (si (si (si (si (si S 28 0 3 0) 28 0 5 0) 28 0 9 0) 28 0 10 0) 28 0 1 0) 28 0 6 0) 28 0 7 (-1) = ai S 28 0 r0 := by
      rw [er, show si S 28 0 3 0 = ai S 28 0 (upd (gi S 28 0) 3 0) from rfl, si_ai, si_ai, si_ai, si_ai, si_ai, si_ai]
    rw [e7]
    exact a1
  · rw [show r0 7 = -1 by rw [er]; rfl] at a3
    exact a3
end
end
