-- CLAIMS BY THE CLASS
section HO
variable {S : St} {r nt : Nat} {W : Nat → Int32} {K : Unit → Option Int32}
theorem t_isTerm {c : Nat} (hc : c < 109) : f_X9_isTerm (tkT c) S = some 1 := by
  unfold f_X9_isTerm tkT
  by_cases h : c < 100
  · rw [if_pos h]
    exact Ok.get (Ok.v (Ok.v (Ok.bt (show (200 : Int32) ≤ Int32.ofNat (200 + c) from (zLE (a := 200) (by omega) (by omega)).mpr (by omega)) (Ok.c (by decide) (Ok.sm rfl)))))
  · rw [if_neg h]
    exact Ok.get (Ok.v (Ok.v (Ok.bf (show ¬ (200 : Int32) ≤ Int32.ofNat (10 + c) from fun z => absurd ((zLE (a := 200) (by omega) (by omega)).mp z) (by omega)) (Ok.v (Ok.bf (show ¬ Int32.ofNat (10 + c) < 110 from fun z => absurd ((zL (b := 110) (by omega) (by omega)).mp z) (by omega)) (Ok.bf (show ¬ (118 : Int32) < Int32.ofNat (10 + c) from fun z => absurd ((zL (a := 118) (by omega) (by omega)).mp z) (by omega)) (Ok.c (by decide) (Ok.sm rfl))))))))
theorem t_value (hW : ∀ j, j < 9 → gi S 27 0 j = W j) {c : Nat} (hc : c < 109) : f_X7_valueOf (tkT c) 0 S = some (vl W c) := by
  unfold f_X7_valueOf tkT vl
  by_cases h : c < 100
  · rw [if_pos h, if_pos h]
    refine Ok.get (Ok.v (Ok.bf (show ¬ Int32.ofNat (200 + c) < 200 from fun z => absurd ((zL (b := 200) (by omega) (by omega)).mp z) (by omega)) (Ok.sm ?_)))
    rw [show Int32.ofNat (200 + c) - 200 = Int32.ofNat (200 + c - 200) from zS 200 (by omega), show 200 + c - 200 = c by omega]
  · rw [if_neg h, if_neg h]
    have e : Int32.ofNat (10 + c) - 110 = Int32.ofNat (c - 100) := by
      rw [show Int32.ofNat (10 + c) - 110 = Int32.ofNat (10 + c - 110) from zS 110 (by omega), show 10 + c - 110 = c - 100 by omega]
    refine Ok.get (Ok.v (Ok.bt (show Int32.ofNat (10 + c) < 200 from (zL (b := 200) (by omega) (by omega)).mpr (by omega)) ?_))
    rw [e]
    refine Ok.c (ib (by omega) (by omega)) (Ok.sm ?_)
    rw [zN (by omega)]; exact hW _ (by omega)
/-- one token -/
theorem h_tok (hn : gn S 33 r = nt) (hb : nt ≤ 400) {p : Nat} (hp : p < nt) {n : Nat} {x3 x4 x5 x6 x7 x8 y k1 : Int32} (hy : gi S 33 r p = y) (ht : f_X9_isTerm y S = some k1) : f_X7_holds_20 r 0 S K (n + 1) x3 x4 x5 x6 x7 x8 (Int32.ofNat p) = br (k1 = 0) (on (f_X9_isPlusOrMinus y S) (fun r_16 => br (r_16 = 0) (br (y = 109) (br (x4 = 0) (f_X7_holds_20 r 0 S K n x3 1 x5 x6 x7 x8 (Int32.ofNat (p + 1))) (f_X7_holds_20 r 0 S K n x3 0 x5 x6 x7 x8 (Int32.ofNat (p + 1)))) (on (f_X9_isRelation y S) (fun r_20 => br (r_20 = 0) (bv (fun (v_22 : Int32) => br (y = 108) (br (y = 59) (some 0) (br (v_22 = 0) (br (y = 107) (f_X7_holds_20 r 0 S K n 1 0 x5 x6 0 1 (Int32.ofNat (p + 1))) (f_X7_holds_20 r 0 S K n 0 0 x5 x6 0 1 (Int32.ofNat (p + 1)))) (f_X7_holds_20 r 0 S K n 1 0 x5 x6 0 1 (Int32.ofNat (p + 1))))) (br (v_22 = 0) (br (y = 59) (some 0) (br (v_22 = 0) (br (y = 107) (f_X7_holds_20 r 0 S K n 1 0 x5 x6 0 1 (Int32.ofNat (p + 1))) (f_X7_holds_20 r 0 S K n 0 0 x5 x6 0 1 (Int32.ofNat (p + 1)))) (f_X7_holds_20 r 0 S K n 1 0 x5 x6 0 1 (Int32.ofNat (p + 1))))) (some 1))) (fun J_23 => br (x3 = 0) (J_23 0) (on (f_X7_isSo x6 x5 x7 S) (fun r_36 => br (r_36 = x4) (J_23 0) (J_23 1))))) (f_X7_holds_20 r 0 S K n x3 x4 y x7 0 1 (Int32.ofNat (p + 1)))))) (br (y = 43) (f_X7_holds_20 r 0 S K n x3 x4 x5 x6 x7 1 (Int32.ofNat (p + 1))) (f_X7_holds_20 r 0 S K n x3 x4 x5 x6 x7 (-1) (Int32.ofNat (p + 1)))))) (on (f_X7_valueOf y 0 S) (fun r_45 => f_X7_holds_20 r 0 S K n x3 x4 x5 x6 (x7 + (x8 * r_45)) x8 (Int32.ofNat (p + 1)))) := by
  rw [f_X7_holds_20, hn, brn (fun z => absurd ((zLE (by omega) (by omega)).mp z) (by omega)), ck_t (ib hp (by omega)), zN (by omega), hy, bvN, ht, onS]
  simp only [bvN, zp1]
theorem h_term (hn : gn S 33 r = nt) (hb : nt ≤ 400) (hW : ∀ j, j < 9 → gi S 27 0 j = W j) {p c : Nat} (hp : p < nt) (hc : c < 109) (hy : gi S 33 r p = tkT c) {n : Nat} {x3 x4 x5 x6 x7 x8 : Int32} : f_X7_holds_20 r 0 S K (n + 1) x3 x4 x5 x6 x7 x8 (Int32.ofNat p) = f_X7_holds_20 r 0 S K n x3 x4 x5 x6 (x7 + x8 * vl W c) x8 (Int32.ofNat (p + 1)) := by
  rw [h_tok hn hb hp hy (t_isTerm hc), brn (by decide), t_value hW hc, onS]
theorem h_pm (hn : gn S 33 r = nt) (hb : nt ≤ 400) {p : Nat} {b : Bool} (hp : p < nt) (hy : gi S 33 r p = if b then 43 else 45) {n : Nat} {x3 x4 x5 x6 x7 x8 : Int32} : f_X7_holds_20 r 0 S K (n + 1) x3 x4 x5 x6 x7 x8 (Int32.ofNat p) = f_X7_holds_20 r 0 S K n x3 x4 x5 x6 x7 (if b then 1 else -1) (Int32.ofNat (p + 1)) := by
  cases b
  · rw [h_tok hn hb hp (y := 45) hy (k1 := 0) rfl, brp rfl, show f_X9_isPlusOrMinus 45 S = some 1 from rfl, onS, brn (by decide), brn (by decide)]; rfl
  · rw [h_tok hn hb hp (y := 43) hy (k1 := 0) rfl, brp rfl, show f_X9_isPlusOrMinus 43 S = some 1 from rfl, onS, brn (by decide), brp rfl]; rfl
theorem h_not (hn : gn S 33 r = nt) (hb : nt ≤ 400) {p : Nat} {b : Bool} (hp : p < nt) (hy : gi S 33 r p = 109) {n : Nat} {x3 x5 x6 x7 x8 : Int32} : f_X7_holds_20 r 0 S K (n + 1) x3 (b01 b) x5 x6 x7 x8 (Int32.ofNat p) = f_X7_holds_20 r 0 S K n x3 (b01 !b) x5 x6 x7 x8 (Int32.ofNat (p + 1)) := by
  rw [h_tok hn hb hp (y := 109) hy (k1 := 0) rfl, brp rfl, show f_X9_isPlusOrMinus 109 S = some 0 from rfl, onS, brp rfl, brp rfl]
  cases b
  · exact brp rfl
  · exact brn (by decide)
theorem h_rel (hn : gn S 33 r = nt) (hb : nt ≤ 400) {p q : Nat} (hp : p < nt) (hq : q < 3) (hy : gi S 33 r p = Int32.ofNat (60 + q)) {n : Nat} {x3 x4 x5 x6 x7 x8 : Int32} : f_X7_holds_20 r 0 S K (n + 1) x3 x4 x5 x6 x7 x8 (Int32.ofNat p) = f_X7_holds_20 r 0 S K n x3 x4 (Int32.ofNat (60 + q)) x7 0 1 (Int32.ofNat (p + 1)) := by
  rcases (show q = 0 ∨ q = 1 ∨ q = 2 by omega) with rfl | rfl | rfl
  · rw [h_tok hn hb hp hy (k1 := 0) rfl, brp rfl, show f_X9_isPlusOrMinus (Int32.ofNat (60 + 0)) S = some 0 from rfl, onS, brp rfl, brn (by decide), show f_X9_isRelation (Int32.ofNat (60 + 0)) S = some 1 from rfl, onS, brn (by decide)]
  · rw [h_tok hn hb hp hy (k1 := 0) rfl, brp rfl, show f_X9_isPlusOrMinus (Int32.ofNat (60 + 1)) S = some 0 from rfl, onS, brp rfl, brn (by decide), show f_X9_isRelation (Int32.ofNat (60 + 1)) S = some 1 from rfl, onS, brn (by decide)]
  · rw [h_tok hn hb hp hy (k1 := 0) rfl, brp rfl, show f_X9_isPlusOrMinus (Int32.ofNat (60 + 2)) S = some 0 from rfl, onS, brp rfl, brn (by decide), show f_X9_isRelation (Int32.ofNat (60 + 2)) S = some 1 from rfl, onS, brn (by decide)]
/-- what ends a claim: and, or, the rule's end -/
theorem h_sep (hn : gn S 33 r = nt) (hb : nt ≤ 400) {p : Nat} (hp : p < nt) {al ng q : Bool} {n : Nat} {x5 x6 x7 x8 : Int32} (hq : f_X7_isSo x6 x5 x7 S = some (b01 q)) : (gi S 33 r p = 108 → f_X7_holds_20 r 0 S K (n + 1) (b01 al) (b01 ng) x5 x6 x7 x8 (Int32.ofNat p) = f_X7_holds_20 r 0 S K n (b01 (al && (q != ng))) (b01 false) x5 x6 0 1 (Int32.ofNat (p + 1))) ∧ (gi S 33 r p = 107 → f_X7_holds_20 r 0 S K (n + 1) (b01 al) (b01 ng) x5 x6 x7 x8 (Int32.ofNat p) = if (al && (q != ng)) then some 1 else f_X7_holds_20 r 0 S K n (b01 true) (b01 false) x5 x6 0 1 (Int32.ofNat (p + 1))) ∧ (gi S 33 r p = 59 → f_X7_holds_20 r 0 S K (n + 1) (b01 al) (b01 ng) x5 x6 x7 x8 (Int32.ofNat p) = some (b01 (al && (q != ng)))) := by
  refine ⟨fun hy => ?_, fun hy => ?_, fun hy => ?_⟩
  · rw [h_tok hn hb hp hy (k1 := 0) rfl, brp rfl, show f_X9_isPlusOrMinus 108 S = some 0 from rfl, onS, brp rfl, brn (by decide), show f_X9_isRelation 108 S = some 0 from rfl, onS, brp rfl, hq]
    cases al <;> cases q <;> cases ng <;> rfl
  · rw [h_tok hn hb hp hy (k1 := 0) rfl, brp rfl, show f_X9_isPlusOrMinus 107 S = some 0 from rfl, onS, brp rfl, brn (by decide), show f_X9_isRelation 107 S = some 0 from rfl, onS, brp rfl, hq]
    cases al <;> cases q <;> cases ng <;> rfl
  · rw [h_tok hn hb hp hy (k1 := 0) rfl, brp rfl, show f_X9_isPlusOrMinus 59 S = some 0 from rfl, onS, brp rfl, brn (by decide), show f_X9_isRelation 59 S = some 0 from rfl, onS, brp rfl, hq]
    cases al <;> cases q <;> cases ng <;> rfl
end HO
