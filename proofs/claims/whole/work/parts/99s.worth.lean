-- THE SAME, BY THE REFERENCE
theorem ls_nx {P Q : Nat → Int32} {a j : Nat} (hP : ∀ s, s < j + 1 → Pr (P s)) (e : j ≠ a) : (ls P Q a (j + 1)).2.1 ≠ -1 := by
  have h := (ls_mn (Q := Q) (a := a) hP).2
  rw [ls, if_neg e]
  show mxI (ls P Q a j).2.1 (P j) ≠ -1
  rw [← h]
  by_cases e1 : (ls P Q a j).2.1 = -1
  · rw [if_pos e1]; exact Pr_n (hP j (by omega))
  · rw [if_neg e1]
    split
    · exact e1
    · exact Pr_n (hP j (by omega))
section WO
variable {Z : St} {N hi a t : Nat} {T : Nat → Int32} {B : Int32 → Nat → Int32} {sc m : Int32}
theorem e_least (hB : Br T m N hi B) (hP : ∀ (x : Int32) (s : Nat), s < N → x.toInt < (hi : Int) → Pr (B x s)) (eT : gi Z 61 0 = T) (em : gi Z 60 0 23 = m) (n0 : T 0 = Int32.ofNat N) (hN : N ≤ 4) (ha : a < N) (hl : Lt 4 (T (16 + a))) (ht : t ≤ hi) (hh : hi ≤ 3000) : f_X12_least 0 (Int32.ofNat a) (Int32.ofNat t) 0 Z = some (Wv B T N a t sc 1) ∧ f_X12_least 0 (Int32.ofNat a) (Int32.ofNat t) 1 Z = some (Wv B T N a t sc 2) := by
  obtain ⟨l, hl4, el⟩ := hl
  obtain ⟨z1, z2, z3⟩ := zI1 (t := t) (l := l) (by omega) (by omega)
  rw [← el] at z2 z3
  have bo := hB Z eT em (Int32.ofNat t - 1) a ha (by omega)
  have W1 : Wv B T N a t sc 1 = if (ls (B (Int32.ofNat t - 1 - T (16 + a))) (B (Int32.ofNat t - 1 - T (16 + a) - 1)) a N).2.1 = -1 then B (Int32.ofNat t - 1) a else (ls (B (Int32.ofNat t - 1 - T (16 + a))) (B (Int32.ofNat t - 1 - T (16 + a) - 1)) a N).1 := rfl
  have W2 : Wv B T N a t sc 2 = if (ls (B (Int32.ofNat t - 1 - T (16 + a))) (B (Int32.ofNat t - 1 - T (16 + a) - 1)) a N).2.1 = -1 then B (Int32.ofNat t - 1) a else (ls (B (Int32.ofNat t - 1 - T (16 + a))) (B (Int32.ofNat t - 1 - T (16 + a) - 1)) a N).2.1 := rfl
  rw [W1, W2]
  have e16 : gi Z 61 0 (nn (16 + Int32.ofNat a)) = T (16 + a) := by rw [nA (by omega), eT]
  have b16 : inb (16 + Int32.ofNat a) 3179 = true := ibA (by omega) (by omega)
  have e0 : gi Z 61 0 (nn 0) = Int32.ofNat N := by rw [eT]; exact n0
  generalize hy : Int32.ofNat t - 1 - T (16 + a) = y at z2 z3
  have hPy : ∀ s, s < N → Pr (B y s) := fun s hs => hP y s hs (by omega)
  have lp : ∀ (K : Int32 → Option Int32) (r j n : Nat), j + r = N → r < n → f_X12_least_6 0 (Int32.ofNat a) (Int32.ofNat t) 0 Z K n (if (ls (B y) (B (y - 1)) a j).2.1 = -1 then -1 else (ls (B y) (B (y - 1)) a j).1) (Int32.ofNat j) = K (if (ls (B y) (B (y - 1)) a N).2.1 = -1 then -1 else (ls (B y) (B (y - 1)) a N).1) ∧ f_X12_least_6 0 (Int32.ofNat a) (Int32.ofNat t) 1 Z K n (ls (B y) (B (y - 1)) a j).2.1 (Int32.ofNat j) = K (ls (B y) (B (y - 1)) a N).2.1 := by
    intro K r
    induction r with
    | zero =>
      intro j n hj hn
      obtain ⟨n, rfl⟩ : ∃ m, n = m + 1 := ⟨n - 1, by omega⟩
      obtain rfl : j = N := by omega
      rw [f_X12_least_6, f_X12_least_6, ck_t (by decide), ck_t (by decide), e0, brp ((zLE (by omega) (by omega)).mpr (Nat.le_refl _)), brp ((zLE (by omega) (by omega)).mpr (Nat.le_refl _))]
      exact ⟨rfl, rfl⟩
    | succ r ih =>
      intro j n hj hn
      obtain ⟨n, rfl⟩ : ∃ m, n = m + 1 := ⟨n - 1, by omega⟩
      obtain ⟨i1, i2⟩ := ih (j + 1) n (by omega) (by omega)
      have nb : ¬ Int32.ofNat N ≤ Int32.ofNat j := fun z => absurd ((zLE (by omega) (by omega)).mp z) (by omega)
      have sn := hB Z eT em y j (by omega) (by omega)
      rw [f_X12_least_6, f_X12_least_6, ck_t (by decide), ck_t (by decide), e0, brn nb, brn nb]
      simp only [bvE, onS, zp1, ck_t b16, e16, hy, sn]
      by_cases e : j = a
      · rw [ls, if_pos e] at i1 i2
        have ej : Int32.ofNat j = Int32.ofNat a := by rw [e]
        rw [brp ej, brp ej]
        exact ⟨i1, i2⟩
      · have nj : ¬ Int32.ofNat j = Int32.ofNat a := fun z => e ((zE (by omega) (by omega)).mp z)
        obtain ⟨m1, m2⟩ := ls_mn (P := B y) (Q := B (y - 1)) (a := a) (j := j) (fun s hs => hPy s (by omega))
        rw [if_neg (ls_nx (P := B y) (Q := B (y - 1)) (fun s hs => hPy s (by omega)) e)] at i1
        rw [ls, if_neg e] at i1 i2
        have i1 : f_X12_least_6 0 (Int32.ofNat a) (Int32.ofNat t) 0 Z K n (mnI (ls (B y) (B (y - 1)) a j).1 (B y j)) (Int32.ofNat (j + 1)) = _ := i1
        have i2 : f_X12_least_6 0 (Int32.ofNat a) (Int32.ofNat t) 1 Z K n (mxI (ls (B y) (B (y - 1)) a j).2.1 (B y j)) (Int32.ofNat (j + 1)) = _ := i2
        rw [← m1] at i1
        rw [← m2] at i2
        rw [brn nj, brn nj]
        by_cases e1 : (ls (B y) (B (y - 1)) a j).2.1 = -1
        · rw [if_pos e1] at i1 i2
          rw [if_pos e1, brp rfl, brp e1]
          exact ⟨i1, i2⟩
        · rw [if_neg e1] at i1 i2
          rw [if_neg e1, brn e1, brp trivial, brn (show ¬ (1 : Int32) = 0 by decide)]
          have nl : (ls (B y) (B (y - 1)) a j).1 ≠ -1 := by
            rcases ls_inv (P := B y) (Q := B (y - 1)) (a := a) j (fun s hs => hPy s (by omega)) with ⟨q1, q2⟩ | ⟨q1, q2⟩
            · exact absurd q2 e1
            · exact Pr_n q1
          rw [brn nl]
          refine ⟨?_, ?_⟩
          · by_cases e2 : (ls (B y) (B (y - 1)) a j).1 ≤ B y j
            · rw [if_pos e2] at i1; rw [brp e2]; exact i1
            · rw [if_neg e2] at i1; rw [brn e2]; exact i1
          · by_cases e2 : B y j ≤ (ls (B y) (B (y - 1)) a j).2.1
            · rw [if_pos e2] at i2; rw [brp e2]; exact i2
            · rw [if_neg e2] at i2; rw [brn e2]; exact i2
  have fin := lp (fun (x4_15 : Int32) => bv (fun (v_16 : Int32) => some v_16) (fun J_17 => br (x4_15 = ((-1))) (on (f_X12_seen 0 (Int32.ofNat a) (Int32.ofNat t - 1) Z) (fun r_20 => J_17 r_20)) (J_17 x4_15))) N 0 FU (by omega) (by unfold FU; omega)
  unfold f_X12_least
  refine ⟨fin.1.trans ?_, fin.2.trans ?_⟩
  · by_cases e : (ls (B y) (B (y - 1)) a N).2.1 = -1
    · rw [if_pos e, if_pos e]
      exact Ok.get (Ok.v (Ok.bt rfl (Ok.oe bo (Ok.sm rfl))))
    · rw [if_neg e, if_neg e]
      refine Ok.get (Ok.v (Ok.bf ?_ (Ok.sm rfl)))
      rcases ls_inv (P := B y) (Q := B (y - 1)) (a := a) N hPy with ⟨q1, q2⟩ | ⟨q1, q2⟩
      · exact absurd q2 e
      · exact Pr_n q1
  · by_cases e : (ls (B y) (B (y - 1)) a N).2.1 = -1
    · rw [if_pos e]
      exact Ok.get (Ok.v (Ok.bt e (Ok.oe bo (Ok.sm rfl))))
    · rw [if_neg e]
      exact Ok.get (Ok.v (Ok.bf e (Ok.sm rfl)))
theorem e_moved (hB : Br T m N hi B) (eT : gi Z 61 0 = T) (em : gi Z 60 0 23 = m) (n0 : T 0 = Int32.ofNat N) (hN : N ≤ 4) (ha : a < N) (hl : Lt 4 (T (16 + a))) (ht : t ≤ hi) (hh : hi ≤ 3000) : f_X12_moved 0 (Int32.ofNat a) (Int32.ofNat t) 1 Z = some (Wv B T N a t sc 7) ∧ f_X12_moved 0 (Int32.ofNat a) (Int32.ofNat t) 0 Z = some (Wv B T N a t sc 8) := by
  obtain ⟨l, hl4, el⟩ := hl
  obtain ⟨z1, z2, z3⟩ := zI1 (t := t) (l := l) (by omega) (by omega)
  rw [← el] at z2 z3
  have W7 : Wv B T N a t sc 7 = (ls (B (Int32.ofNat t - 1 - T (16 + a))) (B (Int32.ofNat t - 1 - T (16 + a) - 1)) a N).2.2.1 := rfl
  have W8 : Wv B T N a t sc 8 = (ls (B (Int32.ofNat t - 1 - T (16 + a))) (B (Int32.ofNat t - 1 - T (16 + a) - 1)) a N).2.2.2 := rfl
  rw [W7, W8]
  have e16 : gi Z 61 0 (nn (16 + Int32.ofNat a)) = T (16 + a) := by rw [nA (by omega), eT]
  have e0 : gi Z 61 0 (nn 0) = Int32.ofNat N := by rw [eT]; exact n0
  unfold f_X12_moved
  rw [ck_t (ibA (by omega) (by omega)), ck_t (ibA (by omega) (by omega)), bvE, bvE, e16]
  generalize Int32.ofNat t - 1 - T (16 + a) = y at z2 z3
  have lp : ∀ (K : Int32 → Option Int32) (r j n : Nat), j + r = N → r < n → f_X12_moved_21 0 (Int32.ofNat a) 1 y Z K n (ls (B y) (B (y - 1)) a j).2.2.1 (Int32.ofNat j) = K (ls (B y) (B (y - 1)) a N).2.2.1 ∧ f_X12_moved_21 0 (Int32.ofNat a) 0 y Z K n (ls (B y) (B (y - 1)) a j).2.2.2 (Int32.ofNat j) = K (ls (B y) (B (y - 1)) a N).2.2.2 := by
    intro K r
    induction r with
    | zero =>
      intro j n hj hn
      obtain ⟨n, rfl⟩ : ∃ m, n = m + 1 := ⟨n - 1, by omega⟩
      obtain rfl : j = N := by omega
      rw [f_X12_moved_21, f_X12_moved_21, ck_t (by decide), ck_t (by decide), e0, brp ((zLE (by omega) (by omega)).mpr (Nat.le_refl _)), brp ((zLE (by omega) (by omega)).mpr (Nat.le_refl _))]
      exact ⟨rfl, rfl⟩
    | succ r ih =>
      intro j n hj hn
      obtain ⟨n, rfl⟩ : ∃ m, n = m + 1 := ⟨n - 1, by omega⟩
      obtain ⟨i1, i2⟩ := ih (j + 1) n (by omega) (by omega)
      have nb : ¬ Int32.ofNat N ≤ Int32.ofNat j := fun z => absurd ((zLE (by omega) (by omega)).mp z) (by omega)
      have sn := hB Z eT em y j (by omega) (by omega)
      have sn1 := hB Z eT em (y - 1) j (by omega) (by omega)
      rw [f_X12_moved_21, f_X12_moved_21, ck_t (by decide), ck_t (by decide), e0, brn nb, brn nb]
      simp only [bvE, onS, zp1, sn, sn1]
      by_cases e : j = a
      · rw [ls, if_pos e] at i1 i2
        have ej : Int32.ofNat j = Int32.ofNat a := by rw [e]
        rw [brp ej, brp ej]
        exact ⟨i1, i2⟩
      · have nj : ¬ Int32.ofNat j = Int32.ofNat a := fun z => e ((zE (by omega) (by omega)).mp z)
        rw [ls, if_neg e] at i1 i2
        have i1 : f_X12_moved_21 0 (Int32.ofNat a) 1 y Z K n ((ls (B y) (B (y - 1)) a j).2.2.1 + (if B y j ≤ B (y - 1) j then 0 else 1)) (Int32.ofNat (j + 1)) = _ := i1
        have i2 : f_X12_moved_21 0 (Int32.ofNat a) 0 y Z K n ((ls (B y) (B (y - 1)) a j).2.2.2 + (if B (y - 1) j ≤ B y j then 0 else 1)) (Int32.ofNat (j + 1)) = _ := i2
        rw [brn nj, brn nj]
        refine ⟨?_, ?_⟩
        · refine Eq.trans (brn (show ¬ (1 : Int32) = 0 by decide)) ?_
          by_cases e2 : B y j ≤ B (y - 1) j
          · rw [if_pos e2, Int32.add_zero] at i1; rw [brp e2]; exact i1
          · rw [if_neg e2] at i1; rw [brn e2]; exact i1
        · refine Eq.trans (brp trivial) ?_
          by_cases e2 : B (y - 1) j ≤ B y j
          · rw [if_pos e2, Int32.add_zero] at i2; rw [brp e2]; exact i2
          · rw [if_neg e2] at i2; rw [brn e2]; exact i2
  exact lp (fun x => some x) N 0 FU (by omega) (by unfold FU; omega)
/-- the value of a term -/
def vl (W : Nat → Int32) (c : Nat) : Int32 := if c < 100 then Int32.ofNat c else W (c - 100)
theorem e_worth (hB : Br T m N hi B) (hP : ∀ (x : Int32) (s : Nat), s < N → x.toInt < (hi : Int) → Pr (B x s)) (eT : gi Z 61 0 = T) (em : gi Z 60 0 23 = m) (n0 : T 0 = Int32.ofNat N) (hN : N ≤ 4) (ha : a < N) (hl : Lt 4 (T (16 + a))) (ht : t ≤ hi) (hh : hi ≤ 3000) (hs : f_X12_sinceAt 0 (Int32.ofNat a) (Int32.ofNat t) Z = some sc) {c : Nat} (hc : c < 109) : f_X12_worth 0 (Int32.ofNat c) (Int32.ofNat a) (Int32.ofNat t) Z = some (vl (Wv B T N a t sc) c) := by
  obtain ⟨l1, l2⟩ := e_least (sc := sc) hB hP eT em n0 hN ha hl ht hh
  obtain ⟨v1, v2⟩ := e_moved (sc := sc) hB eT em n0 hN ha hl ht hh
  have bo := hB Z eT em (Int32.ofNat t - 1) a ha (by have := (zI1 (t := t) (l := 0) (by omega) (by omega)).1; omega)
  have e8 : gi Z 61 0 (nn (8 + Int32.ofNat a)) = T (8 + a) := by rw [nA (by omega), eT]
  have b8 : inb (8 + Int32.ofNat a) 3179 = true := ibA (by omega) (by omega)
  unfold f_X12_worth vl
  by_cases h : c < 100
  · have n : ∀ d : Nat, 100 ≤ d → d < 200 → ¬ Int32.ofNat c = Int32.ofNat d := fun d h1 h2 z => absurd ((zE (by omega) (by omega)).mp z) (by omega)
    rw [if_pos h]
    exact Ok.get (Ok.bf (n 100 (by omega) (by omega)) (Ok.bf (n 101 (by omega) (by omega)) (Ok.bf (n 102 (by omega) (by omega)) (Ok.bf (n 103 (by omega) (by omega)) (Ok.bf (n 104 (by omega) (by omega)) (Ok.bf (n 105 (by omega) (by omega)) (Ok.bf (n 106 (by omega) (by omega)) (Ok.bf (n 107 (by omega) (by omega)) (Ok.bf (n 108 (by omega) (by omega)) (Ok.sm rfl))))))))))
  · rw [if_neg h]
    rcases (show c = 100 ∨ c = 101 ∨ c = 102 ∨ c = 103 ∨ c = 104 ∨ c = 105 ∨ c = 106 ∨ c = 107 ∨ c = 108 by omega) with rfl | rfl | rfl | rfl | rfl | rfl | rfl | rfl | rfl
    · exact Ok.get (Ok.bt (by decide) (Ok.oe bo (Ok.sm rfl)))
    · exact Ok.get (Ok.bf (by decide) (Ok.bt (by decide) (Ok.oe l1 (Ok.sm rfl))))
    · exact Ok.get (Ok.bf (by decide) (Ok.bf (by decide) (Ok.bt (by decide) (Ok.oe l2 (Ok.sm rfl)))))
    · exact Ok.get (Ok.bf (by decide) (Ok.bf (by decide) (Ok.bf (by decide) (Ok.bt (by decide) (Ok.c b8 (Ok.sm e8))))))
    · exact Ok.get (Ok.bf (by decide) (Ok.bf (by decide) (Ok.bf (by decide) (Ok.bf (by decide) (Ok.bt (by decide) (Ok.v (Ok.sm rfl)))))))
    · exact Ok.get (Ok.bf (by decide) (Ok.bf (by decide) (Ok.bf (by decide) (Ok.bf (by decide) (Ok.bf (by decide) (Ok.bt (by decide) (Ok.v (Ok.v (Ok.sm rfl)))))))))
    · exact Ok.get (Ok.bf (by decide) (Ok.bf (by decide) (Ok.bf (by decide) (Ok.bf (by decide) (Ok.bf (by decide) (Ok.bf (by decide) (Ok.bt (by decide) (Ok.oe hs (Ok.sm rfl)))))))))
    · exact Ok.get (Ok.bf (by decide) (Ok.bf (by decide) (Ok.bf (by decide) (Ok.bf (by decide) (Ok.bf (by decide) (Ok.bf (by decide) (Ok.bf (by decide) (Ok.bt (by decide) (Ok.oe v1 (Ok.sm rfl))))))))))
    · exact Ok.get (Ok.bf (by decide) (Ok.bf (by decide) (Ok.bf (by decide) (Ok.bf (by decide) (Ok.bf (by decide) (Ok.bf (by decide) (Ok.bf (by decide) (Ok.bf (by decide) (Ok.bt (by decide) (Ok.oe v2 (Ok.sm rfl)))))))))))
end WO
