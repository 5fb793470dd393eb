theorem Ok.get {α : Type} {v : Option α} {Y : α} (h : Ok v (fun o => o = Y)) : v = some Y := by
  obtain ⟨x, e, rfl⟩ := h
  exact e
theorem zI1 {t l : Nat} (ht : t ≤ 3000) (hl : l ≤ 9) : (Int32.ofNat t - 1).toInt = (t : Int) - 1 ∧ (Int32.ofNat t - 1 - Int32.ofNat l).toInt = (t : Int) - 1 - l ∧ (Int32.ofNat t - 1 - Int32.ofNat l - 1).toInt = (t : Int) - 2 - l := by
  have e1 : (Int32.ofNat t - 1).toInt = (t : Int) - 1 := by
    rw [Int32.toInt_sub, zI (by omega)]
    show ((t : Int) - 1).bmod (2 ^ 32) = _
    rw [Int.bmod_def]; omega
  have e2 : (Int32.ofNat t - 1 - Int32.ofNat l).toInt = (t : Int) - 1 - l := by
    rw [Int32.toInt_sub, e1, zI (by omega)]
    show ((t : Int) - 1 - l).bmod (2 ^ 32) = _
    rw [Int.bmod_def]; omega
  refine ⟨e1, e2, ?_⟩
  rw [Int32.toInt_sub, e2]
  show ((t : Int) - 1 - l - 1).bmod (2 ^ 32) = _
  rw [Int.bmod_def]; omega
theorem Bc.fr {S S' : St} {G N hi : Nat} {B : Int32 → Nat → Int32} (h : Bc S G N hi B) (e14 : gi S' 14 G = gi S 14 G) (e15 : gi S' 15 G = gi S 15 G) (e16 : gi S' 16 G = gi S 16 G) (n15 : gn S' 15 G = gn S 15 G) : Bc S' G N hi B := by
  intro x s hs hx
  have := h x s hs hx
  have e : f_X0_at G (Int32.ofNat s) x S' = f_X0_at G (Int32.ofNat s) x S := by
    unfold f_X0_at
    rw [e14, e15, e16, n15]
  rw [e]; exact this
/-- what station a sees in hour t: own least most cost hour day since rose fell -/
def Wv (B : Int32 → Nat → Int32) (T : Nat → Int32) (N a t : Nat) (sc : Int32) (j : Nat) : Int32 := match j with
  | 0 => B (Int32.ofNat t - 1) a
  | 1 => if (ls (B (Int32.ofNat t - 1 - T (16 + a))) (B (Int32.ofNat t - 1 - T (16 + a) - 1)) a N).2.1 = -1 then B (Int32.ofNat t - 1) a else (ls (B (Int32.ofNat t - 1 - T (16 + a))) (B (Int32.ofNat t - 1 - T (16 + a) - 1)) a N).1
  | 2 => if (ls (B (Int32.ofNat t - 1 - T (16 + a))) (B (Int32.ofNat t - 1 - T (16 + a) - 1)) a N).2.1 = -1 then B (Int32.ofNat t - 1) a else (ls (B (Int32.ofNat t - 1 - T (16 + a))) (B (Int32.ofNat t - 1 - T (16 + a) - 1)) a N).2.1
  | 3 => T (8 + a)
  | 4 => rmI (Int32.ofNat t) 24
  | 5 => rmI (dvI (Int32.ofNat t) 24) 7
  | 6 => sc
  | 7 => (ls (B (Int32.ofNat t - 1 - T (16 + a))) (B (Int32.ofNat t - 1 - T (16 + a) - 1)) a N).2.2.1
  | _ => (ls (B (Int32.ofNat t - 1 - T (16 + a))) (B (Int32.ofNat t - 1 - T (16 + a) - 1)) a N).2.2.2
section LOOK
variable {S : St} {G N hi a t : Nat} {T : Nat → Int32} {B : Int32 → Nat → Int32} {sc : Int32}
theorem lo_loop (hB : Bc S G N hi B) (hN : N ≤ 4) (n0 : gi S 2 0 0 = Int32.ofNat N) (ha : a < N) {y : Int32} (hy : y.toInt < (hi : Int)) (hy1 : (y - 1).toInt < (hi : Int)) {K : Int32 → Int32 → Int32 → Int32 → St → Option St} : ∀ (r j n : Nat), j + r = N → r < n → f_X2_lookAtOthers_16 0 G (Int32.ofNat a) y K n (ls (B y) (B (y - 1)) a j).1 (ls (B y) (B (y - 1)) a j).2.1 (ls (B y) (B (y - 1)) a j).2.2.1 (ls (B y) (B (y - 1)) a j).2.2.2 (Int32.ofNat j) S = K (ls (B y) (B (y - 1)) a N).1 (ls (B y) (B (y - 1)) a N).2.1 (ls (B y) (B (y - 1)) a N).2.2.1 (ls (B y) (B (y - 1)) a N).2.2.2 S := by
  intro r
  induction r with
  | zero =>
    intro j n hj hn
    obtain ⟨n, rfl⟩ : ∃ m, n = m + 1 := ⟨n - 1, by omega⟩
    obtain rfl : j = N := by omega
    rw [f_X2_lookAtOthers_16, n0, brp ((zLE (by omega) (by omega)).mpr (Nat.le_refl _))]
  | succ r ih =>
    intro j n hj hn
    obtain ⟨n, rfl⟩ : ∃ m, n = m + 1 := ⟨n - 1, by omega⟩
    have ih' := ih (j + 1) n (by omega) (by omega)
    rw [f_X2_lookAtOthers_16, n0, brn (fun z => absurd ((zLE (by omega) (by omega)).mp z) (by omega))]
    simp only [bvbS]
    rw [ls] at ih'
    by_cases e : j = a
    · rw [if_pos e] at ih'
      rw [bvE, brp (by rw [e])]
      simp only [bvE]
      rw [zp1]
      exact ih'
    · rw [if_neg e] at ih'
      rw [bvE, brn (fun z => e ((zE (by omega) (by omega)).mp z)), (hB y j (by omega) hy).1, onS, (hB (y - 1) j (by omega) hy1).1, onS]
      simp only [bvE]
      rw [zp1]
      exact ih'
theorem e_look (hB : Bc S G N hi B) (hN : N ≤ 4) (n0 : gi S 2 0 0 = Int32.ofNat N) (ha : a < N) (h3 : gi S 3 0 a = T (8 + a)) (h4 : gi S 4 0 a = T (16 + a)) (hl : Lt 4 (T (16 + a))) (ht : t ≤ hi) (hh : hi ≤ 3000) : ∃ S', f_X2_look 0 G (Int32.ofNat a) (Int32.ofNat t) sc S = some S' ∧ Fr (fun k x => k = 27 ∧ x = 0) S S' ∧ ∀ j, j < 9 → gi S' 27 0 j = Wv B T N a t sc j := by
  obtain ⟨l, hl4, el⟩ := hl
  obtain ⟨z1, z2, z3⟩ := zI1 (t := t) (l := l) (by omega) (by omega)
  rw [← el] at z2 z3
  have bo := (hB (Int32.ofNat t - 1) a ha (by omega)).1
  have ba : inb (Int32.ofNat a) 4 = true := ib (by omega) (by omega)
  obtain ⟨A, hA⟩ : ∃ A, A = si (si (si (si (si S 27 0 0 (B (Int32.ofNat t - 1) a)) 27 0 3 (T (8 + a))) 27 0 4 (rmI (Int32.ofNat t) 24)) 27 0 5 (rmI (dvI (Int32.ofNat t) 24) 7)) 27 0 6 sc := ⟨_, rfl⟩
  have fA : Fr (fun k x => k = 27 ∧ x = 0) S A := by
    rw [hA]
    exact (Fr.si ⟨rfl, rfl⟩).tr ((Fr.si ⟨rfl, rfl⟩).tr ((Fr.si ⟨rfl, rfl⟩).tr ((Fr.si ⟨rfl, rfl⟩).tr (Fr.si ⟨rfl, rfl⟩))))
  have hBA : Bc A G N hi B := hB.fr (fA 14 G (by omega)).1 (fA 15 G (by omega)).1 (fA 16 G (by omega)).1 (fA 15 G (by omega)).2.2.2
  have n0A : gi A 2 0 0 = Int32.ofNat N := by rw [(fA 2 0 (by omega)).1]; exact n0
  have a27 : gi A 27 0 0 = B (Int32.ofNat t - 1) a := by rw [hA]; rfl
  generalize hy : Int32.ofNat t - 1 - T (16 + a) = y at z2 z3
  have w := lo_loop hBA hN n0A ha (y := y) (by omega) (by omega) (K := fun (x4_26 : Int32) (x5_27 : Int32) (x6_28 : Int32) (x7_29 : Int32) (S_30 : St) => bv (fun (v_31 : Int32) (S_32 : St) => bv (fun (v_34 : Int32) (S_35 : St) => ck (inb 1 9 = true) (bv (si S_35 27 0 (nn 1) v_34) (fun S_38 => bv (fun (v_39 : Int32) (S_40 : St) => ck (inb 2 9 = true) (bv (si S_40 27 0 (nn 2) v_39) (fun S_43 => ck (inb 7 9 = true) (bv (si S_43 27 0 (nn 7) x6_28) (fun S_45 => ck (inb 8 9 = true) (bv (si S_45 27 0 (nn 8) x7_29) (fun S_47 => some S_47))))))) (fun J_41 => br (v_31 = 0) (J_41 x5_27 S_38) (ck (inb 0 9 = true) (J_41 (gi S_38 27 0 (nn 0)) S_38)))))) (fun J_36 => br (v_31 = 0) (J_36 x4_26 S_32) (ck (inb 0 9 = true) (J_36 (gi S_32 27 0 (nn 0)) S_32)))) (fun J_33 => br (x5_27 = ((-1))) (J_33 1 S_30) (J_33 0 S_30))) N 0 FU (by omega) (by unfold FU; omega)
  have lk : ∀ S9, f_X2_lookAtOthers 0 G (Int32.ofNat a) y A = some S9 → f_X2_look 0 G (Int32.ofNat a) (Int32.ofNat t) sc S = some S9 := by
    intro S9 e9
    unfold f_X2_look
    rw [bo, onS, ck_t (by decide), bvE, ck_t ba, ck_t (by decide), zN (show a < 2147483648 by omega), show gi (si S 27 0 (nn 0) (B (Int32.ofNat t - 1) a)) 3 0 a = T (8 + a) from h3, bvE, bvE, ck_t (by decide), bvE, bvE, bvE, ck_t (by decide), bvE, ck_t (by decide), bvE, ck_t ba]
    have e4 : gi A 4 0 a = T (16 + a) := by rw [(fA 4 0 (by omega)).1]; exact h4
    have eA : si (si (si (si (si S 27 0 (nn 0) (B (Int32.ofNat t - 1) a)) 27 0 (nn 3) (T (8 + a))) 27 0 (nn 4) (rmI (Int32.ofNat t) 24)) 27 0 (nn 5) (rmI (dvI (Int32.ofNat t) 24) 7)) 27 0 (nn 6) sc = A := by rw [hA]; rfl
    rw [eA, e4, hy, e9]; rfl
  have W1 : ∀ j, Wv B T N a t sc j = match j with
    | 0 => B (Int32.ofNat t - 1) a
    | 1 => if (ls (B y) (B (y - 1)) a N).2.1 = -1 then B (Int32.ofNat t - 1) a else (ls (B y) (B (y - 1)) a N).1
    | 2 => if (ls (B y) (B (y - 1)) a N).2.1 = -1 then B (Int32.ofNat t - 1) a else (ls (B y) (B (y - 1)) a N).2.1
    | 3 => T (8 + a)
    | 4 => rmI (Int32.ofNat t) 24
    | 5 => rmI (dvI (Int32.ofNat t) 24) 7
    | 6 => sc
    | 7 => (ls (B y) (B (y - 1)) a N).2.2.1
    | _ => (ls (B y) (B (y - 1)) a N).2.2.2 := fun j => by rw [← hy]; rfl
  refine ⟨si (si (si (si A 27 0 1 (Wv B T N a t sc 1)) 27 0 2 (Wv B T N a t sc 2)) 27 0 7 (ls (B y) (B (y - 1)) a N).2.2.1) 27 0 8 (ls (B y) (B (y - 1)) a N).2.2.2, lk _ ?_, ?_, fun j hj => ?_⟩
  · unfold f_X2_lookAtOthers
    refine w.trans ?_
    have w1 := W1 1
    have w2 := W1 2
    rw [w1, w2]
    by_cases e : (ls (B y) (B (y - 1)) a N).2.1 = -1
    · rw [if_pos e, if_pos e]
      refine Ok.get (Ok.v (Ok.bt e (Ok.v (Ok.bf (by decide) (Ok.c (by decide) (Ok.c (by decide) (Ok.v (Ok.v (Ok.bf (by decide) (Ok.c (by decide) (Ok.c (by decide) (Ok.v (Ok.c (by decide) (Ok.v (Ok.c (by decide) (Ok.v (Ok.sm ?_)))))))))))))))))
      rw [← a27]; rfl
    · rw [if_neg e, if_neg e]
      exact Ok.get (Ok.v (Ok.bf e (Ok.v (Ok.bt rfl (Ok.c (by decide) (Ok.v (Ok.v (Ok.bt rfl (Ok.c (by decide) (Ok.v (Ok.c (by decide) (Ok.v (Ok.c (by decide) (Ok.v (Ok.sm rfl)))))))))))))))
  · exact fA.tr ((Fr.si ⟨rfl, rfl⟩).tr ((Fr.si ⟨rfl, rfl⟩).tr ((Fr.si ⟨rfl, rfl⟩).tr (Fr.si ⟨rfl, rfl⟩))))
  · rw [hA]
    rcases (show j = 0 ∨ j = 1 ∨ j = 2 ∨ j = 3 ∨ j = 4 ∨ j = 5 ∨ j = 6 ∨ j = 7 ∨ j = 8 by omega) with rfl | rfl | rfl | rfl | rfl | rfl | rfl | rfl | rfl
    · rfl
    · rfl
    · rfl
    · rfl
    · rfl
    · rfl
    · rfl
    · rw [W1 7]; rfl
    · rw [W1 8]; rfl
end LOOK
