section
-- THE REFERENCE'S RULES, as a whole
theorem D2_z {Z : St} {fr r : Nat → Int32} {j : Nat} {v : Int32} : D2 (si Z 60 0 j v) fr r = D2 Z fr r := by
  unfold D2 si
  rw [ai_comm (k := 60) (k' := 67) (by decide), ai_ai]
theorem D2_61 {Z : St} {fr r X : Nat → Int32} : ai (D2 Z fr r) 61 0 X = D2 (ai Z 61 0 X) fr r := by
  unfold D2
  rw [ai_comm (k := 60) (by decide), ai_comm (k := 67) (by decide)]
/-- told, with the rules rs of station s -/
def rT (T : Nat → Int32) (s : Nat) (rs : List Ru) : Nat → Int32 := fun j => if 125 + 440 * s ≤ j ∧ j < 125 + 440 * s + ((cdRs rs).length + 1) then (Int32.ofNat rs.length :: cdRs rs).getD (j - (125 + 440 * s)) 0 else T j
theorem ref_all {Z : St} {c : Nat → Nat} {N s n N0 : Nat} (n0 : gi Z 61 0 0 = Int32.ofNat N) (b0 : N ≤ 4) (hs : s < N) (h9 : gi Z 60 0 9 = Int32.ofNat N0) (hn : n ≤ N0) (hN : N0 ≤ 400) (h : Tpr Z c n) : ∃ fr r, (∀ j, (j < 9 ∧ j ≠ 5) ∨ 22 ≤ j → r j = gi Z 60 0 j) ∧ r 5 = 0 ∧ r 9 = 0 ∧ ((∃ k pl, k ≠ 0 ∧ k ≤ 4 ∧ mach c n true 401 0 0 [] [] 0 = some (.inl (k, pl)) ∧ r 18 = Int32.ofNat k ∧ r 19 = Int32.ofNat pl ∧ f_X12_rules 0 (Int32.ofNat s) (Int32.ofNat n) Z = some (-10 - Int32.ofNat k, D2 Z fr r)) ∨ ∃ rs, rs.length ≤ 12 ∧ (∀ x ∈ rs, okR x) ∧ (cdRs rs).length < 440 - 1 ∧ mach c n true 401 0 0 [] [] 0 = some (.inr (tkRs rs, stR 0 rs)) ∧ r 18 = 0 ∧ r 19 = -1 ∧ f_X12_rules 0 (Int32.ofNat s) (Int32.ofNat n) Z = some (Int32.ofNat rs.length, D2 (ai Z 61 0 (rT (gi Z 61 0) s rs)) fr r)) := by
  have F : FU = 100000 := rfl
  have h' : Tpr (si Z 60 0 5 0) c n := h
  obtain ⟨fr, r, eK, e1, e2, e3⟩ := ref_rules h' (x1 := Int32.ofNat s)
  have r5 : r 5 = 0 := (e1 5 (by omega)).trans rfl
  have rj : ∀ j, (j < 9 ∧ j ≠ 5) ∨ 22 ≤ j → r j = gi Z 60 0 j := fun j hj => by
    rw [e1 j (by omega)]
    show upd (gi Z 60 0) 5 0 j = _
    rw [upd_ne (by omega)]
  have hv : (0 : Int32) ≤ Int32.ofNat n ∧ Int32.ofNat n ≤ gi Z 60 0 9 := ⟨zGe (by omega), by rw [h9]; exact (zLE (by omega) (by omega)).mpr hn⟩
  have pre : ∀ X, (∀ v, X = v → on (f_X12_starts 0 (Int32.ofNat n) (si Z 60 0 5 0)) (fun S_9 => ck (inb 0 440 = true) (bv (si S_9 67 0 (nn 0) 0) (fun S_11 => bv (si S_11 60 0 20 1) (fun S_12 => f_X12_rules_56 0 (Int32.ofNat s) (fun  (S_17 : St) => bv (fun  (S_18 : St) => ck (inb 0 440 = true) (on2 (f_X12_ends 0 (gi S_18 67 0 (nn 0)) S_18) (fun r_23 S_22 => some (r_23, S_22)))) (fun J_19 => br ((gi S_17 60 0 16) = 0) (f_X12_rules_86 0 (Int32.ofNat s) (fun  (S_30 : St) => J_19 S_30) FU 0 S_17) (J_19 S_17))) FU S_12)))) = v) → f_X12_rules 0 (Int32.ofNat s) (Int32.ofNat n) Z = X := by
    intro X hX
    unfold f_X12_rules
    rw [bvN, m_sty (S := si Z 60 0 5 0) n0 b0 hs, onS, brn (by decide), show gi (si Z 60 0 5 0) 60 0 9 = gi Z 60 0 9 from rfl, m_wy (S := si Z 60 0 5 0) (a := 0) (b := (gi Z 60 0 9).toInt64) (lo := 0) (hi := gi Z 60 0 9) (by decide) rfl hv, onS, brn (by decide)]
    exact hX X rfl
  rcases e3 with ⟨k, pl, a1, a2⟩ | ⟨rs, a1, a2, a3, a4, a5, a6, a7⟩
  · refine ⟨fr, upd (upd r 18 (r 16)) 19 (r 17), fun j hj => by rw [upd_ne (by omega), upd_ne (by omega)]; exact rj j hj, by rw [upd_ne (by decide), upd_ne (by decide)]; exact r5, by rw [upd_ne (by decide), upd_ne (by decide)]; exact e2, Or.inl ⟨k, pl, a1.1, a1.2.1, a2, by rw [upd_ne (by decide), upd_eq]; exact a1.2.2.1, by rw [upd_eq]; exact a1.2.2.2.1, pre _ (fun v hv9 => ?_)⟩⟩
    rw [eK]
    simp only [bvN, D2_g]
    rw [brn a1.n, ck_t (by decide), e_ends.2 a1.n, on2S, ← hv9, a1.2.2.1, D2_z]
  · refine ⟨fr, upd (upd r 18 (r 16)) 19 (-1), fun j hj => by rw [upd_ne (by omega), upd_ne (by omega)]; exact rj j hj, by rw [upd_ne (by decide), upd_ne (by decide)]; exact r5, by rw [upd_ne (by decide), upd_ne (by decide)]; exact e2, Or.inr ⟨rs, a1, a2, a5, a7, by rw [upd_ne (by decide), upd_eq]; exact a3, upd_eq, pre _ (fun v hv9 => ?_)⟩⟩
    have w := ru86 (s := s) (L := (cdRs rs).length + 1) (by omega) (by omega) (K := fun (S_30 : St) => ck (inb 0 440 = true) (on2 (f_X12_ends 0 (gi S_30 67 0 (nn 0)) S_30) (fun r_23 S_22 => some (r_23, S_22)))) FU 0 (D2 (si Z 60 0 5 0) fr r) (by omega) (by omega) (by rw [D2_g]; exact a4)
    rw [show Int32.ofNat 0 = (0 : Int32) from rfl] at w
    rw [eK]
    simp only [bvN, D2_g]
    rw [brp a3, w, ck_t (by decide), D2_61, e_ends.1 a3, on2S, ← hv9]
    have f0 : fr (nn 0) = Int32.ofNat rs.length := a6 0 (by omega)
    rw [D2_h, f0]
    congr 2
    have eX : ∀ X : Nat → Int32, ai (si Z 60 0 5 0) 61 0 X = si (ai Z 61 0 X) 60 0 5 0 := fun X => by
      unfold si
      rw [ai_comm (by decide)]; rfl
    rw [eX, D2_z]
    congr 1
    refine ai_ext (fun j => ?_)
    unfold rT
    by_cases e : 125 + 440 * s ≤ j ∧ j < 125 + 440 * s + ((cdRs rs).length + 1)
    · rw [if_pos (by omega), if_pos e, D2_h, a6 _ (by omega)]
    · rw [if_neg (by omega), if_neg e]; rfl
end
