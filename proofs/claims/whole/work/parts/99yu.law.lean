section
-- CASE law
theorem la104 {x2 : Int32} {K : St → Option (Int32 × St)} : ∀ (n k : Nat) (S : St), k ≤ 5 → 5 - k < n → f_X12_law_104 0 x2 K n (Int32.ofNat k) S = K (ai S 61 0 (fun j => if 120 + k ≤ j ∧ j < 125 then gi S 68 0 (j - 120) else gi S 61 0 j)) := by
  intro n
  induction n with
  | zero => intro k S _ h; omega
  | succ n ih =>
    intro k S hk hn
    rw [f_X12_law_104]
    by_cases hc : 5 ≤ k
    · rw [brp (show (5 : Int32) ≤ Int32.ofNat k from (zLE (a := 5) (by omega) (by omega)).mpr hc), ai_ext (f' := gi S 61 0) (fun j => if_neg (by omega)), ai_self]
    · rw [brn (show ¬ (5 : Int32) ≤ Int32.ofNat k from fun w => hc ((zLE (a := 5) (by omega) (by omega)).mp w)), ck_t (ib (by omega) (by omega)), zA, ck_t (ib (by omega) (by omega)), zN (by omega), zN (by omega), bvN, bvN, zp1, ih (k + 1) (si S 61 0 (120 + k) (gi S 68 0 k)) (by omega) (by omega)]
      show K (ai (ai S 61 0 (upd (gi S 61 0) (120 + k) (gi S 68 0 k))) 61 0 (fun j => if 120 + (k + 1) ≤ j ∧ j < 125 then gi S 68 0 (j - 120) else upd (gi S 61 0) (120 + k) (gi S 68 0 k) j)) = _
      rw [ai_ai]
      congr 1
      refine ai_ext (fun j => ?_)
      by_cases e : j = 120 + k
      · subst e
        rw [if_neg (by omega), upd_eq, if_pos (by omega), show 120 + k - 120 = k by omega]
      · rw [upd_ne e]
        by_cases e2 : 120 + (k + 1) ≤ j ∧ j < 125
        · rw [if_pos e2, if_pos (by omega)]
        · rw [if_neg e2, if_neg (by omega)]
theorem L2_D {Z : St} {fl r : Nat → Int32} : L2 Z fl r = D2 (ai Z 68 0 fl) (gi (ai Z 68 0 fl) 67 0) r := by
  unfold L2 D2; rw [ai_self]
theorem L2_z {Z : St} {fl r : Nat → Int32} {j : Nat} {v : Int32} : L2 (si Z 60 0 j v) fl r = L2 Z fl r := by
  unfold L2 si
  rw [ai_comm (k := 60) (k' := 68) (by decide), ai_ai]
theorem L2_61 {Z : St} {fl r X : Nat → Int32} : ai (L2 Z fl r) 61 0 X = L2 (ai Z 61 0 X) fl r := by
  unfold L2
  rw [ai_comm (k := 60) (by decide), ai_comm (k := 68) (by decide)]
theorem e_endl {Z : St} {fl r : Nat → Int32} {v : Int32} : (r 16 = 0 → f_X12_ends 0 v (L2 Z fl r) = some (v, L2 Z fl (upd (upd r 18 (r 16)) 19 (-1)))) ∧ (¬ r 16 = 0 → f_X12_ends 0 v (L2 Z fl r) = some (-10 - r 16, L2 Z fl (upd (upd r 18 (r 16)) 19 (r 17)))) := by
  rw [L2_D, L2_D, L2_D]; exact e_ends
theorem L2_f {Z : St} {fl r : Nat → Int32} : Fr (fun k x => (k = 60 ∨ k = 68) ∧ x = 0) Z (L2 Z fl r) := by
  unfold L2
  exact (Fr.ai ⟨by omega, rfl⟩).tr (Fr.ai ⟨by omega, rfl⟩)
/-- told, with a law -/
def lT (T fl : Nat → Int32) : Nat → Int32 := fun j => if 120 ≤ j ∧ j < 125 then fl (j - 120) else T j
/-- a law with nothing in it -/
def fl0 (f : Nat → Int32) : Nat → Int32 := upd (upd (upd (upd (upd f 0 (-1)) 1 0) 2 (-1)) 3 0) 4 0
theorem ref_law {Z : St} {c : Nat → Nat} {n N0 : Nat} (h9 : gi Z 60 0 9 = Int32.ofNat N0) (hn : n ≤ N0) (hN : N0 ≤ 400) (h : Tpr Z c n) : ∃ fl r, (∀ j, (j < 9 ∧ j ≠ 5) ∨ 22 ≤ j → r j = gi Z 60 0 j) ∧ r 5 = 0 ∧ r 9 = 0 ∧ ((∃ k pl, k ≠ 0 ∧ k ≤ 4 ∧ mach c n false 401 0 0 [] [] 0 = some (.inl (k, pl)) ∧ r 18 = Int32.ofNat k ∧ r 19 = Int32.ofNat pl ∧ f_X12_law 0 (Int32.ofNat n) Z = some (-10 - Int32.ofNat k, L2 Z fl r)) ∨ ∃ (ls : List (Nat × Nat)) (us : List Nat), (∀ l ∈ ls, okL l) ∧ fl = ls.foldl stepL (fl0 (gi Z 68 0)) ∧ mach c n false 401 0 0 [] [] 0 = some (.inr (ls.flatMap tkLn, us)) ∧ r 18 = 0 ∧ r 19 = -1 ∧ f_X12_law 0 (Int32.ofNat n) Z = some (Int32.ofNat us.length, L2 (ai Z 61 0 (lT (gi Z 61 0) fl)) fl r)) := by
  have F : FU = 100000 := rfl
  have h4 := h.1
  have h' : Tpr (si Z 60 0 5 0) c n := h
  obtain ⟨r1, a1, a2, a3, a4, a5⟩ := e_starts h'
  have eD : D2 (si Z 60 0 5 0) (gi (si Z 60 0 5 0) 67 0) r1 = L2 Z (gi Z 68 0) r1 := by
    rw [D2_z]
    unfold D2 L2
    rw [show gi (si Z 60 0 5 0) 67 0 = gi Z 67 0 from rfl, ai_self, ai_self]
  have g : Gw c n r1 0 := ⟨by omega, a2, a3⟩
  obtain ⟨fl, r, x', eK, o2, o3⟩ := r_lines h FU 0 0 (fl0 (gi Z 68 0)) r1 (by omega) g
  rw [show Int32.ofNat 0 = (0 : Int32) from rfl] at eK
  have z5 : ∀ j, j ≠ 5 → gi (si Z 60 0 5 0) 60 0 j = gi Z 60 0 j := fun j hj => upd_ne hj
  have r5 : r 5 = 0 := by rw [o2 5 (by omega), a5 5 (by omega)]; rfl
  have r9 : r 9 = 0 := by rw [o2 9 (by omega)]; exact a4
  have rj : ∀ j, (j < 9 ∧ j ≠ 5) ∨ 22 ≤ j → r j = gi Z 60 0 j := fun j hj => by
    rw [o2 j (by omega), a5 j (by omega), z5 j (by omega)]
  have hv : (0 : Int32) ≤ Int32.ofNat n ∧ Int32.ofNat n ≤ gi Z 60 0 9 := ⟨zGe (by omega), by rw [h9]; exact (zLE (by omega) (by omega)).mpr hn⟩
  have m0 : nn (0 : Int32) = 0 := rfl
  have m1 : nn (1 : Int32) = 1 := rfl
  have m2 : nn (2 : Int32) = 2 := rfl
  have m3 : nn (3 : Int32) = 3 := rfl
  have m4 : nn (4 : Int32) = 4 := rfl
  have pre : f_X12_law 0 (Int32.ofNat n) Z = (br ((gi (L2 Z fl r) 60 0 16) = 0) (f_X12_law_104 0 (Int32.ofNat x') (fun  (S_37 : St) => on2 (f_X12_ends 0 (Int32.ofNat x') S_37) (fun r_30 S_29 => some (r_30, S_29))) FU 0 (L2 Z fl r)) (on2 (f_X12_ends 0 (Int32.ofNat x') (L2 Z fl r)) (fun r_30 S_29 => some (r_30, S_29)))) := by
    unfold f_X12_law
    rw [bvN, show gi (si Z 60 0 5 0) 60 0 9 = gi Z 60 0 9 from rfl, m_wy (S := si Z 60 0 5 0) (a := 0) (b := (gi Z 60 0 9).toInt64) (lo := 0) (hi := gi Z 60 0 9) (by decide) rfl hv, onS, brn (by decide), a1, onS, eD, ck_t (by decide), bvN, L2_68, ck_t (by decide), bvN, L2_68, ck_t (by decide), bvN, L2_68, ck_t (by decide), bvN, L2_68, ck_t (by decide), bvN, L2_68, m0, m1, m2, m3, m4]
    refine (eK _).trans ?_
    rw [bvN]
  rcases o3 with ⟨k, pl, b1, b2⟩ | ⟨ls, b1, b2, b3, b4⟩
  · refine ⟨fl, upd (upd r 18 (r 16)) 19 (r 17), fun j hj => by rw [upd_ne (by omega), upd_ne (by omega)]; exact rj j hj, by rw [upd_ne (by decide), upd_ne (by decide)]; exact r5, by rw [upd_ne (by decide), upd_ne (by decide)]; exact r9, Or.inl ⟨k, pl, b1.1, b1.2.1, b2 401 [] [] 0 (by omega), by rw [upd_ne (by decide), upd_eq]; exact b1.2.2.1, by rw [upd_eq]; exact b1.2.2.2, ?_⟩⟩
    rw [pre, L2_g, brn b1.n, e_endl.2 b1.n, on2S, b1.2.2.1]
  · obtain ⟨us, u1, u2⟩ := b4 401 [] [] 0 (by omega) rfl
    refine ⟨fl, upd (upd r 18 (r 16)) 19 (-1), fun j hj => by rw [upd_ne (by omega), upd_ne (by omega)]; exact rj j hj, by rw [upd_ne (by decide), upd_ne (by decide)]; exact r5, by rw [upd_ne (by decide), upd_ne (by decide)]; exact r9, Or.inr ⟨ls, us, b1, b3, u2, by rw [upd_ne (by decide), upd_eq]; exact b2, upd_eq, ?_⟩⟩
    have w := la104 (x2 := Int32.ofNat x') (K := fun (S_37 : St) => on2 (f_X12_ends 0 (Int32.ofNat x') S_37) (fun r_30 S_29 => some (r_30, S_29))) FU 0 (L2 Z fl r) (by omega) (by omega)
    rw [show Int32.ofNat 0 = (0 : Int32) from rfl] at w
    rw [pre, L2_g, brp b2, w, L2_61, e_endl.1 b2, on2S, u1]
    congr 4
end
