-- COST: changes of cost, ten of them kept
section CO
variable {S Z : St} {a h ch : Nat} {d : Int32} {T : Nat → Int32}
def Wc (k x : Nat) : Prop := (k = 17 ∨ k = 18 ∨ k = 19 ∨ k = 20) ∧ x = 0
/-- c changes stand, those of S moved by sh, then (a, h, d) -/
def Ap1 (S : St) (a h : Nat) (d : Int32) (c sh : Nat) (S' : St) : Prop := Fr Wc S S' ∧ (∀ j, j ≠ 3 → gi S' 17 0 j = gi S 17 0 j) ∧ gi S' 17 0 3 = Int32.ofNat (c + 1) ∧ (∀ k, k < c → gi S' 18 0 k = gi S 18 0 (k + sh) ∧ gi S' 19 0 k = gi S 19 0 (k + sh) ∧ gi S' 20 0 k = gi S 20 0 (k + sh)) ∧ gi S' 18 0 c = Int32.ofNat a ∧ gi S' 19 0 c = Int32.ofNat h ∧ gi S' 20 0 c = d
theorem co_add (k6 : gi S 17 0 3 = Int32.ofNat ch) (hc : ch ≤ 10) : ∃ S', f_X1_add 0 (Int32.ofNat a) (Int32.ofNat h) d S = some S' ∧ Ap1 S a h d (if ch = 10 then 9 else ch) (if ch = 10 then 1 else 0) S' := by
  have app : ∀ (S1 : St) (c sh : Nat), c < 10 → Fr Wc S S1 → (∀ j, j ≠ 3 → gi S1 17 0 j = gi S 17 0 j) → gi S1 17 0 3 = Int32.ofNat c → (∀ k, k < c → gi S1 18 0 k = gi S 18 0 (k + sh) ∧ gi S1 19 0 k = gi S 19 0 (k + sh) ∧ gi S1 20 0 k = gi S 20 0 (k + sh)) → ∃ S', ck (inb (gi S1 17 0 3) 10 = true) (bv (si S1 18 0 (nn (gi S1 17 0 3)) (Int32.ofNat a)) (fun S_4 => ck (inb (gi S_4 17 0 3) 10 = true) (bv (si S_4 19 0 (nn (gi S_4 17 0 3)) (Int32.ofNat h)) (fun S_6 => ck (inb (gi S_6 17 0 3) 10 = true) (bv (si S_6 20 0 (nn (gi S_6 17 0 3)) d) (fun S_8 => bv (si S_8 17 0 3 ((gi S_8 17 0 3) + 1)) (fun S_9 => some S_9))))))) = some S' ∧ Ap1 S a h d c sh S' := by
    intro S1 c sh hc9 f g17 e o
    refine ⟨si (si (si (si S1 18 0 c (Int32.ofNat a)) 19 0 c (Int32.ofNat h)) 20 0 c d) 17 0 3 (Int32.ofNat (c + 1)), ?_, ?_⟩
    · rw [e, ck_t (ib hc9 (by omega)), zN (by omega), bvE, show gi (si S1 18 0 c (Int32.ofNat a)) 17 0 3 = Int32.ofNat c from e, ck_t (ib hc9 (by omega)), zN (by omega), bvE, show gi (si (si S1 18 0 c (Int32.ofNat a)) 19 0 c (Int32.ofNat h)) 17 0 3 = Int32.ofNat c from e, ck_t (ib hc9 (by omega)), zN (by omega), bvE, show gi (si (si (si S1 18 0 c (Int32.ofNat a)) 19 0 c (Int32.ofNat h)) 20 0 c d) 17 0 3 = Int32.ofNat c from e, bvE, zp1]
    · refine ⟨f.tr ((Fr.si ⟨by omega, rfl⟩).tr ((Fr.si ⟨by omega, rfl⟩).tr ((Fr.si ⟨by omega, rfl⟩).tr (Fr.si ⟨by omega, rfl⟩)))), fun j hj => ?_, rfl, fun k hk => ?_, ?_, ?_, ?_⟩
      · show upd (gi S1 17 0) 3 _ j = _
        rw [upd_ne hj]; exact g17 j hj
      · show upd (gi S1 18 0) c _ k = _ ∧ upd (gi S1 19 0) c _ k = _ ∧ upd (gi S1 20 0) c _ k = _
        rw [upd_ne (by omega), upd_ne (by omega), upd_ne (by omega)]; exact o k hk
      · show upd (gi S1 18 0) c _ c = _
        exact upd_eq
      · show upd (gi S1 19 0) c _ c = _
        exact upd_eq
      · show upd (gi S1 20 0) c _ c = _
        exact upd_eq
  unfold f_X1_add
  rw [bvE, k6]
  by_cases e : ch = 10
  · subst e
    rw [brp (show Int32.ofNat 10 = 10 from rfl), if_pos rfl, if_pos rfl]
    have dr : f_X1_dropOldest 0 S = some (ai (ai (ai (si S 17 0 3 (Int32.ofNat 9)) 18 0 (va_cpy (gi S 18 0) (gi S 18 0) 1 0 9)) 19 0 (va_cpy (gi S 19 0) (gi S 19 0) 1 0 9)) 20 0 (va_cpy (gi S 20 0) (gi S 20 0) 1 0 9)) := by
      unfold f_X1_dropOldest
      rw [k6, show Int32.ofNat 10 - 1 = Int32.ofNat 9 by decide, bvE, show gi (si S 17 0 3 (Int32.ofNat 9)) 17 0 3 = Int32.ofNat 9 from rfl, ck_t (by decide), bvE]
      rw [show ∀ f, gi (ai (si S 17 0 3 (Int32.ofNat 9)) 18 0 f) 17 0 3 = Int32.ofNat 9 from fun f => rfl, ck_t (by decide), bvE]
      rw [show ∀ f f', gi (ai (ai (si S 17 0 3 (Int32.ofNat 9)) 18 0 f) 19 0 f') 17 0 3 = Int32.ofNat 9 from fun f f' => rfl, ck_t (by decide), bvE]
      rfl
    rw [dr]
    refine app _ 9 1 (by omega) ((Fr.si ⟨by omega, rfl⟩).tr ((Fr.ai ⟨by omega, rfl⟩).tr ((Fr.ai ⟨by omega, rfl⟩).tr (Fr.ai ⟨by omega, rfl⟩)))) (fun j hj => ?_) rfl (fun k hk => ?_)
    · show upd (gi S 17 0) 3 _ j = _
      exact upd_ne hj
    · show va_cpy (gi S 18 0) (gi S 18 0) 1 0 9 k = _ ∧ va_cpy (gi S 19 0) (gi S 19 0) 1 0 9 k = _ ∧ va_cpy (gi S 20 0) (gi S 20 0) 1 0 9 k = _
      unfold va_cpy
      rw [if_pos (by omega), if_pos (by omega), if_pos (by omega), show 1 + (k - 0) = k + 1 by omega]; exact ⟨rfl, rfl, rfl⟩
  · rw [brn (show ¬ Int32.ofNat ch = 10 from fun z => e ((zE (b := 10) (by omega) (by omega)).mp z)), if_neg e, if_neg e]
    exact app S ch 0 (by omega) Fr.rf (fun _ _ => rfl) k6 (fun k _ => ⟨rfl, rfl, rfl⟩)
/-- the same, in the reference -/
def Ap2 (T : Nat → Int32) (a : Nat) (d : Int32) (c sh : Nat) (T' : Nat → Int32) : Prop := (∀ i, i < 3149 → i ≠ 6 → T' i = T i) ∧ T' 6 = Int32.ofNat (c + 1) ∧ (∀ k, k < c → T' (3149 + 3 * k) = T (3149 + 3 * (k + sh)) ∧ T' (3149 + 3 * k + 1) = T (3149 + 3 * (k + sh) + 1) ∧ T' (3149 + 3 * k + 2) = T (3149 + 3 * (k + sh) + 2)) ∧ T' (3149 + 3 * c) = Int32.ofNat a ∧ T' (3149 + 3 * c + 1) = T 2 ∧ T' (3149 + 3 * c + 2) = d
theorem sh_loop {K : St → Option St} {x1 x2 : Int32} : ∀ (n k : Nat) (Z : St), 3149 ≤ k → k ≤ 3176 → 3176 < n + k → f_X12_keepsChange_16 0 x1 x2 K n (Int32.ofNat k) Z = K (ai Z 61 0 (fun j => if k ≤ j ∧ j < 3176 then gi Z 61 0 (j + 3) else gi Z 61 0 j)) := by
  intro n
  induction n with
  | zero => intro k Z _ _ h; omega
  | succ n ih =>
    intro k Z h1 h2 hn
    rw [f_X12_keepsChange_16]
    by_cases hc : 3176 ≤ k
    · rw [brp (show (3176 : Int32) ≤ Int32.ofNat k from (zLE (a := 3176) (by omega) (by omega)).mpr hc), ai_ext (f' := gi Z 61 0) (fun j => if_neg (by omega)), ai_self]
    · rw [brn (show ¬ (3176 : Int32) ≤ Int32.ofNat k from fun w => hc ((zLE (a := 3176) (by omega) (by omega)).mp w)), zp3, ck_t (ib (by omega) (by omega)), ck_t (ib (by omega) (by omega)), zN (by omega), zN (by omega), bvE, bvE, zp1, ih (k + 1) _ (by omega) (by omega) (by omega)]
      unfold si
      rw [ai_ai]
      congr 1
      refine ai_ext (fun j => ?_)
      rw [gai]
      by_cases e : j = k
      · rw [if_neg (by omega), e, upd_eq, if_pos (by omega)]
      · rw [upd_ne e]
        by_cases e2 : k + 1 ≤ j ∧ j < 3176
        · rw [if_pos e2, if_pos (by omega), upd_ne (by omega)]
        · rw [if_neg e2, if_neg (by omega)]
theorem co_keep (n6 : gi Z 61 0 6 = Int32.ofNat ch) (hc : ch ≤ 10) : ∃ T', f_X12_keepsChange 0 (Int32.ofNat a) d Z = some (ai Z 61 0 T') ∧ Ap2 (gi Z 61 0) a d (if ch = 10 then 9 else ch) (if ch = 10 then 1 else 0) T' := by
  have app : ∀ (F : Nat → Int32) (c sh : Nat), c < 10 → F 6 = Int32.ofNat c → (∀ i, i < 3149 → i ≠ 6 → F i = gi Z 61 0 i) → (∀ k, k < c → F (3149 + 3 * k) = gi Z 61 0 (3149 + 3 * (k + sh)) ∧ F (3149 + 3 * k + 1) = gi Z 61 0 (3149 + 3 * (k + sh) + 1) ∧ F (3149 + 3 * k + 2) = gi Z 61 0 (3149 + 3 * (k + sh) + 2)) → ∃ T', ck (inb 6 3179 = true) (bv (3149 + (3 * (gi (ai Z 61 0 F) 61 0 (nn 6)))) (fun x3_5 => ck (inb x3_5 3179 = true) (bv (si (ai Z 61 0 F) 61 0 (nn x3_5) (Int32.ofNat a)) (fun S_7 => ck (inb 2 3179 = true) (ck (inb (x3_5 + 1) 3179 = true) (bv (si S_7 61 0 (nn (x3_5 + 1)) (gi S_7 61 0 (nn 2))) (fun S_10 => ck (inb (x3_5 + 2) 3179 = true) (bv (si S_10 61 0 (nn (x3_5 + 2)) d) (fun S_12 => ck (inb 6 3179 = true) (ck (inb 6 3179 = true) (bv (si S_12 61 0 (nn 6) ((gi S_12 61 0 (nn 6)) + 1)) (fun S_15 => some S_15))))))))))))  = some (ai Z 61 0 T') ∧ Ap2 (gi Z 61 0) a d c sh T' := by
    intro F c sh hc9 f6 fo fk
    refine ⟨upd (upd (upd (upd F (3149 + 3 * c) (Int32.ofNat a)) (3149 + 3 * c + 1) (gi Z 61 0 2)) (3149 + 3 * c + 2) d) 6 (Int32.ofNat (c + 1)), ?_, ?_⟩
    · rw [ck_t (by decide), bvE, show gi (ai Z 61 0 F) 61 0 (nn 6) = Int32.ofNat c from f6, zMu, zA, zp1, zp2, ck_t (ib (by omega) (by omega)), bvE, ck_t (by decide), ck_t (ib (by omega) (by omega)), bvE, ck_t (ib (by omega) (by omega)), bvE, ck_t (by decide), ck_t (by decide), bvE, zN (by omega), zN (by omega), zN (by omega)]
      unfold si
      simp only [gai, ai_ai]
      congr 2
      rw [show upd F (3149 + 3 * c) (Int32.ofNat a) (nn 2) = gi Z 61 0 2 by rw [upd_ne (by show (2 : Nat) ≠ _; omega)]; exact fo 2 (by omega) (by omega)]
      rw [show ∀ v w : Int32, upd (upd (upd F (3149 + 3 * c) (Int32.ofNat a)) (3149 + 3 * c + 1) v) (3149 + 3 * c + 2) w (nn 6) = Int32.ofNat c from fun v w => by rw [upd_ne (by show (6 : Nat) ≠ _; omega), upd_ne (by show (6 : Nat) ≠ _; omega), upd_ne (by show (6 : Nat) ≠ _; omega)]; exact f6, zp1]
      rfl
    · refine ⟨fun i hi h6 => ?_, upd_eq, fun k hk => ?_, ?_, ?_, ?_⟩
      · rw [upd_ne h6, upd_ne (by omega), upd_ne (by omega), upd_ne (by omega)]; exact fo i hi h6
      · have q : ∀ j, j < 3 → upd (upd (upd (upd F (3149 + 3 * c) (Int32.ofNat a)) (3149 + 3 * c + 1) (gi Z 61 0 2)) (3149 + 3 * c + 2) d) 6 (Int32.ofNat (c + 1)) (3149 + 3 * k + j) = F (3149 + 3 * k + j) := fun j hj => by
          rw [upd_ne (by omega), upd_ne (by omega), upd_ne (by omega), upd_ne (by omega)]
        exact ⟨(q 0 (by omega)).trans (fk k hk).1, (q 1 (by omega)).trans (fk k hk).2.1, (q 2 (by omega)).trans (fk k hk).2.2⟩
      · rw [upd_ne (by omega), upd_ne (by omega), upd_ne (by omega), upd_eq]
      · rw [upd_ne (by omega), upd_ne (by omega), upd_eq]
      · rw [upd_ne (by omega), upd_eq]
  unfold f_X12_keepsChange
  rw [ck_t (by decide), bvE, show gi Z 61 0 (nn 6) = Int32.ofNat ch from n6]
  by_cases e : ch = 10
  · subst e
    rw [brp (show Int32.ofNat 10 = 10 from rfl), if_pos rfl, if_pos rfl, show (3149 : Int32) = Int32.ofNat 3149 from rfl, sh_loop FU 3149 Z (by omega) (by omega) (by unfold FU; omega), ck_t (by decide), ck_t (by decide), bvE]
    have e9 : si (ai Z 61 0 (fun j => if 3149 ≤ j ∧ j < 3176 then gi Z 61 0 (j + 3) else gi Z 61 0 j)) 61 0 (nn 6) (gi (ai Z 61 0 (fun j => if 3149 ≤ j ∧ j < 3176 then gi Z 61 0 (j + 3) else gi Z 61 0 j)) 61 0 (nn 6) - 1) = ai Z 61 0 (upd (fun j => if 3149 ≤ j ∧ j < 3176 then gi Z 61 0 (j + 3) else gi Z 61 0 j) 6 (Int32.ofNat 9)) := by
      unfold si
      rw [gai, ai_ai]
      congr 2
      show (if 3149 ≤ 6 ∧ 6 < 3176 then gi Z 61 0 (6 + 3) else gi Z 61 0 6) - 1 = _
      rw [if_neg (by omega), n6]; rfl
    rw [e9]
    refine app _ 9 1 (by omega) upd_eq (fun i hi h6 => by rw [upd_ne h6, if_neg (by omega)]) (fun k hk => ?_)
    rw [upd_ne (by omega), upd_ne (by omega), upd_ne (by omega), if_pos (by omega), if_pos (by omega), if_pos (by omega)]
    refine ⟨?_, ?_, ?_⟩ <;> congr 1 <;> omega
  · rw [brn (show ¬ Int32.ofNat ch = 10 from fun z => e ((zE (b := 10) (by omega) (by omega)).mp z)), if_neg e, if_neg e]
    have := app (gi Z 61 0) ch 0 (by omega) n6 (fun _ _ _ => rfl) (fun k _ => ⟨rfl, rfl, rfl⟩)
    rw [ai_self] at this
    exact this
end CO
