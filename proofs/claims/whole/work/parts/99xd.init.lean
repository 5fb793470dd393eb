-- THE BEGINNING
theorem i9 {S : St} : ∃ S', f_X9_init 0 S = some S' ∧ Fr (fun k x => 28 ≤ k ∧ k ≤ 31) S S' ∧ gi S' 28 0 1 = gi S 128 0 1 ∧ gi S' 28 0 6 = gi S 128 0 6 ∧ gi S' 28 0 7 = -1 := by
  unfold f_X9_init
  rw [bvE, bvE, bvE, bvE, bvE]
  refine ⟨_, rfl, ?_, ?_, ?_, ?_⟩
  · exact (Fr.zr (by omega)).tr ((Fr.zr (by omega)).tr ((Fr.zr (by omega)).tr ((Fr.cp (by omega)).tr (Fr.si (by omega)))))
  · simp [pgi_si, pgi_cp, pgi_zr, upd_ne]
  · simp [pgi_si, pgi_cp, pgi_zr, upd_ne]
  · simp [pgi_si, pgi_cp, pgi_zr, upd_eq]
theorem i4 {S : St} : ∃ S', f_X4_init 0 S = some S' ∧ Fr (fun k x => (36 ≤ k ∧ k ≤ 48) ∨ k = 58 ∨ (k = 26 ∧ x = 0)) S S' := by
  unfold f_X4_init
  rw [bvE, bvE, bvE, bvE, bvE, bvE, bvE]
  exact ⟨_, rfl, (Fr.zM (by omega) (fun g' _ _ => by omega)).tr ((Fr.zM (by omega) (fun g' _ _ => by omega)).tr ((Fr.zr (by omega)).tr ((Fr.zM (by omega) (fun g' _ _ => by omega)).tr ((Fr.zM (by omega) (fun g' _ _ => by omega)).tr ((Fr.zM (by omega) (fun g' _ _ => by omega)).tr (Fr.cp (by omega)))))))⟩
theorem i6 {S : St} : ∃ S', f_X6_init 0 S = some S' ∧ Fr (fun k x => 44 ≤ k ∧ k ≤ 46) S S' := by
  unfold f_X6_init
  rw [bvE, bvE, bvE]
  exact ⟨_, rfl, (Fr.zM (by omega) (fun g' _ _ => by omega)).tr ((Fr.zM (by omega) (fun g' _ _ => by omega)).tr (Fr.cp (by omega)))⟩
theorem i55 {K : St → Option St} : ∀ (n k : Nat) (S : St), k ≤ 4 → 4 - k < n → f_X10_init_55 0 K n (Int32.ofNat k) S = K (ai S 50 0 (fun j => if k ≤ j ∧ j < 4 then -1 else gi S 50 0 j)) := by
  intro n
  induction n with
  | zero => intro k S _ h; omega
  | succ n ih =>
    intro k S hk hn
    rw [f_X10_init_55]
    by_cases hc : 4 ≤ k
    · rw [brp (show (4 : Int32) ≤ Int32.ofNat k from (zLE (a := 4) (by omega) (by omega)).mpr hc), ai_ext (f' := gi S 50 0) (fun j => if_neg (by omega)), ai_self]
    · rw [brn (show ¬ (4 : Int32) ≤ Int32.ofNat k from fun w => hc ((zLE (a := 4) (by omega) (by omega)).mp w)), ck_t (ib (by omega) (by omega)), zN (by omega), bvE, bvE, zp1, ih (k + 1) _ (by omega) (by omega)]
      show K (ai (ai S 50 0 (upd (gi S 50 0) k (-1))) 50 0 (fun j => if k + 1 ≤ j ∧ j < 4 then -1 else upd (gi S 50 0) k (-1) j)) = _
      rw [ai_ai]
      congr 1
      refine ai_ext (fun j => ?_)
      by_cases e : j = k
      · subst e
        rw [if_neg (by omega), upd_eq, if_pos (by omega)]
      · rw [upd_ne e]
        by_cases e2 : k + 1 ≤ j ∧ j < 4
        · rw [if_pos e2, if_pos (by omega)]
        · rw [if_neg e2, if_neg (by omega)]
theorem i10 {S : St} : ∃ S', f_X10_init 0 S = some S' ∧ Fr (fun k x => 49 ≤ k ∧ k ≤ 57) S S' ∧ (∀ s, s < 4 → gi S' 50 0 s = -1) ∧ ∀ s, gi S' 51 0 s = 0 := by
  unfold f_X10_init
  rw [bvE, bvE, bvE, bvE, bvE, bvE, show (0 : Int32) = Int32.ofNat 0 from rfl, i55 FU 0 _ (by omega) (by unfold FU; omega)]
  refine ⟨_, rfl, ?_, fun s hs => ?_, fun s => ?_⟩
  · exact (Fr.zr (by omega)).tr ((Fr.zr (by omega)).tr ((Fr.zM (by omega) (fun g' _ _ => by omega)).tr ((Fr.zM (by omega) (fun g' _ _ => by omega)).tr ((Fr.zM (by omega) (fun g' _ _ => by omega)).tr ((Fr.cp (by omega)).tr (Fr.ai (by omega)))))))
  · rw [pgi_ai, if_pos ⟨rfl, rfl⟩]; exact if_pos ⟨by omega, hs⟩
  · rw [pgi_ai, if_neg (by omega), pgi_cp, if_neg (by omega), (zM_o (by omega) (by omega)).1, (zM_o (by omega) (by omega)).1, (zM_o (by omega) (by omega)).1, pgi_zr, if_pos ⟨rfl, rfl⟩]; rfl
theorem i192 {K : St → Option St} : ∀ (n k : Nat) (S : St), k ≤ 42 → 42 - k < n → f_X12_init_192 0 K n (Int32.ofNat k) S = K (ai S 61 0 (fun j => if 78 + k ≤ j ∧ j < 120 then 1 else gi S 61 0 j)) := by
  intro n
  induction n with
  | zero => intro k S _ h; omega
  | succ n ih =>
    intro k S hk hn
    rw [f_X12_init_192]
    by_cases hc : 42 ≤ k
    · rw [brp (show (42 : Int32) ≤ Int32.ofNat k from (zLE (a := 42) (by omega) (by omega)).mpr hc), ai_ext (f' := gi S 61 0) (fun j => if_neg (by omega)), ai_self]
    · rw [brn (show ¬ (42 : Int32) ≤ Int32.ofNat k from fun w => hc ((zLE (a := 42) (by omega) (by omega)).mp w)), ck_t (ibA (by omega) (by omega)), nA (by omega), bvE, bvE, zp1, ih (k + 1) _ (by omega) (by omega)]
      show K (ai (ai S 61 0 (upd (gi S 61 0) (78 + k) 1)) 61 0 (fun j => if 78 + (k + 1) ≤ j ∧ j < 120 then 1 else upd (gi S 61 0) (78 + k) 1 j)) = _
      rw [ai_ai]
      congr 1
      refine ai_ext (fun j => ?_)
      by_cases e : j = 78 + k
      · subst e
        rw [if_neg (by omega), upd_eq, if_pos (by omega)]
      · rw [upd_ne e]
        by_cases e2 : 78 + (k + 1) ≤ j ∧ j < 120
        · rw [if_pos e2, if_pos (by omega)]
        · rw [if_neg e2, if_neg (by omega)]
/-- told, at the beginning -/
def TF : Nat → Int32 := upd (upd (fun j => if 78 + 0 ≤ j ∧ j < 120 then 1 else 0) 120 (-1)) 122 (-1)
theorem i12 {S : St} : ∃ S', f_X12_init 0 (zr S 160 0 0) = some S' ∧ Fr (fun k x => 60 ≤ k) S S' ∧ gi S' 61 0 = TF ∧ (∀ k, gl S' 63 0 k = 0) ∧ (∀ i, gi S' 65 0 i = 0) ∧ gi S' 60 0 9 = 0 ∧ gi S' 60 0 18 = 0 ∧ gi S' 60 0 19 = -1 ∧ gl S' 60 0 26 = 0 ∧ gl S' 60 0 27 = 0 ∧ (∀ s, s < 4 → gi S' 78 0 s = -1) ∧ ∀ s, gi S' 79 0 s = 0 := by
  unfold f_X12_init
  rw [bvE, bvE, bvE, bvE, bvE, bvE, bvE, bvE, bvE, bvE, bvE, bvE, bvE, bvE, bvE, bvE, bvE, bvE, bvE, bvE, bvE, bvE, bvE, bvE, bvE, bvE, show (0 : Int32) = Int32.ofNat 0 from rfl, i192 FU 0 _ (by omega) (by unfold FU; omega), ck_t (by decide), bvE, ck_t (by decide), bvE]
  refine ⟨_, rfl, ?_, ?_, fun k => ?_, fun i => ?_, ?_, ?_, ?_, ?_, ?_, fun s hs => ?_, fun s => ?_⟩
  · exact (Fr.zr (by omega)).tr ((Fr.zr (by omega)).tr ((Fr.zr (by omega)).tr ((Fr.zr (by omega)).tr ((Fr.zr (by omega)).tr ((Fr.zr (by omega)).tr ((Fr.zr (by omega)).tr ((Fr.zr (by omega)).tr ((Fr.zr (by omega)).tr ((Fr.si (by omega)).tr ((Fr.zr (by omega)).tr ((Fr.zr (by omega)).tr ((Fr.zr (by omega)).tr ((Fr.zr (by omega)).tr ((Fr.zr (by omega)).tr ((Fr.zr (by omega)).tr ((Fr.zr (by omega)).tr ((Fr.zr (by omega)).tr ((Fr.zr (by omega)).tr ((Fr.zr (by omega)).tr ((Fr.si (by omega)).tr ((Fr.si (by omega)).tr ((Fr.si (by omega)).tr ((Fr.si (by omega)).tr ((Fr.zr (by omega)).tr ((Fr.zr (by omega)).tr ((Fr.cp (by omega)).tr ((Fr.ai (by omega)).tr ((Fr.si (by omega)).tr (Fr.si (by omega))))))))))))))))))))))))))))))
  · rfl
  · rfl
  · rfl
  · rfl
  · rfl
  · rfl
  · rfl
  · rfl
  · rcases (show s = 0 ∨ s = 1 ∨ s = 2 ∨ s = 3 by omega) with rfl | rfl | rfl | rfl <;> rfl
  · rfl
