-- THE BEGINNING
theorem i9 {S : St} : ∃ S', f_X9_init 0 S = some S' ∧ Fr (fun k x => 28 ≤ k ∧ k ≤ 31) S S' ∧ gi S' 28 0 1 = gi S 128 0 1 ∧ gi S' 28 0 6 = gi S 128 0 6 ∧ gi S' 28 0 7 = -1 := by
  unfold f_X9_init
  rw [bvE, bvE, bvE, bvE, bvE]
  refine ⟨_, rfl, ?_, ?_, ?_, ?_⟩
  · exact (Fr.zr (by omega)).tr ((Fr.zr (by omega)).tr ((Fr.zr (by omega)).tr ((Fr.cp (by omega)).tr (Fr.si (by omega)))))
  · simp [pgi_si, pgi_cp, pgi_zr, upd_ne]
  · simp [pgi_si, pgi_cp, pgi_zr, upd_ne]
  · simp [pgi_si, pgi_cp, pgi_zr, upd_eq]
theorem i4 {S : St} : ∃ S', f_X4_init 0 S = some S' ∧ Fr (fun k x => (36 ≤ k ∧ k ≤ 48) ∨ k = 58 ∨ (k = 26 ∧ x = 0)) S S' := by
  unfold f_X4_init
  rw [bvE, bvE, bvE, bvE, bvE, bvE, bvE]
  exact ⟨_, rfl, (Fr.zM (by omega) (fun g' _ _ => by omega)).tr ((Fr.zM (by omega) (fun g' _ _ => by omega)).tr ((Fr.zr (by omega)).tr ((Fr.zM (by omega) (fun g' _ _ => by omega)).tr ((Fr.zM (by omega) (fun g' _ _ => by omega)).tr ((Fr.zM (by omega) (fun g' _ _ => by omega)).tr (Fr.cp (by omega)))))))⟩
theorem i6 {S : St} : ∃ S', f_X6_init 0 S = some S' ∧ Fr (fun k x => 44 ≤ k ∧ k ≤ 46) S S' := by
  unfold f_X6_init
  rw [bvE, bvE, bvE]
  exact ⟨_, rfl, (Fr.zM (by omega) (fun g' _ _ => by omega)).tr ((Fr.zM (by omega) (fun g' _ _ => by omega)).tr (Fr.cp (by omega)))⟩
