-- AN HOUR: what changed
theorem rh52 {S0 : St} {N h : Nat} {T v : Nat → Int32} (b0 : N ≤ 4) (b2 : h ≤ 3000) (k0 : gi S0 2 0 0 = Int32.ofNat N) (cap : gi S0 14 (2 * 0) 0 = 256) (len : gn S0 15 (2 * 0) = 1024) (rw_ : gi S0 14 (2 * 0) 3 = Int32.ofNat h) (c6 : Chr N h (gi S0 15 (2 * 0)) (gi S0 16 (2 * 0)) T) (hv : ∀ i, i < N → gi S0 26 1 i = v i) : ∀ (r j n : Nat) (S : St), j + r = N → r < n → Fr (fun k x => k = 5 ∧ x = 0) S0 S → (∀ i, i < 4 → gi S 5 0 i = if i < j ∧ v i ≠ T (12 + i) then Int32.ofNat h else gi S0 5 0 i) → ∃ S', Fr (fun k x => k = 5 ∧ x = 0) S0 S' ∧ (∀ i, i < 4 → gi S' 5 0 i = if i < N ∧ v i ≠ T (12 + i) then Int32.ofNat h else gi S0 5 0 i) ∧ ∀ K, f_X2_runHour_52 0 (Int32.ofNat h) K n (Int32.ofNat j) S = K S' := by
  intro r
  induction r with
  | zero =>
    intro j n S hj hn f hi
    obtain ⟨n, rfl⟩ : ∃ m, n = m + 1 := ⟨n - 1, by omega⟩
    obtain rfl : j = N := by omega
    refine ⟨S, f, hi, fun K => ?_⟩
    rw [f_X2_runHour_52, (f 2 0 (by omega)).1, k0, brp ((zLE (by omega) (by omega)).mpr (by omega))]
  | succ r ih =>
    intro j n S hj hn f hi
    obtain ⟨n, rfl⟩ : ∃ m, n = m + 1 := ⟨n - 1, by omega⟩
    have pn : f_X2_priceNow 0 (Int32.ofNat j) S = some (T (12 + j)) := pn_h (g := 0) (S := S) (by rw [(f 14 _ (by omega)).1]; exact cap) (by rw [(f 15 _ (by omega)).2.2.2]; exact len) (by rw [(f 14 _ (by omega)).1]; exact rw_) (by rw [(f 15 _ (by omega)).1, (f 16 _ (by omega)).1]; exact c6) b0 b2 (by omega)
    have v26 : gi S 26 (0 + 1) j = v j := by rw [(f 26 1 (by omega)).1]; exact hv j (by omega)
    by_cases e : v j = T (12 + j)
    · obtain ⟨S', g1, g2, g3⟩ := ih (j + 1) n S (by omega) (by omega) f (fun i h4 => by
        rw [hi i h4]
        by_cases e9 : i = j
        · rw [e9, if_neg (fun z => z.2 e), if_neg (fun z => z.2 e)]
        · by_cases c : i < j ∧ v i ≠ T (12 + i)
          · rw [if_pos c, if_pos ⟨by omega, c.2⟩]
          · rw [if_neg c, if_neg (fun z => c ⟨by omega, z.2⟩)])
      refine ⟨S', g1, g2, fun K => ?_⟩
      rw [f_X2_runHour_52, (f 2 0 (by omega)).1, k0, brn (fun z => absurd ((zLE (by omega) (by omega)).mp z) (by omega)), ck_t (ib (by omega) (by omega)), zN (by omega), pn, onS, v26]
      simp only [bvN, zp1]
      rw [brp e]; exact g3 K
    · obtain ⟨S', g1, g2, g3⟩ := ih (j + 1) n (si S 5 0 j (Int32.ofNat h)) (by omega) (by omega) (f.tr (Fr.si ⟨rfl, rfl⟩)) (fun i h4 => by
        rw [pgi_si, if_pos ⟨rfl, rfl⟩]
        by_cases e9 : i = j
        · rw [e9, upd_eq, if_pos ⟨by omega, e⟩]
        · rw [upd_ne e9, hi i h4]
          by_cases c : i < j ∧ v i ≠ T (12 + i)
          · rw [if_pos c, if_pos ⟨by omega, c.2⟩]
          · rw [if_neg c, if_neg (fun z => c ⟨by omega, z.2⟩)])
      refine ⟨S', g1, g2, fun K => ?_⟩
      rw [f_X2_runHour_52, (f 2 0 (by omega)).1, k0, brn (fun z => absurd ((zLE (by omega) (by omega)).mp z) (by omega)), ck_t (ib (by omega) (by omega)), zN (by omega), pn, onS, v26]
      simp only [bvN, zp1]
      rw [brn e, ck_t (ib (by omega) (by omega))]; exact g3 K
