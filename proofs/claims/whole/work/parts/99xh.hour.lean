section
-- AN HOUR: the reference's prices
/-- told, when the prices of the stations below j are new -/
def hT (T v : Nat → Int32) (h j : Nat) : Nat → Int32 := fun i => if 12 ≤ i ∧ i < 12 + j then v (i - 12) else if 24 ≤ i ∧ i < 24 + j then (if v (i - 24) = T (i - 12) then T i else Int32.ofNat h) else if 1885 + 4 * (h % 256) ≤ i ∧ i < 1885 + 4 * (h % 256) + j then v (i - (1885 + 4 * (h % 256))) else T i
section
variable {T v : Nat → Int32} {h j s i : Nat}
theorem hT_0 : hT T v h 0 = T := by
  funext i; unfold hT; rw [if_neg (by omega), if_neg (by omega), if_neg (by omega)]
theorem hT_p (hs : s < j) : hT T v h j (12 + s) = v s := by
  unfold hT; rw [if_pos (by omega), show 12 + s - 12 = s by omega]
theorem hT_c (hs : s < j) (h4 : j ≤ 4) : hT T v h j (24 + s) = if v s = T (12 + s) then T (24 + s) else Int32.ofNat h := by
  unfold hT; rw [if_neg (by omega), if_pos (by omega), show 24 + s - 24 = s by omega, show 24 + s - 12 = 12 + s by omega]
theorem hT_b (hs : s < j) (h4 : j ≤ 4) : hT T v h j (1885 + 4 * (h % 256) + s) = v s := by
  unfold hT; rw [if_neg (by omega), if_neg (by omega), if_pos (by omega), show 1885 + 4 * (h % 256) + s - (1885 + 4 * (h % 256)) = s by omega]
theorem hT_o (h1 : i < 12 ∨ 12 + j ≤ i) (h2 : i < 24 ∨ 24 + j ≤ i) (h3 : i < 1885 + 4 * (h % 256) ∨ 1885 + 4 * (h % 256) + j ≤ i) : hT T v h j i = T i := by
  unfold hT; rw [if_neg (by omega), if_neg (by omega), if_neg (by omega)]
theorem hT_s (hj : j < 4) : upd (upd (if v j = T (12 + j) then hT T v h j else upd (hT T v h j) (24 + j) (Int32.ofNat h)) (12 + j) (v j)) (1885 + 4 * (h % 256) + j) (v j) = hT T v h (j + 1) := by
  funext i
  by_cases e3 : i = 1885 + 4 * (h % 256) + j
  · rw [e3, upd_eq, hT_b (by omega) (by omega)]
  rw [upd_ne e3]
  by_cases e1 : i = 12 + j
  · rw [e1, upd_eq, hT_p (by omega)]
  rw [upd_ne e1]
  by_cases e2 : i = 24 + j
  · rw [e2, hT_c (s := j) (by omega) (by omega)]
    by_cases e : v j = T (12 + j)
    · rw [if_pos e, if_pos e, hT_o (by omega) (by omega) (by omega)]
    · rw [if_neg e, if_neg e, upd_eq]
  have e9 : (if v j = T (12 + j) then hT T v h j else upd (hT T v h j) (24 + j) (Int32.ofNat h)) i = hT T v h j i := by
    by_cases e : v j = T (12 + j)
    · rw [if_pos e]
    · rw [if_neg e, upd_ne e2]
  rw [e9]
  unfold hT
  have c1 : (12 ≤ i ∧ i < 12 + (j + 1)) ↔ (12 ≤ i ∧ i < 12 + j) := by omega
  have c2 : (24 ≤ i ∧ i < 24 + (j + 1)) ↔ (24 ≤ i ∧ i < 24 + j) := by omega
  have c3 : (1885 + 4 * (h % 256) ≤ i ∧ i < 1885 + 4 * (h % 256) + (j + 1)) ↔ (1885 + 4 * (h % 256) ≤ i ∧ i < 1885 + 4 * (h % 256) + j) := by omega
  simp only [c1, c2, c3]
end
theorem ho44 {Z0 : St} {N h : Nat} {T v : Nat → Int32} (b0 : N ≤ 4) (b2 : h ≤ 3000) (n0 : T 0 = Int32.ofNat N) (hv : ∀ i, i < N → gi Z0 71 0 i = v i) : ∀ (r j n : Nat) (Z : St), j + r = N → r < n → Fr (fun k x => k = 61 ∧ x = 0) Z0 Z → gi Z 61 0 = hT T v h j → ∃ Z', Fr (fun k x => k = 61 ∧ x = 0) Z0 Z' ∧ gi Z' 61 0 = hT T v h N ∧ ∀ K, f_X12_hour_44 0 (Int32.ofNat h) K n (Int32.ofNat j) Z = K Z' := by
  intro r
  induction r with
  | zero =>
    intro j n Z hj hn f e61
    obtain ⟨n, rfl⟩ : ∃ m, n = m + 1 := ⟨n - 1, by omega⟩
    obtain rfl : j = N := by omega
    have a0 : gi Z 61 0 (nn 0) = Int32.ofNat j := by rw [e61]; exact (hT_o (i := 0) (by omega) (by omega) (by omega)).trans n0
    refine ⟨Z, f, e61, fun K => ?_⟩
    rw [f_X12_hour_44, ck_t (by decide), a0, brp ((zLE (by omega) (by omega)).mpr (by omega))]
  | succ r ih =>
    intro j n Z hj hn f e61
    obtain ⟨n, rfl⟩ : ∃ m, n = m + 1 := ⟨n - 1, by omega⟩
    have a0 : gi Z 61 0 (nn 0) = Int32.ofNat N := by rw [e61]; exact (hT_o (i := 0) (by omega) (by omega) (by omega)).trans n0
    have v71 : gi Z 71 0 j = v j := by rw [(f 71 0 (by omega)).1]; exact hv j (by omega)
    have v12 : gi Z 61 0 (12 + j) = T (12 + j) := by rw [e61]; exact hT_o (by omega) (by omega) (by omega)
    have qm : rmI (Int32.ofNat h) 256 = Int32.ofNat (h % 256) := zR (b := 256) (by omega) (by omega)
    have ad : (1885 + 4 * Int32.ofNat (h % 256) + Int32.ofNat j : Int32) = Int32.ofNat (1885 + 4 * (h % 256) + j) := by rw [zMu, zA, zAA]
    have i4 : inb (Int32.ofNat j) 4 = true := ib (by omega) (by omega)
    have i12 : inb (12 + Int32.ofNat j) 3179 = true := ibA (by omega) (by omega)
    have i24 : inb (24 + Int32.ofNat j) 3179 = true := ibA (by omega) (by omega)
    have ia : inb (Int32.ofNat (1885 + 4 * (h % 256) + j)) 3179 = true := ib (by omega) (by omega)
    have z12 : nn (12 + Int32.ofNat j) = 12 + j := nA (by omega)
    have z24 : nn (24 + Int32.ofNat j) = 24 + j := nA (by omega)
    have za : nn (Int32.ofNat (1885 + 4 * (h % 256) + j)) = 1885 + 4 * (h % 256) + j := zN (by omega)
    have zj : nn (Int32.ofNat j) = j := zN (by omega)
    have hs := hT_s (T := T) (v := v) (h := h) (j := j) (by omega)
    by_cases e : v j = T (12 + j)
    · rw [if_pos e] at hs
      obtain ⟨Z', g1, g2, g3⟩ := ih (j + 1) n (si (si Z 61 0 (12 + j) (v j)) 61 0 (1885 + 4 * (h % 256) + j) (v j)) (by omega) (by omega) (f.tr ((Fr.si ⟨rfl, rfl⟩).tr (Fr.si ⟨rfl, rfl⟩))) (by
        show upd (upd (gi Z 61 0) (12 + j) (v j)) (1885 + 4 * (h % 256) + j) (v j) = _
        rw [e61]; exact hs)
      refine ⟨Z', g1, g2, fun K => ?_⟩
      rw [f_X12_hour_44, ck_t (by decide), a0, brn (fun z => absurd ((zLE (by omega) (by omega)).mp z) (by omega)), ck_t i4, ck_t i12]
      simp only [bvN, qm, ad, z12, z24, za, zj, zp1, ck_t i4, ck_t i12, ck_t ia, v71, v12]
      rw [brp e, show gi (si Z 61 0 (12 + j) (v j)) 71 0 j = v j from v71]
      exact g3 K
    · rw [if_neg e] at hs
      obtain ⟨Z', g1, g2, g3⟩ := ih (j + 1) n (si (si (si Z 61 0 (24 + j) (Int32.ofNat h)) 61 0 (12 + j) (v j)) 61 0 (1885 + 4 * (h % 256) + j) (v j)) (by omega) (by omega) (f.tr ((Fr.si ⟨rfl, rfl⟩).tr ((Fr.si ⟨rfl, rfl⟩).tr (Fr.si ⟨rfl, rfl⟩)))) (by
        show upd (upd (upd (gi Z 61 0) (24 + j) (Int32.ofNat h)) (12 + j) (v j)) (1885 + 4 * (h % 256) + j) (v j) = _
        rw [e61]; exact hs)
      refine ⟨Z', g1, g2, fun K => ?_⟩
      rw [f_X12_hour_44, ck_t (by decide), a0, brn (fun z => absurd ((zLE (by omega) (by omega)).mp z) (by omega)), ck_t i4, ck_t i12]
      simp only [bvN, qm, ad, z12, z24, za, zj, zp1, ck_t i4, ck_t i12, ck_t i24, ck_t ia, v71, v12]
      rw [brn e, show gi (si Z 61 0 (24 + j) (Int32.ofNat h)) 71 0 j = v j from v71, show gi (si (si Z 61 0 (24 + j) (Int32.ofNat h)) 61 0 (12 + j) (v j)) 71 0 j = v j from v71]
      exact g3 K
end
