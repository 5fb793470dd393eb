section
-- AN HOUR: the class keeps the board; the reference's hour
theorem ad_hour {S : St} {h : Nat} (cap : gi S 14 (2 * 0) 0 = 256) (len : gn S 15 (2 * 0) = 1024) (rw_ : gi S 14 (2 * 0) 3 = Int32.ofNat h) (b2 : h ≤ 3000) : ∃ S', f_X0_add (2 * 0) (0 + 1) S = some S' ∧ Fr (fun k x => (k = 14 ∨ k = 15) ∧ x = 0) S S' ∧ (∀ j, j ≠ 3 → gi S' 14 0 j = gi S 14 0 j) ∧ gi S' 14 0 3 = Int32.ofNat (h + 1) ∧ (∀ j, gi S' 15 0 j = if 4 * (h % 256) ≤ j ∧ j < 4 * (h % 256) + 4 then gi S 26 1 (j - 4 * (h % 256)) else gi S 15 0 j) ∧ gn S' 15 0 = gn S 15 0 := by
  refine ⟨si (ai S 15 0 (va_cpy (gi S 26 1) (gi S 15 0) 0 (4 * (h % 256)) 4)) 14 0 3 (Int32.ofNat (h + 1)), ?_, (Fr.ai ⟨by omega, rfl⟩).tr (Fr.si ⟨by omega, rfl⟩), fun j hj => ?_, rfl, fun j => ?_, rfl⟩
  · unfold f_X0_add
    rw [cap, ck_t (by decide), rw_, bvE, show rmI (Int32.ofNat h) 256 = Int32.ofNat (h % 256) from zR (b := 256) (by omega) (by omega), show Int32.ofNat (h % 256) * 4 = Int32.ofNat (4 * (h % 256)) by rw [zMu']; congr 1; omega, len, ck_t ?_, bvE, bvE, zN (by omega)]
    · rw [show gi (ai S 15 (2 * 0) (va_cpy (gi S 26 (0 + 1)) (gi S 15 (2 * 0)) (nn 0) (4 * (h % 256)) (nn 4))) 14 (2 * 0) 3 = Int32.ofNat h from rw_, zp1]; rfl
    · unfold cpok
      rw [zN (show 4 * (h % 256) < 2147483648 by omega), decide_eq_false (zNeg (show 4 * (h % 256) < 2147483648 by omega)), decide_eq_true (show 4 * (h % 256) + nn 4 ≤ 1024 by show 4 * (h % 256) + 4 ≤ 1024; omega)]; rfl
  · show upd (gi S 14 0) 3 _ j = _
    rw [upd_ne hj]
  · show va_cpy (gi S 26 1) (gi S 15 0) 0 (4 * (h % 256)) 4 j = _
    unfold va_cpy
    by_cases e : 4 * (h % 256) ≤ j ∧ j < 4 * (h % 256) + 4
    · rw [if_pos e, if_pos e, Nat.zero_add]
    · rw [if_neg e, if_neg e]
/-- rows that an hour writes in the reference -/
def WZ (k x : Nat) : Prop := (k = 60 ∨ k = 61 ∨ k = 63 ∨ k = 69 ∨ k = 70 ∨ k = 71) ∧ x = 0
/-- told, behind an hour -/
def hU (T v : Nat → Int32) (h N : Nat) : Nat → Int32 := upd (hT T v h N) 2 (Int32.ofNat (h + 1))
theorem hour_r {N D h : Nat} {T v : Nat → Int32} {M : Nat → Int64} {mn hb kn dt : Nat → Int32} (b0 : N ≤ 4) (b1 : D ≤ 6) (b2 : h ≤ 3000) (n0 : T 0 = Int32.ofNat N) (n1 : T 1 = Int32.ofNat D) (n2 : T 2 = Int32.ofNat h) (c5 : Cdr N D mn hb kn dt T) (H : ∀ a, a < N → ∀ Z : St, gi Z 61 0 = T → gi Z 60 0 23 = 0 → ∃ Z', f_X12_makes 0 (Int32.ofNat a) (Int32.ofNat h) Z = some (v a, Z') ∧ Fr (fun k x => k = 69 ∧ x = 0) Z Z') {Z : St} (eT : gi Z 61 0 = T) (eM : gl Z 63 0 = M) : ∃ Z', f_X12_hour 0 Z = some Z' ∧ gi Z' 61 0 = hU T v h N ∧ gl Z' 63 0 = hM (hT T v h N) v N D 0 M ∧ Fr WZ Z Z' ∧ (∀ i, i ≠ 23 → gi Z' 60 0 i = gi Z 60 0 i) ∧ gl Z' 60 0 = gl Z 60 0 := by
  have F : FU = 100000 := rfl
  have o : ∀ i, (i < 12 ∨ 16 ≤ i) → (i < 24 ∨ 28 ≤ i) → (i < 1885 ∨ 2909 ≤ i) → hT T v h N i = T i := fun i h1 h2 h3 => hT_o (by omega) (by omega) (by omega)
  obtain ⟨Z2, f2, w2, g2⟩ := ho14 (Z0 := si Z 60 0 23 0) (h := h) b0 n0 eT rfl H N 0 FU (si Z 60 0 23 0) (by omega) (by omega) Fr.rf (fun i hi => absurd hi (by omega))
  have e2 : gi Z2 61 0 = hT T v h 0 := by rw [hT_0, (f2 61 0 (by unfold WE; omega)).1]; exact eT
  obtain ⟨Z3, f3, e3, g3⟩ := ho44 (Z0 := Z2) b0 b2 n0 w2 N 0 FU Z2 (by omega) (by omega) Fr.rf e2
  obtain ⟨Z4, e4, f4, p4⟩ := ps_loop (S := Z3) (N := N) (K := fun S => some S) (P := fun S' => Fr (fun k x => k = 70 ∧ x = 0) Z3 S' ∧ ∀ i, i < N → gi S' 70 0 i = gi Z3 61 0 (12 + i)) (by rw [e3, o 0 (by omega) (by omega) (by omega)]; exact n0) b0 (fun S' hf hi => Ok.sm ⟨hf, hi⟩) FU 0 Z3 Fr.rf (fun i hi => absurd hi (by omega)) (by omega) (by omega)
  have e61 : gi Z4 61 0 = hT T v h N := by rw [(f4 61 0 (by omega)).1, e3]
  have eM4 : gl Z4 63 0 = M := by rw [(f4 63 0 (by omega)).2.1, (f3 63 0 (by omega)).2.1, (f2 63 0 (by unfold WE; omega)).2.1]; exact eM
  obtain ⟨Z5, f5, e5, g5⟩ := ho133 (Z0 := Z4) (T := hT T v h N) (v := v) b0 b1 e61 (by rw [o 0 (by omega) (by omega) (by omega)]; exact n0) (by rw [o 1 (by omega) (by omega) (by omega)]; exact n1) (c5.cg b1 (fun i hi => o i (by omega) (by omega) (by omega))) (fun i hi => by rw [p4 i hi, e3, hT_p hi]) D 0 FU Z4 M (by omega) (by omega) Fr.rf eM4
  rw [show Int32.ofNat 0 = (0 : Int32) from rfl] at g2 g3 e4 g5
  have e9 : gi Z5 61 0 = hT T v h N := by rw [(f5 61 0 (by omega)).1, e61]
  have t2 : gi Z5 61 0 (nn 2) = Int32.ofNat h := by rw [e9]; exact (o 2 (by omega) (by omega) (by omega)).trans n2
  have pr : f_X12_present 0 Z3 = some Z4 := by unfold f_X12_present; exact e4
  refine ⟨si Z5 61 0 (nn 2) (Int32.ofNat (h + 1)), ?_, ?_, ?_, ?_, ?_, ?_⟩
  · unfold f_X12_hour
    rw [ck_t (by decide), show gi Z 61 0 (nn 2) = Int32.ofNat h by rw [eT]; exact n2, bvN, bvN, g2, g3, pr, onS, g5, ck_t (by decide), ck_t (by decide), t2, zp1, bvN]
  · show upd (gi Z5 61 0) 2 (Int32.ofNat (h + 1)) = _
    rw [e9]; rfl
  · exact e5
  · refine (Fr.si (show WZ 60 0 from ⟨by omega, rfl⟩)).tr ((f2.mono (fun k x hw => ?_)).tr ((f3.mono (fun k x hw => ?_)).tr ((f4.mono (fun k x hw => ?_)).tr ((f5.mono (fun k x hw => ?_)).tr (Fr.si ⟨by omega, rfl⟩)))))
    · unfold WE at hw; unfold WZ; omega
    · unfold WZ; omega
    · unfold WZ; omega
    · unfold WZ; omega
  · intro i hi
    show gi Z5 60 0 i = _
    rw [(f5 60 0 (by omega)).1, (f4 60 0 (by omega)).1, (f3 60 0 (by omega)).1, (f2 60 0 (by unfold WE; omega)).1]
    show upd (gi Z 60 0) 23 0 i = _
    rw [upd_ne hi]
  · show gl Z5 60 0 = _
    rw [(f5 60 0 (by omega)).2.1, (f4 60 0 (by omega)).2.1, (f3 60 0 (by omega)).2.1, (f2 60 0 (by unfold WE; omega)).2.1]; rfl
end
