section
-- AN HOUR: who fills where, and what it brings
/-- the sums, when kind k has filled at r -/
def stM (T v : Nat → Int32) (r k : Nat) (M : Nat → Int64) : Nat → Int64 := vp_updL (vp_updL (vp_updL M r (M r + Int32.toInt64 (T (28 + 4 * k) * (v r - T (8 + r))))) (4 + r) (M (4 + r) + Int32.toInt64 (T (28 + 4 * k)))) 8 (M 8 + Int32.toInt64 (T (28 + 4 * k) * v r))
/-- the same, kinds k .. k + n - 1 -/
def hM (T v : Nat → Int32) (N : Nat) : Nat → Nat → (Nat → Int64) → Nat → Int64
  | 0, _, M => M
  | n + 1, k, M => hM T v N n (k + 1) (stM T v (nn (whF T v N k)) k M)
theorem stM_cs {pf so M : Nat → Int64} {pd : Int64} {T v : Nat → Int32} {r k : Nat} (hr : r < 4) (q : Csu pf so pd M) : Csu (vp_updL pf r (pf r + Int32.toInt64 (T (28 + 4 * k) * (v r - T (8 + r))))) (vp_updL so r (so r + Int32.toInt64 (T (28 + 4 * k)))) (pd + Int32.toInt64 (T (28 + 4 * k) * v r)) (stM T v r k M) := by
  refine ⟨fun s hs => ⟨?_, ?_⟩, ?_⟩
  · unfold stM
    rw [updL_ne (show s ≠ 8 by omega), updL_ne (show s ≠ 4 + r by omega)]
    by_cases e : s = r
    · rw [e, updL_eq, updL_eq, (q.1 r hr).1]
    · rw [updL_ne e, updL_ne e]; exact (q.1 s hs).1
  · unfold stM
    rw [updL_ne (show 4 + s ≠ 8 by omega)]
    by_cases e : s = r
    · rw [e, updL_eq, updL_eq, (q.1 r hr).2]
    · rw [updL_ne e, updL_ne (show 4 + s ≠ 4 + r by omega), updL_ne (show 4 + s ≠ r by omega)]; exact (q.1 s hs).2
  · unfold stM
    rw [updL_eq, q.2]
/-- rows that selling writes in the class -/
def WM (k x : Nat) : Prop := (k = 2 ∨ k = 6 ∨ k = 7) ∧ x = 0
theorem rh105 {S0 : St} {N D : Nat} {T v : Nat → Int32} {x : Int32} (b0 : N ≤ 4) (b1 : D ≤ 6) (k1 : gi S0 9 0 0 = Int32.ofNat D) (c5 : Cdr N D (gi S0 10 0) (gi S0 11 0) (gi S0 12 0) (gi S0 13 0) T) (h3 : ∀ s, s < N → gi S0 3 0 s = T (8 + s)) (hv : ∀ i, i < N → gi S0 26 (0 + 1) i = v i) (hx : (T 123 = 1 ∧ x = Int32.ofNat (2 ^ N - 1)) ∨ (¬ T 123 = 1 ∧ x = 0)) : ∀ (r j n : Nat) (S : St) (M : Nat → Int64), j + r = D → r < n → Fr WM S0 S → gi S 2 0 = gi S0 2 0 → gr S 2 0 = gr S0 2 0 → Csu (gl S 6 0) (gl S 7 0) (gl S 2 0 6) M → ∃ S', Fr WM S0 S' ∧ gi S' 2 0 = gi S0 2 0 ∧ gr S' 2 0 = gr S0 2 0 ∧ Csu (gl S' 6 0) (gl S' 7 0) (gl S' 2 0 6) (hM T v N r j M) ∧ ∀ K, f_X2_runHour_105 0 x K n (Int32.ofNat j) S = K S' := by
  intro r
  induction r with
  | zero =>
    intro j n S M hj hn f e1 e2 cs
    obtain ⟨n, rfl⟩ : ∃ m, n = m + 1 := ⟨n - 1, by omega⟩
    refine ⟨S, f, e1, e2, cs, fun K => ?_⟩
    rw [f_X2_runHour_105, (f 9 0 (by unfold WM; omega)).1, k1, brp ((zLE (by omega) (by omega)).mpr (by omega))]
  | succ r ih =>
    intro j n S M hj hn f e1 e2 cs
    obtain ⟨n, rfl⟩ : ∃ m, n = m + 1 := ⟨n - 1, by omega⟩
    have f9 : ∀ k, k ≠ 2 → k ≠ 6 → k ≠ 7 → ∀ y, gi S k y = gi S0 k y := fun k q1 q2 q3 y => (f k y (by unfold WM; omega)).1
    have lt := (c5 j (by omega)).2.2.2.2.2.1
    have pl : f_X3_placeOf 0 (Int32.ofNat j) (0 + 1) x S = some (whF T (gi S 26 (0 + 1)) N j) := e_placeOf b0 b1 (by omega) (by rw [f9 10 (by omega) (by omega) (by omega), f9 11 (by omega) (by omega) (by omega), f9 12 (by omega) (by omega) (by omega), f9 13 (by omega) (by omega) (by omega)]; exact c5) hx
    have v26 : ∀ i, i < N → gi S 26 (0 + 1) i = v i := fun i hi => by rw [f9 26 (by omega) (by omega) (by omega)]; exact hv i hi
    have wv9 : whF T (gi S 26 (0 + 1)) N j = whF T v N j := whF_cg lt b0 v26
    obtain ⟨d, hd, ed⟩ := whF_lt (pr := v) lt b0
    have id4 : inb (Int32.ofNat d) 4 = true := ib (by omega) (by omega)
    have zd : nn (Int32.ofNat d) = d := zN (by omega)
    have a3 : gi S 3 0 d = T (8 + d) := by rw [f9 3 (by omega) (by omega) (by omega)]; exact h3 d hd
    have a10 : gi S 10 0 j = T (28 + 4 * j) := by rw [f9 10 (by omega) (by omega) (by omega)]; exact (c5 j (by omega)).1
    have se : f_X2_sell 0 (Int32.ofNat d) (T (28 + 4 * j)) S = some (sl (sl (sl S 6 0 d (gl S 6 0 d + Int32.toInt64 (T (28 + 4 * j) * (v d - T (8 + d))))) 7 0 d (gl S 7 0 d + Int32.toInt64 (T (28 + 4 * j)))) 2 0 6 (gl S 2 0 6 + Int32.toInt64 (T (28 + 4 * j) * v d))) := by
      unfold f_X2_sell
      have q1 : ∀ X : Int64, gl (sl S 6 0 d X) 7 0 d = gl S 7 0 d := fun _ => rfl
      have q2 : ∀ X Y : Int64, gl (sl (sl S 6 0 d X) 7 0 d Y) 2 0 6 = gl S 2 0 6 := fun _ _ => rfl
      have q3 : ∀ X Y : Int64, gi (sl (sl S 6 0 d X) 7 0 d Y) 26 (0 + 1) d = v d := fun _ _ => v26 d hd
      simp only [bvN, ck_t id4, zd, v26 d hd, a3, q1, q2, q3]
    obtain ⟨S', g1, g2, g3, g4, g5⟩ := ih (j + 1) n (sl (sl (sl S 6 0 d (gl S 6 0 d + Int32.toInt64 (T (28 + 4 * j) * (v d - T (8 + d))))) 7 0 d (gl S 7 0 d + Int32.toInt64 (T (28 + 4 * j)))) 2 0 6 (gl S 2 0 6 + Int32.toInt64 (T (28 + 4 * j) * v d))) (stM T v d j M) (by omega) (by omega) (f.tr ((Fr.sl ⟨by omega, rfl⟩).tr ((Fr.sl ⟨by omega, rfl⟩).tr (Fr.sl ⟨by omega, rfl⟩)))) e1 e2 (stM_cs (by omega) cs)
    refine ⟨S', g1, g2, g3, ?_, fun K => ?_⟩
    · rw [hM, ed, zd]; exact g4
    · rw [f_X2_runHour_105, f9 9 (by omega) (by omega) (by omega), k1, brn (fun z => absurd ((zLE (by omega) (by omega)).mp z) (by omega)), pl, onS, wv9, ed, ck_t (ib (by omega) (by omega)), zN (show j < 2147483648 by omega), a10, se, onS, bvN, zp1]
      exact g5 K
theorem ho133 {Z0 : St} {N D : Nat} {T v : Nat → Int32} {mn hb kn dt : Nat → Int32} (b0 : N ≤ 4) (b1 : D ≤ 6) (eT : gi Z0 61 0 = T) (n0 : T 0 = Int32.ofNat N) (n1 : T 1 = Int32.ofNat D) (c5 : Cdr N D mn hb kn dt T) (hv : ∀ i, i < N → gi Z0 70 0 i = v i) : ∀ (r j n : Nat) (Z : St) (M : Nat → Int64), j + r = D → r < n → Fr (fun k x => k = 63 ∧ x = 0) Z0 Z → gl Z 63 0 = M → ∃ Z', Fr (fun k x => k = 63 ∧ x = 0) Z0 Z' ∧ gl Z' 63 0 = hM T v N r j M ∧ ∀ K, f_X12_hour_133 0 K n (Int32.ofNat j) Z = K Z' := by
  intro r
  induction r with
  | zero =>
    intro j n Z M hj hn f eM
    obtain ⟨n, rfl⟩ : ∃ m, n = m + 1 := ⟨n - 1, by omega⟩
    refine ⟨Z, f, eM, fun K => ?_⟩
    rw [f_X12_hour_133, ck_t (by decide), (f 61 0 (by omega)).1, eT, show T (nn 1) = Int32.ofNat D from n1, brp ((zLE (by omega) (by omega)).mpr (by omega))]
  | succ r ih =>
    intro j n Z M hj hn f eM
    obtain ⟨n, rfl⟩ : ∃ m, n = m + 1 := ⟨n - 1, by omega⟩
    have e61 : gi Z 61 0 = T := by rw [(f 61 0 (by omega)).1, eT]
    have lt := (c5 j (by omega)).2.2.2.2.2.1
    have v70 : ∀ i, i < N → gi Z 70 0 i = v i := fun i hi => by rw [(f 70 0 (by omega)).1]; exact hv i hi
    have wh : f_X12_where 0 (Int32.ofNat j) Z = some (whF T v N j) := by
      rw [e_where b0 b1 (show j < D by omega) (by rw [e61]; exact n0) (by rw [e61]; exact c5), e61, whF_cg lt b0 v70]
    obtain ⟨d, hd, ed⟩ := whF_lt (pr := v) lt b0
    have i4 : inb (Int32.ofNat d) 4 = true := ib (by omega) (by omega)
    have i9 : inb (Int32.ofNat d) 9 = true := ib (by omega) (by omega)
    have i8 : inb (8 + Int32.ofNat d) 3179 = true := ibA (by omega) (by omega)
    have zd : nn (Int32.ofNat d) = d := zN (by omega)
    have z8 : nn (8 + Int32.ofNat d) = 8 + d := nA (by omega)
    have a4 : (4 + Int32.ofNat d : Int32) = Int32.ofNat (4 + d) := by rw [zA]
    have i49 : inb (Int32.ofNat (4 + d)) 9 = true := ib (by omega) (by omega)
    have z4 : nn (Int32.ofNat (4 + d)) = 4 + d := zN (by omega)
    have i89 : inb 8 9 = true := by decide
    have n8 : nn (8 : Int32) = 8 := rfl
    have ak : (28 + 4 * Int32.ofNat j : Int32) = Int32.ofNat (28 + 4 * j) := by rw [zMu, zA]
    have ik : inb (Int32.ofNat (28 + 4 * j)) 3179 = true := ib (by omega) (by omega)
    have zk : nn (Int32.ofNat (28 + 4 * j)) = 28 + 4 * j := zN (by omega)
    have p1 : ∀ X : Int64, gl (sl Z 63 0 d X) 63 0 (4 + d) = M (4 + d) := fun X => by
      show vp_updL (gl Z 63 0) d X (4 + d) = _
      rw [updL_ne (by omega), eM]
    have p2 : ∀ X Y : Int64, gl (sl (sl Z 63 0 d X) 63 0 (4 + d) Y) 63 0 8 = M 8 := fun X Y => by
      show vp_updL (vp_updL (gl Z 63 0) d X) (4 + d) Y 8 = _
      rw [updL_ne (by omega), updL_ne (by omega), eM]
    have p3 : ∀ X Y : Int64, gi (sl (sl Z 63 0 d X) 63 0 (4 + d) Y) 70 0 d = v d := fun _ _ => v70 d hd
    have pM : gl Z 63 0 d = M d := by rw [eM]
    obtain ⟨Z', g1, g2, g3⟩ := ih (j + 1) n (sl (sl (sl Z 63 0 d (M d + Int32.toInt64 (T (28 + 4 * j) * (v d - T (8 + d))))) 63 0 (4 + d) (M (4 + d) + Int32.toInt64 (T (28 + 4 * j)))) 63 0 8 (M 8 + Int32.toInt64 (T (28 + 4 * j) * v d))) (stM T v d j M) (by omega) (by omega) (f.tr ((Fr.sl ⟨rfl, rfl⟩).tr ((Fr.sl ⟨rfl, rfl⟩).tr (Fr.sl ⟨rfl, rfl⟩)))) (by
      show vp_updL (vp_updL (vp_updL (gl Z 63 0) d _) (4 + d) _) 8 _ = _
      rw [eM]; rfl)
    refine ⟨Z', g1, ?_, fun K => ?_⟩
    · rw [hM, ed, zd]; exact g2
    · rw [f_X12_hour_133, ck_t (by decide), e61, show T (nn 1) = Int32.ofNat D from n1, brn (fun z => absurd ((zLE (by omega) (by omega)).mp z) (by omega)), wh, onS, ed]
      simp only [bvN, ak, zk, a4, z4, n8, z8, zd, zp1, ck_t i4, ck_t i9, ck_t i8, ck_t i49, ck_t i89, ck_t ik, e61, pM, v70 d hd, p1, p2, p3]
      exact g3 K
end
