-- parts of the invariant when told changes elsewhere
section CGT
variable {T T' : Nat → Int32} {N D h lv ri to ch : Nat}
theorem Cn.cg (e : ∀ i, i < 7 → T' i = T i) (q : Cn T N D h lv ri to ch) : Cn T' N D h lv ri to ch := by
  unfold Cn at q ⊢
  rw [e 0 (by omega), e 1 (by omega), e 2 (by omega), e 3 (by omega), e 4 (by omega), e 5 (by omega), e 6 (by omega)]
  exact q
theorem Cst.cg {co la cg : Nat → Int32} (hN : N ≤ 4) (e : ∀ i, (8 ≤ i ∧ i < 12 ∨ 16 ≤ i ∧ i < 20 ∨ 24 ≤ i ∧ i < 28) → T' i = T i) (q : Cst N h co la cg T) : Cst N h co la cg T' := fun s hs => by
  rw [e (8 + s) (by omega), e (16 + s) (by omega), e (24 + s) (by omega)]
  exact q s hs
theorem Cdr.cg {mn hb kn dt : Nat → Int32} (hD : D ≤ 6) (e : ∀ i, (28 ≤ i ∧ i < 52) → T' i = T i) (q : Cdr N D mn hb kn dt T) : Cdr N D mn hb kn dt T' := fun k hk => by
  rw [e (28 + 4 * k) (by omega), e (28 + 4 * k + 1) (by omega), e (28 + 4 * k + 2) (by omega), e (28 + 4 * k + 3) (by omega)]
  exact q k hk
theorem Chr.cg {pr ah : Nat → Int32} (hN : N ≤ 4) (e : ∀ i, (12 ≤ i ∧ i < 16 ∨ 20 ≤ i ∧ i < 24 ∨ 1885 ≤ i ∧ i < 2909) → T' i = T i) (q : Chr N h pr ah T) : Chr N h pr ah T' := by
  obtain ⟨q1, q2, q3⟩ := q
  refine ⟨fun s hs => ?_, fun k s hk h2 hs => ?_, fun s hs => ?_⟩
  · rw [e (20 + s) (by omega)]; exact q1 s hs
  · rw [e (1885 + 4 * k + s) (by omega)]; exact q2 k s hk h2 hs
  · rw [e (12 + s) (by omega), e (20 + s) (by omega), e (1885 + 4 * ((h - 1) % 256) + s) (by omega)]; exact q3 s hs
theorem Cto.cg {pr ah : Nat → Int32} (hN : N ≤ 4) (ht : to ≤ 60) (e : ∀ i, (2909 ≤ i ∧ i < 3149) → T' i = T i) (q : Cto N to pr ah T) : Cto N to pr ah T' := by
  obtain ⟨q1, q2⟩ := q
  refine ⟨fun k s hk hs => ?_, fun h0 s hs => ?_⟩
  · rw [e (2909 + 4 * k + s) (by omega)]; exact q1 k s hk hs
  · rw [e (2909 + s) (by omega)]; exact q2 h0 s hs
theorem Cch.cg {st hr by_ : Nat → Int32} (hc : ch ≤ 10) (e : ∀ i, (3149 ≤ i ∧ i < 3179) → T' i = T i) (q : Cch N h ch st hr by_ T) : Cch N h ch st hr by_ T' := fun k hk => by
  rw [e (3149 + 3 * k) (by omega), e (3149 + 3 * k + 1) (by omega), e (3149 + 3 * k + 2) (by omega)]
  exact q k hk
theorem Clv.cg {l : Nat → Int32} (hl : lv ≤ 8) (e : ∀ i, (52 ≤ i ∧ i < 60) → T' i = T i) (q : Clv lv l T) : Clv lv l T' := fun i hi => by
  rw [e (52 + i) (by omega)]
  exact q i hi
theorem lagsOf.cg (hr : ri ≤ 6) (e : ∀ i, (60 ≤ i ∧ i < 78) → T' i = T i) : lagsOf T' ri = lagsOf T ri := by
  unfold lagsOf
  rw [List.map_congr_left (fun i hi => e (60 + i) (by have := List.mem_range.mp hi; omega))]
theorem Cri.cg {lm : Int32} {lg : Nat → Int32} (hr : ri ≤ 6) (e : ∀ i, (60 ≤ i ∧ i < 78) → T' i = T i) (q : Cri ri lm lg T) : Cri ri lm lg T' := by
  unfold Cri at q ⊢
  rw [lagsOf.cg hr e]
  exact q
theorem Cwe.cg {w0 w1 : Nat → Int32} (e : ∀ i, (78 ≤ i ∧ i < 120) → T' i = T i) (q : Cwe w0 w1 T) : Cwe w0 w1 T' := fun i hi => by
  rw [e (78 + i) (by omega), e (99 + i) (by omega)]
  exact q i hi
theorem Cla.cg {L : Option Nat} {o : Nat → Nat → Int32} (e : ∀ i, (120 ≤ i ∧ i < 125) → T' i = T i) (q : Cla L o T) : Cla L o T' := by
  unfold Cla at q ⊢
  rw [e 120 (by omega), e 121 (by omega), e 122 (by omega), e 123 (by omega), e 124 (by omega)]
  exact q
theorem Cru1.cg {rs : List Ru} {nt ns a : Nat} {tk st : Nat → Int32} (e : ∀ i, (a ≤ i ∧ i < a + 440) → T' i = T i) (q : Cru1 rs nt ns tk st T a) : Cru1 rs nt ns tk st T' a := by
  obtain ⟨q1, q2, q3, q4, q5, q6, q7, q8, q9, q10⟩ := q
  exact ⟨q1, q2, q3, q4, q5, q6, q7, q8, by rw [e a (by omega)]; exact q9, fun i hi => by rw [e (a + 1 + i) (by omega)]; exact q10 i hi⟩
theorem Cru.cg {R : Nat → Option Nat} {S : St} (hN : N ≤ 4) (e : ∀ i, (125 ≤ i ∧ i < 1885) → T' i = T i) (q : Cru N R S T) : Cru N R S T' := by
  refine ⟨q.1, fun s hs => ?_⟩
  have := q.2 s hs
  cases hr : R s with
  | none => rw [hr] at this; show T' (125 + 440 * s) = 0; rw [e (125 + 440 * s) (by omega)]; exact this
  | some r =>
    rw [hr] at this
    obtain ⟨rs, h9⟩ := this
    exact ⟨rs, h9.cg (fun i hi => e i (by omega))⟩
end CGT
theorem upd_ne {f : Nat → Int32} {k i : Nat} {v : Int32} (h : i ≠ k) : upd f k v i = f i := if_neg h
theorem upd_eq {f : Nat → Int32} {k : Nat} {v : Int32} : upd f k v k = v := if_pos rfl
theorem updL_ne {f : Nat → Int64} {k i : Nat} {v : Int64} (h : i ≠ k) : vp_updL f k v i = f i := if_neg h
theorem updL_eq {f : Nat → Int64} {k : Nat} {v : Int64} : vp_updL f k v k = v := if_pos rfl
-- CASES: fault, upper, lower, count
theorem pc_7 {t : Nat} {S : St} {a1 a2 a3 a4 a5 : Int32} (h : Inv t S) : Ok (fc_7 (t + 1) a1 a2 a3 a4 a5 S) (Inv (t + 1)) := by
  have hI := (h.thr (v := 0)).t (Nat.le_succ t)
  obtain ⟨n, r1, r2, r3, r4, r5, r6⟩ := h.2.2.1
  unfold fc_7 f_X11_fault f_X12_fault
  by_cases h0 : a1 = 0
  · rw [brp h0]
    show Ok (on2 (br (a1 = 0) (some (gi S 60 0 18, si S 60 0 5 0)) _) _) _
    rw [brp h0]
    show Ok (br (gi S 28 0 6 = gi S 60 0 18) _ _) _
    rw [brp r5]; exact Ok.sm hI
  · rw [brn h0]
    by_cases h1 : a1 = 1
    · rw [brp h1]
      show Ok (on2 (br (a1 = 0) _ (br (a1 = 1) (some (gi S 60 0 19, si S 60 0 5 0)) _)) _) _
      rw [brn h0, brp h1]
      show Ok (br (gi S 28 0 7 = gi S 60 0 19) _ _) _
      rw [brp r6]; exact Ok.sm hI
    · rw [brn h1]
      show Ok (on2 (br (a1 = 0) _ (br (a1 = 1) _ (some (-1, si S 60 0 5 0)))) _) _
      rw [brn h0, brn h1]
      show Ok (br ((-1 : Int32) = -1) _ _) _
      rw [brp rfl]; exact Ok.sm hI
theorem pc_17 {t : Nat} {S : St} {a1 a2 a3 a4 a5 : Int32} (h : Inv t S) : Ok (fc_17 (t + 1) a1 a2 a3 a4 a5 S) (Inv (t + 1)) := by
  show Ok (br ((lg_cmp (gl S 0 0 6) (gl S 60 0 26)) = 0) (some (si S 60 0 5 0)) none) _
  rw [brp ((lg_cmp_eq _ _).mpr h.2.2.2.1.1)]
  exact Ok.sm ((h.thr (v := 0)).t (Nat.le_succ t))
theorem pc_18 {t : Nat} {S : St} {a1 a2 a3 a4 a5 : Int32} (h : Inv t S) : Ok (fc_18 (t + 1) a1 a2 a3 a4 a5 S) (Inv (t + 1)) := by
  show Ok (br ((lg_cmp (gl S 0 0 7) (gl S 60 0 27)) = 0) (some (si S 60 0 5 0)) none) _
  rw [brp ((lg_cmp_eq _ _).mpr h.2.2.2.1.2)]
  exact Ok.sm ((h.thr (v := 0)).t (Nat.le_succ t))
theorem zmn {a b : Nat} (ha : a < 2147483648) (hb : b < 2147483648) : mnI (Int32.ofNat a) (Int32.ofNat b) = Int32.ofNat (min a b) := by
  show (if Int32.ofNat b < Int32.ofNat a then Int32.ofNat b else Int32.ofNat a) = _
  by_cases hc : b < a
  · rw [if_pos ((zL hb ha).mpr hc), Nat.min_eq_right (by omega)]
  · rw [if_neg (fun z => hc ((zL hb ha).mp z)), Nat.min_eq_left (by omega)]
theorem pc_39 {t : Nat} {S : St} {a1 a2 a3 a4 a5 : Int32} (h : Inv t S) : Ok (fc_39 (t + 1) a1 a2 a3 a4 a5 S) (Inv (t + 1)) := by
  have hI := (h.thr (v := 0)).t (Nat.le_succ t)
  obtain ⟨n9, r1, r2, r3, r4, r5, r6⟩ := h.2.2.1
  obtain ⟨N, D, hh, lv, ri, to, ch, ⟨⟨n0, b0⟩, ⟨n1, b1⟩, ⟨n2, b2⟩, ⟨n3, b3⟩, ⟨n4, b4⟩, ⟨n5, b5⟩, ⟨n6, b6⟩⟩, ⟨k0, k1, k2, k3, k4, k5, k6, k7, k8, -⟩, -, ⟨-, su⟩, -⟩ := h.1
  have fin : ∀ (x y : Int64), x = y → Ok (br ((lg_cmp x y) = 0) (some (si S 60 0 5 0)) none) (Inv (t + 1)) := fun x y e => by
    rw [brp ((lg_cmp_eq _ _).mpr e)]; exact Ok.sm hI
  unfold fc_39 f_X11_count f_X12_count
  by_cases c0 : a1 = 0
  · rw [brp c0]
    show Ok (on2 (br (a1 = 0) (ck _ (some (Int32.toInt64 (gi S 61 0 0), si S 60 0 5 0))) _) _) _
    rw [brp c0, ck_t (by decide)]
    exact fin _ _ (by rw [k0, n0])
  rw [brn c0]
  by_cases c1 : a1 = 1
  · rw [brp c1]
    show Ok (on2 (br (a1 = 0) _ (br (a1 = 1) (ck _ (some (Int32.toInt64 (gi S 61 0 1), si S 60 0 5 0))) _)) _) _
    rw [brn c0, brp c1, ck_t (by decide)]
    exact fin _ _ (by rw [k1, n1])
  rw [brn c1]
  by_cases c2 : a1 = 2
  · rw [brp c2]
    show Ok (on2 (br (a1 = 0) _ (br (a1 = 1) _ (br (a1 = 2) (ck _ (some (Int32.toInt64 (gi S 61 0 2), si S 60 0 5 0))) _))) _) _
    rw [brn c0, brn c1, brp c2, ck_t (by decide)]
    exact fin _ _ (by rw [show (2 * 0) = 0 from rfl] at k2; rw [show gi S 14 (2 * 0) 3 = Int32.ofNat hh from k2, n2])
  rw [brn c2]
  by_cases c3 : a1 = 3
  · rw [brp c3]
    show Ok (on2 (br (a1 = 0) _ (br (a1 = 1) _ (br (a1 = 2) _ (br (a1 = 3) (ck _ (some (Int32.toInt64 (mnI 256 (gi S 61 0 2)), si S 60 0 5 0))) _)))) _) _
    rw [brn c0, brn c1, brn c2, brp c3, ck_t (by decide)]
    refine fin (Int32.toInt64 (mnI (gi S 14 (2 * 0) 3) (gi S 14 (2 * 0) 0))) _ ?_
    rw [k2, k7, n2]
    show Int32.toInt64 (mnI (Int32.ofNat hh) (Int32.ofNat 256)) = Int32.toInt64 (mnI (Int32.ofNat 256) (Int32.ofNat hh))
    rw [zmn (by omega) (by omega), zmn (by omega) (by omega), Nat.min_comm]
  rw [brn c3]
  by_cases c4 : a1 = 4
  · rw [brp c4]
    show Ok (on2 (br (a1 = 0) _ (br (a1 = 1) _ (br (a1 = 2) _ (br (a1 = 3) _ (br (a1 = 4) (ck _ (some (Int32.toInt64 (gi S 61 0 3), si S 60 0 5 0))) _))))) _) _
    rw [brn c0, brn c1, brn c2, brn c3, brp c4, ck_t (by decide)]
    exact fin _ _ (by rw [k3, n3])
  rw [brn c4]
  by_cases c5 : a1 = 5
  · rw [brp c5]
    show Ok (on2 (br (a1 = 0) _ (br (a1 = 1) _ (br (a1 = 2) _ (br (a1 = 3) _ (br (a1 = 4) _ (br (a1 = 5) (ck _ (some (Int32.toInt64 (gi S 61 0 4), si S 60 0 5 0))) _)))))) _) _
    rw [brn c0, brn c1, brn c2, brn c3, brn c4, brp c5, ck_t (by decide)]
    exact fin _ _ (by rw [k4, n4])
  rw [brn c5]
  by_cases c6 : a1 = 6
  · rw [brp c6]
    show Ok (on2 (br (a1 = 0) _ (br (a1 = 1) _ (br (a1 = 2) _ (br (a1 = 3) _ (br (a1 = 4) _ (br (a1 = 5) _ (br (a1 = 6) (ck _ (some (Int32.toInt64 (gi S 61 0 5), si S 60 0 5 0))) _))))))) _) _
    rw [brn c0, brn c1, brn c2, brn c3, brn c4, brn c5, brp c6, ck_t (by decide)]
    exact fin _ _ (by rw [k5, n5])
  rw [brn c6]
  by_cases c7 : a1 = 7
  · rw [brp c7]
    show Ok (on2 (br (a1 = 0) _ (br (a1 = 1) _ (br (a1 = 2) _ (br (a1 = 3) _ (br (a1 = 4) _ (br (a1 = 5) _ (br (a1 = 6) _ (br (a1 = 7) (ck _ (some (gl S 63 0 8, si S 60 0 5 0))) _)))))))) _) _
    rw [brn c0, brn c1, brn c2, brn c3, brn c4, brn c5, brn c6, brp c7, ck_t (by decide)]
    exact fin _ _ su
  rw [brn c7]
  by_cases c8 : a1 = 8
  · rw [brp c8]
    show Ok (on2 (br (a1 = 0) _ (br (a1 = 1) _ (br (a1 = 2) _ (br (a1 = 3) _ (br (a1 = 4) _ (br (a1 = 5) _ (br (a1 = 6) _ (br (a1 = 7) _ (br (a1 = 8) (some (Int32.toInt64 (gi S 60 0 9), si S 60 0 5 0)) _))))))))) _) _
    rw [brn c0, brn c1, brn c2, brn c3, brn c4, brn c5, brn c6, brn c7, brp c8]
    exact fin _ _ (by rw [r1, r2])
  rw [brn c8]
  by_cases c9 : a1 = 9
  · rw [brp c9]
    show Ok (on2 (br (a1 = 0) _ (br (a1 = 1) _ (br (a1 = 2) _ (br (a1 = 3) _ (br (a1 = 4) _ (br (a1 = 5) _ (br (a1 = 6) _ (br (a1 = 7) _ (br (a1 = 8) _ (br (a1 = 9) (ck _ (some (Int32.toInt64 (gi S 61 0 6), si S 60 0 5 0))) _)))))))))) _) _
    rw [brn c0, brn c1, brn c2, brn c3, brn c4, brn c5, brn c6, brn c7, brn c8, brp c9, ck_t (by decide)]
    exact fin _ _ (by rw [k6, n6])
  rw [brn c9]
  show Ok (on2 (br (a1 = 0) _ (br (a1 = 1) _ (br (a1 = 2) _ (br (a1 = 3) _ (br (a1 = 4) _ (br (a1 = 5) _ (br (a1 = 6) _ (br (a1 = 7) _ (br (a1 = 8) _ (br (a1 = 9) _ (some (-1, si S 60 0 5 0)))))))))))) _) _
  rw [brn c0, brn c1, brn c2, brn c3, brn c4, brn c5, brn c6, brn c7, brn c8, brn c9]
  exact fin _ _ rfl
