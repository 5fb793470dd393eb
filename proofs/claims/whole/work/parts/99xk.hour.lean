section
-- AN HOUR, by class and reference
theorem Cch.h {N h ch : Nat} {st hr by_ T : Nat → Int32} (q : Cch N h ch st hr by_ T) : Cch N (h + 1) ch st hr by_ T := fun k hk => by
  obtain ⟨q1, q2, q3, q4, ⟨d, hd, ed⟩, q6⟩ := q k hk
  exact ⟨q1, q2, q3, q4, ⟨d, by omega, ed⟩, q6⟩
/-- rows that an hour writes in the class -/
def WH (k x : Nat) : Prop := (k = 26 ∧ x = 1) ∨ (k = 27 ∧ x = 0) ∨ ((k = 2 ∨ k = 5 ∨ k = 6 ∨ k = 7 ∨ k = 14 ∨ k = 15) ∧ x = 0)
theorem hour_two {t h : Nat} {S : St} {T : Nat → Int32} {M : Nat → Int64} (q : Cr t S 0 T M) (eh : T 2 = Int32.ofNat h) (hh : h < 3000) : ∃ (S' : St) (T' : Nat → Int32) (M' : Nat → Int64), f_X2_runHour 0 S = some S' ∧ Cr t S' 0 T' M' ∧ T' 2 = Int32.ofNat (h + 1) ∧ Fr WH S S' ∧ ∀ Z : St, gi Z 61 0 = T → gl Z 63 0 = M → ∃ Z', f_X12_hour 0 Z = some Z' ∧ gi Z' 61 0 = T' ∧ gl Z' 63 0 = M' ∧ Fr WZ Z Z' ∧ (∀ i, i ≠ 23 → gi Z' 60 0 i = gi Z 60 0 i) ∧ gl Z' 60 0 = gl Z 60 0 := by
  have F : FU = 100000 := rfl
  obtain ⟨N, D, h9, lv, ri, to, ch, c1, c2, c3, c4, c5, c6, c7, c8, c9, c10, c11, c12, c13, c14, c15⟩ := q
  have b0 := c1.1.2
  have n0 := c1.1.1
  have b1 := c1.2.1.2
  have n1 := c1.2.1.1
  have n2 := c1.2.2.1.1
  have b9 := c1.2.2.1.2
  obtain rfl : h9 = h := (zE (by omega) (by omega)).mp (n2.symm.trans eh)
  obtain ⟨d0, d1, d2, d3, d4, d5, d6, d7, d8, d9, d10⟩ := id c2
  -- the prices
  obtain ⟨v, hv⟩ := Classical.axiomOfChoice (r := fun (a : Nat) (v : Int32) => a < N → (Pr v ∧ (∀ S1, Fr WD S S1 → ∃ (sc : Int32) (S' : St), f_X11_sinceIn (Int32.ofNat h9) (gi S1 5 0 a) S1 = some sc ∧ f_X2_decide 0 (2 * 0) (Int32.ofNat a) (Int32.ofNat h9) sc S1 = some (v, S') ∧ Fr (fun k x => k = 27 ∧ x = 0) S1 S') ∧ ∀ Z : St, gi Z 61 0 = T → gi Z 60 0 23 = 0 → ∃ Z', f_X12_makes 0 (Int32.ofNat a) (Int32.ofNat h9) Z = some (v, Z') ∧ Fr (fun k x => k = 69 ∧ x = 0) Z Z')) (fun a => by
    by_cases ha : a < N
    · obtain ⟨v, hv⟩ := dec_all d7 d9 c6 b0 b9 d0 n0 c3 c12 c13 ha
      exact ⟨v, fun _ => hv⟩
    · exact ⟨0, fun z => absurd z ha⟩)
  obtain ⟨S1, f1, w1, g1⟩ := rh10 (S0 := S) (h := h9) (v := v) b0 d0 (fun a ha => (hv a ha).2.1) N 0 FU S (by omega) (by omega) Fr.rf (fun i hi => absurd hi (by omega))
  have r1 : ∀ k x, k ≠ 26 → k ≠ 27 → gi S1 k x = gi S k x ∧ gl S1 k x = gl S k x ∧ gr S1 k x = gr S k x ∧ gn S1 k x = gn S k x := fun k x h1 h2 => f1 k x (by unfold WD; omega)
  obtain ⟨S2, f2, w2, g2⟩ := rh52 (S0 := S1) (h := h9) (T := T) (v := v) b0 b9 (by rw [(r1 2 0 (by omega) (by omega)).1]; exact d0) (by rw [(r1 14 _ (by omega) (by omega)).1]; exact d7) (by rw [(r1 15 _ (by omega) (by omega)).2.2.2]; exact d9) (by rw [(r1 14 _ (by omega) (by omega)).1]; exact d2) (by rw [(r1 15 _ (by omega) (by omega)).1, (r1 16 _ (by omega) (by omega)).1]; exact c6) w1 N 0 FU S1 (by omega) (by omega) Fr.rf (fun i h4 => by rw [if_neg (fun z => absurd z.1 (by omega))])
  have r2 : ∀ k x, k ≠ 26 → k ≠ 27 → k ≠ 5 → gi S2 k x = gi S k x ∧ gl S2 k x = gl S k x ∧ gr S2 k x = gr S k x ∧ gn S2 k x = gn S k x := fun k x h1 h2 h3 => by
    obtain ⟨a1, a2, a3, a4⟩ := f2 k x (by omega)
    obtain ⟨y1, y2, y3, y4⟩ := r1 k x h1 h2
    exact ⟨a1.trans y1, a2.trans y2, a3.trans y3, a4.trans y4⟩
  obtain ⟨S3, e3, f3, g14, g143, g15, gn15⟩ := ad_hour (S := S2) (h := h9) (by rw [(r2 14 _ (by omega) (by omega) (by omega)).1]; exact d7) (by rw [(r2 15 _ (by omega) (by omega) (by omega)).2.2.2]; exact d9) (by rw [(r2 14 _ (by omega) (by omega) (by omega)).1]; exact d2) b9
  have r3 : ∀ k x, k ≠ 26 → k ≠ 27 → k ≠ 5 → ¬ ((k = 14 ∨ k = 15) ∧ x = 0) → gi S3 k x = gi S k x ∧ gl S3 k x = gl S k x ∧ gr S3 k x = gr S k x ∧ gn S3 k x = gn S k x := fun k x h1 h2 h3 h4 => by
    obtain ⟨a1, a2, a3, a4⟩ := f3 k x h4
    obtain ⟨y1, y2, y3, y4⟩ := r2 k x h1 h2 h3
    exact ⟨a1.trans y1, a2.trans y2, a3.trans y3, a4.trans y4⟩
  have R3 : ∀ k, k ≠ 26 → k ≠ 27 → k ≠ 5 → k ≠ 14 → k ≠ 15 → ∀ x, gi S3 k x = gi S k x := fun k h1 h2 h3 h4 h5 x => (r3 k x h1 h2 h3 (by omega)).1
  have v26 : ∀ i, i < N → gi S3 26 (0 + 1) i = v i := fun i hi => by
    rw [(f3 26 _ (by omega)).1, (f2 26 _ (by omega)).1]; exact w1 i hi
  have o : ∀ i, (i < 12 ∨ 16 ≤ i) → (i < 24 ∨ 28 ≤ i) → (i < 1885 ∨ 2909 ≤ i) → hT T v h9 N i = T i := fun i h1 h2 h3 => hT_o (by omega) (by omega) (by omega)
  have c5' : Cdr N D (gi S 10 0) (gi S 11 0) (gi S 12 0) (gi S 13 0) (hT T v h9 N) := c5.cg b1 (fun i hi => o i (by omega) (by omega) (by omega))
  have c12' : Cla (gr S 2 0 8) (gi S 35) (hT T v h9 N) := c12.cg (fun i hi => o i (by omega) (by omega) (by omega))
  obtain ⟨x, ex, hx⟩ := e_known (S := S3) (T := hT T v h9 N) (N := N) (by rw [R3 2 (by omega) (by omega) (by omega) (by omega) (by omega)]; exact d0) b0 (by rw [(r3 2 0 (by omega) (by omega) (by omega) (by omega)).2.2.1, show gi S3 35 = gi S 35 from funext fun y => R3 35 (by omega) (by omega) (by omega) (by omega) (by omega) y]; exact c12')
  obtain ⟨S4, f4, e42, e4r, cs, g4⟩ := rh105 (S0 := S3) (T := hT T v h9 N) (v := v) (x := x) (N := N) (D := D) b0 b1 (by rw [R3 9 (by omega) (by omega) (by omega) (by omega) (by omega)]; exact d1) (by rw [R3 10 (by omega) (by omega) (by omega) (by omega) (by omega), R3 11 (by omega) (by omega) (by omega) (by omega) (by omega), R3 12 (by omega) (by omega) (by omega) (by omega) (by omega), R3 13 (by omega) (by omega) (by omega) (by omega) (by omega)]; exact c5') (fun s hs => by rw [R3 3 (by omega) (by omega) (by omega) (by omega) (by omega), o (8 + s) (by omega) (by omega) (by omega)]; exact (c3 s hs).1) v26 hx D 0 FU S3 M (by omega) (by omega) Fr.rf rfl rfl (by rw [(r3 6 0 (by omega) (by omega) (by omega) (by omega)).2.1, (r3 7 0 (by omega) (by omega) (by omega) (by omega)).2.1, (r3 2 0 (by omega) (by omega) (by omega) (by omega)).2.1]; exact c4)
  rw [show Int32.ofNat 0 = (0 : Int32) from rfl] at g1 g2 g4
  have r : ∀ k x, ¬ WH k x → gi S4 k x = gi S k x ∧ gl S4 k x = gl S k x ∧ gr S4 k x = gr S k x ∧ gn S4 k x = gn S k x := by
    refine ((f1.mono (fun k x hw => ?_)).tr ((f2.mono (fun k x hw => ?_)).tr ((f3.mono (fun k x hw => ?_)).tr (f4.mono (fun k x hw => ?_)))) : Fr WH S S4)
    · unfold WD at hw; unfold WH; omega
    · unfold WH; omega
    · unfold WH; omega
    · unfold WM at hw; unfold WH; omega
  have G : ∀ k x, ¬ WH k x → gi S4 k x = gi S k x := fun k x hk => (r k x hk).1
  have i2 : gi S4 2 0 = gi S 2 0 := by rw [e42, R3 2 (by omega) (by omega) (by omega) (by omega) (by omega)]
  have j2 : gr S4 2 0 = gr S 2 0 := by rw [e4r, (r3 2 0 (by omega) (by omega) (by omega) (by omega)).2.2.1]
  have i5 : ∀ s, s < 4 → gi S4 5 0 s = if s < N ∧ v s ≠ T (12 + s) then Int32.ofNat h9 else gi S 5 0 s := fun s hs => by
    rw [(f4 5 0 (by unfold WM; omega)).1, (f3 5 0 (by omega)).1, w2 s hs, (r1 5 0 (by omega) (by omega)).1]
  have i14 : gi S4 14 0 = gi S3 14 0 := (f4 14 0 (by unfold WM; omega)).1
  have i15 : ∀ j, gi S4 15 0 j = if 4 * (h9 % 256) ≤ j ∧ j < 4 * (h9 % 256) + 4 then gi S1 26 1 (j - 4 * (h9 % 256)) else gi S 15 0 j := fun j => by
    rw [(f4 15 0 (by unfold WM; omega)).1, g15 j, (f2 26 1 (by omega)).1, (r2 15 0 (by omega) (by omega) (by omega)).1]
  have nw : ∀ i, i ≠ 2 → (i < 12 ∨ 16 ≤ i) → (i < 24 ∨ 28 ≤ i) → (i < 1885 ∨ 2909 ≤ i) → hU T v h9 N i = T i := fun i h1 h2 h3 h4 => by
    unfold hU; rw [upd_ne h1]; exact o i h2 h3 h4
  have up : ∀ i, i ≠ 2 → hU T v h9 N i = hT T v h9 N i := fun i h1 => by unfold hU; rw [upd_ne h1]
  refine ⟨S4, hU T v h9 N, hM (hT T v h9 N) v N D 0 M, ?_, ?_, ?_, r, fun Z eT eM => hour_r b0 b1 b9 n0 n1 n2 c5 (fun a ha => (hv a ha).2.2) eT eM⟩
  · unfold f_X2_runHour
    rw [d2, bvN, g1, g2, e3, onS, ex, onS, g4]
  · refine ⟨N, D, h9 + 1, lv, ri, to, ch, ⟨⟨(nw 0 (by omega) (by omega) (by omega) (by omega)).trans n0, b0⟩, ⟨(nw 1 (by omega) (by omega) (by omega) (by omega)).trans n1, b1⟩, ⟨upd_eq, by omega⟩, ⟨(nw 3 (by omega) (by omega) (by omega) (by omega)).trans c1.2.2.2.1.1, c1.2.2.2.1.2⟩, ⟨(nw 4 (by omega) (by omega) (by omega) (by omega)).trans c1.2.2.2.2.1.1, c1.2.2.2.2.1.2⟩, ⟨(nw 5 (by omega) (by omega) (by omega) (by omega)).trans c1.2.2.2.2.2.1.1, c1.2.2.2.2.2.1.2⟩, ⟨(nw 6 (by omega) (by omega) (by omega) (by omega)).trans c1.2.2.2.2.2.2.1, c1.2.2.2.2.2.2.2⟩⟩, ?_, ?_, cs, ?_, ?_, ?_, ?_, ?_, ?_, ?_, ?_, ?_, ?_, ?_⟩
    · exact ⟨(congrFun i2 0).trans d0, (congrFun (G 9 0 (by unfold WH; omega)) 0).trans d1, (congrFun i14 3).trans g143, (congrFun i2 14).trans d3, (congrFun (G 22 0 (by unfold WH; omega)) 3).trans d4, (congrFun (G 14 1 (by unfold WH; omega)) 3).trans d5, (congrFun (G 17 0 (by unfold WH; omega)) 3).trans d6, ((congrFun i14 0).trans (g14 0 (by decide))).trans ((congrFun (r2 14 0 (by omega) (by omega) (by omega)).1 0).trans d7), (congrFun (G 14 1 (by unfold WH; omega)) 0).trans d8, ((f4 15 0 (by unfold WM; omega)).2.2.2.trans gn15).trans ((r2 15 0 (by omega) (by omega) (by omega)).2.2.2.trans d9), (r 15 1 (by unfold WH; omega)).2.2.2.trans d10⟩
    · intro s hs
      obtain ⟨q1, q2, q3, q4, q5, q6⟩ := c3 s hs
      rw [G 3 0 (by unfold WH; omega), G 4 0 (by unfold WH; omega), nw (8 + s) (by omega) (by omega) (by omega) (by omega), nw (16 + s) (by omega) (by omega) (by omega) (by omega), up (24 + s) (by omega), hT_c hs b0, i5 s (by omega)]
      refine ⟨q1, q2, q3, q4, ?_⟩
      by_cases e : v s = T (12 + s)
      · rw [if_neg (fun z => z.2 e), if_pos e]
        refine ⟨q5, q6.imp id (fun z => ?_)⟩
        obtain ⟨d, hd, ed⟩ := z
        exact ⟨d, by omega, ed⟩
      · rw [if_pos ⟨hs, e⟩, if_neg e]
        exact ⟨rfl, Or.inr ⟨h9, by omega, rfl⟩⟩
    · rw [G 10 0 (by unfold WH; omega), G 11 0 (by unfold WH; omega), G 12 0 (by unfold WH; omega), G 13 0 (by unfold WH; omega)]
      exact c5.cg b1 (fun i hi => nw i (by omega) (by omega) (by omega) (by omega))
    · show Chr N (h9 + 1) (gi S4 15 0) (gi S4 16 0) _
      rw [G 16 0 (by unfold WH; omega)]
      refine ⟨fun s hs => ?_, fun q s hq h2 hs => ?_, fun s hs => ?_⟩
      · rw [nw (20 + s) (by omega) (by omega) (by omega) (by omega)]; exact c6.1 s hs
      · rw [i15 (4 * q + s), up _ (by omega)]
        by_cases eq : q = h9 % 256
        · rw [if_pos (by omega), eq, hT_b hs b0, show 4 * (h9 % 256) + s - 4 * (h9 % 256) = s by omega]
          exact ⟨w1 s hs, (hv s hs).1⟩
        · rw [if_neg (by omega), hT_o (by omega) (by omega) (by omega)]
          exact c6.2.1 q s (by omega) h2 hs
      · rw [if_neg (by omega), show h9 + 1 - 1 = h9 by omega, up _ (by omega), up _ (by omega), hT_p hs, hT_b hs b0]
    · show Cto N to (gi S4 15 1) (gi S4 16 1) _
      rw [G 15 1 (by unfold WH; omega), G 16 1 (by unfold WH; omega)]
      exact c7.cg b0 c1.2.2.2.2.2.1.2 (fun i hi => nw i (by omega) (by omega) (by omega) (by omega))
    · rw [G 18 0 (by unfold WH; omega), G 19 0 (by unfold WH; omega), G 20 0 (by unfold WH; omega)]
      exact (c8.cg c1.2.2.2.2.2.2.2 (fun i hi => nw i (by omega) (by omega) (by omega) (by omega))).h
    · rw [G 21 0 (by unfold WH; omega)]
      exact c9.cg c1.2.2.2.1.2 (fun i hi => nw i (by omega) (by omega) (by omega) (by omega))
    · rw [G 22 0 (by unfold WH; omega), G 25 0 (by unfold WH; omega)]
      exact c10.cg c1.2.2.2.2.1.2 (fun i hi => nw i (by omega) (by omega) (by omega) (by omega))
    · show Cwe (gi S4 24 0) (gi S4 24 1) _
      rw [G 24 0 (by unfold WH; omega), G 24 1 (by unfold WH; omega)]
      exact c11.cg (fun i hi => nw i (by omega) (by omega) (by omega) (by omega))
    · rw [j2, show gi S4 35 = gi S 35 from funext fun y => G 35 y (by unfold WH; omega)]
      exact c12.cg (fun i hi => nw i (by omega) (by omega) (by omega) (by omega))
    · rw [(r 8 0 (by unfold WH; omega)).2.2.1]
      refine Cru.st (S := S) (fun k x hk => ⟨?_, ?_⟩) (c13.cg b0 (fun i hi => nw i (by omega) (by omega) (by omega) (by omega)))
      · exact G k x (by unfold WH; omega)
      · exact (r k x (by unfold WH; omega)).2.2.2
    · rw [j2]; exact c14
    · rw [(r 8 0 (by unfold WH; omega)).2.2.1]; exact c15
  · exact upd_eq
end
