section
-- HOURS, one behind another
theorem runs_two {t m : Nat} (hm : m ≤ 300) : ∀ (k j n : Nat) (S : St) (T : Nat → Int32) (M : Nat → Int64) (h : Nat), Cr t S 0 T M → T 2 = Int32.ofNat h → h + k ≤ 3000 → j + k = m → k < n → ∃ (S' : St) (T' : Nat → Int32) (M' : Nat → Int64), Cr t S' 0 T' M' ∧ Fr WH S S' ∧ (∀ K, f_X11_run_30 0 (Int32.ofNat m) K n (Int32.ofNat j) S = K S') ∧ ∀ Z : St, gi Z 61 0 = T → gl Z 63 0 = M → ∃ Z', gi Z' 61 0 = T' ∧ gl Z' 63 0 = M' ∧ Fr WZ Z Z' ∧ (∀ i, i ≠ 23 → gi Z' 60 0 i = gi Z 60 0 i) ∧ gl Z' 60 0 = gl Z 60 0 ∧ ∀ K, f_X12_run_40 0 (Int32.ofNat m) K n (Int32.ofNat j) Z = K Z' := by
  intro k
  induction k with
  | zero =>
    intro j n S T M h q eh hk hj hn
    obtain ⟨n, rfl⟩ : ∃ m, n = m + 1 := ⟨n - 1, by omega⟩
    refine ⟨S, T, M, q, Fr.rf, fun K => ?_, fun Z eT eM => ⟨Z, eT, eM, Fr.rf, fun _ _ => rfl, rfl, fun K => ?_⟩⟩
    · rw [f_X11_run_30, brp ((zLE (by omega) (by omega)).mpr (by omega))]
    · rw [f_X12_run_40, brp ((zLE (by omega) (by omega)).mpr (by omega))]
  | succ k ih =>
    intro j n S T M h q eh hk hj hn
    obtain ⟨n, rfl⟩ : ∃ m, n = m + 1 := ⟨n - 1, by omega⟩
    obtain ⟨S1, T1, M1, e1, q1, t1, f1, H1⟩ := hour_two q eh (by omega)
    obtain ⟨S', T', M', q2, f2, g2, H2⟩ := ih (j + 1) n S1 T1 M1 (h + 1) q1 t1 (by omega) (by omega) (by omega)
    refine ⟨S', T', M', q2, f1.tr f2, fun K => ?_, fun Z eT eM => ?_⟩
    · rw [f_X11_run_30, brn (fun z => absurd ((zLE (by omega) (by omega)).mp z) (by omega)), e1, onS, bvN, zp1]
      exact g2 K
    · obtain ⟨Z1, z1, z2, z3, z4, z5, z6⟩ := H1 Z eT eM
      obtain ⟨Z', y1, y2, y3, y4, y5, y6⟩ := H2 Z1 z2 z3
      refine ⟨Z', y1, y2, z4.tr y3, fun i hi => (y4 i hi).trans (z5 i hi), y5.trans z6, fun K => ?_⟩
      rw [f_X12_run_40, brn (fun z => absurd ((zLE (by omega) (by omega)).mp z) (by omega)), z1, onS, bvN, zp1]
      exact y6 K
-- CASE run
theorem pc_8 {t : Nat} {S : St} {a1 a2 a3 a4 a5 : Int32} (h : Inv t S) : Ok (fc_8 (t + 1) a1 a2 a3 a4 a5 S) (Inv (t + 1)) := by
  unfold fc_8 f_L_run f_X11_run
  refine tw_i (S := S) ?_
  have F : FU = 100000 := rfl
  have hC := h.1
  obtain ⟨N, D, hh, lv, ri, to, ch, c1, c2, -⟩ := id hC
  have n2 := c1.2.2.1.1
  have b2 := c1.2.2.1.2
  have d2 := c2.2.2.1
  by_cases hv : 0 ≤ a1 ∧ a1 ≤ 300
  case neg =>
    exact Ok.xl (n_wi hv) (Tw.l (cd := 1) rfl ⟨by decide, Ok.v (Ok.oe (m_wn (lo := 0) (hi := 300) (by decide) (by decide) hv) (Ok.bt rfl (Ok.o2e rfl (Ok.sm ⟨rfl, (h.thr.thr).t (Nat.le_succ t)⟩))))⟩)
  obtain ⟨m, hm, rfl⟩ := zWle (n := 300) (by omega) hv
  have em : mnI (Int32.ofNat m) (3000 - Int32.ofNat hh) = Int32.ofNat (min m (3000 - hh)) := by
    rw [show (3000 : Int32) - Int32.ofNat hh = Int32.ofNat (3000 - hh) from zS (n := 3000) hh b2, zmn (by omega) (by omega)]
  obtain ⟨S', T', M', q', f', g', H⟩ := runs_two (t := t) (m := min m (3000 - hh)) (by omega) (min m (3000 - hh)) 0 FU S _ _ hh hC n2 (by omega) (by omega) (by omega)
  rw [show Int32.ofNat 0 = (0 : Int32) from rfl] at g'
  refine Ok.xr (y_wi hv) ?_
  rw [d2, em, bvN, g']
  refine Ok.sm (Tw.r ?_)
  obtain ⟨Z', z1, z2, z3, z4, z5, z6⟩ := H (si (sl S' 81 0 (nn 0) (Int32.ofNat (min m (3000 - hh))).toInt64) 60 0 5 0) (f' 61 0 (by unfold WH; omega)).1 (f' 63 0 (by unfold WH; omega)).2.1
  rw [show Int32.ofNat 0 = (0 : Int32) from rfl] at z6
  have e2 : gi (si (sl S' 81 0 (nn 0) (Int32.ofNat (min m (3000 - hh))).toInt64) 60 0 5 0) 61 0 (nn 2) = Int32.ofNat hh := by
    show gi S' 61 0 2 = _
    rw [(f' 61 0 (by unfold WH; omega)).1]; exact n2
  refine Ok.v (Ok.oe (m_wy (lo := 0) (hi := 300) (by decide) (by decide) hv) (Ok.bf (by decide) (Ok.c (by decide) ?_)))
  rw [e2, em, bvN, z6]
  have fz : Fr (fun k x => k = 81 ∨ WZ k x) S' Z' := (Fr.sl (Or.inl rfl)).tr ((Fr.si (Or.inr ⟨by omega, rfl⟩)).tr (z3.mono (fun k x hw => Or.inr hw)))
  refine Ok.sm ⟨?_, rfl, ?_, ?_⟩
  · show gi Z' 60 0 5 = 0
    rw [z4 5 (by decide)]; rfl
  · show gl Z' 81 0 (nn 0) = _
    rw [(z3 81 0 (by unfold WZ; omega)).2.1]; rfl
  · show Inv (t + 1) Z'
    refine Inv.t (Nat.le_succ t) (h.now ((f'.mono (fun k x hw => ?_)).tr (fz.mono (fun k x hw => ?_))) ?_ ?_ ?_ ?_ ?_ ?_)
    · unfold WH at hw; unfold WN WS Scr; omega
    · unfold WZ at hw; unfold WN WS Scr; omega
    · rw [z4 9 (by decide)]
      show gi S' 60 0 9 = _
      rw [(f' 60 0 (by unfold WH; omega)).1]
    · rw [z4 18 (by decide)]
      show gi S' 60 0 18 = _
      rw [(f' 60 0 (by unfold WH; omega)).1]
    · rw [z4 19 (by decide)]
      show gi S' 60 0 19 = _
      rw [(f' 60 0 (by unfold WH; omega)).1]
    · rw [z5]
      show gl S' 60 0 26 = _
      rw [(f' 60 0 (by unfold WH; omega)).2.1]
    · rw [z5]
      show gl S' 60 0 27 = _
      rw [(f' 60 0 (by unfold WH; omega)).2.1]
    · rw [z1, z2]
      exact Cr.fr fz (fun k x hw => by unfold WZ at hw; unfold own; omega) q'
end
