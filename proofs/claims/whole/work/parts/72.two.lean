-- CLASS AND REFERENCE, a call of each
/-- kinds that nobody reads across calls -/
def Scr (k : Nat) : Prop := k = 26 ∨ k = 27 ∨ (36 ≤ k ∧ k ≤ 48) ∨ k = 55 ∨ k = 57 ∨ k = 58 ∨ (67 ≤ k ∧ k ≤ 77) ∨ k = 81
def WS (k x : Nat) : Prop := Scr k ∨ (k = 60 ∧ x = 0)
theorem WS.own {k x g : Nat} (h : WS k x) : ¬ own g k x := by
  unfold WS Scr at h
  unfold Jvm.Pilot.CPumpCrossingLaw_law_r5944_583f82.own
  omega
theorem Inv.scr {t : Nat} {S S' : St} (h : Inv t S) (hf : Fr WS S S') (h9 : gi S' 60 0 9 = gi S 60 0 9) (h18 : gi S' 60 0 18 = gi S 60 0 18) (h19 : gi S' 60 0 19 = gi S 60 0 19) (h26 : gl S' 60 0 26 = gl S 60 0 26) (h27 : gl S' 60 0 27 = gl S 60 0 27) : Inv t S' := by
  have n : ∀ k x, (k = 0 ∨ k = 1 ∨ k = 28 ∨ k = 29 ∨ k = 50 ∨ k = 51 ∨ k = 53 ∨ k = 61 ∨ k = 62 ∨ k = 63 ∨ k = 64 ∨ k = 65 ∨ k = 66 ∨ k = 78 ∨ k = 79 ∨ k = 80) → ¬ WS k x := by
    intro k x hk hw
    unfold WS Scr at hw
    omega
  have e : ∀ k x, (k = 0 ∨ k = 1 ∨ k = 28 ∨ k = 29 ∨ k = 50 ∨ k = 51 ∨ k = 53 ∨ k = 61 ∨ k = 62 ∨ k = 63 ∨ k = 64 ∨ k = 65 ∨ k = 66 ∨ k = 78 ∨ k = 79 ∨ k = 80) → gi S' k x = gi S k x ∧ gl S' k x = gl S k x ∧ gr S' k x = gr S k x ∧ gn S' k x = gn S k x := fun k x hk => hf k x (n k x hk)
  obtain ⟨q1, q2, q3, q4, q5⟩ := h
  refine ⟨?_, ?_, ?_, ?_, ?_⟩
  · rw [(e 61 0 (by omega)).1, (e 63 0 (by omega)).2.1]
    exact Cr.fr hf (fun k x hw => hw.own) q1
  · exact Cim.fr hf (Nat.le_refl _) (fun g k x _ _ hw => hw.own) (n 1 0 (by omega)) (n 62 0 (by omega)) (n 64 0 (by omega)) (n 65 0 (by omega)) q2
  · unfold Crd
    rw [(e 28 0 (by omega)).1, (e 29 0 (by omega)).1, (e 66 0 (by omega)).1, h9, h18, h19]
    exact q3
  · unfold Cfr
    rw [(e 0 0 (by omega)).2.1, h26, h27]
    exact q4
  · intro t9 ht
    rw [(e 50 0 (by omega)).1, (e 78 0 (by omega)).1, (e 51 0 (by omega)).1, (e 79 0 (by omega)).1, (e 53 t9 (by omega)).2.1, (e 80 0 (by omega)).2.1]
    exact q5 t9 ht
theorem Inv.thr {t : Nat} {S : St} {v : Int32} (h : Inv t S) : Inv t (si S 60 0 5 v) := h.scr (Fr.si (Or.inr ⟨rfl, rfl⟩)) rfl rfl rfl rfl rfl
theorem Inv.out {t j : Nat} {S : St} {v : Int64} (h : Inv t S) : Inv t (sl S 81 0 j v) := h.scr (Fr.sl (Or.inl (by unfold Scr; omega))) rfl rfl rfl rfl rfl
theorem Inv.t {t t' : Nat} {S : St} (ht : t ≤ t') (h : Inv t S) : Inv t' S := ⟨h.1.t ht, Cim.fr (W := fun _ _ => False) Fr.rf ht (fun _ _ _ _ _ h => h.elim) id id id id h.2.1, h.2.2⟩
-- the ends of a case
def fin3 {α : Type} (k : Int32) (S : St) (v : St → Int64) (b : α) (P : Prop) : Prop := P
theorem two_i {cls : Option ((Nat ⊕ Int32) × St)} {md : St → Option (Int32 × St)} {h : Nat → St → Option (Int32 × St)} {P : St → Prop} {S : St}
    (H : (∃ k cd, cls = some (.inl k, S) ∧ h k S = some (cd, S) ∧ cd ≠ 0 ∧ Ok (md S) (fun o => gi o.2 60 0 5 = cd ∧ P o.2)) ∨ (∃ r S1, cls = some (.inr r, S1) ∧ Ok (md (sl S1 81 0 (nn 0) r.toInt64)) (fun o => gi o.2 60 0 5 = 0 ∧ o.1 = r ∧ gl o.2 81 0 (nn 0) = r.toInt64 ∧ P o.2))) :
    Ok (on2 (wl cls h (fun r S => some (0, sl S 81 0 (nn 0) (Int32.toInt64 r)))) (fun k S2 => on2 (md S2) (fun b S5 => on (f_X12_thrown 0 S5) (fun th => br (th = k) (bv (fun (S : St) => some S) (fun J => br (k = 0) (ck (inb 0 1 = true) (br ((lg_cmp (gl S5 81 0 (nn 0)) (Int32.toInt64 b)) = 0) (J S5) (none))) (J S5))) (none))))) P := by
  rcases H with ⟨k, cd, e1, e2, e3, ⟨b, S5⟩, e4, e5, e6⟩ | ⟨r, S1, e1, ⟨b, S5⟩, e4, e5, e6, e7, e8⟩
  · rw [e1]
    show Ok (on2 (h k S) _) P
    rw [e2]
    show Ok (on2 (md S) _) P
    rw [e4]
    show Ok (br (gi S5 60 0 5 = cd) _ _) P
    rw [brp e5]
    show Ok (br (cd = 0) _ _) P
    rw [brn e3]
    exact Ok.sm e6
  · rw [e1]
    show Ok (on2 (md (sl S1 81 0 (nn 0) r.toInt64)) _) P
    rw [e4]
    show Ok (br (gi S5 60 0 5 = 0) _ _) P
    rw [brp e5]
    show Ok (br ((0 : Int32) = 0) _ _) P
    rw [brp rfl, ck_t (by decide)]
    show Ok (br (lg_cmp (gl S5 81 0 (nn 0)) (Int32.toInt64 b) = 0) _ _) P
    rw [brp ((lg_cmp_eq _ _).mpr (e7.trans (by rw [← e6])))]
    exact Ok.sm e8
theorem two_l {cls : Option ((Nat ⊕ Int64) × St)} {md : St → Option (Int64 × St)} {h : Nat → St → Option (Int32 × St)} {P : St → Prop} {S : St}
    (H : (∃ k cd, cls = some (.inl k, S) ∧ h k S = some (cd, S) ∧ cd ≠ 0 ∧ Ok (md S) (fun o => gi o.2 60 0 5 = cd ∧ P o.2)) ∨ (∃ r S1, cls = some (.inr r, S1) ∧ Ok (md (sl S1 81 0 (nn 0) r)) (fun o => gi o.2 60 0 5 = 0 ∧ o.1 = r ∧ gl o.2 81 0 (nn 0) = r ∧ P o.2))) :
    Ok (on2 (wl cls h (fun r S => some (0, sl S 81 0 (nn 0) r))) (fun k S2 => on2 (md S2) (fun b S5 => on (f_X12_thrown 0 S5) (fun th => br (th = k) (bv (fun (S : St) => some S) (fun J => br (k = 0) (ck (inb 0 1 = true) (br ((lg_cmp (gl S5 81 0 (nn 0)) b) = 0) (J S5) (none))) (J S5))) (none))))) P := by
  rcases H with ⟨k, cd, e1, e2, e3, ⟨b, S5⟩, e4, e5, e6⟩ | ⟨r, S1, e1, ⟨b, S5⟩, e4, e5, e6, e7, e8⟩
  · rw [e1]
    show Ok (on2 (h k S) _) P
    rw [e2]
    show Ok (on2 (md S) _) P
    rw [e4]
    show Ok (br (gi S5 60 0 5 = cd) _ _) P
    rw [brp e5]
    show Ok (br (cd = 0) _ _) P
    rw [brn e3]
    exact Ok.sm e6
  · rw [e1]
    show Ok (on2 (md (sl S1 81 0 (nn 0) r)) _) P
    rw [e4]
    show Ok (br (gi S5 60 0 5 = 0) _ _) P
    rw [brp e5]
    show Ok (br ((0 : Int32) = 0) _ _) P
    rw [brp rfl, ck_t (by decide)]
    show Ok (br (lg_cmp (gl S5 81 0 (nn 0)) b = 0) _ _) P
    rw [brp ((lg_cmp_eq _ _).mpr (e7.trans e6.symm))]
    exact Ok.sm e8
theorem two_b {cls : Option ((Nat ⊕ Int32) × St)} {md : St → Option (Int32 × St)} {h : Nat → St → Option (Int32 × St)} {P : St → Prop} {S : St}
    (H : (∃ k cd, cls = some (.inl k, S) ∧ h k S = some (cd, S) ∧ cd ≠ 0 ∧ Ok (md S) (fun o => gi o.2 60 0 5 = cd ∧ P o.2)) ∨ (∃ r S1 v, cls = some (.inr r, S1) ∧ v = (if r = 0 then (0 : Int64) else 1) ∧ Ok (md (sl S1 81 0 (nn 0) v)) (fun o => gi o.2 60 0 5 = 0 ∧ (o.1 = 0 ↔ r = 0) ∧ gl o.2 81 0 (nn 0) = v ∧ P o.2))) :
    Ok (on2 (wl cls h (fun r S => br (r = 0) (some (0, sl S 81 0 (nn 0) 0)) (some (0, sl S 81 0 (nn 0) 1)))) (fun k S2 => on2 (md S2) (fun b S5 => on (f_X12_thrown 0 S5) (fun th => br (th = k) (bv (fun (S : St) => some S) (fun J => br (k = 0) (ck (inb 0 1 = true) (bv (fun (v : Int64) (S15 : St) => br ((lg_cmp (gl S5 81 0 (nn 0)) v) = 0) (J S15) (none)) (fun J16 => br (b = 0) (J16 0 S5) (J16 1 S5)))) (J S5))) (none))))) P := by
  rcases H with ⟨k, cd, e1, e2, e3, ⟨b, S5⟩, e4, e5, e6⟩ | ⟨r, S1, v, e1, ev, ⟨b, S5⟩, e4, e5, e6, e7, e8⟩
  · rw [e1]
    show Ok (on2 (h k S) _) P
    rw [e2]
    show Ok (on2 (md S) _) P
    rw [e4]
    show Ok (br (gi S5 60 0 5 = cd) _ _) P
    rw [brp e5]
    show Ok (br (cd = 0) _ _) P
    rw [brn e3]
    exact Ok.sm e6
  · rw [e1]
    have e0 : (br (r = 0) (some ((0 : Int32), sl S1 81 0 (nn 0) 0)) (some (0, sl S1 81 0 (nn 0) 1))) = some (0, sl S1 81 0 (nn 0) v) := by
      rw [ev]
      by_cases hr : r = 0
      · rw [brp hr, if_pos hr]
      · rw [brn hr, if_neg hr]
    show Ok (on2 (br (r = 0) (some ((0 : Int32), sl S1 81 0 (nn 0) 0)) (some (0, sl S1 81 0 (nn 0) 1))) _) P
    rw [e0]
    show Ok (on2 (md (sl S1 81 0 (nn 0) v)) _) P
    rw [e4]
    show Ok (br (gi S5 60 0 5 = 0) _ _) P
    rw [brp e5]
    show Ok (br ((0 : Int32) = 0) _ _) P
    rw [brp rfl, ck_t (by decide)]
    show Ok (br (b = 0) (br (lg_cmp (gl S5 81 0 (nn 0)) 0 = 0) (some S5) none) (br (lg_cmp (gl S5 81 0 (nn 0)) 1 = 0) (some S5) none)) P
    have e6 : b = 0 ↔ r = 0 := e6
    by_cases hr : r = 0
    · rw [brp (e6.mpr hr), brp ((lg_cmp_eq _ _).mpr (e7.trans (by rw [ev, if_pos hr])))]
      exact Ok.sm e8
    · rw [brn (fun h => hr (e6.mp h)), brp ((lg_cmp_eq _ _).mpr (e7.trans (by rw [ev, if_neg hr])))]
      exact Ok.sm e8
theorem two_v {cls : Option ((Nat ⊕ Unit) × St)} {md : St → Option St} {h : Nat → St → Option (Int32 × St)} {P : St → Prop} {S : St}
    (H : (∃ k cd, cls = some (.inl k, S) ∧ h k S = some (cd, S) ∧ Ok (md S) (fun o => gi o 60 0 5 = cd ∧ P o)) ∨ (∃ S1, cls = some (.inr (), S1) ∧ Ok (md S1) (fun o => gi o 60 0 5 = 0 ∧ P o))) :
    Ok (on2 (wl cls h (fun _ S => some (0, S))) (fun k S2 => on (md S2) (fun S5 => on (f_X12_thrown 0 S5) (fun th => br (th = k) (some S5) (none))))) P := by
  rcases H with ⟨k, cd, e1, e2, S5, e4, e5, e6⟩ | ⟨S1, e1, S5, e4, e5, e6⟩
  · rw [e1]
    show Ok (on2 (h k S) _) P
    rw [e2]
    show Ok (on (md S) _) P
    rw [e4]
    show Ok (br (gi S5 60 0 5 = cd) _ _) P
    rw [brp e5]
    exact Ok.sm e6
  · rw [e1]
    show Ok (on (md S1) _) P
    rw [e4]
    show Ok (br (gi S5 60 0 5 = 0) _ _) P
    rw [brp e5]
    exact Ok.sm e6
-- what the calls share
theorem n_st {S : St} {g N : Nat} {x : Int32} (hN : gi S 2 0 0 = Int32.ofNat N) (h : x < 0 ∨ ¬ x < Int32.ofNat N) : f_X11_needStation g x S = some (.inl 3, S) := by
  unfold f_X11_needStation bv
  dsimp only
  rw [hN]
  rcases h with h | h
  · rw [brp h]
  · by_cases h0 : x < 0
    · rw [brp h0]
    · rw [brn h0, brn h]
theorem y_st {S : St} {g N n : Nat} (hN : gi S 2 0 0 = Int32.ofNat N) (h4 : N ≤ 4) (h : n < N) : f_X11_needStation g (Int32.ofNat n) S = some (.inr (), S) := by
  unfold f_X11_needStation bv
  dsimp only
  rw [hN, brn (by rw [Int32.lt_iff_toInt_lt, zI (by omega)]; show ¬ (n : Int) < 0; omega), brp ((zL (by omega) (by omega)).mpr h)]
theorem n_wi {S : St} {g : Nat} {x lo hi : Int32} (h : ¬ (lo ≤ x ∧ x ≤ hi)) : f_X11_needWithin g x lo hi S = some (.inl 2, S) := by
  unfold f_X11_needWithin bv
  dsimp only
  by_cases h0 : x < lo
  · rw [brp h0]
  · rw [brn h0, brn (fun h1 => h ⟨Int32.not_lt.mp h0, h1⟩)]
theorem y_wi {S : St} {g : Nat} {x lo hi : Int32} (h : lo ≤ x ∧ x ≤ hi) : f_X11_needWithin g x lo hi S = some (.inr (), S) := by
  unfold f_X11_needWithin bv
  dsimp only
  rw [brn (Int32.not_lt.mpr h.1), brp h.2]
theorem n_pr {S : St} {g : Nat} {x : Int32} (h : ¬ (0 ≤ x ∧ x ≤ 99)) : f_X11_needPrice g x S = some (.inl 2, S) := by
  unfold f_X11_needPrice
  rw [n_wi h]; rfl
theorem y_pr {S : St} {g : Nat} {x : Int32} (h : 0 ≤ x ∧ x ≤ 99) : f_X11_needPrice g x S = some (.inr (), S) := by
  unfold f_X11_needPrice
  rw [y_wi h]; rfl
theorem m_st {S : St} {N : Nat} {x : Int32} (hN : gi S 61 0 0 = Int32.ofNat N) (h4 : N ≤ 4) : f_X12_isStation 0 x S = some (if ¬ x < 0 ∧ x < Int32.ofNat N then 1 else 0) := by
  unfold f_X12_isStation
  rw [ck_t (by decide), e_wi (a := 0) (lo := 0) (hi := gi S 61 0 (nn 0) - 1) (by decide) rfl]
  have e : (0 ≤ x ∧ x ≤ gi S 61 0 (nn 0) - 1) ↔ (¬ x < 0 ∧ x < Int32.ofNat N) := by
    rw [show nn 0 = 0 from rfl, hN, Int32.not_lt]
    refine and_congr Iff.rfl ?_
    rw [Int32.le_iff_toInt_le, Int32.lt_iff_toInt_lt, zI (show N < 2147483648 by omega)]
    have : (Int32.ofNat N - 1).toInt = (N : Int) - 1 := by
      rw [Int32.toInt_sub, zI (show N < 2147483648 by omega)]
      show ((N : Int) - 1).bmod (2 ^ 32) = _
      rw [Int.bmod_def]
      omega
    rw [this]; omega
  show on (some (if 0 ≤ x ∧ x ≤ gi S 61 0 (nn 0) - 1 then (1 : Int32) else 0)) _ = _
  show ck _ _ = _
  by_cases hc : 0 ≤ x ∧ x ≤ gi S 61 0 (nn 0) - 1
  · rw [if_pos hc, if_pos (e.mp hc), ck_t (Or.inr rfl)]
  · rw [if_neg hc, if_neg (fun h => hc (e.mpr h)), ck_t (Or.inl rfl)]
theorem m_stn {S : St} {N : Nat} {x : Int32} (hN : gi S 61 0 0 = Int32.ofNat N) (h4 : N ≤ 4) (h : x < 0 ∨ ¬ x < Int32.ofNat N) : f_X12_isStation 0 x S = some 0 := by
  rw [m_st hN h4, if_neg (fun z => h.elim z.1 (fun w => w z.2))]
theorem m_sty {S : St} {N n : Nat} (hN : gi S 61 0 0 = Int32.ofNat N) (h4 : N ≤ 4) (h : n < N) : f_X12_isStation 0 (Int32.ofNat n) S = some 1 := by
  rw [m_st hN h4, if_pos ⟨by rw [Int32.lt_iff_toInt_lt, zI (by omega)]; show ¬ (n : Int) < 0; omega, (zL (by omega) (by omega)).mpr h⟩]
theorem m_wn {S : St} {x lo hi : Int32} {a b : Int64} (ha : a = lo.toInt64) (hb : b = hi.toInt64) (h : ¬ (lo ≤ x ∧ x ≤ hi)) : f_X12_within x.toInt64 a b S = some 0 := by rw [e_wi ha hb, if_neg h]
theorem m_wy {S : St} {x lo hi : Int32} {a b : Int64} (ha : a = lo.toInt64) (hb : b = hi.toInt64) (h : lo ≤ x ∧ x ≤ hi) : f_X12_within x.toInt64 a b S = some 1 := by rw [e_wi ha hb, if_pos h]
theorem or_st {x : Int32} {N : Nat} (hN : N ≤ 4) (h : ¬ (x < 0 ∨ ¬ x < Int32.ofNat N)) : ∃ n, n < N ∧ x = Int32.ofNat n := zW (by omega) (fun z => h (Or.inl z)) (Classical.byContradiction fun z => h (Or.inr z))
