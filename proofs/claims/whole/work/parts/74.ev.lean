-- evaluation along a path
section EV
variable {α σ : Type} {P : α → Prop}
theorem Ok.bt {c : Prop} [Decidable c] {a b : Option α} (h : c) (k : Ok a P) : Ok (br c a b) P := by rw [brp h]; exact k
theorem Ok.bf {c : Prop} [Decidable c] {a b : Option α} (h : ¬ c) (k : Ok b P) : Ok (br c a b) P := by rw [brn h]; exact k
theorem Ok.oe {v : Option σ} {x : σ} {kk : σ → Option α} (e : v = some x) (k : Ok (kk x) P) : Ok (on v kk) P := by rw [e]; exact k
theorem Ok.o2e {v : Option (σ × St)} {x : σ} {S : St} {kk : σ → St → Option α} (e : v = some (x, S)) (k : Ok (kk x S) P) : Ok (on2 v kk) P := by rw [e]; exact k
end EV
section EVX
variable {ρ σ : Type} {P : (Nat ⊕ ρ) × St → Prop}
theorem Ok.xr {v : Option ((Nat ⊕ σ) × St)} {x : σ} {S : St} {kk : σ → St → Option ((Nat ⊕ ρ) × St)} (e : v = some (.inr x, S)) (k : Ok (kk x S) P) : Ok (xb (τ := Unit) v kk) P := by rw [e]; exact k
theorem Ok.xl {v : Option ((Nat ⊕ σ) × St)} {n : Nat} {S : St} {kk : σ → St → Option ((Nat ⊕ ρ) × St)} (e : v = some (.inl n, S)) (k : P (.inl n, S)) : Ok (xb (τ := Unit) v kk) P := by rw [e]; exact ⟨_, rfl, k⟩
end EVX
def Tw {σ : Type} (S : St) (h : Nat → St → Option (Int32 × St)) (E : Int32 → Prop) (G : σ → St → Prop) (o : (Nat ⊕ σ) × St) : Prop := match o.1 with
  | .inl k => o.2 = S ∧ ∃ cd, h k S = some (cd, S) ∧ E cd
  | .inr r => G r o.2
theorem Tw.l {σ : Type} {S : St} {h : Nat → St → Option (Int32 × St)} {E : Int32 → Prop} {G : σ → St → Prop} {k : Nat} {cd : Int32} (e : h k S = some (cd, S)) (k9 : E cd) : Tw S h E G (.inl k, S) := ⟨rfl, cd, e, k9⟩
theorem Tw.r {σ : Type} {S S1 : St} {h : Nat → St → Option (Int32 × St)} {E : Int32 → Prop} {G : σ → St → Prop} {r : σ} (k9 : G r S1) : Tw S h E G (.inr r, S1) := k9
theorem tw_i {cls : Option ((Nat ⊕ Int32) × St)} {md : St → Option (Int32 × St)} {h : Nat → St → Option (Int32 × St)} {P : St → Prop} {S : St}
    (H : Ok cls (Tw S h (fun cd => cd ≠ 0 ∧ Ok (md S) (fun o => gi o.2 60 0 5 = cd ∧ P o.2)) (fun r S1 => Ok (md (sl S1 81 0 (nn 0) r.toInt64)) (fun o => gi o.2 60 0 5 = 0 ∧ o.1 = r ∧ gl o.2 81 0 (nn 0) = r.toInt64 ∧ P o.2)))) :
    Ok (on2 (wl cls h (fun r S => some (0, sl S 81 0 (nn 0) (Int32.toInt64 r)))) (fun k S2 => on2 (md S2) (fun b S5 => on (f_X12_thrown 0 S5) (fun th => br (th = k) (bv (fun (S : St) => some S) (fun J => br (k = 0) (ck (inb 0 1 = true) (br ((lg_cmp (gl S5 81 0 (nn 0)) (Int32.toInt64 b)) = 0) (J S5) (none))) (J S5))) (none))))) P := by
  obtain ⟨⟨o, S1⟩, e, hh⟩ := H
  cases o with
  | inl k =>
    obtain ⟨e2, cd, e3, e4, e5⟩ := hh
    have e2 : S1 = S := e2
    subst e2
    exact two_i (Or.inl ⟨k, cd, e, e3, e4, e5⟩)
  | inr r => exact two_i (S := S) (Or.inr ⟨r, S1, e, hh⟩)
theorem tw_l {cls : Option ((Nat ⊕ Int64) × St)} {md : St → Option (Int64 × St)} {h : Nat → St → Option (Int32 × St)} {P : St → Prop} {S : St}
    (H : Ok cls (Tw S h (fun cd => cd ≠ 0 ∧ Ok (md S) (fun o => gi o.2 60 0 5 = cd ∧ P o.2)) (fun r S1 => Ok (md (sl S1 81 0 (nn 0) r)) (fun o => gi o.2 60 0 5 = 0 ∧ o.1 = r ∧ gl o.2 81 0 (nn 0) = r ∧ P o.2)))) :
    Ok (on2 (wl cls h (fun r S => some (0, sl S 81 0 (nn 0) r))) (fun k S2 => on2 (md S2) (fun b S5 => on (f_X12_thrown 0 S5) (fun th => br (th = k) (bv (fun (S : St) => some S) (fun J => br (k = 0) (ck (inb 0 1 = true) (br ((lg_cmp (gl S5 81 0 (nn 0)) b) = 0) (J S5) (none))) (J S5))) (none))))) P := by
  obtain ⟨⟨o, S1⟩, e, hh⟩ := H
  cases o with
  | inl k =>
    obtain ⟨e2, cd, e3, e4, e5⟩ := hh
    have e2 : S1 = S := e2
    subst e2
    exact two_l (Or.inl ⟨k, cd, e, e3, e4, e5⟩)
  | inr r => exact two_l (S := S) (Or.inr ⟨r, S1, e, hh⟩)
theorem tw_b {cls : Option ((Nat ⊕ Int32) × St)} {md : St → Option (Int32 × St)} {h : Nat → St → Option (Int32 × St)} {P : St → Prop} {S : St}
    (H : Ok cls (Tw S h (fun cd => cd ≠ 0 ∧ Ok (md S) (fun o => gi o.2 60 0 5 = cd ∧ P o.2)) (fun r S1 => ∀ v : Int64, v = (if r = 0 then (0 : Int64) else 1) → Ok (md (sl S1 81 0 (nn 0) v)) (fun o => gi o.2 60 0 5 = 0 ∧ (o.1 = 0 ↔ r = 0) ∧ gl o.2 81 0 (nn 0) = v ∧ P o.2)))) :
    Ok (on2 (wl cls h (fun r S => br (r = 0) (some (0, sl S 81 0 (nn 0) 0)) (some (0, sl S 81 0 (nn 0) 1)))) (fun k S2 => on2 (md S2) (fun b S5 => on (f_X12_thrown 0 S5) (fun th => br (th = k) (bv (fun (S : St) => some S) (fun J => br (k = 0) (ck (inb 0 1 = true) (bv (fun (v : Int64) (S15 : St) => br ((lg_cmp (gl S5 81 0 (nn 0)) v) = 0) (J S15) (none)) (fun J16 => br (b = 0) (J16 0 S5) (J16 1 S5)))) (J S5))) (none))))) P := by
  obtain ⟨⟨o, S1⟩, e, hh⟩ := H
  cases o with
  | inl k =>
    obtain ⟨e2, cd, e3, e4, e5⟩ := hh
    have e2 : S1 = S := e2
    subst e2
    exact two_b (Or.inl ⟨k, cd, e, e3, e4, e5⟩)
  | inr r => exact two_b (S := S) (Or.inr ⟨r, S1, _, e, rfl, hh _ rfl⟩)
theorem tw_v {cls : Option ((Nat ⊕ Unit) × St)} {md : St → Option St} {h : Nat → St → Option (Int32 × St)} {P : St → Prop} {S : St}
    (H : Ok cls (Tw S h (fun cd => Ok (md S) (fun o => gi o 60 0 5 = cd ∧ P o)) (fun _ S1 => Ok (md S1) (fun o => gi o 60 0 5 = 0 ∧ P o)))) :
    Ok (on2 (wl cls h (fun _ S => some (0, S))) (fun k S2 => on (md S2) (fun S5 => on (f_X12_thrown 0 S5) (fun th => br (th = k) (some S5) (none))))) P := by
  obtain ⟨⟨o, S1⟩, e, hh⟩ := H
  cases o with
  | inl k =>
    obtain ⟨e2, cd, e3, e5⟩ := hh
    have e2 : S1 = S := e2
    subst e2
    exact two_v (Or.inl ⟨k, cd, e, e3, e5⟩)
  | inr r => exact two_v (S := S) (Or.inr ⟨S1, e, hh⟩)
/-- what a call may write of the crossing that is now, of told, of sums, and what is for a call alone -/
def WN (k x : Nat) : Prop := WS k x ∨ (k = 61 ∧ x = 0) ∨ (k = 63 ∧ x = 0) ∨ ((2 ≤ k ∧ k ≤ 13 ∨ 17 ≤ k ∧ k ≤ 22 ∨ k = 25) ∧ x = 0) ∨ ((k = 14 ∨ k = 15 ∨ k = 16 ∨ k = 24) ∧ (x = 0 ∨ x = 1))
theorem Inv.now {t : Nat} {S S' : St} (h : Inv t S) (hf : Fr WN S S') (h9 : gi S' 60 0 9 = gi S 60 0 9) (h18 : gi S' 60 0 18 = gi S 60 0 18) (h19 : gi S' 60 0 19 = gi S 60 0 19) (h26 : gl S' 60 0 26 = gl S 60 0 26) (h27 : gl S' 60 0 27 = gl S 60 0 27) (hc : Cr t S' 0 (gi S' 61 0) (gl S' 63 0)) : Inv t S' := by
  have n : ∀ k x, (k = 0 ∨ k = 1 ∨ k = 28 ∨ k = 29 ∨ k = 50 ∨ k = 51 ∨ k = 53 ∨ k = 62 ∨ k = 64 ∨ k = 65 ∨ k = 66 ∨ k = 78 ∨ k = 79 ∨ k = 80) → ¬ WN k x := by
    intro k x hk hw
    unfold WN WS Scr at hw
    omega
  have e : ∀ k x, (k = 0 ∨ k = 1 ∨ k = 28 ∨ k = 29 ∨ k = 50 ∨ k = 51 ∨ k = 53 ∨ k = 62 ∨ k = 64 ∨ k = 65 ∨ k = 66 ∨ k = 78 ∨ k = 79 ∨ k = 80) → gi S' k x = gi S k x ∧ gl S' k x = gl S k x ∧ gr S' k x = gr S k x ∧ gn S' k x = gn S k x := fun k x hk => hf k x (n k x hk)
  obtain ⟨q1, q2, q3, q4, q5⟩ := h
  refine ⟨hc, ?_, ?_, ?_, ?_⟩
  · refine Cim.fr hf (Nat.le_refl _) (fun g k x hg _ hw => ?_) (n 1 0 (by omega)) (n 62 0 (by omega)) (n 64 0 (by omega)) (n 65 0 (by omega)) q2
    unfold WN WS Scr at hw
    unfold own
    omega
  · unfold Crd
    rw [(e 28 0 (by omega)).1, (e 29 0 (by omega)).1, (e 66 0 (by omega)).1, h9, h18, h19]
    exact q3
  · unfold Cfr
    rw [(e 0 0 (by omega)).2.1, h26, h27]
    exact q4
  · intro t9 ht
    rw [(e 50 0 (by omega)).1, (e 78 0 (by omega)).1, (e 51 0 (by omega)).1, (e 79 0 (by omega)).1, (e 53 t9 (by omega)).2.1, (e 80 0 (by omega)).2.1]
    exact q5 t9 ht
theorem ib {n m : Nat} (h : n < m) (h2 : n < 2147483648) : inb (Int32.ofNat n) m = true := by rw [zB h2]; exact decide_eq_true h
theorem ibA {a n m : Nat} (h : OfNat.ofNat a + n < m) (h2 : OfNat.ofNat a + n < 2147483648) : inb ((no_index (OfNat.ofNat a) : Int32) + Int32.ofNat n) m = true := by rw [zA]; exact ib h h2
theorem nA {a n : Nat} (h2 : OfNat.ofNat a + n < 2147483648) : nn ((no_index (OfNat.ofNat a) : Int32) + Int32.ofNat n) = OfNat.ofNat a + n := by rw [zA]; exact zN h2
-- CASE late
theorem pc_3 {t : Nat} {S : St} {a1 a2 a3 a4 a5 : Int32} (h : Inv t S) : Ok (fc_3 (t + 1) a1 a2 a3 a4 a5 S) (Inv (t + 1)) := by
  unfold fc_3 f_L_late f_X11_late
  refine tw_i (S := S) ?_
  have h0 := h
  obtain ⟨⟨N, D, hh, lv, ri, to, ch, c1, c2, c3, c4, c5, c6, c7, c8, c9, c10, c11, c12, c13, c14, c15⟩, -⟩ := h0
  by_cases hs : a1 < 0 ∨ ¬ a1 < Int32.ofNat N
  · exact Ok.xl (n_st c2.1 hs) (Tw.l (brp rfl) ⟨by decide, Ok.v (Ok.oe (m_stn c1.1.1 c1.1.2 hs) (Ok.bt rfl (Ok.o2e rfl (Ok.sm ⟨rfl, (h.thr.thr).t (Nat.le_succ t)⟩))))⟩)
  · obtain ⟨n, hn, rfl⟩ := or_st c1.1.2 hs
    have b0 := c1.1.2
    by_cases hv : 0 ≤ a2 ∧ a2 ≤ 3
    · refine Ok.xr (y_st c2.1 b0 hn) (Ok.xr (y_wi hv) (Ok.c (ib (by omega) (by omega)) (Ok.v (Ok.c (ib (by omega) (by omega)) (Ok.v (Ok.sm (Tw.r ?_)))))))
      refine Ok.v (Ok.oe (m_sty c1.1.1 b0 hn) (Ok.bf (by decide) (Ok.oe (m_wy (lo := 0) (hi := 3) (by decide) (by decide) hv) (Ok.bf (by decide) (Ok.c (ibA (by omega) (by omega)) (Ok.v (Ok.c (ibA (by omega) (by omega)) (Ok.v (Ok.sm ⟨rfl, ?_, rfl, ?_⟩)))))))))
      · show gi S 61 0 (nn (16 + Int32.ofNat n)) = gi S 4 0 (nn (Int32.ofNat n))
        rw [nA (by omega), zN (by omega)]
        exact (c3 n hn).2.2.1.symm
      · show Inv (t + 1) (si (si (sl (si S 4 0 (nn (Int32.ofNat n)) a2) 81 0 (nn 0) _) 60 0 5 0) 61 0 (nn (16 + Int32.ofNat n)) a2)
        rw [nA (by omega), zN (by omega)]
        refine Inv.t (Nat.le_succ t) (h.now ?_ rfl rfl rfl rfl rfl ⟨N, D, hh, lv, ri, to, ch, ?_, c2, ?_, c4, ?_, ?_, ?_, ?_, ?_, ?_, ?_, ?_, ?_, c14, c15⟩)
        · exact (((Fr.si (by unfold WN WS Scr; omega)).tr (Fr.sl (by unfold WN WS Scr; omega))).tr (Fr.si (by unfold WN WS Scr; omega))).tr (Fr.si (by unfold WN WS Scr; omega))
        · exact c1.cg (fun i hi => upd_ne (by omega))
        · show Cst N hh (gi S 3 0) (upd (gi S 4 0) n a2) (gi S 5 0) (upd (gi S 61 0) (16 + n) a2)
          intro s hs
          obtain ⟨q1, q2, q3, q4, q5, q6⟩ := c3 s hs
          by_cases e : s = n
          · subst e
            obtain ⟨d, hd, rfl⟩ := zW (x := a2) (n := 4) (by omega) (Int32.not_lt.mpr hv.1) (by
              rw [Int32.lt_iff_toInt_lt]
              have := Int32.le_iff_toInt_le.mp hv.2
              have e3 : (3 : Int32).toInt = 3 := rfl
              have e4 : (Int32.ofNat 4).toInt = 4 := rfl
              omega)
            exact ⟨q1.trans (upd_ne (by omega)).symm, by rw [upd_ne (by omega)]; exact q2, (upd_eq).trans (upd_eq).symm, ⟨d, hd, upd_eq⟩, q5.trans (upd_ne (by omega)).symm, by rw [upd_ne (by omega)]; exact q6⟩
          · exact ⟨q1.trans (upd_ne (by omega)).symm, by rw [upd_ne (by omega)]; exact q2, (upd_ne (by omega)).trans (q3.trans (upd_ne (by omega)).symm), by rw [upd_ne (by omega)]; exact q4, q5.trans (upd_ne (by omega)).symm, by rw [upd_ne (by omega)]; exact q6⟩
        · exact c5.cg c1.2.1.2 (fun i hi => upd_ne (by omega))
        · exact c6.cg b0 (fun i hi => upd_ne (by omega))
        · exact c7.cg b0 c1.2.2.2.2.2.1.2 (fun i hi => upd_ne (by omega))
        · exact c8.cg c1.2.2.2.2.2.2.2 (fun i hi => upd_ne (by omega))
        · exact c9.cg c1.2.2.2.1.2 (fun i hi => upd_ne (by omega))
        · exact c10.cg c1.2.2.2.2.1.2 (fun i hi => upd_ne (by omega))
        · exact c11.cg (fun i hi => upd_ne (by omega))
        · exact c12.cg (fun i hi => upd_ne (by omega))
        · exact c13.cg b0 (fun i hi => upd_ne (by omega))
    · refine Ok.xr (y_st c2.1 b0 hn) (Ok.xl (n_wi hv) (Tw.l (cd := 2) rfl ⟨by decide, Ok.v (Ok.oe (m_sty c1.1.1 b0 hn) (Ok.bf (by decide) (Ok.oe (m_wn (lo := 0) (hi := 3) (by decide) (by decide) hv) (Ok.bt rfl (Ok.o2e rfl (Ok.sm ⟨rfl, (h.thr.thr).t (Nat.le_succ t)⟩))))))⟩))
