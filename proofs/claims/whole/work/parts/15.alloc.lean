-- REFERENCES that change
section RP
variable {p : Program} {l : Launch} {e : Env} {R : Room} {s : State} {m : MethodId} {args : Array Value} {below : List Frame} {meth : Method} {c : Code} {H : Heap} {locs : List Loc} {cells slots : Nat} {Q : State → Prop}
variable {cc : ByteArray} {pc : Nat} {ls : Array Slot} {rest : List Value} {nL : Nat} {own : String} {D : va_G} {cs : Nat → ClassId} {B0 : Nat} {kt : (Nat → Nat) × (Nat → Nat)} {α : Nat → Nat → Nat} {Lv : Nat → Nat → Prop} {S : St}
theorem gr_ar_n {k g : Nat} {f : Nat → Option Nat} {k' g' : Nat} (h : ¬ (k' = k ∧ g' = g)) : gr (ar S k g f) k' g' = gr S k' g' := up2_n h
theorem rv_sr {k g i kt' : Nat} {v : Option Nat} (hk : (k = 1 ∧ kt' = 2) ∨ (k = 2 ∧ kt' = 35) ∨ (k = 8 ∧ kt' = 32)) (hv : ∀ r, v = some r → Lv kt' r) (h : Rv Lv S) : Rv Lv (sr S k g i v) := by
  have key : ∀ k0 t0, ((k = k0 → kt' = t0)) → (∀ g j r, Lv k0 g → gr S k0 g j = some r → Lv t0 r) → ∀ g' j r, Lv k0 g' → gr (sr S k g i v) k0 g' j = some r → Lv t0 r := by
    intro k0 t0 hh h0 g' j r hl hr
    by_cases he : k0 = k ∧ g' = g
    · obtain ⟨e1, e2⟩ := he
      subst e1 e2
      unfold sr at hr
      rw [gr_ar] at hr
      unfold va_up at hr
      split at hr
      · rw [← hh rfl]; exact hv r hr
      · exact h0 g' j r hl hr
    · unfold sr at hr
      rw [gr_ar_n he] at hr
      exact h0 g' j r hl hr
  refine ⟨key 1 2 ?_ h.1, key 2 35 ?_ h.2.1, key 8 32 ?_ h.2.2⟩ <;> omega
theorem fp_2_8 (hc : Cx p s m args meth c cc nL own D cs B0 kt Lv) (hd : Dy s D cs B0 α Lv S H locs) {g : Nat} (hl : Lv 2 g) {index : Nat} (hlink : Cond.fieldLink own index "PumpCrossing$Crossing" "law" "LPumpCrossing$Law;" ∈ lw_good) {v : Option Nat} (hv : ∀ r, v = some r → Lv 35 r) (hdg : decode cc pc = .ok (.putfield index, 3)) (kk : ∀ (H1 : Heap) (locs1 : List Loc), Dy s D cs B0 α Lv (sr S 2 g 8 v) H1 locs1 → W p l e R s m args below meth c H1 locs1 cells slots Q (F0 m (pc + 3) ls rest)) : W p l e R s m args below meth c H locs cells slots Q (F0 m pc ls (va_rf (v.map (α 35)) :: .ref (α 2 g) :: rest)) :=
  r_put (S' := sr S 2 g 8 v) hc hd hl rfl rfl inX2 tyX2 tyX2_ok nmX2 8 (by decide) hlink rfl (ty := .object "PumpCrossing$Law") (by decide +kernel) (by cases v <;> rfl) (by cases v <;> rfl) (by show _ < 18; decide) (by unfold sr; rw [ce_s_ar]; rfl) (by unfold sr; exact ce_ar) (rv_sr (Or.inr (Or.inl ⟨rfl, rfl⟩)) hv) hdg kk
theorem r_aast (hc : Cx p s m args meth c cc nL own D cs B0 kt Lv) (hd : Dy s D cs B0 α Lv S H locs) {k g : Nat} (hl : Lv k g) {n t0 kt' ci : Nat} {cA : ClassId} {rC : vw_C} (hk : (k = 1 ∧ kt' = 2) ∨ (k = 2 ∧ kt' = 35) ∨ (k = 8 ∧ kt' = 32)) (hce : ∀ f : Nat → Option Nat, ce0 cs α k g (gi S k g) (gl S k g) f (gn S k g) = .inl (cA, n, .inr (.inr (.inr (.inr (fun j => (f j).map (α kt')))))))
    (ht : (tys cs)[t0]? = some (cA, .object rC.1)) (hcl : vwCl[ci]? = some rC) (hob : ∀ r, ∃ fs, ce cs α S kt' r = .inr (ci, fs)) {i : Int32} {v : Option Nat} (hv : ∀ r, v = some r → Lv kt' r) (hin : inb i n = true) (hdg : decode cc pc = .ok (.aastore, 1))
    (kk : ∀ (H1 : Heap) (locs1 : List Loc), Dy s D cs B0 α Lv (sr S k g (nn i) v) H1 locs1 → W p l e R s m args below meth c H1 locs1 cells slots Q (F0 m (pc + 1) ls rest)) : W p l e R s m args below meth c H locs cells slots Q (F0 m pc ls (va_rf (v.map (α kt')) :: .int i :: .ref (α k g) :: rest)) := by
  have hin := inb_in hin
  have hlt : i.toNatClampNeg < n := Nat.not_le.mp fun q => hin (Or.inr q)
  have h0 : ¬ i < 0 := fun q => hin (Or.inl q)
  have he := hd.2.1 k g hl
  have hce1 : ce cs α S k g = .inl (cA, n, .inr (.inr (.inr (.inr (fun j => (gr S k g j).map (α kt')))))) := hce _
  have hce2 : ce cs α (sr S k g (nn i) v) k g = .inl (cA, n, .inr (.inr (.inr (.inr (fun j => (va_up (gr S k g) (nn i) v j).map (α kt')))))) := by unfold sr; rw [ce_s_ar]; exact hce _
  rw [hce1] at he
  have fin : ∀ (H1 : Heap), H1[α k g]? = some ((vp_cell cA (n, .inr (.inr (.inr (.inr (fun j => (gr S k g j).map (α kt'))))))).setSlot i.toNatClampNeg (va_rf (v.map (α kt')))) → H1.size = H.size → (∀ q : Nat, q ≠ α k g → H1[q]? = H[q]?) → Dy s D cs B0 α Lv (sr S k g (nn i) v) H1 (locs ++ [⟨α k g, i.toNatClampNeg⟩]) := by
    intro H1 e z oq
    refine hd.put hl ?_ z oq (by unfold sr; exact ce_ar) (rv_sr hk hv hd.2.2.2.2) lo_put
    rw [hce2]
    show H1[α k g]? = some (vp_cell _ _)
    rw [e]
    rw [vp_cell_q, vp_cell_q, arrV_store]
    congr 2
    funext q
    by_cases hq : q = i.toNatClampNeg
    · subst hq
      simp [updV, va_up]
    · simp [updV, va_up, hq]
  cases v with
  | none =>
    exact va_WaastN (C := rC.1) hc.x hc.b he ((hc.K.2 t0 _ ht).1 n (fun j => va_rf ((gr S k g j).map (α kt')))) (fun h => by cases h) (by show ¬ (i < 0 ∨ (arrV _ _ _).slots.size ≤ _); rw [arrV_size]; exact hin) rfl rfl hdg fun H1 e z oq => kk H1 _ (fin H1 e z oq)
  | some r =>
    have heV := hd.2.1 kt' r (hv r rfl)
    obtain ⟨fs, hfs⟩ := hob r
    rw [hfs] at heV
    obtain ⟨r', hr', cellV, g1, g2, g3, -⟩ := heV
    have hcls := (hc.K.1 ci rC hcl).2
    obtain ⟨kA, comp, k1, k2, k3, -⟩ := (hc.K.2 t0 _ ht).2
    have hcomp : comp = D.1 ci := Option.some.inj (k3.symm.trans hcls.1)
    subst hcomp
    obtain ⟨kC, hkC, -⟩ := hcls.2
    exact W.aast hc.x hc.b he (fun q h => by cases h) (fun h => by cases h) k1 k2 rfl hkC ⟨h0, by show _ < (arrV _ _ _).slots.size; rw [arrV_size]; exact hlt⟩ g1 (fun q h => by rw [g3] at h; cases h) (by rw [g2]; exact hkC) (by rw [g2]; exact va_assign hcls) rfl rfl hdg fun H1 e z oq => kk H1 _ (fin H1 e z oq)
end RP
