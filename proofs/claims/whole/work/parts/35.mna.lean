section MN
variable {p : Program} {l : Launch} {e : Env} {R : Room} {s : State} {m : MethodId} {args : Array Value} {below : List Frame} {meth : Method} {c : Code} {H : Heap} {locs : List Loc} {cells slots : Nat} {Q : State → Prop}
variable {cc : ByteArray} {pc : Nat} {ls : Array Slot} {rest : List Value} {nL : Nat} {own : String} {D : va_G} {cs : Nat → ClassId} {B0 : Nat} {kt : (Nat → Nat) × (Nat → Nat)} {α α0 : Nat → Nat → Nat} {Lv Lv0 : Nat → Nat → Prop} {S : St} {X : Nat × Nat} {F : List (Nat × Nat)}
theorem W_mna (hc : Cx p s m args meth c cc nL own D cs B0 kt Lv) {index : Nat} {ty : FieldType} {cA cy : ClassId} (hcA : s.vm.findClass ("[" ++ (FieldType.array ty).toString) = some cA) (hcy : s.vm.findClass (FieldType.array ty).toString = some cy) (hlink : Cond.classLink own index ("[" ++ (FieldType.array ty).toString) ∈ lw_good) (hover : va_AOA ty s) (harr : Cond.arrayClass ty ∈ lw_good) {n k : Int32} {N M : Nat} {z : vp_A} (hn : ¬ n < 0) (hk : ¬ k < 0) (hN : n.toNatClampNeg = N) (hM : k.toNatClampNeg = M)
    (hb1 : N * 4 ≤ 536870912) (hb2 : M * componentBytes ty ≤ 536870912) (hb3 : M ≤ 536870912) (hdf : fits ty (defaultValue ty) = true) (hdd : (defaultValue ty).isDefault = true) (hR : cells + (1 + N) ≤ R.cells ∧ slots + (N + N * M) ≤ R.slots) (hz : Jvm.Free.Multi.innerC cy M (defaultValue ty) = vp_cell cy z) (hdg : decode cc pc = .ok (.multianewarray index 2, 4))
    (kk : ∀ H1 : Heap, H.size ≤ H1.size → (∀ q : Nat, q < H.size → H1[q]? = H[q]?) → H1[H.size]? = some (vp_cell cA (N, .inr (.inr (.inr (.inr (fun i => if i < N then some (H.size + 1 + i) else none)))))) → (∀ j : Nat, j < N → H1[H.size + 1 + j]? = some (vp_cell cy z)) → W p l e R s m args below meth c H1 locs (cells + 1 + N) (slots + N + N * M) Q (F0 m (pc + 4) ls (.ref H.size :: rest))) : W p l e R s m args below meth c H locs cells slots Q (F0 m pc ls (.int k :: .int n :: rest)) := by
  subst hN
  subst hM
  intro T hT Xs
  obtain ⟨vm₁, cA', comp, -, fA, fC, hO, -, X', step⟩ := Xs.multianewarray2F hc.x hc.ow (hc.ts hlink) (va_AOA.use hover) (hc.ts harr) (g := F0 m pc ls (.int k :: .int n :: rest)) rfl (by rw [hc.b]; exact hdg) rfl hn hk hb1 hb2 hb3 hdf hdd hR.1 hR.2
  have ec : cy = comp := Option.some.inj (hcy.symm.trans fC)
  subst ec
  have ec : cA = cA' := Option.some.inj (hcA.symm.trans fA)
  subst ec
  generalize hF : Jvm.Free.Multi.fill (T.setVm vm₁) cA cy n.toNatClampNeg k.toNatClampNeg (defaultValue ty) n.toNatClampNeg = Fz at X' step
  have hTh : (T.setVm vm₁).heap = H := hT
  obtain ⟨f1, f2, -, -⟩ := Jvm.Free.Multi.fill_facts (T.setVm vm₁) cA cy n.toNatClampNeg k.toNatClampNeg (defaultValue ty) n.toNatClampNeg
  rw [hF, hTh] at f1 f2
  have hold : ∀ x : Nat, x < H.size → Fz.heap[x]? = H[x]? := fun x hx => by
    have := Jvm.Free.Multi.fill_old (T.setVm vm₁) cA cy n.toNatClampNeg k.toNatClampNeg (defaultValue ty) (a := x) (by rw [hTh]; exact hx) n.toNatClampNeg
    rw [hF, hTh] at this
    exact this
  have hrow : ∀ j : Nat, j < n.toNatClampNeg → Fz.heap[H.size + 1 + j]? = some (vp_cell cy z) := fun j hj => by
    have := Jvm.Free.Multi.fill_inner (T.setVm vm₁) cA cy n.toNatClampNeg k.toNatClampNeg (defaultValue ty) n.toNatClampNeg j hj
    rw [hF, hTh, hz] at this
    exact this
  have hout : Jvm.Free.Multi.outerC cA n.toNatClampNeg H.size n.toNatClampNeg = vp_cell cA (n.toNatClampNeg, .inr (.inr (.inr (.inr (fun i => if i < n.toNatClampNeg then some (H.size + 1 + i) else none))))) := by
    rw [vp_cell_q]
    exact vr_outer cA n.toNatClampNeg H.size n.toNatClampNeg
  rw [hout] at f2
  obtain ⟨t, a1, b1⟩ := kk Fz.heap (by omega) hold f2 hrow Fz rfl X'
  refine ⟨t, step t ?_, b1⟩
  rw [show T.heap.size = H.size by rw [← hTh]; rfl]
  exact a1
end MN
