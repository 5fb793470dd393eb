section NR
variable {p : Program} {l : Launch} {e : Env} {R : Room} {s : State} {m : MethodId} {args : Array Value} {below : List Frame} {meth : Method} {c : Code} {H : Heap} {locs : List Loc} {cells slots : Nat} {Q : State → Prop}
variable {cc : ByteArray} {pc : Nat} {ls : Array Slot} {rest : List Value} {nL : Nat} {own : String} {D : va_G} {cs : Nat → ClassId} {B0 : Nat} {kt : (Nat → Nat) × (Nat → Nat)} {α α0 : Nat → Nat → Nat} {Lv Lv0 : Nat → Nat → Prop} {S : St} {X : Nat × Nat} {F : List (Nat × Nat)}
/-- a final field of an object that its constructor sets: a plain value -/
theorem r_putF (hc : Cx p s m args meth c cc nL own D cs B0 kt Lv) (hin2 : meth.name = "<init>") (hd : Dy s D cs B0 α Lv S H locs) {k g : Nat} (hl : Lv k g) {C : String} {T : u_T} {N ci index : Nat} {fs : List Value} (hce : ce cs α S k g = .inr (ci, fs)) (hcl : vwCl[ci]? = some (C, T, N)) (hin : ∀ w ∈ u_ws C T N, w ∈ lw_good) (ty0 : Nat → FieldType) (hty : ∀ k, k < N → parseFieldDescriptor (T k).2.2.1 = some (ty0 k)) (hnm : ∀ a, a < N → ∀ b, b < N → a ≠ b → (T a).2.1 ≠ (T b).2.1) (j : Nat) (hj : j < N) (hlink : Cond.fieldLink own index (T j).1 (T j).2.1 (T j).2.2.1 ∈ lw_good)
    (hfin : (T j).2.2.2 = true) (hdecl : (T j).1 = own) {ty : FieldType} {v : Value} (hdd : parseFieldDescriptor (T j).2.2.1 = some ty) (hn : narrow ty v = v) (hfit : fits ty v = true) (hlt : j < fs.length) {S' : St} (hce' : ce cs α S' k g = .inr (ci, fs.set j v)) (hoth : ∀ k' g', ¬ (k' = k ∧ g' = g) → ce cs α S' k' g' = ce cs α S k' g') (hrv : Rv Lv S → Rv Lv S')
    (hdg : decode cc pc = .ok (.putfield index, 3)) (kk : ∀ (H1 : Heap) (locs1 : List Loc), Dy s D cs B0 α Lv S' H1 locs1 → W p l e R s m args below meth c H1 locs1 cells slots Q (F0 m (pc + 3) ls rest)) : W p l e R s m args below meth c H locs cells slots Q (F0 m pc ls (v :: .ref (α k g) :: rest)) := by
  have hK := hc.K
  have hts : ∀ w ∈ lw_good, w.before args s = true := fun w hw => hc.ts hw
  have hap := va_apart (own := own) hts hin ty0 hty hnm hK hcl
  have he := hd.2.1 k g hl
  rw [hce] at he
  obtain ⟨r, h1, cell, q1, q2, q3, q4⟩ := he
  have hr : r = (C, T, N) := Option.some.inj (h1.symm.trans hcl)
  subst hr
  obtain ⟨hS, hfc, kC, hkC, hkind⟩ := hK.1 ci _ hcl
  obtain ⟨cf, kf, fi, f, hi, hsl⟩ := hS j hj
  have hlay := hts _ (hin _ (u_in_lay hj))
  unfold u_lay at hlay
  rw [if_pos hfin] at hlay
  have hst := (u_facts hfc hkC (u_lays hts hin hj) hi).1
  have hcf : m.cls = cf := by
    obtain ⟨_, _, c', _, _, _, -, -, hf', -, -, -, hown2, -⟩ := Cond.laysFinal_spec hlay
    have e1 : c' = cf := by have := hi.symm.trans hf'; simp at this; exact this.1.symm
    rw [hdecl] at hown2
    rw [← e1]; exact Option.some.inj (hc.ow.symm.trans hown2)
  have h6 := u_fits hfc hkC hkind (Or.inr hlay) hi hdd hn hfit
  refine W.putFinK hc.x hc.b hc.ow (hc.ts hlink) hi hst hcf hin2 (by rw [q2]; exact h6) q1 q3 (by rw [hsl]; exact k2_hasslot (q4 j hj)) rfl rfl hdg fun H' e1 e2 e3 => ?_
  rw [hsl] at e1 ⊢
  exact kk H' _ (hd.put hl (by rw [hce']; exact ⟨_, hcl, t_OB.to (V := updV (vp_V fs) j v) ⟨_, e1, q2, q3, t_set q4 hap hj v⟩ (fun j _ => vp_updV_set hlt v j)⟩) e2 e3 hoth (hrv hd.2.2.2.2) lo_put)
theorem r_anew (hc : Cx p s m args meth c cc nL own D cs B0 kt Lv) (hd : Dy s D cs B0 α Lv S H locs) (hx : Ex α0 Lv0 X α Lv F) {K G N index : Nat} {n : Int32} {C : String} {cA : ClassId} {f : Nat → Option Nat} (hcA : s.vm.findClass ("[" ++ (FieldType.object C).toString) = some cA) (hlink : Cond.classLink own index C ∈ lw_good) (hover : va_AO C s) (hcz : ∀ β : Nat → Nat → Nat, ce0 cs β K G (fun _ => 0) (fun _ => 0) (fun _ => none) N = .inl (cA, N, .inr (.inr (.inr (.inr fun _ => none)))))
    (hK : K ∉ clK) (hK' : K < 1000) (h0 : ¬ Lv0 K G) (hF : (K, G) ∉ F) (hn : ¬ n < 0) (hN : n.toNatClampNeg = N) (hb : N * 4 ≤ 536870912) (hR : cells + 1 ≤ R.cells ∧ slots + N ≤ R.slots) (hdg : decode cc pc = .ok (.anewarray index, 3))
    (kk : ∀ (α' : Nat → Nat → Nat) (H1 : Heap), (∀ k g, Lv k g → α' k g = α k g) → (∀ k g, 1000 ≤ k → α' k g = α k g) → Cx p s m args meth c cc nL own D cs B0 kt (adL Lv K G) → Dy s D cs B0 α' (adL Lv K G) (zr S K G N) H1 locs → Ex α0 Lv0 X α' (adL Lv K G) ((K, G) :: F) → W p l e R s m args below meth c H1 locs (cells + 1) (slots + N) Q (F0 m (pc + 3) ls (.ref (α' K G) :: rest))) : W p l e R s m args below meth c H locs cells slots Q (F0 m pc ls (.int n :: rest)) := by
  subst hN
  have hnl := hx.nl h0 hF
  refine W.anew hc.x hc.b hc.ow (hc.ts hlink) (va_AO.use hover) rfl hdg rfl hn hb hR.1 hR.2 fun cA' kA comp f1 f2 f3 f4 => ?_
  have ec : cA' = cA := Option.some.inj (f1.symm.trans hcA)
  subst ec
  generalize hH1 : H.push ({ cls := cA', slots := Array.replicate n.toNatClampNeg .null, vm := .none } : Cell) = H1
  have z1 : H1.size = H.size + 1 := by rw [← hH1, Array.size_push]
  have e1 : H1[H.size]? = some (arrV cA' n.toNatClampNeg (fun _ => .null)) := by rw [← hH1, Array.getElem?_push_size, ← arrV_new]
  have o1 : ∀ q : Nat, q < H.size → H1[q]? = H[q]? := fun q hq => by rw [← hH1, Array.getElem?_push, if_neg (Nat.ne_of_lt hq)]
  have hd' := hd.new (K := K) (G := G) (S' := zr S K G n.toNatClampNeg) (H1 := H1) hc.cl (Nat.le_trans hc.kc.2.2.2.2.1 hd.1.1) hK' hnl (by
    rw [ce_zr, hcz]
    show H1[H.size]? = some (vp_cell _ _)
    rw [vp_cell_q]; exact e1) (by omega) o1 (fun k g h => zr_o h) (fun j => by show up2 S.2.2.1 K G (fun _ => none) K G j = none; rw [up2_s])
  have hk := kk (up2 α K G H.size) H1 (fun k g hl => up2_n (fun e => hnl (by rw [← e.1, ← e.2]; exact hl))) (fun k g h => up2_n (fun e => by omega)) (hc.lv (cl_ad hK hc.cl)) hd' (hx.ad h0 hK')
  rw [up2_s] at hk
  exact hk
/-- Object's constructor -/
theorem r_oini (hc : Cx p s m args meth c cc nL own D cs B0 kt Lv) {idx : Nat} (hlink : Cond.methodLink own idx Lib.objectInit ∈ lw_good) (hinst : Cond.instanceMethod Lib.objectInit ∈ lw_good) (hcode : Cond.code Lib.objectInit ⟨#[0xb1]⟩ 1 none ∈ lw_good) (hls : ls.size = nL) {a : Nat} (hdg : decode cc pc = .ok (.invokespecial idx, 3)) (hw : (rest.map fun v => v.category).sum ≤ 8) (hR : 1 ≤ R.frames ∧ 20 ≤ R.locals)
    (kk : W p l e R s m args below meth c H locs cells slots Q (F0 m (pc + 3) ls rest)) : W p l e R s m args below meth c H locs cells slots Q (F0 m pc ls (.ref a :: rest)) :=
  W.objInit hc.x hc.b hc.ow (hc.ts hlink) (hc.ts hinst) (hc.ts hcode) rfl (hls.trans hc.ml.symm) rfl hdg hR.1 (by show 2 * 0 + _ + 12 ≤ _; omega) kk
end NR
