theorem CK.moved {cs : Nat → ClassId} {u U : State} (hvm : u.vm.Alike U.vm) (h : CK cs u) : CK cs U := by
  obtain ⟨h0, h1, h2, h3, h4, h5, h6, h7⟩ := h
  exact ⟨(hvm.findClass _ _).trans h0, (hvm.findClass _ _).trans h1, (hvm.findClass _ _).trans h2, (hvm.findClass _ _).trans h3, (hvm.findClass _ _).trans h4, (hvm.findClass _ _).trans h5, (hvm.findClass _ _).trans h6, (hvm.findClass _ _).trans h7⟩
-- CONTRACTS of constructors
def PzN (D : va_G) (cs : Nat → ClassId) (B0 : Nat) (kt : (Nat → Nat) × (Nat → Nat)) (α : Nat → Nat → Nat) (Lv : Nat → Nat → Prop) (S : St) (av : List Value) : Array Value → State → Prop := va_Pc av (fun U => Wd D cs B0 α Lv S U.heap ∧ va_K D vwCl (tys cs) U ∧ KC B0 kt U ∧ CK cs U)
/-- the raw K g has become k g; new ids are those of F -/
def Nw (α : Nat → Nat → Nat) (Lv : Nat → Nat → Prop) (K k g : Nat) (F : List (Nat × Nat)) (u : (Nat → Nat → Nat) × (Nat → Nat → Prop)) : Prop := Ex α Lv (K, g) u.1 u.2 F ∧ u.2 k g ∧ u.1 k g = α K g ∧ ¬ u.2 K g ∧ Cl u.2
def QN (D : va_G) (cs : Nat → ClassId) (B0 : Nat) (α : Nat → Nat → Nat) (Lv : Nat → Nat → Prop) (K k g : Nat) (F : List (Nat × Nat)) (S' : St) : Array Value → State → Outcome → State → Prop := va_Qv (Nw α Lv K k g F) (fun u t => Wd D cs B0 u.1 u.2 S' t.heap) (AB B0)
theorem PzN.blind {D : va_G} {cs : Nat → ClassId} {B0 : Nat} {kt : (Nat → Nat) × (Nat → Nat)} {α : Nat → Nat → Nat} {Lv : Nat → Nat → Prop} {S : St} {av : List Value} : FrameBlind (PzN D cs B0 kt α Lv S av) := by
  intro a U g mk q
  obtain ⟨q0, q1, q2, q3, q4⟩ := q
  have hW : U.WarmedH (U.calling g mk a).vm := State.WarmedH.refl U
  exact ⟨q0, q1, va_K.moved (u := U) (U := U.calling g mk a) (Vm.Alike.refl U.vm) q2, q3.go (U := U.calling g mk a) hW (va_S.rf (H0 := U.heap)), q4⟩
section MTI
variable {p : Program} {l : Launch} {e : Env} {R : Room} {s : State} {m : MethodId} {args : Array Value} {below : List Frame} {meth : Method} {c : Code} {H : Heap} {locs : List Loc} {cells slots : Nat} {Q : State → Prop}
variable {cc : ByteArray} {pc : Nat} {ls : Array Slot} {rest : List Value} {nL : Nat} {own : String} {D : va_G} {cs : Nat → ClassId} {B0 : Nat} {kt : (Nat → Nat) × (Nat → Nat)} {α : Nat → Nat → Nat} {Lv : Nat → Nat → Prop} {S S' : St}
theorem met_ofI {y : MethodName} {b : ByteArray} {n d mc ms : Nat} {r : Option FieldType} {own : String} (hy : plainName y.cls = true) (ho : y.cls = own) {av : List Value} {Qc : Array Value → State → Outcome → State → Prop} (hcl : Cl Lv) (hn : (lg_sl av).length ≤ n)
    (body : ∀ (p : Program) (e : Env) (s : State) (m : MethodId) (below : List Frame) (meth : Method) (c : Code), Cx p s m av.toArray meth c b n own D cs B0 kt Lv → CK cs s → meth.name = y.name → meth.sig.returnType = r → Dy s D cs B0 α Lv S s.heap [] → ∀ ls : Array Slot, lv_has ls n (lv_args 0 av) →
      W p l e (Rm d mc ms) s m av.toArray below meth c s.heap [] 0 0 (MQ below Qc av.toArray s mc ms (AB B0)) (F0 m 0 ls [])) : Met l y (wz y b n r) (Rm d mc ms) (PzN D cs B0 kt α Lv S av) Qc mc ms (AB B0) := by
  refine Met.ofW (cc := b) (maxL := n) (ret := r) hy rfl ?_
  intro p e s m args below meth c s₁ B hml hv
  obtain ⟨rfl, h1, h2, h3, h4⟩ := hv
  have hts := atoms_spec (ws := wz y b n r) B.pre
  have hown : s.vm.findClass y.cls = some m.cls := findClass_of_methodNamed B.named
  rw [ho] at hown
  rw [lg_entry_eq]
  exact body p e s m below meth c ⟨B.exec, B.bytes, hml, hown, fun w hw => hts w (List.mem_cons_of_mem _ hw), h2, hcl, B.notSynchronized, h3⟩ h4 (name_of_methodNamed B.named B.method).1 B.returns ⟨va_S.rf, h1⟩ _ (lv_entry av hn)
theorem PzN.at (hc : Cx p s m args meth c cc nL own D cs B0 kt Lv) (hck : CK cs s) (hd : Dy s D cs B0 α Lv S H locs) (av : List Value) : ∀ U : State, U.heap = H → s.WarmedH U.vm → PzN D cs B0 kt α Lv S av av.toArray U := fun U hU hW =>
  ⟨rfl, by rw [hU]; exact hd.2, va_K.moved hW.alike hc.K, hc.kc.go (locs := locs) hW (by rw [hU]; exact hd.1), hck.moved hW.alike⟩
def MyI (y : MethodName) (b : ByteArray) (n k : Nat) : Prop := Cond.instanceMethod y ∈ lw_good ∧ Cond.initialized y.cls ∈ lw_good ∧ Cond.code y b n none ∈ lw_good ∧ y.name = "<init>" ∧ (y.cls ≠ "java/lang/invoke/MethodHandle" ∧ y.cls ≠ "java/lang/invoke/VarHandle" ∧ (parseMethodDescriptor y.desc).map (fun d => d.parameters.length) = some k)
theorem k_runI (hc : Cx p s m args meth c cc nL own D cs B0 kt Lv) (hck : CK cs s) (hd : Dy s D cs B0 α Lv S H locs) {y : MethodName} {b : ByteArray} {n d mc ms kn index a : Nat} (my : MyI y b n kn) (hlk : Cond.methodLink own index y ∈ lw_good) {As : List Value} {Qc : Array Value → State → Outcome → State → Prop}
    (hM : Met l y (wz y b n none) (Rm d mc ms) (PzN D cs B0 kt α Lv S (.ref a :: As)) Qc mc ms (AB B0)) (hn : As.length = kn) {st0 : List Value} (hst : st0 = As.reverse ++ .ref a :: rest) (hls : ls.size = nL) (hw : (rest.map fun v => v.category).sum ≤ 8) (hR : d + 1 ≤ R.frames ∧ 8 + (n + 11) + 40 * d ≤ R.locals ∧ cells + mc ≤ R.cells ∧ slots + ms ≤ R.slots) (hdg : decode cc pc = .ok (.invokespecial index, 3)) :
    va_Run p l e R s m args below meth c H locs cells slots mc ms (F0 m pc ls st0) rest (Qc (.ref a :: As).toArray) (AB B0) := by
  obtain ⟨m1, m2, m3, m4, m5⟩ := my
  exact va_runI (nL := nL) (cc := cc) (own := own) (Ts := lw_good) ⟨hc.x, hc.b, hc.ml, hc.ow, fun w hw => hc.ts hw⟩ hM ⟨callB_of kn (fun w hw => hc.ts hw) (good_1 m3) rfl rfl rfl (hc.ts m2) (hc.ts hlk) m5 ⟨hR.1, hR.2.1⟩, m4, hc.ts m1⟩ ⟨PzN.blind, PzN.at hc hck hd _⟩ rfl hn hls hst (lv_room hw) hdg ⟨hR.2.2.1, hR.2.2.2⟩
end MTI
