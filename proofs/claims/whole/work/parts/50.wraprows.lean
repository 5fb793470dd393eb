-- METHODS WITH AN EXCEPTION TABLE: the law's own wrappers
def wx (y : MethodName) (b : ByteArray) (n : Nat) (r : Option FieldType) (hh : List (Nat × Nat × Nat × Nat)) : List Cond := .codeWith y b n r hh :: lw_good
def wl {σ : Type} (v : Option ((Nat ⊕ σ) × St)) (a : Nat → St → Option (Int32 × St)) (b : σ → St → Option (Int32 × St)) : Option (Int32 × St) := match v with
  | none => none
  | some (.inl k, S) => a k S
  | some (.inr x, S) => b x S
theorem wl_s {σ : Type} {v : Option ((Nat ⊕ σ) × St)} {a : Nat → St → Option (Int32 × St)} {b : σ → St → Option (Int32 × St)} {o : Int32 × St} (h : wl v a b = some o) : (∃ k S, v = some (.inl k, S) ∧ a k S = some o) ∨ ∃ x S, v = some (.inr x, S) ∧ b x S = some o := by
  match v, h with
  | none, h => cases h
  | some (.inl k, S), h => exact Or.inl ⟨k, S, rfl, h⟩
  | some (.inr x, S), h => exact Or.inr ⟨x, S, rfl, h⟩
section WR
variable {p : Program} {l : Launch} {e : Env} {R : Room} {s : State} {m : MethodId} {args : Array Value} {below : List Frame} {meth : Method} {c : Code} {H : Heap} {locs : List Loc} {cells slots : Nat} {Q : State → Prop}
variable {cc : ByteArray} {pc : Nat} {ls : Array Slot} {rest : List Value} {nL : Nat} {own : String} {D : va_G} {cs : Nat → ClassId} {B0 : Nat} {kt : (Nat → Nat) × (Nat → Nat)} {α : Nat → Nat → Nat} {Lv : Nat → Nat → Prop} {S S' : St}
theorem met_ofWH {y : MethodName} {b : ByteArray} {n d mc ms : Nat} {r : Option FieldType} {hh : List (Nat × Nat × Nat × Nat)} {own : String} (hy : plainName y.cls = true) (ho : y.cls = own) {av : List Value} {Qc : Array Value → State → Outcome → State → Prop} (hcl : Cl Lv) (hn : (lg_sl av).length ≤ n)
    (body : ∀ (p : Program) (e : Env) (s : State) (m : MethodId) (below : List Frame) (meth : Method) (c : Code), Cx p s m av.toArray meth c b n own D cs B0 kt Lv → CK cs s → meth.sig.returnType = r → c.exceptionTable.toList = tableOf hh → Dy s D cs B0 α Lv S s.heap [] → ∀ ls : Array Slot, lv_has ls n (lv_args 0 av) →
      W p l e (Rm d mc ms) s m av.toArray below meth c s.heap [] 0 0 (MQ below Qc av.toArray s mc ms (AB B0)) (F0 m 0 ls [])) : Met l y (wx y b n r hh) (Rm d mc ms) (PzN D cs B0 kt α Lv S av) Qc mc ms (AB B0) := by
  refine MetFree.of_bodyS (code := b) (maxLocals := n) (ret := r) hy ?_ ?_
  · intro args s m h hn
    obtain ⟨m9, meth, c, hn9, h1, h2, h3, h4, -, h5, h6, -⟩ := Cond.codeWith_spec (atoms_spec (ws := wx y b n r hh) h _ List.mem_cons_self)
    cases hn.symm.trans hn9
    exact ⟨meth, c, h1, h2, h3, h4, h5, h6⟩
  · intro p e s m args below meth c s₁ B hml hP _
    have hh0 : s₁.heap = s.heap := by rw [B.state]; rfl
    obtain ⟨rfl, h1, h2, h3, h4⟩ := hP
    have hts := atoms_spec (ws := wx y b n r hh) B.pre
    have hown : s.vm.findClass y.cls = some m.cls := findClass_of_methodNamed B.named
    rw [ho] at hown
    have htab : c.exceptionTable.toList = tableOf hh := vx_table (x := y) B (hts _ List.mem_cons_self)
    have K := body p e s m below meth c ⟨B.exec, B.bytes, hml, hown, fun w hw => hts w (List.mem_cons_of_mem _ hw), h2, hcl, B.notSynchronized, h3⟩ h4 B.returns htab ⟨va_S.rf, h1⟩ _ (lv_entry av hn)
    rw [← lg_entry_eq] at K
    obtain ⟨t, a1, o, b1, b2, b3⟩ := K s₁ hh0 (Stand.of_body B)
    exact ⟨t, o, a1, b1, b2, b3⟩
def MyW (y : MethodName) (b : ByteArray) (n : Nat) (r : Option FieldType) (hh : List (Nat × Nat × Nat × Nat)) (k : Nat) : Prop := Cond.static y ∈ lw_good ∧ Cond.initialized y.cls ∈ lw_good ∧ Cond.codeWith y b n r hh ∈ lw_good ∧ (y.cls ≠ "java/lang/invoke/MethodHandle" ∧ y.cls ≠ "java/lang/invoke/VarHandle" ∧ (parseMethodDescriptor y.desc).map (fun d => d.parameters.length) = some k)
theorem k_runSW (hc : Cx p s m args meth c cc nL own D cs B0 kt Lv) (hck : CK cs s) (hd : Dy s D cs B0 α Lv S H locs) {y : MethodName} {b : ByteArray} {n d mc ms kn index : Nat} {r : Option FieldType} {hh : List (Nat × Nat × Nat × Nat)} (my : MyW y b n r hh kn) (hlk : Cond.methodLink own index y ∈ lw_good) {As : List Value} {Qc : Array Value → State → Outcome → State → Prop}
    (hM : Met l y (wx y b n r hh) (Rm d mc ms) (PzN D cs B0 kt α Lv S As) Qc mc ms (AB B0)) (hn : As.length = kn) {st0 : List Value} (hst : st0 = As.reverse ++ rest) (hls : ls.size = nL) (hw : (rest.map fun v => v.category).sum ≤ 8) (hR : d + 1 ≤ R.frames ∧ 8 + (n + 11) + 40 * d ≤ R.locals ∧ cells + mc ≤ R.cells ∧ slots + ms ≤ R.slots) (hdg : decode cc pc = .ok (.invokestatic index, 3)) :
    va_Run p l e R s m args below meth c H locs cells slots mc ms (F0 m pc ls st0) rest (Qc As.toArray) (AB B0) := by
  obtain ⟨m1, m2, m3, m4⟩ := my
  have g : ∀ w ∈ lw_good, w ∈ lw_good ∧ ((w.onTables && w.keeps) = true ∨ ∃ ty, w = .arrayClass ty) := fun w hw => ⟨hw, good_of_word (List.mem_filter.mp hw).2⟩
  have hG : GoodIn lw_good (va_wsS own index y (wx y b n r hh)) := by
    intro w hw
    rcases List.mem_append.mp hw with h | h
    · simp only [List.mem_cons, List.mem_nil_iff, or_false] at h
      rcases h with rfl | rfl | rfl
      · exact g _ hlk
      · exact g _ m1
      · exact g _ m2
    · rcases List.mem_cons.mp h with h | h
      · rw [h]; exact g _ m3
      · exact g _ h
  exact vx_runSW (nL := nL) (cc := cc) (own := own) (Ts := lw_good) (hh := hh) (bytes := b) (maxL := n) (ret := r) ⟨hc.x, hc.b, hc.ml, hc.ow, fun w hw => hc.ts hw⟩ hM (vx_cwSW kn (fun w hw => hc.ts hw) hG rfl rfl rfl m4 ⟨hR.1, hR.2.1⟩) ⟨PzN.blind, PzN.at hc hck hd _⟩ rfl hn hls hst (lv_room hw) hdg ⟨hR.2.2.1, hR.2.2.2⟩
theorem x_catch (hc : Cx p s m args meth c cc nL own D cs B0 kt Lv) {st0 : List Value} {a : Array Value} {k : Nat} {S1 : St} (hr : vx_Run p l e R s m args below meth c H locs cells slots 1 6 (F0 m pc ls st0) rest (QF a) (XQ D cs B0 α Lv k S1) (AB B0)) (hd : Dy s D cs B0 α Lv S H locs) {name : String} (hname : exN k = name) (pre : List ExceptionTableEntry) (x : ExceptionTableEntry) (suf : List ExceptionTableEntry) (hsplit : c.exceptionTable.toList = pre ++ x :: suf)
    (hpass : ∀ z ∈ pre, z.catchType ≠ 0 ∧ ∃ nm : String, Cond.classLink own z.catchType nm ∈ lw_good ∧ va_Nc name nm s) (hx : covers x pc = true) (h0 : x.catchType ≠ 0) (hlink : Cond.classLink own x.catchType name ∈ lw_good) (hcast : va_Nw (.castable name name) s)
    (kk : ∀ (H1 : Heap) (locs1 : List Loc) (q : Nat), Dy s D cs B0 α Lv S1 H1 locs1 → W p l e R s m args below meth c H1 locs1 (cells + 1) (slots + 6) Q (F0 m x.handlerPc ls [.ref q])) : W p l e R s m args below meth c H locs cells slots Q (F0 m pc ls st0) := by
  intro T hT X
  rcases hr T hT X with ⟨v, st₀, t, T', L, h1, X', hL, e1, e2, hq, st⟩ | ⟨q, st₀, t, T', L, E, ce, h1, X', hL, e1, e2, ⟨u, hp, ⟨hE, hw⟩, hF⟩, hce, hcv, hcl, st⟩
  · exact hq.elim
  · obtain ⟨k1, k2, k3⟩ := vx_keep h1 e1 hd.1 (fun q _ h => h) (fun q h => h) hL hF
    have hd1 : Dy s D cs B0 α Lv S1 T'.heap (locs ++ L) := ⟨k3, by rw [e1]; exact hw⟩
    rw [hname] at hE
    subst hE
    obtain ⟨t2, a1, b1⟩ := vx_catch (rest := rest) (pc := pc) hc.ow pre x suf hsplit (fun z hz => by
      obtain ⟨z1, nm, z2, z3⟩ := hpass z hz
      exact Or.inr ⟨z1, nm, hc.ts z2, z3⟩) hx h0 (hc.ts hlink) (va_Nw.use rfl hcast) (by rw [e1]; exact hce) hcv hcl (kk T'.heap (locs ++ L) q hd1) T' rfl X'
    exact ⟨t2, st.trans a1, b1⟩
end WR
