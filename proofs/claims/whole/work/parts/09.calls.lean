-- CONTRACTS over the state
def Pz (D : va_G) (cs : Nat → ClassId) (B0 : Nat) (kt : (Nat → Nat) × (Nat → Nat)) (α : Nat → Nat → Nat) (Lv : Nat → Nat → Prop) (S : St) (av : List Value) : Array Value → State → Prop := va_Pc av (fun U => Wd D cs B0 α Lv S U.heap ∧ va_K D vwCl (tys cs) U ∧ KC B0 kt U)
def Qi (D : va_G) (cs : Nat → ClassId) (B0 : Nat) (α : Nat → Nat → Nat) (Lv : Nat → Nat → Prop) (r : Int32) (S : St) : Array Value → State → Outcome → State → Prop := va_Qi (fun (r' : Int32) (_ : Unit) => r' = r) (fun _ t => Wd D cs B0 α Lv S t.heap) (AB B0)
def Ql (D : va_G) (cs : Nat → ClassId) (B0 : Nat) (α : Nat → Nat → Nat) (Lv : Nat → Nat → Prop) (r : Int64) (S : St) : Array Value → State → Outcome → State → Prop := va_Ql (fun (r' : Int64) (_ : Unit) => r' = r) (fun _ t => Wd D cs B0 α Lv S t.heap) (AB B0)
def Qv (D : va_G) (cs : Nat → ClassId) (B0 : Nat) (α : Nat → Nat → Nat) (Lv : Nat → Nat → Prop) (S : St) : Array Value → State → Outcome → State → Prop := va_Qv (fun (_ : Unit) => True) (fun _ t => Wd D cs B0 α Lv S t.heap) (AB B0)
/-- a method's room: d levels below it, mc cells, ms slots -/
def Rm (d mc ms : Nat) : Room := { frames := d, cells := mc, slots := ms, locals := 40 * d }
theorem Pz.blind {D : va_G} {cs : Nat → ClassId} {B0 : Nat} {kt : (Nat → Nat) × (Nat → Nat)} {α : Nat → Nat → Nat} {Lv : Nat → Nat → Prop} {S : St} {av : List Value} : FrameBlind (Pz D cs B0 kt α Lv S av) := by
  intro a U g mk q
  obtain ⟨q0, q1, q2, q3⟩ := q
  have hW : U.WarmedH (U.calling g mk a).vm := State.WarmedH.refl U
  exact ⟨q0, q1, va_K.moved (u := U) (U := U.calling g mk a) (Vm.Alike.refl U.vm) q2, q3.go (U := U.calling g mk a) hW (va_S.rf (H0 := U.heap))⟩
section MT
variable {p : Program} {l : Launch} {e : Env} {s : State} {m : MethodId} {below : List Frame} {meth : Method} {c : Code} {D : va_G} {cs : Nat → ClassId} {B0 : Nat} {kt : (Nat → Nat) × (Nat → Nat)} {α : Nat → Nat → Nat} {Lv : Nat → Nat → Prop} {S : St}
theorem met_of {y : MethodName} {b : ByteArray} {n d mc ms : Nat} {r : Option FieldType} {own : String} (hy : plainName y.cls = true) (ho : y.cls = own) {av : List Value} {Qc : Array Value → State → Outcome → State → Prop} (hcl : Cl Lv) (hn : (lg_sl av).length ≤ n)
    (body : ∀ (p : Program) (e : Env) (s : State) (m : MethodId) (below : List Frame) (meth : Method) (c : Code), Cx p s m av.toArray meth c b n own D cs B0 kt Lv → meth.sig.returnType = r → Dy s D cs B0 α Lv S s.heap [] → ∀ ls : Array Slot, lv_has ls n (lv_args 0 av) →
      W p l e (Rm d mc ms) s m av.toArray below meth c s.heap [] 0 0 (MQ below Qc av.toArray s mc ms (AB B0)) (F0 m 0 ls [])) : Met l y (wz y b n r) (Rm d mc ms) (Pz D cs B0 kt α Lv S av) Qc mc ms (AB B0) := by
  refine Met.ofW (cc := b) (maxL := n) (ret := r) hy rfl ?_
  intro p e s m args below meth c s₁ B hml hv
  obtain ⟨rfl, h1, h2, h3⟩ := hv
  have hts := atoms_spec (ws := wz y b n r) B.pre
  have hown : s.vm.findClass y.cls = some m.cls := findClass_of_methodNamed B.named
  rw [ho] at hown
  rw [lg_entry_eq]
  exact body p e s m below meth c ⟨B.exec, B.bytes, hml, hown, fun w hw => hts w (List.mem_cons_of_mem _ hw), h2, hcl, B.notSynchronized, h3⟩ B.returns ⟨va_S.rf, h1⟩ _ (lv_entry av hn)
end MT
section CALL
variable {p : Program} {l : Launch} {e : Env} {R : Room} {s : State} {m : MethodId} {args : Array Value} {below : List Frame} {meth : Method} {c : Code} {H : Heap} {locs : List Loc} {cells slots : Nat} {Q : State → Prop}
variable {cc : ByteArray} {pc : Nat} {ls : Array Slot} {rest : List Value} {nL : Nat} {own : String} {D : va_G} {cs : Nat → ClassId} {B0 : Nat} {kt : (Nat → Nat) × (Nat → Nat)} {α : Nat → Nat → Nat} {Lv : Nat → Nat → Prop} {S S' : St}
theorem wd_eq {t : State} (ht : t.heap = H) (h : Wd D cs B0 α Lv S H) : Wd D cs B0 α Lv S t.heap := by rw [ht]; exact h
-- ends
theorem r_iret (hc : Cx p s m args meth c cc nL own D cs B0 kt Lv) (hd : Dy s D cs B0 α Lv S H locs) (hr : meth.sig.returnType = some .int) {v : Int32} (hdg : decode cc pc = .ok (.ireturn, 1)) : W p l e R s m args below meth c H locs cells slots (MQ below (Qi D cs B0 α Lv v S) args s cells slots (AB B0)) (F0 m pc ls [.int v]) :=
  W.iret hc.x hc.b hr (fun t ht hW => ⟨⟨v, (), rfl, rfl, wd_eq ht hd.2⟩, hd.1.F ht⟩) hd.1.2.2 hdg hc.lk
theorem r_zret (hc : Cx p s m args meth c cc nL own D cs B0 kt Lv) (hd : Dy s D cs B0 α Lv S H locs) (hr : meth.sig.returnType = some .boolean) {v : Int32} (hn : v = 0 ∨ v = 1) (hdg : decode cc pc = .ok (.ireturn, 1)) : W p l e R s m args below meth c H locs cells slots (MQ below (Qi D cs B0 α Lv v S) args s cells slots (AB B0)) (F0 m pc ls [.int v]) :=
  W.zret hc.x hc.b hr (by rcases hn with h | h <;> rw [h] <;> rfl) (fun t ht hW => ⟨⟨v, (), rfl, rfl, wd_eq ht hd.2⟩, hd.1.F ht⟩) hd.1.2.2 hdg hc.lk
theorem r_lret (hc : Cx p s m args meth c cc nL own D cs B0 kt Lv) (hd : Dy s D cs B0 α Lv S H locs) (hr : meth.sig.returnType = some .long) {v : Int64} (hdg : decode cc pc = .ok (.lreturn, 1)) : W p l e R s m args below meth c H locs cells slots (MQ below (Ql D cs B0 α Lv v S) args s cells slots (AB B0)) (F0 m pc ls [.long v]) :=
  W.lret hc.x hc.b hr (fun t ht hW => ⟨⟨v, (), rfl, rfl, wd_eq ht hd.2⟩, hd.1.F ht⟩) hd.1.2.2 hdg hc.lk
theorem r_vret (hc : Cx p s m args meth c cc nL own D cs B0 kt Lv) (hd : Dy s D cs B0 α Lv S H locs) (hr : meth.sig.returnType = none) (hdg : decode cc pc = .ok (.return_, 1)) : W p l e R s m args below meth c H locs cells slots (MQ below (Qv D cs B0 α Lv S) args s cells slots (AB B0)) (F0 m pc ls []) :=
  W.vret hc.x hc.b hr (fun t ht hW => ⟨⟨(), rfl, trivial, wd_eq ht hd.2⟩, hd.1.F ht⟩) hd.1.2.2 hdg hc.lk
-- calls: the start of the callee
theorem Pz.at (hc : Cx p s m args meth c cc nL own D cs B0 kt Lv) (hd : Dy s D cs B0 α Lv S H locs) (av : List Value) : ∀ U : State, U.heap = H → s.WarmedH U.vm → Pz D cs B0 kt α Lv S av av.toArray U := fun U hU hW =>
  ⟨rfl, by rw [hU]; exact hd.2, va_K.moved hW.alike hc.K, hc.kc.go (locs := locs) hW (by rw [hU]; exact hd.1)⟩
theorem good_1 {y : MethodName} {b : ByteArray} {n : Nat} {r : Option FieldType} (h : Cond.code y b n r ∈ lw_good) : GoodIn lw_good (wz y b n r) := by
  have g : ∀ w ∈ lw_good, w ∈ lw_good ∧ ((w.onTables && w.keeps) = true ∨ ∃ ty, w = .arrayClass ty) := fun w hw => ⟨hw, good_of_word (List.mem_filter.mp hw).2⟩
  intro w hw
  rcases List.mem_cons.mp hw with e | e
  · rw [e]; exact g _ h
  · exact g w e
/-- what is known of a method: its words, its code, how many arguments -/
def MyV (y : MethodName) (C : String) (b : ByteArray) (n : Nat) (r : Option FieldType) (k : Nat) : Prop := Cond.instanceMethod y ∈ lw_good ∧ Cond.selects C y y ∈ lw_good ∧ Cond.initialized C ∈ lw_good ∧ Cond.code y b n r ∈ lw_good ∧ (y.cls = C ∧ y.cls ≠ "java/lang/invoke/MethodHandle" ∧ y.cls ≠ "java/lang/invoke/VarHandle" ∧ (parseMethodDescriptor y.desc).map (fun d => d.parameters.length) = some k)
def MyS (y : MethodName) (b : ByteArray) (n : Nat) (r : Option FieldType) (k : Nat) : Prop := Cond.static y ∈ lw_good ∧ Cond.initialized y.cls ∈ lw_good ∧ Cond.code y b n r ∈ lw_good ∧ (y.cls ≠ "java/lang/invoke/MethodHandle" ∧ y.cls ≠ "java/lang/invoke/VarHandle" ∧ (parseMethodDescriptor y.desc).map (fun d => d.parameters.length) = some k)
theorem k_runV (hc : Cx p s m args meth c cc nL own D cs B0 kt Lv) (hd : Dy s D cs B0 α Lv S H locs) {y : MethodName} {C : String} {b : ByteArray} {n d mc ms kn index : Nat} {r : Option FieldType} (my : MyV y C b n r kn) (hlk : Cond.methodLink own index y ∈ lw_good) {k g : Nat} (hl : Lv k g) {ci : Nat} {fs : List Value} {q : vw_C} (hce : ce cs α S k g = .inr (ci, fs)) (hcl : vwCl[ci]? = some q) (hq : q.1 = C) {As : List Value} {Qc : Array Value → State → Outcome → State → Prop}
    (hM : Met l y (wz y b n r) (Rm d mc ms) (Pz D cs B0 kt α Lv S (.ref (α k g) :: As)) Qc mc ms (AB B0)) (hn : As.length = kn) {st0 : List Value} (hst : st0 = As.reverse ++ .ref (α k g) :: rest) (hls : ls.size = nL) (hw : (rest.map fun v => v.category).sum ≤ 8) (hR : d + 1 ≤ R.frames ∧ 8 + (n + 11) + 40 * d ≤ R.locals ∧ cells + mc ≤ R.cells ∧ slots + ms ≤ R.slots) (hdg : decode cc pc = .ok (.invokevirtual index, 3)) :
    va_Run p l e R s m args below meth c H locs cells slots mc ms (F0 m pc ls st0) rest (Qc (.ref (α k g) :: As).toArray) (AB B0) := by
  obtain ⟨m1, m2, m3, m4, m5⟩ := my
  have hG : GoodIn lw_good (wsV own index C y (wz y b n r)) := by
    intro w hw
    rcases List.mem_append.mp hw with h | h
    · have hm : w ∈ lw_good := by
        simp only [List.mem_cons, List.mem_nil_iff, or_false] at h
        rcases h with rfl | rfl | rfl | rfl
        · exact hlk
        · exact m1
        · exact m2
        · exact m3
      exact ⟨hm, good_of_word (List.mem_filter.mp hm).2⟩
    · exact good_1 m4 w h
  refine va_runV (nL := nL) (cc := cc) (own := own) (Ts := lw_good) ⟨hc.x, hc.b, hc.ml, hc.ow, fun w hw => hc.ts hw⟩ hM (cwV kn (fun w hw => hc.ts hw) hG rfl rfl rfl m5 ⟨hR.1, hR.2.1⟩) ⟨Pz.blind, ?_, Pz.at hc hd _⟩ rfl hn hls hst (lv_room hw) hdg ⟨hR.2.2.1, hR.2.2.2⟩
  have hP := hd.at hl
  rw [hce] at hP
  obtain ⟨cell, a1, a2, a3⟩ := va_recv hc.K hP (q0 := 0) hcl rfl
  exact ⟨cell, a1, a2, by rw [← hq]; exact a3⟩
theorem k_runS (hc : Cx p s m args meth c cc nL own D cs B0 kt Lv) (hd : Dy s D cs B0 α Lv S H locs) {y : MethodName} {b : ByteArray} {n d mc ms kn index : Nat} {r : Option FieldType} (my : MyS y b n r kn) (hlk : Cond.methodLink own index y ∈ lw_good) {As : List Value} {Qc : Array Value → State → Outcome → State → Prop}
    (hM : Met l y (wz y b n r) (Rm d mc ms) (Pz D cs B0 kt α Lv S As) Qc mc ms (AB B0)) (hn : As.length = kn) {st0 : List Value} (hst : st0 = As.reverse ++ rest) (hls : ls.size = nL) (hw : (rest.map fun v => v.category).sum ≤ 8) (hR : d + 1 ≤ R.frames ∧ 8 + (n + 11) + 40 * d ≤ R.locals ∧ cells + mc ≤ R.cells ∧ slots + ms ≤ R.slots) (hdg : decode cc pc = .ok (.invokestatic index, 3)) :
    va_Run p l e R s m args below meth c H locs cells slots mc ms (F0 m pc ls st0) rest (Qc As.toArray) (AB B0) := by
  obtain ⟨m1, m2, m3, m4⟩ := my
  exact va_runS (nL := nL) (cc := cc) (own := own) (Ts := lw_good) ⟨hc.x, hc.b, hc.ml, hc.ow, fun w hw => hc.ts hw⟩ hM ⟨callB_of kn (fun w hw => hc.ts hw) (good_1 m3) rfl rfl rfl (hc.ts m2) (hc.ts hlk) m4 ⟨hR.1, hR.2.1⟩, hc.ts m1⟩ ⟨Pz.blind, Pz.at hc hd _⟩ rfl hn hls hst (lv_room hw) hdg ⟨hR.2.2.1, hR.2.2.2⟩
theorem k_runSN (hc : Cx p s m args meth c cc nL own D cs B0 kt Lv) (hd : Dy s D cs B0 α Lv S H locs) {y : MethodName} {b : ByteArray} {n d mc ms kn index : Nat} {r : Option FieldType} {host : String} (my : MyS y b n r kn) (hlk : va_Nw (.methodLinkNest own index y host) s) {As : List Value} {Qc : Array Value → State → Outcome → State → Prop}
    (hM : Met l y (wz y b n r) (Rm d mc ms) (Pz D cs B0 kt α Lv S As) Qc mc ms (AB B0)) (hn : As.length = kn) {st0 : List Value} (hst : st0 = As.reverse ++ rest) (hls : ls.size = nL) (hw : (rest.map fun v => v.category).sum ≤ 8) (hR : d + 1 ≤ R.frames ∧ 8 + (n + 11) + 40 * d ≤ R.locals ∧ cells + mc ≤ R.cells ∧ slots + ms ≤ R.slots) (hdg : decode cc pc = .ok (.invokestatic index, 3)) :
    va_Run p l e R s m args below meth c H locs cells slots mc ms (F0 m pc ls st0) rest (Qc As.toArray) (AB B0) := by
  obtain ⟨m1, m2, m3, m4⟩ := my
  exact va_runSN (nL := nL) (cc := cc) (own := own) (Ts := lw_good) ⟨hc.x, hc.b, hc.ml, hc.ow, fun w hw => hc.ts hw⟩ hM ⟨va_cnB kn (fun w hw => hc.ts hw) (good_1 m3) rfl rfl rfl hlk (hc.ts m2) m4 ⟨hR.1, hR.2.1⟩, hc.ts m1, trivial⟩ ⟨Pz.blind, Pz.at hc hd _⟩ rfl hn hls hst (lv_room hw) hdg ⟨hR.2.2.1, hR.2.2.2⟩
theorem Dy.next {H1 : Heap} {locs1 : List Loc} {S' : St} {t : State} (ht : t.heap = H1) (hw : Wd D cs B0 α Lv S' t.heap) (hS : va_S (AB B0) s.heap H1 locs1) : Dy s D cs B0 α Lv S' H1 locs1 := ⟨hS, by rw [← ht]; exact hw⟩
theorem k_i {st0 : List Value} {a : Array Value} {v : Int32} {mc ms : Nat} (hr : va_Run p l e R s m args below meth c H locs cells slots mc ms (F0 m pc ls st0) rest (Qi D cs B0 α Lv v S' a) (AB B0)) (hd : Dy s D cs B0 α Lv S H locs)
    (kk : ∀ (H1 : Heap) (locs1 : List Loc), Dy s D cs B0 α Lv S' H1 locs1 → W p l e R s m args below meth c H1 locs1 (cells + mc) (slots + ms) Q (F0 m (pc + 3) ls (.int v :: rest))) : W p l e R s m args below meth c H locs cells slots Q (F0 m pc ls st0) :=
  va_calli hr hd.1 (fun q _ h => h) (fun q h => h) (fun r u t H1 locs1 ht hvm hw hB hz1 hk1 hS => by
    have e : r = v := hw
    subst e
    exact kk H1 locs1 (Dy.next ht hB hS))
theorem k_l {st0 : List Value} {a : Array Value} {v : Int64} {mc ms : Nat} (hr : va_Run p l e R s m args below meth c H locs cells slots mc ms (F0 m pc ls st0) rest (Ql D cs B0 α Lv v S' a) (AB B0)) (hd : Dy s D cs B0 α Lv S H locs)
    (kk : ∀ (H1 : Heap) (locs1 : List Loc), Dy s D cs B0 α Lv S' H1 locs1 → W p l e R s m args below meth c H1 locs1 (cells + mc) (slots + ms) Q (F0 m (pc + 3) ls (.long v :: rest))) : W p l e R s m args below meth c H locs cells slots Q (F0 m pc ls st0) :=
  va_calll hr hd.1 (fun q _ h => h) (fun q h => h) (fun r u t H1 locs1 ht hvm hw hB hz1 hk1 hS => by
    have e : r = v := hw
    subst e
    exact kk H1 locs1 (Dy.next ht hB hS))
theorem k_v {st0 : List Value} {a : Array Value} {mc ms : Nat} (hr : va_Run p l e R s m args below meth c H locs cells slots mc ms (F0 m pc ls st0) rest (Qv D cs B0 α Lv S' a) (AB B0)) (hd : Dy s D cs B0 α Lv S H locs)
    (kk : ∀ (H1 : Heap) (locs1 : List Loc), Dy s D cs B0 α Lv S' H1 locs1 → W p l e R s m args below meth c H1 locs1 (cells + mc) (slots + ms) Q (F0 m (pc + 3) ls rest)) : W p l e R s m args below meth c H locs cells slots Q (F0 m pc ls st0) :=
  va_callv hr hd.1 (fun q _ h => h) (fun q h => h) (fun u t H1 locs1 ht hvm hw hB hz1 hk1 hS => kk H1 locs1 (Dy.next ht hB hS))
end CALL
