theorem va_AOA.mv {t : FieldType} {u U : State} (hvm : u.vm.Alike U.vm) (h : va_AOA t u) : va_AOA t U := arrayOver_alikeB hvm h
-- CONSTANTS: what the start gives and nobody writes
def strT : List (String × Nat × String) := [("PumpCrossing", 63, "boards are there already"), ("PumpCrossing", 437, "a number is out of its bounds"), ("PumpCrossing", 422, "no such station"), ("PumpCrossing$TextReader", 93, "up down to below match keep when or and not own least most cost hour day since rose fell once at cap told "), ("PumpCrossing", 170, "no such board"), ("PumpCrossing", 195, "no such number of a station"), ("PumpCrossing", 201, "no such kind of drivers"), ("PumpCrossing", 264, "not above the level ahead"), ("PumpCrossing", 424, "a game is of two stations"), ("PumpCrossing", 426, "no such level"), ("PumpCrossing", 334, "no such story"), ("PumpCrossing", 428, "no such tray"), ("PumpCrossing", 433, "the tray is missing"), ("PumpCrossing", 370, "not a row of prices"), ("PumpCrossing", 381, "there is no station"), ("PumpCrossing", 395, "no such place"), ("PumpCrossing", 435, "no such image"), ("PumpCrossing", 409, "no image was made"), ("PumpCrossingModel", 212, "up"), ("PumpCrossingModel", 214, "down"), ("PumpCrossingModel", 216, "to"), ("PumpCrossingModel", 218, "below"), ("PumpCrossingModel", 220, "match"), ("PumpCrossingModel", 222, "keep"), ("PumpCrossingModel", 231, "when"), ("PumpCrossingModel", 194, "not"), ("PumpCrossingModel", 163, "own"), ("PumpCrossingModel", 169, "least"), ("PumpCrossingModel", 171, "most"), ("PumpCrossingModel", 173, "cost"), ("PumpCrossingModel", 175, "hour"), ("PumpCrossingModel", 177, "day"), ("PumpCrossingModel", 179, "since"), ("PumpCrossingModel", 181, "rose"), ("PumpCrossingModel", 183, "fell"), ("PumpCrossingModel", 205, "and"), ("PumpCrossingModel", 210, "or"), ("PumpCrossingModel", 251, "once"), ("PumpCrossingModel", 253, "at"), ("PumpCrossingModel", 254, "cap"), ("PumpCrossingModel", 256, "told")]
def strB : List (List Int32) := [[98, 111, 97, 114, 100, 115, 32, 97, 114, 101, 32, 116, 104, 101, 114, 101, 32, 97, 108, 114, 101, 97, 100, 121], [97, 32, 110, 117, 109, 98, 101, 114, 32, 105, 115, 32, 111, 117, 116, 32, 111, 102, 32, 105, 116, 115, 32, 98, 111, 117, 110, 100, 115], [110, 111, 32, 115, 117, 99, 104, 32, 115, 116, 97, 116, 105, 111, 110], [117, 112, 32, 100, 111, 119, 110, 32, 116, 111, 32, 98, 101, 108, 111, 119, 32, 109, 97, 116, 99, 104, 32, 107, 101, 101, 112, 32, 119, 104, 101, 110, 32, 111, 114, 32, 97, 110, 100, 32, 110, 111, 116, 32, 111, 119, 110, 32, 108, 101, 97, 115, 116, 32, 109, 111, 115, 116, 32, 99, 111, 115, 116, 32, 104, 111, 117, 114, 32, 100, 97, 121, 32, 115, 105, 110, 99, 101, 32, 114, 111, 115, 101, 32, 102, 101, 108, 108, 32, 111, 110, 99, 101, 32, 97, 116, 32, 99, 97, 112, 32, 116, 111, 108, 100, 32], [110, 111, 32, 115, 117, 99, 104, 32, 98, 111, 97, 114, 100], [110, 111, 32, 115, 117, 99, 104, 32, 110, 117, 109, 98, 101, 114, 32, 111, 102, 32, 97, 32, 115, 116, 97, 116, 105, 111, 110], [110, 111, 32, 115, 117, 99, 104, 32, 107, 105, 110, 100, 32, 111, 102, 32, 100, 114, 105, 118, 101, 114, 115], [110, 111, 116, 32, 97, 98, 111, 118, 101, 32, 116, 104, 101, 32, 108, 101, 118, 101, 108, 32, 97, 104, 101, 97, 100], [97, 32, 103, 97, 109, 101, 32, 105, 115, 32, 111, 102, 32, 116, 119, 111, 32, 115, 116, 97, 116, 105, 111, 110, 115], [110, 111, 32, 115, 117, 99, 104, 32, 108, 101, 118, 101, 108], [110, 111, 32, 115, 117, 99, 104, 32, 115, 116, 111, 114, 121], [110, 111, 32, 115, 117, 99, 104, 32, 116, 114, 97, 121], [116, 104, 101, 32, 116, 114, 97, 121, 32, 105, 115, 32, 109, 105, 115, 115, 105, 110, 103], [110, 111, 116, 32, 97, 32, 114, 111, 119, 32, 111, 102, 32, 112, 114, 105, 99, 101, 115], [116, 104, 101, 114, 101, 32, 105, 115, 32, 110, 111, 32, 115, 116, 97, 116, 105, 111, 110], [110, 111, 32, 115, 117, 99, 104, 32, 112, 108, 97, 99, 101], [110, 111, 32, 115, 117, 99, 104, 32, 105, 109, 97, 103, 101], [110, 111, 32, 105, 109, 97, 103, 101, 32, 119, 97, 115, 32, 109, 97, 100, 101], [117, 112], [100, 111, 119, 110], [116, 111], [98, 101, 108, 111, 119], [109, 97, 116, 99, 104], [107, 101, 101, 112], [119, 104, 101, 110], [110, 111, 116], [111, 119, 110], [108, 101, 97, 115, 116], [109, 111, 115, 116], [99, 111, 115, 116], [104, 111, 117, 114], [100, 97, 121], [115, 105, 110, 99, 101], [114, 111, 115, 101], [102, 101, 108, 108], [97, 110, 100], [111, 114], [111, 110, 99, 101], [97, 116], [99, 97, 112], [116, 111, 108, 100]]
def sby (i : Nat) : List Int32 := strB.getD i []
def AB (B0 : Nat) : Nat → Prop := fun q => B0 ≤ q
/-- a String constant: its object at a, its bytes at v -/
def vS (A : Nat → Prop) (b : List Int32) (a v : Nat) (U : State) (H : Heap) : Prop := va_O "java/lang/String" a A U H ∧ va_OF "java/lang/String" "coder" "B" (.int 0) a A U H ∧ va_OF "java/lang/String" "value" "[B" (.ref v) a A U H ∧ va_T .byte v b.length (fun j => .int (b.getD j 0)) A U H
def exL : List String := ["java/lang/IllegalStateException", "java/lang/IllegalArgumentException", "java/util/NoSuchElementException", "java/lang/IndexOutOfBoundsException"]
/-- what exceptions need besides: words that are no good ones -/
def KE (U : State) : Prop := (∀ X ∈ exL, va_Nw (.castable X X) U) ∧ (∀ Y ∈ ["java/lang/RuntimeException", "java/lang/Exception", "java/lang/Throwable"], va_Nw (.declares (Bundle.initS Y)) U) ∧ ∀ X ∈ exL, ∀ Y ∈ exL, X ≠ Y → va_Nc X Y U
def KC (B0 : Nat) (kt : (Nat → Nat) × (Nat → Nat)) (U : State) : Prop :=
  vx_Zq Bundle.tN "UNASSIGNED_STACK" Bundle.steD (AB B0) U U.heap ∧ vx_Zq Bundle.tN "SUPPRESSED_SENTINEL" Bundle.listD (AB B0) U U.heap ∧ va_Z "java/lang/String" "COMPACT_STRINGS" "Z" (.int 1) (AB B0) U U.heap ∧
  (∀ (i : Nat) (q : String × Nat × String), strT[i]? = some q → vk_R q.1 q.2.1 q.2.2 (kt.1 i) U ∧ vS (AB B0) (sby i) (kt.1 i) (kt.2 i) U U.heap) ∧ B0 ≤ U.heap.size ∧
  va_Nw (.methodLinkNest "PumpCrossing$Crossing" 133 ⟨"PumpCrossing", "sinceIn", "(II)I"⟩ "PumpCrossing") U ∧ va_Nw (.methodLinkNest "PumpCrossing$Game" 68 ⟨"PumpCrossing", "pair", "(II)I"⟩ "PumpCrossing") U ∧ va_AO "PumpCrossing$Rules" U ∧ va_AO "PumpCrossing$Crossing" U ∧ va_AOA .int U ∧ va_AOA .long U ∧ KE U ∧ va_Zq "jdk/internal/util/Preconditions" "SIOOBE_FORMATTER" "Ljava/util/function/BiFunction;" (AB B0) U U.heap
theorem KC.go {B0 : Nat} {kt : (Nat → Nat) × (Nat → Nat)} {s U : State} {locs : List Loc} (h : KC B0 kt s) (hW : s.WarmedH U.vm) (hS : va_S (AB B0) s.heap U.heap locs) : KC B0 kt U := by
  obtain ⟨h1, h2, h3, h4, h5, n1, n2, n3, n4, n5, n6, ⟨n7, n8, n9⟩, n10⟩ := h
  have hv := hW.alike
  refine ⟨(h1.kept hS.2.1).moved hv, (h2.kept hS.2.1).moved hv, (h3.kept hS.2.1).moved hv, fun i q hq => ?_, Nat.le_trans h5 hS.1, n1.warmM hW, n2.warmM hW, n3.moved hv, n4.moved hv, va_AOA.mv hv n5, va_AOA.mv hv n6, ⟨fun X hX => (n7 X hX).warmC hW, fun Y hY => (n8 Y hY).warmD hW, fun X hX Y hY hne => (n9 X hX Y hY hne).moved hv⟩, va_Zq.moved hv (va_Zq.kept n10 hS.2.1)⟩
  obtain ⟨a1, b1, b2, b3, b4⟩ := h4 i q hq
  exact ⟨a1.warm hW, (b1.kept hS.2.1).moved hv, (b2.kept hS.2.1).moved hv, (b3.kept hS.2.1).moved hv, (b4.kept hS.2.1).moved hv⟩
-- what holds all through a method's run
def Cx (p : Program) (s : State) (m : MethodId) (args : Array Value) (meth : Method) (c : Code) (cc : ByteArray) (nL : Nat) (own : String) (D : va_G) (cs : Nat → ClassId) (B0 : Nat) (kt : (Nat → Nat) × (Nat → Nat)) (Lv : Nat → Nat → Prop) : Prop :=
  p.tables.exec = Jvm.exec ∧ c.code = cc ∧ c.maxLocals = nL ∧ s.vm.findClass own = some m.cls ∧ (∀ w ∈ lw_good, w.before args s = true) ∧ va_K D vwCl (tys cs) s ∧ Cl Lv ∧ meth.locks = false ∧ KC B0 kt s
section CX
variable {p : Program} {s : State} {m : MethodId} {args : Array Value} {meth : Method} {c : Code} {cc : ByteArray} {nL : Nat} {own : String} {D : va_G} {cs : Nat → ClassId} {B0 : Nat} {kt : (Nat → Nat) × (Nat → Nat)} {Lv : Nat → Nat → Prop}
theorem Cx.x (h : Cx p s m args meth c cc nL own D cs B0 kt Lv) : p.tables.exec = Jvm.exec := h.1
theorem Cx.b (h : Cx p s m args meth c cc nL own D cs B0 kt Lv) : c.code = cc := h.2.1
theorem Cx.ml (h : Cx p s m args meth c cc nL own D cs B0 kt Lv) : c.maxLocals = nL := h.2.2.1
theorem Cx.ow (h : Cx p s m args meth c cc nL own D cs B0 kt Lv) : s.vm.findClass own = some m.cls := h.2.2.2.1
theorem Cx.ts (h : Cx p s m args meth c cc nL own D cs B0 kt Lv) {w : Cond} (hw : w ∈ lw_good) : w.before args s = true := h.2.2.2.2.1 w hw
theorem Cx.K (h : Cx p s m args meth c cc nL own D cs B0 kt Lv) : va_K D vwCl (tys cs) s := h.2.2.2.2.2.1
theorem Cx.cl (h : Cx p s m args meth c cc nL own D cs B0 kt Lv) : Cl Lv := h.2.2.2.2.2.2.1
theorem Cx.lk (h : Cx p s m args meth c cc nL own D cs B0 kt Lv) : meth.locks = false := h.2.2.2.2.2.2.2.1
theorem Cx.kc (h : Cx p s m args meth c cc nL own D cs B0 kt Lv) : KC B0 kt s := h.2.2.2.2.2.2.2.2
end CX
section RW
variable {p : Program} {l : Launch} {e : Env} {R : Room} {s : State} {m : MethodId} {args : Array Value} {below : List Frame} {meth : Method} {c : Code} {H : Heap} {locs : List Loc} {cells slots : Nat} {Q : State → Prop}
variable {cc : ByteArray} {pc : Nat} {ls : Array Slot} {rest : List Value} {nL : Nat} {own : String} {D : va_G} {cs : Nat → ClassId} {B0 : Nat} {kt : (Nat → Nat) × (Nat → Nat)} {α : Nat → Nat → Nat} {Lv : Nat → Nat → Prop} {S : St}
theorem r_get (hc : Cx p s m args meth c cc nL own D cs B0 kt Lv) (hd : Dy s D cs B0 α Lv S H locs) {k g : Nat} (hl : Lv k g) {C ref : String} {T : u_T} {N ci index : Nat} {fs : List Value} (hce : ce cs α S k g = .inr (ci, fs)) (hcl : vwCl[ci]? = some (C, T, N)) (hin : ∀ w ∈ u_ws C T N, w ∈ lw_good) (j : Nat) (hj : j < N) (hlink : Cond.fieldLink own index (T j).1 (T j).2.1 (T j).2.2.1 ∈ lw_good) {v : Value} (hv : fs[j]? = some v) (hdg : decode cc pc = .ok (.getfield index, 3))
    (kk : W p l e R s m args below meth c H locs cells slots Q (F0 m (pc + 3) ls (v :: rest))) : W p l e R s m args below meth c H locs cells slots Q (F0 m pc ls (.ref (α k g) :: rest)) :=
  va_get hc.x hc.b (fun w hw => hc.ts hw) hin hc.ow hc.K (hd.at hl) 0 (by rw [hce]; rfl) hcl j hj (hc.ts hlink) (fun _ h9 => h9) hv hdg kk
theorem r_put (hc : Cx p s m args meth c cc nL own D cs B0 kt Lv) (hd : Dy s D cs B0 α Lv S H locs) {k g : Nat} (hl : Lv k g) {C : String} {T : u_T} {N ci index : Nat} {fs : List Value} (hce : ce cs α S k g = .inr (ci, fs)) (hcl : vwCl[ci]? = some (C, T, N)) (hin : ∀ w ∈ u_ws C T N, w ∈ lw_good) (ty0 : Nat → FieldType) (hty : ∀ k, k < N → parseFieldDescriptor (T k).2.2.1 = some (ty0 k)) (hnm : ∀ a, a < N → ∀ b, b < N → a ≠ b → (T a).2.1 ≠ (T b).2.1) (j : Nat) (hj : j < N) (hlink : Cond.fieldLink own index (T j).1 (T j).2.1 (T j).2.2.1 ∈ lw_good)
    (hfin : (T j).2.2.2 = false) {ty : FieldType} {v : Value} (hdd : parseFieldDescriptor (T j).2.2.1 = some ty) (hn : narrow ty v = v) (hfit : fits ty v = true) (hlt : j < fs.length) {S' : St} (hce' : ce cs α S' k g = .inr (ci, fs.set j v)) (hoth : ∀ k' g', ¬ (k' = k ∧ g' = g) → ce cs α S' k' g' = ce cs α S k' g') (hrv : Rv Lv S → Rv Lv S')
    (hdg : decode cc pc = .ok (.putfield index, 3)) (kk : ∀ (H1 : Heap) (locs1 : List Loc), Dy s D cs B0 α Lv S' H1 locs1 → W p l e R s m args below meth c H1 locs1 cells slots Q (F0 m (pc + 3) ls rest)) : W p l e R s m args below meth c H locs cells slots Q (F0 m pc ls (v :: .ref (α k g) :: rest)) := by
  have hK := hc.K
  have hts : ∀ w ∈ lw_good, w.before args s = true := fun w hw => hc.ts hw
  have hap := va_apart (own := own) hts hin ty0 hty hnm hK hcl
  have he := hd.2.1 k g hl
  rw [hce] at he
  obtain ⟨r, h1, cell, q1, q2, q3, q4⟩ := he
  have hr : r = (C, T, N) := Option.some.inj (h1.symm.trans hcl)
  subst hr
  obtain ⟨hS, hfc, kC, hkC, hkind⟩ := hK.1 ci _ hcl
  obtain ⟨cf, kf, fi, f, hi, hsl⟩ := hS j hj
  have hlay := hts _ (hin _ (u_in_lay hj))
  unfold u_lay at hlay
  rw [if_neg (by rw [hfin]; decide)] at hlay
  have hst := (u_facts hfc hkC (u_lays hts hin hj) hi).1
  have h6 := u_store hfc hkC hkind hlay hi hdd hn hfit
  refine W.putK hc.x hc.b (f := f) ⟨hc.ow, hc.ts hlink, ⟨_, _, _, hi⟩, hst⟩ (by rw [q2]; exact h6) q1 q3 (by rw [hsl]; exact k2_hasslot (q4 j hj)) rfl rfl hdg fun H' e1 e2 e3 => ?_
  rw [hsl] at e1 ⊢
  exact kk H' _ (hd.put hl (by rw [hce']; exact ⟨_, hcl, t_OB.to (V := updV (vp_V fs) j v) ⟨_, e1, q2, q3, t_set q4 hap hj v⟩ (fun j _ => vp_updV_set hlt v j)⟩) e2 e3 hoth (hrv hd.2.2.2.2) lo_put)
theorem r_iald (hc : Cx p s m args meth c cc nL own D cs B0 kt Lv) (hd : Dy s D cs B0 α Lv S H locs) {k g : Nat} (hl : Lv k g) {n : Nat} {f : Nat → Int32} (hce : ce cs α S k g = .inl (cs 0, n, .inl f)) {i : Int32} (hin : inb i n = true) (hdg : decode cc pc = .ok (.iaload, 1))
    (kk : W p l e R s m args below meth c H locs cells slots Q (F0 m (pc + 1) ls (.int (f (nn i)) :: rest))) : W p l e R s m args below meth c H locs cells slots Q (F0 m pc ls (.int i :: .ref (α k g) :: rest)) :=
  va_iald hc.x hc.b hc.K (hd.at hl) 0 0 (by rw [hce]; rfl) rfl (inb_in hin) hdg kk
theorem r_bald (hc : Cx p s m args meth c cc nL own D cs B0 kt Lv) (hd : Dy s D cs B0 α Lv S H locs) {k g : Nat} (hl : Lv k g) {n : Nat} {f : Nat → Int32} (hce : ce cs α S k g = .inl (cs 2, n, .inl f)) {i : Int32} (hin : inb i n = true) (hdg : decode cc pc = .ok (.baload, 1))
    (kk : W p l e R s m args below meth c H locs cells slots Q (F0 m (pc + 1) ls (.int (f (nn i)) :: rest))) : W p l e R s m args below meth c H locs cells slots Q (F0 m pc ls (.int i :: .ref (α k g) :: rest)) :=
  va_bald hc.x hc.b hc.K (hd.at hl) 0 2 (by rw [hce]; rfl) rfl (inb_in hin) hdg kk
theorem r_zald (hc : Cx p s m args meth c cc nL own D cs B0 kt Lv) (hd : Dy s D cs B0 α Lv S H locs) {k g : Nat} (hl : Lv k g) {n : Nat} {f : Nat → Int32} (hce : ce cs α S k g = .inl (cs 3, n, .inl f)) {i : Int32} (hin : inb i n = true) (hdg : decode cc pc = .ok (.baload, 1))
    (kk : W p l e R s m args below meth c H locs cells slots Q (F0 m (pc + 1) ls (.int (f (nn i)) :: rest))) : W p l e R s m args below meth c H locs cells slots Q (F0 m pc ls (.int i :: .ref (α k g) :: rest)) :=
  va_zald hc.x hc.b hc.K (hd.at hl) 0 3 (by rw [hce]; rfl) rfl (inb_in hin) hdg kk
theorem r_lald (hc : Cx p s m args meth c cc nL own D cs B0 kt Lv) (hd : Dy s D cs B0 α Lv S H locs) {k g : Nat} (hl : Lv k g) {n : Nat} {f : Nat → Int64} (hce : ce cs α S k g = .inl (cs 1, n, .inr (.inl f))) {i : Int32} (hin : inb i n = true) (hdg : decode cc pc = .ok (.laload, 1))
    (kk : W p l e R s m args below meth c H locs cells slots Q (F0 m (pc + 1) ls (.long (f (nn i)) :: rest))) : W p l e R s m args below meth c H locs cells slots Q (F0 m pc ls (.int i :: .ref (α k g) :: rest)) :=
  va_lald hc.x hc.b hc.K (hd.at hl) 0 1 (by rw [hce]; rfl) rfl (inb_in hin) hdg kk
theorem r_alen (hc : Cx p s m args meth c cc nL own D cs B0 kt Lv) (hd : Dy s D cs B0 α Lv S H locs) {k g : Nat} (hl : Lv k g) {x : vp_A} {t0 : Nat} {ty : FieldType} {cA : ClassId} (hce : ce cs α S k g = .inl (cA, x)) (ht : (tys cs)[t0]? = some (cA, ty)) (hdg : decode cc pc = .ok (.arraylength, 1))
    (kk : W p l e R s m args below meth c H locs cells slots Q (F0 m (pc + 1) ls (.int (Int32.ofNat x.1) :: rest))) : W p l e R s m args below meth c H locs cells slots Q (F0 m pc ls (.ref (α k g) :: rest)) :=
  va_alen hc.x hc.b hc.K (hd.at hl) 0 t0 (by rw [hce]; rfl) ht rfl hdg kk
theorem r_aald (hc : Cx p s m args meth c cc nL own D cs B0 kt Lv) (hd : Dy s D cs B0 α Lv S H locs) {k g : Nat} (hl : Lv k g) {n t0 : Nat} {ty : FieldType} {cA : ClassId} {f : Nat → Option Nat} (hce : ce cs α S k g = .inl (cA, n, .inr (.inr (.inr (.inr f))))) (ht : (tys cs)[t0]? = some (cA, ty)) (hr : ty.isReference = true) {i : Int32} (hin : inb i n = true) (hdg : decode cc pc = .ok (.aaload, 1))
    (kk : W p l e R s m args below meth c H locs cells slots Q (F0 m (pc + 1) ls (va_rf (f (nn i)) :: rest))) : W p l e R s m args below meth c H locs cells slots Q (F0 m pc ls (.int i :: .ref (α k g) :: rest)) := by
  have hin := inb_in hin
  have hlt : i.toNatClampNeg < n := Nat.not_le.mp fun q => hin (Or.inr q)
  have he := hd.2.1 k g hl
  rw [hce] at he
  exact W.aald (v := va_rf (f i.toNatClampNeg)) hc.x hc.b he ((hc.K.2 t0 _ ht).1 n (fun j => va_rf (f j))) hr (fun q => by cases q) (by show ¬ (i < 0 ∨ (arrV _ _ _).slots.size ≤ _); rw [arrV_size]; exact hin) (by show (arrV _ _ _).slots[_]? = _; rw [arrV_read _ _ hlt]) rfl rfl hdg kk
theorem r_iast (hc : Cx p s m args meth c cc nL own D cs B0 kt Lv) (hd : Dy s D cs B0 α Lv S H locs) {k g : Nat} (hl : Lv k g) {n : Nat} (hce : ∀ f : Nat → Int32, ce0 cs α k g f (gl S k g) (gr S k g) (gn S k g) = .inl (cs 0, n, .inl f)) {i : Int32} {x : Int32} (hin : inb i n = true) (hdg : decode cc pc = .ok (.iastore, 1))
    (kk : ∀ (H1 : Heap) (locs1 : List Loc), Dy s D cs B0 α Lv (si S k g (nn i) x) H1 locs1 → W p l e R s m args below meth c H1 locs1 cells slots Q (F0 m (pc + 1) ls rest)) : W p l e R s m args below meth c H locs cells slots Q (F0 m pc ls (.int x :: .int i :: .ref (α k g) :: rest)) := by
  have hin := inb_in hin
  have he := hd.2.1 k g hl
  have hce1 : ce cs α S k g = .inl (cs 0, n, .inl (gi S k g)) := hce _
  have hce2 : ce cs α (si S k g (nn i) x) k g = .inl (cs 0, n, .inl (upd (gi S k g) (nn i) x)) := by unfold si; rw [ce_s_ai]; exact hce _
  rw [hce1] at he
  refine W.iast hc.x hc.b he ((hc.K.2 0 _ rfl).1 n (fun j => .int (gi S k g j))) (fun q => by cases q) (by show ¬ (i < 0 ∨ (arrV _ _ _).slots.size ≤ _); rw [arrV_size]; exact hin) rfl rfl hdg fun H1 e z oq => ?_
  refine kk H1 _ (hd.put hl ?_ z oq (by unfold si; exact ce_ai) hd.2.2.2.2 lo_put)
  rw [hce2]
  show H1[α k g]? = some (vp_cell _ _)
  rw [e]
  rw [vp_cell_i, vp_cell_i, arrV_store]
  congr 2
  funext q
  by_cases hq : q = i.toNatClampNeg
  · subst hq
    simp [updV, upd]
  · simp [updV, upd, hq]
theorem r_bast (hc : Cx p s m args meth c cc nL own D cs B0 kt Lv) (hd : Dy s D cs B0 α Lv S H locs) {k g : Nat} (hl : Lv k g) {n : Nat} (hce : ∀ f : Nat → Int32, ce0 cs α k g f (gl S k g) (gr S k g) (gn S k g) = .inl (cs 2, n, .inl f)) {i : Int32} {x : Int32} (hin : inb i n = true) (hdg : decode cc pc = .ok (.bastore, 1))
    (kk : ∀ (H1 : Heap) (locs1 : List Loc), Dy s D cs B0 α Lv (si S k g (nn i) (vp_nar .byte x)) H1 locs1 → W p l e R s m args below meth c H1 locs1 cells slots Q (F0 m (pc + 1) ls rest)) : W p l e R s m args below meth c H locs cells slots Q (F0 m pc ls (.int x :: .int i :: .ref (α k g) :: rest)) := by
  have hin := inb_in hin
  have he := hd.2.1 k g hl
  have hce1 : ce cs α S k g = .inl (cs 2, n, .inl (gi S k g)) := hce _
  have hce2 : ce cs α (si S k g (nn i) (vp_nar .byte x)) k g = .inl (cs 2, n, .inl (upd (gi S k g) (nn i) (vp_nar .byte x))) := by unfold si; rw [ce_s_ai]; exact hce _
  rw [hce1] at he
  refine W.bast hc.x hc.b he ((hc.K.2 2 _ rfl).1 n (fun j => .int (gi S k g j))) (fun q => by cases q) (by show ¬ (i < 0 ∨ (arrV _ _ _).slots.size ≤ _); rw [arrV_size]; exact hin) rfl rfl hdg fun H1 e z oq => ?_
  refine kk H1 _ (hd.put hl ?_ z oq (by unfold si; exact ce_ai) hd.2.2.2.2 lo_put)
  rw [hce2]
  show H1[α k g]? = some (vp_cell _ _)
  rw [e]
  rw [vp_cell_i, vp_cell_i, arrV_store]
  congr 2
  funext q
  by_cases hq : q = i.toNatClampNeg
  · subst hq
    simp [updV, upd, vp_nar]
    try rfl
  · simp [updV, upd, hq]
theorem r_zast (hc : Cx p s m args meth c cc nL own D cs B0 kt Lv) (hd : Dy s D cs B0 α Lv S H locs) {k g : Nat} (hl : Lv k g) {n : Nat} (hce : ∀ f : Nat → Int32, ce0 cs α k g f (gl S k g) (gr S k g) (gn S k g) = .inl (cs 3, n, .inl f)) {i : Int32} {x : Int32} (hin : inb i n = true) (hdg : decode cc pc = .ok (.bastore, 1))
    (kk : ∀ (H1 : Heap) (locs1 : List Loc), Dy s D cs B0 α Lv (si S k g (nn i) (vp_nar .boolean x)) H1 locs1 → W p l e R s m args below meth c H1 locs1 cells slots Q (F0 m (pc + 1) ls rest)) : W p l e R s m args below meth c H locs cells slots Q (F0 m pc ls (.int x :: .int i :: .ref (α k g) :: rest)) := by
  have hin := inb_in hin
  have he := hd.2.1 k g hl
  have hce1 : ce cs α S k g = .inl (cs 3, n, .inl (gi S k g)) := hce _
  have hce2 : ce cs α (si S k g (nn i) (vp_nar .boolean x)) k g = .inl (cs 3, n, .inl (upd (gi S k g) (nn i) (vp_nar .boolean x))) := by unfold si; rw [ce_s_ai]; exact hce _
  rw [hce1] at he
  refine W.zast hc.x hc.b he ((hc.K.2 3 _ rfl).1 n (fun j => .int (gi S k g j))) (fun q => by cases q) (by show ¬ (i < 0 ∨ (arrV _ _ _).slots.size ≤ _); rw [arrV_size]; exact hin) rfl rfl hdg fun H1 e z oq => ?_
  refine kk H1 _ (hd.put hl ?_ z oq (by unfold si; exact ce_ai) hd.2.2.2.2 lo_put)
  rw [hce2]
  show H1[α k g]? = some (vp_cell _ _)
  rw [e]
  rw [vp_cell_i, vp_cell_i, arrV_store]
  congr 2
  funext q
  by_cases hq : q = i.toNatClampNeg
  · subst hq
    simp [updV, upd, vp_nar]
    try rfl
  · simp [updV, upd, hq]
theorem r_last (hc : Cx p s m args meth c cc nL own D cs B0 kt Lv) (hd : Dy s D cs B0 α Lv S H locs) {k g : Nat} (hl : Lv k g) {n : Nat} (hce : ∀ f : Nat → Int64, ce0 cs α k g (gi S k g) f (gr S k g) (gn S k g) = .inl (cs 1, n, .inr (.inl f))) {i : Int32} {x : Int64} (hin : inb i n = true) (hdg : decode cc pc = .ok (.lastore, 1))
    (kk : ∀ (H1 : Heap) (locs1 : List Loc), Dy s D cs B0 α Lv (sl S k g (nn i) x) H1 locs1 → W p l e R s m args below meth c H1 locs1 cells slots Q (F0 m (pc + 1) ls rest)) : W p l e R s m args below meth c H locs cells slots Q (F0 m pc ls (.long x :: .int i :: .ref (α k g) :: rest)) := by
  have hin := inb_in hin
  have he := hd.2.1 k g hl
  have hce1 : ce cs α S k g = .inl (cs 1, n, .inr (.inl (gl S k g))) := hce _
  have hce2 : ce cs α (sl S k g (nn i) x) k g = .inl (cs 1, n, .inr (.inl (vp_updL (gl S k g) (nn i) x))) := by unfold sl; rw [ce_s_al]; exact hce _
  rw [hce1] at he
  refine W.last hc.x hc.b he ((hc.K.2 1 _ rfl).1 n (fun j => .long (gl S k g j))) (fun q => by cases q) (by show ¬ (i < 0 ∨ (arrV _ _ _).slots.size ≤ _); rw [arrV_size]; exact hin) rfl rfl hdg fun H1 e z oq => ?_
  refine kk H1 _ (hd.put hl ?_ z oq (by unfold sl; exact ce_al) hd.2.2.2.2 lo_put)
  rw [hce2]
  show H1[α k g]? = some (vp_cell _ _)
  rw [e]
  rw [vp_cell_l, vp_cell_l, arrV_store]
  congr 2
  funext q
  by_cases hq : q = i.toNatClampNeg
  · subst hq
    simp [updV, vp_updL]
  · simp [updV, vp_updL, hq]
end RW
