def exN : Nat → String := fun k => match k with
  | 1 => "java/lang/IllegalStateException"
  | 2 => "java/lang/IllegalArgumentException"
  | 3 => "java/util/NoSuchElementException"
  | _ => "java/lang/IndexOutOfBoundsException"
def QF : Array Value → State → Outcome → State → Prop := fun _ _ _ _ => False
def XQ (D : va_G) (cs : Nat → ClassId) (B0 : Nat) (α : Nat → Nat → Nat) (Lv : Nat → Nat → Prop) (k : Nat) (S : St) : String → State → State → Prop := vx_X (fun _ : Unit => True) (fun E _ t => E = exN k ∧ Wd D cs B0 α Lv S t.heap) (AB B0)
def QXi (D : va_G) (cs : Nat → ClassId) (B0 : Nat) (α : Nat → Nat → Nat) (Lv : Nat → Nat → Prop) (o : (Nat ⊕ Int32) × St) (below : List Frame) (args : Array Value) (s : State) : State → Prop := match o.1 with
  | .inr r => MQ below (Qi D cs B0 α Lv r o.2) args s 0 0 (AB B0)
  | .inl k => vx_MQ below QF (XQ D cs B0 α Lv k o.2) args s 1 6 (AB B0)
def QXl (D : va_G) (cs : Nat → ClassId) (B0 : Nat) (α : Nat → Nat → Nat) (Lv : Nat → Nat → Prop) (o : (Nat ⊕ Int64) × St) (below : List Frame) (args : Array Value) (s : State) : State → Prop := match o.1 with
  | .inr r => MQ below (Ql D cs B0 α Lv r o.2) args s 0 0 (AB B0)
  | .inl k => vx_MQ below QF (XQ D cs B0 α Lv k o.2) args s 1 6 (AB B0)
def QXv (D : va_G) (cs : Nat → ClassId) (B0 : Nat) (α : Nat → Nat → Nat) (Lv : Nat → Nat → Prop) (o : (Nat ⊕ Unit) × St) (below : List Frame) (args : Array Value) (s : State) : State → Prop := match o.1 with
  | .inr _ => MQ below (Qv D cs B0 α Lv o.2) args s 0 0 (AB B0)
  | .inl k => vx_MQ below QF (XQ D cs B0 α Lv k o.2) args s 1 6 (AB B0)
def xcn {τ : Type} (o : (Nat ⊕ τ) × St) : Nat := match o.1 with
  | .inr _ => 0
  | .inl _ => 1
def xsn {τ : Type} (o : (Nat ⊕ τ) × St) : Nat := match o.1 with
  | .inr _ => 0
  | .inl _ => 6
def RX {τ : Type} (d : Nat) (o : (Nat ⊕ τ) × St) : Room := { frames := d, cells := xcn o, slots := xsn o, locals := 40 * d }
def XH {τ : Type} (l : Launch) (c : Code) (o : (Nat ⊕ τ) × St) : Prop := match o.1 with
  | .inr _ => True
  | .inl _ => l.stackTraces = false ∧ ∀ x ∈ c.exceptionTable.toList, False
theorem XH.r {τ : Type} {l : Launch} {c : Code} {r : τ} {S : St} : XH l c ((.inr r, S) : (Nat ⊕ τ) × St) := trivial
theorem XH.l {τ : Type} {l : Launch} {c : Code} {k : Nat} {S : St} (h1 : l.stackTraces = false) (h2 : ∀ x ∈ c.exceptionTable.toList, False) : XH l c ((.inl k, S) : (Nat ⊕ τ) × St) := ⟨h1, h2⟩
def exNm : List String := ["java/lang/RuntimeException", "java/lang/Exception"]
theorem ex_nm : ∀ n ∈ exNm, Bundle.fit n = true := by decide +kernel
theorem thg_1 : ∀ w ∈ (vx_atS "PumpCrossing" 65 "java/lang/IllegalStateException" exNm).filter goodWord, w ∈ tables_1 := by decide +kernel
theorem thb_1 : ∀ w ∈ (vx_atS "PumpCrossing" 65 "java/lang/IllegalStateException" exNm).filter (fun w => !goodWord w), w ∈ ([.castable "java/lang/IllegalStateException" "java/lang/IllegalStateException", .declares (Bundle.initS "java/lang/RuntimeException"), .declares (Bundle.initS "java/lang/Exception"), .declares (Bundle.initS "java/lang/Throwable")] : List Cond) := by decide +kernel
theorem tho_1 : ∀ w ∈ vx_atS "PumpCrossing" 65 "java/lang/IllegalStateException" exNm, vx_ot w = true := by decide +kernel
theorem thw_1 {args : Array Value} {s : State} (hts : ∀ w ∈ lw_good, w.before args s = true) (hE : KE s) : ∀ w ∈ vx_atS "PumpCrossing" 65 "java/lang/IllegalStateException" exNm, w.before args s = true :=
  vx_hat (fun w hw => hts w (List.mem_filter.mpr ⟨List.mem_append_right _ (thg_1 w hw), (List.mem_filter.mp hw).2⟩)) thb_1 (vx_c (va_Nw.use rfl (hE.1 _ (by decide))) (vx_c (va_Nw.use rfl (hE.2.1 _ (by decide))) (vx_c (va_Nw.use rfl (hE.2.1 _ (by decide))) (vx_c (va_Nw.use rfl (hE.2.1 _ (by decide))) vx_n))))
theorem thg_2 : ∀ w ∈ (vx_atS "PumpCrossing" 197 "java/lang/IllegalArgumentException" exNm).filter goodWord, w ∈ tables_1 := by decide +kernel
theorem thb_2 : ∀ w ∈ (vx_atS "PumpCrossing" 197 "java/lang/IllegalArgumentException" exNm).filter (fun w => !goodWord w), w ∈ ([.castable "java/lang/IllegalArgumentException" "java/lang/IllegalArgumentException", .declares (Bundle.initS "java/lang/RuntimeException"), .declares (Bundle.initS "java/lang/Exception"), .declares (Bundle.initS "java/lang/Throwable")] : List Cond) := by decide +kernel
theorem tho_2 : ∀ w ∈ vx_atS "PumpCrossing" 197 "java/lang/IllegalArgumentException" exNm, vx_ot w = true := by decide +kernel
theorem thw_2 {args : Array Value} {s : State} (hts : ∀ w ∈ lw_good, w.before args s = true) (hE : KE s) : ∀ w ∈ vx_atS "PumpCrossing" 197 "java/lang/IllegalArgumentException" exNm, w.before args s = true :=
  vx_hat (fun w hw => hts w (List.mem_filter.mpr ⟨List.mem_append_right _ (thg_2 w hw), (List.mem_filter.mp hw).2⟩)) thb_2 (vx_c (va_Nw.use rfl (hE.1 _ (by decide))) (vx_c (va_Nw.use rfl (hE.2.1 _ (by decide))) (vx_c (va_Nw.use rfl (hE.2.1 _ (by decide))) (vx_c (va_Nw.use rfl (hE.2.1 _ (by decide))) vx_n))))
theorem thg_4 : ∀ w ∈ (vx_atS "PumpCrossing" 397 "java/lang/IndexOutOfBoundsException" exNm).filter goodWord, w ∈ tables_1 := by decide +kernel
theorem thb_4 : ∀ w ∈ (vx_atS "PumpCrossing" 397 "java/lang/IndexOutOfBoundsException" exNm).filter (fun w => !goodWord w), w ∈ ([.castable "java/lang/IndexOutOfBoundsException" "java/lang/IndexOutOfBoundsException", .declares (Bundle.initS "java/lang/RuntimeException"), .declares (Bundle.initS "java/lang/Exception"), .declares (Bundle.initS "java/lang/Throwable")] : List Cond) := by decide +kernel
theorem tho_4 : ∀ w ∈ vx_atS "PumpCrossing" 397 "java/lang/IndexOutOfBoundsException" exNm, vx_ot w = true := by decide +kernel
theorem thw_4 {args : Array Value} {s : State} (hts : ∀ w ∈ lw_good, w.before args s = true) (hE : KE s) : ∀ w ∈ vx_atS "PumpCrossing" 397 "java/lang/IndexOutOfBoundsException" exNm, w.before args s = true :=
  vx_hat (fun w hw => hts w (List.mem_filter.mpr ⟨List.mem_append_right _ (thg_4 w hw), (List.mem_filter.mp hw).2⟩)) thb_4 (vx_c (va_Nw.use rfl (hE.1 _ (by decide))) (vx_c (va_Nw.use rfl (hE.2.1 _ (by decide))) (vx_c (va_Nw.use rfl (hE.2.1 _ (by decide))) (vx_c (va_Nw.use rfl (hE.2.1 _ (by decide))) vx_n))))
def six13 : ByteArray := ⟨#[0x2a, 0x2b, 0xb7, 0x00, 0x0d, 0xb1]⟩
theorem six13_0 : decode six13 0 = .ok (.aload_n 0, 1) := by decide +kernel
theorem six13_1 : decode six13 1 = .ok (.aload_n 1, 1) := by decide +kernel
theorem six13_2 : decode six13 2 = .ok (.invokespecial 13, 3) := by decide +kernel
theorem six13_5 : decode six13 5 = .ok (.return_, 1) := by decide +kernel
abbrev nsX : String := "java/util/NoSuchElementException"
abbrev nsY : String := "java/lang/RuntimeException"
/-- the words of 'throw new NoSuchElementException(text)': its own first link stands at 13 -/
def nsA (own : String) (ic : Nat) : List Cond := Bundle.throwableAtoms ++ Bundle.throwableSAtoms ++ Bundle.passSAtoms nsX nsY 13 six13 ++ Bundle.chainSAtoms nsY ["java/lang/Exception"] ++
  [.methodLink own ic (Bundle.initS nsX), .instantiable nsX 6, .castable nsX nsX, .selects nsX Bundle.tFill0 Bundle.tFill0, .selects nsX Bundle.tFill Bundle.tFill,
   .lays nsX Bundle.tN "cause" "Ljava/lang/Throwable;", .lays nsX Bundle.tN "stackTrace" Bundle.steD, .lays nsX Bundle.tN "suppressedExceptions" Bundle.listD, .lays nsX Bundle.tN "detailMessage" "Ljava/lang/String;",
   .isRef (.static Bundle.tN "UNASSIGNED_STACK" Bundle.steD), .isRef (.static Bundle.tN "SUPPRESSED_SENTINEL" Bundle.listD),
   .fieldLink Bundle.tN 198 Bundle.tN "backtrace" "Ljava/lang/Object;", .lays Bundle.tN Bundle.tN "backtrace" "Ljava/lang/Object;", .lays nsX Bundle.tN "backtrace" "Ljava/lang/Object;"]
def nsF (own : String) (ic : Nat) : List Cond := (nsA own ic).filter vx_no
theorem thg_3 : ∀ w ∈ (nsF "PumpCrossing" 172).filter goodWord, w ∈ tables_1 := by decide +kernel
theorem thb_3 : ∀ w ∈ (nsF "PumpCrossing" 172).filter (fun w => !goodWord w), w ∈ ([.castable nsX nsX, .declares (Bundle.initS "java/lang/RuntimeException"), .declares (Bundle.initS "java/lang/Exception"), .declares (Bundle.initS "java/lang/Throwable")] : List Cond) := by decide +kernel
theorem tho_3 : ∀ w ∈ nsF "PumpCrossing" 172, vx_ot w = true := by decide +kernel
theorem thw_3 {args : Array Value} {s : State} (hts : ∀ w ∈ lw_good, w.before args s = true) (hE : KE s) : ∀ w ∈ nsF "PumpCrossing" 172, w.before args s = true :=
  vx_hat (fun w hw => hts w (List.mem_filter.mpr ⟨List.mem_append_right _ (thg_3 w hw), (List.mem_filter.mp hw).2⟩)) thb_3 (vx_c (va_Nw.use rfl (hE.1 _ (by decide))) (vx_c (va_Nw.use rfl (hE.2.1 _ (by decide))) (vx_c (va_Nw.use rfl (hE.2.1 _ (by decide))) (vx_c (va_Nw.use rfl (hE.2.1 _ (by decide))) vx_n))))
section THR
variable {p : Program} {l : Launch} {e : Env} {R : Room} {s : State} {m : MethodId} {args : Array Value} {below : List Frame} {meth : Method} {c : Code} {H : Heap} {locs : List Loc} {Q : State → Prop}
variable {cc : ByteArray} {pc : Nat} {ls : Array Slot} {rest : List Value} {nL : Nat} {own : String} {D : va_G} {cs : Nat → ClassId} {B0 : Nat} {kt : (Nat → Nat) × (Nat → Nat)} {α : Nat → Nat → Nat} {Lv : Nat → Nat → Prop} {S : St}
theorem Dy.xq {t : State} {k : Nat} (hd : Dy s D cs B0 α Lv S H locs) (hz : H.size ≤ t.heap.size) (hk : ∀ q : Nat, q < H.size → t.heap[q]? = H[q]?) : XQ D cs B0 α Lv k S (exN k) s t := by
  refine ⟨(), trivial, ⟨rfl, ?_⟩, ?_⟩
  · obtain ⟨w1, w2, w3, w4⟩ := hd.2
    exact ⟨fun k g hl => (w1 k g hl).kept (hk _ (w1 k g hl).lt), w2, w3, w4⟩
  · exact ⟨Nat.le_trans hd.1.1 hz, fun q h1 h2 => (hk q (Nat.lt_of_lt_of_le h1 hd.1.1)).trans (hd.1.2.1 q h1 h2)⟩
theorem r_thr_1 (hc : Cx p s m args meth c cc nL "PumpCrossing" D cs B0 kt Lv) (hd : Dy s D cs B0 α Lv S H locs) (hls : ls.size = nL) (hst : l.stackTraces = false) (hX : ∀ x ∈ c.exceptionTable.toList, False) {ik is i : Nat} {text : String} (hk : Cond.classLink "PumpCrossing" ik "java/lang/IllegalStateException" ∈ lw_good) (hs : strT[i]? = some ("PumpCrossing", is, text)) (hRf : 5 < R.frames) (hRl : (rest.map fun v => v.category).sum + 82 ≤ R.locals) (hRc : 1 ≤ R.cells) (hRs : 6 ≤ R.slots) (d0 : decode cc pc = .ok (.new ik, 3)) (d3 : decode cc (pc + 3) = .ok (.dup, 1)) (d4 : decode cc (pc + 4) = .ok (.ldc is, 2)) (d6 : decode cc (pc + 6) = .ok (.invokespecial 65, 3)) (d9 : decode cc (pc + 9) = .ok (.athrow, 1)) :
    W p l e R s m args below meth c H locs 0 0 (vx_MQ below QF (XQ D cs B0 α Lv 1 S) args s 1 6 (AB B0)) (F0 m pc ls rest) :=
  vx_throwS hc.x hc.b hst (names := exNm) (A := AB B0) hc.ow (by decide +kernel) ex_nm (hc.ts hk) (hc.ts tw_15) (hc.kc.2.2.2.1 i _ hs).1 (thw_1 (fun w hw => hc.ts hw) hc.kc.2.2.2.2.2.2.2.2.2.2.2.1) (fun w hw => by
    rcases List.mem_cons.mp hw with h | h
    · rw [h]; rfl
    · rcases List.mem_cons.mp h with h | h
      · rw [h]; rfl
      · exact tho_1 w h) hc.kc.1 hc.kc.2.1 hd.1 (hls.trans hc.ml.symm) d0 d3 d4 d6 d9 (fun x hx => (hX x hx).elim) hRf hRl (by omega) (by omega) hc.lk (fun t hv hz hk => hd.xq hz hk) hd.1.2.2 (Nat.le_refl _) (Nat.le_refl _)
theorem r_thrw_1 (hc : Cx p s m args meth c cc nL "PumpCrossing" D cs B0 kt Lv) (hd : Dy s D cs B0 α Lv S H locs) (hls : ls.size = nL) (hst : l.stackTraces = false) (hX : ∀ x ∈ c.exceptionTable.toList, False) {ik is i : Nat} {text : String} (hk : Cond.classLink "PumpCrossing" ik "java/lang/IllegalStateException" ∈ lw_good) (hs : strT[i]? = some ("PumpCrossing", is, text)) (hRf : 5 < R.frames) (hRl : (rest.map fun v => v.category).sum + 82 ≤ R.locals) (hRc : 1 ≤ R.cells) (hRs : 6 ≤ R.slots) (d0 : decode cc pc = .ok (.new ik, 3)) (d3 : decode cc (pc + 3) = .ok (.dup, 1)) (d4 : decode cc (pc + 4) = .ok (.ldc_w is, 3)) (d6 : decode cc (pc + 7) = .ok (.invokespecial 65, 3)) (d9 : decode cc (pc + 10) = .ok (.athrow, 1)) :
    W p l e R s m args below meth c H locs 0 0 (vx_MQ below QF (XQ D cs B0 α Lv 1 S) args s 1 6 (AB B0)) (F0 m pc ls rest) :=
  vx_throwSW hc.x hc.b hst (names := exNm) (A := AB B0) hc.ow (by decide +kernel) ex_nm (hc.ts hk) (hc.ts tw_15) (hc.kc.2.2.2.1 i _ hs).1 (thw_1 (fun w hw => hc.ts hw) hc.kc.2.2.2.2.2.2.2.2.2.2.2.1) (fun w hw => by
    rcases List.mem_cons.mp hw with h | h
    · rw [h]; rfl
    · rcases List.mem_cons.mp h with h | h
      · rw [h]; rfl
      · exact tho_1 w h) hc.kc.1 hc.kc.2.1 hd.1 (hls.trans hc.ml.symm) d0 d3 d4 d6 d9 (fun x hx => (hX x hx).elim) hRf hRl (by omega) (by omega) hc.lk (fun t hv hz hk => hd.xq hz hk) hd.1.2.2 (Nat.le_refl _) (Nat.le_refl _)
theorem r_thr_2 (hc : Cx p s m args meth c cc nL "PumpCrossing" D cs B0 kt Lv) (hd : Dy s D cs B0 α Lv S H locs) (hls : ls.size = nL) (hst : l.stackTraces = false) (hX : ∀ x ∈ c.exceptionTable.toList, False) {ik is i : Nat} {text : String} (hk : Cond.classLink "PumpCrossing" ik "java/lang/IllegalArgumentException" ∈ lw_good) (hs : strT[i]? = some ("PumpCrossing", is, text)) (hRf : 5 < R.frames) (hRl : (rest.map fun v => v.category).sum + 82 ≤ R.locals) (hRc : 1 ≤ R.cells) (hRs : 6 ≤ R.slots) (d0 : decode cc pc = .ok (.new ik, 3)) (d3 : decode cc (pc + 3) = .ok (.dup, 1)) (d4 : decode cc (pc + 4) = .ok (.ldc is, 2)) (d6 : decode cc (pc + 6) = .ok (.invokespecial 197, 3)) (d9 : decode cc (pc + 9) = .ok (.athrow, 1)) :
    W p l e R s m args below meth c H locs 0 0 (vx_MQ below QF (XQ D cs B0 α Lv 2 S) args s 1 6 (AB B0)) (F0 m pc ls rest) :=
  vx_throwS hc.x hc.b hst (names := exNm) (A := AB B0) hc.ow (by decide +kernel) ex_nm (hc.ts hk) (hc.ts tw_16) (hc.kc.2.2.2.1 i _ hs).1 (thw_2 (fun w hw => hc.ts hw) hc.kc.2.2.2.2.2.2.2.2.2.2.2.1) (fun w hw => by
    rcases List.mem_cons.mp hw with h | h
    · rw [h]; rfl
    · rcases List.mem_cons.mp h with h | h
      · rw [h]; rfl
      · exact tho_2 w h) hc.kc.1 hc.kc.2.1 hd.1 (hls.trans hc.ml.symm) d0 d3 d4 d6 d9 (fun x hx => (hX x hx).elim) hRf hRl (by omega) (by omega) hc.lk (fun t hv hz hk => hd.xq hz hk) hd.1.2.2 (Nat.le_refl _) (Nat.le_refl _)
theorem r_thrw_2 (hc : Cx p s m args meth c cc nL "PumpCrossing" D cs B0 kt Lv) (hd : Dy s D cs B0 α Lv S H locs) (hls : ls.size = nL) (hst : l.stackTraces = false) (hX : ∀ x ∈ c.exceptionTable.toList, False) {ik is i : Nat} {text : String} (hk : Cond.classLink "PumpCrossing" ik "java/lang/IllegalArgumentException" ∈ lw_good) (hs : strT[i]? = some ("PumpCrossing", is, text)) (hRf : 5 < R.frames) (hRl : (rest.map fun v => v.category).sum + 82 ≤ R.locals) (hRc : 1 ≤ R.cells) (hRs : 6 ≤ R.slots) (d0 : decode cc pc = .ok (.new ik, 3)) (d3 : decode cc (pc + 3) = .ok (.dup, 1)) (d4 : decode cc (pc + 4) = .ok (.ldc_w is, 3)) (d6 : decode cc (pc + 7) = .ok (.invokespecial 197, 3)) (d9 : decode cc (pc + 10) = .ok (.athrow, 1)) :
    W p l e R s m args below meth c H locs 0 0 (vx_MQ below QF (XQ D cs B0 α Lv 2 S) args s 1 6 (AB B0)) (F0 m pc ls rest) :=
  vx_throwSW hc.x hc.b hst (names := exNm) (A := AB B0) hc.ow (by decide +kernel) ex_nm (hc.ts hk) (hc.ts tw_16) (hc.kc.2.2.2.1 i _ hs).1 (thw_2 (fun w hw => hc.ts hw) hc.kc.2.2.2.2.2.2.2.2.2.2.2.1) (fun w hw => by
    rcases List.mem_cons.mp hw with h | h
    · rw [h]; rfl
    · rcases List.mem_cons.mp h with h | h
      · rw [h]; rfl
      · exact tho_2 w h) hc.kc.1 hc.kc.2.1 hd.1 (hls.trans hc.ml.symm) d0 d3 d4 d6 d9 (fun x hx => (hX x hx).elim) hRf hRl (by omega) (by omega) hc.lk (fun t hv hz hk => hd.xq hz hk) hd.1.2.2 (Nat.le_refl _) (Nat.le_refl _)
theorem r_thr_4 (hc : Cx p s m args meth c cc nL "PumpCrossing" D cs B0 kt Lv) (hd : Dy s D cs B0 α Lv S H locs) (hls : ls.size = nL) (hst : l.stackTraces = false) (hX : ∀ x ∈ c.exceptionTable.toList, False) {ik is i : Nat} {text : String} (hk : Cond.classLink "PumpCrossing" ik "java/lang/IndexOutOfBoundsException" ∈ lw_good) (hs : strT[i]? = some ("PumpCrossing", is, text)) (hRf : 5 < R.frames) (hRl : (rest.map fun v => v.category).sum + 82 ≤ R.locals) (hRc : 1 ≤ R.cells) (hRs : 6 ≤ R.slots) (d0 : decode cc pc = .ok (.new ik, 3)) (d3 : decode cc (pc + 3) = .ok (.dup, 1)) (d4 : decode cc (pc + 4) = .ok (.ldc is, 2)) (d6 : decode cc (pc + 6) = .ok (.invokespecial 397, 3)) (d9 : decode cc (pc + 9) = .ok (.athrow, 1)) :
    W p l e R s m args below meth c H locs 0 0 (vx_MQ below QF (XQ D cs B0 α Lv 4 S) args s 1 6 (AB B0)) (F0 m pc ls rest) :=
  vx_throwS hc.x hc.b hst (names := exNm) (A := AB B0) hc.ow (by decide +kernel) ex_nm (hc.ts hk) (hc.ts tw_26) (hc.kc.2.2.2.1 i _ hs).1 (thw_4 (fun w hw => hc.ts hw) hc.kc.2.2.2.2.2.2.2.2.2.2.2.1) (fun w hw => by
    rcases List.mem_cons.mp hw with h | h
    · rw [h]; rfl
    · rcases List.mem_cons.mp h with h | h
      · rw [h]; rfl
      · exact tho_4 w h) hc.kc.1 hc.kc.2.1 hd.1 (hls.trans hc.ml.symm) d0 d3 d4 d6 d9 (fun x hx => (hX x hx).elim) hRf hRl (by omega) (by omega) hc.lk (fun t hv hz hk => hd.xq hz hk) hd.1.2.2 (Nat.le_refl _) (Nat.le_refl _)
theorem r_thrw_4 (hc : Cx p s m args meth c cc nL "PumpCrossing" D cs B0 kt Lv) (hd : Dy s D cs B0 α Lv S H locs) (hls : ls.size = nL) (hst : l.stackTraces = false) (hX : ∀ x ∈ c.exceptionTable.toList, False) {ik is i : Nat} {text : String} (hk : Cond.classLink "PumpCrossing" ik "java/lang/IndexOutOfBoundsException" ∈ lw_good) (hs : strT[i]? = some ("PumpCrossing", is, text)) (hRf : 5 < R.frames) (hRl : (rest.map fun v => v.category).sum + 82 ≤ R.locals) (hRc : 1 ≤ R.cells) (hRs : 6 ≤ R.slots) (d0 : decode cc pc = .ok (.new ik, 3)) (d3 : decode cc (pc + 3) = .ok (.dup, 1)) (d4 : decode cc (pc + 4) = .ok (.ldc_w is, 3)) (d6 : decode cc (pc + 7) = .ok (.invokespecial 397, 3)) (d9 : decode cc (pc + 10) = .ok (.athrow, 1)) :
    W p l e R s m args below meth c H locs 0 0 (vx_MQ below QF (XQ D cs B0 α Lv 4 S) args s 1 6 (AB B0)) (F0 m pc ls rest) :=
  vx_throwSW hc.x hc.b hst (names := exNm) (A := AB B0) hc.ow (by decide +kernel) ex_nm (hc.ts hk) (hc.ts tw_26) (hc.kc.2.2.2.1 i _ hs).1 (thw_4 (fun w hw => hc.ts hw) hc.kc.2.2.2.2.2.2.2.2.2.2.2.1) (fun w hw => by
    rcases List.mem_cons.mp hw with h | h
    · rw [h]; rfl
    · rcases List.mem_cons.mp h with h | h
      · rw [h]; rfl
      · exact tho_4 w h) hc.kc.1 hc.kc.2.1 hd.1 (hls.trans hc.ml.symm) d0 d3 d4 d6 d9 (fun x hx => (hX x hx).elim) hRf hRl (by omega) (by omega) hc.lk (fun t hv hz hk => hd.xq hz hk) hd.1.2.2 (Nat.le_refl _) (Nat.le_refl _)
theorem xmet_of {y : MethodName} {b : ByteArray} {n d : Nat} {r : Option FieldType} (hy : plainName y.cls = true) (ho : y.cls = own) {av : List Value} {k : Nat} {S1 : St} (hcl : Cl Lv) (hn : (lg_sl av).length ≤ n)
    (body : ∀ (p : Program) (e : Env) (s : State) (m : MethodId) (below : List Frame) (meth : Method) (c : Code), Cx p s m av.toArray meth c b n own D cs B0 kt Lv → meth.sig.returnType = r → (∀ x ∈ c.exceptionTable.toList, False) → Dy s D cs B0 α Lv S s.heap [] → ∀ ls : Array Slot, lv_has ls n (lv_args 0 av) →
      W p l e (Rm d 1 6) s m av.toArray below meth c s.heap [] 0 0 (vx_MQ below QF (XQ D cs B0 α Lv k S1) av.toArray s 1 6 (AB B0)) (F0 m 0 ls [])) : vx_Met l y (wz y b n r) (Rm d 1 6) (Pz D cs B0 kt α Lv S av) QF (XQ D cs B0 α Lv k S1) 1 6 (AB B0) := by
  refine vx_ofW (cc := b) (maxL := n) (ret := r) hy rfl ?_
  intro p e s m args below meth c s₁ B hml hX hv
  obtain ⟨rfl, h1, h2, h3⟩ := hv
  have hts := atoms_spec (ws := wz y b n r) B.pre
  have hown : s.vm.findClass y.cls = some m.cls := findClass_of_methodNamed B.named
  rw [ho] at hown
  rw [lg_entry_eq]
  exact body p e s m below meth c ⟨B.exec, B.bytes, hml, hown, fun w hw => hts w (List.mem_cons_of_mem _ hw), h2, hcl, B.notSynchronized, h3⟩ B.returns hX ⟨va_S.rf, h1⟩ _ (lv_entry av hn)
theorem x_runV (hc : Cx p s m args meth c cc nL own D cs B0 kt Lv) (hd : Dy s D cs B0 α Lv S H locs) {y : MethodName} {C : String} {b : ByteArray} {n d mc ms kn index cells slots : Nat} {r : Option FieldType} (my : MyV y C b n r kn) (hlk : Cond.methodLink own index y ∈ lw_good) {k g : Nat} (hl : Lv k g) {ci : Nat} {fs : List Value} {q : vw_C} (hce : ce cs α S k g = .inr (ci, fs)) (hcl : vwCl[ci]? = some q) (hq : q.1 = C) {As : List Value} {Qc : Array Value → State → Outcome → State → Prop} {XC : String → State → State → Prop}
    (hM : vx_Met l y (wz y b n r) (Rm d mc ms) (Pz D cs B0 kt α Lv S (.ref (α k g) :: As)) Qc XC mc ms (AB B0)) (hn : As.length = kn) {st0 : List Value} (hst : st0 = As.reverse ++ .ref (α k g) :: rest) (hls : ls.size = nL) (hw : (rest.map fun v => v.category).sum ≤ 8) (hR : d + 1 ≤ R.frames ∧ 8 + (n + 11) + 40 * d ≤ R.locals ∧ cells + mc ≤ R.cells ∧ slots + ms ≤ R.slots) (hdg : decode cc pc = .ok (.invokevirtual index, 3)) :
    vx_Run p l e R s m args below meth c H locs cells slots mc ms (F0 m pc ls st0) rest (Qc (.ref (α k g) :: As).toArray) XC (AB B0) := by
  obtain ⟨m1, m2, m3, m4, m5⟩ := my
  have hG : GoodIn lw_good (wsV own index C y (wz y b n r)) := by
    intro w hw
    rcases List.mem_append.mp hw with h | h
    · have hm : w ∈ lw_good := by
        simp only [List.mem_cons, List.mem_nil_iff, or_false] at h
        rcases h with rfl | rfl | rfl | rfl
        · exact hlk
        · exact m1
        · exact m2
        · exact m3
      exact ⟨hm, good_of_word (List.mem_filter.mp hm).2⟩
    · exact good_1 m4 w h
  refine vx_runV (nL := nL) (cc := cc) (own := own) (Ts := lw_good) ⟨hc.x, hc.b, hc.ml, hc.ow, fun w hw => hc.ts hw⟩ hM (cwV kn (fun w hw => hc.ts hw) hG rfl rfl rfl m5 ⟨hR.1, hR.2.1⟩) ⟨Pz.blind, ?_, Pz.at hc hd _⟩ rfl hn hls hst (lv_room hw) hdg ⟨hR.2.2.1, hR.2.2.2⟩
  have hP := hd.at hl
  rw [hce] at hP
  obtain ⟨cell, a1, a2, a3⟩ := va_recv hc.K hP (q0 := 0) hcl rfl
  exact ⟨cell, a1, a2, by rw [← hq]; exact a3⟩
theorem x_go {st0 : List Value} {a : Array Value} {k : Nat} {S1 : St} (hr : vx_Run p l e R s m args below meth c H locs 0 0 1 6 (F0 m pc ls st0) rest (QF a) (XQ D cs B0 α Lv k S1) (AB B0)) (hd : Dy s D cs B0 α Lv S H locs) (hX : ∀ x ∈ c.exceptionTable.toList, False) (hlk : meth.locks = false) :
    W p l e R s m args below meth c H locs 0 0 (vx_MQ below QF (XQ D cs B0 α Lv k S1) args s 1 6 (AB B0)) (F0 m pc ls st0) := by
  intro T hT X
  rcases hr T hT X with ⟨v, st₀, t, T', L, h0, X', hL, e1, e2, hq, st⟩ | ⟨q, st₀, t, T', L, E, ce, h0, X', hL, e1, e2, ⟨u, hp, ⟨hE, hw⟩, hF⟩, hce, hcv, hcl, st⟩
  · exact hq.elim
  · obtain ⟨k1, k2, k3⟩ := vx_keep h0 e1 hd.1 (fun q _ h => h) (fun q h => h) hL hF
    have hd1 : Dy s D cs B0 α Lv S1 T'.heap (locs ++ L) := ⟨k3, by rw [e1]; exact hw⟩
    obtain ⟨t2, a1, b1⟩ := vx_out (Qc := QF) (XC := XQ D cs B0 α Lv k S1) (free := AB B0) (mc := 1) (ms := 6) (p := p) (l := l) (e := e) (R := R) (s := s) (m := m) (args := args) (below := below) (meth := meth) (c := c) (ls := ls) (rest := rest) (pc := pc) (fun x hx => (hX x hx).elim) hlk (by rw [e1]; exact hce) hcv hcl (fun t9 ht hv => by rw [hE]; exact hd1.xq (by rw [ht]; exact Nat.le_refl _) (fun q _ => by rw [ht])) k3.2.2 (Nat.le_refl _) (Nat.le_refl _) T' rfl X'
    exact ⟨t2, st.trans a1, b1⟩
end THR
