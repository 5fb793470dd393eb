def R_law : String := "PumpCrossingLaw"
def lw_P (b : Addr) (xs : List Int32) (args : Array Value) (s : State) : Prop := args = #[.ref b] ∧ s.IntsAt b xs ∧ xs.length ≤ 3072 ∧ (Jvm.Cond.and given_1 narrow_1).before args s = true
def lw_Q (_ : Array Value) (s : State) (o : Outcome) (t : State) : Prop := o = .returned (some (.int 1)) ∧ Framed s o t [] 601024 7293034
def lw_Z (below : List Frame) (a : Array Value) (s : State) : State → Prop := fun t => ∃ o, t.status = .running ∧ Ended t below o ∧ lw_Q a s o t
/-- the law's own end, with 1 on the stack, nothing written that was there before, its room as the claim has it -/
theorem lw_ret {p : Program} {l : Launch} {e : Env} {s : State} {m : MethodId} {below : List Frame} {meth : Method} {c : Code} {b : Nat} (hx : p.tables.exec = Jvm.exec) (hb : c.code = code) (hr : meth.sig.returnType = ret) (hlocks : meth.locks = false) {pc : Nat} {H : Heap} {ls : Array Slot} (hdg : decode code pc = .ok (.ireturn, 1)) : W p l e room_1 s m #[Value.ref b] below meth c H [] 601024 7293034 (lw_Z below #[Value.ref b] s) (F0 m pc ls [.int 1]) := by
  intro T hT X
  obtain ⟨fs, hret, hrun, hended, hW, hframe⟩ := X.leave (v := some (.int 1)) (hlocks := hlocks) (fun h => by rw [hr] at h; cases h)
  have hmeth' : T.vm.method? m = some meth := X.method'
  refine ⟨T.setFrames fs, ?_, .returned (some (.int 1)), hrun, hended, rfl, ⟨_, rfl⟩, hW, hframe⟩
  jvm_step X.here [X.here.top, hx, hb, hdg, hmeth', hr, ret, narrow_b1]
  (try refine ⟨rfl, ?_⟩); (try refine ⟨rfl, ?_⟩)
  first | (intro acts; rw [hret _ acts rfl rfl rfl]) | rw [hret _ _ rfl rfl rfl]
  exact Steps.refl _
/-- what holds at the law's entry: the machine, the code, the tables' words (any of lw_tbl by 'hts w (by decide +kernel)'), the script of L ints xs at the cell b, what the Statement gives of the start (any of its parts by flat_of_before) -/
def lw_At (p : Program) (s : State) (m : MethodId) (meth : Method) (c : Code) (b L : Nat) (xs : Nat → Int32) : Prop :=
  p.tables.exec = Jvm.exec ∧ c.code = code ∧ meth.sig.returnType = ret ∧ c.maxLocals = 8 ∧ s.vm.findClass R_law = some m.cls ∧ (∀ w ∈ lw_tbl, w.before #[Value.ref b] s = true) ∧ va_X b L xs s s.heap ∧ b < s.heap.size ∧ meth.locks = false ∧ (Jvm.Cond.and given_1 narrow_1).before #[Value.ref b] s = true
section
variable {p : Program} {l : Launch} {e : Env} {s : State} {cells slots : Nat} {Q : State → Prop} {m : MethodId} {args : Array Value} {below : List Frame} {meth : Method} {c : Code} {D : va_G} {cs : Nat → ClassId} {B0 : Nat} {kt : (Nat → Nat) × (Nat → Nat)} {α : Nat → Nat → Nat} {Lv : Nat → Nat → Prop}
set_option maxRecDepth 100000 in
set_option maxHeartbeats 8000000 in
theorem law_sw (hc : Cx p s m args meth c cL_law_ 8 "PumpCrossingLaw" D cs B0 kt Lv) (hck : CK cs s) (hst : l.stackTraces = false) {b L : Nat} {xs : Nat → Int32} (hX : va_X b L xs s s.heap) (hbl : b < s.heap.size) (hbA : ¬ B0 ≤ b) {x4 a1 a2 a3 a4 a5 : Int32} (hi : inb (x4 + 1) L = true ∧ inb (x4 + 2) L = true ∧ inb (x4 + 3) L = true ∧ inb (x4 + 4) L = true ∧ inb (x4 + 5) L = true) (ea : xs (nn (x4 + 1)) = a1 ∧ xs (nn (x4 + 2)) = a2 ∧ xs (nn (x4 + 3)) = a3 ∧ xs (nn (x4 + 4)) = a4 ∧ xs (nn (x4 + 5)) = a5) {o S : St} {gN : Nat} (hlt : ∀ k g, Lv k g → k < 1000) (hfr : ∀ x ∈ FL gN, ¬ Lv x.1 x.2) (hL1 : Lv 0 0) (hL2 : Lv 60 0) (hL3 : Lv 81 0) (hcc : cells + 60 ≤ 601024) (hss : slots + 3000 ≤ 7293034) (kk : ∀ (α1 : Nat → Nat → Nat) (Lv1 : Nat → Nat → Prop) (H1 : Heap) (locs1 : List Loc) (ls1 : Array Slot), Ex α Lv (1000, 0) α1 Lv1 (FL gN) → Cx p s m args meth c cL_law_ 8 "PumpCrossingLaw" D cs B0 kt Lv1 → Dy s D cs B0 α1 Lv1 o H1 locs1 → lv_has ls1 8 [(0, .ref b), (1, .ref (α1 0 0)), (2, .ref (α1 60 0)), (3, .ref (α1 81 0)), (4, .int x4)] → W p l e room_1 s m args below meth c H1 locs1 (cells + 40) (slots + 2000) Q (F0 m 2923 ls1 [])) {q : Int32} {H : Heap} {locs : List Loc} {ls : Array Slot} (hf : br (q = 0) (fc_0 gN a1 a2 a3 a4 a5 S) (br (q = 1) (fc_1 gN a1 a2 a3 a4 a5 S) (br (q = 2) (fc_2 gN a1 a2 a3 a4 a5 S) (br (q = 3) (fc_3 gN a1 a2 a3 a4 a5 S) (br (q = 4) (fc_4 gN a1 a2 a3 a4 a5 S) (br (q = 5) (fc_5 gN a1 a2 a3 a4 a5 S) (br (q = 6) (fc_6 gN a1 a2 a3 a4 a5 S) (br (q = 7) (fc_7 gN a1 a2 a3 a4 a5 S) (br (q = 8) (fc_8 gN a1 a2 a3 a4 a5 S) (br (q = 9) (fc_9 gN a1 a2 a3 a4 a5 S) (br (q = 10) (fc_10 gN a1 a2 a3 a4 a5 S) (br (q = 11) (fc_11 gN a1 a2 a3 a4 a5 S) (br (q = 12) (fc_12 gN a1 a2 a3 a4 a5 S) (br (q = 13) (fc_13 gN a1 a2 a3 a4 a5 S) (br (q = 14) (fc_14 gN a1 a2 a3 a4 a5 S) (br (q = 15) (fc_15 gN a1 a2 a3 a4 a5 S) (br (q = 16) (fc_16 gN a1 a2 a3 a4 a5 S) (br (q = 17) (fc_17 gN a1 a2 a3 a4 a5 S) (br (q = 18) (fc_18 gN a1 a2 a3 a4 a5 S) (br (q = 19) (fc_19 gN a1 a2 a3 a4 a5 S) (br (q = 20) (fc_20 gN a1 a2 a3 a4 a5 S) (br (q = 21) (fc_21 gN a1 a2 a3 a4 a5 S) (br (q = 22) (fc_22 gN a1 a2 a3 a4 a5 S) (br (q = 23) (fc_23 gN a1 a2 a3 a4 a5 S) (br (q = 24) (fc_24 gN a1 a2 a3 a4 a5 S) (br (q = 25) (fc_25 gN a1 a2 a3 a4 a5 S) (br (q = 26) (fc_26 gN a1 a2 a3 a4 a5 S) (br (q = 27) (fc_27 gN a1 a2 a3 a4 a5 S) (br (q = 28) (fc_28 gN a1 a2 a3 a4 a5 S) (br (q = 29) (fc_29 gN a1 a2 a3 a4 a5 S) (br (q = 30) (fc_30 gN a1 a2 a3 a4 a5 S) (br (q = 31) (fc_31 gN a1 a2 a3 a4 a5 S) (br (q = 32) (fc_32 gN a1 a2 a3 a4 a5 S) (br (q = 33) (fc_33 gN a1 a2 a3 a4 a5 S) (br (q = 34) (fc_34 gN a1 a2 a3 a4 a5 S) (br (q = 35) (fc_35 gN a1 a2 a3 a4 a5 S) (br (q = 36) (fc_36 gN a1 a2 a3 a4 a5 S) (br (q = 37) (fc_37 gN a1 a2 a3 a4 a5 S) (br (q = 38) (fc_38 gN a1 a2 a3 a4 a5 S) (br (q = 39) (fc_39 gN a1 a2 a3 a4 a5 S) (some S)))))))))))))))))))))))))))))))))))))))) = some o) (hd : Dy s D cs B0 α Lv S H locs) (hl : lv_has ls 8 [(0, .ref b), (1, .ref (α 0 0)), (2, .ref (α 60 0)), (3, .ref (α 81 0)), (4, .int x4)]) : W p l e room_1 s m args below meth c H locs cells slots Q (F0 m 40 ls [.int q]) := by
  by_cases c_0 : q = 0
  · have hf := br_y c_0 hf
    refine lv_tableIn (off := 176) (tgt := 216) hc.x hc.b dL_law__40 (by rw [c_0]; decide) (by rw [c_0]; decide) (by rw [c_0]; decide) (by decide) ?_
    exact lc_0 hc hck hst hX hbl hbA hi ea hlt hfr hL1 hL2 hL3 hcc hss kk hf hd hl
  have hf := br_n c_0 hf
  by_cases c_1 : q = 1
  · have hf := br_y c_1 hf
    refine lv_tableIn (off := 256) (tgt := 296) hc.x hc.b dL_law__40 (by rw [c_1]; decide) (by rw [c_1]; decide) (by rw [c_1]; decide) (by decide) ?_
    exact lc_1 hc hck hst hX hbl hbA hi ea hlt hfr hL1 hL2 hL3 hcc hss kk hf hd hl
  have hf := br_n c_1 hf
  by_cases c_2 : q = 2
  · have hf := br_y c_2 hf
    refine lv_tableIn (off := 348) (tgt := 388) hc.x hc.b dL_law__40 (by rw [c_2]; decide) (by rw [c_2]; decide) (by rw [c_2]; decide) (by decide) ?_
    exact lc_2 hc hck hst hX hbl hbA hi ea hlt hfr hL1 hL2 hL3 hcc hss kk hf hd hl
  have hf := br_n c_2 hf
  by_cases c_3 : q = 3
  · have hf := br_y c_3 hf
    refine lv_tableIn (off := 416) (tgt := 456) hc.x hc.b dL_law__40 (by rw [c_3]; decide) (by rw [c_3]; decide) (by rw [c_3]; decide) (by decide) ?_
    exact lc_3 hc hck hst hX hbl hbA hi ea hlt hfr hL1 hL2 hL3 hcc hss kk hf hd hl
  have hf := br_n c_3 hf
  by_cases c_4 : q = 4
  · have hf := br_y c_4 hf
    refine lv_tableIn (off := 484) (tgt := 524) hc.x hc.b dL_law__40 (by rw [c_4]; decide) (by rw [c_4]; decide) (by rw [c_4]; decide) (by decide) ?_
    exact lc_4 hc hck hst hX hbl hbA hi ea hlt hfr hL1 hL2 hL3 hcc hss kk hf hd hl
  have hf := br_n c_4 hf
  by_cases c_5 : q = 5
  · have hf := br_y c_5 hf
    refine lv_tableIn (off := 557) (tgt := 597) hc.x hc.b dL_law__40 (by rw [c_5]; decide) (by rw [c_5]; decide) (by rw [c_5]; decide) (by decide) ?_
    exact lc_5 hc hck hst hX hbl hbA hi ea hlt hfr hL1 hL2 hL3 hcc hss kk hf hd hl
  have hf := br_n c_5 hf
  by_cases c_6 : q = 6
  · have hf := br_y c_6 hf
    refine lv_tableIn (off := 625) (tgt := 665) hc.x hc.b dL_law__40 (by rw [c_6]; decide) (by rw [c_6]; decide) (by rw [c_6]; decide) (by decide) ?_
    exact lc_6 hc hck hst hX hbl hbA hi ea hlt hfr hL1 hL2 hL3 hcc hss kk hf hd hl
  have hf := br_n c_6 hf
  by_cases c_7 : q = 7
  · have hf := br_y c_7 hf
    refine lv_tableIn (off := 681) (tgt := 721) hc.x hc.b dL_law__40 (by rw [c_7]; decide) (by rw [c_7]; decide) (by rw [c_7]; decide) (by decide) ?_
    exact lc_7 hc hck hst hX hbl hbA hi ea hlt hfr hL1 hL2 hL3 hcc hss kk hf hd hl
  have hf := br_n c_7 hf
  by_cases c_8 : q = 8
  · have hf := br_y c_8 hf
    refine lv_tableIn (off := 706) (tgt := 746) hc.x hc.b dL_law__40 (by rw [c_8]; decide) (by rw [c_8]; decide) (by rw [c_8]; decide) (by decide) ?_
    exact lc_8 hc hck hst hX hbl hbA hi ea hlt hfr hL1 hL2 hL3 hcc hss kk hf hd hl
  have hf := br_n c_8 hf
  by_cases c_9 : q = 9
  · have hf := br_y c_9 hf
    refine lv_tableIn (off := 762) (tgt := 802) hc.x hc.b dL_law__40 (by rw [c_9]; decide) (by rw [c_9]; decide) (by rw [c_9]; decide) (by decide) ?_
    exact lc_9 hc hck hst hX hbl hbA hi ea hlt hfr hL1 hL2 hL3 hcc hss kk hf hd hl
  have hf := br_n c_9 hf
  by_cases c_10 : q = 10
  · have hf := br_y c_10 hf
    refine lv_tableIn (off := 818) (tgt := 858) hc.x hc.b dL_law__40 (by rw [c_10]; decide) (by rw [c_10]; decide) (by rw [c_10]; decide) (by decide) ?_
    exact lc_10 hc hck hst hX hbl hbA hi ea hlt hfr hL1 hL2 hL3 hcc hss kk hf hd hl
  have hf := br_n c_10 hf
  by_cases c_11 : q = 11
  · have hf := br_y c_11 hf
    refine lv_tableIn (off := 886) (tgt := 926) hc.x hc.b dL_law__40 (by rw [c_11]; decide) (by rw [c_11]; decide) (by rw [c_11]; decide) (by decide) ?_
    exact lc_11 hc hck hst hX hbl hbA hi ea hlt hfr hL1 hL2 hL3 hcc hss kk hf hd hl
  have hf := br_n c_11 hf
  by_cases c_12 : q = 12
  · have hf := br_y c_12 hf
    refine lv_tableIn (off := 942) (tgt := 982) hc.x hc.b dL_law__40 (by rw [c_12]; decide) (by rw [c_12]; decide) (by rw [c_12]; decide) (by decide) ?_
    exact lc_12 hc hck hst hX hbl hbA hi ea hlt hfr hL1 hL2 hL3 hcc hss kk hf hd hl
  have hf := br_n c_12 hf
  by_cases c_13 : q = 13
  · have hf := br_y c_13 hf
    refine lv_tableIn (off := 1009) (tgt := 1049) hc.x hc.b dL_law__40 (by rw [c_13]; decide) (by rw [c_13]; decide) (by rw [c_13]; decide) (by decide) ?_
    exact lc_13 hc hck hst hX hbl hbA hi ea hlt hfr hL1 hL2 hL3 hcc hss kk hf hd hl
  have hf := br_n c_13 hf
  by_cases c_14 : q = 14
  · have hf := br_y c_14 hf
    refine lv_tableIn (off := 1065) (tgt := 1105) hc.x hc.b dL_law__40 (by rw [c_14]; decide) (by rw [c_14]; decide) (by rw [c_14]; decide) (by decide) ?_
    exact lc_14 hc hck hst hX hbl hbA hi ea hlt hfr hL1 hL2 hL3 hcc hss kk hf hd hl
  have hf := br_n c_14 hf
  by_cases c_15 : q = 15
  · have hf := br_y c_15 hf
    refine lv_tableIn (off := 1078) (tgt := 1118) hc.x hc.b dL_law__40 (by rw [c_15]; decide) (by rw [c_15]; decide) (by rw [c_15]; decide) (by decide) ?_
    exact lc_15 hc hck hst hX hbl hbA hi ea hlt hfr hL1 hL2 hL3 hcc hss kk hf hd hl
  have hf := br_n c_15 hf
  by_cases c_16 : q = 16
  · have hf := br_y c_16 hf
    refine lv_tableIn (off := 1162) (tgt := 1202) hc.x hc.b dL_law__40 (by rw [c_16]; decide) (by rw [c_16]; decide) (by rw [c_16]; decide) (by decide) ?_
    exact lc_16 hc hck hst hX hbl hbA hi ea hlt hfr hL1 hL2 hL3 hcc hss kk hf hd hl
  have hf := br_n c_16 hf
  by_cases c_17 : q = 17
  · have hf := br_y c_17 hf
    refine lv_tableIn (off := 1265) (tgt := 1305) hc.x hc.b dL_law__40 (by rw [c_17]; decide) (by rw [c_17]; decide) (by rw [c_17]; decide) (by decide) ?_
    exact lc_17 hc hck hst hX hbl hbA hi ea hlt hfr hL1 hL2 hL3 hcc hss kk hf hd hl
  have hf := br_n c_17 hf
  by_cases c_18 : q = 18
  · have hf := br_y c_18 hf
    refine lv_tableIn (off := 1279) (tgt := 1319) hc.x hc.b dL_law__40 (by rw [c_18]; decide) (by rw [c_18]; decide) (by rw [c_18]; decide) (by decide) ?_
    exact lc_18 hc hck hst hX hbl hbA hi ea hlt hfr hL1 hL2 hL3 hcc hss kk hf hd hl
  have hf := br_n c_18 hf
  by_cases c_19 : q = 19
  · have hf := br_y c_19 hf
    refine lv_tableIn (off := 1293) (tgt := 1333) hc.x hc.b dL_law__40 (by rw [c_19]; decide) (by rw [c_19]; decide) (by rw [c_19]; decide) (by decide) ?_
    exact lc_19 hc hck hst hX hbl hbA hi ea hlt hfr hL1 hL2 hL3 hcc hss kk hf hd hl
  have hf := br_n c_19 hf
  by_cases c_20 : q = 20
  · have hf := br_y c_20 hf
    refine lv_tableIn (off := 1349) (tgt := 1389) hc.x hc.b dL_law__40 (by rw [c_20]; decide) (by rw [c_20]; decide) (by rw [c_20]; decide) (by decide) ?_
    exact lc_20 hc hck hst hX hbl hbA hi ea hlt hfr hL1 hL2 hL3 hcc hss kk hf hd hl
  have hf := br_n c_20 hf
  by_cases c_21 : q = 21
  · have hf := br_y c_21 hf
    refine lv_tableIn (off := 1469) (tgt := 1509) hc.x hc.b dL_law__40 (by rw [c_21]; decide) (by rw [c_21]; decide) (by rw [c_21]; decide) (by decide) ?_
    exact lc_21 hc hck hst hX hbl hbA hi ea hlt hfr hL1 hL2 hL3 hcc hss kk hf hd hl
  have hf := br_n c_21 hf
  by_cases c_22 : q = 22
  · have hf := br_y c_22 hf
    refine lv_tableIn (off := 1549) (tgt := 1589) hc.x hc.b dL_law__40 (by rw [c_22]; decide) (by rw [c_22]; decide) (by rw [c_22]; decide) (by decide) ?_
    exact lc_22 hc hck hst hX hbl hbA hi ea hlt hfr hL1 hL2 hL3 hcc hss kk hf hd hl
  have hf := br_n c_22 hf
  by_cases c_23 : q = 23
  · have hf := br_y c_23 hf
    refine lv_tableIn (off := 1629) (tgt := 1669) hc.x hc.b dL_law__40 (by rw [c_23]; decide) (by rw [c_23]; decide) (by rw [c_23]; decide) (by decide) ?_
    exact lc_23 hc hck hst hX hbl hbA hi ea hlt hfr hL1 hL2 hL3 hcc hss kk hf hd hl
  have hf := br_n c_23 hf
  by_cases c_24 : q = 24
  · have hf := br_y c_24 hf
    refine lv_tableIn (off := 1697) (tgt := 1737) hc.x hc.b dL_law__40 (by rw [c_24]; decide) (by rw [c_24]; decide) (by rw [c_24]; decide) (by decide) ?_
    exact lc_24 hc hck hst hX hbl hbA hi ea hlt hfr hL1 hL2 hL3 hcc hss kk hf hd hl
  have hf := br_n c_24 hf
  by_cases c_25 : q = 25
  · have hf := br_y c_25 hf
    refine lv_tableIn (off := 1801) (tgt := 1841) hc.x hc.b dL_law__40 (by rw [c_25]; decide) (by rw [c_25]; decide) (by rw [c_25]; decide) (by decide) ?_
    exact lc_25 hc hck hst hX hbl hbA hi ea hlt hfr hL1 hL2 hL3 hcc hss kk hf hd hl
  have hf := br_n c_25 hf
  by_cases c_26 : q = 26
  · have hf := br_y c_26 hf
    refine lv_tableIn (off := 1920) (tgt := 1960) hc.x hc.b dL_law__40 (by rw [c_26]; decide) (by rw [c_26]; decide) (by rw [c_26]; decide) (by decide) ?_
    exact lc_26 hc hck hst hX hbl hbA hi ea hlt hfr hL1 hL2 hL3 hcc hss kk hf hd hl
  have hf := br_n c_26 hf
  by_cases c_27 : q = 27
  · have hf := br_y c_27 hf
    refine lv_tableIn (off := 2012) (tgt := 2052) hc.x hc.b dL_law__40 (by rw [c_27]; decide) (by rw [c_27]; decide) (by rw [c_27]; decide) (by decide) ?_
    exact lc_27 hc hck hst hX hbl hbA hi ea hlt hfr hL1 hL2 hL3 hcc hss kk hf hd hl
  have hf := br_n c_27 hf
  by_cases c_28 : q = 28
  · have hf := br_y c_28 hf
    refine lv_tableIn (off := 2104) (tgt := 2144) hc.x hc.b dL_law__40 (by rw [c_28]; decide) (by rw [c_28]; decide) (by rw [c_28]; decide) (by decide) ?_
    exact lc_28 hc hck hst hX hbl hbA hi ea hlt hfr hL1 hL2 hL3 hcc hss kk hf hd hl
  have hf := br_n c_28 hf
  by_cases c_29 : q = 29
  · have hf := br_y c_29 hf
    refine lv_tableIn (off := 2208) (tgt := 2248) hc.x hc.b dL_law__40 (by rw [c_29]; decide) (by rw [c_29]; decide) (by rw [c_29]; decide) (by decide) ?_
    exact lc_29 hc hck hst hX hbl hbA hi ea hlt hfr hL1 hL2 hL3 hcc hss kk hf hd hl
  have hf := br_n c_29 hf
  by_cases c_30 : q = 30
  · have hf := br_y c_30 hf
    refine lv_tableIn (off := 2283) (tgt := 2323) hc.x hc.b dL_law__40 (by rw [c_30]; decide) (by rw [c_30]; decide) (by rw [c_30]; decide) (by decide) ?_
    exact lc_30 hc hck hst hX hbl hbA hi ea hlt hfr hL1 hL2 hL3 hcc hss kk hf hd hl
  have hf := br_n c_30 hf
  by_cases c_31 : q = 31
  · have hf := br_y c_31 hf
    refine lv_tableIn (off := 2363) (tgt := 2403) hc.x hc.b dL_law__40 (by rw [c_31]; decide) (by rw [c_31]; decide) (by rw [c_31]; decide) (by decide) ?_
    exact lc_31 hc hck hst hX hbl hbA hi ea hlt hfr hL1 hL2 hL3 hcc hss kk hf hd hl
  have hf := br_n c_31 hf
  by_cases c_32 : q = 32
  · have hf := br_y c_32 hf
    refine lv_tableIn (off := 2374) (tgt := 2414) hc.x hc.b dL_law__40 (by rw [c_32]; decide) (by rw [c_32]; decide) (by rw [c_32]; decide) (by decide) ?_
    exact lc_32 hc hck hst hX hbl hbA hi ea hlt hfr hL1 hL2 hL3 hcc hss kk hf hd hl
  have hf := br_n c_32 hf
  by_cases c_33 : q = 33
  · have hf := br_y c_33 hf
    refine lv_tableIn (off := 2466) (tgt := 2506) hc.x hc.b dL_law__40 (by rw [c_33]; decide) (by rw [c_33]; decide) (by rw [c_33]; decide) (by decide) ?_
    exact lc_33 hc hck hst hX hbl hbA hi ea hlt hfr hL1 hL2 hL3 hcc hss kk hf hd hl
  have hf := br_n c_33 hf
  by_cases c_34 : q = 34
  · have hf := br_y c_34 hf
    refine lv_tableIn (off := 2558) (tgt := 2598) hc.x hc.b dL_law__40 (by rw [c_34]; decide) (by rw [c_34]; decide) (by rw [c_34]; decide) (by decide) ?_
    exact lc_34 hc hck hst hX hbl hbA hi ea hlt hfr hL1 hL2 hL3 hcc hss kk hf hd hl
  have hf := br_n c_34 hf
  by_cases c_35 : q = 35
  · have hf := br_y c_35 hf
    refine lv_tableIn (off := 2614) (tgt := 2654) hc.x hc.b dL_law__40 (by rw [c_35]; decide) (by rw [c_35]; decide) (by rw [c_35]; decide) (by decide) ?_
    exact lc_35 hc hck hst hX hbl hbA hi ea hlt hfr hL1 hL2 hL3 hcc hss kk hf hd hl
  have hf := br_n c_35 hf
  by_cases c_36 : q = 36
  · have hf := br_y c_36 hf
    refine lv_tableIn (off := 2674) (tgt := 2714) hc.x hc.b dL_law__40 (by rw [c_36]; decide) (by rw [c_36]; decide) (by rw [c_36]; decide) (by decide) ?_
    exact lc_36 hc hck hst hX hbl hbA hi ea hlt hfr hL1 hL2 hL3 hcc hss kk hf hd hl
  have hf := br_n c_36 hf
  by_cases c_37 : q = 37
  · have hf := br_y c_37 hf
    refine lv_tableIn (off := 2785) (tgt := 2825) hc.x hc.b dL_law__40 (by rw [c_37]; decide) (by rw [c_37]; decide) (by rw [c_37]; decide) (by decide) ?_
    exact lc_37 hc hck hst hX hbl hbA hi ea hlt hfr hL1 hL2 hL3 hcc hss kk hf hd hl
  have hf := br_n c_37 hf
  by_cases c_38 : q = 38
  · have hf := br_y c_38 hf
    refine lv_tableIn (off := 2821) (tgt := 2861) hc.x hc.b dL_law__40 (by rw [c_38]; decide) (by rw [c_38]; decide) (by rw [c_38]; decide) (by decide) ?_
    exact lc_38 hc hck hst hX hbl hbA hi ea hlt hfr hL1 hL2 hL3 hcc hss kk hf hd hl
  have hf := br_n c_38 hf
  by_cases c_39 : q = 39
  · have hf := br_y c_39 hf
    refine lv_tableIn (off := 2857) (tgt := 2897) hc.x hc.b dL_law__40 (by rw [c_39]; decide) (by rw [c_39]; decide) (by rw [c_39]; decide) (by decide) ?_
    exact lc_39 hc hck hst hX hbl hbA hi ea hlt hfr hL1 hL2 hL3 hcc hss kk hf hd hl
  have hf := br_n c_39 hf
  refine lv_tableOut (tgt := 2923) hc.x hc.b dL_law__40 (sw_out (fun z h1 h2 => by
    rcases (show z = 0 ∨ z = 1 ∨ z = 2 ∨ z = 3 ∨ z = 4 ∨ z = 5 ∨ z = 6 ∨ z = 7 ∨ z = 8 ∨ z = 9 ∨ z = 10 ∨ z = 11 ∨ z = 12 ∨ z = 13 ∨ z = 14 ∨ z = 15 ∨ z = 16 ∨ z = 17 ∨ z = 18 ∨ z = 19 ∨ z = 20 ∨ z = 21 ∨ z = 22 ∨ z = 23 ∨ z = 24 ∨ z = 25 ∨ z = 26 ∨ z = 27 ∨ z = 28 ∨ z = 29 ∨ z = 30 ∨ z = 31 ∨ z = 32 ∨ z = 33 ∨ z = 34 ∨ z = 35 ∨ z = 36 ∨ z = 37 ∨ z = 38 ∨ z = 39 by omega) with rfl | rfl | rfl | rfl | rfl | rfl | rfl | rfl | rfl | rfl | rfl | rfl | rfl | rfl | rfl | rfl | rfl | rfl | rfl | rfl | rfl | rfl | rfl | rfl | rfl | rfl | rfl | rfl | rfl | rfl | rfl | rfl | rfl | rfl | rfl | rfl | rfl | rfl | rfl | rfl
    · exact c_0
    · exact c_1
    · exact c_2
    · exact c_3
    · exact c_4
    · exact c_5
    · exact c_6
    · exact c_7
    · exact c_8
    · exact c_9
    · exact c_10
    · exact c_11
    · exact c_12
    · exact c_13
    · exact c_14
    · exact c_15
    · exact c_16
    · exact c_17
    · exact c_18
    · exact c_19
    · exact c_20
    · exact c_21
    · exact c_22
    · exact c_23
    · exact c_24
    · exact c_25
    · exact c_26
    · exact c_27
    · exact c_28
    · exact c_29
    · exact c_30
    · exact c_31
    · exact c_32
    · exact c_33
    · exact c_34
    · exact c_35
    · exact c_36
    · exact c_37
    · exact c_38
    · exact c_39)) (by decide) ?_
  cases hf
  refine W.widen (k := cells + 40) (n := slots + 2000) (by omega) (by omega) ?_
  exact kk _ _ _ _ _ (Ex.mono (F' := []) (Ex.start hlt) (fun _ h => absurd h List.not_mem_nil)) hc hd hl
end
-- NUMBERS OF THE LOOP
theorem i32_toInt {n : Nat} (h : n < 2147483648) : (Int32.ofNat n).toInt = n := Int32.toInt_ofNat_of_lt (by omega)
theorem i32_nn {n : Nat} (h : n < 2147483648) : nn (Int32.ofNat n) = n := by
  show (Int32.ofNat n).toInt.toNat = n
  rw [i32_toInt h]; rfl
theorem i32_add {a b : Nat} : Int32.ofNat a + Int32.ofNat b = Int32.ofNat (a + b) := (Int32.ofNat_add a b).symm
theorem inb_of {n L : Nat} (h : n < L) (hL : L ≤ 3072) : inb (Int32.ofNat n) L = true := by
  have h0 : ¬ Int32.ofNat n < 0 := by
    rw [Int32.lt_iff_toInt_lt, i32_toInt (by omega)]
    show ¬ (n : Int) < 0
    omega
  have h1 : ¬ L ≤ (Int32.ofNat n).toNatClampNeg := by
    rw [show (Int32.ofNat n).toNatClampNeg = n from i32_nn (by omega)]
    omega
  unfold inb
  rw [decide_eq_false h0, decide_eq_false h1]; rfl
theorem exit_iff {L i : Nat} (hL : L ≤ 3072) (hi : i ≤ 3078) : (Int32.ofNat L - 6 < Int32.ofNat i) ↔ L < i + 6 := by
  rw [Int32.lt_iff_toInt_lt, i32_toInt (show i < 2147483648 by omega)]
  have e : (Int32.ofNat L - 6).toInt = (L : Int) - 6 := by
    rw [Int32.toInt_sub, i32_toInt (show L < 2147483648 by omega)]
    show ((L : Int) - 6).bmod (2 ^ 32) = _
    rw [Int.bmod_def]
    omega
  rw [e]; omega
-- FRESH NUMBERS
def FKl : List Nat := [132, 32, 33, 34, 135, 35, 102, 2, 3, 4, 5, 6, 7, 8, 109, 9, 10, 11, 12, 13, 114, 14, 15, 16, 117, 17, 18, 19, 20, 21, 122, 22, 23, 24, 25, 26, 27]
def bnd (n k : Nat) : Nat := if k = 14 ∨ k = 15 ∨ k = 16 ∨ k = 114 ∨ k = 24 then 2 * n else if k = 26 then n + 1 else n
theorem bnd_mono {n g k : Nat} (h : n ≤ g) : bnd n k ≤ bnd g k := by
  unfold bnd
  split
  · omega
  · split <;> omega
theorem FL_bnd (n : Nat) : ∀ x ∈ FL n, x.1 ∈ FKl ∧ bnd n x.1 ≤ x.2 ∧ x.2 < bnd (n + 1) x.1 := by
  simp only [FL, F_X11_rules, F_X11_law, F_X11_image, F_X7_init, F_X5_init, F_X2_init, F_X3_init, F_X0_init_256, F_X0_init_60, F_X1_init, F_X8_init, mF, List.cons_append, List.nil_append, List.append_assoc, List.forall_mem_cons, List.forall_mem_append, List.forall_mem_map]
  simp [FKl, bnd]
  exact ⟨fun j hj => by omega, by omega⟩
theorem FL_disj {n g : Nat} (h : n < g) : ∀ x ∈ FL g, x ∉ FL n := fun x hx hn => by
  have h1 := FL_bnd g x hx
  have h2 := FL_bnd n x hn
  have h3 : bnd (n + 1) x.1 ≤ bnd g x.1 := bnd_mono h
  omega
/-- the law, over the state: n calls from the t-th on -/
def lawf (xs : Nat → Int32) : Nat → Nat → St → Option St
  | 0, _, S => some S
  | n + 1, t, S => on (stepf (t + 1) (xs (6 * t)) (xs (6 * t + 1)) (xs (6 * t + 2)) (xs (6 * t + 3)) (xs (6 * t + 4)) (xs (6 * t + 5)) S) (fun S => lawf xs n (t + 1) S)
section LOOP
variable {p : Program} {l : Launch} {e : Env} {s : State} {m : MethodId} {below : List Frame} {meth : Method} {c : Code} {D : va_G} {cs : Nat → ClassId} {B0 : Nat} {kt : (Nat → Nat) × (Nat → Nat)}
set_option maxRecDepth 100000 in
set_option maxHeartbeats 8000000 in
theorem law_loop (hr : meth.sig.returnType = ret) (hck : CK cs s) (hst : l.stackTraces = false) {b L : Nat} {xs : Nat → Int32} (hX : va_X b L xs s s.heap) (hbl : b < s.heap.size) (hB : B0 = s.heap.size) (hL : L ≤ 3072) :
    ∀ (n t : Nat) (α : Nat → Nat → Nat) (Lv : Nat → Nat → Prop) (S S' : St) (H : Heap) (locs : List Loc) (ls : Array Slot) (cells slots : Nat), 6 * (t + n) ≤ L → L < 6 * (t + n) + 6 → Cx p s m #[Value.ref b] meth c cL_law_ 8 "PumpCrossingLaw" D cs B0 kt Lv → (∀ k g, Lv k g → k < 1000) → (∀ g, t < g → ∀ x ∈ FL g, ¬ Lv x.1 x.2) → Lv 0 0 → Lv 60 0 → Lv 81 0 → Dy s D cs B0 α Lv S H locs →
      lv_has ls 8 [(0, .ref b), (1, .ref (α 0 0)), (2, .ref (α 60 0)), (3, .ref (α 81 0)), (4, .int (Int32.ofNat (6 * t)))] → cells + 40 * n + 60 ≤ 601024 → slots + 2000 * n + 3000 ≤ 7293034 → lawf xs n t S = some S' → W p l e room_1 s m #[Value.ref b] below meth c H locs cells slots (lw_Z below #[Value.ref b] s) (F0 m 23 ls []) := by
  have hbA : ¬ B0 ≤ b := by omega
  intro n
  induction n with
  | zero =>
    intro t α Lv S S' H locs ls cells slots h1 h2 hc hlt hfr hL1 hL2 hL3 hd hl hcc hss hf
    refine lv_iload hc.x hc.b dL_law__23 (lv_at hl 4 rfl) ?_
    refine lv_aload_n hc.x hc.b dL_law__25 rfl (lv_at hl 0 rfl) ?_
    refine r_slen hc hX hbl hbA hd dL_law__26 ?_
    refine lv_bipush (v := 6) hc.x hc.b dL_law__27 (by decide) ?_
    refine lv_isub hc.x hc.b dL_law__29 ?_
    refine lv_icmp_gt (tgt := 2929) hc.x hc.b dL_law__30 (by decide) (fun c0 => ?_) (fun c0 => ?_)
    · refine lv_iconst (v := 1) hc.x hc.b dL_law__2929 (by decide) ?_
      refine W.widen (k := 601024) (n := 7293034) (by omega) (by omega) ?_
      refine va_forget (fun q hq => by rw [← hB]; exact hd.1.2.2 q hq) ?_
      exact lw_ret hc.x hc.b hr hc.lk dL_law__2930
    · exact absurd ((exit_iff hL (by omega)).mpr (by omega)) c0
  | succ n ih =>
    intro t α Lv S S' H locs ls cells slots h1 h2 hc hlt hfr hL1 hL2 hL3 hd hl hcc hss hf
    rw [lawf] at hf
    obtain ⟨S1, hs, hf⟩ := on_s hf
    refine lv_iload hc.x hc.b dL_law__23 (lv_at hl 4 rfl) ?_
    refine lv_aload_n hc.x hc.b dL_law__25 rfl (lv_at hl 0 rfl) ?_
    refine r_slen hc hX hbl hbA hd dL_law__26 ?_
    refine lv_bipush (v := 6) hc.x hc.b dL_law__27 (by decide) ?_
    refine lv_isub hc.x hc.b dL_law__29 ?_
    refine lv_icmp_gt (tgt := 2929) hc.x hc.b dL_law__30 (by decide) (fun c0 => ?_) (fun c0 => ?_)
    · exact absurd ((exit_iff hL (by omega)).mp c0) (by omega)
    · refine lv_aload_n hc.x hc.b dL_law__33 rfl (lv_at hl 0 rfl) ?_
      refine lv_iload hc.x hc.b dL_law__34 (lv_at hl 4 rfl) ?_
      refine r_sld hc hX hbl hbA hd (inb_of (by omega) hL) (by rw [i32_nn (by omega)]) dL_law__36 ?_
      refine lv_bipush (v := 63) hc.x hc.b dL_law__37 (by decide) ?_
      refine lv_iand hc.x hc.b dL_law__39 ?_
      refine lv_topi (fun q eq => ?_)
      have hs := bv_n eq hs
      have ad : ∀ j : Nat, j < 6 → Int32.ofNat (6 * t) + Int32.ofNat j = Int32.ofNat (6 * t + j) := fun j _ => i32_add
      have hin : ∀ j : Nat, j < 6 → inb (Int32.ofNat (6 * t) + Int32.ofNat j) L = true := fun j hj => by rw [ad j hj]; exact inb_of (by omega) hL
      have hxs : ∀ j : Nat, j < 6 → xs (nn (Int32.ofNat (6 * t) + Int32.ofNat j)) = xs (6 * t + j) := fun j hj => by rw [ad j hj, i32_nn (by omega)]
      refine law_sw (gN := t + 1) hc hck hst hX hbl hbA ⟨hin 1 (by decide), hin 2 (by decide), hin 3 (by decide), hin 4 (by decide), hin 5 (by decide)⟩ ⟨hxs 1 (by decide), hxs 2 (by decide), hxs 3 (by decide), hxs 4 (by decide), hxs 5 (by decide)⟩ hlt (hfr (t + 1) (by omega)) hL1 hL2 hL3 (by omega) (by omega) (fun α1 Lv1 H1 locs1 ls1 hx hc1 hd1 hl1 => ?_) hs hd hl
      have ho : ∀ k g, Lv k g → Lv1 k g := fun k g h => hx.2.1 k g h (fun e => by
        have := hlt k g h
        injection e with e1 e2
        omega)
      obtain ⟨z, ez⟩ : ∃ z : Int32, z = Int32.ofNat (6 * t) + 6 := ⟨_, rfl⟩
      have ez2 : z = Int32.ofNat (6 * (t + 1)) := ez.trans (i32_add (a := 6 * t) (b := 6))
      refine lv_iinc (v := z) (lv' := [(4, .int z), (0, .ref b), (1, .ref (α1 0 0)), (2, .ref (α1 60 0)), (3, .ref (α1 81 0))]) hc1.x hc1.b dL_law__2923 hl1 (k := 4) rfl (by rw [ez]; rfl) (by decide) rfl (fun ls2 hl2 => ?_)
      refine lv_goto (tgt := 23) hc1.x hc1.b dL_law__2926 (by decide) ?_
      rw [ez2] at hl2
      exact ih (t + 1) α1 Lv1 S1 S' H1 locs1 ls2 (cells + 40) (slots + 2000) (by omega) (by omega) hc1 hx.2.2.2.1 (fun g hg x hxg h => by
        rcases hx.2.2.1 x.1 x.2 h with h9 | h9
        · exact hfr g (by omega) x hxg h9
        · exact FL_disj hg x hxg h9) (ho _ _ hL1) (ho _ _ hL2) (ho _ _ hL3) hd1 (lv_sub hl2 [1, 2, 3, 4, 0] rfl) (by omega) (by omega) hf
end LOOP
