-- THE START: what the Statement gives
def strW (q : String × Nat × String) (bs : List Int32) : List Cond := [Cond.exactly (Term.string q.1 q.2.1) "java/lang/String", Cond.eq (.field (Term.string q.1 q.2.1) "java/lang/String" "coder" "B") (.int 0), Cond.arrayOf (.field (Term.string q.1 q.2.1) "java/lang/String" "value" "[B") .byte, Cond.eq (.length (.field (Term.string q.1 q.2.1) "java/lang/String" "value" "[B")) (.int (Int32.ofNat bs.length))] ++ (List.range bs.length).map (fun j => Cond.eq (.elem (.field (Term.string q.1 q.2.1) "java/lang/String" "value" "[B") (.int (Int32.ofNat j))) (.int (bs.getD j 0)))
theorem strW_all : (List.range 41).flatMap (fun i => strW (strT.getD i ("", 0, "")) (sby i)) = (flatC (Jvm.Cond.and given_1 narrow_1)).drop 111 := by decide +kernel
theorem strR_in : ∀ q ∈ strT, Cond.stringRef q.1 q.2.1 q.2.2 ∈ tables_1 := by decide +kernel
theorem strT_len : strT.length = 41 := by decide +kernel
theorem strL_lt : ∀ i, i < 41 → (sby i).length < 2 ^ 31 := by decide +kernel
theorem str_of {args : Array Value} {s : State} {A : Nat → Prop} {q : String × Nat × String} {bs : List Int32} (hlen : bs.length < 2 ^ 31) (h : ∀ w ∈ strW q bs, w.before args s = true) (hR : (Cond.stringRef q.1 q.2.1 q.2.2).before args s = true) (hA : ∀ a : Nat, a < s.heap.size → ¬ A a) : ∃ x : Nat × Nat, vk_R q.1 q.2.1 q.2.2 x.1 s ∧ vS A bs x.1 x.2 s s.heap := by
  have h1 := h _ (List.mem_cons_self)
  have h2 := h _ (List.mem_cons_of_mem _ (List.mem_cons_self))
  have h3 := h _ (List.mem_cons_of_mem _ (List.mem_cons_of_mem _ (List.mem_cons_self)))
  have h4 := h _ (List.mem_cons_of_mem _ (List.mem_cons_of_mem _ (List.mem_cons_of_mem _ (List.mem_cons_self))))
  have h5 : ∀ j : Nat, j < bs.length → (Cond.eq (.elem (.field (Term.string q.1 q.2.1) "java/lang/String" "value" "[B") (.int (Int32.ofNat j))) (.int (bs.getD j 0))).before args s = true := fun j hj => h _ (List.mem_append_right _ (List.mem_map.mpr ⟨j, List.mem_range.mpr hj, rfl⟩))
  obtain ⟨a, c, cA, kA, q1, q2, q3, q4, q5, q6, -⟩ := Cond.exactly_spec (args := args) (first := s) (o := none) (s := s) (idx := []) (t := Term.string q.1 q.2.1) (cls := "java/lang/String") h1
  obtain ⟨t, ht, hT⟩ := va_Tof (f := fun j => .int (bs.getD j 0)) (A := A) hlen h3 (va_eqt h4) (fun j hj => va_eqt (h5 j hj)) hA
  exact ⟨(a, t), vk_R.of hR q1, ⟨cA, q3, q5, by rw [q6]; exact q2, hA a (Array.getElem?_eq_some_iff.mp q3).1⟩, vk_OFof q1 (va_eqt h2) hA, vk_OFof q1 ht hA, hT⟩
theorem kt_of {args : Array Value} {s : State} {A : Nat → Prop} (hg : ∀ w ∈ flatC (Jvm.Cond.and given_1 narrow_1), w.before args s = true) (hts : ∀ w ∈ lw_tbl, w.before args s = true) (hA : ∀ a : Nat, a < s.heap.size → ¬ A a) : ∃ kt : (Nat → Nat) × (Nat → Nat), ∀ (i : Nat) (q : String × Nat × String), strT[i]? = some q → vk_R q.1 q.2.1 q.2.2 (kt.1 i) s ∧ vS A (sby i) (kt.1 i) (kt.2 i) s s.heap := by
  have h0 : ∀ i : Nat, ∃ x : Nat × Nat, ∀ q, strT[i]? = some q → vk_R q.1 q.2.1 q.2.2 x.1 s ∧ vS A (sby i) x.1 x.2 s s.heap := by
    intro i
    cases hq : strT[i]? with
    | none => exact ⟨(0, 0), fun q h => by cases h⟩
    | some q =>
      have hi : i < 41 := by
        have := (List.getElem?_eq_some_iff.mp hq).1
        rw [strT_len] at this
        exact this
      have hm : q ∈ strT := List.mem_of_getElem? hq
      have hw : ∀ w ∈ strW q (sby i), w.before args s = true := fun w hw => hg w (List.mem_of_mem_drop (by
        rw [← strW_all]
        refine List.mem_flatMap.mpr ⟨i, List.mem_range.mpr hi, ?_⟩
        rw [List.getD_eq_getElem?_getD, hq]
        exact hw))
      obtain ⟨x, hx⟩ := str_of (A := A) (strL_lt i hi) hw (hts _ (List.mem_append_right _ (strR_in q hm))) hA
      exact ⟨x, fun q' h => by cases h; exact hx⟩
  obtain ⟨ad, had⟩ := Classical.axiomOfChoice h0
  exact ⟨(fun i => (ad i).1, fun i => (ad i).2), fun i q hq => had i q hq⟩
theorem ke_of {args : Array Value} {s : State} (hg : ∀ w ∈ flatC (Jvm.Cond.and given_1 narrow_1), w.before args s = true) (hts : ∀ w ∈ lw_tbl, w.before args s = true) : KE s := by
  refine ⟨?_, ?_, ?_⟩
  · intro X hX
    simp only [exL, List.mem_cons, List.not_mem_nil, or_false] at hX
    rcases hX with rfl | rfl | rfl | rfl
    · exact va_Nw.of rfl (hts _ (List.mem_append_right _ (List.mem_of_getElem? (i := 457) (by decide +kernel))))
    · exact va_Nw.of rfl (hts _ (List.mem_append_right _ (List.mem_of_getElem? (i := 533) (by decide +kernel))))
    · exact va_Nw.of rfl (hts _ (List.mem_append_right _ (List.mem_of_getElem? (i := 565) (by decide +kernel))))
    · exact va_Nw.of rfl (hts _ (List.mem_append_right _ (List.mem_of_getElem? (i := 982) (by decide +kernel))))
  · intro X hX
    simp only [List.mem_cons, List.not_mem_nil, or_false] at hX
    rcases hX with rfl | rfl | rfl
    · exact va_Nw.of rfl (hts _ (List.mem_append_right _ (List.mem_of_getElem? (i := 459) (by decide +kernel))))
    · exact va_Nw.of rfl (hts _ (List.mem_append_right _ (List.mem_of_getElem? (i := 461) (by decide +kernel))))
    · exact va_Nw.of rfl (hts _ (List.mem_append_right _ (List.mem_of_getElem? (i := 463) (by decide +kernel))))
  · intro X hX Y hY hne
    simp only [exL, List.mem_cons, List.not_mem_nil, or_false] at hX hY
    rcases hX with rfl | rfl | rfl | rfl <;> rcases hY with rfl | rfl | rfl | rfl <;> first | exact absurd rfl hne | exact va_Nc.of (hg _ (by decide +kernel))
/-- all that the start gives, at once -/
theorem st_of {args : Array Value} {s : State} (hg : ∀ w ∈ flatC (Jvm.Cond.and given_1 narrow_1), w.before args s = true) (hts : ∀ w ∈ lw_tbl, w.before args s = true) : ∃ (D : va_G) (cs : Nat → ClassId) (kt : (Nat → Nat) × (Nat → Nat)), CK cs s ∧ va_K D vwCl (tys cs) s ∧ KC s.heap.size kt s := by
  have hg0 : ∀ w ∈ lw_good, w.before args s = true := fun w hw => hts w (List.mem_filter.mp hw).1
  have hA : ∀ a : Nat, a < s.heap.size → ¬ AB s.heap.size a := fun a h h2 => Nat.not_le.mpr h h2
  obtain ⟨c0, i0, kn0⟩ := u_known (C := RX0) (T := TX0) (N := 4) (n := 4) hg0 inX0 (hg0 _ tw_71)
  obtain ⟨c1, i1, kn1⟩ := u_known (C := RX1) (T := TX1) (N := 4) (n := 4) hg0 inX1 (hg0 _ tw_93)
  obtain ⟨c2, i2, kn2⟩ := u_known (C := RX2) (T := TX2) (N := 18) (n := 18) hg0 inX2 (hg0 _ tw_36)
  obtain ⟨c3, i3, kn3⟩ := u_known (C := RX3) (T := TX3) (N := 5) (n := 5) hg0 inX3 (hg0 _ tw_44)
  obtain ⟨c4, i4, kn4⟩ := u_known (C := RX4) (T := TX4) (N := 7) (n := 7) hg0 inX4 (hg0 _ tw_290)
  obtain ⟨c5, i5, kn5⟩ := u_known (C := RX5) (T := TX5) (N := 5) (n := 5) hg0 inX5 (hg0 _ tw_739)
  obtain ⟨c6, i6, kn6⟩ := u_known (C := RX6) (T := TX6) (N := 6) (n := 6) hg0 inX6 (hg0 _ tw_326)
  obtain ⟨c7, i7, kn7⟩ := u_known (C := RX7) (T := TX7) (N := 2) (n := 2) hg0 inX7 (hg0 _ tw_713)
  obtain ⟨c8, i8, kn8⟩ := u_known (C := RX8) (T := TX8) (N := 4) (n := 4) hg0 inX8 (hg0 _ tw_114)
  obtain ⟨c9, i9, kn9⟩ := u_known (C := RX9) (T := TX9) (N := 11) (n := 11) hg0 inX9 (hg0 _ tw_213)
  obtain ⟨c10, i10, kn10⟩ := u_known (C := RX10) (T := TX10) (N := 5) (n := 5) hg0 inX10 (hg0 _ tw_263)
  obtain ⟨c11, i11, kn11⟩ := u_known (C := RX11) (T := TX11) (N := 8) (n := 8) hg0 inX11 (hg0 _ tw_28)
  obtain ⟨c12, i12, kn12⟩ := u_known (C := RX12) (T := TX12) (N := 40) (n := 40) hg0 inX12 (hg0 _ tw_1304)
  obtain ⟨a0, k0, m0, f0, g0, h0⟩ := Cond.arrayClass_spec (hts (Jvm.Cond.arrayClass Jvm.ClassFile.FieldType.int) (List.mem_append_right _ (List.mem_of_getElem? (i := 68) (by decide +kernel))))
  obtain ⟨a1, k1, m1, f1, g1, h1⟩ := Cond.arrayClass_spec (hts (Jvm.Cond.arrayClass Jvm.ClassFile.FieldType.long) (List.mem_append_right _ (List.mem_of_getElem? (i := 69) (by decide +kernel))))
  obtain ⟨a2, k2, m2, f2, g2, h2⟩ := Cond.arrayClass_spec (hts (Jvm.Cond.arrayClass Jvm.ClassFile.FieldType.byte) (List.mem_append_right _ (List.mem_of_getElem? (i := 261) (by decide +kernel))))
  obtain ⟨a3, k3, m3, f3, g3, h3⟩ := Cond.arrayClass_spec (hts (Jvm.Cond.arrayClass Jvm.ClassFile.FieldType.boolean) (List.mem_append_right _ (List.mem_of_getElem? (i := 1430) (by decide +kernel))))
  have w4 := hts (Jvm.Cond.arrayOver (Jvm.ClassFile.FieldType.object "PumpCrossing$Crossing")) (List.mem_append_right _ (List.mem_of_getElem? (i := 211) (by decide +kernel)))
  have w5 := hts (Jvm.Cond.arrayOver (Jvm.ClassFile.FieldType.object "PumpCrossing$Rules")) (List.mem_append_right _ (List.mem_of_getElem? (i := 42) (by decide +kernel)))
  have w6 := hts (Jvm.Cond.arrayOver (Jvm.ClassFile.FieldType.array Jvm.ClassFile.FieldType.int)) (List.mem_append_right _ (List.mem_of_getElem? (i := 120) (by decide +kernel)))
  have w7 := hts (Jvm.Cond.arrayOver (Jvm.ClassFile.FieldType.array Jvm.ClassFile.FieldType.long)) (List.mem_append_right _ (List.mem_of_getElem? (i := 269) (by decide +kernel)))
  obtain ⟨m4, a4, k4, e4, -, g4, h4, f4⟩ := Cond.arrayOver_spec w4
  obtain ⟨m5, a5, k5, e5, -, g5, h5, f5⟩ := Cond.arrayOver_spec w5
  obtain ⟨m6, a6, k6, e6, g6, h6, f6⟩ := Cond.arrayOver_specA w6
  obtain ⟨m7, a7, k7, e7, g7, h7, f7⟩ := Cond.arrayOver_specA w7
  obtain ⟨kt, hkt⟩ := kt_of (A := AB s.heap.size) hg hts hA
  refine ⟨(fun k => match k with
    | 0 => c0
    | 1 => c1
    | 2 => c2
    | 3 => c3
    | 4 => c4
    | 5 => c5
    | 6 => c6
    | 7 => c7
    | 8 => c8
    | 9 => c9
    | 10 => c10
    | 11 => c11
    | 12 => c12
    | _ => c0, fun k => match k with
    | 0 => i0
    | 1 => i1
    | 2 => i2
    | 3 => i3
    | 4 => i4
    | 5 => i5
    | 6 => i6
    | 7 => i7
    | 8 => i8
    | 9 => i9
    | 10 => i10
    | 11 => i11
    | 12 => i12
    | _ => i0), fun k => match k with
    | 0 => a0
    | 1 => a1
    | 2 => a2
    | 3 => a3
    | 4 => a4
    | 5 => a5
    | 6 => a6
    | _ => a7, kt, ⟨f0, f1, f2, f3, f4, f5, f6, f7⟩, ⟨?_, ?_⟩, ?_⟩
  · intro k q hq
    match k, hq with
    | 0, hq => cases hq; exact kn0
    | 1, hq => cases hq; exact kn1
    | 2, hq => cases hq; exact kn2
    | 3, hq => cases hq; exact kn3
    | 4, hq => cases hq; exact kn4
    | 5, hq => cases hq; exact kn5
    | 6, hq => cases hq; exact kn6
    | 7, hq => cases hq; exact kn7
    | 8, hq => cases hq; exact kn8
    | 9, hq => cases hq; exact kn9
    | 10, hq => cases hq; exact kn10
    | 11, hq => cases hq; exact kn11
    | 12, hq => cases hq; exact kn12
    | n + 13, hq => cases hq
  · intro k q hq
    match k, hq with
    | 0, hq => cases hq; exact ⟨fun n z => ⟨(fun _ h => by cases h), k0, g0, m0, h0⟩, f0⟩
    | 1, hq => cases hq; exact ⟨fun n z => ⟨(fun _ h => by cases h), k1, g1, m1, h1⟩, f1⟩
    | 2, hq => cases hq; exact ⟨fun n z => ⟨(fun _ h => by cases h), k2, g2, m2, h2⟩, f2⟩
    | 3, hq => cases hq; exact ⟨fun n z => ⟨(fun _ h => by cases h), k3, g3, m3, h3⟩, f3⟩
    | 4, hq => cases hq; exact ⟨fun n z => ⟨(fun _ h => by cases h), k4, g4, m4, h4⟩, k4, m4, g4, h4, e4, f4⟩
    | 5, hq => cases hq; exact ⟨fun n z => ⟨(fun _ h => by cases h), k5, g5, m5, h5⟩, k5, m5, g5, h5, e5, f5⟩
    | 6, hq => cases hq; exact ⟨fun n z => ⟨(fun _ h => by cases h), k6, g6, m6, h6⟩, f6⟩
    | 7, hq => cases hq; exact ⟨fun n z => ⟨(fun _ h => by cases h), k7, g7, m7, h7⟩, f7⟩
    | n + 8, hq => cases hq
  · exact ⟨vx_Zqof (hts (Jvm.Cond.laysStatic "java/lang/Throwable" "UNASSIGNED_STACK" "[Ljava/lang/StackTraceElement;") (List.mem_append_right _ (List.mem_of_getElem? (i := 482) (by decide +kernel)))) (hts (Jvm.Cond.initialized "java/lang/Throwable") (List.mem_append_right _ (List.mem_of_getElem? (i := 12) (by decide +kernel)))) (hg _ (by decide +kernel)) hA, vx_Zqof (hts (Jvm.Cond.laysStatic "java/lang/Throwable" "SUPPRESSED_SENTINEL" "Ljava/util/List;") (List.mem_append_right _ (List.mem_of_getElem? (i := 484) (by decide +kernel)))) (hts (Jvm.Cond.initialized "java/lang/Throwable") (List.mem_append_right _ (List.mem_of_getElem? (i := 12) (by decide +kernel)))) (hg _ (by decide +kernel)) hA, va_Zof (hts (Jvm.Cond.laysStatic "java/lang/String" "COMPACT_STRINGS" "Z") (List.mem_append_right _ (List.mem_of_getElem? (i := 640) (by decide +kernel)))) (hts (Jvm.Cond.initialized "java/lang/String") (List.mem_append_right _ (List.mem_of_getElem? (i := 19) (by decide +kernel)))) (va_eqt (hg _ (by decide +kernel))) hA, hkt, Nat.le_refl _, va_Nw.of rfl (hts (Jvm.Cond.methodLinkNest "PumpCrossing$Crossing" (133 : Nat) ({ cls := "PumpCrossing", name := "sinceIn", desc := "(II)I" } : Jvm.MethodName) "PumpCrossing") (List.mem_append_right _ (List.mem_of_getElem? (i := 773) (by decide +kernel)))), va_Nw.of rfl (hts (Jvm.Cond.methodLinkNest "PumpCrossing$Game" (68 : Nat) ({ cls := "PumpCrossing", name := "pair", desc := "(II)I" } : Jvm.MethodName) "PumpCrossing") (List.mem_append_right _ (List.mem_of_getElem? (i := 1037) (by decide +kernel)))), va_AO.of w5, va_AO.of w4, va_AOA.of w6, va_AOA.of w7, ke_of hg hts, va_Zqof (hts (Jvm.Cond.laysStatic "jdk/internal/util/Preconditions" "SIOOBE_FORMATTER" "Ljava/util/function/BiFunction;") (List.mem_append_right _ (List.mem_of_getElem? (i := 656) (by decide +kernel)))) (hts (Jvm.Cond.initialized "jdk/internal/util/Preconditions") (List.mem_append_right _ (List.mem_of_getElem? (i := 21) (by decide +kernel)))) (hg _ (by decide +kernel)) hA⟩
theorem init_bnd : ∀ x ∈ (81, 0) :: (F_X12_init 0 ++ ((160, 0) :: (F_X11_init 0 ++ [(100, 0)]))), x.1 ∉ FKl ∨ x.2 < bnd 1 x.1 := by decide +kernel
def S00 : St := (fun _ _ _ => 0, fun _ _ _ => 0, fun _ _ _ => none, fun _ _ => 0, fun _ => 0)
def initf : Option St := bv (zr S00 100 0 0) (fun S => on (f_X11_init 0 S) (fun S => bv (zr S 160 0 0) (fun S => on (f_X12_init 0 S) (fun S => bv (zr S 81 0 1) (fun S => some S)))))
theorem cl_none : Cl (fun _ _ => False) := by
  unfold Cl
  simp
set_option maxRecDepth 100000 in
set_option maxHeartbeats 8000000 in
theorem whole_start {p : Program} {e : Env} {s : State} {m : MethodId} {below : List Frame} {meth : Method} {c : Code} (l : Launch) (hst : l.stackTraces = false) {b L : Nat} {xs : Nat → Int32} (hL : L ≤ 3072) (C0 : lw_At p s m meth c b L xs) {S0 S' : St} (hi : initf = some S0) (hf : lawf xs (L / 6) 0 S0 = some S') : W p l e room_1 s m #[Value.ref b] below meth c s.heap [] 0 0 (lw_Z below #[Value.ref b] s) (entryFrame m ([Value.ref b] : List Value).toArray 8) := by
  obtain ⟨hx, hb, hr, hml, hown, hts, hX, hbl, hlocks, hgv⟩ := id C0
  obtain ⟨D, cs, kt, hck, hK, hkc⟩ := st_of (flat_of_before _ hgv) hts
  obtain ⟨B0, hB⟩ : ∃ B0, B0 = s.heap.size := ⟨_, rfl⟩
  have hc : Cx p s m #[Value.ref b] meth c cL_law_ 8 "PumpCrossingLaw" D cs s.heap.size kt (fun _ _ => False) := ⟨hx, hb, hml, hown, fun w hw => hts w (List.mem_filter.mp hw).1, hK, cl_none, hlocks, hkc⟩
  have hd : Dy s D cs s.heap.size (fun _ _ => 0) (fun _ _ => False) S00 s.heap [] := ⟨va_S.rf, fun k g h => h.elim, fun k g k' g' h => h.elim, fun k g h => h.elim, fun g j r h => h.elim, fun g j r h => h.elim, fun g j r h => h.elim⟩
  have hx : Ex (fun _ _ => 0) (fun _ _ => False) (1000, 0) (fun _ _ => 0) (fun _ _ => False) [] := Ex.start (fun k g h => h.elim)
  have hm : Mk (fun _ _ => 0) [0, 2, 9, 14, 17, 22, 28, 36, 44, 49, 60] (fun _ _ => 0) := Mk.start
  have hl := lv_entry ([.ref b]) (n := 8) (Nat.le_of_ble_eq_true rfl)
  rw [lg_entry_eq]
  generalize (lg_sl ([.ref b]) ++ List.replicate (8 - (lg_sl ([.ref b])).length) Slot.unset).toArray = ls at hl ⊢
  have hl : lv_has ls 8 [(0, .ref b)] := hl
  unfold initf at hi
  refine q_newO (K := 100) (k := 0) (G := 0) (fs := [.null, .null, .null, .null, .null, .null, .long 0, .long 0]) hc hd hx hm (by decide) rfl (by decide) id List.not_mem_nil inX11 tyX11 tyX11_ok tw_27 tw_28 tw_1 rfl (fun β h => by
    show (.inr (11, [r0 (β 1000 0), r0 (β 1001 0), r0 (β 1002 0), r0 (β 1003 0), r0 (β 1004 0), r0 (β 1005 0), .long 0, .long 0]) : va_E) = .inr (11, [.null, .null, .null, .null, .null, .null, .long 0, .long 0])
    rw [(h 0 (by decide) : β 1000 0 = 0), (h 1 (by decide) : β 1001 0 = 0), (h 2 (by decide) : β 1002 0 = 0), (h 3 (by decide) : β 1003 0 = 0), (h 4 (by decide) : β 1004 0 = 0), (h 5 (by decide) : β 1005 0 = 0)]; rfl) (fun j hj => by
    match j, hj with
    | 0, _ => rfl
    | 1, _ => rfl
    | 2, _ => rfl
    | 3, _ => rfl
    | 4, _ => rfl
    | 5, _ => rfl
    | 6, _ => rfl
    | 7, _ => rfl
    | n + 8, h => exact absurd h (by omega)) ⟨Nat.le_of_ble_eq_true rfl, Nat.le_of_ble_eq_true rfl⟩ dL_law__0 (fun α Lv H ho ha hv hN hc hd hx hm => ?_)
  obtain ⟨S_1, hd, hi⟩ := nmD hd hi
  have hl : lv_has ls 8 [(0, .ref b)] := hl
  refine lv_dup hc.x hc.b dL_law__3 rfl ?_
  obtain ⟨S_2, hq, hi⟩ := on_s hi
  refine q_c hc (k_runI hc hck hd my_X11_init tw_29 (c_X11_init l D cs s.heap.size kt α Lv _ 0 hc.cl hx.2.2.2.1 hN (fun x h => hx.nl (K := x.1) (G := x.2) id ((by simp only [F_X0_init_256, F_X0_init_60, F_X10_init, F_X11_init, F_X1_init, F_X2_init, F_X3_init, F_X4_init, F_X6_init, F_X8_init, F_X9_init, mF, List.cons_append, List.nil_append, List.forall_mem_cons, List.forall_mem_append, List.forall_mem_map]; simp [F_X0_init_256, F_X0_init_60, F_X10_init, F_X11_init, F_X1_init, F_X2_init, F_X3_init, F_X4_init, F_X6_init, F_X8_init, F_X9_init, mF] <;> omega : ∀ x ∈ F_X11_init 0, x ∉ _) x h)) hq) rfl rfl hl.1 (Nat.le_of_ble_eq_true rfl) ⟨Nat.le_of_ble_eq_true rfl, Nat.le_of_ble_eq_true rfl, Nat.le_of_ble_eq_true rfl, Nat.le_of_ble_eq_true rfl⟩ dL_law__4) rfl hd hx hm (by decide) id (fun k9 g9 h9 h8 => h8.elim) (fun α Lv H locs ho ha hv hN hc hd hx hm => ?_)
  refine lv_astore_n (lv' := [(1, .ref (α 0 0)), (0, .ref b)]) hc.x hc.b dL_law__7 rfl hl (by decide) rfl (fun ls hl => ?_)
  have hL1 := hN
  refine q_newO (K := 160) (k := 60) (G := 0) (fs := [.null, .null, .null, .null, .null, .int 0, .null, .null, .null, .int 0, .int 0, .int 0, .int 0, .int 0, .int 0, .int 0, .int 0, .int 0, .int 0, .int 0, .int 0, .int 0, .null, .int 0, .null, .null, .long 0, .long 0, .null, .null, .null, .null, .null, .int 0, .int 0, .int 0, .null, .null, .null, .null]) hc hd hx hm (by decide) rfl (by decide) id (by simp [F_X0_init_256, F_X0_init_60, F_X10_init, F_X11_init, F_X1_init, F_X2_init, F_X3_init, F_X4_init, F_X6_init, F_X8_init, F_X9_init, mF]) inX12 tyX12 tyX12_ok tw_1303 tw_1304 tw_11 rfl (fun β h => by
    show (.inr (12, [r0 (β 7000 0), r0 (β 7001 0), r0 (β 7002 0), r0 (β 7003 0), r0 (β 7004 0), .int 0, r0 (β 7006 0), r0 (β 7007 0), r0 (β 7008 0), .int 0, .int 0, .int 0, .int 0, .int 0, .int 0, .int 0, .int 0, .int 0, .int 0, .int 0, .int 0, .int 0, r0 (β 7022 0), .int 0, r0 (β 7024 0), r0 (β 7025 0), .long 0, .long 0, r0 (β 7028 0), r0 (β 7029 0), r0 (β 7030 0), r0 (β 7031 0), r0 (β 7032 0), .int 0, .int 0, .int 0, r0 (β 7036 0), r0 (β 7037 0), r0 (β 7038 0), r0 (β 7039 0)]) : va_E) = .inr (12, [.null, .null, .null, .null, .null, .int 0, .null, .null, .null, .int 0, .int 0, .int 0, .int 0, .int 0, .int 0, .int 0, .int 0, .int 0, .int 0, .int 0, .int 0, .int 0, .null, .int 0, .null, .null, .long 0, .long 0, .null, .null, .null, .null, .null, .int 0, .int 0, .int 0, .null, .null, .null, .null])
    rw [(h 0 (by decide) : β 7000 0 = 0), (h 1 (by decide) : β 7001 0 = 0), (h 2 (by decide) : β 7002 0 = 0), (h 3 (by decide) : β 7003 0 = 0), (h 4 (by decide) : β 7004 0 = 0), (h 6 (by decide) : β 7006 0 = 0), (h 7 (by decide) : β 7007 0 = 0), (h 8 (by decide) : β 7008 0 = 0), (h 22 (by decide) : β 7022 0 = 0), (h 24 (by decide) : β 7024 0 = 0), (h 25 (by decide) : β 7025 0 = 0), (h 28 (by decide) : β 7028 0 = 0), (h 29 (by decide) : β 7029 0 = 0), (h 30 (by decide) : β 7030 0 = 0), (h 31 (by decide) : β 7031 0 = 0), (h 32 (by decide) : β 7032 0 = 0), (h 36 (by decide) : β 7036 0 = 0), (h 37 (by decide) : β 7037 0 = 0), (h 38 (by decide) : β 7038 0 = 0), (h 39 (by decide) : β 7039 0 = 0)]; rfl) (fun j hj => by
    match j, hj with
    | 0, _ => rfl
    | 1, _ => rfl
    | 2, _ => rfl
    | 3, _ => rfl
    | 4, _ => rfl
    | 5, _ => rfl
    | 6, _ => rfl
    | 7, _ => rfl
    | 8, _ => rfl
    | 9, _ => rfl
    | 10, _ => rfl
    | 11, _ => rfl
    | 12, _ => rfl
    | 13, _ => rfl
    | 14, _ => rfl
    | 15, _ => rfl
    | 16, _ => rfl
    | 17, _ => rfl
    | 18, _ => rfl
    | 19, _ => rfl
    | 20, _ => rfl
    | 21, _ => rfl
    | 22, _ => rfl
    | 23, _ => rfl
    | 24, _ => rfl
    | 25, _ => rfl
    | 26, _ => rfl
    | 27, _ => rfl
    | 28, _ => rfl
    | 29, _ => rfl
    | 30, _ => rfl
    | 31, _ => rfl
    | 32, _ => rfl
    | 33, _ => rfl
    | 34, _ => rfl
    | 35, _ => rfl
    | 36, _ => rfl
    | 37, _ => rfl
    | 38, _ => rfl
    | 39, _ => rfl
    | n + 40, h => exact absurd h (by omega)) ⟨Nat.le_of_ble_eq_true rfl, Nat.le_of_ble_eq_true rfl⟩ dL_law__8 (fun α Lv H ho ha hv hN hc hd hx hm => ?_)
  obtain ⟨S_3, hd, hi⟩ := nmD hd hi
  have hl : lv_has ls 8 [(1, .ref (α 0 0)), (0, .ref b)] := by rw [ha _ _ hL1]; exact hl
  have hL1 := ho _ _ hL1
  refine lv_dup hc.x hc.b dL_law__11 rfl ?_
  obtain ⟨S_4, hq, hi⟩ := on_s hi
  refine q_c hc (k_runI hc hck hd my_X12_init tw_1305 (c_X12_init l D cs s.heap.size kt α Lv _ 0 hc.cl hx.2.2.2.1 hN (fun x h => hx.nl (K := x.1) (G := x.2) id ((by simp only [F_X0_init_256, F_X0_init_60, F_X10_init, F_X11_init, F_X12_init, F_X1_init, F_X2_init, F_X3_init, F_X4_init, F_X6_init, F_X8_init, F_X9_init, mF, List.cons_append, List.nil_append, List.forall_mem_cons, List.forall_mem_append, List.forall_mem_map]; simp [F_X0_init_256, F_X0_init_60, F_X10_init, F_X11_init, F_X12_init, F_X1_init, F_X2_init, F_X3_init, F_X4_init, F_X6_init, F_X8_init, F_X9_init, mF] <;> omega : ∀ x ∈ F_X12_init 0, x ∉ _) x h)) hq) rfl rfl hl.1 (Nat.le_of_ble_eq_true rfl) ⟨Nat.le_of_ble_eq_true rfl, Nat.le_of_ble_eq_true rfl, Nat.le_of_ble_eq_true rfl, Nat.le_of_ble_eq_true rfl⟩ dL_law__12) rfl hd hx hm (by decide) id (fun k9 g9 h9 h8 => h8.elim) (fun α Lv H locs ho ha hv hN hc hd hx hm => ?_)
  have hl : lv_has ls 8 [(1, .ref (α 0 0)), (0, .ref b)] := by rw [ha _ _ hL1]; exact hl
  have hL1 := ho _ _ hL1 (by decide)
  have hL2 := hN
  refine lv_astore_n (lv' := [(2, .ref (α 60 0)), (1, .ref (α 0 0)), (0, .ref b)]) hc.x hc.b dL_law__15 rfl hl (by decide) rfl (fun ls hl => ?_)
  refine lv_iconst (v := 1) hc.x hc.b dL_law__16 (by decide) ?_
  refine q_newP (aty := .long) (K := 81) (G := 0) (N := 1) hc hd hx hm hck.2.1 tw_69 (fun _ => rfl) rfl (by decide) (by decide) id (by simp [F_X0_init_256, F_X0_init_60, F_X10_init, F_X11_init, F_X12_init, F_X1_init, F_X2_init, F_X3_init, F_X4_init, F_X6_init, F_X8_init, F_X9_init, mF]) (by decide) (by decide) (by decide) ⟨Nat.le_of_ble_eq_true rfl, Nat.le_of_ble_eq_true rfl⟩ dL_law__17 (fun α Lv H ho ha hv hN hc hd hx hm => ?_)
  obtain ⟨S_5, hd, hi⟩ := nmD hd hi
  cases hi
  have hl : lv_has ls 8 [(2, .ref (α 60 0)), (1, .ref (α 0 0)), (0, .ref b)] := by rw [ha _ _ hL1, ha _ _ hL2]; exact hl
  have hL1 := ho _ _ hL1
  have hL2 := ho _ _ hL2
  refine lv_astore_n (lv' := [(3, .ref (α 81 0)), (2, .ref (α 60 0)), (1, .ref (α 0 0)), (0, .ref b)]) hc.x hc.b dL_law__19 rfl hl (by decide) rfl (fun ls hl => ?_)
  refine lv_iconst (v := 0) hc.x hc.b dL_law__20 (by decide) ?_
  refine lv_istore (lv' := [(4, .int 0), (3, .ref (α 81 0)), (2, .ref (α 60 0)), (1, .ref (α 0 0)), (0, .ref b)]) hc.x hc.b dL_law__21 hl (by decide) rfl (fun ls hl => ?_)
  exact law_loop hr hck hst hX hbl rfl hL (L / 6) 0 α Lv _ S' H _ ls _ _ (by omega) (by omega) hc hx.2.2.2.1 (fun g hg x hxg h => by
    rcases hx.2.2.1 x.1 x.2 h with h9 | h9
    · exact h9
    · have h1 := FL_bnd g x hxg
      have h3 : bnd 1 x.1 ≤ bnd g x.1 := bnd_mono hg
      rcases init_bnd x h9 with h4 | h4
      · exact h4 h1.1
      · omega) hL1 hL2 hN hd (lv_sub hl [4, 3, 2, 1, 0] rfl) (by show _ + 40 * (L / 6) + 60 ≤ 601024; omega) (by show _ + 2000 * (L / 6) + 3000 ≤ 7293034; omega) hf
