section
variable {p : Program} {l : Launch} {e : Env} {s : State} {m : MethodId} {args : Array Value} {below : List Frame} {meth : Method} {c : Code} {D : va_G} {cs : Nat → ClassId} {B0 : Nat} {kt : (Nat → Nat) × (Nat → Nat)} {α : Nat → Nat → Nat} {Lv : Nat → Nat → Prop}
def f_L_above (g0 : Nat) (x1 : Int32) (x2 : Int32) (x3 : Int32) (x4 : Int32) (g5 : Nat) (S : St) : Option (Int32 × St) := wl (f_X11_above g0 x1 x2 x3 x4 S) (fun k S => br (k = 3) (some (1, S)) (br (k = 2) (some (2, S)) (none))) (fun r S => some (0, sl S 81 g5 (nn 0) (Int32.toInt64 r)))
set_option maxRecDepth 100000 in
set_option maxHeartbeats 4000000 in
theorem b_L_above (hc : Cx p s m args meth c cL_above 7 "PumpCrossingLaw" D cs B0 kt Lv) (hst : l.stackTraces = false) (htab : c.exceptionTable.toList = tableOf [(0, 14, 17, 21), (0, 14, 21, 15)]) (hr : meth.sig.returnType = some .int) {o : Int32 × St} {S : St} {g0 : Nat} {x1 : Int32} {x2 : Int32} {x3 : Int32} {x4 : Int32} {g5 : Nat} (hL0 : Lv 0 g0) (hL5 : Lv 81 g5) {H : Heap} {locs : List Loc} {ls : Array Slot} (hf : f_L_above g0 x1 x2 x3 x4 g5 S = some o) (hd : Dy s D cs B0 α Lv S H locs) (hl : lv_has ls 7 [(0, .ref (α 0 g0)), (1, .int x1), (2, .int x2), (3, .int x3), (4, .int x4), (5, .ref (α 81 g5))]) : W p l e (Rm 11 1 6) s m args below meth c H locs 0 0 (MQ below (Qi D cs B0 α Lv o.1 o.2) args s 1 6 (AB B0)) (F0 m 0 ls []) := by
  unfold f_L_above at hf
  refine lv_aload hc.x hc.b dL_above_0 (lv_at hl 5 rfl) ?_
  refine lv_iconst (v := 0) hc.x hc.b dL_above_2 (by decide) ?_
  refine lv_aload_n hc.x hc.b dL_above_3 rfl (lv_at hl 0 rfl) ?_
  refine lv_iload_n hc.x hc.b dL_above_4 rfl (lv_at hl 1 rfl) ?_
  refine lv_iload_n hc.x hc.b dL_above_5 rfl (lv_at hl 2 rfl) ?_
  refine lv_iload_n hc.x hc.b dL_above_6 rfl (lv_at hl 3 rfl) ?_
  refine lv_iload hc.x hc.b dL_above_7 (lv_at hl 4 rfl) ?_
  rcases wl_s hf with ⟨k9, S9, hq, hf⟩ | ⟨r, S1, hq, hf⟩
  · by_cases c3 : k9 = 3
    · have hf := br_y c3 hf
      subst c3
      refine x_catch (name := "java/util/NoSuchElementException") hc (x_runV hc hd my_X11_above tw_1126 hL0 rfl rfl rfl (xc_X11_above l D cs B0 kt α Lv S g0 x1 x2 x3 x4 hc.cl hL0 hq hst) rfl rfl hl.1 (Nat.le_of_ble_eq_true rfl) ⟨Nat.le_of_ble_eq_true rfl, Nat.le_of_ble_eq_true rfl, Nat.le_of_ble_eq_true rfl, Nat.le_of_ble_eq_true rfl⟩ dL_above_9) hd rfl [] ⟨0, 14, 17, 21⟩ [⟨0, 14, 21, 15⟩] (htab.trans rfl) (fun _ h => absurd h List.not_mem_nil) (by decide) (by decide) tw_554 (hc.kc.2.2.2.2.2.2.2.2.2.2.2.1.1 _ (by decide)) (fun H locs q hd => ?_)
      refine lv_astore (lv' := [(6, .ref q), (0, .ref (α 0 g0)), (1, .int x1), (2, .int x2), (3, .int x3), (4, .int x4), (5, .ref (α 81 g5))]) hc.x hc.b dL_above_17 hl (by decide) rfl (fun ls hl => ?_)
      refine lv_iconst (v := 1) hc.x hc.b dL_above_19 (by decide) ?_
      cases hf
      exact r_iret hc hd hr dL_above_20
    · have hf := br_n c3 hf
      by_cases c2 : k9 = 2
      · have hf := br_y c2 hf
        subst c2
        refine x_catch (name := "java/lang/IllegalArgumentException") hc (x_runV hc hd my_X11_above tw_1126 hL0 rfl rfl rfl (xc_X11_above l D cs B0 kt α Lv S g0 x1 x2 x3 x4 hc.cl hL0 hq hst) rfl rfl hl.1 (Nat.le_of_ble_eq_true rfl) ⟨Nat.le_of_ble_eq_true rfl, Nat.le_of_ble_eq_true rfl, Nat.le_of_ble_eq_true rfl, Nat.le_of_ble_eq_true rfl⟩ dL_above_9) hd rfl [⟨0, 14, 17, 21⟩] ⟨0, 14, 21, 15⟩ [] (htab.trans rfl) (List.forall_mem_cons.mpr ⟨⟨by decide, "java/util/NoSuchElementException", tw_554, hc.kc.2.2.2.2.2.2.2.2.2.2.2.1.2.2 _ (by decide) _ (by decide) (by decide)⟩, (fun _ h => absurd h List.not_mem_nil)⟩) (by decide) (by decide) tw_450 (hc.kc.2.2.2.2.2.2.2.2.2.2.2.1.1 _ (by decide)) (fun H locs q hd => ?_)
        refine lv_astore (lv' := [(6, .ref q), (0, .ref (α 0 g0)), (1, .int x1), (2, .int x2), (3, .int x3), (4, .int x4), (5, .ref (α 81 g5))]) hc.x hc.b dL_above_21 hl (by decide) rfl (fun ls hl => ?_)
        refine lv_iconst (v := 2) hc.x hc.b dL_above_23 (by decide) ?_
        cases hf
        exact r_iret hc hd hr dL_above_24
      · have hf := br_n c2 hf
        cases hf
  · refine k_i (k_runV hc hd my_X11_above tw_1126 hL0 rfl rfl rfl (c_X11_above l D cs B0 kt α Lv S g0 x1 x2 x3 x4 hc.cl hL0 hq) rfl rfl hl.1 (Nat.le_of_ble_eq_true rfl) ⟨Nat.le_of_ble_eq_true rfl, Nat.le_of_ble_eq_true rfl, Nat.zero_le _, Nat.zero_le _⟩ dL_above_9) hd (fun H locs hd => ?_)
    refine lv_i2l (v := Int32.toInt64 r) hc.x hc.b dL_above_12 rfl ?_
    refine r_last hc hd hL5 (fun _ => rfl) (by decide) dL_above_13 (fun H locs hd => ?_)
    refine lv_goto (tgt := 25) hc.x hc.b dL_above_14 (by decide) ?_
    refine lv_iconst (v := 0) hc.x hc.b dL_above_25 (by decide) ?_
    refine W.widen (k := 1) (n := 6) (Nat.le_of_ble_eq_true rfl) (Nat.le_of_ble_eq_true rfl) ?_
    cases hf
    exact r_iret hc hd hr dL_above_26
theorem c_L_above (l : Launch) (D : va_G) (cs : Nat → ClassId) (B0 : Nat) (kt : (Nat → Nat) × (Nat → Nat)) (α : Nat → Nat → Nat) (Lv : Nat → Nat → Prop) (S : St) (g0 : Nat) (x1 : Int32) (x2 : Int32) (x3 : Int32) (x4 : Int32) (g5 : Nat) (hcl : Cl Lv) (hL0 : Lv 0 g0) (hL5 : Lv 81 g5) (hst : l.stackTraces = false) {o : Int32 × St} (hf : f_L_above g0 x1 x2 x3 x4 g5 S = some o) : Met l yL_above (wx yL_above cL_above 7 (some .int) [(0, 14, 17, 21), (0, 14, 21, 15)]) (Rm 11 1 6) (PzN D cs B0 kt α Lv S [.ref (α 0 g0), .int x1, .int x2, .int x3, .int x4, .ref (α 81 g5)]) (Qi D cs B0 α Lv o.1 o.2) 1 6 (AB B0) := met_ofWH (by decide) rfl hcl (Nat.le_of_ble_eq_true rfl) (fun p e s m below meth c hc hck hr htab hd ls hl => b_L_above hc hst htab hr hL0 hL5 hf hd hl)
theorem my_L_above : MyW yL_above cL_above 7 (some .int) [(0, 14, 17, 21), (0, 14, 21, 15)] 6 := ⟨tw_1124, tw_0, tw_1125, by decide +kernel⟩
def f_L_board (g0 : Nat) (x1 : Int32) (x2 : Int32) (g3 : Nat) (S : St) : Option (Int32 × St) := wl (f_X11_board g0 x1 x2 S) (fun k S => br (k = 3) (some (1, S)) (none)) (fun r S => some (0, sl S 81 g3 (nn 0) (Int32.toInt64 r)))
set_option maxRecDepth 100000 in
set_option maxHeartbeats 4000000 in
theorem b_L_board (hc : Cx p s m args meth c cL_board 5 "PumpCrossingLaw" D cs B0 kt Lv) (hst : l.stackTraces = false) (htab : c.exceptionTable.toList = tableOf [(0, 10, 13, 21)]) (hr : meth.sig.returnType = some .int) {o : Int32 × St} {S : St} {g0 : Nat} {x1 : Int32} {x2 : Int32} {g3 : Nat} (hL0 : Lv 0 g0) (hL3 : Lv 81 g3) {H : Heap} {locs : List Loc} {ls : Array Slot} (hf : f_L_board g0 x1 x2 g3 S = some o) (hd : Dy s D cs B0 α Lv S H locs) (hl : lv_has ls 5 [(0, .ref (α 0 g0)), (1, .int x1), (2, .int x2), (3, .ref (α 81 g3))]) : W p l e (Rm 10 1 6) s m args below meth c H locs 0 0 (MQ below (Qi D cs B0 α Lv o.1 o.2) args s 1 6 (AB B0)) (F0 m 0 ls []) := by
  unfold f_L_board at hf
  refine lv_aload_n hc.x hc.b dL_board_0 rfl (lv_at hl 3 rfl) ?_
  refine lv_iconst (v := 0) hc.x hc.b dL_board_1 (by decide) ?_
  refine lv_aload_n hc.x hc.b dL_board_2 rfl (lv_at hl 0 rfl) ?_
  refine lv_iload_n hc.x hc.b dL_board_3 rfl (lv_at hl 1 rfl) ?_
  refine lv_iload_n hc.x hc.b dL_board_4 rfl (lv_at hl 2 rfl) ?_
  rcases wl_s hf with ⟨k9, S9, hq, hf⟩ | ⟨r, S1, hq, hf⟩
  · by_cases c3 : k9 = 3
    · have hf := br_y c3 hf
      subst c3
      refine x_catch (name := "java/util/NoSuchElementException") hc (x_runV hc hd my_X11_board tw_860 hL0 rfl rfl rfl (xc_X11_board l D cs B0 kt α Lv S g0 x1 x2 hc.cl hL0 hq hst) rfl rfl hl.1 (Nat.le_of_ble_eq_true rfl) ⟨Nat.le_of_ble_eq_true rfl, Nat.le_of_ble_eq_true rfl, Nat.le_of_ble_eq_true rfl, Nat.le_of_ble_eq_true rfl⟩ dL_board_5) hd rfl [] ⟨0, 10, 13, 21⟩ [] (htab.trans rfl) (fun _ h => absurd h List.not_mem_nil) (by decide) (by decide) tw_554 (hc.kc.2.2.2.2.2.2.2.2.2.2.2.1.1 _ (by decide)) (fun H locs q hd => ?_)
      refine lv_astore (lv' := [(4, .ref q), (0, .ref (α 0 g0)), (1, .int x1), (2, .int x2), (3, .ref (α 81 g3))]) hc.x hc.b dL_board_13 hl (by decide) rfl (fun ls hl => ?_)
      refine lv_iconst (v := 1) hc.x hc.b dL_board_15 (by decide) ?_
      cases hf
      exact r_iret hc hd hr dL_board_16
    · have hf := br_n c3 hf
      cases hf
  · refine k_i (k_runV hc hd my_X11_board tw_860 hL0 rfl rfl rfl (c_X11_board l D cs B0 kt α Lv S g0 x1 x2 hc.cl hL0 hq) rfl rfl hl.1 (Nat.le_of_ble_eq_true rfl) ⟨Nat.le_of_ble_eq_true rfl, Nat.le_of_ble_eq_true rfl, Nat.zero_le _, Nat.zero_le _⟩ dL_board_5) hd (fun H locs hd => ?_)
    refine lv_i2l (v := Int32.toInt64 r) hc.x hc.b dL_board_8 rfl ?_
    refine r_last hc hd hL3 (fun _ => rfl) (by decide) dL_board_9 (fun H locs hd => ?_)
    refine lv_goto (tgt := 17) hc.x hc.b dL_board_10 (by decide) ?_
    refine lv_iconst (v := 0) hc.x hc.b dL_board_17 (by decide) ?_
    refine W.widen (k := 1) (n := 6) (Nat.le_of_ble_eq_true rfl) (Nat.le_of_ble_eq_true rfl) ?_
    cases hf
    exact r_iret hc hd hr dL_board_18
theorem c_L_board (l : Launch) (D : va_G) (cs : Nat → ClassId) (B0 : Nat) (kt : (Nat → Nat) × (Nat → Nat)) (α : Nat → Nat → Nat) (Lv : Nat → Nat → Prop) (S : St) (g0 : Nat) (x1 : Int32) (x2 : Int32) (g3 : Nat) (hcl : Cl Lv) (hL0 : Lv 0 g0) (hL3 : Lv 81 g3) (hst : l.stackTraces = false) {o : Int32 × St} (hf : f_L_board g0 x1 x2 g3 S = some o) : Met l yL_board (wx yL_board cL_board 5 (some .int) [(0, 10, 13, 21)]) (Rm 10 1 6) (PzN D cs B0 kt α Lv S [.ref (α 0 g0), .int x1, .int x2, .ref (α 81 g3)]) (Qi D cs B0 α Lv o.1 o.2) 1 6 (AB B0) := met_ofWH (by decide) rfl hcl (Nat.le_of_ble_eq_true rfl) (fun p e s m below meth c hc hck hr htab hd ls hl => b_L_board hc hst htab hr hL0 hL3 hf hd hl)
theorem my_L_board : MyW yL_board cL_board 5 (some .int) [(0, 10, 13, 21)] 4 := ⟨tw_858, tw_0, tw_859, by decide +kernel⟩
def f_L_cost (g0 : Nat) (x1 : Int32) (x2 : Int32) (g3 : Nat) (S : St) : Option (Int32 × St) := wl (f_X11_cost g0 x1 x2 S) (fun k S => br (k = 3) (some (1, S)) (br (k = 2) (some (2, S)) (none))) (fun r S => some (0, sl S 81 g3 (nn 0) (Int32.toInt64 r)))
set_option maxRecDepth 100000 in
set_option maxHeartbeats 4000000 in
theorem b_L_cost (hc : Cx p s m args meth c cL_cost 5 "PumpCrossingLaw" D cs B0 kt Lv) (hst : l.stackTraces = false) (htab : c.exceptionTable.toList = tableOf [(0, 10, 13, 21), (0, 10, 17, 15)]) (hr : meth.sig.returnType = some .int) {o : Int32 × St} {S : St} {g0 : Nat} {x1 : Int32} {x2 : Int32} {g3 : Nat} (hL0 : Lv 0 g0) (hL3 : Lv 81 g3) {H : Heap} {locs : List Loc} {ls : Array Slot} (hf : f_L_cost g0 x1 x2 g3 S = some o) (hd : Dy s D cs B0 α Lv S H locs) (hl : lv_has ls 5 [(0, .ref (α 0 g0)), (1, .int x1), (2, .int x2), (3, .ref (α 81 g3))]) : W p l e (Rm 11 1 6) s m args below meth c H locs 0 0 (MQ below (Qi D cs B0 α Lv o.1 o.2) args s 1 6 (AB B0)) (F0 m 0 ls []) := by
  unfold f_L_cost at hf
  refine lv_aload_n hc.x hc.b dL_cost_0 rfl (lv_at hl 3 rfl) ?_
  refine lv_iconst (v := 0) hc.x hc.b dL_cost_1 (by decide) ?_
  refine lv_aload_n hc.x hc.b dL_cost_2 rfl (lv_at hl 0 rfl) ?_
  refine lv_iload_n hc.x hc.b dL_cost_3 rfl (lv_at hl 1 rfl) ?_
  refine lv_iload_n hc.x hc.b dL_cost_4 rfl (lv_at hl 2 rfl) ?_
  rcases wl_s hf with ⟨k9, S9, hq, hf⟩ | ⟨r, S1, hq, hf⟩
  · by_cases c3 : k9 = 3
    · have hf := br_y c3 hf
      subst c3
      refine x_catch (name := "java/util/NoSuchElementException") hc (x_runV hc hd my_X11_cost tw_586 hL0 rfl rfl rfl (xc_X11_cost l D cs B0 kt α Lv S g0 x1 x2 hc.cl hL0 hq hst) rfl rfl hl.1 (Nat.le_of_ble_eq_true rfl) ⟨Nat.le_of_ble_eq_true rfl, Nat.le_of_ble_eq_true rfl, Nat.le_of_ble_eq_true rfl, Nat.le_of_ble_eq_true rfl⟩ dL_cost_5) hd rfl [] ⟨0, 10, 13, 21⟩ [⟨0, 10, 17, 15⟩] (htab.trans rfl) (fun _ h => absurd h List.not_mem_nil) (by decide) (by decide) tw_554 (hc.kc.2.2.2.2.2.2.2.2.2.2.2.1.1 _ (by decide)) (fun H locs q hd => ?_)
      refine lv_astore (lv' := [(4, .ref q), (0, .ref (α 0 g0)), (1, .int x1), (2, .int x2), (3, .ref (α 81 g3))]) hc.x hc.b dL_cost_13 hl (by decide) rfl (fun ls hl => ?_)
      refine lv_iconst (v := 1) hc.x hc.b dL_cost_15 (by decide) ?_
      cases hf
      exact r_iret hc hd hr dL_cost_16
    · have hf := br_n c3 hf
      by_cases c2 : k9 = 2
      · have hf := br_y c2 hf
        subst c2
        refine x_catch (name := "java/lang/IllegalArgumentException") hc (x_runV hc hd my_X11_cost tw_586 hL0 rfl rfl rfl (xc_X11_cost l D cs B0 kt α Lv S g0 x1 x2 hc.cl hL0 hq hst) rfl rfl hl.1 (Nat.le_of_ble_eq_true rfl) ⟨Nat.le_of_ble_eq_true rfl, Nat.le_of_ble_eq_true rfl, Nat.le_of_ble_eq_true rfl, Nat.le_of_ble_eq_true rfl⟩ dL_cost_5) hd rfl [⟨0, 10, 13, 21⟩] ⟨0, 10, 17, 15⟩ [] (htab.trans rfl) (List.forall_mem_cons.mpr ⟨⟨by decide, "java/util/NoSuchElementException", tw_554, hc.kc.2.2.2.2.2.2.2.2.2.2.2.1.2.2 _ (by decide) _ (by decide) (by decide)⟩, (fun _ h => absurd h List.not_mem_nil)⟩) (by decide) (by decide) tw_450 (hc.kc.2.2.2.2.2.2.2.2.2.2.2.1.1 _ (by decide)) (fun H locs q hd => ?_)
        refine lv_astore (lv' := [(4, .ref q), (0, .ref (α 0 g0)), (1, .int x1), (2, .int x2), (3, .ref (α 81 g3))]) hc.x hc.b dL_cost_17 hl (by decide) rfl (fun ls hl => ?_)
        refine lv_iconst (v := 2) hc.x hc.b dL_cost_19 (by decide) ?_
        cases hf
        exact r_iret hc hd hr dL_cost_20
      · have hf := br_n c2 hf
        cases hf
  · refine k_i (k_runV hc hd my_X11_cost tw_586 hL0 rfl rfl rfl (c_X11_cost l D cs B0 kt α Lv S g0 x1 x2 hc.cl hL0 hq) rfl rfl hl.1 (Nat.le_of_ble_eq_true rfl) ⟨Nat.le_of_ble_eq_true rfl, Nat.le_of_ble_eq_true rfl, Nat.zero_le _, Nat.zero_le _⟩ dL_cost_5) hd (fun H locs hd => ?_)
    refine lv_i2l (v := Int32.toInt64 r) hc.x hc.b dL_cost_8 rfl ?_
    refine r_last hc hd hL3 (fun _ => rfl) (by decide) dL_cost_9 (fun H locs hd => ?_)
    refine lv_goto (tgt := 21) hc.x hc.b dL_cost_10 (by decide) ?_
    refine lv_iconst (v := 0) hc.x hc.b dL_cost_21 (by decide) ?_
    refine W.widen (k := 1) (n := 6) (Nat.le_of_ble_eq_true rfl) (Nat.le_of_ble_eq_true rfl) ?_
    cases hf
    exact r_iret hc hd hr dL_cost_22
theorem c_L_cost (l : Launch) (D : va_G) (cs : Nat → ClassId) (B0 : Nat) (kt : (Nat → Nat) × (Nat → Nat)) (α : Nat → Nat → Nat) (Lv : Nat → Nat → Prop) (S : St) (g0 : Nat) (x1 : Int32) (x2 : Int32) (g3 : Nat) (hcl : Cl Lv) (hL0 : Lv 0 g0) (hL3 : Lv 81 g3) (hst : l.stackTraces = false) {o : Int32 × St} (hf : f_L_cost g0 x1 x2 g3 S = some o) : Met l yL_cost (wx yL_cost cL_cost 5 (some .int) [(0, 10, 13, 21), (0, 10, 17, 15)]) (Rm 11 1 6) (PzN D cs B0 kt α Lv S [.ref (α 0 g0), .int x1, .int x2, .ref (α 81 g3)]) (Qi D cs B0 α Lv o.1 o.2) 1 6 (AB B0) := met_ofWH (by decide) rfl hcl (Nat.le_of_ble_eq_true rfl) (fun p e s m below meth c hc hck hr htab hd ls hl => b_L_cost hc hst htab hr hL0 hL3 hf hd hl)
theorem my_L_cost : MyW yL_cost cL_cost 5 (some .int) [(0, 10, 13, 21), (0, 10, 17, 15)] 4 := ⟨tw_584, tw_0, tw_585, by decide +kernel⟩
def f_L_driver (g0 : Nat) (x1 : Int32) (x2 : Int32) (x3 : Int32) (x4 : Int32) (g5 : Nat) (S : St) : Option (Int32 × St) := wl (f_X11_driver g0 x1 x2 x3 x4 S) (fun k S => br (k = 3) (some (1, S)) (br (k = 2) (some (2, S)) (none))) (fun r S => some (0, sl S 81 g5 (nn 0) (Int32.toInt64 r)))
set_option maxRecDepth 100000 in
set_option maxHeartbeats 4000000 in
theorem b_L_driver (hc : Cx p s m args meth c cL_driver 7 "PumpCrossingLaw" D cs B0 kt Lv) (hst : l.stackTraces = false) (htab : c.exceptionTable.toList = tableOf [(0, 14, 17, 21), (0, 14, 21, 15)]) (hr : meth.sig.returnType = some .int) {o : Int32 × St} {S : St} {g0 : Nat} {x1 : Int32} {x2 : Int32} {x3 : Int32} {x4 : Int32} {g5 : Nat} (hL0 : Lv 0 g0) (hL5 : Lv 81 g5) {H : Heap} {locs : List Loc} {ls : Array Slot} (hf : f_L_driver g0 x1 x2 x3 x4 g5 S = some o) (hd : Dy s D cs B0 α Lv S H locs) (hl : lv_has ls 7 [(0, .ref (α 0 g0)), (1, .int x1), (2, .int x2), (3, .int x3), (4, .int x4), (5, .ref (α 81 g5))]) : W p l e (Rm 10 1 6) s m args below meth c H locs 0 0 (MQ below (Qi D cs B0 α Lv o.1 o.2) args s 1 6 (AB B0)) (F0 m 0 ls []) := by
  unfold f_L_driver at hf
  refine lv_aload hc.x hc.b dL_driver_0 (lv_at hl 5 rfl) ?_
  refine lv_iconst (v := 0) hc.x hc.b dL_driver_2 (by decide) ?_
  refine lv_aload_n hc.x hc.b dL_driver_3 rfl (lv_at hl 0 rfl) ?_
  refine lv_iload_n hc.x hc.b dL_driver_4 rfl (lv_at hl 1 rfl) ?_
  refine lv_iload_n hc.x hc.b dL_driver_5 rfl (lv_at hl 2 rfl) ?_
  refine lv_iload_n hc.x hc.b dL_driver_6 rfl (lv_at hl 3 rfl) ?_
  refine lv_iload hc.x hc.b dL_driver_7 (lv_at hl 4 rfl) ?_
  rcases wl_s hf with ⟨k9, S9, hq, hf⟩ | ⟨r, S1, hq, hf⟩
  · by_cases c3 : k9 = 3
    · have hf := br_y c3 hf
      subst c3
      refine x_catch (name := "java/util/NoSuchElementException") hc (x_runV hc hd my_X11_driver tw_555 hL0 rfl rfl rfl (xc_X11_driver l D cs B0 kt α Lv S g0 x1 x2 x3 x4 hc.cl hL0 hq hst) rfl rfl hl.1 (Nat.le_of_ble_eq_true rfl) ⟨Nat.le_of_ble_eq_true rfl, Nat.le_of_ble_eq_true rfl, Nat.le_of_ble_eq_true rfl, Nat.le_of_ble_eq_true rfl⟩ dL_driver_9) hd rfl [] ⟨0, 14, 17, 21⟩ [⟨0, 14, 21, 15⟩] (htab.trans rfl) (fun _ h => absurd h List.not_mem_nil) (by decide) (by decide) tw_554 (hc.kc.2.2.2.2.2.2.2.2.2.2.2.1.1 _ (by decide)) (fun H locs q hd => ?_)
      refine lv_astore (lv' := [(6, .ref q), (0, .ref (α 0 g0)), (1, .int x1), (2, .int x2), (3, .int x3), (4, .int x4), (5, .ref (α 81 g5))]) hc.x hc.b dL_driver_17 hl (by decide) rfl (fun ls hl => ?_)
      refine lv_iconst (v := 1) hc.x hc.b dL_driver_19 (by decide) ?_
      cases hf
      exact r_iret hc hd hr dL_driver_20
    · have hf := br_n c3 hf
      by_cases c2 : k9 = 2
      · have hf := br_y c2 hf
        subst c2
        refine x_catch (name := "java/lang/IllegalArgumentException") hc (x_runV hc hd my_X11_driver tw_555 hL0 rfl rfl rfl (xc_X11_driver l D cs B0 kt α Lv S g0 x1 x2 x3 x4 hc.cl hL0 hq hst) rfl rfl hl.1 (Nat.le_of_ble_eq_true rfl) ⟨Nat.le_of_ble_eq_true rfl, Nat.le_of_ble_eq_true rfl, Nat.le_of_ble_eq_true rfl, Nat.le_of_ble_eq_true rfl⟩ dL_driver_9) hd rfl [⟨0, 14, 17, 21⟩] ⟨0, 14, 21, 15⟩ [] (htab.trans rfl) (List.forall_mem_cons.mpr ⟨⟨by decide, "java/util/NoSuchElementException", tw_554, hc.kc.2.2.2.2.2.2.2.2.2.2.2.1.2.2 _ (by decide) _ (by decide) (by decide)⟩, (fun _ h => absurd h List.not_mem_nil)⟩) (by decide) (by decide) tw_450 (hc.kc.2.2.2.2.2.2.2.2.2.2.2.1.1 _ (by decide)) (fun H locs q hd => ?_)
        refine lv_astore (lv' := [(6, .ref q), (0, .ref (α 0 g0)), (1, .int x1), (2, .int x2), (3, .int x3), (4, .int x4), (5, .ref (α 81 g5))]) hc.x hc.b dL_driver_21 hl (by decide) rfl (fun ls hl => ?_)
        refine lv_iconst (v := 2) hc.x hc.b dL_driver_23 (by decide) ?_
        cases hf
        exact r_iret hc hd hr dL_driver_24
      · have hf := br_n c2 hf
        cases hf
  · refine k_i (k_runV hc hd my_X11_driver tw_555 hL0 rfl rfl rfl (c_X11_driver l D cs B0 kt α Lv S g0 x1 x2 x3 x4 hc.cl hL0 hq) rfl rfl hl.1 (Nat.le_of_ble_eq_true rfl) ⟨Nat.le_of_ble_eq_true rfl, Nat.le_of_ble_eq_true rfl, Nat.zero_le _, Nat.zero_le _⟩ dL_driver_9) hd (fun H locs hd => ?_)
    refine lv_i2l (v := Int32.toInt64 r) hc.x hc.b dL_driver_12 rfl ?_
    refine r_last hc hd hL5 (fun _ => rfl) (by decide) dL_driver_13 (fun H locs hd => ?_)
    refine lv_goto (tgt := 25) hc.x hc.b dL_driver_14 (by decide) ?_
    refine lv_iconst (v := 0) hc.x hc.b dL_driver_25 (by decide) ?_
    refine W.widen (k := 1) (n := 6) (Nat.le_of_ble_eq_true rfl) (Nat.le_of_ble_eq_true rfl) ?_
    cases hf
    exact r_iret hc hd hr dL_driver_26
theorem c_L_driver (l : Launch) (D : va_G) (cs : Nat → ClassId) (B0 : Nat) (kt : (Nat → Nat) × (Nat → Nat)) (α : Nat → Nat → Nat) (Lv : Nat → Nat → Prop) (S : St) (g0 : Nat) (x1 : Int32) (x2 : Int32) (x3 : Int32) (x4 : Int32) (g5 : Nat) (hcl : Cl Lv) (hL0 : Lv 0 g0) (hL5 : Lv 81 g5) (hst : l.stackTraces = false) {o : Int32 × St} (hf : f_L_driver g0 x1 x2 x3 x4 g5 S = some o) : Met l yL_driver (wx yL_driver cL_driver 7 (some .int) [(0, 14, 17, 21), (0, 14, 21, 15)]) (Rm 10 1 6) (PzN D cs B0 kt α Lv S [.ref (α 0 g0), .int x1, .int x2, .int x3, .int x4, .ref (α 81 g5)]) (Qi D cs B0 α Lv o.1 o.2) 1 6 (AB B0) := met_ofWH (by decide) rfl hcl (Nat.le_of_ble_eq_true rfl) (fun p e s m below meth c hc hck hr htab hd ls hl => b_L_driver hc hst htab hr hL0 hL5 hf hd hl)
theorem my_L_driver : MyW yL_driver cL_driver 7 (some .int) [(0, 14, 17, 21), (0, 14, 21, 15)] 6 := ⟨tw_552, tw_0, tw_553, by decide +kernel⟩
def f_L_even (g0 : Nat) (x1 : Int32) (x2 : Int32) (x3 : Int32) (g4 : Nat) (S : St) : Option (Int32 × St) := wl (f_X11_even g0 x1 x2 x3 S) (fun k S => br (k = 3) (some (1, S)) (br (k = 2) (some (2, S)) (none))) (fun r S => some (0, sl S 81 g4 (nn 0) (Int32.toInt64 r)))
set_option maxRecDepth 100000 in
set_option maxHeartbeats 4000000 in
theorem b_L_even (hc : Cx p s m args meth c cL_even 6 "PumpCrossingLaw" D cs B0 kt Lv) (hst : l.stackTraces = false) (htab : c.exceptionTable.toList = tableOf [(0, 12, 15, 21), (0, 12, 19, 15)]) (hr : meth.sig.returnType = some .int) {o : Int32 × St} {S : St} {g0 : Nat} {x1 : Int32} {x2 : Int32} {x3 : Int32} {g4 : Nat} (hL0 : Lv 0 g0) (hL4 : Lv 81 g4) {H : Heap} {locs : List Loc} {ls : Array Slot} (hf : f_L_even g0 x1 x2 x3 g4 S = some o) (hd : Dy s D cs B0 α Lv S H locs) (hl : lv_has ls 6 [(0, .ref (α 0 g0)), (1, .int x1), (2, .int x2), (3, .int x3), (4, .ref (α 81 g4))]) : W p l e (Rm 11 1 6) s m args below meth c H locs 0 0 (MQ below (Qi D cs B0 α Lv o.1 o.2) args s 1 6 (AB B0)) (F0 m 0 ls []) := by
  unfold f_L_even at hf
  refine lv_aload hc.x hc.b dL_even_0 (lv_at hl 4 rfl) ?_
  refine lv_iconst (v := 0) hc.x hc.b dL_even_2 (by decide) ?_
  refine lv_aload_n hc.x hc.b dL_even_3 rfl (lv_at hl 0 rfl) ?_
  refine lv_iload_n hc.x hc.b dL_even_4 rfl (lv_at hl 1 rfl) ?_
  refine lv_iload_n hc.x hc.b dL_even_5 rfl (lv_at hl 2 rfl) ?_
  refine lv_iload_n hc.x hc.b dL_even_6 rfl (lv_at hl 3 rfl) ?_
  rcases wl_s hf with ⟨k9, S9, hq, hf⟩ | ⟨r, S1, hq, hf⟩
  · by_cases c3 : k9 = 3
    · have hf := br_y c3 hf
      subst c3
      refine x_catch (name := "java/util/NoSuchElementException") hc (x_runV hc hd my_X11_even tw_1021 hL0 rfl rfl rfl (xc_X11_even l D cs B0 kt α Lv S g0 x1 x2 x3 hc.cl hL0 hq hst) rfl rfl hl.1 (Nat.le_of_ble_eq_true rfl) ⟨Nat.le_of_ble_eq_true rfl, Nat.le_of_ble_eq_true rfl, Nat.le_of_ble_eq_true rfl, Nat.le_of_ble_eq_true rfl⟩ dL_even_7) hd rfl [] ⟨0, 12, 15, 21⟩ [⟨0, 12, 19, 15⟩] (htab.trans rfl) (fun _ h => absurd h List.not_mem_nil) (by decide) (by decide) tw_554 (hc.kc.2.2.2.2.2.2.2.2.2.2.2.1.1 _ (by decide)) (fun H locs q hd => ?_)
      refine lv_astore (lv' := [(5, .ref q), (0, .ref (α 0 g0)), (1, .int x1), (2, .int x2), (3, .int x3), (4, .ref (α 81 g4))]) hc.x hc.b dL_even_15 hl (by decide) rfl (fun ls hl => ?_)
      refine lv_iconst (v := 1) hc.x hc.b dL_even_17 (by decide) ?_
      cases hf
      exact r_iret hc hd hr dL_even_18
    · have hf := br_n c3 hf
      by_cases c2 : k9 = 2
      · have hf := br_y c2 hf
        subst c2
        refine x_catch (name := "java/lang/IllegalArgumentException") hc (x_runV hc hd my_X11_even tw_1021 hL0 rfl rfl rfl (xc_X11_even l D cs B0 kt α Lv S g0 x1 x2 x3 hc.cl hL0 hq hst) rfl rfl hl.1 (Nat.le_of_ble_eq_true rfl) ⟨Nat.le_of_ble_eq_true rfl, Nat.le_of_ble_eq_true rfl, Nat.le_of_ble_eq_true rfl, Nat.le_of_ble_eq_true rfl⟩ dL_even_7) hd rfl [⟨0, 12, 15, 21⟩] ⟨0, 12, 19, 15⟩ [] (htab.trans rfl) (List.forall_mem_cons.mpr ⟨⟨by decide, "java/util/NoSuchElementException", tw_554, hc.kc.2.2.2.2.2.2.2.2.2.2.2.1.2.2 _ (by decide) _ (by decide) (by decide)⟩, (fun _ h => absurd h List.not_mem_nil)⟩) (by decide) (by decide) tw_450 (hc.kc.2.2.2.2.2.2.2.2.2.2.2.1.1 _ (by decide)) (fun H locs q hd => ?_)
        refine lv_astore (lv' := [(5, .ref q), (0, .ref (α 0 g0)), (1, .int x1), (2, .int x2), (3, .int x3), (4, .ref (α 81 g4))]) hc.x hc.b dL_even_19 hl (by decide) rfl (fun ls hl => ?_)
        refine lv_iconst (v := 2) hc.x hc.b dL_even_21 (by decide) ?_
        cases hf
        exact r_iret hc hd hr dL_even_22
      · have hf := br_n c2 hf
        cases hf
  · refine k_i (k_runV hc hd my_X11_even tw_1021 hL0 rfl rfl rfl (c_X11_even l D cs B0 kt α Lv S g0 x1 x2 x3 hc.cl hL0 hq) rfl rfl hl.1 (Nat.le_of_ble_eq_true rfl) ⟨Nat.le_of_ble_eq_true rfl, Nat.le_of_ble_eq_true rfl, Nat.zero_le _, Nat.zero_le _⟩ dL_even_7) hd (fun H locs hd => ?_)
    refine lv_i2l (v := Int32.toInt64 r) hc.x hc.b dL_even_10 rfl ?_
    refine r_last hc hd hL4 (fun _ => rfl) (by decide) dL_even_11 (fun H locs hd => ?_)
    refine lv_goto (tgt := 23) hc.x hc.b dL_even_12 (by decide) ?_
    refine lv_iconst (v := 0) hc.x hc.b dL_even_23 (by decide) ?_
    refine W.widen (k := 1) (n := 6) (Nat.le_of_ble_eq_true rfl) (Nat.le_of_ble_eq_true rfl) ?_
    cases hf
    exact r_iret hc hd hr dL_even_24
theorem c_L_even (l : Launch) (D : va_G) (cs : Nat → ClassId) (B0 : Nat) (kt : (Nat → Nat) × (Nat → Nat)) (α : Nat → Nat → Nat) (Lv : Nat → Nat → Prop) (S : St) (g0 : Nat) (x1 : Int32) (x2 : Int32) (x3 : Int32) (g4 : Nat) (hcl : Cl Lv) (hL0 : Lv 0 g0) (hL4 : Lv 81 g4) (hst : l.stackTraces = false) {o : Int32 × St} (hf : f_L_even g0 x1 x2 x3 g4 S = some o) : Met l yL_even (wx yL_even cL_even 6 (some .int) [(0, 12, 15, 21), (0, 12, 19, 15)]) (Rm 11 1 6) (PzN D cs B0 kt α Lv S [.ref (α 0 g0), .int x1, .int x2, .int x3, .ref (α 81 g4)]) (Qi D cs B0 α Lv o.1 o.2) 1 6 (AB B0) := met_ofWH (by decide) rfl hcl (Nat.le_of_ble_eq_true rfl) (fun p e s m below meth c hc hck hr htab hd ls hl => b_L_even hc hst htab hr hL0 hL4 hf hd hl)
theorem my_L_even : MyW yL_even cL_even 6 (some .int) [(0, 12, 15, 21), (0, 12, 19, 15)] 5 := ⟨tw_1019, tw_0, tw_1020, by decide +kernel⟩
def f_L_fill (g0 : Nat) (x1 : Int32) (x2 : Int32) (x3 : Int32) (x4 : Int32) (g5 : Nat) (S : St) : Option (Int32 × St) := wl (f_X11_fill g0 x1 x2 x3 x4 S) (fun k S => br (k = 3) (some (1, S)) (br (k = 1) (some (2, S)) (br (k = 2) (some (3, S)) (none)))) (fun r S => some (0, sl S 81 g5 (nn 0) (Int32.toInt64 r)))
set_option maxRecDepth 100000 in
set_option maxHeartbeats 4000000 in
theorem b_L_fill (hc : Cx p s m args meth c cL_fill 7 "PumpCrossingLaw" D cs B0 kt Lv) (hst : l.stackTraces = false) (htab : c.exceptionTable.toList = tableOf [(0, 14, 17, 21), (0, 14, 21, 13), (0, 14, 25, 15)]) (hr : meth.sig.returnType = some .int) {o : Int32 × St} {S : St} {g0 : Nat} {x1 : Int32} {x2 : Int32} {x3 : Int32} {x4 : Int32} {g5 : Nat} (hL0 : Lv 0 g0) (hL5 : Lv 81 g5) {H : Heap} {locs : List Loc} {ls : Array Slot} (hf : f_L_fill g0 x1 x2 x3 x4 g5 S = some o) (hd : Dy s D cs B0 α Lv S H locs) (hl : lv_has ls 7 [(0, .ref (α 0 g0)), (1, .int x1), (2, .int x2), (3, .int x3), (4, .int x4), (5, .ref (α 81 g5))]) : W p l e (Rm 10 1 6) s m args below meth c H locs 0 0 (MQ below (Qi D cs B0 α Lv o.1 o.2) args s 1 6 (AB B0)) (F0 m 0 ls []) := by
  unfold f_L_fill at hf
  refine lv_aload hc.x hc.b dL_fill_0 (lv_at hl 5 rfl) ?_
  refine lv_iconst (v := 0) hc.x hc.b dL_fill_2 (by decide) ?_
  refine lv_aload_n hc.x hc.b dL_fill_3 rfl (lv_at hl 0 rfl) ?_
  refine lv_iload_n hc.x hc.b dL_fill_4 rfl (lv_at hl 1 rfl) ?_
  refine lv_iload_n hc.x hc.b dL_fill_5 rfl (lv_at hl 2 rfl) ?_
  refine lv_iload_n hc.x hc.b dL_fill_6 rfl (lv_at hl 3 rfl) ?_
  refine lv_iload hc.x hc.b dL_fill_7 (lv_at hl 4 rfl) ?_
  rcases wl_s hf with ⟨k9, S9, hq, hf⟩ | ⟨r, S1, hq, hf⟩
  · by_cases c3 : k9 = 3
    · have hf := br_y c3 hf
      subst c3
      refine x_catch (name := "java/util/NoSuchElementException") hc (x_runV hc hd my_X11_fill tw_1190 hL0 rfl rfl rfl (xc_X11_fill l D cs B0 kt α Lv S g0 x1 x2 x3 x4 hc.cl hL0 hq hst) rfl rfl hl.1 (Nat.le_of_ble_eq_true rfl) ⟨Nat.le_of_ble_eq_true rfl, Nat.le_of_ble_eq_true rfl, Nat.le_of_ble_eq_true rfl, Nat.le_of_ble_eq_true rfl⟩ dL_fill_9) hd rfl [] ⟨0, 14, 17, 21⟩ [⟨0, 14, 21, 13⟩, ⟨0, 14, 25, 15⟩] (htab.trans rfl) (fun _ h => absurd h List.not_mem_nil) (by decide) (by decide) tw_554 (hc.kc.2.2.2.2.2.2.2.2.2.2.2.1.1 _ (by decide)) (fun H locs q hd => ?_)
      refine lv_astore (lv' := [(6, .ref q), (0, .ref (α 0 g0)), (1, .int x1), (2, .int x2), (3, .int x3), (4, .int x4), (5, .ref (α 81 g5))]) hc.x hc.b dL_fill_17 hl (by decide) rfl (fun ls hl => ?_)
      refine lv_iconst (v := 1) hc.x hc.b dL_fill_19 (by decide) ?_
      cases hf
      exact r_iret hc hd hr dL_fill_20
    · have hf := br_n c3 hf
      by_cases c1 : k9 = 1
      · have hf := br_y c1 hf
        subst c1
        refine x_catch (name := "java/lang/IllegalStateException") hc (x_runV hc hd my_X11_fill tw_1190 hL0 rfl rfl rfl (xc_X11_fill l D cs B0 kt α Lv S g0 x1 x2 x3 x4 hc.cl hL0 hq hst) rfl rfl hl.1 (Nat.le_of_ble_eq_true rfl) ⟨Nat.le_of_ble_eq_true rfl, Nat.le_of_ble_eq_true rfl, Nat.le_of_ble_eq_true rfl, Nat.le_of_ble_eq_true rfl⟩ dL_fill_9) hd rfl [⟨0, 14, 17, 21⟩] ⟨0, 14, 21, 13⟩ [⟨0, 14, 25, 15⟩] (htab.trans rfl) (List.forall_mem_cons.mpr ⟨⟨by decide, "java/util/NoSuchElementException", tw_554, hc.kc.2.2.2.2.2.2.2.2.2.2.2.1.2.2 _ (by decide) _ (by decide) (by decide)⟩, (fun _ h => absurd h List.not_mem_nil)⟩) (by decide) (by decide) tw_449 (hc.kc.2.2.2.2.2.2.2.2.2.2.2.1.1 _ (by decide)) (fun H locs q hd => ?_)
        refine lv_astore (lv' := [(6, .ref q), (0, .ref (α 0 g0)), (1, .int x1), (2, .int x2), (3, .int x3), (4, .int x4), (5, .ref (α 81 g5))]) hc.x hc.b dL_fill_21 hl (by decide) rfl (fun ls hl => ?_)
        refine lv_iconst (v := 2) hc.x hc.b dL_fill_23 (by decide) ?_
        cases hf
        exact r_iret hc hd hr dL_fill_24
      · have hf := br_n c1 hf
        by_cases c2 : k9 = 2
        · have hf := br_y c2 hf
          subst c2
          refine x_catch (name := "java/lang/IllegalArgumentException") hc (x_runV hc hd my_X11_fill tw_1190 hL0 rfl rfl rfl (xc_X11_fill l D cs B0 kt α Lv S g0 x1 x2 x3 x4 hc.cl hL0 hq hst) rfl rfl hl.1 (Nat.le_of_ble_eq_true rfl) ⟨Nat.le_of_ble_eq_true rfl, Nat.le_of_ble_eq_true rfl, Nat.le_of_ble_eq_true rfl, Nat.le_of_ble_eq_true rfl⟩ dL_fill_9) hd rfl [⟨0, 14, 17, 21⟩, ⟨0, 14, 21, 13⟩] ⟨0, 14, 25, 15⟩ [] (htab.trans rfl) (List.forall_mem_cons.mpr ⟨⟨by decide, "java/util/NoSuchElementException", tw_554, hc.kc.2.2.2.2.2.2.2.2.2.2.2.1.2.2 _ (by decide) _ (by decide) (by decide)⟩, (List.forall_mem_cons.mpr ⟨⟨by decide, "java/lang/IllegalStateException", tw_449, hc.kc.2.2.2.2.2.2.2.2.2.2.2.1.2.2 _ (by decide) _ (by decide) (by decide)⟩, (fun _ h => absurd h List.not_mem_nil)⟩)⟩) (by decide) (by decide) tw_450 (hc.kc.2.2.2.2.2.2.2.2.2.2.2.1.1 _ (by decide)) (fun H locs q hd => ?_)
          refine lv_astore (lv' := [(6, .ref q), (0, .ref (α 0 g0)), (1, .int x1), (2, .int x2), (3, .int x3), (4, .int x4), (5, .ref (α 81 g5))]) hc.x hc.b dL_fill_25 hl (by decide) rfl (fun ls hl => ?_)
          refine lv_iconst (v := 3) hc.x hc.b dL_fill_27 (by decide) ?_
          cases hf
          exact r_iret hc hd hr dL_fill_28
        · have hf := br_n c2 hf
          cases hf
  · refine k_i (k_runV hc hd my_X11_fill tw_1190 hL0 rfl rfl rfl (c_X11_fill l D cs B0 kt α Lv S g0 x1 x2 x3 x4 hc.cl hL0 hq) rfl rfl hl.1 (Nat.le_of_ble_eq_true rfl) ⟨Nat.le_of_ble_eq_true rfl, Nat.le_of_ble_eq_true rfl, Nat.zero_le _, Nat.zero_le _⟩ dL_fill_9) hd (fun H locs hd => ?_)
    refine lv_i2l (v := Int32.toInt64 r) hc.x hc.b dL_fill_12 rfl ?_
    refine r_last hc hd hL5 (fun _ => rfl) (by decide) dL_fill_13 (fun H locs hd => ?_)
    refine lv_goto (tgt := 29) hc.x hc.b dL_fill_14 (by decide) ?_
    refine lv_iconst (v := 0) hc.x hc.b dL_fill_29 (by decide) ?_
    refine W.widen (k := 1) (n := 6) (Nat.le_of_ble_eq_true rfl) (Nat.le_of_ble_eq_true rfl) ?_
    cases hf
    exact r_iret hc hd hr dL_fill_30
theorem c_L_fill (l : Launch) (D : va_G) (cs : Nat → ClassId) (B0 : Nat) (kt : (Nat → Nat) × (Nat → Nat)) (α : Nat → Nat → Nat) (Lv : Nat → Nat → Prop) (S : St) (g0 : Nat) (x1 : Int32) (x2 : Int32) (x3 : Int32) (x4 : Int32) (g5 : Nat) (hcl : Cl Lv) (hL0 : Lv 0 g0) (hL5 : Lv 81 g5) (hst : l.stackTraces = false) {o : Int32 × St} (hf : f_L_fill g0 x1 x2 x3 x4 g5 S = some o) : Met l yL_fill (wx yL_fill cL_fill 7 (some .int) [(0, 14, 17, 21), (0, 14, 21, 13), (0, 14, 25, 15)]) (Rm 10 1 6) (PzN D cs B0 kt α Lv S [.ref (α 0 g0), .int x1, .int x2, .int x3, .int x4, .ref (α 81 g5)]) (Qi D cs B0 α Lv o.1 o.2) 1 6 (AB B0) := met_ofWH (by decide) rfl hcl (Nat.le_of_ble_eq_true rfl) (fun p e s m below meth c hc hck hr htab hd ls hl => b_L_fill hc hst htab hr hL0 hL5 hf hd hl)
theorem my_L_fill : MyW yL_fill cL_fill 7 (some .int) [(0, 14, 17, 21), (0, 14, 21, 13), (0, 14, 25, 15)] 6 := ⟨tw_1188, tw_0, tw_1189, by decide +kernel⟩
def f_L_fills (g0 : Nat) (x1 : Int32) (g2 : Nat) (S : St) : Option (Int32 × St) := wl (f_X11_fills g0 x1 S) (fun k S => br (k = 3) (some (1, S)) (none)) (fun r S => some (0, sl S 81 g2 (nn 0) (Int32.toInt64 r)))
set_option maxRecDepth 100000 in
set_option maxHeartbeats 4000000 in
theorem b_L_fills (hc : Cx p s m args meth c cL_fills 4 "PumpCrossingLaw" D cs B0 kt Lv) (hst : l.stackTraces = false) (htab : c.exceptionTable.toList = tableOf [(0, 9, 12, 21)]) (hr : meth.sig.returnType = some .int) {o : Int32 × St} {S : St} {g0 : Nat} {x1 : Int32} {g2 : Nat} (hL0 : Lv 0 g0) (hL2 : Lv 81 g2) {H : Heap} {locs : List Loc} {ls : Array Slot} (hf : f_L_fills g0 x1 g2 S = some o) (hd : Dy s D cs B0 α Lv S H locs) (hl : lv_has ls 4 [(0, .ref (α 0 g0)), (1, .int x1), (2, .ref (α 81 g2))]) : W p l e (Rm 9 1 6) s m args below meth c H locs 0 0 (MQ below (Qi D cs B0 α Lv o.1 o.2) args s 1 6 (AB B0)) (F0 m 0 ls []) := by
  unfold f_L_fills at hf
  refine lv_aload_n hc.x hc.b dL_fills_0 rfl (lv_at hl 2 rfl) ?_
  refine lv_iconst (v := 0) hc.x hc.b dL_fills_1 (by decide) ?_
  refine lv_aload_n hc.x hc.b dL_fills_2 rfl (lv_at hl 0 rfl) ?_
  refine lv_iload_n hc.x hc.b dL_fills_3 rfl (lv_at hl 1 rfl) ?_
  rcases wl_s hf with ⟨k9, S9, hq, hf⟩ | ⟨r, S1, hq, hf⟩
  · by_cases c3 : k9 = 3
    · have hf := br_y c3 hf
      subst c3
      refine x_catch (name := "java/util/NoSuchElementException") hc (x_runV hc hd my_X11_fills tw_894 hL0 rfl rfl rfl (xc_X11_fills l D cs B0 kt α Lv S g0 x1 hc.cl hL0 hq hst) rfl rfl hl.1 (Nat.le_of_ble_eq_true rfl) ⟨Nat.le_of_ble_eq_true rfl, Nat.le_of_ble_eq_true rfl, Nat.le_of_ble_eq_true rfl, Nat.le_of_ble_eq_true rfl⟩ dL_fills_4) hd rfl [] ⟨0, 9, 12, 21⟩ [] (htab.trans rfl) (fun _ h => absurd h List.not_mem_nil) (by decide) (by decide) tw_554 (hc.kc.2.2.2.2.2.2.2.2.2.2.2.1.1 _ (by decide)) (fun H locs q hd => ?_)
      refine lv_astore_n (lv' := [(3, .ref q), (0, .ref (α 0 g0)), (1, .int x1), (2, .ref (α 81 g2))]) hc.x hc.b dL_fills_12 rfl hl (by decide) rfl (fun ls hl => ?_)
      refine lv_iconst (v := 1) hc.x hc.b dL_fills_13 (by decide) ?_
      cases hf
      exact r_iret hc hd hr dL_fills_14
    · have hf := br_n c3 hf
      cases hf
  · refine k_i (k_runV hc hd my_X11_fills tw_894 hL0 rfl rfl rfl (c_X11_fills l D cs B0 kt α Lv S g0 x1 hc.cl hL0 hq) rfl rfl hl.1 (Nat.le_of_ble_eq_true rfl) ⟨Nat.le_of_ble_eq_true rfl, Nat.le_of_ble_eq_true rfl, Nat.zero_le _, Nat.zero_le _⟩ dL_fills_4) hd (fun H locs hd => ?_)
    refine lv_i2l (v := Int32.toInt64 r) hc.x hc.b dL_fills_7 rfl ?_
    refine r_last hc hd hL2 (fun _ => rfl) (by decide) dL_fills_8 (fun H locs hd => ?_)
    refine lv_goto (tgt := 15) hc.x hc.b dL_fills_9 (by decide) ?_
    refine lv_iconst (v := 0) hc.x hc.b dL_fills_15 (by decide) ?_
    refine W.widen (k := 1) (n := 6) (Nat.le_of_ble_eq_true rfl) (Nat.le_of_ble_eq_true rfl) ?_
    cases hf
    exact r_iret hc hd hr dL_fills_16
theorem c_L_fills (l : Launch) (D : va_G) (cs : Nat → ClassId) (B0 : Nat) (kt : (Nat → Nat) × (Nat → Nat)) (α : Nat → Nat → Nat) (Lv : Nat → Nat → Prop) (S : St) (g0 : Nat) (x1 : Int32) (g2 : Nat) (hcl : Cl Lv) (hL0 : Lv 0 g0) (hL2 : Lv 81 g2) (hst : l.stackTraces = false) {o : Int32 × St} (hf : f_L_fills g0 x1 g2 S = some o) : Met l yL_fills (wx yL_fills cL_fills 4 (some .int) [(0, 9, 12, 21)]) (Rm 9 1 6) (PzN D cs B0 kt α Lv S [.ref (α 0 g0), .int x1, .ref (α 81 g2)]) (Qi D cs B0 α Lv o.1 o.2) 1 6 (AB B0) := met_ofWH (by decide) rfl hcl (Nat.le_of_ble_eq_true rfl) (fun p e s m below meth c hc hck hr htab hd ls hl => b_L_fills hc hst htab hr hL0 hL2 hf hd hl)
theorem my_L_fills : MyW yL_fills cL_fills 4 (some .int) [(0, 9, 12, 21)] 3 := ⟨tw_892, tw_0, tw_893, by decide +kernel⟩
def f_L_fit (g0 : Nat) (x1 : Int32) (g2 : Nat) (S : St) : Option (Int32 × St) := wl (f_X11_fit g0 x1 S) (fun k S => br (k = 3) (some (1, S)) (none)) (fun r S => some (0, sl S 81 g2 (nn 0) (Int32.toInt64 r)))
set_option maxRecDepth 100000 in
set_option maxHeartbeats 4000000 in
theorem b_L_fit (hc : Cx p s m args meth c cL_fit 4 "PumpCrossingLaw" D cs B0 kt Lv) (hst : l.stackTraces = false) (htab : c.exceptionTable.toList = tableOf [(0, 9, 12, 21)]) (hr : meth.sig.returnType = some .int) {o : Int32 × St} {S : St} {g0 : Nat} {x1 : Int32} {g2 : Nat} (hL0 : Lv 0 g0) (hL2 : Lv 81 g2) {H : Heap} {locs : List Loc} {ls : Array Slot} (hf : f_L_fit g0 x1 g2 S = some o) (hd : Dy s D cs B0 α Lv S H locs) (hl : lv_has ls 4 [(0, .ref (α 0 g0)), (1, .int x1), (2, .ref (α 81 g2))]) : W p l e (Rm 10 1 6) s m args below meth c H locs 0 0 (MQ below (Qi D cs B0 α Lv o.1 o.2) args s 1 6 (AB B0)) (F0 m 0 ls []) := by
  unfold f_L_fit at hf
  refine lv_aload_n hc.x hc.b dL_fit_0 rfl (lv_at hl 2 rfl) ?_
  refine lv_iconst (v := 0) hc.x hc.b dL_fit_1 (by decide) ?_
  refine lv_aload_n hc.x hc.b dL_fit_2 rfl (lv_at hl 0 rfl) ?_
  refine lv_iload_n hc.x hc.b dL_fit_3 rfl (lv_at hl 1 rfl) ?_
  rcases wl_s hf with ⟨k9, S9, hq, hf⟩ | ⟨r, S1, hq, hf⟩
  · by_cases c3 : k9 = 3
    · have hf := br_y c3 hf
      subst c3
      refine x_catch (name := "java/util/NoSuchElementException") hc (x_runV hc hd my_X11_fit tw_1227 hL0 rfl rfl rfl (xc_X11_fit l D cs B0 kt α Lv S g0 x1 hc.cl hL0 hq hst) rfl rfl hl.1 (Nat.le_of_ble_eq_true rfl) ⟨Nat.le_of_ble_eq_true rfl, Nat.le_of_ble_eq_true rfl, Nat.le_of_ble_eq_true rfl, Nat.le_of_ble_eq_true rfl⟩ dL_fit_4) hd rfl [] ⟨0, 9, 12, 21⟩ [] (htab.trans rfl) (fun _ h => absurd h List.not_mem_nil) (by decide) (by decide) tw_554 (hc.kc.2.2.2.2.2.2.2.2.2.2.2.1.1 _ (by decide)) (fun H locs q hd => ?_)
      refine lv_astore_n (lv' := [(3, .ref q), (0, .ref (α 0 g0)), (1, .int x1), (2, .ref (α 81 g2))]) hc.x hc.b dL_fit_12 rfl hl (by decide) rfl (fun ls hl => ?_)
      refine lv_iconst (v := 1) hc.x hc.b dL_fit_13 (by decide) ?_
      cases hf
      exact r_iret hc hd hr dL_fit_14
    · have hf := br_n c3 hf
      cases hf
  · refine k_i (k_runV hc hd my_X11_fit tw_1227 hL0 rfl rfl rfl (c_X11_fit l D cs B0 kt α Lv S g0 x1 hc.cl hL0 hq) rfl rfl hl.1 (Nat.le_of_ble_eq_true rfl) ⟨Nat.le_of_ble_eq_true rfl, Nat.le_of_ble_eq_true rfl, Nat.zero_le _, Nat.zero_le _⟩ dL_fit_4) hd (fun H locs hd => ?_)
    refine lv_i2l (v := Int32.toInt64 r) hc.x hc.b dL_fit_7 rfl ?_
    refine r_last hc hd hL2 (fun _ => rfl) (by decide) dL_fit_8 (fun H locs hd => ?_)
    refine lv_goto (tgt := 15) hc.x hc.b dL_fit_9 (by decide) ?_
    refine lv_iconst (v := 0) hc.x hc.b dL_fit_15 (by decide) ?_
    refine W.widen (k := 1) (n := 6) (Nat.le_of_ble_eq_true rfl) (Nat.le_of_ble_eq_true rfl) ?_
    cases hf
    exact r_iret hc hd hr dL_fit_16
theorem c_L_fit (l : Launch) (D : va_G) (cs : Nat → ClassId) (B0 : Nat) (kt : (Nat → Nat) × (Nat → Nat)) (α : Nat → Nat → Nat) (Lv : Nat → Nat → Prop) (S : St) (g0 : Nat) (x1 : Int32) (g2 : Nat) (hcl : Cl Lv) (hL0 : Lv 0 g0) (hL2 : Lv 81 g2) (hst : l.stackTraces = false) {o : Int32 × St} (hf : f_L_fit g0 x1 g2 S = some o) : Met l yL_fit (wx yL_fit cL_fit 4 (some .int) [(0, 9, 12, 21)]) (Rm 10 1 6) (PzN D cs B0 kt α Lv S [.ref (α 0 g0), .int x1, .ref (α 81 g2)]) (Qi D cs B0 α Lv o.1 o.2) 1 6 (AB B0) := met_ofWH (by decide) rfl hcl (Nat.le_of_ble_eq_true rfl) (fun p e s m below meth c hc hck hr htab hd ls hl => b_L_fit hc hst htab hr hL0 hL2 hf hd hl)
theorem my_L_fit : MyW yL_fit cL_fit 4 (some .int) [(0, 9, 12, 21)] 3 := ⟨tw_1225, tw_0, tw_1226, by decide +kernel⟩
def f_L_gain (g0 : Nat) (x1 : Int32) (x2 : Int32) (x3 : Int32) (x4 : Int32) (x5 : Int32) (g6 : Nat) (S : St) : Option (Int32 × St) := wl (f_X11_gain g0 x1 x2 x3 x4 x5 S) (fun k S => br (k = 3) (some (1, S)) (br (k = 2) (some (2, S)) (br (k = 4) (some (3, S)) (none)))) (fun r S => some (0, sl S 81 g6 (nn 0) (Int32.toInt64 r)))
set_option maxRecDepth 100000 in
set_option maxHeartbeats 4000000 in
theorem b_L_gain (hc : Cx p s m args meth c cL_gain 8 "PumpCrossingLaw" D cs B0 kt Lv) (hst : l.stackTraces = false) (htab : c.exceptionTable.toList = tableOf [(0, 16, 19, 21), (0, 16, 23, 15), (0, 16, 27, 71)]) (hr : meth.sig.returnType = some .int) {o : Int32 × St} {S : St} {g0 : Nat} {x1 : Int32} {x2 : Int32} {x3 : Int32} {x4 : Int32} {x5 : Int32} {g6 : Nat} (hL0 : Lv 0 g0) (hL6 : Lv 81 g6) {H : Heap} {locs : List Loc} {ls : Array Slot} (hf : f_L_gain g0 x1 x2 x3 x4 x5 g6 S = some o) (hd : Dy s D cs B0 α Lv S H locs) (hl : lv_has ls 8 [(0, .ref (α 0 g0)), (1, .int x1), (2, .int x2), (3, .int x3), (4, .int x4), (5, .int x5), (6, .ref (α 81 g6))]) : W p l e (Rm 11 1 6) s m args below meth c H locs 0 0 (MQ below (Qi D cs B0 α Lv o.1 o.2) args s 1 6 (AB B0)) (F0 m 0 ls []) := by
  unfold f_L_gain at hf
  refine lv_aload hc.x hc.b dL_gain_0 (lv_at hl 6 rfl) ?_
  refine lv_iconst (v := 0) hc.x hc.b dL_gain_2 (by decide) ?_
  refine lv_aload_n hc.x hc.b dL_gain_3 rfl (lv_at hl 0 rfl) ?_
  refine lv_iload_n hc.x hc.b dL_gain_4 rfl (lv_at hl 1 rfl) ?_
  refine lv_iload_n hc.x hc.b dL_gain_5 rfl (lv_at hl 2 rfl) ?_
  refine lv_iload_n hc.x hc.b dL_gain_6 rfl (lv_at hl 3 rfl) ?_
  refine lv_iload hc.x hc.b dL_gain_7 (lv_at hl 4 rfl) ?_
  refine lv_iload hc.x hc.b dL_gain_9 (lv_at hl 5 rfl) ?_
  rcases wl_s hf with ⟨k9, S9, hq, hf⟩ | ⟨r, S1, hq, hf⟩
  · by_cases c3 : k9 = 3
    · have hf := br_y c3 hf
      subst c3
      refine x_catch (name := "java/util/NoSuchElementException") hc (x_runV hc hd my_X11_gain tw_967 hL0 rfl rfl rfl (xc_X11_gain l D cs B0 kt α Lv S g0 x1 x2 x3 x4 x5 hc.cl hL0 hq hst) rfl rfl hl.1 (Nat.le_of_ble_eq_true rfl) ⟨Nat.le_of_ble_eq_true rfl, Nat.le_of_ble_eq_true rfl, Nat.le_of_ble_eq_true rfl, Nat.le_of_ble_eq_true rfl⟩ dL_gain_11) hd rfl [] ⟨0, 16, 19, 21⟩ [⟨0, 16, 23, 15⟩, ⟨0, 16, 27, 71⟩] (htab.trans rfl) (fun _ h => absurd h List.not_mem_nil) (by decide) (by decide) tw_554 (hc.kc.2.2.2.2.2.2.2.2.2.2.2.1.1 _ (by decide)) (fun H locs q hd => ?_)
      refine lv_astore (lv' := [(7, .ref q), (0, .ref (α 0 g0)), (1, .int x1), (2, .int x2), (3, .int x3), (4, .int x4), (5, .int x5), (6, .ref (α 81 g6))]) hc.x hc.b dL_gain_19 hl (by decide) rfl (fun ls hl => ?_)
      refine lv_iconst (v := 1) hc.x hc.b dL_gain_21 (by decide) ?_
      cases hf
      exact r_iret hc hd hr dL_gain_22
    · have hf := br_n c3 hf
      by_cases c2 : k9 = 2
      · have hf := br_y c2 hf
        subst c2
        refine x_catch (name := "java/lang/IllegalArgumentException") hc (x_runV hc hd my_X11_gain tw_967 hL0 rfl rfl rfl (xc_X11_gain l D cs B0 kt α Lv S g0 x1 x2 x3 x4 x5 hc.cl hL0 hq hst) rfl rfl hl.1 (Nat.le_of_ble_eq_true rfl) ⟨Nat.le_of_ble_eq_true rfl, Nat.le_of_ble_eq_true rfl, Nat.le_of_ble_eq_true rfl, Nat.le_of_ble_eq_true rfl⟩ dL_gain_11) hd rfl [⟨0, 16, 19, 21⟩] ⟨0, 16, 23, 15⟩ [⟨0, 16, 27, 71⟩] (htab.trans rfl) (List.forall_mem_cons.mpr ⟨⟨by decide, "java/util/NoSuchElementException", tw_554, hc.kc.2.2.2.2.2.2.2.2.2.2.2.1.2.2 _ (by decide) _ (by decide) (by decide)⟩, (fun _ h => absurd h List.not_mem_nil)⟩) (by decide) (by decide) tw_450 (hc.kc.2.2.2.2.2.2.2.2.2.2.2.1.1 _ (by decide)) (fun H locs q hd => ?_)
        refine lv_astore (lv' := [(7, .ref q), (0, .ref (α 0 g0)), (1, .int x1), (2, .int x2), (3, .int x3), (4, .int x4), (5, .int x5), (6, .ref (α 81 g6))]) hc.x hc.b dL_gain_23 hl (by decide) rfl (fun ls hl => ?_)
        refine lv_iconst (v := 2) hc.x hc.b dL_gain_25 (by decide) ?_
        cases hf
        exact r_iret hc hd hr dL_gain_26
      · have hf := br_n c2 hf
        by_cases c4 : k9 = 4
        · have hf := br_y c4 hf
          subst c4
          refine x_catch (name := "java/lang/IndexOutOfBoundsException") hc (x_runV hc hd my_X11_gain tw_967 hL0 rfl rfl rfl (xc_X11_gain l D cs B0 kt α Lv S g0 x1 x2 x3 x4 x5 hc.cl hL0 hq hst) rfl rfl hl.1 (Nat.le_of_ble_eq_true rfl) ⟨Nat.le_of_ble_eq_true rfl, Nat.le_of_ble_eq_true rfl, Nat.le_of_ble_eq_true rfl, Nat.le_of_ble_eq_true rfl⟩ dL_gain_11) hd rfl [⟨0, 16, 19, 21⟩, ⟨0, 16, 23, 15⟩] ⟨0, 16, 27, 71⟩ [] (htab.trans rfl) (List.forall_mem_cons.mpr ⟨⟨by decide, "java/util/NoSuchElementException", tw_554, hc.kc.2.2.2.2.2.2.2.2.2.2.2.1.2.2 _ (by decide) _ (by decide) (by decide)⟩, (List.forall_mem_cons.mpr ⟨⟨by decide, "java/lang/IllegalArgumentException", tw_450, hc.kc.2.2.2.2.2.2.2.2.2.2.2.1.2.2 _ (by decide) _ (by decide) (by decide)⟩, (fun _ h => absurd h List.not_mem_nil)⟩)⟩) (by decide) (by decide) tw_966 (hc.kc.2.2.2.2.2.2.2.2.2.2.2.1.1 _ (by decide)) (fun H locs q hd => ?_)
          refine lv_astore (lv' := [(7, .ref q), (0, .ref (α 0 g0)), (1, .int x1), (2, .int x2), (3, .int x3), (4, .int x4), (5, .int x5), (6, .ref (α 81 g6))]) hc.x hc.b dL_gain_27 hl (by decide) rfl (fun ls hl => ?_)
          refine lv_iconst (v := 3) hc.x hc.b dL_gain_29 (by decide) ?_
          cases hf
          exact r_iret hc hd hr dL_gain_30
        · have hf := br_n c4 hf
          cases hf
  · refine k_i (k_runV hc hd my_X11_gain tw_967 hL0 rfl rfl rfl (c_X11_gain l D cs B0 kt α Lv S g0 x1 x2 x3 x4 x5 hc.cl hL0 hq) rfl rfl hl.1 (Nat.le_of_ble_eq_true rfl) ⟨Nat.le_of_ble_eq_true rfl, Nat.le_of_ble_eq_true rfl, Nat.zero_le _, Nat.zero_le _⟩ dL_gain_11) hd (fun H locs hd => ?_)
    refine lv_i2l (v := Int32.toInt64 r) hc.x hc.b dL_gain_14 rfl ?_
    refine r_last hc hd hL6 (fun _ => rfl) (by decide) dL_gain_15 (fun H locs hd => ?_)
    refine lv_goto (tgt := 31) hc.x hc.b dL_gain_16 (by decide) ?_
    refine lv_iconst (v := 0) hc.x hc.b dL_gain_31 (by decide) ?_
    refine W.widen (k := 1) (n := 6) (Nat.le_of_ble_eq_true rfl) (Nat.le_of_ble_eq_true rfl) ?_
    cases hf
    exact r_iret hc hd hr dL_gain_32
theorem c_L_gain (l : Launch) (D : va_G) (cs : Nat → ClassId) (B0 : Nat) (kt : (Nat → Nat) × (Nat → Nat)) (α : Nat → Nat → Nat) (Lv : Nat → Nat → Prop) (S : St) (g0 : Nat) (x1 : Int32) (x2 : Int32) (x3 : Int32) (x4 : Int32) (x5 : Int32) (g6 : Nat) (hcl : Cl Lv) (hL0 : Lv 0 g0) (hL6 : Lv 81 g6) (hst : l.stackTraces = false) {o : Int32 × St} (hf : f_L_gain g0 x1 x2 x3 x4 x5 g6 S = some o) : Met l yL_gain (wx yL_gain cL_gain 8 (some .int) [(0, 16, 19, 21), (0, 16, 23, 15), (0, 16, 27, 71)]) (Rm 11 1 6) (PzN D cs B0 kt α Lv S [.ref (α 0 g0), .int x1, .int x2, .int x3, .int x4, .int x5, .ref (α 81 g6)]) (Qi D cs B0 α Lv o.1 o.2) 1 6 (AB B0) := met_ofWH (by decide) rfl hcl (Nat.le_of_ble_eq_true rfl) (fun p e s m below meth c hc hck hr htab hd ls hl => b_L_gain hc hst htab hr hL0 hL6 hf hd hl)
theorem my_L_gain : MyW yL_gain cL_gain 8 (some .int) [(0, 16, 19, 21), (0, 16, 23, 15), (0, 16, 27, 71)] 7 := ⟨tw_964, tw_0, tw_965, by decide +kernel⟩
def f_L_gains (g0 : Nat) (x1 : Int32) (x2 : Int32) (x3 : Int32) (x4 : Int32) (x5 : Int32) (g6 : Nat) (S : St) : Option (Int32 × St) := wl (f_X11_gains g0 x1 x2 x3 x4 x5 S) (fun k S => br (k = 3) (some (1, S)) (br (k = 2) (some (2, S)) (br (k = 4) (some (3, S)) (none)))) (fun r S => some (0, sl S 81 g6 (nn 0) r))
set_option maxRecDepth 100000 in
set_option maxHeartbeats 4000000 in
theorem b_L_gains (hc : Cx p s m args meth c cL_gains 8 "PumpCrossingLaw" D cs B0 kt Lv) (hst : l.stackTraces = false) (htab : c.exceptionTable.toList = tableOf [(0, 15, 18, 21), (0, 15, 22, 15), (0, 15, 26, 71)]) (hr : meth.sig.returnType = some .int) {o : Int32 × St} {S : St} {g0 : Nat} {x1 : Int32} {x2 : Int32} {x3 : Int32} {x4 : Int32} {x5 : Int32} {g6 : Nat} (hL0 : Lv 0 g0) (hL6 : Lv 81 g6) {H : Heap} {locs : List Loc} {ls : Array Slot} (hf : f_L_gains g0 x1 x2 x3 x4 x5 g6 S = some o) (hd : Dy s D cs B0 α Lv S H locs) (hl : lv_has ls 8 [(0, .ref (α 0 g0)), (1, .int x1), (2, .int x2), (3, .int x3), (4, .int x4), (5, .int x5), (6, .ref (α 81 g6))]) : W p l e (Rm 12 1 6) s m args below meth c H locs 0 0 (MQ below (Qi D cs B0 α Lv o.1 o.2) args s 1 6 (AB B0)) (F0 m 0 ls []) := by
  unfold f_L_gains at hf
  refine lv_aload hc.x hc.b dL_gains_0 (lv_at hl 6 rfl) ?_
  refine lv_iconst (v := 0) hc.x hc.b dL_gains_2 (by decide) ?_
  refine lv_aload_n hc.x hc.b dL_gains_3 rfl (lv_at hl 0 rfl) ?_
  refine lv_iload_n hc.x hc.b dL_gains_4 rfl (lv_at hl 1 rfl) ?_
  refine lv_iload_n hc.x hc.b dL_gains_5 rfl (lv_at hl 2 rfl) ?_
  refine lv_iload_n hc.x hc.b dL_gains_6 rfl (lv_at hl 3 rfl) ?_
  refine lv_iload hc.x hc.b dL_gains_7 (lv_at hl 4 rfl) ?_
  refine lv_iload hc.x hc.b dL_gains_9 (lv_at hl 5 rfl) ?_
  rcases wl_s hf with ⟨k9, S9, hq, hf⟩ | ⟨r, S1, hq, hf⟩
  · by_cases c3 : k9 = 3
    · have hf := br_y c3 hf
      subst c3
      refine x_catch (name := "java/util/NoSuchElementException") hc (x_runV hc hd my_X11_gains tw_1085 hL0 rfl rfl rfl (xc_X11_gains l D cs B0 kt α Lv S g0 x1 x2 x3 x4 x5 hc.cl hL0 hq hst) rfl rfl hl.1 (Nat.le_of_ble_eq_true rfl) ⟨Nat.le_of_ble_eq_true rfl, Nat.le_of_ble_eq_true rfl, Nat.le_of_ble_eq_true rfl, Nat.le_of_ble_eq_true rfl⟩ dL_gains_11) hd rfl [] ⟨0, 15, 18, 21⟩ [⟨0, 15, 22, 15⟩, ⟨0, 15, 26, 71⟩] (htab.trans rfl) (fun _ h => absurd h List.not_mem_nil) (by decide) (by decide) tw_554 (hc.kc.2.2.2.2.2.2.2.2.2.2.2.1.1 _ (by decide)) (fun H locs q hd => ?_)
      refine lv_astore (lv' := [(7, .ref q), (0, .ref (α 0 g0)), (1, .int x1), (2, .int x2), (3, .int x3), (4, .int x4), (5, .int x5), (6, .ref (α 81 g6))]) hc.x hc.b dL_gains_18 hl (by decide) rfl (fun ls hl => ?_)
      refine lv_iconst (v := 1) hc.x hc.b dL_gains_20 (by decide) ?_
      cases hf
      exact r_iret hc hd hr dL_gains_21
    · have hf := br_n c3 hf
      by_cases c2 : k9 = 2
      · have hf := br_y c2 hf
        subst c2
        refine x_catch (name := "java/lang/IllegalArgumentException") hc (x_runV hc hd my_X11_gains tw_1085 hL0 rfl rfl rfl (xc_X11_gains l D cs B0 kt α Lv S g0 x1 x2 x3 x4 x5 hc.cl hL0 hq hst) rfl rfl hl.1 (Nat.le_of_ble_eq_true rfl) ⟨Nat.le_of_ble_eq_true rfl, Nat.le_of_ble_eq_true rfl, Nat.le_of_ble_eq_true rfl, Nat.le_of_ble_eq_true rfl⟩ dL_gains_11) hd rfl [⟨0, 15, 18, 21⟩] ⟨0, 15, 22, 15⟩ [⟨0, 15, 26, 71⟩] (htab.trans rfl) (List.forall_mem_cons.mpr ⟨⟨by decide, "java/util/NoSuchElementException", tw_554, hc.kc.2.2.2.2.2.2.2.2.2.2.2.1.2.2 _ (by decide) _ (by decide) (by decide)⟩, (fun _ h => absurd h List.not_mem_nil)⟩) (by decide) (by decide) tw_450 (hc.kc.2.2.2.2.2.2.2.2.2.2.2.1.1 _ (by decide)) (fun H locs q hd => ?_)
        refine lv_astore (lv' := [(7, .ref q), (0, .ref (α 0 g0)), (1, .int x1), (2, .int x2), (3, .int x3), (4, .int x4), (5, .int x5), (6, .ref (α 81 g6))]) hc.x hc.b dL_gains_22 hl (by decide) rfl (fun ls hl => ?_)
        refine lv_iconst (v := 2) hc.x hc.b dL_gains_24 (by decide) ?_
        cases hf
        exact r_iret hc hd hr dL_gains_25
      · have hf := br_n c2 hf
        by_cases c4 : k9 = 4
        · have hf := br_y c4 hf
          subst c4
          refine x_catch (name := "java/lang/IndexOutOfBoundsException") hc (x_runV hc hd my_X11_gains tw_1085 hL0 rfl rfl rfl (xc_X11_gains l D cs B0 kt α Lv S g0 x1 x2 x3 x4 x5 hc.cl hL0 hq hst) rfl rfl hl.1 (Nat.le_of_ble_eq_true rfl) ⟨Nat.le_of_ble_eq_true rfl, Nat.le_of_ble_eq_true rfl, Nat.le_of_ble_eq_true rfl, Nat.le_of_ble_eq_true rfl⟩ dL_gains_11) hd rfl [⟨0, 15, 18, 21⟩, ⟨0, 15, 22, 15⟩] ⟨0, 15, 26, 71⟩ [] (htab.trans rfl) (List.forall_mem_cons.mpr ⟨⟨by decide, "java/util/NoSuchElementException", tw_554, hc.kc.2.2.2.2.2.2.2.2.2.2.2.1.2.2 _ (by decide) _ (by decide) (by decide)⟩, (List.forall_mem_cons.mpr ⟨⟨by decide, "java/lang/IllegalArgumentException", tw_450, hc.kc.2.2.2.2.2.2.2.2.2.2.2.1.2.2 _ (by decide) _ (by decide) (by decide)⟩, (fun _ h => absurd h List.not_mem_nil)⟩)⟩) (by decide) (by decide) tw_966 (hc.kc.2.2.2.2.2.2.2.2.2.2.2.1.1 _ (by decide)) (fun H locs q hd => ?_)
          refine lv_astore (lv' := [(7, .ref q), (0, .ref (α 0 g0)), (1, .int x1), (2, .int x2), (3, .int x3), (4, .int x4), (5, .int x5), (6, .ref (α 81 g6))]) hc.x hc.b dL_gains_26 hl (by decide) rfl (fun ls hl => ?_)
          refine lv_iconst (v := 3) hc.x hc.b dL_gains_28 (by decide) ?_
          cases hf
          exact r_iret hc hd hr dL_gains_29
        · have hf := br_n c4 hf
          cases hf
  · refine k_l (k_runV hc hd my_X11_gains tw_1085 hL0 rfl rfl rfl (c_X11_gains l D cs B0 kt α Lv S g0 x1 x2 x3 x4 x5 hc.cl hL0 hq) rfl rfl hl.1 (Nat.le_of_ble_eq_true rfl) ⟨Nat.le_of_ble_eq_true rfl, Nat.le_of_ble_eq_true rfl, Nat.zero_le _, Nat.zero_le _⟩ dL_gains_11) hd (fun H locs hd => ?_)
    refine r_last hc hd hL6 (fun _ => rfl) (by decide) dL_gains_14 (fun H locs hd => ?_)
    refine lv_goto (tgt := 30) hc.x hc.b dL_gains_15 (by decide) ?_
    refine lv_iconst (v := 0) hc.x hc.b dL_gains_30 (by decide) ?_
    refine W.widen (k := 1) (n := 6) (Nat.le_of_ble_eq_true rfl) (Nat.le_of_ble_eq_true rfl) ?_
    cases hf
    exact r_iret hc hd hr dL_gains_31
theorem c_L_gains (l : Launch) (D : va_G) (cs : Nat → ClassId) (B0 : Nat) (kt : (Nat → Nat) × (Nat → Nat)) (α : Nat → Nat → Nat) (Lv : Nat → Nat → Prop) (S : St) (g0 : Nat) (x1 : Int32) (x2 : Int32) (x3 : Int32) (x4 : Int32) (x5 : Int32) (g6 : Nat) (hcl : Cl Lv) (hL0 : Lv 0 g0) (hL6 : Lv 81 g6) (hst : l.stackTraces = false) {o : Int32 × St} (hf : f_L_gains g0 x1 x2 x3 x4 x5 g6 S = some o) : Met l yL_gains (wx yL_gains cL_gains 8 (some .int) [(0, 15, 18, 21), (0, 15, 22, 15), (0, 15, 26, 71)]) (Rm 12 1 6) (PzN D cs B0 kt α Lv S [.ref (α 0 g0), .int x1, .int x2, .int x3, .int x4, .int x5, .ref (α 81 g6)]) (Qi D cs B0 α Lv o.1 o.2) 1 6 (AB B0) := met_ofWH (by decide) rfl hcl (Nat.le_of_ble_eq_true rfl) (fun p e s m below meth c hc hck hr htab hd ls hl => b_L_gains hc hst htab hr hL0 hL6 hf hd hl)
theorem my_L_gains : MyW yL_gains cL_gains 8 (some .int) [(0, 15, 18, 21), (0, 15, 22, 15), (0, 15, 26, 71)] 7 := ⟨tw_1083, tw_0, tw_1084, by decide +kernel⟩
def f_L_joint (g0 : Nat) (x1 : Int32) (x2 : Int32) (g3 : Nat) (S : St) : Option (Int32 × St) := wl (f_X11_joint g0 x1 x2 S) (fun k S => br (k = 3) (some (1, S)) (br (k = 2) (some (2, S)) (none))) (fun r S => some (0, sl S 81 g3 (nn 0) (Int32.toInt64 r)))
set_option maxRecDepth 100000 in
set_option maxHeartbeats 4000000 in
theorem b_L_joint (hc : Cx p s m args meth c cL_joint 5 "PumpCrossingLaw" D cs B0 kt Lv) (hst : l.stackTraces = false) (htab : c.exceptionTable.toList = tableOf [(0, 10, 13, 21), (0, 10, 17, 15)]) (hr : meth.sig.returnType = some .int) {o : Int32 × St} {S : St} {g0 : Nat} {x1 : Int32} {x2 : Int32} {g3 : Nat} (hL0 : Lv 0 g0) (hL3 : Lv 81 g3) {H : Heap} {locs : List Loc} {ls : Array Slot} (hf : f_L_joint g0 x1 x2 g3 S = some o) (hd : Dy s D cs B0 α Lv S H locs) (hl : lv_has ls 5 [(0, .ref (α 0 g0)), (1, .int x1), (2, .int x2), (3, .ref (α 81 g3))]) : W p l e (Rm 11 1 6) s m args below meth c H locs 0 0 (MQ below (Qi D cs B0 α Lv o.1 o.2) args s 1 6 (AB B0)) (F0 m 0 ls []) := by
  unfold f_L_joint at hf
  refine lv_aload_n hc.x hc.b dL_joint_0 rfl (lv_at hl 3 rfl) ?_
  refine lv_iconst (v := 0) hc.x hc.b dL_joint_1 (by decide) ?_
  refine lv_aload_n hc.x hc.b dL_joint_2 rfl (lv_at hl 0 rfl) ?_
  refine lv_iload_n hc.x hc.b dL_joint_3 rfl (lv_at hl 1 rfl) ?_
  refine lv_iload_n hc.x hc.b dL_joint_4 rfl (lv_at hl 2 rfl) ?_
  rcases wl_s hf with ⟨k9, S9, hq, hf⟩ | ⟨r, S1, hq, hf⟩
  · by_cases c3 : k9 = 3
    · have hf := br_y c3 hf
      subst c3
      refine x_catch (name := "java/util/NoSuchElementException") hc (x_runV hc hd my_X11_joint tw_1043 hL0 rfl rfl rfl (xc_X11_joint l D cs B0 kt α Lv S g0 x1 x2 hc.cl hL0 hq hst) rfl rfl hl.1 (Nat.le_of_ble_eq_true rfl) ⟨Nat.le_of_ble_eq_true rfl, Nat.le_of_ble_eq_true rfl, Nat.le_of_ble_eq_true rfl, Nat.le_of_ble_eq_true rfl⟩ dL_joint_5) hd rfl [] ⟨0, 10, 13, 21⟩ [⟨0, 10, 17, 15⟩] (htab.trans rfl) (fun _ h => absurd h List.not_mem_nil) (by decide) (by decide) tw_554 (hc.kc.2.2.2.2.2.2.2.2.2.2.2.1.1 _ (by decide)) (fun H locs q hd => ?_)
      refine lv_astore (lv' := [(4, .ref q), (0, .ref (α 0 g0)), (1, .int x1), (2, .int x2), (3, .ref (α 81 g3))]) hc.x hc.b dL_joint_13 hl (by decide) rfl (fun ls hl => ?_)
      refine lv_iconst (v := 1) hc.x hc.b dL_joint_15 (by decide) ?_
      cases hf
      exact r_iret hc hd hr dL_joint_16
    · have hf := br_n c3 hf
      by_cases c2 : k9 = 2
      · have hf := br_y c2 hf
        subst c2
        refine x_catch (name := "java/lang/IllegalArgumentException") hc (x_runV hc hd my_X11_joint tw_1043 hL0 rfl rfl rfl (xc_X11_joint l D cs B0 kt α Lv S g0 x1 x2 hc.cl hL0 hq hst) rfl rfl hl.1 (Nat.le_of_ble_eq_true rfl) ⟨Nat.le_of_ble_eq_true rfl, Nat.le_of_ble_eq_true rfl, Nat.le_of_ble_eq_true rfl, Nat.le_of_ble_eq_true rfl⟩ dL_joint_5) hd rfl [⟨0, 10, 13, 21⟩] ⟨0, 10, 17, 15⟩ [] (htab.trans rfl) (List.forall_mem_cons.mpr ⟨⟨by decide, "java/util/NoSuchElementException", tw_554, hc.kc.2.2.2.2.2.2.2.2.2.2.2.1.2.2 _ (by decide) _ (by decide) (by decide)⟩, (fun _ h => absurd h List.not_mem_nil)⟩) (by decide) (by decide) tw_450 (hc.kc.2.2.2.2.2.2.2.2.2.2.2.1.1 _ (by decide)) (fun H locs q hd => ?_)
        refine lv_astore (lv' := [(4, .ref q), (0, .ref (α 0 g0)), (1, .int x1), (2, .int x2), (3, .ref (α 81 g3))]) hc.x hc.b dL_joint_17 hl (by decide) rfl (fun ls hl => ?_)
        refine lv_iconst (v := 2) hc.x hc.b dL_joint_19 (by decide) ?_
        cases hf
        exact r_iret hc hd hr dL_joint_20
      · have hf := br_n c2 hf
        cases hf
  · refine k_i (k_runV hc hd my_X11_joint tw_1043 hL0 rfl rfl rfl (c_X11_joint l D cs B0 kt α Lv S g0 x1 x2 hc.cl hL0 hq) rfl rfl hl.1 (Nat.le_of_ble_eq_true rfl) ⟨Nat.le_of_ble_eq_true rfl, Nat.le_of_ble_eq_true rfl, Nat.zero_le _, Nat.zero_le _⟩ dL_joint_5) hd (fun H locs hd => ?_)
    refine lv_i2l (v := Int32.toInt64 r) hc.x hc.b dL_joint_8 rfl ?_
    refine r_last hc hd hL3 (fun _ => rfl) (by decide) dL_joint_9 (fun H locs hd => ?_)
    refine lv_goto (tgt := 21) hc.x hc.b dL_joint_10 (by decide) ?_
    refine lv_iconst (v := 0) hc.x hc.b dL_joint_21 (by decide) ?_
    refine W.widen (k := 1) (n := 6) (Nat.le_of_ble_eq_true rfl) (Nat.le_of_ble_eq_true rfl) ?_
    cases hf
    exact r_iret hc hd hr dL_joint_22
theorem c_L_joint (l : Launch) (D : va_G) (cs : Nat → ClassId) (B0 : Nat) (kt : (Nat → Nat) × (Nat → Nat)) (α : Nat → Nat → Nat) (Lv : Nat → Nat → Prop) (S : St) (g0 : Nat) (x1 : Int32) (x2 : Int32) (g3 : Nat) (hcl : Cl Lv) (hL0 : Lv 0 g0) (hL3 : Lv 81 g3) (hst : l.stackTraces = false) {o : Int32 × St} (hf : f_L_joint g0 x1 x2 g3 S = some o) : Met l yL_joint (wx yL_joint cL_joint 5 (some .int) [(0, 10, 13, 21), (0, 10, 17, 15)]) (Rm 11 1 6) (PzN D cs B0 kt α Lv S [.ref (α 0 g0), .int x1, .int x2, .ref (α 81 g3)]) (Qi D cs B0 α Lv o.1 o.2) 1 6 (AB B0) := met_ofWH (by decide) rfl hcl (Nat.le_of_ble_eq_true rfl) (fun p e s m below meth c hc hck hr htab hd ls hl => b_L_joint hc hst htab hr hL0 hL3 hf hd hl)
theorem my_L_joint : MyW yL_joint cL_joint 5 (some .int) [(0, 10, 13, 21), (0, 10, 17, 15)] 4 := ⟨tw_1041, tw_0, tw_1042, by decide +kernel⟩
def f_L_late (g0 : Nat) (x1 : Int32) (x2 : Int32) (g3 : Nat) (S : St) : Option (Int32 × St) := wl (f_X11_late g0 x1 x2 S) (fun k S => br (k = 3) (some (1, S)) (br (k = 2) (some (2, S)) (none))) (fun r S => some (0, sl S 81 g3 (nn 0) (Int32.toInt64 r)))
set_option maxRecDepth 100000 in
set_option maxHeartbeats 4000000 in
theorem b_L_late (hc : Cx p s m args meth c cL_late 5 "PumpCrossingLaw" D cs B0 kt Lv) (hst : l.stackTraces = false) (htab : c.exceptionTable.toList = tableOf [(0, 10, 13, 21), (0, 10, 17, 15)]) (hr : meth.sig.returnType = some .int) {o : Int32 × St} {S : St} {g0 : Nat} {x1 : Int32} {x2 : Int32} {g3 : Nat} (hL0 : Lv 0 g0) (hL3 : Lv 81 g3) {H : Heap} {locs : List Loc} {ls : Array Slot} (hf : f_L_late g0 x1 x2 g3 S = some o) (hd : Dy s D cs B0 α Lv S H locs) (hl : lv_has ls 5 [(0, .ref (α 0 g0)), (1, .int x1), (2, .int x2), (3, .ref (α 81 g3))]) : W p l e (Rm 10 1 6) s m args below meth c H locs 0 0 (MQ below (Qi D cs B0 α Lv o.1 o.2) args s 1 6 (AB B0)) (F0 m 0 ls []) := by
  unfold f_L_late at hf
  refine lv_aload_n hc.x hc.b dL_late_0 rfl (lv_at hl 3 rfl) ?_
  refine lv_iconst (v := 0) hc.x hc.b dL_late_1 (by decide) ?_
  refine lv_aload_n hc.x hc.b dL_late_2 rfl (lv_at hl 0 rfl) ?_
  refine lv_iload_n hc.x hc.b dL_late_3 rfl (lv_at hl 1 rfl) ?_
  refine lv_iload_n hc.x hc.b dL_late_4 rfl (lv_at hl 2 rfl) ?_
  rcases wl_s hf with ⟨k9, S9, hq, hf⟩ | ⟨r, S1, hq, hf⟩
  · by_cases c3 : k9 = 3
    · have hf := br_y c3 hf
      subst c3
      refine x_catch (name := "java/util/NoSuchElementException") hc (x_runV hc hd my_X11_late tw_604 hL0 rfl rfl rfl (xc_X11_late l D cs B0 kt α Lv S g0 x1 x2 hc.cl hL0 hq hst) rfl rfl hl.1 (Nat.le_of_ble_eq_true rfl) ⟨Nat.le_of_ble_eq_true rfl, Nat.le_of_ble_eq_true rfl, Nat.le_of_ble_eq_true rfl, Nat.le_of_ble_eq_true rfl⟩ dL_late_5) hd rfl [] ⟨0, 10, 13, 21⟩ [⟨0, 10, 17, 15⟩] (htab.trans rfl) (fun _ h => absurd h List.not_mem_nil) (by decide) (by decide) tw_554 (hc.kc.2.2.2.2.2.2.2.2.2.2.2.1.1 _ (by decide)) (fun H locs q hd => ?_)
      refine lv_astore (lv' := [(4, .ref q), (0, .ref (α 0 g0)), (1, .int x1), (2, .int x2), (3, .ref (α 81 g3))]) hc.x hc.b dL_late_13 hl (by decide) rfl (fun ls hl => ?_)
      refine lv_iconst (v := 1) hc.x hc.b dL_late_15 (by decide) ?_
      cases hf
      exact r_iret hc hd hr dL_late_16
    · have hf := br_n c3 hf
      by_cases c2 : k9 = 2
      · have hf := br_y c2 hf
        subst c2
        refine x_catch (name := "java/lang/IllegalArgumentException") hc (x_runV hc hd my_X11_late tw_604 hL0 rfl rfl rfl (xc_X11_late l D cs B0 kt α Lv S g0 x1 x2 hc.cl hL0 hq hst) rfl rfl hl.1 (Nat.le_of_ble_eq_true rfl) ⟨Nat.le_of_ble_eq_true rfl, Nat.le_of_ble_eq_true rfl, Nat.le_of_ble_eq_true rfl, Nat.le_of_ble_eq_true rfl⟩ dL_late_5) hd rfl [⟨0, 10, 13, 21⟩] ⟨0, 10, 17, 15⟩ [] (htab.trans rfl) (List.forall_mem_cons.mpr ⟨⟨by decide, "java/util/NoSuchElementException", tw_554, hc.kc.2.2.2.2.2.2.2.2.2.2.2.1.2.2 _ (by decide) _ (by decide) (by decide)⟩, (fun _ h => absurd h List.not_mem_nil)⟩) (by decide) (by decide) tw_450 (hc.kc.2.2.2.2.2.2.2.2.2.2.2.1.1 _ (by decide)) (fun H locs q hd => ?_)
        refine lv_astore (lv' := [(4, .ref q), (0, .ref (α 0 g0)), (1, .int x1), (2, .int x2), (3, .ref (α 81 g3))]) hc.x hc.b dL_late_17 hl (by decide) rfl (fun ls hl => ?_)
        refine lv_iconst (v := 2) hc.x hc.b dL_late_19 (by decide) ?_
        cases hf
        exact r_iret hc hd hr dL_late_20
      · have hf := br_n c2 hf
        cases hf
  · refine k_i (k_runV hc hd my_X11_late tw_604 hL0 rfl rfl rfl (c_X11_late l D cs B0 kt α Lv S g0 x1 x2 hc.cl hL0 hq) rfl rfl hl.1 (Nat.le_of_ble_eq_true rfl) ⟨Nat.le_of_ble_eq_true rfl, Nat.le_of_ble_eq_true rfl, Nat.zero_le _, Nat.zero_le _⟩ dL_late_5) hd (fun H locs hd => ?_)
    refine lv_i2l (v := Int32.toInt64 r) hc.x hc.b dL_late_8 rfl ?_
    refine r_last hc hd hL3 (fun _ => rfl) (by decide) dL_late_9 (fun H locs hd => ?_)
    refine lv_goto (tgt := 21) hc.x hc.b dL_late_10 (by decide) ?_
    refine lv_iconst (v := 0) hc.x hc.b dL_late_21 (by decide) ?_
    refine W.widen (k := 1) (n := 6) (Nat.le_of_ble_eq_true rfl) (Nat.le_of_ble_eq_true rfl) ?_
    cases hf
    exact r_iret hc hd hr dL_late_22
theorem c_L_late (l : Launch) (D : va_G) (cs : Nat → ClassId) (B0 : Nat) (kt : (Nat → Nat) × (Nat → Nat)) (α : Nat → Nat → Nat) (Lv : Nat → Nat → Prop) (S : St) (g0 : Nat) (x1 : Int32) (x2 : Int32) (g3 : Nat) (hcl : Cl Lv) (hL0 : Lv 0 g0) (hL3 : Lv 81 g3) (hst : l.stackTraces = false) {o : Int32 × St} (hf : f_L_late g0 x1 x2 g3 S = some o) : Met l yL_late (wx yL_late cL_late 5 (some .int) [(0, 10, 13, 21), (0, 10, 17, 15)]) (Rm 10 1 6) (PzN D cs B0 kt α Lv S [.ref (α 0 g0), .int x1, .int x2, .ref (α 81 g3)]) (Qi D cs B0 α Lv o.1 o.2) 1 6 (AB B0) := met_ofWH (by decide) rfl hcl (Nat.le_of_ble_eq_true rfl) (fun p e s m below meth c hc hck hr htab hd ls hl => b_L_late hc hst htab hr hL0 hL3 hf hd hl)
theorem my_L_late : MyW yL_late cL_late 5 (some .int) [(0, 10, 13, 21), (0, 10, 17, 15)] 4 := ⟨tw_602, tw_0, tw_603, by decide +kernel⟩
def f_L_leads (g0 : Nat) (x1 : Int32) (x2 : Int32) (g3 : Nat) (S : St) : Option (Int32 × St) := wl (f_X11_leads g0 x1 x2 S) (fun k S => br (k = 3) (some (1, S)) (none)) (fun r S => some (0, sl S 81 g3 (nn 0) (Int32.toInt64 r)))
set_option maxRecDepth 100000 in
set_option maxHeartbeats 4000000 in
theorem b_L_leads (hc : Cx p s m args meth c cL_leads 5 "PumpCrossingLaw" D cs B0 kt Lv) (hst : l.stackTraces = false) (htab : c.exceptionTable.toList = tableOf [(0, 10, 13, 21)]) (hr : meth.sig.returnType = some .int) {o : Int32 × St} {S : St} {g0 : Nat} {x1 : Int32} {x2 : Int32} {g3 : Nat} (hL0 : Lv 0 g0) (hL3 : Lv 81 g3) {H : Heap} {locs : List Loc} {ls : Array Slot} (hf : f_L_leads g0 x1 x2 g3 S = some o) (hd : Dy s D cs B0 α Lv S H locs) (hl : lv_has ls 5 [(0, .ref (α 0 g0)), (1, .int x1), (2, .int x2), (3, .ref (α 81 g3))]) : W p l e (Rm 10 1 6) s m args below meth c H locs 0 0 (MQ below (Qi D cs B0 α Lv o.1 o.2) args s 1 6 (AB B0)) (F0 m 0 ls []) := by
  unfold f_L_leads at hf
  refine lv_aload_n hc.x hc.b dL_leads_0 rfl (lv_at hl 3 rfl) ?_
  refine lv_iconst (v := 0) hc.x hc.b dL_leads_1 (by decide) ?_
  refine lv_aload_n hc.x hc.b dL_leads_2 rfl (lv_at hl 0 rfl) ?_
  refine lv_iload_n hc.x hc.b dL_leads_3 rfl (lv_at hl 1 rfl) ?_
  refine lv_iload_n hc.x hc.b dL_leads_4 rfl (lv_at hl 2 rfl) ?_
  rcases wl_s hf with ⟨k9, S9, hq, hf⟩ | ⟨r, S1, hq, hf⟩
  · by_cases c3 : k9 = 3
    · have hf := br_y c3 hf
      subst c3
      refine x_catch (name := "java/util/NoSuchElementException") hc (x_runV hc hd my_X11_leads tw_908 hL0 rfl rfl rfl (xc_X11_leads l D cs B0 kt α Lv S g0 x1 x2 hc.cl hL0 hq hst) rfl rfl hl.1 (Nat.le_of_ble_eq_true rfl) ⟨Nat.le_of_ble_eq_true rfl, Nat.le_of_ble_eq_true rfl, Nat.le_of_ble_eq_true rfl, Nat.le_of_ble_eq_true rfl⟩ dL_leads_5) hd rfl [] ⟨0, 10, 13, 21⟩ [] (htab.trans rfl) (fun _ h => absurd h List.not_mem_nil) (by decide) (by decide) tw_554 (hc.kc.2.2.2.2.2.2.2.2.2.2.2.1.1 _ (by decide)) (fun H locs q hd => ?_)
      refine lv_astore (lv' := [(4, .ref q), (0, .ref (α 0 g0)), (1, .int x1), (2, .int x2), (3, .ref (α 81 g3))]) hc.x hc.b dL_leads_13 hl (by decide) rfl (fun ls hl => ?_)
      refine lv_iconst (v := 1) hc.x hc.b dL_leads_15 (by decide) ?_
      cases hf
      exact r_iret hc hd hr dL_leads_16
    · have hf := br_n c3 hf
      cases hf
  · refine k_i (k_runV hc hd my_X11_leads tw_908 hL0 rfl rfl rfl (c_X11_leads l D cs B0 kt α Lv S g0 x1 x2 hc.cl hL0 hq) rfl rfl hl.1 (Nat.le_of_ble_eq_true rfl) ⟨Nat.le_of_ble_eq_true rfl, Nat.le_of_ble_eq_true rfl, Nat.zero_le _, Nat.zero_le _⟩ dL_leads_5) hd (fun H locs hd => ?_)
    refine lv_i2l (v := Int32.toInt64 r) hc.x hc.b dL_leads_8 rfl ?_
    refine r_last hc hd hL3 (fun _ => rfl) (by decide) dL_leads_9 (fun H locs hd => ?_)
    refine lv_goto (tgt := 17) hc.x hc.b dL_leads_10 (by decide) ?_
    refine lv_iconst (v := 0) hc.x hc.b dL_leads_17 (by decide) ?_
    refine W.widen (k := 1) (n := 6) (Nat.le_of_ble_eq_true rfl) (Nat.le_of_ble_eq_true rfl) ?_
    cases hf
    exact r_iret hc hd hr dL_leads_18
theorem c_L_leads (l : Launch) (D : va_G) (cs : Nat → ClassId) (B0 : Nat) (kt : (Nat → Nat) × (Nat → Nat)) (α : Nat → Nat → Nat) (Lv : Nat → Nat → Prop) (S : St) (g0 : Nat) (x1 : Int32) (x2 : Int32) (g3 : Nat) (hcl : Cl Lv) (hL0 : Lv 0 g0) (hL3 : Lv 81 g3) (hst : l.stackTraces = false) {o : Int32 × St} (hf : f_L_leads g0 x1 x2 g3 S = some o) : Met l yL_leads (wx yL_leads cL_leads 5 (some .int) [(0, 10, 13, 21)]) (Rm 10 1 6) (PzN D cs B0 kt α Lv S [.ref (α 0 g0), .int x1, .int x2, .ref (α 81 g3)]) (Qi D cs B0 α Lv o.1 o.2) 1 6 (AB B0) := met_ofWH (by decide) rfl hcl (Nat.le_of_ble_eq_true rfl) (fun p e s m below meth c hc hck hr htab hd ls hl => b_L_leads hc hst htab hr hL0 hL3 hf hd hl)
theorem my_L_leads : MyW yL_leads cL_leads 5 (some .int) [(0, 10, 13, 21)] 4 := ⟨tw_906, tw_0, tw_907, by decide +kernel⟩
def f_L_learn (g0 : Nat) (x1 : Int32) (x2 : Int32) (x3 : Int32) (x4 : Int32) (g5 : Nat) (S : St) : Option (Int32 × St) := wl (f_X11_learn g0 x1 x2 x3 x4 S) (fun k S => br (k = 3) (some (1, S)) (br (k = 2) (some (2, S)) (none))) (fun r S => some (0, sl S 81 g5 (nn 0) (Int32.toInt64 r)))
set_option maxRecDepth 100000 in
set_option maxHeartbeats 4000000 in
theorem b_L_learn (hc : Cx p s m args meth c cL_learn 7 "PumpCrossingLaw" D cs B0 kt Lv) (hst : l.stackTraces = false) (htab : c.exceptionTable.toList = tableOf [(0, 14, 17, 21), (0, 14, 21, 15)]) (hr : meth.sig.returnType = some .int) {o : Int32 × St} {S : St} {g0 : Nat} {x1 : Int32} {x2 : Int32} {x3 : Int32} {x4 : Int32} {g5 : Nat} (hL0 : Lv 0 g0) (hL5 : Lv 81 g5) {H : Heap} {locs : List Loc} {ls : Array Slot} (hf : f_L_learn g0 x1 x2 x3 x4 g5 S = some o) (hd : Dy s D cs B0 α Lv S H locs) (hl : lv_has ls 7 [(0, .ref (α 0 g0)), (1, .int x1), (2, .int x2), (3, .int x3), (4, .int x4), (5, .ref (α 81 g5))]) : W p l e (Rm 11 1 6) s m args below meth c H locs 0 0 (MQ below (Qi D cs B0 α Lv o.1 o.2) args s 1 6 (AB B0)) (F0 m 0 ls []) := by
  unfold f_L_learn at hf
  refine lv_aload hc.x hc.b dL_learn_0 (lv_at hl 5 rfl) ?_
  refine lv_iconst (v := 0) hc.x hc.b dL_learn_2 (by decide) ?_
  refine lv_aload_n hc.x hc.b dL_learn_3 rfl (lv_at hl 0 rfl) ?_
  refine lv_iload_n hc.x hc.b dL_learn_4 rfl (lv_at hl 1 rfl) ?_
  refine lv_iload_n hc.x hc.b dL_learn_5 rfl (lv_at hl 2 rfl) ?_
  refine lv_iload_n hc.x hc.b dL_learn_6 rfl (lv_at hl 3 rfl) ?_
  refine lv_iload hc.x hc.b dL_learn_7 (lv_at hl 4 rfl) ?_
  rcases wl_s hf with ⟨k9, S9, hq, hf⟩ | ⟨r, S1, hq, hf⟩
  · by_cases c3 : k9 = 3
    · have hf := br_y c3 hf
      subst c3
      refine x_catch (name := "java/util/NoSuchElementException") hc (x_runV hc hd my_X11_learn tw_1092 hL0 rfl rfl rfl (xc_X11_learn l D cs B0 kt α Lv S g0 x1 x2 x3 x4 hc.cl hL0 hq hst) rfl rfl hl.1 (Nat.le_of_ble_eq_true rfl) ⟨Nat.le_of_ble_eq_true rfl, Nat.le_of_ble_eq_true rfl, Nat.le_of_ble_eq_true rfl, Nat.le_of_ble_eq_true rfl⟩ dL_learn_9) hd rfl [] ⟨0, 14, 17, 21⟩ [⟨0, 14, 21, 15⟩] (htab.trans rfl) (fun _ h => absurd h List.not_mem_nil) (by decide) (by decide) tw_554 (hc.kc.2.2.2.2.2.2.2.2.2.2.2.1.1 _ (by decide)) (fun H locs q hd => ?_)
      refine lv_astore (lv' := [(6, .ref q), (0, .ref (α 0 g0)), (1, .int x1), (2, .int x2), (3, .int x3), (4, .int x4), (5, .ref (α 81 g5))]) hc.x hc.b dL_learn_17 hl (by decide) rfl (fun ls hl => ?_)
      refine lv_iconst (v := 1) hc.x hc.b dL_learn_19 (by decide) ?_
      cases hf
      exact r_iret hc hd hr dL_learn_20
    · have hf := br_n c3 hf
      by_cases c2 : k9 = 2
      · have hf := br_y c2 hf
        subst c2
        refine x_catch (name := "java/lang/IllegalArgumentException") hc (x_runV hc hd my_X11_learn tw_1092 hL0 rfl rfl rfl (xc_X11_learn l D cs B0 kt α Lv S g0 x1 x2 x3 x4 hc.cl hL0 hq hst) rfl rfl hl.1 (Nat.le_of_ble_eq_true rfl) ⟨Nat.le_of_ble_eq_true rfl, Nat.le_of_ble_eq_true rfl, Nat.le_of_ble_eq_true rfl, Nat.le_of_ble_eq_true rfl⟩ dL_learn_9) hd rfl [⟨0, 14, 17, 21⟩] ⟨0, 14, 21, 15⟩ [] (htab.trans rfl) (List.forall_mem_cons.mpr ⟨⟨by decide, "java/util/NoSuchElementException", tw_554, hc.kc.2.2.2.2.2.2.2.2.2.2.2.1.2.2 _ (by decide) _ (by decide) (by decide)⟩, (fun _ h => absurd h List.not_mem_nil)⟩) (by decide) (by decide) tw_450 (hc.kc.2.2.2.2.2.2.2.2.2.2.2.1.1 _ (by decide)) (fun H locs q hd => ?_)
        refine lv_astore (lv' := [(6, .ref q), (0, .ref (α 0 g0)), (1, .int x1), (2, .int x2), (3, .int x3), (4, .int x4), (5, .ref (α 81 g5))]) hc.x hc.b dL_learn_21 hl (by decide) rfl (fun ls hl => ?_)
        refine lv_iconst (v := 2) hc.x hc.b dL_learn_23 (by decide) ?_
        cases hf
        exact r_iret hc hd hr dL_learn_24
      · have hf := br_n c2 hf
        cases hf
  · refine k_i (k_runV hc hd my_X11_learn tw_1092 hL0 rfl rfl rfl (c_X11_learn l D cs B0 kt α Lv S g0 x1 x2 x3 x4 hc.cl hL0 hq) rfl rfl hl.1 (Nat.le_of_ble_eq_true rfl) ⟨Nat.le_of_ble_eq_true rfl, Nat.le_of_ble_eq_true rfl, Nat.zero_le _, Nat.zero_le _⟩ dL_learn_9) hd (fun H locs hd => ?_)
    refine lv_i2l (v := Int32.toInt64 r) hc.x hc.b dL_learn_12 rfl ?_
    refine r_last hc hd hL5 (fun _ => rfl) (by decide) dL_learn_13 (fun H locs hd => ?_)
    refine lv_goto (tgt := 25) hc.x hc.b dL_learn_14 (by decide) ?_
    refine lv_iconst (v := 0) hc.x hc.b dL_learn_25 (by decide) ?_
    refine W.widen (k := 1) (n := 6) (Nat.le_of_ble_eq_true rfl) (Nat.le_of_ble_eq_true rfl) ?_
    cases hf
    exact r_iret hc hd hr dL_learn_26
theorem c_L_learn (l : Launch) (D : va_G) (cs : Nat → ClassId) (B0 : Nat) (kt : (Nat → Nat) × (Nat → Nat)) (α : Nat → Nat → Nat) (Lv : Nat → Nat → Prop) (S : St) (g0 : Nat) (x1 : Int32) (x2 : Int32) (x3 : Int32) (x4 : Int32) (g5 : Nat) (hcl : Cl Lv) (hL0 : Lv 0 g0) (hL5 : Lv 81 g5) (hst : l.stackTraces = false) {o : Int32 × St} (hf : f_L_learn g0 x1 x2 x3 x4 g5 S = some o) : Met l yL_learn (wx yL_learn cL_learn 7 (some .int) [(0, 14, 17, 21), (0, 14, 21, 15)]) (Rm 11 1 6) (PzN D cs B0 kt α Lv S [.ref (α 0 g0), .int x1, .int x2, .int x3, .int x4, .ref (α 81 g5)]) (Qi D cs B0 α Lv o.1 o.2) 1 6 (AB B0) := met_ofWH (by decide) rfl hcl (Nat.le_of_ble_eq_true rfl) (fun p e s m below meth c hc hck hr htab hd ls hl => b_L_learn hc hst htab hr hL0 hL5 hf hd hl)
theorem my_L_learn : MyW yL_learn cL_learn 7 (some .int) [(0, 14, 17, 21), (0, 14, 21, 15)] 6 := ⟨tw_1090, tw_0, tw_1091, by decide +kernel⟩
def f_L_level (g0 : Nat) (x1 : Int32) (g2 : Nat) (S : St) : Option (Int32 × St) := wl (f_X11_level g0 x1 S) (fun k S => br (k = 2) (some (1, S)) (none)) (fun r S => some (0, sl S 81 g2 (nn 0) (Int32.toInt64 r)))
set_option maxRecDepth 100000 in
set_option maxHeartbeats 4000000 in
theorem b_L_level (hc : Cx p s m args meth c cL_level 4 "PumpCrossingLaw" D cs B0 kt Lv) (hst : l.stackTraces = false) (htab : c.exceptionTable.toList = tableOf [(0, 9, 12, 15)]) (hr : meth.sig.returnType = some .int) {o : Int32 × St} {S : St} {g0 : Nat} {x1 : Int32} {g2 : Nat} (hL0 : Lv 0 g0) (hL2 : Lv 81 g2) {H : Heap} {locs : List Loc} {ls : Array Slot} (hf : f_L_level g0 x1 g2 S = some o) (hd : Dy s D cs B0 α Lv S H locs) (hl : lv_has ls 4 [(0, .ref (α 0 g0)), (1, .int x1), (2, .ref (α 81 g2))]) : W p l e (Rm 11 1 6) s m args below meth c H locs 0 0 (MQ below (Qi D cs B0 α Lv o.1 o.2) args s 1 6 (AB B0)) (F0 m 0 ls []) := by
  unfold f_L_level at hf
  refine lv_aload_n hc.x hc.b dL_level_0 rfl (lv_at hl 2 rfl) ?_
  refine lv_iconst (v := 0) hc.x hc.b dL_level_1 (by decide) ?_
  refine lv_aload_n hc.x hc.b dL_level_2 rfl (lv_at hl 0 rfl) ?_
  refine lv_iload_n hc.x hc.b dL_level_3 rfl (lv_at hl 1 rfl) ?_
  rcases wl_s hf with ⟨k9, S9, hq, hf⟩ | ⟨r, S1, hq, hf⟩
  · by_cases c2 : k9 = 2
    · have hf := br_y c2 hf
      subst c2
      refine x_catch (name := "java/lang/IllegalArgumentException") hc (x_runV hc hd my_X11_level tw_954 hL0 rfl rfl rfl (xc_X11_level l D cs B0 kt α Lv S g0 x1 hc.cl hL0 hq hst) rfl rfl hl.1 (Nat.le_of_ble_eq_true rfl) ⟨Nat.le_of_ble_eq_true rfl, Nat.le_of_ble_eq_true rfl, Nat.le_of_ble_eq_true rfl, Nat.le_of_ble_eq_true rfl⟩ dL_level_4) hd rfl [] ⟨0, 9, 12, 15⟩ [] (htab.trans rfl) (fun _ h => absurd h List.not_mem_nil) (by decide) (by decide) tw_450 (hc.kc.2.2.2.2.2.2.2.2.2.2.2.1.1 _ (by decide)) (fun H locs q hd => ?_)
      refine lv_astore_n (lv' := [(3, .ref q), (0, .ref (α 0 g0)), (1, .int x1), (2, .ref (α 81 g2))]) hc.x hc.b dL_level_12 rfl hl (by decide) rfl (fun ls hl => ?_)
      refine lv_iconst (v := 1) hc.x hc.b dL_level_13 (by decide) ?_
      cases hf
      exact r_iret hc hd hr dL_level_14
    · have hf := br_n c2 hf
      cases hf
  · refine k_i (k_runV hc hd my_X11_level tw_954 hL0 rfl rfl rfl (c_X11_level l D cs B0 kt α Lv S g0 x1 hc.cl hL0 hq) rfl rfl hl.1 (Nat.le_of_ble_eq_true rfl) ⟨Nat.le_of_ble_eq_true rfl, Nat.le_of_ble_eq_true rfl, Nat.zero_le _, Nat.zero_le _⟩ dL_level_4) hd (fun H locs hd => ?_)
    refine lv_i2l (v := Int32.toInt64 r) hc.x hc.b dL_level_7 rfl ?_
    refine r_last hc hd hL2 (fun _ => rfl) (by decide) dL_level_8 (fun H locs hd => ?_)
    refine lv_goto (tgt := 15) hc.x hc.b dL_level_9 (by decide) ?_
    refine lv_iconst (v := 0) hc.x hc.b dL_level_15 (by decide) ?_
    refine W.widen (k := 1) (n := 6) (Nat.le_of_ble_eq_true rfl) (Nat.le_of_ble_eq_true rfl) ?_
    cases hf
    exact r_iret hc hd hr dL_level_16
theorem c_L_level (l : Launch) (D : va_G) (cs : Nat → ClassId) (B0 : Nat) (kt : (Nat → Nat) × (Nat → Nat)) (α : Nat → Nat → Nat) (Lv : Nat → Nat → Prop) (S : St) (g0 : Nat) (x1 : Int32) (g2 : Nat) (hcl : Cl Lv) (hL0 : Lv 0 g0) (hL2 : Lv 81 g2) (hst : l.stackTraces = false) {o : Int32 × St} (hf : f_L_level g0 x1 g2 S = some o) : Met l yL_level (wx yL_level cL_level 4 (some .int) [(0, 9, 12, 15)]) (Rm 11 1 6) (PzN D cs B0 kt α Lv S [.ref (α 0 g0), .int x1, .ref (α 81 g2)]) (Qi D cs B0 α Lv o.1 o.2) 1 6 (AB B0) := met_ofWH (by decide) rfl hcl (Nat.le_of_ble_eq_true rfl) (fun p e s m below meth c hc hck hr htab hd ls hl => b_L_level hc hst htab hr hL0 hL2 hf hd hl)
theorem my_L_level : MyW yL_level cL_level 4 (some .int) [(0, 9, 12, 15)] 3 := ⟨tw_952, tw_0, tw_953, by decide +kernel⟩
def f_L_of (g0 : Nat) (x1 : Int32) (x2 : Int32) (g3 : Nat) (S : St) : Option (Int32 × St) := wl (f_X11_of g0 x1 x2 S) (fun k S => br (k = 3) (some (1, S)) (br (k = 2) (some (2, S)) (none))) (fun r S => some (0, sl S 81 g3 (nn 0) r))
set_option maxRecDepth 100000 in
set_option maxHeartbeats 4000000 in
theorem b_L_of (hc : Cx p s m args meth c cL_of 5 "PumpCrossingLaw" D cs B0 kt Lv) (hst : l.stackTraces = false) (htab : c.exceptionTable.toList = tableOf [(0, 9, 12, 21), (0, 9, 16, 15)]) (hr : meth.sig.returnType = some .int) {o : Int32 × St} {S : St} {g0 : Nat} {x1 : Int32} {x2 : Int32} {g3 : Nat} (hL0 : Lv 0 g0) (hL3 : Lv 81 g3) {H : Heap} {locs : List Loc} {ls : Array Slot} (hf : f_L_of g0 x1 x2 g3 S = some o) (hd : Dy s D cs B0 α Lv S H locs) (hl : lv_has ls 5 [(0, .ref (α 0 g0)), (1, .int x1), (2, .int x2), (3, .ref (α 81 g3))]) : W p l e (Rm 10 1 6) s m args below meth c H locs 0 0 (MQ below (Qi D cs B0 α Lv o.1 o.2) args s 1 6 (AB B0)) (F0 m 0 ls []) := by
  unfold f_L_of at hf
  refine lv_aload_n hc.x hc.b dL_of_0 rfl (lv_at hl 3 rfl) ?_
  refine lv_iconst (v := 0) hc.x hc.b dL_of_1 (by decide) ?_
  refine lv_aload_n hc.x hc.b dL_of_2 rfl (lv_at hl 0 rfl) ?_
  refine lv_iload_n hc.x hc.b dL_of_3 rfl (lv_at hl 1 rfl) ?_
  refine lv_iload_n hc.x hc.b dL_of_4 rfl (lv_at hl 2 rfl) ?_
  rcases wl_s hf with ⟨k9, S9, hq, hf⟩ | ⟨r, S1, hq, hf⟩
  · by_cases c3 : k9 = 3
    · have hf := br_y c3 hf
      subst c3
      refine x_catch (name := "java/util/NoSuchElementException") hc (x_runV hc hd my_X11_of tw_886 hL0 rfl rfl rfl (xc_X11_of l D cs B0 kt α Lv S g0 x1 x2 hc.cl hL0 hq hst) rfl rfl hl.1 (Nat.le_of_ble_eq_true rfl) ⟨Nat.le_of_ble_eq_true rfl, Nat.le_of_ble_eq_true rfl, Nat.le_of_ble_eq_true rfl, Nat.le_of_ble_eq_true rfl⟩ dL_of_5) hd rfl [] ⟨0, 9, 12, 21⟩ [⟨0, 9, 16, 15⟩] (htab.trans rfl) (fun _ h => absurd h List.not_mem_nil) (by decide) (by decide) tw_554 (hc.kc.2.2.2.2.2.2.2.2.2.2.2.1.1 _ (by decide)) (fun H locs q hd => ?_)
      refine lv_astore (lv' := [(4, .ref q), (0, .ref (α 0 g0)), (1, .int x1), (2, .int x2), (3, .ref (α 81 g3))]) hc.x hc.b dL_of_12 hl (by decide) rfl (fun ls hl => ?_)
      refine lv_iconst (v := 1) hc.x hc.b dL_of_14 (by decide) ?_
      cases hf
      exact r_iret hc hd hr dL_of_15
    · have hf := br_n c3 hf
      by_cases c2 : k9 = 2
      · have hf := br_y c2 hf
        subst c2
        refine x_catch (name := "java/lang/IllegalArgumentException") hc (x_runV hc hd my_X11_of tw_886 hL0 rfl rfl rfl (xc_X11_of l D cs B0 kt α Lv S g0 x1 x2 hc.cl hL0 hq hst) rfl rfl hl.1 (Nat.le_of_ble_eq_true rfl) ⟨Nat.le_of_ble_eq_true rfl, Nat.le_of_ble_eq_true rfl, Nat.le_of_ble_eq_true rfl, Nat.le_of_ble_eq_true rfl⟩ dL_of_5) hd rfl [⟨0, 9, 12, 21⟩] ⟨0, 9, 16, 15⟩ [] (htab.trans rfl) (List.forall_mem_cons.mpr ⟨⟨by decide, "java/util/NoSuchElementException", tw_554, hc.kc.2.2.2.2.2.2.2.2.2.2.2.1.2.2 _ (by decide) _ (by decide) (by decide)⟩, (fun _ h => absurd h List.not_mem_nil)⟩) (by decide) (by decide) tw_450 (hc.kc.2.2.2.2.2.2.2.2.2.2.2.1.1 _ (by decide)) (fun H locs q hd => ?_)
        refine lv_astore (lv' := [(4, .ref q), (0, .ref (α 0 g0)), (1, .int x1), (2, .int x2), (3, .ref (α 81 g3))]) hc.x hc.b dL_of_16 hl (by decide) rfl (fun ls hl => ?_)
        refine lv_iconst (v := 2) hc.x hc.b dL_of_18 (by decide) ?_
        cases hf
        exact r_iret hc hd hr dL_of_19
      · have hf := br_n c2 hf
        cases hf
  · refine k_l (k_runV hc hd my_X11_of tw_886 hL0 rfl rfl rfl (c_X11_of l D cs B0 kt α Lv S g0 x1 x2 hc.cl hL0 hq) rfl rfl hl.1 (Nat.le_of_ble_eq_true rfl) ⟨Nat.le_of_ble_eq_true rfl, Nat.le_of_ble_eq_true rfl, Nat.zero_le _, Nat.zero_le _⟩ dL_of_5) hd (fun H locs hd => ?_)
    refine r_last hc hd hL3 (fun _ => rfl) (by decide) dL_of_8 (fun H locs hd => ?_)
    refine lv_goto (tgt := 20) hc.x hc.b dL_of_9 (by decide) ?_
    refine lv_iconst (v := 0) hc.x hc.b dL_of_20 (by decide) ?_
    refine W.widen (k := 1) (n := 6) (Nat.le_of_ble_eq_true rfl) (Nat.le_of_ble_eq_true rfl) ?_
    cases hf
    exact r_iret hc hd hr dL_of_21
theorem c_L_of (l : Launch) (D : va_G) (cs : Nat → ClassId) (B0 : Nat) (kt : (Nat → Nat) × (Nat → Nat)) (α : Nat → Nat → Nat) (Lv : Nat → Nat → Prop) (S : St) (g0 : Nat) (x1 : Int32) (x2 : Int32) (g3 : Nat) (hcl : Cl Lv) (hL0 : Lv 0 g0) (hL3 : Lv 81 g3) (hst : l.stackTraces = false) {o : Int32 × St} (hf : f_L_of g0 x1 x2 g3 S = some o) : Met l yL_of (wx yL_of cL_of 5 (some .int) [(0, 9, 12, 21), (0, 9, 16, 15)]) (Rm 10 1 6) (PzN D cs B0 kt α Lv S [.ref (α 0 g0), .int x1, .int x2, .ref (α 81 g3)]) (Qi D cs B0 α Lv o.1 o.2) 1 6 (AB B0) := met_ofWH (by decide) rfl hcl (Nat.le_of_ble_eq_true rfl) (fun p e s m below meth c hc hck hr htab hd ls hl => b_L_of hc hst htab hr hL0 hL3 hf hd hl)
theorem my_L_of : MyW yL_of cL_of 5 (some .int) [(0, 9, 12, 21), (0, 9, 16, 15)] 4 := ⟨tw_884, tw_0, tw_885, by decide +kernel⟩
def f_L_passed (g0 : Nat) (x1 : Int32) (x2 : Int32) (x3 : Int32) (g4 : Nat) (S : St) : Option (Int32 × St) := wl (f_X11_passed g0 x1 x2 x3 S) (fun k S => br (k = 3) (some (1, S)) (br (k = 2) (some (2, S)) (none))) (fun r S => br (r = 0) (some (0, sl S 81 g4 (nn 0) 0)) (some (0, sl S 81 g4 (nn 0) 1)))
set_option maxRecDepth 100000 in
set_option maxHeartbeats 4000000 in
theorem b_L_passed (hc : Cx p s m args meth c cL_passed 6 "PumpCrossingLaw" D cs B0 kt Lv) (hst : l.stackTraces = false) (htab : c.exceptionTable.toList = tableOf [(0, 19, 22, 21), (0, 19, 26, 15)]) (hr : meth.sig.returnType = some .int) {o : Int32 × St} {S : St} {g0 : Nat} {x1 : Int32} {x2 : Int32} {x3 : Int32} {g4 : Nat} (hL0 : Lv 0 g0) (hL4 : Lv 81 g4) {H : Heap} {locs : List Loc} {ls : Array Slot} (hf : f_L_passed g0 x1 x2 x3 g4 S = some o) (hd : Dy s D cs B0 α Lv S H locs) (hl : lv_has ls 6 [(0, .ref (α 0 g0)), (1, .int x1), (2, .int x2), (3, .int x3), (4, .ref (α 81 g4))]) : W p l e (Rm 10 1 6) s m args below meth c H locs 0 0 (MQ below (Qi D cs B0 α Lv o.1 o.2) args s 1 6 (AB B0)) (F0 m 0 ls []) := by
  unfold f_L_passed at hf
  refine lv_aload hc.x hc.b dL_passed_0 (lv_at hl 4 rfl) ?_
  refine lv_iconst (v := 0) hc.x hc.b dL_passed_2 (by decide) ?_
  refine lv_aload_n hc.x hc.b dL_passed_3 rfl (lv_at hl 0 rfl) ?_
  refine lv_iload_n hc.x hc.b dL_passed_4 rfl (lv_at hl 1 rfl) ?_
  refine lv_iload_n hc.x hc.b dL_passed_5 rfl (lv_at hl 2 rfl) ?_
  refine lv_iload_n hc.x hc.b dL_passed_6 rfl (lv_at hl 3 rfl) ?_
  rcases wl_s hf with ⟨k9, S9, hq, hf⟩ | ⟨r, S1, hq, hf⟩
  · by_cases c3 : k9 = 3
    · have hf := br_y c3 hf
      subst c3
      refine x_catch (name := "java/util/NoSuchElementException") hc (x_runV hc hd my_X11_passed tw_933 hL0 rfl rfl rfl (xc_X11_passed l D cs B0 kt α Lv S g0 x1 x2 x3 hc.cl hL0 hq hst) rfl rfl hl.1 (Nat.le_of_ble_eq_true rfl) ⟨Nat.le_of_ble_eq_true rfl, Nat.le_of_ble_eq_true rfl, Nat.le_of_ble_eq_true rfl, Nat.le_of_ble_eq_true rfl⟩ dL_passed_7) hd rfl [] ⟨0, 19, 22, 21⟩ [⟨0, 19, 26, 15⟩] (htab.trans rfl) (fun _ h => absurd h List.not_mem_nil) (by decide) (by decide) tw_554 (hc.kc.2.2.2.2.2.2.2.2.2.2.2.1.1 _ (by decide)) (fun H locs q hd => ?_)
      refine lv_astore (lv' := [(5, .ref q), (0, .ref (α 0 g0)), (1, .int x1), (2, .int x2), (3, .int x3), (4, .ref (α 81 g4))]) hc.x hc.b dL_passed_22 hl (by decide) rfl (fun ls hl => ?_)
      refine lv_iconst (v := 1) hc.x hc.b dL_passed_24 (by decide) ?_
      cases hf
      exact r_iret hc hd hr dL_passed_25
    · have hf := br_n c3 hf
      by_cases c2 : k9 = 2
      · have hf := br_y c2 hf
        subst c2
        refine x_catch (name := "java/lang/IllegalArgumentException") hc (x_runV hc hd my_X11_passed tw_933 hL0 rfl rfl rfl (xc_X11_passed l D cs B0 kt α Lv S g0 x1 x2 x3 hc.cl hL0 hq hst) rfl rfl hl.1 (Nat.le_of_ble_eq_true rfl) ⟨Nat.le_of_ble_eq_true rfl, Nat.le_of_ble_eq_true rfl, Nat.le_of_ble_eq_true rfl, Nat.le_of_ble_eq_true rfl⟩ dL_passed_7) hd rfl [⟨0, 19, 22, 21⟩] ⟨0, 19, 26, 15⟩ [] (htab.trans rfl) (List.forall_mem_cons.mpr ⟨⟨by decide, "java/util/NoSuchElementException", tw_554, hc.kc.2.2.2.2.2.2.2.2.2.2.2.1.2.2 _ (by decide) _ (by decide) (by decide)⟩, (fun _ h => absurd h List.not_mem_nil)⟩) (by decide) (by decide) tw_450 (hc.kc.2.2.2.2.2.2.2.2.2.2.2.1.1 _ (by decide)) (fun H locs q hd => ?_)
        refine lv_astore (lv' := [(5, .ref q), (0, .ref (α 0 g0)), (1, .int x1), (2, .int x2), (3, .int x3), (4, .ref (α 81 g4))]) hc.x hc.b dL_passed_26 hl (by decide) rfl (fun ls hl => ?_)
        refine lv_iconst (v := 2) hc.x hc.b dL_passed_28 (by decide) ?_
        cases hf
        exact r_iret hc hd hr dL_passed_29
      · have hf := br_n c2 hf
        cases hf
  · refine k_i (k_runV hc hd my_X11_passed tw_933 hL0 rfl rfl rfl (c_X11_passed l D cs B0 kt α Lv S g0 x1 x2 x3 hc.cl hL0 hq) rfl rfl hl.1 (Nat.le_of_ble_eq_true rfl) ⟨Nat.le_of_ble_eq_true rfl, Nat.le_of_ble_eq_true rfl, Nat.zero_le _, Nat.zero_le _⟩ dL_passed_7) hd (fun H locs hd => ?_)
    refine lv_if_eq (tgt := 17) hc.x hc.b dL_passed_10 (by decide) (fun c0 => ?_) (fun c0 => ?_)
    · have hf := br_y c0 hf
      refine lv_lconst (v := 0) hc.x hc.b dL_passed_17 (by decide) ?_
      refine r_last hc hd hL4 (fun _ => rfl) (by decide) dL_passed_18 (fun H locs hd => ?_)
      refine lv_goto (tgt := 30) hc.x hc.b dL_passed_19 (by decide) ?_
      refine lv_iconst (v := 0) hc.x hc.b dL_passed_30 (by decide) ?_
      refine W.widen (k := 1) (n := 6) (Nat.le_of_ble_eq_true rfl) (Nat.le_of_ble_eq_true rfl) ?_
      cases hf
      exact r_iret hc hd hr dL_passed_31
    · have hf := br_n c0 hf
      refine lv_lconst (v := 1) hc.x hc.b dL_passed_13 (by decide) ?_
      refine lv_goto (tgt := 18) hc.x hc.b dL_passed_14 (by decide) ?_
      refine r_last hc hd hL4 (fun _ => rfl) (by decide) dL_passed_18 (fun H locs hd => ?_)
      refine lv_goto (tgt := 30) hc.x hc.b dL_passed_19 (by decide) ?_
      refine lv_iconst (v := 0) hc.x hc.b dL_passed_30 (by decide) ?_
      refine W.widen (k := 1) (n := 6) (Nat.le_of_ble_eq_true rfl) (Nat.le_of_ble_eq_true rfl) ?_
      cases hf
      exact r_iret hc hd hr dL_passed_31
theorem c_L_passed (l : Launch) (D : va_G) (cs : Nat → ClassId) (B0 : Nat) (kt : (Nat → Nat) × (Nat → Nat)) (α : Nat → Nat → Nat) (Lv : Nat → Nat → Prop) (S : St) (g0 : Nat) (x1 : Int32) (x2 : Int32) (x3 : Int32) (g4 : Nat) (hcl : Cl Lv) (hL0 : Lv 0 g0) (hL4 : Lv 81 g4) (hst : l.stackTraces = false) {o : Int32 × St} (hf : f_L_passed g0 x1 x2 x3 g4 S = some o) : Met l yL_passed (wx yL_passed cL_passed 6 (some .int) [(0, 19, 22, 21), (0, 19, 26, 15)]) (Rm 10 1 6) (PzN D cs B0 kt α Lv S [.ref (α 0 g0), .int x1, .int x2, .int x3, .ref (α 81 g4)]) (Qi D cs B0 α Lv o.1 o.2) 1 6 (AB B0) := met_ofWH (by decide) rfl hcl (Nat.le_of_ble_eq_true rfl) (fun p e s m below meth c hc hck hr htab hd ls hl => b_L_passed hc hst htab hr hL0 hL4 hf hd hl)
theorem my_L_passed : MyW yL_passed cL_passed 6 (some .int) [(0, 19, 22, 21), (0, 19, 26, 15)] 5 := ⟨tw_931, tw_0, tw_932, by decide +kernel⟩
def f_L_price (g0 : Nat) (x1 : Int32) (g2 : Nat) (S : St) : Option (Int32 × St) := wl (f_X11_price g0 x1 S) (fun k S => br (k = 3) (some (1, S)) (none)) (fun r S => some (0, sl S 81 g2 (nn 0) (Int32.toInt64 r)))
set_option maxRecDepth 100000 in
set_option maxHeartbeats 4000000 in
theorem b_L_price (hc : Cx p s m args meth c cL_price 4 "PumpCrossingLaw" D cs B0 kt Lv) (hst : l.stackTraces = false) (htab : c.exceptionTable.toList = tableOf [(0, 9, 12, 21)]) (hr : meth.sig.returnType = some .int) {o : Int32 × St} {S : St} {g0 : Nat} {x1 : Int32} {g2 : Nat} (hL0 : Lv 0 g0) (hL2 : Lv 81 g2) {H : Heap} {locs : List Loc} {ls : Array Slot} (hf : f_L_price g0 x1 g2 S = some o) (hd : Dy s D cs B0 α Lv S H locs) (hl : lv_has ls 4 [(0, .ref (α 0 g0)), (1, .int x1), (2, .ref (α 81 g2))]) : W p l e (Rm 10 1 6) s m args below meth c H locs 0 0 (MQ below (Qi D cs B0 α Lv o.1 o.2) args s 1 6 (AB B0)) (F0 m 0 ls []) := by
  unfold f_L_price at hf
  refine lv_aload_n hc.x hc.b dL_price_0 rfl (lv_at hl 2 rfl) ?_
  refine lv_iconst (v := 0) hc.x hc.b dL_price_1 (by decide) ?_
  refine lv_aload_n hc.x hc.b dL_price_2 rfl (lv_at hl 0 rfl) ?_
  refine lv_iload_n hc.x hc.b dL_price_3 rfl (lv_at hl 1 rfl) ?_
  rcases wl_s hf with ⟨k9, S9, hq, hf⟩ | ⟨r, S1, hq, hf⟩
  · by_cases c3 : k9 = 3
    · have hf := br_y c3 hf
      subst c3
      refine x_catch (name := "java/util/NoSuchElementException") hc (x_runV hc hd my_X11_price tw_852 hL0 rfl rfl rfl (xc_X11_price l D cs B0 kt α Lv S g0 x1 hc.cl hL0 hq hst) rfl rfl hl.1 (Nat.le_of_ble_eq_true rfl) ⟨Nat.le_of_ble_eq_true rfl, Nat.le_of_ble_eq_true rfl, Nat.le_of_ble_eq_true rfl, Nat.le_of_ble_eq_true rfl⟩ dL_price_4) hd rfl [] ⟨0, 9, 12, 21⟩ [] (htab.trans rfl) (fun _ h => absurd h List.not_mem_nil) (by decide) (by decide) tw_554 (hc.kc.2.2.2.2.2.2.2.2.2.2.2.1.1 _ (by decide)) (fun H locs q hd => ?_)
      refine lv_astore_n (lv' := [(3, .ref q), (0, .ref (α 0 g0)), (1, .int x1), (2, .ref (α 81 g2))]) hc.x hc.b dL_price_12 rfl hl (by decide) rfl (fun ls hl => ?_)
      refine lv_iconst (v := 1) hc.x hc.b dL_price_13 (by decide) ?_
      cases hf
      exact r_iret hc hd hr dL_price_14
    · have hf := br_n c3 hf
      cases hf
  · refine k_i (k_runV hc hd my_X11_price tw_852 hL0 rfl rfl rfl (c_X11_price l D cs B0 kt α Lv S g0 x1 hc.cl hL0 hq) rfl rfl hl.1 (Nat.le_of_ble_eq_true rfl) ⟨Nat.le_of_ble_eq_true rfl, Nat.le_of_ble_eq_true rfl, Nat.zero_le _, Nat.zero_le _⟩ dL_price_4) hd (fun H locs hd => ?_)
    refine lv_i2l (v := Int32.toInt64 r) hc.x hc.b dL_price_7 rfl ?_
    refine r_last hc hd hL2 (fun _ => rfl) (by decide) dL_price_8 (fun H locs hd => ?_)
    refine lv_goto (tgt := 15) hc.x hc.b dL_price_9 (by decide) ?_
    refine lv_iconst (v := 0) hc.x hc.b dL_price_15 (by decide) ?_
    refine W.widen (k := 1) (n := 6) (Nat.le_of_ble_eq_true rfl) (Nat.le_of_ble_eq_true rfl) ?_
    cases hf
    exact r_iret hc hd hr dL_price_16
theorem c_L_price (l : Launch) (D : va_G) (cs : Nat → ClassId) (B0 : Nat) (kt : (Nat → Nat) × (Nat → Nat)) (α : Nat → Nat → Nat) (Lv : Nat → Nat → Prop) (S : St) (g0 : Nat) (x1 : Int32) (g2 : Nat) (hcl : Cl Lv) (hL0 : Lv 0 g0) (hL2 : Lv 81 g2) (hst : l.stackTraces = false) {o : Int32 × St} (hf : f_L_price g0 x1 g2 S = some o) : Met l yL_price (wx yL_price cL_price 4 (some .int) [(0, 9, 12, 21)]) (Rm 10 1 6) (PzN D cs B0 kt α Lv S [.ref (α 0 g0), .int x1, .ref (α 81 g2)]) (Qi D cs B0 α Lv o.1 o.2) 1 6 (AB B0) := met_ofWH (by decide) rfl hcl (Nat.le_of_ble_eq_true rfl) (fun p e s m below meth c hc hck hr htab hd ls hl => b_L_price hc hst htab hr hL0 hL2 hf hd hl)
theorem my_L_price : MyW yL_price cL_price 4 (some .int) [(0, 9, 12, 21)] 3 := ⟨tw_850, tw_0, tw_851, by decide +kernel⟩
def f_L_punish (g0 : Nat) (x1 : Int32) (x2 : Int32) (x3 : Int32) (x4 : Int32) (x5 : Int32) (g6 : Nat) (S : St) : Option (Int32 × St) := wl (f_X11_punish g0 x1 x2 x3 x4 x5 S) (fun k S => br (k = 3) (some (1, S)) (br (k = 2) (some (2, S)) (br (k = 4) (some (3, S)) (none)))) (fun r S => some (0, sl S 81 g6 (nn 0) (Int32.toInt64 r)))
set_option maxRecDepth 100000 in
set_option maxHeartbeats 4000000 in
theorem b_L_punish (hc : Cx p s m args meth c cL_punish 8 "PumpCrossingLaw" D cs B0 kt Lv) (hst : l.stackTraces = false) (htab : c.exceptionTable.toList = tableOf [(0, 16, 19, 21), (0, 16, 23, 15), (0, 16, 27, 71)]) (hr : meth.sig.returnType = some .int) {o : Int32 × St} {S : St} {g0 : Nat} {x1 : Int32} {x2 : Int32} {x3 : Int32} {x4 : Int32} {x5 : Int32} {g6 : Nat} (hL0 : Lv 0 g0) (hL6 : Lv 81 g6) {H : Heap} {locs : List Loc} {ls : Array Slot} (hf : f_L_punish g0 x1 x2 x3 x4 x5 g6 S = some o) (hd : Dy s D cs B0 α Lv S H locs) (hl : lv_has ls 8 [(0, .ref (α 0 g0)), (1, .int x1), (2, .int x2), (3, .int x3), (4, .int x4), (5, .int x5), (6, .ref (α 81 g6))]) : W p l e (Rm 11 1 6) s m args below meth c H locs 0 0 (MQ below (Qi D cs B0 α Lv o.1 o.2) args s 1 6 (AB B0)) (F0 m 0 ls []) := by
  unfold f_L_punish at hf
  refine lv_aload hc.x hc.b dL_punish_0 (lv_at hl 6 rfl) ?_
  refine lv_iconst (v := 0) hc.x hc.b dL_punish_2 (by decide) ?_
  refine lv_aload_n hc.x hc.b dL_punish_3 rfl (lv_at hl 0 rfl) ?_
  refine lv_iload_n hc.x hc.b dL_punish_4 rfl (lv_at hl 1 rfl) ?_
  refine lv_iload_n hc.x hc.b dL_punish_5 rfl (lv_at hl 2 rfl) ?_
  refine lv_iload_n hc.x hc.b dL_punish_6 rfl (lv_at hl 3 rfl) ?_
  refine lv_iload hc.x hc.b dL_punish_7 (lv_at hl 4 rfl) ?_
  refine lv_iload hc.x hc.b dL_punish_9 (lv_at hl 5 rfl) ?_
  rcases wl_s hf with ⟨k9, S9, hq, hf⟩ | ⟨r, S1, hq, hf⟩
  · by_cases c3 : k9 = 3
    · have hf := br_y c3 hf
      subst c3
      refine x_catch (name := "java/util/NoSuchElementException") hc (x_runV hc hd my_X11_punish tw_1134 hL0 rfl rfl rfl (xc_X11_punish l D cs B0 kt α Lv S g0 x1 x2 x3 x4 x5 hc.cl hL0 hq hst) rfl rfl hl.1 (Nat.le_of_ble_eq_true rfl) ⟨Nat.le_of_ble_eq_true rfl, Nat.le_of_ble_eq_true rfl, Nat.le_of_ble_eq_true rfl, Nat.le_of_ble_eq_true rfl⟩ dL_punish_11) hd rfl [] ⟨0, 16, 19, 21⟩ [⟨0, 16, 23, 15⟩, ⟨0, 16, 27, 71⟩] (htab.trans rfl) (fun _ h => absurd h List.not_mem_nil) (by decide) (by decide) tw_554 (hc.kc.2.2.2.2.2.2.2.2.2.2.2.1.1 _ (by decide)) (fun H locs q hd => ?_)
      refine lv_astore (lv' := [(7, .ref q), (0, .ref (α 0 g0)), (1, .int x1), (2, .int x2), (3, .int x3), (4, .int x4), (5, .int x5), (6, .ref (α 81 g6))]) hc.x hc.b dL_punish_19 hl (by decide) rfl (fun ls hl => ?_)
      refine lv_iconst (v := 1) hc.x hc.b dL_punish_21 (by decide) ?_
      cases hf
      exact r_iret hc hd hr dL_punish_22
    · have hf := br_n c3 hf
      by_cases c2 : k9 = 2
      · have hf := br_y c2 hf
        subst c2
        refine x_catch (name := "java/lang/IllegalArgumentException") hc (x_runV hc hd my_X11_punish tw_1134 hL0 rfl rfl rfl (xc_X11_punish l D cs B0 kt α Lv S g0 x1 x2 x3 x4 x5 hc.cl hL0 hq hst) rfl rfl hl.1 (Nat.le_of_ble_eq_true rfl) ⟨Nat.le_of_ble_eq_true rfl, Nat.le_of_ble_eq_true rfl, Nat.le_of_ble_eq_true rfl, Nat.le_of_ble_eq_true rfl⟩ dL_punish_11) hd rfl [⟨0, 16, 19, 21⟩] ⟨0, 16, 23, 15⟩ [⟨0, 16, 27, 71⟩] (htab.trans rfl) (List.forall_mem_cons.mpr ⟨⟨by decide, "java/util/NoSuchElementException", tw_554, hc.kc.2.2.2.2.2.2.2.2.2.2.2.1.2.2 _ (by decide) _ (by decide) (by decide)⟩, (fun _ h => absurd h List.not_mem_nil)⟩) (by decide) (by decide) tw_450 (hc.kc.2.2.2.2.2.2.2.2.2.2.2.1.1 _ (by decide)) (fun H locs q hd => ?_)
        refine lv_astore (lv' := [(7, .ref q), (0, .ref (α 0 g0)), (1, .int x1), (2, .int x2), (3, .int x3), (4, .int x4), (5, .int x5), (6, .ref (α 81 g6))]) hc.x hc.b dL_punish_23 hl (by decide) rfl (fun ls hl => ?_)
        refine lv_iconst (v := 2) hc.x hc.b dL_punish_25 (by decide) ?_
        cases hf
        exact r_iret hc hd hr dL_punish_26
      · have hf := br_n c2 hf
        by_cases c4 : k9 = 4
        · have hf := br_y c4 hf
          subst c4
          refine x_catch (name := "java/lang/IndexOutOfBoundsException") hc (x_runV hc hd my_X11_punish tw_1134 hL0 rfl rfl rfl (xc_X11_punish l D cs B0 kt α Lv S g0 x1 x2 x3 x4 x5 hc.cl hL0 hq hst) rfl rfl hl.1 (Nat.le_of_ble_eq_true rfl) ⟨Nat.le_of_ble_eq_true rfl, Nat.le_of_ble_eq_true rfl, Nat.le_of_ble_eq_true rfl, Nat.le_of_ble_eq_true rfl⟩ dL_punish_11) hd rfl [⟨0, 16, 19, 21⟩, ⟨0, 16, 23, 15⟩] ⟨0, 16, 27, 71⟩ [] (htab.trans rfl) (List.forall_mem_cons.mpr ⟨⟨by decide, "java/util/NoSuchElementException", tw_554, hc.kc.2.2.2.2.2.2.2.2.2.2.2.1.2.2 _ (by decide) _ (by decide) (by decide)⟩, (List.forall_mem_cons.mpr ⟨⟨by decide, "java/lang/IllegalArgumentException", tw_450, hc.kc.2.2.2.2.2.2.2.2.2.2.2.1.2.2 _ (by decide) _ (by decide) (by decide)⟩, (fun _ h => absurd h List.not_mem_nil)⟩)⟩) (by decide) (by decide) tw_966 (hc.kc.2.2.2.2.2.2.2.2.2.2.2.1.1 _ (by decide)) (fun H locs q hd => ?_)
          refine lv_astore (lv' := [(7, .ref q), (0, .ref (α 0 g0)), (1, .int x1), (2, .int x2), (3, .int x3), (4, .int x4), (5, .int x5), (6, .ref (α 81 g6))]) hc.x hc.b dL_punish_27 hl (by decide) rfl (fun ls hl => ?_)
          refine lv_iconst (v := 3) hc.x hc.b dL_punish_29 (by decide) ?_
          cases hf
          exact r_iret hc hd hr dL_punish_30
        · have hf := br_n c4 hf
          cases hf
  · refine k_i (k_runV hc hd my_X11_punish tw_1134 hL0 rfl rfl rfl (c_X11_punish l D cs B0 kt α Lv S g0 x1 x2 x3 x4 x5 hc.cl hL0 hq) rfl rfl hl.1 (Nat.le_of_ble_eq_true rfl) ⟨Nat.le_of_ble_eq_true rfl, Nat.le_of_ble_eq_true rfl, Nat.zero_le _, Nat.zero_le _⟩ dL_punish_11) hd (fun H locs hd => ?_)
    refine lv_i2l (v := Int32.toInt64 r) hc.x hc.b dL_punish_14 rfl ?_
    refine r_last hc hd hL6 (fun _ => rfl) (by decide) dL_punish_15 (fun H locs hd => ?_)
    refine lv_goto (tgt := 31) hc.x hc.b dL_punish_16 (by decide) ?_
    refine lv_iconst (v := 0) hc.x hc.b dL_punish_31 (by decide) ?_
    refine W.widen (k := 1) (n := 6) (Nat.le_of_ble_eq_true rfl) (Nat.le_of_ble_eq_true rfl) ?_
    cases hf
    exact r_iret hc hd hr dL_punish_32
theorem c_L_punish (l : Launch) (D : va_G) (cs : Nat → ClassId) (B0 : Nat) (kt : (Nat → Nat) × (Nat → Nat)) (α : Nat → Nat → Nat) (Lv : Nat → Nat → Prop) (S : St) (g0 : Nat) (x1 : Int32) (x2 : Int32) (x3 : Int32) (x4 : Int32) (x5 : Int32) (g6 : Nat) (hcl : Cl Lv) (hL0 : Lv 0 g0) (hL6 : Lv 81 g6) (hst : l.stackTraces = false) {o : Int32 × St} (hf : f_L_punish g0 x1 x2 x3 x4 x5 g6 S = some o) : Met l yL_punish (wx yL_punish cL_punish 8 (some .int) [(0, 16, 19, 21), (0, 16, 23, 15), (0, 16, 27, 71)]) (Rm 11 1 6) (PzN D cs B0 kt α Lv S [.ref (α 0 g0), .int x1, .int x2, .int x3, .int x4, .int x5, .ref (α 81 g6)]) (Qi D cs B0 α Lv o.1 o.2) 1 6 (AB B0) := met_ofWH (by decide) rfl hcl (Nat.le_of_ble_eq_true rfl) (fun p e s m below meth c hc hck hr htab hd ls hl => b_L_punish hc hst htab hr hL0 hL6 hf hd hl)
theorem my_L_punish : MyW yL_punish cL_punish 8 (some .int) [(0, 16, 19, 21), (0, 16, 23, 15), (0, 16, 27, 71)] 7 := ⟨tw_1132, tw_0, tw_1133, by decide +kernel⟩
def f_L_reply (g0 : Nat) (x1 : Int32) (x2 : Int32) (x3 : Int32) (g4 : Nat) (S : St) : Option (Int32 × St) := wl (f_X11_reply g0 x1 x2 x3 S) (fun k S => br (k = 3) (some (1, S)) (br (k = 2) (some (2, S)) (br (k = 4) (some (3, S)) (none)))) (fun r S => some (0, sl S 81 g4 (nn 0) (Int32.toInt64 r)))
set_option maxRecDepth 100000 in
set_option maxHeartbeats 4000000 in
theorem b_L_reply (hc : Cx p s m args meth c cL_reply 6 "PumpCrossingLaw" D cs B0 kt Lv) (hst : l.stackTraces = false) (htab : c.exceptionTable.toList = tableOf [(0, 12, 15, 21), (0, 12, 19, 15), (0, 12, 23, 71)]) (hr : meth.sig.returnType = some .int) {o : Int32 × St} {S : St} {g0 : Nat} {x1 : Int32} {x2 : Int32} {x3 : Int32} {g4 : Nat} (hL0 : Lv 0 g0) (hL4 : Lv 81 g4) {H : Heap} {locs : List Loc} {ls : Array Slot} (hf : f_L_reply g0 x1 x2 x3 g4 S = some o) (hd : Dy s D cs B0 α Lv S H locs) (hl : lv_has ls 6 [(0, .ref (α 0 g0)), (1, .int x1), (2, .int x2), (3, .int x3), (4, .ref (α 81 g4))]) : W p l e (Rm 11 1 6) s m args below meth c H locs 0 0 (MQ below (Qi D cs B0 α Lv o.1 o.2) args s 1 6 (AB B0)) (F0 m 0 ls []) := by
  unfold f_L_reply at hf
  refine lv_aload hc.x hc.b dL_reply_0 (lv_at hl 4 rfl) ?_
  refine lv_iconst (v := 0) hc.x hc.b dL_reply_2 (by decide) ?_
  refine lv_aload_n hc.x hc.b dL_reply_3 rfl (lv_at hl 0 rfl) ?_
  refine lv_iload_n hc.x hc.b dL_reply_4 rfl (lv_at hl 1 rfl) ?_
  refine lv_iload_n hc.x hc.b dL_reply_5 rfl (lv_at hl 2 rfl) ?_
  refine lv_iload_n hc.x hc.b dL_reply_6 rfl (lv_at hl 3 rfl) ?_
  rcases wl_s hf with ⟨k9, S9, hq, hf⟩ | ⟨r, S1, hq, hf⟩
  · by_cases c3 : k9 = 3
    · have hf := br_y c3 hf
      subst c3
      refine x_catch (name := "java/util/NoSuchElementException") hc (x_runV hc hd my_X11_reply tw_1010 hL0 rfl rfl rfl (xc_X11_reply l D cs B0 kt α Lv S g0 x1 x2 x3 hc.cl hL0 hq hst) rfl rfl hl.1 (Nat.le_of_ble_eq_true rfl) ⟨Nat.le_of_ble_eq_true rfl, Nat.le_of_ble_eq_true rfl, Nat.le_of_ble_eq_true rfl, Nat.le_of_ble_eq_true rfl⟩ dL_reply_7) hd rfl [] ⟨0, 12, 15, 21⟩ [⟨0, 12, 19, 15⟩, ⟨0, 12, 23, 71⟩] (htab.trans rfl) (fun _ h => absurd h List.not_mem_nil) (by decide) (by decide) tw_554 (hc.kc.2.2.2.2.2.2.2.2.2.2.2.1.1 _ (by decide)) (fun H locs q hd => ?_)
      refine lv_astore (lv' := [(5, .ref q), (0, .ref (α 0 g0)), (1, .int x1), (2, .int x2), (3, .int x3), (4, .ref (α 81 g4))]) hc.x hc.b dL_reply_15 hl (by decide) rfl (fun ls hl => ?_)
      refine lv_iconst (v := 1) hc.x hc.b dL_reply_17 (by decide) ?_
      cases hf
      exact r_iret hc hd hr dL_reply_18
    · have hf := br_n c3 hf
      by_cases c2 : k9 = 2
      · have hf := br_y c2 hf
        subst c2
        refine x_catch (name := "java/lang/IllegalArgumentException") hc (x_runV hc hd my_X11_reply tw_1010 hL0 rfl rfl rfl (xc_X11_reply l D cs B0 kt α Lv S g0 x1 x2 x3 hc.cl hL0 hq hst) rfl rfl hl.1 (Nat.le_of_ble_eq_true rfl) ⟨Nat.le_of_ble_eq_true rfl, Nat.le_of_ble_eq_true rfl, Nat.le_of_ble_eq_true rfl, Nat.le_of_ble_eq_true rfl⟩ dL_reply_7) hd rfl [⟨0, 12, 15, 21⟩] ⟨0, 12, 19, 15⟩ [⟨0, 12, 23, 71⟩] (htab.trans rfl) (List.forall_mem_cons.mpr ⟨⟨by decide, "java/util/NoSuchElementException", tw_554, hc.kc.2.2.2.2.2.2.2.2.2.2.2.1.2.2 _ (by decide) _ (by decide) (by decide)⟩, (fun _ h => absurd h List.not_mem_nil)⟩) (by decide) (by decide) tw_450 (hc.kc.2.2.2.2.2.2.2.2.2.2.2.1.1 _ (by decide)) (fun H locs q hd => ?_)
        refine lv_astore (lv' := [(5, .ref q), (0, .ref (α 0 g0)), (1, .int x1), (2, .int x2), (3, .int x3), (4, .ref (α 81 g4))]) hc.x hc.b dL_reply_19 hl (by decide) rfl (fun ls hl => ?_)
        refine lv_iconst (v := 2) hc.x hc.b dL_reply_21 (by decide) ?_
        cases hf
        exact r_iret hc hd hr dL_reply_22
      · have hf := br_n c2 hf
        by_cases c4 : k9 = 4
        · have hf := br_y c4 hf
          subst c4
          refine x_catch (name := "java/lang/IndexOutOfBoundsException") hc (x_runV hc hd my_X11_reply tw_1010 hL0 rfl rfl rfl (xc_X11_reply l D cs B0 kt α Lv S g0 x1 x2 x3 hc.cl hL0 hq hst) rfl rfl hl.1 (Nat.le_of_ble_eq_true rfl) ⟨Nat.le_of_ble_eq_true rfl, Nat.le_of_ble_eq_true rfl, Nat.le_of_ble_eq_true rfl, Nat.le_of_ble_eq_true rfl⟩ dL_reply_7) hd rfl [⟨0, 12, 15, 21⟩, ⟨0, 12, 19, 15⟩] ⟨0, 12, 23, 71⟩ [] (htab.trans rfl) (List.forall_mem_cons.mpr ⟨⟨by decide, "java/util/NoSuchElementException", tw_554, hc.kc.2.2.2.2.2.2.2.2.2.2.2.1.2.2 _ (by decide) _ (by decide) (by decide)⟩, (List.forall_mem_cons.mpr ⟨⟨by decide, "java/lang/IllegalArgumentException", tw_450, hc.kc.2.2.2.2.2.2.2.2.2.2.2.1.2.2 _ (by decide) _ (by decide) (by decide)⟩, (fun _ h => absurd h List.not_mem_nil)⟩)⟩) (by decide) (by decide) tw_966 (hc.kc.2.2.2.2.2.2.2.2.2.2.2.1.1 _ (by decide)) (fun H locs q hd => ?_)
          refine lv_astore (lv' := [(5, .ref q), (0, .ref (α 0 g0)), (1, .int x1), (2, .int x2), (3, .int x3), (4, .ref (α 81 g4))]) hc.x hc.b dL_reply_23 hl (by decide) rfl (fun ls hl => ?_)
          refine lv_iconst (v := 3) hc.x hc.b dL_reply_25 (by decide) ?_
          cases hf
          exact r_iret hc hd hr dL_reply_26
        · have hf := br_n c4 hf
          cases hf
  · refine k_i (k_runV hc hd my_X11_reply tw_1010 hL0 rfl rfl rfl (c_X11_reply l D cs B0 kt α Lv S g0 x1 x2 x3 hc.cl hL0 hq) rfl rfl hl.1 (Nat.le_of_ble_eq_true rfl) ⟨Nat.le_of_ble_eq_true rfl, Nat.le_of_ble_eq_true rfl, Nat.zero_le _, Nat.zero_le _⟩ dL_reply_7) hd (fun H locs hd => ?_)
    refine lv_i2l (v := Int32.toInt64 r) hc.x hc.b dL_reply_10 rfl ?_
    refine r_last hc hd hL4 (fun _ => rfl) (by decide) dL_reply_11 (fun H locs hd => ?_)
    refine lv_goto (tgt := 27) hc.x hc.b dL_reply_12 (by decide) ?_
    refine lv_iconst (v := 0) hc.x hc.b dL_reply_27 (by decide) ?_
    refine W.widen (k := 1) (n := 6) (Nat.le_of_ble_eq_true rfl) (Nat.le_of_ble_eq_true rfl) ?_
    cases hf
    exact r_iret hc hd hr dL_reply_28
theorem c_L_reply (l : Launch) (D : va_G) (cs : Nat → ClassId) (B0 : Nat) (kt : (Nat → Nat) × (Nat → Nat)) (α : Nat → Nat → Nat) (Lv : Nat → Nat → Prop) (S : St) (g0 : Nat) (x1 : Int32) (x2 : Int32) (x3 : Int32) (g4 : Nat) (hcl : Cl Lv) (hL0 : Lv 0 g0) (hL4 : Lv 81 g4) (hst : l.stackTraces = false) {o : Int32 × St} (hf : f_L_reply g0 x1 x2 x3 g4 S = some o) : Met l yL_reply (wx yL_reply cL_reply 6 (some .int) [(0, 12, 15, 21), (0, 12, 19, 15), (0, 12, 23, 71)]) (Rm 11 1 6) (PzN D cs B0 kt α Lv S [.ref (α 0 g0), .int x1, .int x2, .int x3, .ref (α 81 g4)]) (Qi D cs B0 α Lv o.1 o.2) 1 6 (AB B0) := met_ofWH (by decide) rfl hcl (Nat.le_of_ble_eq_true rfl) (fun p e s m below meth c hc hck hr htab hd ls hl => b_L_reply hc hst htab hr hL0 hL4 hf hd hl)
theorem my_L_reply : MyW yL_reply cL_reply 6 (some .int) [(0, 12, 15, 21), (0, 12, 19, 15), (0, 12, 23, 71)] 5 := ⟨tw_1008, tw_0, tw_1009, by decide +kernel⟩
def f_L_restore (g0 : Nat) (x1 : Int32) (S : St) : Option (Int32 × St) := wl (f_X11_restore g0 x1 S) (fun k S => br (k = 3) (some (1, S)) (br (k = 1) (some (2, S)) (none))) (fun _ S => some (0, S))
set_option maxRecDepth 100000 in
set_option maxHeartbeats 4000000 in
theorem b_L_restore (hc : Cx p s m args meth c cL_restore 3 "PumpCrossingLaw" D cs B0 kt Lv) (hst : l.stackTraces = false) (htab : c.exceptionTable.toList = tableOf [(0, 5, 8, 21), (0, 5, 11, 13)]) (hr : meth.sig.returnType = some .int) {o : Int32 × St} {S : St} {g0 : Nat} {x1 : Int32} (hL0 : Lv 0 g0) {H : Heap} {locs : List Loc} {ls : Array Slot} (hf : f_L_restore g0 x1 S = some o) (hd : Dy s D cs B0 α Lv S H locs) (hl : lv_has ls 3 [(0, .ref (α 0 g0)), (1, .int x1)]) : W p l e (Rm 10 1 6) s m args below meth c H locs 0 0 (MQ below (Qi D cs B0 α Lv o.1 o.2) args s 1 6 (AB B0)) (F0 m 0 ls []) := by
  unfold f_L_restore at hf
  refine lv_aload_n hc.x hc.b dL_restore_0 rfl (lv_at hl 0 rfl) ?_
  refine lv_iload_n hc.x hc.b dL_restore_1 rfl (lv_at hl 1 rfl) ?_
  rcases wl_s hf with ⟨k9, S9, hq, hf⟩ | ⟨r, S1, hq, hf⟩
  · by_cases c3 : k9 = 3
    · have hf := br_y c3 hf
      subst c3
      refine x_catch (name := "java/util/NoSuchElementException") hc (x_runV hc hd my_X11_restore tw_1298 hL0 rfl rfl rfl (xc_X11_restore l D cs B0 kt α Lv S g0 x1 hc.cl hL0 hq hst) rfl rfl hl.1 (Nat.le_of_ble_eq_true rfl) ⟨Nat.le_of_ble_eq_true rfl, Nat.le_of_ble_eq_true rfl, Nat.le_of_ble_eq_true rfl, Nat.le_of_ble_eq_true rfl⟩ dL_restore_2) hd rfl [] ⟨0, 5, 8, 21⟩ [⟨0, 5, 11, 13⟩] (htab.trans rfl) (fun _ h => absurd h List.not_mem_nil) (by decide) (by decide) tw_554 (hc.kc.2.2.2.2.2.2.2.2.2.2.2.1.1 _ (by decide)) (fun H locs q hd => ?_)
      refine lv_astore_n (lv' := [(2, .ref q), (0, .ref (α 0 g0)), (1, .int x1)]) hc.x hc.b dL_restore_8 rfl hl (by decide) rfl (fun ls hl => ?_)
      refine lv_iconst (v := 1) hc.x hc.b dL_restore_9 (by decide) ?_
      cases hf
      exact r_iret hc hd hr dL_restore_10
    · have hf := br_n c3 hf
      by_cases c1 : k9 = 1
      · have hf := br_y c1 hf
        subst c1
        refine x_catch (name := "java/lang/IllegalStateException") hc (x_runV hc hd my_X11_restore tw_1298 hL0 rfl rfl rfl (xc_X11_restore l D cs B0 kt α Lv S g0 x1 hc.cl hL0 hq hst) rfl rfl hl.1 (Nat.le_of_ble_eq_true rfl) ⟨Nat.le_of_ble_eq_true rfl, Nat.le_of_ble_eq_true rfl, Nat.le_of_ble_eq_true rfl, Nat.le_of_ble_eq_true rfl⟩ dL_restore_2) hd rfl [⟨0, 5, 8, 21⟩] ⟨0, 5, 11, 13⟩ [] (htab.trans rfl) (List.forall_mem_cons.mpr ⟨⟨by decide, "java/util/NoSuchElementException", tw_554, hc.kc.2.2.2.2.2.2.2.2.2.2.2.1.2.2 _ (by decide) _ (by decide) (by decide)⟩, (fun _ h => absurd h List.not_mem_nil)⟩) (by decide) (by decide) tw_449 (hc.kc.2.2.2.2.2.2.2.2.2.2.2.1.1 _ (by decide)) (fun H locs q hd => ?_)
        refine lv_astore_n (lv' := [(2, .ref q), (0, .ref (α 0 g0)), (1, .int x1)]) hc.x hc.b dL_restore_11 rfl hl (by decide) rfl (fun ls hl => ?_)
        refine lv_iconst (v := 2) hc.x hc.b dL_restore_12 (by decide) ?_
        cases hf
        exact r_iret hc hd hr dL_restore_13
      · have hf := br_n c1 hf
        cases hf
  · refine k_v (k_runV hc hd my_X11_restore tw_1298 hL0 rfl rfl rfl (c_X11_restore l D cs B0 kt α Lv S g0 x1 hc.cl hL0 hq) rfl rfl hl.1 (Nat.le_of_ble_eq_true rfl) ⟨Nat.le_of_ble_eq_true rfl, Nat.le_of_ble_eq_true rfl, Nat.zero_le _, Nat.zero_le _⟩ dL_restore_2) hd (fun H locs hd => ?_)
    refine lv_goto (tgt := 14) hc.x hc.b dL_restore_5 (by decide) ?_
    refine lv_iconst (v := 0) hc.x hc.b dL_restore_14 (by decide) ?_
    refine W.widen (k := 1) (n := 6) (Nat.le_of_ble_eq_true rfl) (Nat.le_of_ble_eq_true rfl) ?_
    cases hf
    exact r_iret hc hd hr dL_restore_15
theorem c_L_restore (l : Launch) (D : va_G) (cs : Nat → ClassId) (B0 : Nat) (kt : (Nat → Nat) × (Nat → Nat)) (α : Nat → Nat → Nat) (Lv : Nat → Nat → Prop) (S : St) (g0 : Nat) (x1 : Int32) (hcl : Cl Lv) (hL0 : Lv 0 g0) (hst : l.stackTraces = false) {o : Int32 × St} (hf : f_L_restore g0 x1 S = some o) : Met l yL_restore (wx yL_restore cL_restore 3 (some .int) [(0, 5, 8, 21), (0, 5, 11, 13)]) (Rm 10 1 6) (PzN D cs B0 kt α Lv S [.ref (α 0 g0), .int x1]) (Qi D cs B0 α Lv o.1 o.2) 1 6 (AB B0) := met_ofWH (by decide) rfl hcl (Nat.le_of_ble_eq_true rfl) (fun p e s m below meth c hc hck hr htab hd ls hl => b_L_restore hc hst htab hr hL0 hf hd hl)
theorem my_L_restore : MyW yL_restore cL_restore 3 (some .int) [(0, 5, 8, 21), (0, 5, 11, 13)] 2 := ⟨tw_1296, tw_0, tw_1297, by decide +kernel⟩
def f_L_rise (g0 : Nat) (x1 : Int32) (x2 : Int32) (x3 : Int32) (g4 : Nat) (S : St) : Option (Int32 × St) := wl (f_X11_rise g0 x1 x2 x3 S) (fun k S => br (k = 2) (some (1, S)) (none)) (fun r S => some (0, sl S 81 g4 (nn 0) (Int32.toInt64 r)))
set_option maxRecDepth 100000 in
set_option maxHeartbeats 4000000 in
theorem b_L_rise (hc : Cx p s m args meth c cL_rise 6 "PumpCrossingLaw" D cs B0 kt Lv) (hst : l.stackTraces = false) (htab : c.exceptionTable.toList = tableOf [(0, 12, 15, 15)]) (hr : meth.sig.returnType = some .int) {o : Int32 × St} {S : St} {g0 : Nat} {x1 : Int32} {x2 : Int32} {x3 : Int32} {g4 : Nat} (hL0 : Lv 0 g0) (hL4 : Lv 81 g4) {H : Heap} {locs : List Loc} {ls : Array Slot} (hf : f_L_rise g0 x1 x2 x3 g4 S = some o) (hd : Dy s D cs B0 α Lv S H locs) (hl : lv_has ls 6 [(0, .ref (α 0 g0)), (1, .int x1), (2, .int x2), (3, .int x3), (4, .ref (α 81 g4))]) : W p l e (Rm 10 1 6) s m args below meth c H locs 0 0 (MQ below (Qi D cs B0 α Lv o.1 o.2) args s 1 6 (AB B0)) (F0 m 0 ls []) := by
  unfold f_L_rise at hf
  refine lv_aload hc.x hc.b dL_rise_0 (lv_at hl 4 rfl) ?_
  refine lv_iconst (v := 0) hc.x hc.b dL_rise_2 (by decide) ?_
  refine lv_aload_n hc.x hc.b dL_rise_3 rfl (lv_at hl 0 rfl) ?_
  refine lv_iload_n hc.x hc.b dL_rise_4 rfl (lv_at hl 1 rfl) ?_
  refine lv_iload_n hc.x hc.b dL_rise_5 rfl (lv_at hl 2 rfl) ?_
  refine lv_iload_n hc.x hc.b dL_rise_6 rfl (lv_at hl 3 rfl) ?_
  rcases wl_s hf with ⟨k9, S9, hq, hf⟩ | ⟨r, S1, hq, hf⟩
  · by_cases c2 : k9 = 2
    · have hf := br_y c2 hf
      subst c2
      refine x_catch (name := "java/lang/IllegalArgumentException") hc (x_runV hc hd my_X11_rise tw_1175 hL0 rfl rfl rfl (xc_X11_rise l D cs B0 kt α Lv S g0 x1 x2 x3 hc.cl hL0 hq hst) rfl rfl hl.1 (Nat.le_of_ble_eq_true rfl) ⟨Nat.le_of_ble_eq_true rfl, Nat.le_of_ble_eq_true rfl, Nat.le_of_ble_eq_true rfl, Nat.le_of_ble_eq_true rfl⟩ dL_rise_7) hd rfl [] ⟨0, 12, 15, 15⟩ [] (htab.trans rfl) (fun _ h => absurd h List.not_mem_nil) (by decide) (by decide) tw_450 (hc.kc.2.2.2.2.2.2.2.2.2.2.2.1.1 _ (by decide)) (fun H locs q hd => ?_)
      refine lv_astore (lv' := [(5, .ref q), (0, .ref (α 0 g0)), (1, .int x1), (2, .int x2), (3, .int x3), (4, .ref (α 81 g4))]) hc.x hc.b dL_rise_15 hl (by decide) rfl (fun ls hl => ?_)
      refine lv_iconst (v := 1) hc.x hc.b dL_rise_17 (by decide) ?_
      cases hf
      exact r_iret hc hd hr dL_rise_18
    · have hf := br_n c2 hf
      cases hf
  · refine k_i (k_runV hc hd my_X11_rise tw_1175 hL0 rfl rfl rfl (c_X11_rise l D cs B0 kt α Lv S g0 x1 x2 x3 hc.cl hL0 hq) rfl rfl hl.1 (Nat.le_of_ble_eq_true rfl) ⟨Nat.le_of_ble_eq_true rfl, Nat.le_of_ble_eq_true rfl, Nat.zero_le _, Nat.zero_le _⟩ dL_rise_7) hd (fun H locs hd => ?_)
    refine lv_i2l (v := Int32.toInt64 r) hc.x hc.b dL_rise_10 rfl ?_
    refine r_last hc hd hL4 (fun _ => rfl) (by decide) dL_rise_11 (fun H locs hd => ?_)
    refine lv_goto (tgt := 19) hc.x hc.b dL_rise_12 (by decide) ?_
    refine lv_iconst (v := 0) hc.x hc.b dL_rise_19 (by decide) ?_
    refine W.widen (k := 1) (n := 6) (Nat.le_of_ble_eq_true rfl) (Nat.le_of_ble_eq_true rfl) ?_
    cases hf
    exact r_iret hc hd hr dL_rise_20
theorem c_L_rise (l : Launch) (D : va_G) (cs : Nat → ClassId) (B0 : Nat) (kt : (Nat → Nat) × (Nat → Nat)) (α : Nat → Nat → Nat) (Lv : Nat → Nat → Prop) (S : St) (g0 : Nat) (x1 : Int32) (x2 : Int32) (x3 : Int32) (g4 : Nat) (hcl : Cl Lv) (hL0 : Lv 0 g0) (hL4 : Lv 81 g4) (hst : l.stackTraces = false) {o : Int32 × St} (hf : f_L_rise g0 x1 x2 x3 g4 S = some o) : Met l yL_rise (wx yL_rise cL_rise 6 (some .int) [(0, 12, 15, 15)]) (Rm 10 1 6) (PzN D cs B0 kt α Lv S [.ref (α 0 g0), .int x1, .int x2, .int x3, .ref (α 81 g4)]) (Qi D cs B0 α Lv o.1 o.2) 1 6 (AB B0) := met_ofWH (by decide) rfl hcl (Nat.le_of_ble_eq_true rfl) (fun p e s m below meth c hc hck hr htab hd ls hl => b_L_rise hc hst htab hr hL0 hL4 hf hd hl)
theorem my_L_rise : MyW yL_rise cL_rise 6 (some .int) [(0, 12, 15, 15)] 5 := ⟨tw_1173, tw_0, tw_1174, by decide +kernel⟩
def f_L_run (g0 : Nat) (x1 : Int32) (g2 : Nat) (S : St) : Option (Int32 × St) := wl (f_X11_run g0 x1 S) (fun k S => br (k = 2) (some (1, S)) (none)) (fun r S => some (0, sl S 81 g2 (nn 0) (Int32.toInt64 r)))
set_option maxRecDepth 100000 in
set_option maxHeartbeats 4000000 in
theorem b_L_run (hc : Cx p s m args meth c cL_run 4 "PumpCrossingLaw" D cs B0 kt Lv) (hst : l.stackTraces = false) (htab : c.exceptionTable.toList = tableOf [(0, 9, 12, 15)]) (hr : meth.sig.returnType = some .int) {o : Int32 × St} {S : St} {g0 : Nat} {x1 : Int32} {g2 : Nat} (hL0 : Lv 0 g0) (hL2 : Lv 81 g2) {H : Heap} {locs : List Loc} {ls : Array Slot} (hf : f_L_run g0 x1 g2 S = some o) (hd : Dy s D cs B0 α Lv S H locs) (hl : lv_has ls 4 [(0, .ref (α 0 g0)), (1, .int x1), (2, .ref (α 81 g2))]) : W p l e (Rm 10 1 6) s m args below meth c H locs 0 0 (MQ below (Qi D cs B0 α Lv o.1 o.2) args s 1 6 (AB B0)) (F0 m 0 ls []) := by
  unfold f_L_run at hf
  refine lv_aload_n hc.x hc.b dL_run_0 rfl (lv_at hl 2 rfl) ?_
  refine lv_iconst (v := 0) hc.x hc.b dL_run_1 (by decide) ?_
  refine lv_aload_n hc.x hc.b dL_run_2 rfl (lv_at hl 0 rfl) ?_
  refine lv_iload_n hc.x hc.b dL_run_3 rfl (lv_at hl 1 rfl) ?_
  rcases wl_s hf with ⟨k9, S9, hq, hf⟩ | ⟨r, S1, hq, hf⟩
  · by_cases c2 : k9 = 2
    · have hf := br_y c2 hf
      subst c2
      refine x_catch (name := "java/lang/IllegalArgumentException") hc (x_runV hc hd my_X11_run tw_764 hL0 rfl rfl rfl (xc_X11_run l D cs B0 kt α Lv S g0 x1 hc.cl hL0 hq hst) rfl rfl hl.1 (Nat.le_of_ble_eq_true rfl) ⟨Nat.le_of_ble_eq_true rfl, Nat.le_of_ble_eq_true rfl, Nat.le_of_ble_eq_true rfl, Nat.le_of_ble_eq_true rfl⟩ dL_run_4) hd rfl [] ⟨0, 9, 12, 15⟩ [] (htab.trans rfl) (fun _ h => absurd h List.not_mem_nil) (by decide) (by decide) tw_450 (hc.kc.2.2.2.2.2.2.2.2.2.2.2.1.1 _ (by decide)) (fun H locs q hd => ?_)
      refine lv_astore_n (lv' := [(3, .ref q), (0, .ref (α 0 g0)), (1, .int x1), (2, .ref (α 81 g2))]) hc.x hc.b dL_run_12 rfl hl (by decide) rfl (fun ls hl => ?_)
      refine lv_iconst (v := 1) hc.x hc.b dL_run_13 (by decide) ?_
      cases hf
      exact r_iret hc hd hr dL_run_14
    · have hf := br_n c2 hf
      cases hf
  · refine k_i (k_runV hc hd my_X11_run tw_764 hL0 rfl rfl rfl (c_X11_run l D cs B0 kt α Lv S g0 x1 hc.cl hL0 hq) rfl rfl hl.1 (Nat.le_of_ble_eq_true rfl) ⟨Nat.le_of_ble_eq_true rfl, Nat.le_of_ble_eq_true rfl, Nat.zero_le _, Nat.zero_le _⟩ dL_run_4) hd (fun H locs hd => ?_)
    refine lv_i2l (v := Int32.toInt64 r) hc.x hc.b dL_run_7 rfl ?_
    refine r_last hc hd hL2 (fun _ => rfl) (by decide) dL_run_8 (fun H locs hd => ?_)
    refine lv_goto (tgt := 15) hc.x hc.b dL_run_9 (by decide) ?_
    refine lv_iconst (v := 0) hc.x hc.b dL_run_15 (by decide) ?_
    refine W.widen (k := 1) (n := 6) (Nat.le_of_ble_eq_true rfl) (Nat.le_of_ble_eq_true rfl) ?_
    cases hf
    exact r_iret hc hd hr dL_run_16
theorem c_L_run (l : Launch) (D : va_G) (cs : Nat → ClassId) (B0 : Nat) (kt : (Nat → Nat) × (Nat → Nat)) (α : Nat → Nat → Nat) (Lv : Nat → Nat → Prop) (S : St) (g0 : Nat) (x1 : Int32) (g2 : Nat) (hcl : Cl Lv) (hL0 : Lv 0 g0) (hL2 : Lv 81 g2) (hst : l.stackTraces = false) {o : Int32 × St} (hf : f_L_run g0 x1 g2 S = some o) : Met l yL_run (wx yL_run cL_run 4 (some .int) [(0, 9, 12, 15)]) (Rm 10 1 6) (PzN D cs B0 kt α Lv S [.ref (α 0 g0), .int x1, .ref (α 81 g2)]) (Qi D cs B0 α Lv o.1 o.2) 1 6 (AB B0) := met_ofWH (by decide) rfl hcl (Nat.le_of_ble_eq_true rfl) (fun p e s m below meth c hc hck hr htab hd ls hl => b_L_run hc hst htab hr hL0 hL2 hf hd hl)
theorem my_L_run : MyW yL_run cL_run 4 (some .int) [(0, 9, 12, 15)] 3 := ⟨tw_762, tw_0, tw_763, by decide +kernel⟩
def f_L_station (g0 : Nat) (x1 : Int32) (x2 : Int32) (x3 : Int32) (g4 : Nat) (S : St) : Option (Int32 × St) := wl (f_X11_station g0 x1 x2 x3 S) (fun k S => br (k = 1) (some (1, S)) (br (k = 2) (some (2, S)) (none))) (fun r S => some (0, sl S 81 g4 (nn 0) (Int32.toInt64 r)))
set_option maxRecDepth 100000 in
set_option maxHeartbeats 4000000 in
theorem b_L_station (hc : Cx p s m args meth c cL_station 6 "PumpCrossingLaw" D cs B0 kt Lv) (hst : l.stackTraces = false) (htab : c.exceptionTable.toList = tableOf [(0, 12, 15, 13), (0, 12, 19, 15)]) (hr : meth.sig.returnType = some .int) {o : Int32 × St} {S : St} {g0 : Nat} {x1 : Int32} {x2 : Int32} {x3 : Int32} {g4 : Nat} (hL0 : Lv 0 g0) (hL4 : Lv 81 g4) {H : Heap} {locs : List Loc} {ls : Array Slot} (hf : f_L_station g0 x1 x2 x3 g4 S = some o) (hd : Dy s D cs B0 α Lv S H locs) (hl : lv_has ls 6 [(0, .ref (α 0 g0)), (1, .int x1), (2, .int x2), (3, .int x3), (4, .ref (α 81 g4))]) : W p l e (Rm 11 1 6) s m args below meth c H locs 0 0 (MQ below (Qi D cs B0 α Lv o.1 o.2) args s 1 6 (AB B0)) (F0 m 0 ls []) := by
  unfold f_L_station at hf
  refine lv_aload hc.x hc.b dL_station_0 (lv_at hl 4 rfl) ?_
  refine lv_iconst (v := 0) hc.x hc.b dL_station_2 (by decide) ?_
  refine lv_aload_n hc.x hc.b dL_station_3 rfl (lv_at hl 0 rfl) ?_
  refine lv_iload_n hc.x hc.b dL_station_4 rfl (lv_at hl 1 rfl) ?_
  refine lv_iload_n hc.x hc.b dL_station_5 rfl (lv_at hl 2 rfl) ?_
  refine lv_iload_n hc.x hc.b dL_station_6 rfl (lv_at hl 3 rfl) ?_
  rcases wl_s hf with ⟨k9, S9, hq, hf⟩ | ⟨r, S1, hq, hf⟩
  · by_cases c1 : k9 = 1
    · have hf := br_y c1 hf
      subst c1
      refine x_catch (name := "java/lang/IllegalStateException") hc (x_runV hc hd my_X11_station tw_451 hL0 rfl rfl rfl (xc_X11_station l D cs B0 kt α Lv S g0 x1 x2 x3 hc.cl hL0 hq hst) rfl rfl hl.1 (Nat.le_of_ble_eq_true rfl) ⟨Nat.le_of_ble_eq_true rfl, Nat.le_of_ble_eq_true rfl, Nat.le_of_ble_eq_true rfl, Nat.le_of_ble_eq_true rfl⟩ dL_station_7) hd rfl [] ⟨0, 12, 15, 13⟩ [⟨0, 12, 19, 15⟩] (htab.trans rfl) (fun _ h => absurd h List.not_mem_nil) (by decide) (by decide) tw_449 (hc.kc.2.2.2.2.2.2.2.2.2.2.2.1.1 _ (by decide)) (fun H locs q hd => ?_)
      refine lv_astore (lv' := [(5, .ref q), (0, .ref (α 0 g0)), (1, .int x1), (2, .int x2), (3, .int x3), (4, .ref (α 81 g4))]) hc.x hc.b dL_station_15 hl (by decide) rfl (fun ls hl => ?_)
      refine lv_iconst (v := 1) hc.x hc.b dL_station_17 (by decide) ?_
      cases hf
      exact r_iret hc hd hr dL_station_18
    · have hf := br_n c1 hf
      by_cases c2 : k9 = 2
      · have hf := br_y c2 hf
        subst c2
        refine x_catch (name := "java/lang/IllegalArgumentException") hc (x_runV hc hd my_X11_station tw_451 hL0 rfl rfl rfl (xc_X11_station l D cs B0 kt α Lv S g0 x1 x2 x3 hc.cl hL0 hq hst) rfl rfl hl.1 (Nat.le_of_ble_eq_true rfl) ⟨Nat.le_of_ble_eq_true rfl, Nat.le_of_ble_eq_true rfl, Nat.le_of_ble_eq_true rfl, Nat.le_of_ble_eq_true rfl⟩ dL_station_7) hd rfl [⟨0, 12, 15, 13⟩] ⟨0, 12, 19, 15⟩ [] (htab.trans rfl) (List.forall_mem_cons.mpr ⟨⟨by decide, "java/lang/IllegalStateException", tw_449, hc.kc.2.2.2.2.2.2.2.2.2.2.2.1.2.2 _ (by decide) _ (by decide) (by decide)⟩, (fun _ h => absurd h List.not_mem_nil)⟩) (by decide) (by decide) tw_450 (hc.kc.2.2.2.2.2.2.2.2.2.2.2.1.1 _ (by decide)) (fun H locs q hd => ?_)
        refine lv_astore (lv' := [(5, .ref q), (0, .ref (α 0 g0)), (1, .int x1), (2, .int x2), (3, .int x3), (4, .ref (α 81 g4))]) hc.x hc.b dL_station_19 hl (by decide) rfl (fun ls hl => ?_)
        refine lv_iconst (v := 2) hc.x hc.b dL_station_21 (by decide) ?_
        cases hf
        exact r_iret hc hd hr dL_station_22
      · have hf := br_n c2 hf
        cases hf
  · refine k_i (k_runV hc hd my_X11_station tw_451 hL0 rfl rfl rfl (c_X11_station l D cs B0 kt α Lv S g0 x1 x2 x3 hc.cl hL0 hq) rfl rfl hl.1 (Nat.le_of_ble_eq_true rfl) ⟨Nat.le_of_ble_eq_true rfl, Nat.le_of_ble_eq_true rfl, Nat.zero_le _, Nat.zero_le _⟩ dL_station_7) hd (fun H locs hd => ?_)
    refine lv_i2l (v := Int32.toInt64 r) hc.x hc.b dL_station_10 rfl ?_
    refine r_last hc hd hL4 (fun _ => rfl) (by decide) dL_station_11 (fun H locs hd => ?_)
    refine lv_goto (tgt := 23) hc.x hc.b dL_station_12 (by decide) ?_
    refine lv_iconst (v := 0) hc.x hc.b dL_station_23 (by decide) ?_
    refine W.widen (k := 1) (n := 6) (Nat.le_of_ble_eq_true rfl) (Nat.le_of_ble_eq_true rfl) ?_
    cases hf
    exact r_iret hc hd hr dL_station_24
theorem c_L_station (l : Launch) (D : va_G) (cs : Nat → ClassId) (B0 : Nat) (kt : (Nat → Nat) × (Nat → Nat)) (α : Nat → Nat → Nat) (Lv : Nat → Nat → Prop) (S : St) (g0 : Nat) (x1 : Int32) (x2 : Int32) (x3 : Int32) (g4 : Nat) (hcl : Cl Lv) (hL0 : Lv 0 g0) (hL4 : Lv 81 g4) (hst : l.stackTraces = false) {o : Int32 × St} (hf : f_L_station g0 x1 x2 x3 g4 S = some o) : Met l yL_station (wx yL_station cL_station 6 (some .int) [(0, 12, 15, 13), (0, 12, 19, 15)]) (Rm 11 1 6) (PzN D cs B0 kt α Lv S [.ref (α 0 g0), .int x1, .int x2, .int x3, .ref (α 81 g4)]) (Qi D cs B0 α Lv o.1 o.2) 1 6 (AB B0) := met_ofWH (by decide) rfl hcl (Nat.le_of_ble_eq_true rfl) (fun p e s m below meth c hc hck hr htab hd ls hl => b_L_station hc hst htab hr hL0 hL4 hf hd hl)
theorem my_L_station : MyW yL_station cL_station 6 (some .int) [(0, 12, 15, 13), (0, 12, 19, 15)] 5 := ⟨tw_447, tw_0, tw_448, by decide +kernel⟩
def f_L_story (g0 : Nat) (x1 : Int32) (x2 : Int32) (g3 : Nat) (S : St) : Option (Int32 × St) := wl (f_X11_story g0 x1 x2 S) (fun k S => br (k = 3) (some (1, S)) (br (k = 1) (some (2, S)) (none))) (fun r S => br (r = 0) (some (0, sl S 81 g3 (nn 0) 0)) (some (0, sl S 81 g3 (nn 0) 1)))
set_option maxRecDepth 100000 in
set_option maxHeartbeats 4000000 in
theorem b_L_story (hc : Cx p s m args meth c cL_story 5 "PumpCrossingLaw" D cs B0 kt Lv) (hst : l.stackTraces = false) (htab : c.exceptionTable.toList = tableOf [(0, 17, 20, 21), (0, 17, 24, 13)]) (hr : meth.sig.returnType = some .int) {o : Int32 × St} {S : St} {g0 : Nat} {x1 : Int32} {x2 : Int32} {g3 : Nat} (hL0 : Lv 0 g0) (hL3 : Lv 81 g3) {H : Heap} {locs : List Loc} {ls : Array Slot} (hf : f_L_story g0 x1 x2 g3 S = some o) (hd : Dy s D cs B0 α Lv S H locs) (hl : lv_has ls 5 [(0, .ref (α 0 g0)), (1, .int x1), (2, .int x2), (3, .ref (α 81 g3))]) : W p l e (Rm 10 1 6) s m args below meth c H locs 0 0 (MQ below (Qi D cs B0 α Lv o.1 o.2) args s 1 6 (AB B0)) (F0 m 0 ls []) := by
  unfold f_L_story at hf
  refine lv_aload_n hc.x hc.b dL_story_0 rfl (lv_at hl 3 rfl) ?_
  refine lv_iconst (v := 0) hc.x hc.b dL_story_1 (by decide) ?_
  refine lv_aload_n hc.x hc.b dL_story_2 rfl (lv_at hl 0 rfl) ?_
  refine lv_iload_n hc.x hc.b dL_story_3 rfl (lv_at hl 1 rfl) ?_
  refine lv_iload_n hc.x hc.b dL_story_4 rfl (lv_at hl 2 rfl) ?_
  rcases wl_s hf with ⟨k9, S9, hq, hf⟩ | ⟨r, S1, hq, hf⟩
  · by_cases c3 : k9 = 3
    · have hf := br_y c3 hf
      subst c3
      refine x_catch (name := "java/util/NoSuchElementException") hc (x_runV hc hd my_X11_story tw_1145 hL0 rfl rfl rfl (xc_X11_story l D cs B0 kt α Lv S g0 x1 x2 hc.cl hL0 hq hst) rfl rfl hl.1 (Nat.le_of_ble_eq_true rfl) ⟨Nat.le_of_ble_eq_true rfl, Nat.le_of_ble_eq_true rfl, Nat.le_of_ble_eq_true rfl, Nat.le_of_ble_eq_true rfl⟩ dL_story_5) hd rfl [] ⟨0, 17, 20, 21⟩ [⟨0, 17, 24, 13⟩] (htab.trans rfl) (fun _ h => absurd h List.not_mem_nil) (by decide) (by decide) tw_554 (hc.kc.2.2.2.2.2.2.2.2.2.2.2.1.1 _ (by decide)) (fun H locs q hd => ?_)
      refine lv_astore (lv' := [(4, .ref q), (0, .ref (α 0 g0)), (1, .int x1), (2, .int x2), (3, .ref (α 81 g3))]) hc.x hc.b dL_story_20 hl (by decide) rfl (fun ls hl => ?_)
      refine lv_iconst (v := 1) hc.x hc.b dL_story_22 (by decide) ?_
      cases hf
      exact r_iret hc hd hr dL_story_23
    · have hf := br_n c3 hf
      by_cases c1 : k9 = 1
      · have hf := br_y c1 hf
        subst c1
        refine x_catch (name := "java/lang/IllegalStateException") hc (x_runV hc hd my_X11_story tw_1145 hL0 rfl rfl rfl (xc_X11_story l D cs B0 kt α Lv S g0 x1 x2 hc.cl hL0 hq hst) rfl rfl hl.1 (Nat.le_of_ble_eq_true rfl) ⟨Nat.le_of_ble_eq_true rfl, Nat.le_of_ble_eq_true rfl, Nat.le_of_ble_eq_true rfl, Nat.le_of_ble_eq_true rfl⟩ dL_story_5) hd rfl [⟨0, 17, 20, 21⟩] ⟨0, 17, 24, 13⟩ [] (htab.trans rfl) (List.forall_mem_cons.mpr ⟨⟨by decide, "java/util/NoSuchElementException", tw_554, hc.kc.2.2.2.2.2.2.2.2.2.2.2.1.2.2 _ (by decide) _ (by decide) (by decide)⟩, (fun _ h => absurd h List.not_mem_nil)⟩) (by decide) (by decide) tw_449 (hc.kc.2.2.2.2.2.2.2.2.2.2.2.1.1 _ (by decide)) (fun H locs q hd => ?_)
        refine lv_astore (lv' := [(4, .ref q), (0, .ref (α 0 g0)), (1, .int x1), (2, .int x2), (3, .ref (α 81 g3))]) hc.x hc.b dL_story_24 hl (by decide) rfl (fun ls hl => ?_)
        refine lv_iconst (v := 2) hc.x hc.b dL_story_26 (by decide) ?_
        cases hf
        exact r_iret hc hd hr dL_story_27
      · have hf := br_n c1 hf
        cases hf
  · refine k_i (k_runV hc hd my_X11_story tw_1145 hL0 rfl rfl rfl (c_X11_story l D cs B0 kt α Lv S g0 x1 x2 hc.cl hL0 hq) rfl rfl hl.1 (Nat.le_of_ble_eq_true rfl) ⟨Nat.le_of_ble_eq_true rfl, Nat.le_of_ble_eq_true rfl, Nat.zero_le _, Nat.zero_le _⟩ dL_story_5) hd (fun H locs hd => ?_)
    refine lv_if_eq (tgt := 15) hc.x hc.b dL_story_8 (by decide) (fun c0 => ?_) (fun c0 => ?_)
    · have hf := br_y c0 hf
      refine lv_lconst (v := 0) hc.x hc.b dL_story_15 (by decide) ?_
      refine r_last hc hd hL3 (fun _ => rfl) (by decide) dL_story_16 (fun H locs hd => ?_)
      refine lv_goto (tgt := 28) hc.x hc.b dL_story_17 (by decide) ?_
      refine lv_iconst (v := 0) hc.x hc.b dL_story_28 (by decide) ?_
      refine W.widen (k := 1) (n := 6) (Nat.le_of_ble_eq_true rfl) (Nat.le_of_ble_eq_true rfl) ?_
      cases hf
      exact r_iret hc hd hr dL_story_29
    · have hf := br_n c0 hf
      refine lv_lconst (v := 1) hc.x hc.b dL_story_11 (by decide) ?_
      refine lv_goto (tgt := 16) hc.x hc.b dL_story_12 (by decide) ?_
      refine r_last hc hd hL3 (fun _ => rfl) (by decide) dL_story_16 (fun H locs hd => ?_)
      refine lv_goto (tgt := 28) hc.x hc.b dL_story_17 (by decide) ?_
      refine lv_iconst (v := 0) hc.x hc.b dL_story_28 (by decide) ?_
      refine W.widen (k := 1) (n := 6) (Nat.le_of_ble_eq_true rfl) (Nat.le_of_ble_eq_true rfl) ?_
      cases hf
      exact r_iret hc hd hr dL_story_29
theorem c_L_story (l : Launch) (D : va_G) (cs : Nat → ClassId) (B0 : Nat) (kt : (Nat → Nat) × (Nat → Nat)) (α : Nat → Nat → Nat) (Lv : Nat → Nat → Prop) (S : St) (g0 : Nat) (x1 : Int32) (x2 : Int32) (g3 : Nat) (hcl : Cl Lv) (hL0 : Lv 0 g0) (hL3 : Lv 81 g3) (hst : l.stackTraces = false) {o : Int32 × St} (hf : f_L_story g0 x1 x2 g3 S = some o) : Met l yL_story (wx yL_story cL_story 5 (some .int) [(0, 17, 20, 21), (0, 17, 24, 13)]) (Rm 10 1 6) (PzN D cs B0 kt α Lv S [.ref (α 0 g0), .int x1, .int x2, .ref (α 81 g3)]) (Qi D cs B0 α Lv o.1 o.2) 1 6 (AB B0) := met_ofWH (by decide) rfl hcl (Nat.le_of_ble_eq_true rfl) (fun p e s m below meth c hc hck hr htab hd ls hl => b_L_story hc hst htab hr hL0 hL3 hf hd hl)
theorem my_L_story : MyW yL_story cL_story 5 (some .int) [(0, 17, 20, 21), (0, 17, 24, 13)] 4 := ⟨tw_1143, tw_0, tw_1144, by decide +kernel⟩
def f_L_told (g0 : Nat) (x1 : Int32) (x2 : Int32) (x3 : Int32) (x4 : Int32) (g5 : Nat) (S : St) : Option (Int32 × St) := wl (f_X11_told g0 x1 x2 x3 x4 S) (fun k S => br (k = 1) (some (1, S)) (br (k = 2) (some (2, S)) (none))) (fun r S => some (0, sl S 81 g5 (nn 0) (Int32.toInt64 r)))
set_option maxRecDepth 100000 in
set_option maxHeartbeats 4000000 in
theorem b_L_told (hc : Cx p s m args meth c cL_told 7 "PumpCrossingLaw" D cs B0 kt Lv) (hst : l.stackTraces = false) (htab : c.exceptionTable.toList = tableOf [(0, 14, 17, 13), (0, 14, 21, 15)]) (hr : meth.sig.returnType = some .int) {o : Int32 × St} {S : St} {g0 : Nat} {x1 : Int32} {x2 : Int32} {x3 : Int32} {x4 : Int32} {g5 : Nat} (hL0 : Lv 0 g0) (hL5 : Lv 81 g5) {H : Heap} {locs : List Loc} {ls : Array Slot} (hf : f_L_told g0 x1 x2 x3 x4 g5 S = some o) (hd : Dy s D cs B0 α Lv S H locs) (hl : lv_has ls 7 [(0, .ref (α 0 g0)), (1, .int x1), (2, .int x2), (3, .int x3), (4, .int x4), (5, .ref (α 81 g5))]) : W p l e (Rm 11 1 6) s m args below meth c H locs 0 0 (MQ below (Qi D cs B0 α Lv o.1 o.2) args s 1 6 (AB B0)) (F0 m 0 ls []) := by
  unfold f_L_told at hf
  refine lv_aload hc.x hc.b dL_told_0 (lv_at hl 5 rfl) ?_
  refine lv_iconst (v := 0) hc.x hc.b dL_told_2 (by decide) ?_
  refine lv_aload_n hc.x hc.b dL_told_3 rfl (lv_at hl 0 rfl) ?_
  refine lv_iload_n hc.x hc.b dL_told_4 rfl (lv_at hl 1 rfl) ?_
  refine lv_iload_n hc.x hc.b dL_told_5 rfl (lv_at hl 2 rfl) ?_
  refine lv_iload_n hc.x hc.b dL_told_6 rfl (lv_at hl 3 rfl) ?_
  refine lv_iload hc.x hc.b dL_told_7 (lv_at hl 4 rfl) ?_
  rcases wl_s hf with ⟨k9, S9, hq, hf⟩ | ⟨r, S1, hq, hf⟩
  · by_cases c1 : k9 = 1
    · have hf := br_y c1 hf
      subst c1
      refine x_catch (name := "java/lang/IllegalStateException") hc (x_runV hc hd my_X11_told tw_1214 hL0 rfl rfl rfl (xc_X11_told l D cs B0 kt α Lv S g0 x1 x2 x3 x4 hc.cl hL0 hq hst) rfl rfl hl.1 (Nat.le_of_ble_eq_true rfl) ⟨Nat.le_of_ble_eq_true rfl, Nat.le_of_ble_eq_true rfl, Nat.le_of_ble_eq_true rfl, Nat.le_of_ble_eq_true rfl⟩ dL_told_9) hd rfl [] ⟨0, 14, 17, 13⟩ [⟨0, 14, 21, 15⟩] (htab.trans rfl) (fun _ h => absurd h List.not_mem_nil) (by decide) (by decide) tw_449 (hc.kc.2.2.2.2.2.2.2.2.2.2.2.1.1 _ (by decide)) (fun H locs q hd => ?_)
      refine lv_astore (lv' := [(6, .ref q), (0, .ref (α 0 g0)), (1, .int x1), (2, .int x2), (3, .int x3), (4, .int x4), (5, .ref (α 81 g5))]) hc.x hc.b dL_told_17 hl (by decide) rfl (fun ls hl => ?_)
      refine lv_iconst (v := 1) hc.x hc.b dL_told_19 (by decide) ?_
      cases hf
      exact r_iret hc hd hr dL_told_20
    · have hf := br_n c1 hf
      by_cases c2 : k9 = 2
      · have hf := br_y c2 hf
        subst c2
        refine x_catch (name := "java/lang/IllegalArgumentException") hc (x_runV hc hd my_X11_told tw_1214 hL0 rfl rfl rfl (xc_X11_told l D cs B0 kt α Lv S g0 x1 x2 x3 x4 hc.cl hL0 hq hst) rfl rfl hl.1 (Nat.le_of_ble_eq_true rfl) ⟨Nat.le_of_ble_eq_true rfl, Nat.le_of_ble_eq_true rfl, Nat.le_of_ble_eq_true rfl, Nat.le_of_ble_eq_true rfl⟩ dL_told_9) hd rfl [⟨0, 14, 17, 13⟩] ⟨0, 14, 21, 15⟩ [] (htab.trans rfl) (List.forall_mem_cons.mpr ⟨⟨by decide, "java/lang/IllegalStateException", tw_449, hc.kc.2.2.2.2.2.2.2.2.2.2.2.1.2.2 _ (by decide) _ (by decide) (by decide)⟩, (fun _ h => absurd h List.not_mem_nil)⟩) (by decide) (by decide) tw_450 (hc.kc.2.2.2.2.2.2.2.2.2.2.2.1.1 _ (by decide)) (fun H locs q hd => ?_)
        refine lv_astore (lv' := [(6, .ref q), (0, .ref (α 0 g0)), (1, .int x1), (2, .int x2), (3, .int x3), (4, .int x4), (5, .ref (α 81 g5))]) hc.x hc.b dL_told_21 hl (by decide) rfl (fun ls hl => ?_)
        refine lv_iconst (v := 2) hc.x hc.b dL_told_23 (by decide) ?_
        cases hf
        exact r_iret hc hd hr dL_told_24
      · have hf := br_n c2 hf
        cases hf
  · refine k_i (k_runV hc hd my_X11_told tw_1214 hL0 rfl rfl rfl (c_X11_told l D cs B0 kt α Lv S g0 x1 x2 x3 x4 hc.cl hL0 hq) rfl rfl hl.1 (Nat.le_of_ble_eq_true rfl) ⟨Nat.le_of_ble_eq_true rfl, Nat.le_of_ble_eq_true rfl, Nat.zero_le _, Nat.zero_le _⟩ dL_told_9) hd (fun H locs hd => ?_)
    refine lv_i2l (v := Int32.toInt64 r) hc.x hc.b dL_told_12 rfl ?_
    refine r_last hc hd hL5 (fun _ => rfl) (by decide) dL_told_13 (fun H locs hd => ?_)
    refine lv_goto (tgt := 25) hc.x hc.b dL_told_14 (by decide) ?_
    refine lv_iconst (v := 0) hc.x hc.b dL_told_25 (by decide) ?_
    refine W.widen (k := 1) (n := 6) (Nat.le_of_ble_eq_true rfl) (Nat.le_of_ble_eq_true rfl) ?_
    cases hf
    exact r_iret hc hd hr dL_told_26
theorem c_L_told (l : Launch) (D : va_G) (cs : Nat → ClassId) (B0 : Nat) (kt : (Nat → Nat) × (Nat → Nat)) (α : Nat → Nat → Nat) (Lv : Nat → Nat → Prop) (S : St) (g0 : Nat) (x1 : Int32) (x2 : Int32) (x3 : Int32) (x4 : Int32) (g5 : Nat) (hcl : Cl Lv) (hL0 : Lv 0 g0) (hL5 : Lv 81 g5) (hst : l.stackTraces = false) {o : Int32 × St} (hf : f_L_told g0 x1 x2 x3 x4 g5 S = some o) : Met l yL_told (wx yL_told cL_told 7 (some .int) [(0, 14, 17, 13), (0, 14, 21, 15)]) (Rm 11 1 6) (PzN D cs B0 kt α Lv S [.ref (α 0 g0), .int x1, .int x2, .int x3, .int x4, .ref (α 81 g5)]) (Qi D cs B0 α Lv o.1 o.2) 1 6 (AB B0) := met_ofWH (by decide) rfl hcl (Nat.le_of_ble_eq_true rfl) (fun p e s m below meth c hc hck hr htab hd ls hl => b_L_told hc hst htab hr hL0 hL5 hf hd hl)
theorem my_L_told : MyW yL_told cL_told 7 (some .int) [(0, 14, 17, 13), (0, 14, 21, 15)] 6 := ⟨tw_1212, tw_0, tw_1213, by decide +kernel⟩
def f_L_tray (g0 : Nat) (x1 : Int32) (x2 : Int32) (x3 : Int32) (S : St) : Option (Int32 × St) := wl (f_X11_tray g0 x1 x2 x3 S) (fun k S => br (k = 3) (some (1, S)) (br (k = 2) (some (2, S)) (none))) (fun _ S => some (0, S))
set_option maxRecDepth 100000 in
set_option maxHeartbeats 4000000 in
theorem b_L_tray (hc : Cx p s m args meth c cL_tray 5 "PumpCrossingLaw" D cs B0 kt Lv) (hst : l.stackTraces = false) (htab : c.exceptionTable.toList = tableOf [(0, 7, 10, 21), (0, 7, 14, 15)]) (hr : meth.sig.returnType = some .int) {o : Int32 × St} {S : St} {g0 : Nat} {x1 : Int32} {x2 : Int32} {x3 : Int32} (hL0 : Lv 0 g0) {H : Heap} {locs : List Loc} {ls : Array Slot} (hf : f_L_tray g0 x1 x2 x3 S = some o) (hd : Dy s D cs B0 α Lv S H locs) (hl : lv_has ls 5 [(0, .ref (α 0 g0)), (1, .int x1), (2, .int x2), (3, .int x3)]) : W p l e (Rm 10 1 6) s m args below meth c H locs 0 0 (MQ below (Qi D cs B0 α Lv o.1 o.2) args s 1 6 (AB B0)) (F0 m 0 ls []) := by
  unfold f_L_tray at hf
  refine lv_aload_n hc.x hc.b dL_tray_0 rfl (lv_at hl 0 rfl) ?_
  refine lv_iload_n hc.x hc.b dL_tray_1 rfl (lv_at hl 1 rfl) ?_
  refine lv_iload_n hc.x hc.b dL_tray_2 rfl (lv_at hl 2 rfl) ?_
  refine lv_iload_n hc.x hc.b dL_tray_3 rfl (lv_at hl 3 rfl) ?_
  rcases wl_s hf with ⟨k9, S9, hq, hf⟩ | ⟨r, S1, hq, hf⟩
  · by_cases c3 : k9 = 3
    · have hf := br_y c3 hf
      subst c3
      refine x_catch (name := "java/util/NoSuchElementException") hc (x_runV hc hd my_X11_tray tw_1238 hL0 rfl rfl rfl (xc_X11_tray l D cs B0 kt α Lv S g0 x1 x2 x3 hc.cl hL0 hq hst) rfl rfl hl.1 (Nat.le_of_ble_eq_true rfl) ⟨Nat.le_of_ble_eq_true rfl, Nat.le_of_ble_eq_true rfl, Nat.le_of_ble_eq_true rfl, Nat.le_of_ble_eq_true rfl⟩ dL_tray_4) hd rfl [] ⟨0, 7, 10, 21⟩ [⟨0, 7, 14, 15⟩] (htab.trans rfl) (fun _ h => absurd h List.not_mem_nil) (by decide) (by decide) tw_554 (hc.kc.2.2.2.2.2.2.2.2.2.2.2.1.1 _ (by decide)) (fun H locs q hd => ?_)
      refine lv_astore (lv' := [(4, .ref q), (0, .ref (α 0 g0)), (1, .int x1), (2, .int x2), (3, .int x3)]) hc.x hc.b dL_tray_10 hl (by decide) rfl (fun ls hl => ?_)
      refine lv_iconst (v := 1) hc.x hc.b dL_tray_12 (by decide) ?_
      cases hf
      exact r_iret hc hd hr dL_tray_13
    · have hf := br_n c3 hf
      by_cases c2 : k9 = 2
      · have hf := br_y c2 hf
        subst c2
        refine x_catch (name := "java/lang/IllegalArgumentException") hc (x_runV hc hd my_X11_tray tw_1238 hL0 rfl rfl rfl (xc_X11_tray l D cs B0 kt α Lv S g0 x1 x2 x3 hc.cl hL0 hq hst) rfl rfl hl.1 (Nat.le_of_ble_eq_true rfl) ⟨Nat.le_of_ble_eq_true rfl, Nat.le_of_ble_eq_true rfl, Nat.le_of_ble_eq_true rfl, Nat.le_of_ble_eq_true rfl⟩ dL_tray_4) hd rfl [⟨0, 7, 10, 21⟩] ⟨0, 7, 14, 15⟩ [] (htab.trans rfl) (List.forall_mem_cons.mpr ⟨⟨by decide, "java/util/NoSuchElementException", tw_554, hc.kc.2.2.2.2.2.2.2.2.2.2.2.1.2.2 _ (by decide) _ (by decide) (by decide)⟩, (fun _ h => absurd h List.not_mem_nil)⟩) (by decide) (by decide) tw_450 (hc.kc.2.2.2.2.2.2.2.2.2.2.2.1.1 _ (by decide)) (fun H locs q hd => ?_)
        refine lv_astore (lv' := [(4, .ref q), (0, .ref (α 0 g0)), (1, .int x1), (2, .int x2), (3, .int x3)]) hc.x hc.b dL_tray_14 hl (by decide) rfl (fun ls hl => ?_)
        refine lv_iconst (v := 2) hc.x hc.b dL_tray_16 (by decide) ?_
        cases hf
        exact r_iret hc hd hr dL_tray_17
      · have hf := br_n c2 hf
        cases hf
  · refine k_v (k_runV hc hd my_X11_tray tw_1238 hL0 rfl rfl rfl (c_X11_tray l D cs B0 kt α Lv S g0 x1 x2 x3 hc.cl hL0 hq) rfl rfl hl.1 (Nat.le_of_ble_eq_true rfl) ⟨Nat.le_of_ble_eq_true rfl, Nat.le_of_ble_eq_true rfl, Nat.zero_le _, Nat.zero_le _⟩ dL_tray_4) hd (fun H locs hd => ?_)
    refine lv_goto (tgt := 18) hc.x hc.b dL_tray_7 (by decide) ?_
    refine lv_iconst (v := 0) hc.x hc.b dL_tray_18 (by decide) ?_
    refine W.widen (k := 1) (n := 6) (Nat.le_of_ble_eq_true rfl) (Nat.le_of_ble_eq_true rfl) ?_
    cases hf
    exact r_iret hc hd hr dL_tray_19
theorem c_L_tray (l : Launch) (D : va_G) (cs : Nat → ClassId) (B0 : Nat) (kt : (Nat → Nat) × (Nat → Nat)) (α : Nat → Nat → Nat) (Lv : Nat → Nat → Prop) (S : St) (g0 : Nat) (x1 : Int32) (x2 : Int32) (x3 : Int32) (hcl : Cl Lv) (hL0 : Lv 0 g0) (hst : l.stackTraces = false) {o : Int32 × St} (hf : f_L_tray g0 x1 x2 x3 S = some o) : Met l yL_tray (wx yL_tray cL_tray 5 (some .int) [(0, 7, 10, 21), (0, 7, 14, 15)]) (Rm 10 1 6) (PzN D cs B0 kt α Lv S [.ref (α 0 g0), .int x1, .int x2, .int x3]) (Qi D cs B0 α Lv o.1 o.2) 1 6 (AB B0) := met_ofWH (by decide) rfl hcl (Nat.le_of_ble_eq_true rfl) (fun p e s m below meth c hc hck hr htab hd ls hl => b_L_tray hc hst htab hr hL0 hf hd hl)
theorem my_L_tray : MyW yL_tray cL_tray 5 (some .int) [(0, 7, 10, 21), (0, 7, 14, 15)] 4 := ⟨tw_1236, tw_0, tw_1237, by decide +kernel⟩
def f_L_turn (g0 : Nat) (x1 : Int32) (x2 : Int32) (x3 : Int32) (x4 : Int32) (x5 : Int32) (g6 : Nat) (S : St) : Option (Int32 × St) := wl (f_X11_turn g0 x1 x2 x3 x4 x5 S) (fun k S => br (k = 3) (some (1, S)) (br (k = 2) (some (2, S)) (br (k = 4) (some (3, S)) (none)))) (fun r S => some (0, sl S 81 g6 (nn 0) (Int32.toInt64 r)))
set_option maxRecDepth 100000 in
set_option maxHeartbeats 4000000 in
theorem b_L_turn (hc : Cx p s m args meth c cL_turn 8 "PumpCrossingLaw" D cs B0 kt Lv) (hst : l.stackTraces = false) (htab : c.exceptionTable.toList = tableOf [(0, 16, 19, 21), (0, 16, 23, 15), (0, 16, 27, 71)]) (hr : meth.sig.returnType = some .int) {o : Int32 × St} {S : St} {g0 : Nat} {x1 : Int32} {x2 : Int32} {x3 : Int32} {x4 : Int32} {x5 : Int32} {g6 : Nat} (hL0 : Lv 0 g0) (hL6 : Lv 81 g6) {H : Heap} {locs : List Loc} {ls : Array Slot} (hf : f_L_turn g0 x1 x2 x3 x4 x5 g6 S = some o) (hd : Dy s D cs B0 α Lv S H locs) (hl : lv_has ls 8 [(0, .ref (α 0 g0)), (1, .int x1), (2, .int x2), (3, .int x3), (4, .int x4), (5, .int x5), (6, .ref (α 81 g6))]) : W p l e (Rm 12 1 6) s m args below meth c H locs 0 0 (MQ below (Qi D cs B0 α Lv o.1 o.2) args s 1 6 (AB B0)) (F0 m 0 ls []) := by
  unfold f_L_turn at hf
  refine lv_aload hc.x hc.b dL_turn_0 (lv_at hl 6 rfl) ?_
  refine lv_iconst (v := 0) hc.x hc.b dL_turn_2 (by decide) ?_
  refine lv_aload_n hc.x hc.b dL_turn_3 rfl (lv_at hl 0 rfl) ?_
  refine lv_iload_n hc.x hc.b dL_turn_4 rfl (lv_at hl 1 rfl) ?_
  refine lv_iload_n hc.x hc.b dL_turn_5 rfl (lv_at hl 2 rfl) ?_
  refine lv_iload_n hc.x hc.b dL_turn_6 rfl (lv_at hl 3 rfl) ?_
  refine lv_iload hc.x hc.b dL_turn_7 (lv_at hl 4 rfl) ?_
  refine lv_iload hc.x hc.b dL_turn_9 (lv_at hl 5 rfl) ?_
  rcases wl_s hf with ⟨k9, S9, hq, hf⟩ | ⟨r, S1, hq, hf⟩
  · by_cases c3 : k9 = 3
    · have hf := br_y c3 hf
      subst c3
      refine x_catch (name := "java/util/NoSuchElementException") hc (x_runV hc hd my_X11_turn tw_1058 hL0 rfl rfl rfl (xc_X11_turn l D cs B0 kt α Lv S g0 x1 x2 x3 x4 x5 hc.cl hL0 hq hst) rfl rfl hl.1 (Nat.le_of_ble_eq_true rfl) ⟨Nat.le_of_ble_eq_true rfl, Nat.le_of_ble_eq_true rfl, Nat.le_of_ble_eq_true rfl, Nat.le_of_ble_eq_true rfl⟩ dL_turn_11) hd rfl [] ⟨0, 16, 19, 21⟩ [⟨0, 16, 23, 15⟩, ⟨0, 16, 27, 71⟩] (htab.trans rfl) (fun _ h => absurd h List.not_mem_nil) (by decide) (by decide) tw_554 (hc.kc.2.2.2.2.2.2.2.2.2.2.2.1.1 _ (by decide)) (fun H locs q hd => ?_)
      refine lv_astore (lv' := [(7, .ref q), (0, .ref (α 0 g0)), (1, .int x1), (2, .int x2), (3, .int x3), (4, .int x4), (5, .int x5), (6, .ref (α 81 g6))]) hc.x hc.b dL_turn_19 hl (by decide) rfl (fun ls hl => ?_)
      refine lv_iconst (v := 1) hc.x hc.b dL_turn_21 (by decide) ?_
      cases hf
      exact r_iret hc hd hr dL_turn_22
    · have hf := br_n c3 hf
      by_cases c2 : k9 = 2
      · have hf := br_y c2 hf
        subst c2
        refine x_catch (name := "java/lang/IllegalArgumentException") hc (x_runV hc hd my_X11_turn tw_1058 hL0 rfl rfl rfl (xc_X11_turn l D cs B0 kt α Lv S g0 x1 x2 x3 x4 x5 hc.cl hL0 hq hst) rfl rfl hl.1 (Nat.le_of_ble_eq_true rfl) ⟨Nat.le_of_ble_eq_true rfl, Nat.le_of_ble_eq_true rfl, Nat.le_of_ble_eq_true rfl, Nat.le_of_ble_eq_true rfl⟩ dL_turn_11) hd rfl [⟨0, 16, 19, 21⟩] ⟨0, 16, 23, 15⟩ [⟨0, 16, 27, 71⟩] (htab.trans rfl) (List.forall_mem_cons.mpr ⟨⟨by decide, "java/util/NoSuchElementException", tw_554, hc.kc.2.2.2.2.2.2.2.2.2.2.2.1.2.2 _ (by decide) _ (by decide) (by decide)⟩, (fun _ h => absurd h List.not_mem_nil)⟩) (by decide) (by decide) tw_450 (hc.kc.2.2.2.2.2.2.2.2.2.2.2.1.1 _ (by decide)) (fun H locs q hd => ?_)
        refine lv_astore (lv' := [(7, .ref q), (0, .ref (α 0 g0)), (1, .int x1), (2, .int x2), (3, .int x3), (4, .int x4), (5, .int x5), (6, .ref (α 81 g6))]) hc.x hc.b dL_turn_23 hl (by decide) rfl (fun ls hl => ?_)
        refine lv_iconst (v := 2) hc.x hc.b dL_turn_25 (by decide) ?_
        cases hf
        exact r_iret hc hd hr dL_turn_26
      · have hf := br_n c2 hf
        by_cases c4 : k9 = 4
        · have hf := br_y c4 hf
          subst c4
          refine x_catch (name := "java/lang/IndexOutOfBoundsException") hc (x_runV hc hd my_X11_turn tw_1058 hL0 rfl rfl rfl (xc_X11_turn l D cs B0 kt α Lv S g0 x1 x2 x3 x4 x5 hc.cl hL0 hq hst) rfl rfl hl.1 (Nat.le_of_ble_eq_true rfl) ⟨Nat.le_of_ble_eq_true rfl, Nat.le_of_ble_eq_true rfl, Nat.le_of_ble_eq_true rfl, Nat.le_of_ble_eq_true rfl⟩ dL_turn_11) hd rfl [⟨0, 16, 19, 21⟩, ⟨0, 16, 23, 15⟩] ⟨0, 16, 27, 71⟩ [] (htab.trans rfl) (List.forall_mem_cons.mpr ⟨⟨by decide, "java/util/NoSuchElementException", tw_554, hc.kc.2.2.2.2.2.2.2.2.2.2.2.1.2.2 _ (by decide) _ (by decide) (by decide)⟩, (List.forall_mem_cons.mpr ⟨⟨by decide, "java/lang/IllegalArgumentException", tw_450, hc.kc.2.2.2.2.2.2.2.2.2.2.2.1.2.2 _ (by decide) _ (by decide) (by decide)⟩, (fun _ h => absurd h List.not_mem_nil)⟩)⟩) (by decide) (by decide) tw_966 (hc.kc.2.2.2.2.2.2.2.2.2.2.2.1.1 _ (by decide)) (fun H locs q hd => ?_)
          refine lv_astore (lv' := [(7, .ref q), (0, .ref (α 0 g0)), (1, .int x1), (2, .int x2), (3, .int x3), (4, .int x4), (5, .int x5), (6, .ref (α 81 g6))]) hc.x hc.b dL_turn_27 hl (by decide) rfl (fun ls hl => ?_)
          refine lv_iconst (v := 3) hc.x hc.b dL_turn_29 (by decide) ?_
          cases hf
          exact r_iret hc hd hr dL_turn_30
        · have hf := br_n c4 hf
          cases hf
  · refine k_i (k_runV hc hd my_X11_turn tw_1058 hL0 rfl rfl rfl (c_X11_turn l D cs B0 kt α Lv S g0 x1 x2 x3 x4 x5 hc.cl hL0 hq) rfl rfl hl.1 (Nat.le_of_ble_eq_true rfl) ⟨Nat.le_of_ble_eq_true rfl, Nat.le_of_ble_eq_true rfl, Nat.zero_le _, Nat.zero_le _⟩ dL_turn_11) hd (fun H locs hd => ?_)
    refine lv_i2l (v := Int32.toInt64 r) hc.x hc.b dL_turn_14 rfl ?_
    refine r_last hc hd hL6 (fun _ => rfl) (by decide) dL_turn_15 (fun H locs hd => ?_)
    refine lv_goto (tgt := 31) hc.x hc.b dL_turn_16 (by decide) ?_
    refine lv_iconst (v := 0) hc.x hc.b dL_turn_31 (by decide) ?_
    refine W.widen (k := 1) (n := 6) (Nat.le_of_ble_eq_true rfl) (Nat.le_of_ble_eq_true rfl) ?_
    cases hf
    exact r_iret hc hd hr dL_turn_32
theorem c_L_turn (l : Launch) (D : va_G) (cs : Nat → ClassId) (B0 : Nat) (kt : (Nat → Nat) × (Nat → Nat)) (α : Nat → Nat → Nat) (Lv : Nat → Nat → Prop) (S : St) (g0 : Nat) (x1 : Int32) (x2 : Int32) (x3 : Int32) (x4 : Int32) (x5 : Int32) (g6 : Nat) (hcl : Cl Lv) (hL0 : Lv 0 g0) (hL6 : Lv 81 g6) (hst : l.stackTraces = false) {o : Int32 × St} (hf : f_L_turn g0 x1 x2 x3 x4 x5 g6 S = some o) : Met l yL_turn (wx yL_turn cL_turn 8 (some .int) [(0, 16, 19, 21), (0, 16, 23, 15), (0, 16, 27, 71)]) (Rm 12 1 6) (PzN D cs B0 kt α Lv S [.ref (α 0 g0), .int x1, .int x2, .int x3, .int x4, .int x5, .ref (α 81 g6)]) (Qi D cs B0 α Lv o.1 o.2) 1 6 (AB B0) := met_ofWH (by decide) rfl hcl (Nat.le_of_ble_eq_true rfl) (fun p e s m below meth c hc hck hr htab hd ls hl => b_L_turn hc hst htab hr hL0 hL6 hf hd hl)
theorem my_L_turn : MyW yL_turn cL_turn 8 (some .int) [(0, 16, 19, 21), (0, 16, 23, 15), (0, 16, 27, 71)] 7 := ⟨tw_1056, tw_0, tw_1057, by decide +kernel⟩
def f_L_would (g0 : Nat) (x1 : Int32) (g2 : Nat) (S : St) : Option (Int32 × St) := wl (f_X11_would g0 x1 S) (fun k S => br (k = 3) (some (1, S)) (none)) (fun r S => some (0, sl S 81 g2 (nn 0) (Int32.toInt64 r)))
set_option maxRecDepth 100000 in
set_option maxHeartbeats 4000000 in
theorem b_L_would (hc : Cx p s m args meth c cL_would 4 "PumpCrossingLaw" D cs B0 kt Lv) (hst : l.stackTraces = false) (htab : c.exceptionTable.toList = tableOf [(0, 9, 12, 21)]) (hr : meth.sig.returnType = some .int) {o : Int32 × St} {S : St} {g0 : Nat} {x1 : Int32} {g2 : Nat} (hL0 : Lv 0 g0) (hL2 : Lv 81 g2) {H : Heap} {locs : List Loc} {ls : Array Slot} (hf : f_L_would g0 x1 g2 S = some o) (hd : Dy s D cs B0 α Lv S H locs) (hl : lv_has ls 4 [(0, .ref (α 0 g0)), (1, .int x1), (2, .ref (α 81 g2))]) : W p l e (Rm 10 1 6) s m args below meth c H locs 0 0 (MQ below (Qi D cs B0 α Lv o.1 o.2) args s 1 6 (AB B0)) (F0 m 0 ls []) := by
  unfold f_L_would at hf
  refine lv_aload_n hc.x hc.b dL_would_0 rfl (lv_at hl 2 rfl) ?_
  refine lv_iconst (v := 0) hc.x hc.b dL_would_1 (by decide) ?_
  refine lv_aload_n hc.x hc.b dL_would_2 rfl (lv_at hl 0 rfl) ?_
  refine lv_iload_n hc.x hc.b dL_would_3 rfl (lv_at hl 1 rfl) ?_
  rcases wl_s hf with ⟨k9, S9, hq, hf⟩ | ⟨r, S1, hq, hf⟩
  · by_cases c3 : k9 = 3
    · have hf := br_y c3 hf
      subst c3
      refine x_catch (name := "java/util/NoSuchElementException") hc (x_runV hc hd my_X11_would tw_877 hL0 rfl rfl rfl (xc_X11_would l D cs B0 kt α Lv S g0 x1 hc.cl hL0 hq hst) rfl rfl hl.1 (Nat.le_of_ble_eq_true rfl) ⟨Nat.le_of_ble_eq_true rfl, Nat.le_of_ble_eq_true rfl, Nat.le_of_ble_eq_true rfl, Nat.le_of_ble_eq_true rfl⟩ dL_would_4) hd rfl [] ⟨0, 9, 12, 21⟩ [] (htab.trans rfl) (fun _ h => absurd h List.not_mem_nil) (by decide) (by decide) tw_554 (hc.kc.2.2.2.2.2.2.2.2.2.2.2.1.1 _ (by decide)) (fun H locs q hd => ?_)
      refine lv_astore_n (lv' := [(3, .ref q), (0, .ref (α 0 g0)), (1, .int x1), (2, .ref (α 81 g2))]) hc.x hc.b dL_would_12 rfl hl (by decide) rfl (fun ls hl => ?_)
      refine lv_iconst (v := 1) hc.x hc.b dL_would_13 (by decide) ?_
      cases hf
      exact r_iret hc hd hr dL_would_14
    · have hf := br_n c3 hf
      cases hf
  · refine k_i (k_runV hc hd my_X11_would tw_877 hL0 rfl rfl rfl (c_X11_would l D cs B0 kt α Lv S g0 x1 hc.cl hL0 hq) rfl rfl hl.1 (Nat.le_of_ble_eq_true rfl) ⟨Nat.le_of_ble_eq_true rfl, Nat.le_of_ble_eq_true rfl, Nat.zero_le _, Nat.zero_le _⟩ dL_would_4) hd (fun H locs hd => ?_)
    refine lv_i2l (v := Int32.toInt64 r) hc.x hc.b dL_would_7 rfl ?_
    refine r_last hc hd hL2 (fun _ => rfl) (by decide) dL_would_8 (fun H locs hd => ?_)
    refine lv_goto (tgt := 15) hc.x hc.b dL_would_9 (by decide) ?_
    refine lv_iconst (v := 0) hc.x hc.b dL_would_15 (by decide) ?_
    refine W.widen (k := 1) (n := 6) (Nat.le_of_ble_eq_true rfl) (Nat.le_of_ble_eq_true rfl) ?_
    cases hf
    exact r_iret hc hd hr dL_would_16
theorem c_L_would (l : Launch) (D : va_G) (cs : Nat → ClassId) (B0 : Nat) (kt : (Nat → Nat) × (Nat → Nat)) (α : Nat → Nat → Nat) (Lv : Nat → Nat → Prop) (S : St) (g0 : Nat) (x1 : Int32) (g2 : Nat) (hcl : Cl Lv) (hL0 : Lv 0 g0) (hL2 : Lv 81 g2) (hst : l.stackTraces = false) {o : Int32 × St} (hf : f_L_would g0 x1 g2 S = some o) : Met l yL_would (wx yL_would cL_would 4 (some .int) [(0, 9, 12, 21)]) (Rm 10 1 6) (PzN D cs B0 kt α Lv S [.ref (α 0 g0), .int x1, .ref (α 81 g2)]) (Qi D cs B0 α Lv o.1 o.2) 1 6 (AB B0) := met_ofWH (by decide) rfl hcl (Nat.le_of_ble_eq_true rfl) (fun p e s m below meth c hc hck hr htab hd ls hl => b_L_would hc hst htab hr hL0 hL2 hf hd hl)
theorem my_L_would : MyW yL_would cL_would 4 (some .int) [(0, 9, 12, 21)] 3 := ⟨tw_875, tw_0, tw_876, by decide +kernel⟩
def f_L_write (g0 : Nat) (x1 : Int32) (x2 : Int32) (x3 : Int64) (g5 : Nat) (S : St) : Option (Int32 × St) := wl (f_X11_write g0 x1 x2 x3 S) (fun k S => br (k = 3) (some (1, S)) (br (k = 1) (some (2, S)) (br (k = 4) (some (3, S)) (none)))) (fun r S => some (0, sl S 81 g5 (nn 0) r))
set_option maxRecDepth 100000 in
set_option maxHeartbeats 4000000 in
theorem b_L_write (hc : Cx p s m args meth c cL_write 7 "PumpCrossingLaw" D cs B0 kt Lv) (hst : l.stackTraces = false) (htab : c.exceptionTable.toList = tableOf [(0, 11, 14, 21), (0, 11, 18, 13), (0, 11, 22, 71)]) (hr : meth.sig.returnType = some .int) {o : Int32 × St} {S : St} {g0 : Nat} {x1 : Int32} {x2 : Int32} {x3 : Int64} {g5 : Nat} (hL0 : Lv 0 g0) (hL5 : Lv 81 g5) {H : Heap} {locs : List Loc} {ls : Array Slot} (hf : f_L_write g0 x1 x2 x3 g5 S = some o) (hd : Dy s D cs B0 α Lv S H locs) (hl : lv_has ls 7 [(0, .ref (α 0 g0)), (1, .int x1), (2, .int x2), (3, .long x3), (5, .ref (α 81 g5))]) : W p l e (Rm 10 1 6) s m args below meth c H locs 0 0 (MQ below (Qi D cs B0 α Lv o.1 o.2) args s 1 6 (AB B0)) (F0 m 0 ls []) := by
  unfold f_L_write at hf
  refine lv_aload hc.x hc.b dL_write_0 (lv_at hl 4 rfl) ?_
  refine lv_iconst (v := 0) hc.x hc.b dL_write_2 (by decide) ?_
  refine lv_aload_n hc.x hc.b dL_write_3 rfl (lv_at hl 0 rfl) ?_
  refine lv_iload_n hc.x hc.b dL_write_4 rfl (lv_at hl 1 rfl) ?_
  refine lv_iload_n hc.x hc.b dL_write_5 rfl (lv_at hl 2 rfl) ?_
  refine lv_lload_n hc.x hc.b dL_write_6 rfl (lv_at hl 3 rfl) ?_
  rcases wl_s hf with ⟨k9, S9, hq, hf⟩ | ⟨r, S1, hq, hf⟩
  · by_cases c3 : k9 = 3
    · have hf := br_y c3 hf
      subst c3
      refine x_catch (name := "java/util/NoSuchElementException") hc (x_runV hc hd my_X11_write tw_1249 hL0 rfl rfl rfl (xc_X11_write l D cs B0 kt α Lv S g0 x1 x2 x3 hc.cl hL0 hq hst) rfl rfl hl.1 (Nat.le_of_ble_eq_true rfl) ⟨Nat.le_of_ble_eq_true rfl, Nat.le_of_ble_eq_true rfl, Nat.le_of_ble_eq_true rfl, Nat.le_of_ble_eq_true rfl⟩ dL_write_7) hd rfl [] ⟨0, 11, 14, 21⟩ [⟨0, 11, 18, 13⟩, ⟨0, 11, 22, 71⟩] (htab.trans rfl) (fun _ h => absurd h List.not_mem_nil) (by decide) (by decide) tw_554 (hc.kc.2.2.2.2.2.2.2.2.2.2.2.1.1 _ (by decide)) (fun H locs q hd => ?_)
      refine lv_astore (lv' := [(6, .ref q), (0, .ref (α 0 g0)), (1, .int x1), (2, .int x2), (3, .long x3), (5, .ref (α 81 g5))]) hc.x hc.b dL_write_14 hl (by decide) rfl (fun ls hl => ?_)
      refine lv_iconst (v := 1) hc.x hc.b dL_write_16 (by decide) ?_
      cases hf
      exact r_iret hc hd hr dL_write_17
    · have hf := br_n c3 hf
      by_cases c1 : k9 = 1
      · have hf := br_y c1 hf
        subst c1
        refine x_catch (name := "java/lang/IllegalStateException") hc (x_runV hc hd my_X11_write tw_1249 hL0 rfl rfl rfl (xc_X11_write l D cs B0 kt α Lv S g0 x1 x2 x3 hc.cl hL0 hq hst) rfl rfl hl.1 (Nat.le_of_ble_eq_true rfl) ⟨Nat.le_of_ble_eq_true rfl, Nat.le_of_ble_eq_true rfl, Nat.le_of_ble_eq_true rfl, Nat.le_of_ble_eq_true rfl⟩ dL_write_7) hd rfl [⟨0, 11, 14, 21⟩] ⟨0, 11, 18, 13⟩ [⟨0, 11, 22, 71⟩] (htab.trans rfl) (List.forall_mem_cons.mpr ⟨⟨by decide, "java/util/NoSuchElementException", tw_554, hc.kc.2.2.2.2.2.2.2.2.2.2.2.1.2.2 _ (by decide) _ (by decide) (by decide)⟩, (fun _ h => absurd h List.not_mem_nil)⟩) (by decide) (by decide) tw_449 (hc.kc.2.2.2.2.2.2.2.2.2.2.2.1.1 _ (by decide)) (fun H locs q hd => ?_)
        refine lv_astore (lv' := [(6, .ref q), (0, .ref (α 0 g0)), (1, .int x1), (2, .int x2), (3, .long x3), (5, .ref (α 81 g5))]) hc.x hc.b dL_write_18 hl (by decide) rfl (fun ls hl => ?_)
        refine lv_iconst (v := 2) hc.x hc.b dL_write_20 (by decide) ?_
        cases hf
        exact r_iret hc hd hr dL_write_21
      · have hf := br_n c1 hf
        by_cases c4 : k9 = 4
        · have hf := br_y c4 hf
          subst c4
          refine x_catch (name := "java/lang/IndexOutOfBoundsException") hc (x_runV hc hd my_X11_write tw_1249 hL0 rfl rfl rfl (xc_X11_write l D cs B0 kt α Lv S g0 x1 x2 x3 hc.cl hL0 hq hst) rfl rfl hl.1 (Nat.le_of_ble_eq_true rfl) ⟨Nat.le_of_ble_eq_true rfl, Nat.le_of_ble_eq_true rfl, Nat.le_of_ble_eq_true rfl, Nat.le_of_ble_eq_true rfl⟩ dL_write_7) hd rfl [⟨0, 11, 14, 21⟩, ⟨0, 11, 18, 13⟩] ⟨0, 11, 22, 71⟩ [] (htab.trans rfl) (List.forall_mem_cons.mpr ⟨⟨by decide, "java/util/NoSuchElementException", tw_554, hc.kc.2.2.2.2.2.2.2.2.2.2.2.1.2.2 _ (by decide) _ (by decide) (by decide)⟩, (List.forall_mem_cons.mpr ⟨⟨by decide, "java/lang/IllegalStateException", tw_449, hc.kc.2.2.2.2.2.2.2.2.2.2.2.1.2.2 _ (by decide) _ (by decide) (by decide)⟩, (fun _ h => absurd h List.not_mem_nil)⟩)⟩) (by decide) (by decide) tw_966 (hc.kc.2.2.2.2.2.2.2.2.2.2.2.1.1 _ (by decide)) (fun H locs q hd => ?_)
          refine lv_astore (lv' := [(6, .ref q), (0, .ref (α 0 g0)), (1, .int x1), (2, .int x2), (3, .long x3), (5, .ref (α 81 g5))]) hc.x hc.b dL_write_22 hl (by decide) rfl (fun ls hl => ?_)
          refine lv_iconst (v := 3) hc.x hc.b dL_write_24 (by decide) ?_
          cases hf
          exact r_iret hc hd hr dL_write_25
        · have hf := br_n c4 hf
          cases hf
  · refine k_l (k_runV hc hd my_X11_write tw_1249 hL0 rfl rfl rfl (c_X11_write l D cs B0 kt α Lv S g0 x1 x2 x3 hc.cl hL0 hq) rfl rfl hl.1 (Nat.le_of_ble_eq_true rfl) ⟨Nat.le_of_ble_eq_true rfl, Nat.le_of_ble_eq_true rfl, Nat.zero_le _, Nat.zero_le _⟩ dL_write_7) hd (fun H locs hd => ?_)
    refine r_last hc hd hL5 (fun _ => rfl) (by decide) dL_write_10 (fun H locs hd => ?_)
    refine lv_goto (tgt := 26) hc.x hc.b dL_write_11 (by decide) ?_
    refine lv_iconst (v := 0) hc.x hc.b dL_write_26 (by decide) ?_
    refine W.widen (k := 1) (n := 6) (Nat.le_of_ble_eq_true rfl) (Nat.le_of_ble_eq_true rfl) ?_
    cases hf
    exact r_iret hc hd hr dL_write_27
theorem c_L_write (l : Launch) (D : va_G) (cs : Nat → ClassId) (B0 : Nat) (kt : (Nat → Nat) × (Nat → Nat)) (α : Nat → Nat → Nat) (Lv : Nat → Nat → Prop) (S : St) (g0 : Nat) (x1 : Int32) (x2 : Int32) (x3 : Int64) (g5 : Nat) (hcl : Cl Lv) (hL0 : Lv 0 g0) (hL5 : Lv 81 g5) (hst : l.stackTraces = false) {o : Int32 × St} (hf : f_L_write g0 x1 x2 x3 g5 S = some o) : Met l yL_write (wx yL_write cL_write 7 (some .int) [(0, 11, 14, 21), (0, 11, 18, 13), (0, 11, 22, 71)]) (Rm 10 1 6) (PzN D cs B0 kt α Lv S [.ref (α 0 g0), .int x1, .int x2, .long x3, .ref (α 81 g5)]) (Qi D cs B0 α Lv o.1 o.2) 1 6 (AB B0) := met_ofWH (by decide) rfl hcl (Nat.le_of_ble_eq_true rfl) (fun p e s m below meth c hc hck hr htab hd ls hl => b_L_write hc hst htab hr hL0 hL5 hf hd hl)
theorem my_L_write : MyW yL_write cL_write 7 (some .int) [(0, 11, 14, 21), (0, 11, 18, 13), (0, 11, 22, 71)] 5 := ⟨tw_1247, tw_0, tw_1248, by decide +kernel⟩
end
