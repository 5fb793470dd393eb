section
variable {p : Program} {l : Launch} {e : Env} {s : State} {m : MethodId} {args : Array Value} {below : List Frame} {meth : Method} {c : Code} {D : va_G} {cs : Nat → ClassId} {B0 : Nat} {kt : (Nat → Nat) × (Nat → Nat)} {α : Nat → Nat → Nat} {Lv : Nat → Nat → Prop}
def f_L_rules (g0 gN : Nat) (x1 : Int32) (x2 : Int32) (g3 : Nat) (S : St) : Option (Int32 × St) := wl (f_X11_rules g0 gN x1 x2 S) (fun k S => br (k = 3) (some (1, S)) (br (k = 2) (some (2, S)) (none))) (fun r S => some (0, sl S 81 g3 (nn 0) (Int32.toInt64 r)))
set_option maxRecDepth 100000 in
set_option maxHeartbeats 4000000 in
theorem b_L_rules (hc : Cx p s m args meth c cL_rules 5 "PumpCrossingLaw" D cs B0 kt Lv) (hck : CK cs s) (hst : l.stackTraces = false) (htab : c.exceptionTable.toList = tableOf [(0, 10, 13, 21), (0, 10, 17, 15)]) (hr : meth.sig.returnType = some .int) {o : Int32 × St} {S : St} {g0 gN : Nat} {x1 : Int32} {x2 : Int32} {g3 : Nat} (hlt : ∀ k g, Lv k g → k < 1000) (hfr : ∀ x ∈ F_X11_rules gN, ¬ Lv x.1 x.2) (hL0 : Lv 0 g0) (hL3 : Lv 81 g3) {H : Heap} {locs : List Loc} {ls : Array Slot} (hf : f_L_rules g0 gN x1 x2 g3 S = some o) (hd : Dy s D cs B0 α Lv S H locs) (hl : lv_has ls 5 [(0, .ref (α 0 g0)), (1, .int x1), (2, .int x2), (3, .ref (α 81 g3))]) : W p l e (Rm 10 3 414) s m args below meth c H locs 0 0 (MQ below (QAi D cs B0 α Lv (F_X11_rules gN) o.1 o.2) args s 3 414 (AB B0)) (F0 m 0 ls []) := by
  unfold f_L_rules at hf
  have hx : Ex α Lv (1000, 0) α Lv [] := Ex.start hlt
  refine lv_aload_n hc.x hc.b dL_rules_0 rfl (lv_at hl 3 rfl) ?_
  refine lv_iconst (v := 0) hc.x hc.b dL_rules_1 (by decide) ?_
  refine lv_aload_n hc.x hc.b dL_rules_2 rfl (lv_at hl 0 rfl) ?_
  refine lv_iload_n hc.x hc.b dL_rules_3 rfl (lv_at hl 1 rfl) ?_
  refine lv_iload_n hc.x hc.b dL_rules_4 rfl (lv_at hl 2 rfl) ?_
  rcases wl_s hf with ⟨k9, S9, hq, hf⟩ | ⟨r, S1, hq, hf⟩
  · by_cases c3 : k9 = 3
    · have hf := br_y c3 hf
      subst c3
      refine x_catch (name := "java/util/NoSuchElementException") hc (x_runV hc hd my_X11_rules tw_611 hL0 rfl rfl rfl (xc_X11_rules l D cs B0 kt α Lv S g0 gN x1 x2 hc.cl hL0 hq hst) rfl rfl hl.1 (Nat.le_of_ble_eq_true rfl) ⟨Nat.le_of_ble_eq_true rfl, Nat.le_of_ble_eq_true rfl, Nat.le_of_ble_eq_true rfl, Nat.le_of_ble_eq_true rfl⟩ dL_rules_5) hd rfl [] ⟨0, 10, 13, 21⟩ [⟨0, 10, 17, 15⟩] (htab.trans rfl) (fun _ h => absurd h List.not_mem_nil) (by decide) (by decide) tw_554 (hc.kc.2.2.2.2.2.2.2.2.2.2.2.1.1 _ (by decide)) (fun H locs q hd => ?_)
      refine lv_astore (lv' := [(4, .ref q), (0, .ref (α 0 g0)), (1, .int x1), (2, .int x2), (3, .ref (α 81 g3))]) hc.x hc.b dL_rules_13 hl (by decide) rfl (fun ls hl => ?_)
      refine lv_iconst (v := 1) hc.x hc.b dL_rules_15 (by decide) ?_
      refine W.widen (k := 3) (n := 414) (Nat.le_of_ble_eq_true rfl) (Nat.le_of_ble_eq_true rfl) ?_
      cases hf
      exact q_iretA hc hd hr hx (fun _ h => absurd h List.not_mem_nil) dL_rules_16
    · have hf := br_n c3 hf
      by_cases c2 : k9 = 2
      · have hf := br_y c2 hf
        subst c2
        refine x_catch (name := "java/lang/IllegalArgumentException") hc (x_runV hc hd my_X11_rules tw_611 hL0 rfl rfl rfl (xc_X11_rules l D cs B0 kt α Lv S g0 gN x1 x2 hc.cl hL0 hq hst) rfl rfl hl.1 (Nat.le_of_ble_eq_true rfl) ⟨Nat.le_of_ble_eq_true rfl, Nat.le_of_ble_eq_true rfl, Nat.le_of_ble_eq_true rfl, Nat.le_of_ble_eq_true rfl⟩ dL_rules_5) hd rfl [⟨0, 10, 13, 21⟩] ⟨0, 10, 17, 15⟩ [] (htab.trans rfl) (List.forall_mem_cons.mpr ⟨⟨by decide, "java/util/NoSuchElementException", tw_554, hc.kc.2.2.2.2.2.2.2.2.2.2.2.1.2.2 _ (by decide) _ (by decide) (by decide)⟩, (fun _ h => absurd h List.not_mem_nil)⟩) (by decide) (by decide) tw_450 (hc.kc.2.2.2.2.2.2.2.2.2.2.2.1.1 _ (by decide)) (fun H locs q hd => ?_)
        refine lv_astore (lv' := [(4, .ref q), (0, .ref (α 0 g0)), (1, .int x1), (2, .int x2), (3, .ref (α 81 g3))]) hc.x hc.b dL_rules_17 hl (by decide) rfl (fun ls hl => ?_)
        refine lv_iconst (v := 2) hc.x hc.b dL_rules_19 (by decide) ?_
        refine W.widen (k := 3) (n := 414) (Nat.le_of_ble_eq_true rfl) (Nat.le_of_ble_eq_true rfl) ?_
        cases hf
        exact q_iretA hc hd hr hx (fun _ h => absurd h List.not_mem_nil) dL_rules_20
      · have hf := br_n c2 hf
        cases hf
  · refine k_iA hc (k_runVN hc hck hd my_X11_rules tw_611 hL0 rfl rfl rfl (c_X11_rules l D cs B0 kt α Lv S g0 gN x1 x2 hc.cl hlt hfr hL0 hq) rfl rfl hl.1 (Nat.le_of_ble_eq_true rfl) ⟨Nat.le_of_ble_eq_true rfl, Nat.le_of_ble_eq_true rfl, Nat.le_of_ble_eq_true rfl, Nat.le_of_ble_eq_true rfl⟩ dL_rules_5) hd (fun α Lv H locs ho ha hc hd hx => ?_)
    refine w_st (st' := [.int r, .int 0, .ref (α 81 g3)]) (by rw [ha _ _ hL3]) ?_
    have hL3 := ho _ _ hL3
    refine lv_i2l (v := Int32.toInt64 r) hc.x hc.b dL_rules_8 rfl ?_
    refine r_last hc hd hL3 (fun _ => rfl) (by decide) dL_rules_9 (fun H locs hd => ?_)
    refine lv_goto (tgt := 21) hc.x hc.b dL_rules_10 (by decide) ?_
    refine lv_iconst (v := 0) hc.x hc.b dL_rules_21 (by decide) ?_
    refine W.widen (k := 3) (n := 414) (Nat.le_of_ble_eq_true rfl) (Nat.le_of_ble_eq_true rfl) ?_
    cases hf
    exact q_iretA hc hd hr hx (fun _ h => h) dL_rules_22
theorem c_L_rules (l : Launch) (D : va_G) (cs : Nat → ClassId) (B0 : Nat) (kt : (Nat → Nat) × (Nat → Nat)) (α : Nat → Nat → Nat) (Lv : Nat → Nat → Prop) (S : St) (g0 gN : Nat) (x1 : Int32) (x2 : Int32) (g3 : Nat) (hcl : Cl Lv) (hlt : ∀ k g, Lv k g → k < 1000) (hfr : ∀ x ∈ F_X11_rules gN, ¬ Lv x.1 x.2) (hL0 : Lv 0 g0) (hL3 : Lv 81 g3) (hst : l.stackTraces = false) {o : Int32 × St} (hf : f_L_rules g0 gN x1 x2 g3 S = some o) : Met l yL_rules (wx yL_rules cL_rules 5 (some .int) [(0, 10, 13, 21), (0, 10, 17, 15)]) (Rm 10 3 414) (PzN D cs B0 kt α Lv S [.ref (α 0 g0), .int x1, .int x2, .ref (α 81 g3)]) (QAi D cs B0 α Lv (F_X11_rules gN) o.1 o.2) 3 414 (AB B0) := met_ofWH (by decide) rfl hcl (Nat.le_of_ble_eq_true rfl) (fun p e s m below meth c hc hck hr htab hd ls hl => b_L_rules hc hck hst htab hr hlt hfr hL0 hL3 hf hd hl)
theorem my_L_rules : MyW yL_rules cL_rules 5 (some .int) [(0, 10, 13, 21), (0, 10, 17, 15)] 4 := ⟨tw_609, tw_0, tw_610, by decide +kernel⟩
def f_L_law (g0 gN : Nat) (x1 : Int32) (g2 : Nat) (S : St) : Option (Int32 × St) := wl (f_X11_law g0 gN x1 S) (fun k S => br (k = 2) (some (1, S)) (none)) (fun r S => some (0, sl S 81 g2 (nn 0) (Int32.toInt64 r)))
set_option maxRecDepth 100000 in
set_option maxHeartbeats 4000000 in
theorem b_L_law (hc : Cx p s m args meth c cL_law 4 "PumpCrossingLaw" D cs B0 kt Lv) (hck : CK cs s) (hst : l.stackTraces = false) (htab : c.exceptionTable.toList = tableOf [(0, 9, 12, 15)]) (hr : meth.sig.returnType = some .int) {o : Int32 × St} {S : St} {g0 gN : Nat} {x1 : Int32} {g2 : Nat} (hlt : ∀ k g, Lv k g → k < 1000) (hfr : ∀ x ∈ F_X11_law gN, ¬ Lv x.1 x.2) (hL0 : Lv 0 g0) (hL2 : Lv 81 g2) {H : Heap} {locs : List Loc} {ls : Array Slot} (hf : f_L_law g0 gN x1 g2 S = some o) (hd : Dy s D cs B0 α Lv S H locs) (hl : lv_has ls 4 [(0, .ref (α 0 g0)), (1, .int x1), (2, .ref (α 81 g2))]) : W p l e (Rm 10 1 6) s m args below meth c H locs 0 0 (MQ below (QAi D cs B0 α Lv (F_X11_law gN) o.1 o.2) args s 1 6 (AB B0)) (F0 m 0 ls []) := by
  unfold f_L_law at hf
  have hx : Ex α Lv (1000, 0) α Lv [] := Ex.start hlt
  refine lv_aload_n hc.x hc.b dL_law_0 rfl (lv_at hl 2 rfl) ?_
  refine lv_iconst (v := 0) hc.x hc.b dL_law_1 (by decide) ?_
  refine lv_aload_n hc.x hc.b dL_law_2 rfl (lv_at hl 0 rfl) ?_
  refine lv_iload_n hc.x hc.b dL_law_3 rfl (lv_at hl 1 rfl) ?_
  rcases wl_s hf with ⟨k9, S9, hq, hf⟩ | ⟨r, S1, hq, hf⟩
  · by_cases c2 : k9 = 2
    · have hf := br_y c2 hf
      subst c2
      refine x_catch (name := "java/lang/IllegalArgumentException") hc (x_runV hc hd my_X11_law tw_734 hL0 rfl rfl rfl (xc_X11_law l D cs B0 kt α Lv S g0 gN x1 hc.cl hL0 hq hst) rfl rfl hl.1 (Nat.le_of_ble_eq_true rfl) ⟨Nat.le_of_ble_eq_true rfl, Nat.le_of_ble_eq_true rfl, Nat.le_of_ble_eq_true rfl, Nat.le_of_ble_eq_true rfl⟩ dL_law_4) hd rfl [] ⟨0, 9, 12, 15⟩ [] (htab.trans rfl) (fun _ h => absurd h List.not_mem_nil) (by decide) (by decide) tw_450 (hc.kc.2.2.2.2.2.2.2.2.2.2.2.1.1 _ (by decide)) (fun H locs q hd => ?_)
      refine lv_astore_n (lv' := [(3, .ref q), (0, .ref (α 0 g0)), (1, .int x1), (2, .ref (α 81 g2))]) hc.x hc.b dL_law_12 rfl hl (by decide) rfl (fun ls hl => ?_)
      refine lv_iconst (v := 1) hc.x hc.b dL_law_13 (by decide) ?_
      refine W.widen (k := 1) (n := 6) (Nat.le_of_ble_eq_true rfl) (Nat.le_of_ble_eq_true rfl) ?_
      cases hf
      exact q_iretA hc hd hr hx (fun _ h => absurd h List.not_mem_nil) dL_law_14
    · have hf := br_n c2 hf
      cases hf
  · refine k_iA hc (k_runVN hc hck hd my_X11_law tw_734 hL0 rfl rfl rfl (c_X11_law l D cs B0 kt α Lv S g0 gN x1 hc.cl hlt hfr hL0 hq) rfl rfl hl.1 (Nat.le_of_ble_eq_true rfl) ⟨Nat.le_of_ble_eq_true rfl, Nat.le_of_ble_eq_true rfl, Nat.le_of_ble_eq_true rfl, Nat.le_of_ble_eq_true rfl⟩ dL_law_4) hd (fun α Lv H locs ho ha hc hd hx => ?_)
    refine w_st (st' := [.int r, .int 0, .ref (α 81 g2)]) (by rw [ha _ _ hL2]) ?_
    have hL2 := ho _ _ hL2
    refine lv_i2l (v := Int32.toInt64 r) hc.x hc.b dL_law_7 rfl ?_
    refine r_last hc hd hL2 (fun _ => rfl) (by decide) dL_law_8 (fun H locs hd => ?_)
    refine lv_goto (tgt := 15) hc.x hc.b dL_law_9 (by decide) ?_
    refine lv_iconst (v := 0) hc.x hc.b dL_law_15 (by decide) ?_
    refine W.widen (k := 1) (n := 6) (Nat.le_of_ble_eq_true rfl) (Nat.le_of_ble_eq_true rfl) ?_
    cases hf
    exact q_iretA hc hd hr hx (fun _ h => h) dL_law_16
theorem c_L_law (l : Launch) (D : va_G) (cs : Nat → ClassId) (B0 : Nat) (kt : (Nat → Nat) × (Nat → Nat)) (α : Nat → Nat → Nat) (Lv : Nat → Nat → Prop) (S : St) (g0 gN : Nat) (x1 : Int32) (g2 : Nat) (hcl : Cl Lv) (hlt : ∀ k g, Lv k g → k < 1000) (hfr : ∀ x ∈ F_X11_law gN, ¬ Lv x.1 x.2) (hL0 : Lv 0 g0) (hL2 : Lv 81 g2) (hst : l.stackTraces = false) {o : Int32 × St} (hf : f_L_law g0 gN x1 g2 S = some o) : Met l yL_law (wx yL_law cL_law 4 (some .int) [(0, 9, 12, 15)]) (Rm 10 1 6) (PzN D cs B0 kt α Lv S [.ref (α 0 g0), .int x1, .ref (α 81 g2)]) (QAi D cs B0 α Lv (F_X11_law gN) o.1 o.2) 1 6 (AB B0) := met_ofWH (by decide) rfl hcl (Nat.le_of_ble_eq_true rfl) (fun p e s m below meth c hc hck hr htab hd ls hl => b_L_law hc hck hst htab hr hlt hfr hL0 hL2 hf hd hl)
theorem my_L_law : MyW yL_law cL_law 4 (some .int) [(0, 9, 12, 15)] 3 := ⟨tw_732, tw_0, tw_733, by decide +kernel⟩
def f_L_image (g0 gN : Nat) (x1 : Int32) (S : St) : Option (Int32 × St) := wl (f_X11_image g0 gN x1 S) (fun k S => br (k = 3) (some (1, S)) (none)) (fun _ S => some (0, S))
set_option maxRecDepth 100000 in
set_option maxHeartbeats 4000000 in
theorem b_L_image (hc : Cx p s m args meth c cL_image 3 "PumpCrossingLaw" D cs B0 kt Lv) (hck : CK cs s) (hst : l.stackTraces = false) (htab : c.exceptionTable.toList = tableOf [(0, 5, 8, 21)]) (hr : meth.sig.returnType = some .int) {o : Int32 × St} {S : St} {g0 gN : Nat} {x1 : Int32} (hlt : ∀ k g, Lv k g → k < 1000) (hfr : ∀ x ∈ F_X11_image gN, ¬ Lv x.1 x.2) (hL0 : Lv 0 g0) {H : Heap} {locs : List Loc} {ls : Array Slot} (hf : f_L_image g0 gN x1 S = some o) (hd : Dy s D cs B0 α Lv S H locs) (hl : lv_has ls 3 [(0, .ref (α 0 g0)), (1, .int x1)]) : W p l e (Rm 10 30 1472) s m args below meth c H locs 0 0 (MQ below (QAi D cs B0 α Lv (F_X11_image gN) o.1 o.2) args s 30 1472 (AB B0)) (F0 m 0 ls []) := by
  unfold f_L_image at hf
  have hx : Ex α Lv (1000, 0) α Lv [] := Ex.start hlt
  refine lv_aload_n hc.x hc.b dL_image_0 rfl (lv_at hl 0 rfl) ?_
  refine lv_iload_n hc.x hc.b dL_image_1 rfl (lv_at hl 1 rfl) ?_
  rcases wl_s hf with ⟨k9, S9, hq, hf⟩ | ⟨r, S1, hq, hf⟩
  · by_cases c3 : k9 = 3
    · have hf := br_y c3 hf
      subst c3
      refine x_catch (name := "java/util/NoSuchElementException") hc (x_runV hc hd my_X11_image tw_1264 hL0 rfl rfl rfl (xc_X11_image l D cs B0 kt α Lv S g0 gN x1 hc.cl hL0 hq hst) rfl rfl hl.1 (Nat.le_of_ble_eq_true rfl) ⟨Nat.le_of_ble_eq_true rfl, Nat.le_of_ble_eq_true rfl, Nat.le_of_ble_eq_true rfl, Nat.le_of_ble_eq_true rfl⟩ dL_image_2) hd rfl [] ⟨0, 5, 8, 21⟩ [] (htab.trans rfl) (fun _ h => absurd h List.not_mem_nil) (by decide) (by decide) tw_554 (hc.kc.2.2.2.2.2.2.2.2.2.2.2.1.1 _ (by decide)) (fun H locs q hd => ?_)
      refine lv_astore_n (lv' := [(2, .ref q), (0, .ref (α 0 g0)), (1, .int x1)]) hc.x hc.b dL_image_8 rfl hl (by decide) rfl (fun ls hl => ?_)
      refine lv_iconst (v := 1) hc.x hc.b dL_image_9 (by decide) ?_
      refine W.widen (k := 30) (n := 1472) (Nat.le_of_ble_eq_true rfl) (Nat.le_of_ble_eq_true rfl) ?_
      cases hf
      exact q_iretA hc hd hr hx (fun _ h => absurd h List.not_mem_nil) dL_image_10
    · have hf := br_n c3 hf
      cases hf
  · refine k_vA hc (k_runVN hc hck hd my_X11_image tw_1264 hL0 rfl rfl rfl (c_X11_image l D cs B0 kt α Lv S g0 gN x1 hc.cl hlt hfr hL0 hq) rfl rfl hl.1 (Nat.le_of_ble_eq_true rfl) ⟨Nat.le_of_ble_eq_true rfl, Nat.le_of_ble_eq_true rfl, Nat.le_of_ble_eq_true rfl, Nat.le_of_ble_eq_true rfl⟩ dL_image_2) hd (fun α Lv H locs ho ha hc hd hx => ?_)
    refine lv_goto (tgt := 11) hc.x hc.b dL_image_5 (by decide) ?_
    refine lv_iconst (v := 0) hc.x hc.b dL_image_11 (by decide) ?_
    refine W.widen (k := 30) (n := 1472) (Nat.le_of_ble_eq_true rfl) (Nat.le_of_ble_eq_true rfl) ?_
    cases hf
    exact q_iretA hc hd hr hx (fun _ h => h) dL_image_12
theorem c_L_image (l : Launch) (D : va_G) (cs : Nat → ClassId) (B0 : Nat) (kt : (Nat → Nat) × (Nat → Nat)) (α : Nat → Nat → Nat) (Lv : Nat → Nat → Prop) (S : St) (g0 gN : Nat) (x1 : Int32) (hcl : Cl Lv) (hlt : ∀ k g, Lv k g → k < 1000) (hfr : ∀ x ∈ F_X11_image gN, ¬ Lv x.1 x.2) (hL0 : Lv 0 g0) (hst : l.stackTraces = false) {o : Int32 × St} (hf : f_L_image g0 gN x1 S = some o) : Met l yL_image (wx yL_image cL_image 3 (some .int) [(0, 5, 8, 21)]) (Rm 10 30 1472) (PzN D cs B0 kt α Lv S [.ref (α 0 g0), .int x1]) (QAi D cs B0 α Lv (F_X11_image gN) o.1 o.2) 30 1472 (AB B0) := met_ofWH (by decide) rfl hcl (Nat.le_of_ble_eq_true rfl) (fun p e s m below meth c hc hck hr htab hd ls hl => b_L_image hc hck hst htab hr hlt hfr hL0 hf hd hl)
theorem my_L_image : MyW yL_image cL_image 3 (some .int) [(0, 5, 8, 21)] 2 := ⟨tw_1262, tw_0, tw_1263, by decide +kernel⟩
end
