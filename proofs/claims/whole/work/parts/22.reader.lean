section
variable {p : Program} {l : Launch} {e : Env} {s : State} {m : MethodId} {args : Array Value} {below : List Frame} {meth : Method} {c : Code} {D : va_G} {cs : Nat → ClassId} {B0 : Nat} {kt : (Nat → Nat) × (Nat → Nat)} {α : Nat → Nat → Nat} {Lv : Nat → Nat → Prop}
def f_X9_answer (g0 : Nat) (S : St) : Option (Int32) := bv (fun (v_1 : Int32) => some v_1) (fun J_2 => br ((gi S 28 g0 6) = 0) (J_2 (gi S 28 g0 5)) (J_2 (((-10)) - (gi S 28 g0 6))))
set_option maxRecDepth 100000 in
set_option maxHeartbeats 4000000 in
theorem b_X9_answer (hc : Cx p s m args meth c cX9_answer 1 "PumpCrossing$TextReader" D cs B0 kt Lv) (hr : meth.sig.returnType = some .int)  {o : Int32}  {S : St} {g0 : Nat} (hL0 : Lv 28 g0) {H : Heap} {locs : List Loc} {ls : Array Slot} (hf : f_X9_answer g0 S = some o) (hd : Dy s D cs B0 α Lv S H locs) (hl : lv_has ls 1 [(0, .ref (α 28 g0))]) : W p l e (Rm 0 0 0) s m args below meth c H locs 0 0 (MQ below (Qi D cs B0 α Lv o S) args s 0 0 (AB B0)) (F0 m 0 ls []) := by
  unfold f_X9_answer at hf
  refine lv_aload_n hc.x hc.b dX9_answer_0 rfl (lv_at hl 0 rfl) ?_
  refine fg_28_6 hc hd hL0 tw_231 dX9_answer_1 ?_
  refine jn_s (P := fun J_2 => ∀ (v_1 : Int32) (H : Heap) (locs : List Loc) (ls : Array Slot), J_2 v_1 = some o → Dy s D cs B0 α Lv S H locs → lv_has ls 1 [] → W p l e (Rm 0 0 0) s m args below meth c H locs 0 0 (MQ below (Qi D cs B0 α Lv o S) args s 0 0 (AB B0)) (F0 m 21 ls [.int v_1])) hf ?_ (fun J_2 hJ_2 hf => ?_)
  · intro v_1 H locs ls hf hd hl
    cases hf
    exact r_iret hc hd hr dX9_answer_21
  refine lv_if_ne (tgt := 14) hc.x hc.b dX9_answer_4 (by decide) (fun c_3 => ?_) (fun c_3 => ?_)
  · have hf := br_n c_3 hf
    refine lv_bipush (v := (-10)) hc.x hc.b dX9_answer_14 (by decide) ?_
    refine lv_aload_n hc.x hc.b dX9_answer_16 rfl (lv_at hl 0 rfl) ?_
    refine fg_28_6 hc hd hL0 tw_231 dX9_answer_17 ?_
    refine lv_isub hc.x hc.b dX9_answer_20 ?_
    exact hJ_2 (((-10)) - (gi S 28 g0 6)) _ _ _ hf hd (lv_sub hl [] rfl)
  · have hf := br_y c_3 hf
    refine lv_aload_n hc.x hc.b dX9_answer_7 rfl (lv_at hl 0 rfl) ?_
    refine fg_28_5 hc hd hL0 tw_230 dX9_answer_8 ?_
    refine lv_goto (tgt := 21) hc.x hc.b dX9_answer_11 (by decide) ?_
    exact hJ_2 (gi S 28 g0 5) _ _ _ hf hd (lv_sub hl [] rfl)
theorem c_X9_answer (l : Launch) (D : va_G) (cs : Nat → ClassId) (B0 : Nat) (kt : (Nat → Nat) × (Nat → Nat)) (α : Nat → Nat → Nat) (Lv : Nat → Nat → Prop) (S : St) (g0 : Nat) (hcl : Cl Lv) (hL0 : Lv 28 g0) {o : Int32} (hf : f_X9_answer g0 S = some o) : Met l yX9_answer (wz yX9_answer cX9_answer 1 (some .int)) (Rm 0 0 0) (Pz D cs B0 kt α Lv S [.ref (α 28 g0)]) (Qi D cs B0 α Lv o S) 0 0 (AB B0) := met_of (by decide) rfl hcl (Nat.le_of_ble_eq_true rfl) (fun p e s m below meth c hc hr hd ls hl => b_X9_answer hc hr hL0 hf hd hl)
theorem my_X9_answer : MyV yX9_answer "PumpCrossing$TextReader" cX9_answer 1 (some .int) 0 := ⟨tw_728, tw_729, tw_7, tw_730, by decide +kernel⟩
def f_X9_append_3 (g0 : Nat) (x1 : Int32) (K : St → Option (St)) : Nat → Int32 → St → Option (St)
  | 0, _, _ => none
  | n + 1, x2, S => br (x2 < 0) (K S) (br (400 ≤ (gi S 28 g0 1)) (K S) (ck (inb (gi S 28 g0 1) 400 = true) (bv (si S 29 g0 (nn (gi S 28 g0 1)) (vp_nar .byte (tb ((x1 : Int32) >>> (x2 &&& 31))))) (fun S_4 => bv (si S_4 28 g0 1 ((gi S_4 28 g0 1) + 1)) (fun S_5 => bv (x2 + (-8)) (fun x2_6 => f_X9_append_3 g0 x1 K n x2_6 S_5))))))
def f_X9_append (g0 : Nat) (x1 : Int32) (S : St) : Option (St) := f_X9_append_3 g0 x1 (fun  (S_7 : St) => some S_7) FU 24 S
set_option maxRecDepth 100000 in
set_option maxHeartbeats 4000000 in
theorem w_X9_append_3 (hc : Cx p s m args meth c cX9_append 3 "PumpCrossing$TextReader" D cs B0 kt Lv) (hr : meth.sig.returnType = none) {o : St}  {g0 : Nat} {x1 : Int32} {K : St → Option (St)} (hL0 : Lv 28 g0) (hK : ∀  (S : St) (H : Heap) (locs : List Loc) (ls : Array Slot), K S = some o → Dy s D cs B0 α Lv S H locs → lv_has ls 3 [] → W p l e (Rm 0 0 0) s m args below meth c H locs 0 0 (MQ below (Qv D cs B0 α Lv o) args s 0 0 (AB B0)) (F0 m 46 ls [])) : ∀ (n : Nat) (x2 : Int32) (S : St) (H : Heap) (locs : List Loc) (ls : Array Slot), f_X9_append_3 g0 x1 K n x2 S = some o → Dy s D cs B0 α Lv S H locs → lv_has ls 3 [(0, .ref (α 28 g0)), (1, .int x1), (2, .int x2)] → W p l e (Rm 0 0 0) s m args below meth c H locs 0 0 (MQ below (Qv D cs B0 α Lv o) args s 0 0 (AB B0)) (F0 m 3 ls []) := by
  intro n
  induction n with
  | zero =>
    intro x2 S H locs ls hf
    rw [f_X9_append_3] at hf
    cases hf
  | succ n ih =>
    intro x2 S H locs ls hf hd hl
    rw [f_X9_append_3] at hf
    refine lv_iload_n hc.x hc.b dX9_append_3 rfl (lv_at hl 2 rfl) ?_
    refine lv_if_lt (tgt := 46) hc.x hc.b dX9_append_4 (by decide) (fun c_1 => ?_) (fun c_1 => ?_)
    · have hf := br_y c_1 hf
      exact hK S _ _ _ hf hd (lv_sub hl [] rfl)
    · have hf := br_n c_1 hf
      refine lv_aload_n hc.x hc.b dX9_append_7 rfl (lv_at hl 0 rfl) ?_
      refine fg_28_1 hc hd hL0 tw_219 dX9_append_8 ?_
      refine lv_sipush (v := 400) hc.x hc.b dX9_append_11 (by decide) ?_
      refine lv_icmp_ge (tgt := 46) hc.x hc.b dX9_append_14 (by decide) (fun c_2 => ?_) (fun c_2 => ?_)
      · have hf := br_y c_2 hf
        exact hK S _ _ _ hf hd (lv_sub hl [] rfl)
      · have hf := br_n c_2 hf
        refine lv_aload_n hc.x hc.b dX9_append_17 rfl (lv_at hl 0 rfl) ?_
        refine fg_28_0 hc hd hL0 tw_218 dX9_append_18 ?_
        refine lv_aload_n hc.x hc.b dX9_append_21 rfl (lv_at hl 0 rfl) ?_
        refine fg_28_1 hc hd hL0 tw_219 dX9_append_22 ?_
        refine lv_iload_n hc.x hc.b dX9_append_25 rfl (lv_at hl 1 rfl) ?_
        refine lv_iload_n hc.x hc.b dX9_append_26 rfl (lv_at hl 2 rfl) ?_
        refine lv_ishr hc.x hc.b dX9_append_27 ?_
        refine lv_i2b (v := tb ((x1 : Int32) >>> (x2 &&& 31))) hc.x hc.b dX9_append_28 rfl ?_
        obtain ⟨hi_3, hf⟩ := ck_s hf
        refine r_bast hc hd (cl_28_tape hc.cl hL0) (fun _ => rfl) hi_3 dX9_append_29 (fun H locs hd => ?_)
        obtain ⟨S_4, hd, hf⟩ := nmD hd hf
        refine lv_aload_n hc.x hc.b dX9_append_30 rfl (lv_at hl 0 rfl) ?_
        refine lv_dup hc.x hc.b dX9_append_31 rfl ?_
        refine fg_28_1 hc hd hL0 tw_219 dX9_append_32 ?_
        refine lv_iconst (v := 1) hc.x hc.b dX9_append_35 (by decide) ?_
        refine lv_iadd hc.x hc.b dX9_append_36 ?_
        refine fp_28_1 hc hd hL0 tw_219 dX9_append_37 (fun H locs hd => ?_)
        obtain ⟨S_5, hd, hf⟩ := nmD hd hf
        obtain ⟨x2_6, ex2_6⟩ : ∃ z : Int32, z = x2 + (-8) := ⟨_, rfl⟩
        have hf := bv_n ex2_6 hf
        refine lv_iinc (v := x2_6) (lv' := [(2, .int x2_6), (0, .ref (α 28 g0)), (1, .int x1)]) hc.x hc.b dX9_append_40 hl (k := 2) rfl (by rw [ex2_6]; rfl) (by decide) rfl (fun ls hl => ?_)
        refine lv_goto (tgt := 3) hc.x hc.b dX9_append_43 (by decide) ?_
        exact ih x2_6 S_5 _ _ _ hf hd (lv_sub hl [1, 2, 0] rfl)
set_option maxRecDepth 100000 in
set_option maxHeartbeats 4000000 in
theorem b_X9_append (hc : Cx p s m args meth c cX9_append 3 "PumpCrossing$TextReader" D cs B0 kt Lv) (hr : meth.sig.returnType = none)  {o : St}  {S : St} {g0 : Nat} {x1 : Int32} (hL0 : Lv 28 g0) {H : Heap} {locs : List Loc} {ls : Array Slot} (hf : f_X9_append g0 x1 S = some o) (hd : Dy s D cs B0 α Lv S H locs) (hl : lv_has ls 3 [(0, .ref (α 28 g0)), (1, .int x1)]) : W p l e (Rm 0 0 0) s m args below meth c H locs 0 0 (MQ below (Qv D cs B0 α Lv o) args s 0 0 (AB B0)) (F0 m 0 ls []) := by
  unfold f_X9_append at hf
  refine lv_bipush (v := 24) hc.x hc.b dX9_append_0 (by decide) ?_
  refine lv_istore_n (lv' := [(2, .int 24), (0, .ref (α 28 g0)), (1, .int x1)]) hc.x hc.b dX9_append_2 rfl hl (by decide) rfl (fun ls hl => ?_)
  refine w_X9_append_3 hc hr hL0 ?_ _ _ _ _ _ _ hf hd (lv_sub hl [1, 2, 0] rfl)
  intro S_7 H locs ls hf hd hl
  cases hf
  exact r_vret hc hd hr dX9_append_46
theorem c_X9_append (l : Launch) (D : va_G) (cs : Nat → ClassId) (B0 : Nat) (kt : (Nat → Nat) × (Nat → Nat)) (α : Nat → Nat → Nat) (Lv : Nat → Nat → Prop) (S : St) (g0 : Nat) (x1 : Int32) (hcl : Cl Lv) (hL0 : Lv 28 g0) {o : St} (hf : f_X9_append g0 x1 S = some o) : Met l yX9_append (wz yX9_append cX9_append 3 none) (Rm 0 0 0) (Pz D cs B0 kt α Lv S [.ref (α 28 g0), .int x1]) (Qv D cs B0 α Lv o) 0 0 (AB B0) := met_of (by decide) rfl hcl (Nat.le_of_ble_eq_true rfl) (fun p e s m below meth c hc hr hd ls hl => b_X9_append hc hr hL0 hf hd hl)
theorem my_X9_append : MyV yX9_append "PumpCrossing$TextReader" cX9_append 3 none 1 := ⟨tw_387, tw_388, tw_7, tw_389, by decide +kernel⟩
def f_X9_behindInLaw (x0 : Int32) (x1 : Int32) (S : St) : Option (Int32) := br (x0 = 0) (bv (fun (v_2 : Int32) => some v_2) (fun J_3 => br (x1 = 0) (J_3 0) (br (x1 = 119) (J_3 8) (br (x1 = 120) (J_3 9) (br (x1 = 121) (J_3 1) (bv (fun (_u : Unit) => J_3 10) (fun J_8 => br (x1 = 122) (J_8 ()) (br (x1 = 113) (J_8 ()) (J_3 ((-1))))))))))) (br (x0 = 1) (bv (fun (v_11 : Int32) => some v_11) (fun J_12 => br (x1 < 200) (J_12 ((-1))) (J_12 10))) (br (x0 = 2) (some ((-1))) (br (x0 = 3) (some ((-1))) (br (x0 = 4) (some ((-1))) (br (x0 = 5) (some ((-1))) (br (x0 = 6) (some ((-1))) (br (x0 = 7) (some ((-1))) (br (x0 = 8) (bv (fun (v_14 : Int32) => some v_14) (fun J_15 => br (x1 < 200) (J_15 ((-1))) (J_15 10))) (br (x0 = 9) (bv (fun (v_17 : Int32) => some v_17) (fun J_18 => br (x1 < 200) (J_18 ((-1))) (J_18 10))) (br (x0 = 10) (bv (fun (v_20 : Int32) => some v_20) (fun J_21 => br (x1 = 59) (J_21 0) (J_21 ((-1))))) (some ((-1)))))))))))))
set_option maxRecDepth 100000 in
set_option maxHeartbeats 4000000 in
theorem b_X9_behindInLaw (hc : Cx p s m args meth c cX9_behindInLaw 2 "PumpCrossing$TextReader" D cs B0 kt Lv) (hr : meth.sig.returnType = some .int)  {o : Int32}  {S : St} {x0 : Int32} {x1 : Int32}  {H : Heap} {locs : List Loc} {ls : Array Slot} (hf : f_X9_behindInLaw x0 x1 S = some o) (hd : Dy s D cs B0 α Lv S H locs) (hl : lv_has ls 2 [(0, .int x0), (1, .int x1)]) : W p l e (Rm 0 0 0) s m args below meth c H locs 0 0 (MQ below (Qi D cs B0 α Lv o S) args s 0 0 (AB B0)) (F0 m 0 ls []) := by
  unfold f_X9_behindInLaw at hf
  refine lv_iload_n hc.x hc.b dX9_behindInLaw_0 rfl (lv_at hl 0 rfl) ?_
  by_cases c_1_0 : x0 = 0
  · have hf := br_y c_1_0 hf
    refine lv_tableIn (off := 59) (tgt := 60) hc.x hc.b dX9_behindInLaw_1 (by rw [c_1_0]; decide) (by rw [c_1_0]; decide) (by rw [c_1_0]; decide) (by decide) ?_
    refine lv_iload_n hc.x hc.b dX9_behindInLaw_60 rfl (lv_at hl 1 rfl) ?_
    refine jn_s (P := fun J_3 => ∀ (v_2 : Int32) (H : Heap) (locs : List Loc) (ls : Array Slot), J_3 v_2 = some o → Dy s D cs B0 α Lv S H locs → lv_has ls 2 [] → W p l e (Rm 0 0 0) s m args below meth c H locs 0 0 (MQ below (Qi D cs B0 α Lv o S) args s 0 0 (AB B0)) (F0 m 118 ls [.int v_2])) hf ?_ (fun J_3 hJ_3 hf => ?_)
    · intro v_2 H locs ls hf hd hl
      cases hf
      exact r_iret hc hd hr dX9_behindInLaw_118
    refine lv_if_ne (tgt := 68) hc.x hc.b dX9_behindInLaw_61 (by decide) (fun c_4 => ?_) (fun c_4 => ?_)
    · have hf := br_n c_4 hf
      refine lv_iload_n hc.x hc.b dX9_behindInLaw_68 rfl (lv_at hl 1 rfl) ?_
      refine lv_bipush (v := 119) hc.x hc.b dX9_behindInLaw_69 (by decide) ?_
      refine lv_icmp_ne (tgt := 79) hc.x hc.b dX9_behindInLaw_71 (by decide) (fun c_5 => ?_) (fun c_5 => ?_)
      · have hf := br_n c_5 hf
        refine lv_iload_n hc.x hc.b dX9_behindInLaw_79 rfl (lv_at hl 1 rfl) ?_
        refine lv_bipush (v := 120) hc.x hc.b dX9_behindInLaw_80 (by decide) ?_
        refine lv_icmp_ne (tgt := 90) hc.x hc.b dX9_behindInLaw_82 (by decide) (fun c_6 => ?_) (fun c_6 => ?_)
        · have hf := br_n c_6 hf
          refine lv_iload_n hc.x hc.b dX9_behindInLaw_90 rfl (lv_at hl 1 rfl) ?_
          refine lv_bipush (v := 121) hc.x hc.b dX9_behindInLaw_91 (by decide) ?_
          refine lv_icmp_ne (tgt := 100) hc.x hc.b dX9_behindInLaw_93 (by decide) (fun c_7 => ?_) (fun c_7 => ?_)
          · have hf := br_n c_7 hf
            refine lv_iload_n hc.x hc.b dX9_behindInLaw_100 rfl (lv_at hl 1 rfl) ?_
            refine lv_bipush (v := 122) hc.x hc.b dX9_behindInLaw_101 (by decide) ?_
            refine jn_s (P := fun J_8 => ∀ (_u : Unit) (H : Heap) (locs : List Loc) (ls : Array Slot), J_8 _u = some o → Dy s D cs B0 α Lv S H locs → lv_has ls 2 [] → W p l e (Rm 0 0 0) s m args below meth c H locs 0 0 (MQ below (Qi D cs B0 α Lv o S) args s 0 0 (AB B0)) (F0 m 112 ls [])) hf ?_ (fun J_8 hJ_8 hf => ?_)
            · intro _u H locs ls hf hd hl
              refine lv_bipush (v := 10) hc.x hc.b dX9_behindInLaw_112 (by decide) ?_
              refine lv_goto (tgt := 118) hc.x hc.b dX9_behindInLaw_114 (by decide) ?_
              exact hJ_3 10 _ _ _ hf hd (lv_sub hl [] rfl)
            refine lv_icmp_eq (tgt := 112) hc.x hc.b dX9_behindInLaw_103 (by decide) (fun c_9 => ?_) (fun c_9 => ?_)
            · have hf := br_y c_9 hf
              exact hJ_8 ()  _ _ _ hf hd (lv_sub hl [] rfl)
            · have hf := br_n c_9 hf
              refine lv_iload_n hc.x hc.b dX9_behindInLaw_106 rfl (lv_at hl 1 rfl) ?_
              refine lv_bipush (v := 113) hc.x hc.b dX9_behindInLaw_107 (by decide) ?_
              refine lv_icmp_ne (tgt := 117) hc.x hc.b dX9_behindInLaw_109 (by decide) (fun c_10 => ?_) (fun c_10 => ?_)
              · have hf := br_n c_10 hf
                refine lv_iconst (v := (-1)) hc.x hc.b dX9_behindInLaw_117 (by decide) ?_
                exact hJ_3 ((-1)) _ _ _ hf hd (lv_sub hl [] rfl)
              · have hf := br_y c_10 hf
                exact hJ_8 ()  _ _ _ hf hd (lv_sub hl [] rfl)
          · have hf := br_y c_7 hf
            refine lv_iconst (v := 1) hc.x hc.b dX9_behindInLaw_96 (by decide) ?_
            refine lv_goto (tgt := 118) hc.x hc.b dX9_behindInLaw_97 (by decide) ?_
            exact hJ_3 1 _ _ _ hf hd (lv_sub hl [] rfl)
        · have hf := br_y c_6 hf
          refine lv_bipush (v := 9) hc.x hc.b dX9_behindInLaw_85 (by decide) ?_
          refine lv_goto (tgt := 118) hc.x hc.b dX9_behindInLaw_87 (by decide) ?_
          exact hJ_3 9 _ _ _ hf hd (lv_sub hl [] rfl)
      · have hf := br_y c_5 hf
        refine lv_bipush (v := 8) hc.x hc.b dX9_behindInLaw_74 (by decide) ?_
        refine lv_goto (tgt := 118) hc.x hc.b dX9_behindInLaw_76 (by decide) ?_
        exact hJ_3 8 _ _ _ hf hd (lv_sub hl [] rfl)
    · have hf := br_y c_4 hf
      refine lv_iconst (v := 0) hc.x hc.b dX9_behindInLaw_64 (by decide) ?_
      refine lv_goto (tgt := 118) hc.x hc.b dX9_behindInLaw_65 (by decide) ?_
      exact hJ_3 0 _ _ _ hf hd (lv_sub hl [] rfl)
  · have hf := br_n c_1_0 hf
    by_cases c_1_1 : x0 = 1
    · have hf := br_y c_1_1 hf
      refine lv_tableIn (off := 118) (tgt := 119) hc.x hc.b dX9_behindInLaw_1 (by rw [c_1_1]; decide) (by rw [c_1_1]; decide) (by rw [c_1_1]; decide) (by decide) ?_
      refine lv_iload_n hc.x hc.b dX9_behindInLaw_119 rfl (lv_at hl 1 rfl) ?_
      refine lv_sipush (v := 200) hc.x hc.b dX9_behindInLaw_120 (by decide) ?_
      refine jn_s (P := fun J_12 => ∀ (v_11 : Int32) (H : Heap) (locs : List Loc) (ls : Array Slot), J_12 v_11 = some o → Dy s D cs B0 α Lv S H locs → lv_has ls 2 [] → W p l e (Rm 0 0 0) s m args below meth c H locs 0 0 (MQ below (Qi D cs B0 α Lv o S) args s 0 0 (AB B0)) (F0 m 132 ls [.int v_11])) hf ?_ (fun J_12 hJ_12 hf => ?_)
      · intro v_11 H locs ls hf hd hl
        cases hf
        exact r_iret hc hd hr dX9_behindInLaw_132
      refine lv_icmp_lt (tgt := 131) hc.x hc.b dX9_behindInLaw_123 (by decide) (fun c_13 => ?_) (fun c_13 => ?_)
      · have hf := br_y c_13 hf
        refine lv_iconst (v := (-1)) hc.x hc.b dX9_behindInLaw_131 (by decide) ?_
        exact hJ_12 ((-1)) _ _ _ hf hd (lv_sub hl [] rfl)
      · have hf := br_n c_13 hf
        refine lv_bipush (v := 10) hc.x hc.b dX9_behindInLaw_126 (by decide) ?_
        refine lv_goto (tgt := 132) hc.x hc.b dX9_behindInLaw_128 (by decide) ?_
        exact hJ_12 10 _ _ _ hf hd (lv_sub hl [] rfl)
    · have hf := br_n c_1_1 hf
      by_cases c_1_2 : x0 = 2
      · have hf := br_y c_1_2 hf
        refine lv_tableIn (off := 144) (tgt := 145) hc.x hc.b dX9_behindInLaw_1 (by rw [c_1_2]; decide) (by rw [c_1_2]; decide) (by rw [c_1_2]; decide) (by decide) ?_
        refine lv_iconst (v := (-1)) hc.x hc.b dX9_behindInLaw_145 (by decide) ?_
        cases hf
        exact r_iret hc hd hr dX9_behindInLaw_146
      · have hf := br_n c_1_2 hf
        by_cases c_1_3 : x0 = 3
        · have hf := br_y c_1_3 hf
          refine lv_tableIn (off := 144) (tgt := 145) hc.x hc.b dX9_behindInLaw_1 (by rw [c_1_3]; decide) (by rw [c_1_3]; decide) (by rw [c_1_3]; decide) (by decide) ?_
          refine lv_iconst (v := (-1)) hc.x hc.b dX9_behindInLaw_145 (by decide) ?_
          cases hf
          exact r_iret hc hd hr dX9_behindInLaw_146
        · have hf := br_n c_1_3 hf
          by_cases c_1_4 : x0 = 4
          · have hf := br_y c_1_4 hf
            refine lv_tableIn (off := 144) (tgt := 145) hc.x hc.b dX9_behindInLaw_1 (by rw [c_1_4]; decide) (by rw [c_1_4]; decide) (by rw [c_1_4]; decide) (by decide) ?_
            refine lv_iconst (v := (-1)) hc.x hc.b dX9_behindInLaw_145 (by decide) ?_
            cases hf
            exact r_iret hc hd hr dX9_behindInLaw_146
          · have hf := br_n c_1_4 hf
            by_cases c_1_5 : x0 = 5
            · have hf := br_y c_1_5 hf
              refine lv_tableIn (off := 144) (tgt := 145) hc.x hc.b dX9_behindInLaw_1 (by rw [c_1_5]; decide) (by rw [c_1_5]; decide) (by rw [c_1_5]; decide) (by decide) ?_
              refine lv_iconst (v := (-1)) hc.x hc.b dX9_behindInLaw_145 (by decide) ?_
              cases hf
              exact r_iret hc hd hr dX9_behindInLaw_146
            · have hf := br_n c_1_5 hf
              by_cases c_1_6 : x0 = 6
              · have hf := br_y c_1_6 hf
                refine lv_tableIn (off := 144) (tgt := 145) hc.x hc.b dX9_behindInLaw_1 (by rw [c_1_6]; decide) (by rw [c_1_6]; decide) (by rw [c_1_6]; decide) (by decide) ?_
                refine lv_iconst (v := (-1)) hc.x hc.b dX9_behindInLaw_145 (by decide) ?_
                cases hf
                exact r_iret hc hd hr dX9_behindInLaw_146
              · have hf := br_n c_1_6 hf
                by_cases c_1_7 : x0 = 7
                · have hf := br_y c_1_7 hf
                  refine lv_tableIn (off := 144) (tgt := 145) hc.x hc.b dX9_behindInLaw_1 (by rw [c_1_7]; decide) (by rw [c_1_7]; decide) (by rw [c_1_7]; decide) (by decide) ?_
                  refine lv_iconst (v := (-1)) hc.x hc.b dX9_behindInLaw_145 (by decide) ?_
                  cases hf
                  exact r_iret hc hd hr dX9_behindInLaw_146
                · have hf := br_n c_1_7 hf
                  by_cases c_1_8 : x0 = 8
                  · have hf := br_y c_1_8 hf
                    refine lv_tableIn (off := 118) (tgt := 119) hc.x hc.b dX9_behindInLaw_1 (by rw [c_1_8]; decide) (by rw [c_1_8]; decide) (by rw [c_1_8]; decide) (by decide) ?_
                    refine lv_iload_n hc.x hc.b dX9_behindInLaw_119 rfl (lv_at hl 1 rfl) ?_
                    refine lv_sipush (v := 200) hc.x hc.b dX9_behindInLaw_120 (by decide) ?_
                    refine jn_s (P := fun J_15 => ∀ (v_14 : Int32) (H : Heap) (locs : List Loc) (ls : Array Slot), J_15 v_14 = some o → Dy s D cs B0 α Lv S H locs → lv_has ls 2 [] → W p l e (Rm 0 0 0) s m args below meth c H locs 0 0 (MQ below (Qi D cs B0 α Lv o S) args s 0 0 (AB B0)) (F0 m 132 ls [.int v_14])) hf ?_ (fun J_15 hJ_15 hf => ?_)
                    · intro v_14 H locs ls hf hd hl
                      cases hf
                      exact r_iret hc hd hr dX9_behindInLaw_132
                    refine lv_icmp_lt (tgt := 131) hc.x hc.b dX9_behindInLaw_123 (by decide) (fun c_16 => ?_) (fun c_16 => ?_)
                    · have hf := br_y c_16 hf
                      refine lv_iconst (v := (-1)) hc.x hc.b dX9_behindInLaw_131 (by decide) ?_
                      exact hJ_15 ((-1)) _ _ _ hf hd (lv_sub hl [] rfl)
                    · have hf := br_n c_16 hf
                      refine lv_bipush (v := 10) hc.x hc.b dX9_behindInLaw_126 (by decide) ?_
                      refine lv_goto (tgt := 132) hc.x hc.b dX9_behindInLaw_128 (by decide) ?_
                      exact hJ_15 10 _ _ _ hf hd (lv_sub hl [] rfl)
                  · have hf := br_n c_1_8 hf
                    by_cases c_1_9 : x0 = 9
                    · have hf := br_y c_1_9 hf
                      refine lv_tableIn (off := 118) (tgt := 119) hc.x hc.b dX9_behindInLaw_1 (by rw [c_1_9]; decide) (by rw [c_1_9]; decide) (by rw [c_1_9]; decide) (by decide) ?_
                      refine lv_iload_n hc.x hc.b dX9_behindInLaw_119 rfl (lv_at hl 1 rfl) ?_
                      refine lv_sipush (v := 200) hc.x hc.b dX9_behindInLaw_120 (by decide) ?_
                      refine jn_s (P := fun J_18 => ∀ (v_17 : Int32) (H : Heap) (locs : List Loc) (ls : Array Slot), J_18 v_17 = some o → Dy s D cs B0 α Lv S H locs → lv_has ls 2 [] → W p l e (Rm 0 0 0) s m args below meth c H locs 0 0 (MQ below (Qi D cs B0 α Lv o S) args s 0 0 (AB B0)) (F0 m 132 ls [.int v_17])) hf ?_ (fun J_18 hJ_18 hf => ?_)
                      · intro v_17 H locs ls hf hd hl
                        cases hf
                        exact r_iret hc hd hr dX9_behindInLaw_132
                      refine lv_icmp_lt (tgt := 131) hc.x hc.b dX9_behindInLaw_123 (by decide) (fun c_19 => ?_) (fun c_19 => ?_)
                      · have hf := br_y c_19 hf
                        refine lv_iconst (v := (-1)) hc.x hc.b dX9_behindInLaw_131 (by decide) ?_
                        exact hJ_18 ((-1)) _ _ _ hf hd (lv_sub hl [] rfl)
                      · have hf := br_n c_19 hf
                        refine lv_bipush (v := 10) hc.x hc.b dX9_behindInLaw_126 (by decide) ?_
                        refine lv_goto (tgt := 132) hc.x hc.b dX9_behindInLaw_128 (by decide) ?_
                        exact hJ_18 10 _ _ _ hf hd (lv_sub hl [] rfl)
                    · have hf := br_n c_1_9 hf
                      by_cases c_1_10 : x0 = 10
                      · have hf := br_y c_1_10 hf
                        refine lv_tableIn (off := 132) (tgt := 133) hc.x hc.b dX9_behindInLaw_1 (by rw [c_1_10]; decide) (by rw [c_1_10]; decide) (by rw [c_1_10]; decide) (by decide) ?_
                        refine lv_iload_n hc.x hc.b dX9_behindInLaw_133 rfl (lv_at hl 1 rfl) ?_
                        refine lv_bipush (v := 59) hc.x hc.b dX9_behindInLaw_134 (by decide) ?_
                        refine jn_s (P := fun J_21 => ∀ (v_20 : Int32) (H : Heap) (locs : List Loc) (ls : Array Slot), J_21 v_20 = some o → Dy s D cs B0 α Lv S H locs → lv_has ls 2 [] → W p l e (Rm 0 0 0) s m args below meth c H locs 0 0 (MQ below (Qi D cs B0 α Lv o S) args s 0 0 (AB B0)) (F0 m 144 ls [.int v_20])) hf ?_ (fun J_21 hJ_21 hf => ?_)
                        · intro v_20 H locs ls hf hd hl
                          cases hf
                          exact r_iret hc hd hr dX9_behindInLaw_144
                        refine lv_icmp_ne (tgt := 143) hc.x hc.b dX9_behindInLaw_136 (by decide) (fun c_22 => ?_) (fun c_22 => ?_)
                        · have hf := br_n c_22 hf
                          refine lv_iconst (v := (-1)) hc.x hc.b dX9_behindInLaw_143 (by decide) ?_
                          exact hJ_21 ((-1)) _ _ _ hf hd (lv_sub hl [] rfl)
                        · have hf := br_y c_22 hf
                          refine lv_iconst (v := 0) hc.x hc.b dX9_behindInLaw_139 (by decide) ?_
                          refine lv_goto (tgt := 144) hc.x hc.b dX9_behindInLaw_140 (by decide) ?_
                          exact hJ_21 0 _ _ _ hf hd (lv_sub hl [] rfl)
                      · have hf := br_n c_1_10 hf
                        refine lv_tableOut (tgt := 145) hc.x hc.b dX9_behindInLaw_1 (sw_out (fun z h1 h2 => by
                          rcases (show z = 0 ∨ z = 1 ∨ z = 2 ∨ z = 3 ∨ z = 4 ∨ z = 5 ∨ z = 6 ∨ z = 7 ∨ z = 8 ∨ z = 9 ∨ z = 10 by omega) with rfl | rfl | rfl | rfl | rfl | rfl | rfl | rfl | rfl | rfl | rfl
                          · exact c_1_0
                          · exact c_1_1
                          · exact c_1_2
                          · exact c_1_3
                          · exact c_1_4
                          · exact c_1_5
                          · exact c_1_6
                          · exact c_1_7
                          · exact c_1_8
                          · exact c_1_9
                          · exact c_1_10)) (by decide) ?_
                        refine lv_iconst (v := (-1)) hc.x hc.b dX9_behindInLaw_145 (by decide) ?_
                        cases hf
                        exact r_iret hc hd hr dX9_behindInLaw_146
theorem c_X9_behindInLaw (l : Launch) (D : va_G) (cs : Nat → ClassId) (B0 : Nat) (kt : (Nat → Nat) × (Nat → Nat)) (α : Nat → Nat → Nat) (Lv : Nat → Nat → Prop) (S : St) (x0 : Int32) (x1 : Int32) (hcl : Cl Lv)  {o : Int32} (hf : f_X9_behindInLaw x0 x1 S = some o) : Met l yX9_behindInLaw (wz yX9_behindInLaw cX9_behindInLaw 2 (some .int)) (Rm 0 0 0) (Pz D cs B0 kt α Lv S [.int x0, .int x1]) (Qi D cs B0 α Lv o S) 0 0 (AB B0) := met_of (by decide) rfl hcl (Nat.le_of_ble_eq_true rfl) (fun p e s m below meth c hc hr hd ls hl => b_X9_behindInLaw hc hr  hf hd hl)
theorem my_X9_behindInLaw : MyS yX9_behindInLaw cX9_behindInLaw 2 (some .int) 2 := ⟨tw_702, tw_7, tw_703, by decide +kernel⟩
def f_X9_isPlusOrMinus (x0 : Int32) (S : St) : Option (Int32) := bv (fun (v_1 : Int32) => ck (v_1 = 0 ∨ v_1 = 1) (some v_1)) (fun J_2 => bv (fun (_u : Unit) => J_2 1) (fun J_3 => br (x0 = 43) (J_3 ()) (br (x0 = 45) (J_3 ()) (J_2 0))))
set_option maxRecDepth 100000 in
set_option maxHeartbeats 4000000 in
theorem b_X9_isPlusOrMinus (hc : Cx p s m args meth c cX9_isPlusOrMinus 1 "PumpCrossing$TextReader" D cs B0 kt Lv) (hr : meth.sig.returnType = some .boolean)  {o : Int32}  {S : St} {x0 : Int32}  {H : Heap} {locs : List Loc} {ls : Array Slot} (hf : f_X9_isPlusOrMinus x0 S = some o) (hd : Dy s D cs B0 α Lv S H locs) (hl : lv_has ls 1 [(0, .int x0)]) : W p l e (Rm 0 0 0) s m args below meth c H locs 0 0 (MQ below (Qi D cs B0 α Lv o S) args s 0 0 (AB B0)) (F0 m 0 ls []) := by
  unfold f_X9_isPlusOrMinus at hf
  refine lv_iload_n hc.x hc.b dX9_isPlusOrMinus_0 rfl (lv_at hl 0 rfl) ?_
  refine lv_bipush (v := 43) hc.x hc.b dX9_isPlusOrMinus_1 (by decide) ?_
  refine jn_s (P := fun J_2 => ∀ (v_1 : Int32) (H : Heap) (locs : List Loc) (ls : Array Slot), J_2 v_1 = some o → Dy s D cs B0 α Lv S H locs → lv_has ls 1 [] → W p l e (Rm 0 0 0) s m args below meth c H locs 0 0 (MQ below (Qi D cs B0 α Lv o S) args s 0 0 (AB B0)) (F0 m 17 ls [.int v_1])) hf ?_ (fun J_2 hJ_2 hf => ?_)
  · intro v_1 H locs ls hf hd hl
    obtain ⟨hz, hf⟩ := ck_s hf
    cases hf
    exact r_zret hc hd hr hz dX9_isPlusOrMinus_17
  refine jn_s (P := fun J_3 => ∀ (_u : Unit) (H : Heap) (locs : List Loc) (ls : Array Slot), J_3 _u = some o → Dy s D cs B0 α Lv S H locs → lv_has ls 1 [] → W p l e (Rm 0 0 0) s m args below meth c H locs 0 0 (MQ below (Qi D cs B0 α Lv o S) args s 0 0 (AB B0)) (F0 m 12 ls [])) hf ?_ (fun J_3 hJ_3 hf => ?_)
  · intro _u H locs ls hf hd hl
    refine lv_iconst (v := 1) hc.x hc.b dX9_isPlusOrMinus_12 (by decide) ?_
    refine lv_goto (tgt := 17) hc.x hc.b dX9_isPlusOrMinus_13 (by decide) ?_
    exact hJ_2 1 _ _ _ hf hd (lv_sub hl [] rfl)
  refine lv_icmp_eq (tgt := 12) hc.x hc.b dX9_isPlusOrMinus_3 (by decide) (fun c_4 => ?_) (fun c_4 => ?_)
  · have hf := br_y c_4 hf
    exact hJ_3 ()  _ _ _ hf hd (lv_sub hl [] rfl)
  · have hf := br_n c_4 hf
    refine lv_iload_n hc.x hc.b dX9_isPlusOrMinus_6 rfl (lv_at hl 0 rfl) ?_
    refine lv_bipush (v := 45) hc.x hc.b dX9_isPlusOrMinus_7 (by decide) ?_
    refine lv_icmp_ne (tgt := 16) hc.x hc.b dX9_isPlusOrMinus_9 (by decide) (fun c_5 => ?_) (fun c_5 => ?_)
    · have hf := br_n c_5 hf
      refine lv_iconst (v := 0) hc.x hc.b dX9_isPlusOrMinus_16 (by decide) ?_
      exact hJ_2 0 _ _ _ hf hd (lv_sub hl [] rfl)
    · have hf := br_y c_5 hf
      exact hJ_3 ()  _ _ _ hf hd (lv_sub hl [] rfl)
theorem c_X9_isPlusOrMinus (l : Launch) (D : va_G) (cs : Nat → ClassId) (B0 : Nat) (kt : (Nat → Nat) × (Nat → Nat)) (α : Nat → Nat → Nat) (Lv : Nat → Nat → Prop) (S : St) (x0 : Int32) (hcl : Cl Lv)  {o : Int32} (hf : f_X9_isPlusOrMinus x0 S = some o) : Met l yX9_isPlusOrMinus (wz yX9_isPlusOrMinus cX9_isPlusOrMinus 1 (some .boolean)) (Rm 0 0 0) (Pz D cs B0 kt α Lv S [.int x0]) (Qi D cs B0 α Lv o S) 0 0 (AB B0) := met_of (by decide) rfl hcl (Nat.le_of_ble_eq_true rfl) (fun p e s m below meth c hc hr hd ls hl => b_X9_isPlusOrMinus hc hr  hf hd hl)
theorem my_X9_isPlusOrMinus : MyS yX9_isPlusOrMinus cX9_isPlusOrMinus 1 (some .boolean) 1 := ⟨tw_687, tw_7, tw_688, by decide +kernel⟩
def f_X9_isRelation (x0 : Int32) (S : St) : Option (Int32) := bv (fun (v_1 : Int32) => ck (v_1 = 0 ∨ v_1 = 1) (some v_1)) (fun J_2 => bv (fun (_u : Unit) => J_2 1) (fun J_3 => br (x0 = 60) (J_3 ()) (br (x0 = 61) (J_3 ()) (br (x0 = 62) (J_3 ()) (J_2 0)))))
set_option maxRecDepth 100000 in
set_option maxHeartbeats 4000000 in
theorem b_X9_isRelation (hc : Cx p s m args meth c cX9_isRelation 1 "PumpCrossing$TextReader" D cs B0 kt Lv) (hr : meth.sig.returnType = some .boolean)  {o : Int32}  {S : St} {x0 : Int32}  {H : Heap} {locs : List Loc} {ls : Array Slot} (hf : f_X9_isRelation x0 S = some o) (hd : Dy s D cs B0 α Lv S H locs) (hl : lv_has ls 1 [(0, .int x0)]) : W p l e (Rm 0 0 0) s m args below meth c H locs 0 0 (MQ below (Qi D cs B0 α Lv o S) args s 0 0 (AB B0)) (F0 m 0 ls []) := by
  unfold f_X9_isRelation at hf
  refine lv_iload_n hc.x hc.b dX9_isRelation_0 rfl (lv_at hl 0 rfl) ?_
  refine lv_bipush (v := 60) hc.x hc.b dX9_isRelation_1 (by decide) ?_
  refine jn_s (P := fun J_2 => ∀ (v_1 : Int32) (H : Heap) (locs : List Loc) (ls : Array Slot), J_2 v_1 = some o → Dy s D cs B0 α Lv S H locs → lv_has ls 1 [] → W p l e (Rm 0 0 0) s m args below meth c H locs 0 0 (MQ below (Qi D cs B0 α Lv o S) args s 0 0 (AB B0)) (F0 m 23 ls [.int v_1])) hf ?_ (fun J_2 hJ_2 hf => ?_)
  · intro v_1 H locs ls hf hd hl
    obtain ⟨hz, hf⟩ := ck_s hf
    cases hf
    exact r_zret hc hd hr hz dX9_isRelation_23
  refine jn_s (P := fun J_3 => ∀ (_u : Unit) (H : Heap) (locs : List Loc) (ls : Array Slot), J_3 _u = some o → Dy s D cs B0 α Lv S H locs → lv_has ls 1 [] → W p l e (Rm 0 0 0) s m args below meth c H locs 0 0 (MQ below (Qi D cs B0 α Lv o S) args s 0 0 (AB B0)) (F0 m 18 ls [])) hf ?_ (fun J_3 hJ_3 hf => ?_)
  · intro _u H locs ls hf hd hl
    refine lv_iconst (v := 1) hc.x hc.b dX9_isRelation_18 (by decide) ?_
    refine lv_goto (tgt := 23) hc.x hc.b dX9_isRelation_19 (by decide) ?_
    exact hJ_2 1 _ _ _ hf hd (lv_sub hl [] rfl)
  refine lv_icmp_eq (tgt := 18) hc.x hc.b dX9_isRelation_3 (by decide) (fun c_4 => ?_) (fun c_4 => ?_)
  · have hf := br_y c_4 hf
    exact hJ_3 ()  _ _ _ hf hd (lv_sub hl [] rfl)
  · have hf := br_n c_4 hf
    refine lv_iload_n hc.x hc.b dX9_isRelation_6 rfl (lv_at hl 0 rfl) ?_
    refine lv_bipush (v := 61) hc.x hc.b dX9_isRelation_7 (by decide) ?_
    refine lv_icmp_eq (tgt := 18) hc.x hc.b dX9_isRelation_9 (by decide) (fun c_5 => ?_) (fun c_5 => ?_)
    · have hf := br_y c_5 hf
      exact hJ_3 ()  _ _ _ hf hd (lv_sub hl [] rfl)
    · have hf := br_n c_5 hf
      refine lv_iload_n hc.x hc.b dX9_isRelation_12 rfl (lv_at hl 0 rfl) ?_
      refine lv_bipush (v := 62) hc.x hc.b dX9_isRelation_13 (by decide) ?_
      refine lv_icmp_ne (tgt := 22) hc.x hc.b dX9_isRelation_15 (by decide) (fun c_6 => ?_) (fun c_6 => ?_)
      · have hf := br_n c_6 hf
        refine lv_iconst (v := 0) hc.x hc.b dX9_isRelation_22 (by decide) ?_
        exact hJ_2 0 _ _ _ hf hd (lv_sub hl [] rfl)
      · have hf := br_y c_6 hf
        exact hJ_3 ()  _ _ _ hf hd (lv_sub hl [] rfl)
theorem c_X9_isRelation (l : Launch) (D : va_G) (cs : Nat → ClassId) (B0 : Nat) (kt : (Nat → Nat) × (Nat → Nat)) (α : Nat → Nat → Nat) (Lv : Nat → Nat → Prop) (S : St) (x0 : Int32) (hcl : Cl Lv)  {o : Int32} (hf : f_X9_isRelation x0 S = some o) : Met l yX9_isRelation (wz yX9_isRelation cX9_isRelation 1 (some .boolean)) (Rm 0 0 0) (Pz D cs B0 kt α Lv S [.int x0]) (Qi D cs B0 α Lv o S) 0 0 (AB B0) := met_of (by decide) rfl hcl (Nat.le_of_ble_eq_true rfl) (fun p e s m below meth c hc hr hd ls hl => b_X9_isRelation hc hr  hf hd hl)
theorem my_X9_isRelation : MyS yX9_isRelation cX9_isRelation 1 (some .boolean) 1 := ⟨tw_690, tw_7, tw_691, by decide +kernel⟩
def f_X9_isTerm (x0 : Int32) (S : St) : Option (Int32) := bv (fun (v_1 : Int32) => ck (v_1 = 0 ∨ v_1 = 1) (some v_1)) (fun J_2 => bv (fun (_u : Unit) => J_2 1) (fun J_3 => br (200 ≤ x0) (J_3 ()) (bv (fun (_u : Unit) => J_2 0) (fun J_5 => br (x0 < 110) (J_5 ()) (br (118 < x0) (J_5 ()) (J_3 ()))))))
set_option maxRecDepth 100000 in
set_option maxHeartbeats 4000000 in
theorem b_X9_isTerm (hc : Cx p s m args meth c cX9_isTerm 1 "PumpCrossing$TextReader" D cs B0 kt Lv) (hr : meth.sig.returnType = some .boolean)  {o : Int32}  {S : St} {x0 : Int32}  {H : Heap} {locs : List Loc} {ls : Array Slot} (hf : f_X9_isTerm x0 S = some o) (hd : Dy s D cs B0 α Lv S H locs) (hl : lv_has ls 1 [(0, .int x0)]) : W p l e (Rm 0 0 0) s m args below meth c H locs 0 0 (MQ below (Qi D cs B0 α Lv o S) args s 0 0 (AB B0)) (F0 m 0 ls []) := by
  unfold f_X9_isTerm at hf
  refine lv_iload_n hc.x hc.b dX9_isTerm_0 rfl (lv_at hl 0 rfl) ?_
  refine lv_sipush (v := 200) hc.x hc.b dX9_isTerm_1 (by decide) ?_
  refine jn_s (P := fun J_2 => ∀ (v_1 : Int32) (H : Heap) (locs : List Loc) (ls : Array Slot), J_2 v_1 = some o → Dy s D cs B0 α Lv S H locs → lv_has ls 1 [] → W p l e (Rm 0 0 0) s m args below meth c H locs 0 0 (MQ below (Qi D cs B0 α Lv o S) args s 0 0 (AB B0)) (F0 m 24 ls [.int v_1])) hf ?_ (fun J_2 hJ_2 hf => ?_)
  · intro v_1 H locs ls hf hd hl
    obtain ⟨hz, hf⟩ := ck_s hf
    cases hf
    exact r_zret hc hd hr hz dX9_isTerm_24
  refine jn_s (P := fun J_3 => ∀ (_u : Unit) (H : Heap) (locs : List Loc) (ls : Array Slot), J_3 _u = some o → Dy s D cs B0 α Lv S H locs → lv_has ls 1 [] → W p l e (Rm 0 0 0) s m args below meth c H locs 0 0 (MQ below (Qi D cs B0 α Lv o S) args s 0 0 (AB B0)) (F0 m 19 ls [])) hf ?_ (fun J_3 hJ_3 hf => ?_)
  · intro _u H locs ls hf hd hl
    refine lv_iconst (v := 1) hc.x hc.b dX9_isTerm_19 (by decide) ?_
    refine lv_goto (tgt := 24) hc.x hc.b dX9_isTerm_20 (by decide) ?_
    exact hJ_2 1 _ _ _ hf hd (lv_sub hl [] rfl)
  refine lv_icmp_ge (tgt := 19) hc.x hc.b dX9_isTerm_4 (by decide) (fun c_4 => ?_) (fun c_4 => ?_)
  · have hf := br_y c_4 hf
    exact hJ_3 ()  _ _ _ hf hd (lv_sub hl [] rfl)
  · have hf := br_n c_4 hf
    refine lv_iload_n hc.x hc.b dX9_isTerm_7 rfl (lv_at hl 0 rfl) ?_
    refine lv_bipush (v := 110) hc.x hc.b dX9_isTerm_8 (by decide) ?_
    refine jn_s (P := fun J_5 => ∀ (_u : Unit) (H : Heap) (locs : List Loc) (ls : Array Slot), J_5 _u = some o → Dy s D cs B0 α Lv S H locs → lv_has ls 1 [] → W p l e (Rm 0 0 0) s m args below meth c H locs 0 0 (MQ below (Qi D cs B0 α Lv o S) args s 0 0 (AB B0)) (F0 m 23 ls [])) hf ?_ (fun J_5 hJ_5 hf => ?_)
    · intro _u H locs ls hf hd hl
      refine lv_iconst (v := 0) hc.x hc.b dX9_isTerm_23 (by decide) ?_
      exact hJ_2 0 _ _ _ hf hd (lv_sub hl [] rfl)
    refine lv_icmp_lt (tgt := 23) hc.x hc.b dX9_isTerm_10 (by decide) (fun c_6 => ?_) (fun c_6 => ?_)
    · have hf := br_y c_6 hf
      exact hJ_5 ()  _ _ _ hf hd (lv_sub hl [] rfl)
    · have hf := br_n c_6 hf
      refine lv_iload_n hc.x hc.b dX9_isTerm_13 rfl (lv_at hl 0 rfl) ?_
      refine lv_bipush (v := 118) hc.x hc.b dX9_isTerm_14 (by decide) ?_
      refine lv_icmp_gt (tgt := 23) hc.x hc.b dX9_isTerm_16 (by decide) (fun c_7 => ?_) (fun c_7 => ?_)
      · have hf := br_y c_7 hf
        exact hJ_5 ()  _ _ _ hf hd (lv_sub hl [] rfl)
      · have hf := br_n c_7 hf
        exact hJ_3 ()  _ _ _ hf hd (lv_sub hl [] rfl)
theorem c_X9_isTerm (l : Launch) (D : va_G) (cs : Nat → ClassId) (B0 : Nat) (kt : (Nat → Nat) × (Nat → Nat)) (α : Nat → Nat → Nat) (Lv : Nat → Nat → Prop) (S : St) (x0 : Int32) (hcl : Cl Lv)  {o : Int32} (hf : f_X9_isTerm x0 S = some o) : Met l yX9_isTerm (wz yX9_isTerm cX9_isTerm 1 (some .boolean)) (Rm 0 0 0) (Pz D cs B0 kt α Lv S [.int x0]) (Qi D cs B0 α Lv o S) 0 0 (AB B0) := met_of (by decide) rfl hcl (Nat.le_of_ble_eq_true rfl) (fun p e s m below meth c hc hr hd ls hl => b_X9_isTerm hc hr  hf hd hl)
theorem my_X9_isTerm : MyS yX9_isTerm cX9_isTerm 1 (some .boolean) 1 := ⟨tw_699, tw_7, tw_700, by decide +kernel⟩
def f_X9_takesAmount (x0 : Int32) (S : St) : Option (Int32) := bv (fun (v_1 : Int32) => ck (v_1 = 0 ∨ v_1 = 1) (some v_1)) (fun J_2 => bv (fun (_u : Unit) => J_2 0) (fun J_3 => br (x0 < 100) (J_3 ()) (br (103 < x0) (J_3 ()) (J_2 1))))
set_option maxRecDepth 100000 in
set_option maxHeartbeats 4000000 in
theorem b_X9_takesAmount (hc : Cx p s m args meth c cX9_takesAmount 1 "PumpCrossing$TextReader" D cs B0 kt Lv) (hr : meth.sig.returnType = some .boolean)  {o : Int32}  {S : St} {x0 : Int32}  {H : Heap} {locs : List Loc} {ls : Array Slot} (hf : f_X9_takesAmount x0 S = some o) (hd : Dy s D cs B0 α Lv S H locs) (hl : lv_has ls 1 [(0, .int x0)]) : W p l e (Rm 0 0 0) s m args below meth c H locs 0 0 (MQ below (Qi D cs B0 α Lv o S) args s 0 0 (AB B0)) (F0 m 0 ls []) := by
  unfold f_X9_takesAmount at hf
  refine lv_iload_n hc.x hc.b dX9_takesAmount_0 rfl (lv_at hl 0 rfl) ?_
  refine lv_bipush (v := 100) hc.x hc.b dX9_takesAmount_1 (by decide) ?_
  refine jn_s (P := fun J_2 => ∀ (v_1 : Int32) (H : Heap) (locs : List Loc) (ls : Array Slot), J_2 v_1 = some o → Dy s D cs B0 α Lv S H locs → lv_has ls 1 [] → W p l e (Rm 0 0 0) s m args below meth c H locs 0 0 (MQ below (Qi D cs B0 α Lv o S) args s 0 0 (AB B0)) (F0 m 17 ls [.int v_1])) hf ?_ (fun J_2 hJ_2 hf => ?_)
  · intro v_1 H locs ls hf hd hl
    obtain ⟨hz, hf⟩ := ck_s hf
    cases hf
    exact r_zret hc hd hr hz dX9_takesAmount_17
  refine jn_s (P := fun J_3 => ∀ (_u : Unit) (H : Heap) (locs : List Loc) (ls : Array Slot), J_3 _u = some o → Dy s D cs B0 α Lv S H locs → lv_has ls 1 [] → W p l e (Rm 0 0 0) s m args below meth c H locs 0 0 (MQ below (Qi D cs B0 α Lv o S) args s 0 0 (AB B0)) (F0 m 16 ls [])) hf ?_ (fun J_3 hJ_3 hf => ?_)
  · intro _u H locs ls hf hd hl
    refine lv_iconst (v := 0) hc.x hc.b dX9_takesAmount_16 (by decide) ?_
    exact hJ_2 0 _ _ _ hf hd (lv_sub hl [] rfl)
  refine lv_icmp_lt (tgt := 16) hc.x hc.b dX9_takesAmount_3 (by decide) (fun c_4 => ?_) (fun c_4 => ?_)
  · have hf := br_y c_4 hf
    exact hJ_3 ()  _ _ _ hf hd (lv_sub hl [] rfl)
  · have hf := br_n c_4 hf
    refine lv_iload_n hc.x hc.b dX9_takesAmount_6 rfl (lv_at hl 0 rfl) ?_
    refine lv_bipush (v := 103) hc.x hc.b dX9_takesAmount_7 (by decide) ?_
    refine lv_icmp_gt (tgt := 16) hc.x hc.b dX9_takesAmount_9 (by decide) (fun c_5 => ?_) (fun c_5 => ?_)
    · have hf := br_y c_5 hf
      exact hJ_3 ()  _ _ _ hf hd (lv_sub hl [] rfl)
    · have hf := br_n c_5 hf
      refine lv_iconst (v := 1) hc.x hc.b dX9_takesAmount_12 (by decide) ?_
      refine lv_goto (tgt := 17) hc.x hc.b dX9_takesAmount_13 (by decide) ?_
      exact hJ_2 1 _ _ _ hf hd (lv_sub hl [] rfl)
theorem c_X9_takesAmount (l : Launch) (D : va_G) (cs : Nat → ClassId) (B0 : Nat) (kt : (Nat → Nat) × (Nat → Nat)) (α : Nat → Nat → Nat) (Lv : Nat → Nat → Prop) (S : St) (x0 : Int32) (hcl : Cl Lv)  {o : Int32} (hf : f_X9_takesAmount x0 S = some o) : Met l yX9_takesAmount (wz yX9_takesAmount cX9_takesAmount 1 (some .boolean)) (Rm 0 0 0) (Pz D cs B0 kt α Lv S [.int x0]) (Qi D cs B0 α Lv o S) 0 0 (AB B0) := met_of (by decide) rfl hcl (Nat.le_of_ble_eq_true rfl) (fun p e s m below meth c hc hr hd ls hl => b_X9_takesAmount hc hr  hf hd hl)
theorem my_X9_takesAmount : MyS yX9_takesAmount cX9_takesAmount 1 (some .boolean) 1 := ⟨tw_696, tw_7, tw_697, by decide +kernel⟩
def f_X9_behindInRules (x0 : Int32) (x1 : Int32) (S : St) : Option (Int32) := br (x0 = 0) (bv (fun (v_2 : Int32) => some v_2) (fun J_3 => br (x1 = 0) (J_3 0) (on (f_X9_takesAmount x1 S) (fun r_6 => br (r_6 = 0) (bv (fun (_u : Unit) => J_3 2) (fun J_8 => br (x1 = 104) (J_8 ()) (br (x1 = 105) (J_8 ()) (J_3 ((-1)))))) (J_3 1))))) (br (x0 = 1) (bv (fun (v_11 : Int32) => some v_11) (fun J_12 => br (x1 < 200) (J_12 ((-1))) (J_12 2))) (br (x0 = 2) (bv (fun (v_14 : Int32) => some v_14) (fun J_15 => br (x1 = 106) (J_15 3) (br (x1 = 59) (J_15 0) (J_15 ((-1)))))) (br (x0 = 3) (bv (fun (v_18 : Int32) => some v_18) (fun J_19 => br (x1 = 109) (J_19 3) (on (f_X9_isTerm x1 S) (fun r_22 => br (r_22 = 0) (J_19 ((-1))) (J_19 5))))) (br (x0 = 4) (on (f_X9_isTerm x1 S) (fun r_25 => bv (fun (v_26 : Int32) => some v_26) (fun J_27 => br (r_25 = 0) (J_27 ((-1))) (J_27 5)))) (br (x0 = 5) (on (f_X9_isPlusOrMinus x1 S) (fun r_30 => bv (fun (v_31 : Int32) => some v_31) (fun J_32 => br (r_30 = 0) (on (f_X9_isRelation x1 S) (fun r_35 => br (r_35 = 0) (J_32 ((-1))) (J_32 6))) (J_32 4)))) (br (x0 = 6) (on (f_X9_isTerm x1 S) (fun r_38 => bv (fun (v_39 : Int32) => some v_39) (fun J_40 => br (r_38 = 0) (J_40 ((-1))) (J_40 7)))) (br (x0 = 7) (on (f_X9_isPlusOrMinus x1 S) (fun r_43 => bv (fun (v_44 : Int32) => some v_44) (fun J_45 => br (r_43 = 0) (bv (fun (_u : Unit) => J_45 3) (fun J_47 => br (x1 = 108) (J_47 ()) (br (x1 = 107) (J_47 ()) (br (x1 = 59) (J_45 0) (J_45 ((-1))))))) (J_45 6)))) (some ((-1))))))))))
set_option maxRecDepth 100000 in
set_option maxHeartbeats 4000000 in
theorem b_X9_behindInRules (hc : Cx p s m args meth c cX9_behindInRules 2 "PumpCrossing$TextReader" D cs B0 kt Lv) (hr : meth.sig.returnType = some .int)  {o : Int32}  {S : St} {x0 : Int32} {x1 : Int32}  {H : Heap} {locs : List Loc} {ls : Array Slot} (hf : f_X9_behindInRules x0 x1 S = some o) (hd : Dy s D cs B0 α Lv S H locs) (hl : lv_has ls 2 [(0, .int x0), (1, .int x1)]) : W p l e (Rm 1 0 0) s m args below meth c H locs 0 0 (MQ below (Qi D cs B0 α Lv o S) args s 0 0 (AB B0)) (F0 m 0 ls []) := by
  unfold f_X9_behindInRules at hf
  refine lv_iload_n hc.x hc.b dX9_behindInRules_0 rfl (lv_at hl 0 rfl) ?_
  by_cases c_1_0 : x0 = 0
  · have hf := br_y c_1_0 hf
    refine lv_tableIn (off := 47) (tgt := 48) hc.x hc.b dX9_behindInRules_1 (by rw [c_1_0]; decide) (by rw [c_1_0]; decide) (by rw [c_1_0]; decide) (by decide) ?_
    refine lv_iload_n hc.x hc.b dX9_behindInRules_48 rfl (lv_at hl 1 rfl) ?_
    refine jn_s (P := fun J_3 => ∀ (v_2 : Int32) (H : Heap) (locs : List Loc) (ls : Array Slot), J_3 v_2 = some o → Dy s D cs B0 α Lv S H locs → lv_has ls 2 [] → W p l e (Rm 1 0 0) s m args below meth c H locs 0 0 (MQ below (Qi D cs B0 α Lv o S) args s 0 0 (AB B0)) (F0 m 84 ls [.int v_2])) hf ?_ (fun J_3 hJ_3 hf => ?_)
    · intro v_2 H locs ls hf hd hl
      cases hf
      exact r_iret hc hd hr dX9_behindInRules_84
    refine lv_if_ne (tgt := 56) hc.x hc.b dX9_behindInRules_49 (by decide) (fun c_4 => ?_) (fun c_4 => ?_)
    · have hf := br_n c_4 hf
      refine lv_iload_n hc.x hc.b dX9_behindInRules_56 rfl (lv_at hl 1 rfl) ?_
      obtain ⟨r_6, hq_5, hf⟩ := on_s hf
      refine k_i (k_runS hc hd my_X9_takesAmount tw_695 (c_X9_takesAmount l D cs B0 kt α Lv S x1 hc.cl   hq_5) rfl rfl hl.1 (Nat.le_of_ble_eq_true rfl) ⟨Nat.le_of_ble_eq_true rfl, Nat.le_of_ble_eq_true rfl, Nat.zero_le _, Nat.zero_le _⟩ dX9_behindInRules_57) hd (fun H locs hd => ?_)
      refine lv_if_eq (tgt := 67) hc.x hc.b dX9_behindInRules_60 (by decide) (fun c_7 => ?_) (fun c_7 => ?_)
      · have hf := br_y c_7 hf
        refine lv_iload_n hc.x hc.b dX9_behindInRules_67 rfl (lv_at hl 1 rfl) ?_
        refine lv_bipush (v := 104) hc.x hc.b dX9_behindInRules_68 (by decide) ?_
        refine jn_s (P := fun J_8 => ∀ (_u : Unit) (H : Heap) (locs : List Loc) (ls : Array Slot), J_8 _u = some o → Dy s D cs B0 α Lv S H locs → lv_has ls 2 [] → W p l e (Rm 1 0 0) s m args below meth c H locs 0 0 (MQ below (Qi D cs B0 α Lv o S) args s 0 0 (AB B0)) (F0 m 79 ls [])) hf ?_ (fun J_8 hJ_8 hf => ?_)
        · intro _u H locs ls hf hd hl
          refine lv_iconst (v := 2) hc.x hc.b dX9_behindInRules_79 (by decide) ?_
          refine lv_goto (tgt := 84) hc.x hc.b dX9_behindInRules_80 (by decide) ?_
          exact hJ_3 2 _ _ _ hf hd (lv_sub hl [] rfl)
        refine lv_icmp_eq (tgt := 79) hc.x hc.b dX9_behindInRules_70 (by decide) (fun c_9 => ?_) (fun c_9 => ?_)
        · have hf := br_y c_9 hf
          exact hJ_8 ()  _ _ _ hf hd (lv_sub hl [] rfl)
        · have hf := br_n c_9 hf
          refine lv_iload_n hc.x hc.b dX9_behindInRules_73 rfl (lv_at hl 1 rfl) ?_
          refine lv_bipush (v := 105) hc.x hc.b dX9_behindInRules_74 (by decide) ?_
          refine lv_icmp_ne (tgt := 83) hc.x hc.b dX9_behindInRules_76 (by decide) (fun c_10 => ?_) (fun c_10 => ?_)
          · have hf := br_n c_10 hf
            refine lv_iconst (v := (-1)) hc.x hc.b dX9_behindInRules_83 (by decide) ?_
            exact hJ_3 ((-1)) _ _ _ hf hd (lv_sub hl [] rfl)
          · have hf := br_y c_10 hf
            exact hJ_8 ()  _ _ _ hf hd (lv_sub hl [] rfl)
      · have hf := br_n c_7 hf
        refine lv_iconst (v := 1) hc.x hc.b dX9_behindInRules_63 (by decide) ?_
        refine lv_goto (tgt := 84) hc.x hc.b dX9_behindInRules_64 (by decide) ?_
        exact hJ_3 1 _ _ _ hf hd (lv_sub hl [] rfl)
    · have hf := br_y c_4 hf
      refine lv_iconst (v := 0) hc.x hc.b dX9_behindInRules_52 (by decide) ?_
      refine lv_goto (tgt := 84) hc.x hc.b dX9_behindInRules_53 (by decide) ?_
      exact hJ_3 0 _ _ _ hf hd (lv_sub hl [] rfl)
  · have hf := br_n c_1_0 hf
    by_cases c_1_1 : x0 = 1
    · have hf := br_y c_1_1 hf
      refine lv_tableIn (off := 84) (tgt := 85) hc.x hc.b dX9_behindInRules_1 (by rw [c_1_1]; decide) (by rw [c_1_1]; decide) (by rw [c_1_1]; decide) (by decide) ?_
      refine lv_iload_n hc.x hc.b dX9_behindInRules_85 rfl (lv_at hl 1 rfl) ?_
      refine lv_sipush (v := 200) hc.x hc.b dX9_behindInRules_86 (by decide) ?_
      refine jn_s (P := fun J_12 => ∀ (v_11 : Int32) (H : Heap) (locs : List Loc) (ls : Array Slot), J_12 v_11 = some o → Dy s D cs B0 α Lv S H locs → lv_has ls 2 [] → W p l e (Rm 1 0 0) s m args below meth c H locs 0 0 (MQ below (Qi D cs B0 α Lv o S) args s 0 0 (AB B0)) (F0 m 97 ls [.int v_11])) hf ?_ (fun J_12 hJ_12 hf => ?_)
      · intro v_11 H locs ls hf hd hl
        cases hf
        exact r_iret hc hd hr dX9_behindInRules_97
      refine lv_icmp_lt (tgt := 96) hc.x hc.b dX9_behindInRules_89 (by decide) (fun c_13 => ?_) (fun c_13 => ?_)
      · have hf := br_y c_13 hf
        refine lv_iconst (v := (-1)) hc.x hc.b dX9_behindInRules_96 (by decide) ?_
        exact hJ_12 ((-1)) _ _ _ hf hd (lv_sub hl [] rfl)
      · have hf := br_n c_13 hf
        refine lv_iconst (v := 2) hc.x hc.b dX9_behindInRules_92 (by decide) ?_
        refine lv_goto (tgt := 97) hc.x hc.b dX9_behindInRules_93 (by decide) ?_
        exact hJ_12 2 _ _ _ hf hd (lv_sub hl [] rfl)
    · have hf := br_n c_1_1 hf
      by_cases c_1_2 : x0 = 2
      · have hf := br_y c_1_2 hf
        refine lv_tableIn (off := 97) (tgt := 98) hc.x hc.b dX9_behindInRules_1 (by rw [c_1_2]; decide) (by rw [c_1_2]; decide) (by rw [c_1_2]; decide) (by decide) ?_
        refine lv_iload_n hc.x hc.b dX9_behindInRules_98 rfl (lv_at hl 1 rfl) ?_
        refine lv_bipush (v := 106) hc.x hc.b dX9_behindInRules_99 (by decide) ?_
        refine jn_s (P := fun J_15 => ∀ (v_14 : Int32) (H : Heap) (locs : List Loc) (ls : Array Slot), J_15 v_14 = some o → Dy s D cs B0 α Lv S H locs → lv_has ls 2 [] → W p l e (Rm 1 0 0) s m args below meth c H locs 0 0 (MQ below (Qi D cs B0 α Lv o S) args s 0 0 (AB B0)) (F0 m 119 ls [.int v_14])) hf ?_ (fun J_15 hJ_15 hf => ?_)
        · intro v_14 H locs ls hf hd hl
          cases hf
          exact r_iret hc hd hr dX9_behindInRules_119
        refine lv_icmp_ne (tgt := 108) hc.x hc.b dX9_behindInRules_101 (by decide) (fun c_16 => ?_) (fun c_16 => ?_)
        · have hf := br_n c_16 hf
          refine lv_iload_n hc.x hc.b dX9_behindInRules_108 rfl (lv_at hl 1 rfl) ?_
          refine lv_bipush (v := 59) hc.x hc.b dX9_behindInRules_109 (by decide) ?_
          refine lv_icmp_ne (tgt := 118) hc.x hc.b dX9_behindInRules_111 (by decide) (fun c_17 => ?_) (fun c_17 => ?_)
          · have hf := br_n c_17 hf
            refine lv_iconst (v := (-1)) hc.x hc.b dX9_behindInRules_118 (by decide) ?_
            exact hJ_15 ((-1)) _ _ _ hf hd (lv_sub hl [] rfl)
          · have hf := br_y c_17 hf
            refine lv_iconst (v := 0) hc.x hc.b dX9_behindInRules_114 (by decide) ?_
            refine lv_goto (tgt := 119) hc.x hc.b dX9_behindInRules_115 (by decide) ?_
            exact hJ_15 0 _ _ _ hf hd (lv_sub hl [] rfl)
        · have hf := br_y c_16 hf
          refine lv_iconst (v := 3) hc.x hc.b dX9_behindInRules_104 (by decide) ?_
          refine lv_goto (tgt := 119) hc.x hc.b dX9_behindInRules_105 (by decide) ?_
          exact hJ_15 3 _ _ _ hf hd (lv_sub hl [] rfl)
      · have hf := br_n c_1_2 hf
        by_cases c_1_3 : x0 = 3
        · have hf := br_y c_1_3 hf
          refine lv_tableIn (off := 119) (tgt := 120) hc.x hc.b dX9_behindInRules_1 (by rw [c_1_3]; decide) (by rw [c_1_3]; decide) (by rw [c_1_3]; decide) (by decide) ?_
          refine lv_iload_n hc.x hc.b dX9_behindInRules_120 rfl (lv_at hl 1 rfl) ?_
          refine lv_bipush (v := 109) hc.x hc.b dX9_behindInRules_121 (by decide) ?_
          refine jn_s (P := fun J_19 => ∀ (v_18 : Int32) (H : Heap) (locs : List Loc) (ls : Array Slot), J_19 v_18 = some o → Dy s D cs B0 α Lv S H locs → lv_has ls 2 [] → W p l e (Rm 1 0 0) s m args below meth c H locs 0 0 (MQ below (Qi D cs B0 α Lv o S) args s 0 0 (AB B0)) (F0 m 142 ls [.int v_18])) hf ?_ (fun J_19 hJ_19 hf => ?_)
          · intro v_18 H locs ls hf hd hl
            cases hf
            exact r_iret hc hd hr dX9_behindInRules_142
          refine lv_icmp_ne (tgt := 130) hc.x hc.b dX9_behindInRules_123 (by decide) (fun c_20 => ?_) (fun c_20 => ?_)
          · have hf := br_n c_20 hf
            refine lv_iload_n hc.x hc.b dX9_behindInRules_130 rfl (lv_at hl 1 rfl) ?_
            obtain ⟨r_22, hq_21, hf⟩ := on_s hf
            refine k_i (k_runS hc hd my_X9_isTerm tw_698 (c_X9_isTerm l D cs B0 kt α Lv S x1 hc.cl   hq_21) rfl rfl hl.1 (Nat.le_of_ble_eq_true rfl) ⟨Nat.le_of_ble_eq_true rfl, Nat.le_of_ble_eq_true rfl, Nat.zero_le _, Nat.zero_le _⟩ dX9_behindInRules_131) hd (fun H locs hd => ?_)
            refine lv_if_eq (tgt := 141) hc.x hc.b dX9_behindInRules_134 (by decide) (fun c_23 => ?_) (fun c_23 => ?_)
            · have hf := br_y c_23 hf
              refine lv_iconst (v := (-1)) hc.x hc.b dX9_behindInRules_141 (by decide) ?_
              exact hJ_19 ((-1)) _ _ _ hf hd (lv_sub hl [] rfl)
            · have hf := br_n c_23 hf
              refine lv_iconst (v := 5) hc.x hc.b dX9_behindInRules_137 (by decide) ?_
              refine lv_goto (tgt := 142) hc.x hc.b dX9_behindInRules_138 (by decide) ?_
              exact hJ_19 5 _ _ _ hf hd (lv_sub hl [] rfl)
          · have hf := br_y c_20 hf
            refine lv_iconst (v := 3) hc.x hc.b dX9_behindInRules_126 (by decide) ?_
            refine lv_goto (tgt := 142) hc.x hc.b dX9_behindInRules_127 (by decide) ?_
            exact hJ_19 3 _ _ _ hf hd (lv_sub hl [] rfl)
        · have hf := br_n c_1_3 hf
          by_cases c_1_4 : x0 = 4
          · have hf := br_y c_1_4 hf
            refine lv_tableIn (off := 142) (tgt := 143) hc.x hc.b dX9_behindInRules_1 (by rw [c_1_4]; decide) (by rw [c_1_4]; decide) (by rw [c_1_4]; decide) (by decide) ?_
            refine lv_iload_n hc.x hc.b dX9_behindInRules_143 rfl (lv_at hl 1 rfl) ?_
            obtain ⟨r_25, hq_24, hf⟩ := on_s hf
            refine k_i (k_runS hc hd my_X9_isTerm tw_698 (c_X9_isTerm l D cs B0 kt α Lv S x1 hc.cl   hq_24) rfl rfl hl.1 (Nat.le_of_ble_eq_true rfl) ⟨Nat.le_of_ble_eq_true rfl, Nat.le_of_ble_eq_true rfl, Nat.zero_le _, Nat.zero_le _⟩ dX9_behindInRules_144) hd (fun H locs hd => ?_)
            refine jn_s (P := fun J_27 => ∀ (v_26 : Int32) (H : Heap) (locs : List Loc) (ls : Array Slot), J_27 v_26 = some o → Dy s D cs B0 α Lv S H locs → lv_has ls 2 [] → W p l e (Rm 1 0 0) s m args below meth c H locs 0 0 (MQ below (Qi D cs B0 α Lv o S) args s 0 0 (AB B0)) (F0 m 155 ls [.int v_26])) hf ?_ (fun J_27 hJ_27 hf => ?_)
            · intro v_26 H locs ls hf hd hl
              cases hf
              exact r_iret hc hd hr dX9_behindInRules_155
            refine lv_if_eq (tgt := 154) hc.x hc.b dX9_behindInRules_147 (by decide) (fun c_28 => ?_) (fun c_28 => ?_)
            · have hf := br_y c_28 hf
              refine lv_iconst (v := (-1)) hc.x hc.b dX9_behindInRules_154 (by decide) ?_
              exact hJ_27 ((-1)) _ _ _ hf hd (lv_sub hl [] rfl)
            · have hf := br_n c_28 hf
              refine lv_iconst (v := 5) hc.x hc.b dX9_behindInRules_150 (by decide) ?_
              refine lv_goto (tgt := 155) hc.x hc.b dX9_behindInRules_151 (by decide) ?_
              exact hJ_27 5 _ _ _ hf hd (lv_sub hl [] rfl)
          · have hf := br_n c_1_4 hf
            by_cases c_1_5 : x0 = 5
            · have hf := br_y c_1_5 hf
              refine lv_tableIn (off := 155) (tgt := 156) hc.x hc.b dX9_behindInRules_1 (by rw [c_1_5]; decide) (by rw [c_1_5]; decide) (by rw [c_1_5]; decide) (by decide) ?_
              refine lv_iload_n hc.x hc.b dX9_behindInRules_156 rfl (lv_at hl 1 rfl) ?_
              obtain ⟨r_30, hq_29, hf⟩ := on_s hf
              refine k_i (k_runS hc hd my_X9_isPlusOrMinus tw_686 (c_X9_isPlusOrMinus l D cs B0 kt α Lv S x1 hc.cl   hq_29) rfl rfl hl.1 (Nat.le_of_ble_eq_true rfl) ⟨Nat.le_of_ble_eq_true rfl, Nat.le_of_ble_eq_true rfl, Nat.zero_le _, Nat.zero_le _⟩ dX9_behindInRules_157) hd (fun H locs hd => ?_)
              refine jn_s (P := fun J_32 => ∀ (v_31 : Int32) (H : Heap) (locs : List Loc) (ls : Array Slot), J_32 v_31 = some o → Dy s D cs B0 α Lv S H locs → lv_has ls 2 [] → W p l e (Rm 1 0 0) s m args below meth c H locs 0 0 (MQ below (Qi D cs B0 α Lv o S) args s 0 0 (AB B0)) (F0 m 180 ls [.int v_31])) hf ?_ (fun J_32 hJ_32 hf => ?_)
              · intro v_31 H locs ls hf hd hl
                cases hf
                exact r_iret hc hd hr dX9_behindInRules_180
              refine lv_if_eq (tgt := 167) hc.x hc.b dX9_behindInRules_160 (by decide) (fun c_33 => ?_) (fun c_33 => ?_)
              · have hf := br_y c_33 hf
                refine lv_iload_n hc.x hc.b dX9_behindInRules_167 rfl (lv_at hl 1 rfl) ?_
                obtain ⟨r_35, hq_34, hf⟩ := on_s hf
                refine k_i (k_runS hc hd my_X9_isRelation tw_689 (c_X9_isRelation l D cs B0 kt α Lv S x1 hc.cl   hq_34) rfl rfl hl.1 (Nat.le_of_ble_eq_true rfl) ⟨Nat.le_of_ble_eq_true rfl, Nat.le_of_ble_eq_true rfl, Nat.zero_le _, Nat.zero_le _⟩ dX9_behindInRules_168) hd (fun H locs hd => ?_)
                refine lv_if_eq (tgt := 179) hc.x hc.b dX9_behindInRules_171 (by decide) (fun c_36 => ?_) (fun c_36 => ?_)
                · have hf := br_y c_36 hf
                  refine lv_iconst (v := (-1)) hc.x hc.b dX9_behindInRules_179 (by decide) ?_
                  exact hJ_32 ((-1)) _ _ _ hf hd (lv_sub hl [] rfl)
                · have hf := br_n c_36 hf
                  refine lv_bipush (v := 6) hc.x hc.b dX9_behindInRules_174 (by decide) ?_
                  refine lv_goto (tgt := 180) hc.x hc.b dX9_behindInRules_176 (by decide) ?_
                  exact hJ_32 6 _ _ _ hf hd (lv_sub hl [] rfl)
              · have hf := br_n c_33 hf
                refine lv_iconst (v := 4) hc.x hc.b dX9_behindInRules_163 (by decide) ?_
                refine lv_goto (tgt := 180) hc.x hc.b dX9_behindInRules_164 (by decide) ?_
                exact hJ_32 4 _ _ _ hf hd (lv_sub hl [] rfl)
            · have hf := br_n c_1_5 hf
              by_cases c_1_6 : x0 = 6
              · have hf := br_y c_1_6 hf
                refine lv_tableIn (off := 180) (tgt := 181) hc.x hc.b dX9_behindInRules_1 (by rw [c_1_6]; decide) (by rw [c_1_6]; decide) (by rw [c_1_6]; decide) (by decide) ?_
                refine lv_iload_n hc.x hc.b dX9_behindInRules_181 rfl (lv_at hl 1 rfl) ?_
                obtain ⟨r_38, hq_37, hf⟩ := on_s hf
                refine k_i (k_runS hc hd my_X9_isTerm tw_698 (c_X9_isTerm l D cs B0 kt α Lv S x1 hc.cl   hq_37) rfl rfl hl.1 (Nat.le_of_ble_eq_true rfl) ⟨Nat.le_of_ble_eq_true rfl, Nat.le_of_ble_eq_true rfl, Nat.zero_le _, Nat.zero_le _⟩ dX9_behindInRules_182) hd (fun H locs hd => ?_)
                refine jn_s (P := fun J_40 => ∀ (v_39 : Int32) (H : Heap) (locs : List Loc) (ls : Array Slot), J_40 v_39 = some o → Dy s D cs B0 α Lv S H locs → lv_has ls 2 [] → W p l e (Rm 1 0 0) s m args below meth c H locs 0 0 (MQ below (Qi D cs B0 α Lv o S) args s 0 0 (AB B0)) (F0 m 194 ls [.int v_39])) hf ?_ (fun J_40 hJ_40 hf => ?_)
                · intro v_39 H locs ls hf hd hl
                  cases hf
                  exact r_iret hc hd hr dX9_behindInRules_194
                refine lv_if_eq (tgt := 193) hc.x hc.b dX9_behindInRules_185 (by decide) (fun c_41 => ?_) (fun c_41 => ?_)
                · have hf := br_y c_41 hf
                  refine lv_iconst (v := (-1)) hc.x hc.b dX9_behindInRules_193 (by decide) ?_
                  exact hJ_40 ((-1)) _ _ _ hf hd (lv_sub hl [] rfl)
                · have hf := br_n c_41 hf
                  refine lv_bipush (v := 7) hc.x hc.b dX9_behindInRules_188 (by decide) ?_
                  refine lv_goto (tgt := 194) hc.x hc.b dX9_behindInRules_190 (by decide) ?_
                  exact hJ_40 7 _ _ _ hf hd (lv_sub hl [] rfl)
              · have hf := br_n c_1_6 hf
                by_cases c_1_7 : x0 = 7
                · have hf := br_y c_1_7 hf
                  refine lv_tableIn (off := 194) (tgt := 195) hc.x hc.b dX9_behindInRules_1 (by rw [c_1_7]; decide) (by rw [c_1_7]; decide) (by rw [c_1_7]; decide) (by decide) ?_
                  refine lv_iload_n hc.x hc.b dX9_behindInRules_195 rfl (lv_at hl 1 rfl) ?_
                  obtain ⟨r_43, hq_42, hf⟩ := on_s hf
                  refine k_i (k_runS hc hd my_X9_isPlusOrMinus tw_686 (c_X9_isPlusOrMinus l D cs B0 kt α Lv S x1 hc.cl   hq_42) rfl rfl hl.1 (Nat.le_of_ble_eq_true rfl) ⟨Nat.le_of_ble_eq_true rfl, Nat.le_of_ble_eq_true rfl, Nat.zero_le _, Nat.zero_le _⟩ dX9_behindInRules_196) hd (fun H locs hd => ?_)
                  refine jn_s (P := fun J_45 => ∀ (v_44 : Int32) (H : Heap) (locs : List Loc) (ls : Array Slot), J_45 v_44 = some o → Dy s D cs B0 α Lv S H locs → lv_has ls 2 [] → W p l e (Rm 1 0 0) s m args below meth c H locs 0 0 (MQ below (Qi D cs B0 α Lv o S) args s 0 0 (AB B0)) (F0 m 234 ls [.int v_44])) hf ?_ (fun J_45 hJ_45 hf => ?_)
                  · intro v_44 H locs ls hf hd hl
                    cases hf
                    exact r_iret hc hd hr dX9_behindInRules_234
                  refine lv_if_eq (tgt := 207) hc.x hc.b dX9_behindInRules_199 (by decide) (fun c_46 => ?_) (fun c_46 => ?_)
                  · have hf := br_y c_46 hf
                    refine lv_iload_n hc.x hc.b dX9_behindInRules_207 rfl (lv_at hl 1 rfl) ?_
                    refine lv_bipush (v := 108) hc.x hc.b dX9_behindInRules_208 (by decide) ?_
                    refine jn_s (P := fun J_47 => ∀ (_u : Unit) (H : Heap) (locs : List Loc) (ls : Array Slot), J_47 _u = some o → Dy s D cs B0 α Lv S H locs → lv_has ls 2 [] → W p l e (Rm 1 0 0) s m args below meth c H locs 0 0 (MQ below (Qi D cs B0 α Lv o S) args s 0 0 (AB B0)) (F0 m 219 ls [])) hf ?_ (fun J_47 hJ_47 hf => ?_)
                    · intro _u H locs ls hf hd hl
                      refine lv_iconst (v := 3) hc.x hc.b dX9_behindInRules_219 (by decide) ?_
                      refine lv_goto (tgt := 234) hc.x hc.b dX9_behindInRules_220 (by decide) ?_
                      exact hJ_45 3 _ _ _ hf hd (lv_sub hl [] rfl)
                    refine lv_icmp_eq (tgt := 219) hc.x hc.b dX9_behindInRules_210 (by decide) (fun c_48 => ?_) (fun c_48 => ?_)
                    · have hf := br_y c_48 hf
                      exact hJ_47 ()  _ _ _ hf hd (lv_sub hl [] rfl)
                    · have hf := br_n c_48 hf
                      refine lv_iload_n hc.x hc.b dX9_behindInRules_213 rfl (lv_at hl 1 rfl) ?_
                      refine lv_bipush (v := 107) hc.x hc.b dX9_behindInRules_214 (by decide) ?_
                      refine lv_icmp_ne (tgt := 223) hc.x hc.b dX9_behindInRules_216 (by decide) (fun c_49 => ?_) (fun c_49 => ?_)
                      · have hf := br_n c_49 hf
                        refine lv_iload_n hc.x hc.b dX9_behindInRules_223 rfl (lv_at hl 1 rfl) ?_
                        refine lv_bipush (v := 59) hc.x hc.b dX9_behindInRules_224 (by decide) ?_
                        refine lv_icmp_ne (tgt := 233) hc.x hc.b dX9_behindInRules_226 (by decide) (fun c_50 => ?_) (fun c_50 => ?_)
                        · have hf := br_n c_50 hf
                          refine lv_iconst (v := (-1)) hc.x hc.b dX9_behindInRules_233 (by decide) ?_
                          exact hJ_45 ((-1)) _ _ _ hf hd (lv_sub hl [] rfl)
                        · have hf := br_y c_50 hf
                          refine lv_iconst (v := 0) hc.x hc.b dX9_behindInRules_229 (by decide) ?_
                          refine lv_goto (tgt := 234) hc.x hc.b dX9_behindInRules_230 (by decide) ?_
                          exact hJ_45 0 _ _ _ hf hd (lv_sub hl [] rfl)
                      · have hf := br_y c_49 hf
                        exact hJ_47 ()  _ _ _ hf hd (lv_sub hl [] rfl)
                  · have hf := br_n c_46 hf
                    refine lv_bipush (v := 6) hc.x hc.b dX9_behindInRules_202 (by decide) ?_
                    refine lv_goto (tgt := 234) hc.x hc.b dX9_behindInRules_204 (by decide) ?_
                    exact hJ_45 6 _ _ _ hf hd (lv_sub hl [] rfl)
                · have hf := br_n c_1_7 hf
                  refine lv_tableOut (tgt := 235) hc.x hc.b dX9_behindInRules_1 (sw_out (fun z h1 h2 => by
                    rcases (show z = 0 ∨ z = 1 ∨ z = 2 ∨ z = 3 ∨ z = 4 ∨ z = 5 ∨ z = 6 ∨ z = 7 by omega) with rfl | rfl | rfl | rfl | rfl | rfl | rfl | rfl
                    · exact c_1_0
                    · exact c_1_1
                    · exact c_1_2
                    · exact c_1_3
                    · exact c_1_4
                    · exact c_1_5
                    · exact c_1_6
                    · exact c_1_7)) (by decide) ?_
                  refine lv_iconst (v := (-1)) hc.x hc.b dX9_behindInRules_235 (by decide) ?_
                  cases hf
                  exact r_iret hc hd hr dX9_behindInRules_236
theorem c_X9_behindInRules (l : Launch) (D : va_G) (cs : Nat → ClassId) (B0 : Nat) (kt : (Nat → Nat) × (Nat → Nat)) (α : Nat → Nat → Nat) (Lv : Nat → Nat → Prop) (S : St) (x0 : Int32) (x1 : Int32) (hcl : Cl Lv)  {o : Int32} (hf : f_X9_behindInRules x0 x1 S = some o) : Met l yX9_behindInRules (wz yX9_behindInRules cX9_behindInRules 2 (some .int)) (Rm 1 0 0) (Pz D cs B0 kt α Lv S [.int x0, .int x1]) (Qi D cs B0 α Lv o S) 0 0 (AB B0) := met_of (by decide) rfl hcl (Nat.le_of_ble_eq_true rfl) (fun p e s m below meth c hc hr hd ls hl => b_X9_behindInRules hc hr  hf hd hl)
theorem my_X9_behindInRules : MyS yX9_behindInRules cX9_behindInRules 2 (some .int) 2 := ⟨tw_693, tw_7, tw_694, by decide +kernel⟩
def f_X9_codeOfNumber_25 (g0 : Nat) (S : St) (K : Int32 → Option (Int32)) : Nat → Int32 → Int32 → Option (Int32)
  | 0, _, _ => none
  | n + 1, x2, x3 => br ((gi S 28 g0 9) ≤ x3) (K x2) (ck (inb x3 400 = true) (bv (((10 * x2) + (gi S 29 g0 (nn x3))) - 48) (fun x2_6 => bv (x3 + 1) (fun x3_7 => f_X9_codeOfNumber_25 g0 S K n x2_6 x3_7))))
def f_X9_codeOfNumber (g0 : Nat) (S : St) : Option (Int32) := bv ((gi S 28 g0 9) - (gi S 28 g0 8)) (fun x1_1 => br (x1_1 ≤ 2) (bv (gi S 28 g0 8) (fun x3_3 => f_X9_codeOfNumber_25 g0 S (fun (x2_8 : Int32) => some (200 + x2_8)) FU 0 x3_3)) (some ((-2))))
set_option maxRecDepth 100000 in
set_option maxHeartbeats 4000000 in
theorem w_X9_codeOfNumber_25 (hc : Cx p s m args meth c cX9_codeOfNumber 4 "PumpCrossing$TextReader" D cs B0 kt Lv) (hr : meth.sig.returnType = some .int) {o : Int32}  {g0 : Nat} {S : St} {K : Int32 → Option (Int32)} (hL0 : Lv 28 g0) (hK : ∀ (k2 : Int32) (H : Heap) (locs : List Loc) (ls : Array Slot), K k2 = some o → Dy s D cs B0 α Lv S H locs → lv_has ls 4 [(2, .int k2)] → W p l e (Rm 0 0 0) s m args below meth c H locs 0 0 (MQ below (Qi D cs B0 α Lv o S) args s 0 0 (AB B0)) (F0 m 54 ls [])) : ∀ (n : Nat) (x2 : Int32) (x3 : Int32) (H : Heap) (locs : List Loc) (ls : Array Slot), f_X9_codeOfNumber_25 g0 S K n x2 x3 = some o → Dy s D cs B0 α Lv S H locs → lv_has ls 4 [(0, .ref (α 28 g0)), (2, .int x2), (3, .int x3)] → W p l e (Rm 0 0 0) s m args below meth c H locs 0 0 (MQ below (Qi D cs B0 α Lv o S) args s 0 0 (AB B0)) (F0 m 25 ls []) := by
  intro n
  induction n with
  | zero =>
    intro x2 x3 H locs ls hf
    rw [f_X9_codeOfNumber_25] at hf
    cases hf
  | succ n ih =>
    intro x2 x3 H locs ls hf hd hl
    rw [f_X9_codeOfNumber_25] at hf
    refine lv_iload_n hc.x hc.b dX9_codeOfNumber_25 rfl (lv_at hl 2 rfl) ?_
    refine lv_aload_n hc.x hc.b dX9_codeOfNumber_26 rfl (lv_at hl 0 rfl) ?_
    refine fg_28_9 hc hd hL0 tw_236 dX9_codeOfNumber_27 ?_
    refine lv_icmp_ge (tgt := 54) hc.x hc.b dX9_codeOfNumber_30 (by decide) (fun c_4 => ?_) (fun c_4 => ?_)
    · have hf := br_y c_4 hf
      exact hK x2 _ _ _ hf hd (lv_sub hl [1] rfl)
    · have hf := br_n c_4 hf
      refine lv_bipush (v := 10) hc.x hc.b dX9_codeOfNumber_33 (by decide) ?_
      refine lv_iload_n hc.x hc.b dX9_codeOfNumber_35 rfl (lv_at hl 1 rfl) ?_
      refine lv_imul hc.x hc.b dX9_codeOfNumber_36 ?_
      refine lv_aload_n hc.x hc.b dX9_codeOfNumber_37 rfl (lv_at hl 0 rfl) ?_
      refine fg_28_0 hc hd hL0 tw_218 dX9_codeOfNumber_38 ?_
      refine lv_iload_n hc.x hc.b dX9_codeOfNumber_41 rfl (lv_at hl 2 rfl) ?_
      obtain ⟨hi_5, hf⟩ := ck_s hf
      refine r_bald hc hd (cl_28_tape hc.cl hL0) rfl hi_5 dX9_codeOfNumber_42 ?_
      refine lv_iadd hc.x hc.b dX9_codeOfNumber_43 ?_
      refine lv_bipush (v := 48) hc.x hc.b dX9_codeOfNumber_44 (by decide) ?_
      refine lv_isub hc.x hc.b dX9_codeOfNumber_46 ?_
      refine lv_topi (fun x2_6 ex2_6 => ?_)
      have hf := bv_n ex2_6 hf
      refine lv_istore_n (lv' := [(2, .int x2_6), (0, .ref (α 28 g0)), (3, .int x3)]) hc.x hc.b dX9_codeOfNumber_47 rfl hl (by decide) rfl (fun ls hl => ?_)
      obtain ⟨x3_7, ex3_7⟩ : ∃ z : Int32, z = x3 + 1 := ⟨_, rfl⟩
      have hf := bv_n ex3_7 hf
      refine lv_iinc (v := x3_7) (lv' := [(3, .int x3_7), (2, .int x2_6), (0, .ref (α 28 g0))]) hc.x hc.b dX9_codeOfNumber_48 hl (k := 2) rfl (by rw [ex3_7]; rfl) (by decide) rfl (fun ls hl => ?_)
      refine lv_goto (tgt := 25) hc.x hc.b dX9_codeOfNumber_51 (by decide) ?_
      exact ih x2_6 x3_7 _ _ _ hf hd (lv_sub hl [2, 1, 0] rfl)
set_option maxRecDepth 100000 in
set_option maxHeartbeats 4000000 in
theorem b_X9_codeOfNumber (hc : Cx p s m args meth c cX9_codeOfNumber 4 "PumpCrossing$TextReader" D cs B0 kt Lv) (hr : meth.sig.returnType = some .int)  {o : Int32}  {S : St} {g0 : Nat} (hL0 : Lv 28 g0) {H : Heap} {locs : List Loc} {ls : Array Slot} (hf : f_X9_codeOfNumber g0 S = some o) (hd : Dy s D cs B0 α Lv S H locs) (hl : lv_has ls 4 [(0, .ref (α 28 g0))]) : W p l e (Rm 0 0 0) s m args below meth c H locs 0 0 (MQ below (Qi D cs B0 α Lv o S) args s 0 0 (AB B0)) (F0 m 0 ls []) := by
  unfold f_X9_codeOfNumber at hf
  refine lv_aload_n hc.x hc.b dX9_codeOfNumber_0 rfl (lv_at hl 0 rfl) ?_
  refine fg_28_9 hc hd hL0 tw_236 dX9_codeOfNumber_1 ?_
  refine lv_aload_n hc.x hc.b dX9_codeOfNumber_4 rfl (lv_at hl 0 rfl) ?_
  refine fg_28_8 hc hd hL0 tw_235 dX9_codeOfNumber_5 ?_
  refine lv_isub hc.x hc.b dX9_codeOfNumber_8 ?_
  refine lv_topi (fun x1_1 ex1_1 => ?_)
  have hf := bv_n ex1_1 hf
  refine lv_istore_n (lv' := [(1, .int x1_1), (0, .ref (α 28 g0))]) hc.x hc.b dX9_codeOfNumber_9 rfl hl (by decide) rfl (fun ls hl => ?_)
  refine lv_iload_n hc.x hc.b dX9_codeOfNumber_10 rfl (lv_at hl 0 rfl) ?_
  refine lv_iconst (v := 2) hc.x hc.b dX9_codeOfNumber_11 (by decide) ?_
  refine lv_icmp_le (tgt := 18) hc.x hc.b dX9_codeOfNumber_12 (by decide) (fun c_2 => ?_) (fun c_2 => ?_)
  · have hf := br_y c_2 hf
    refine lv_iconst (v := 0) hc.x hc.b dX9_codeOfNumber_18 (by decide) ?_
    refine lv_istore_n (lv' := [(2, .int 0), (1, .int x1_1), (0, .ref (α 28 g0))]) hc.x hc.b dX9_codeOfNumber_19 rfl hl (by decide) rfl (fun ls hl => ?_)
    refine lv_aload_n hc.x hc.b dX9_codeOfNumber_20 rfl (lv_at hl 2 rfl) ?_
    refine fg_28_8 hc hd hL0 tw_235 dX9_codeOfNumber_21 ?_
    refine lv_topi (fun x3_3 ex3_3 => ?_)
    have hf := bv_n ex3_3 hf
    refine lv_istore_n (lv' := [(3, .int x3_3), (2, .int 0), (1, .int x1_1), (0, .ref (α 28 g0))]) hc.x hc.b dX9_codeOfNumber_24 rfl hl (by decide) rfl (fun ls hl => ?_)
    refine w_X9_codeOfNumber_25 hc hr hL0 ?_ _ _ _ _ _ _ hf hd (lv_sub hl [3, 1, 0] rfl)
    intro x2_8 H locs ls hf hd hl
    refine lv_sipush (v := 200) hc.x hc.b dX9_codeOfNumber_54 (by decide) ?_
    refine lv_iload_n hc.x hc.b dX9_codeOfNumber_57 rfl (lv_at hl 0 rfl) ?_
    refine lv_iadd hc.x hc.b dX9_codeOfNumber_58 ?_
    cases hf
    exact r_iret hc hd hr dX9_codeOfNumber_59
  · have hf := br_n c_2 hf
    refine lv_bipush (v := (-2)) hc.x hc.b dX9_codeOfNumber_15 (by decide) ?_
    cases hf
    exact r_iret hc hd hr dX9_codeOfNumber_17
theorem c_X9_codeOfNumber (l : Launch) (D : va_G) (cs : Nat → ClassId) (B0 : Nat) (kt : (Nat → Nat) × (Nat → Nat)) (α : Nat → Nat → Nat) (Lv : Nat → Nat → Prop) (S : St) (g0 : Nat) (hcl : Cl Lv) (hL0 : Lv 28 g0) {o : Int32} (hf : f_X9_codeOfNumber g0 S = some o) : Met l yX9_codeOfNumber (wz yX9_codeOfNumber cX9_codeOfNumber 4 (some .int)) (Rm 0 0 0) (Pz D cs B0 kt α Lv S [.ref (α 28 g0)]) (Qi D cs B0 α Lv o S) 0 0 (AB B0) := met_of (by decide) rfl hcl (Nat.le_of_ble_eq_true rfl) (fun p e s m below meth c hc hr hd ls hl => b_X9_codeOfNumber hc hr hL0 hf hd hl)
theorem my_X9_codeOfNumber : MyV yX9_codeOfNumber "PumpCrossing$TextReader" cX9_codeOfNumber 4 (some .int) 0 := ⟨tw_684, (in_sel 9 (by decide +kernel) (by decide +kernel)), tw_7, tw_685, by decide +kernel⟩
def f_X9_codeOfWord_13 (g0 : Nat) (S : St) (K : Unit → Option (Int32)) : Nat → Int32 → Int32 → Int32 → Int32 → Option (Int32)
  | 0, _, _, _, _ => none
  | n + 1, x1, x2, x3, x4 => br ((slen 3) ≤ x4) (K ()) (ck (inb x4 (sby 3).length = true) (bv (schr 3 x4) (fun x5_4 => bv (fun (x1_5 : Int32) (x2_6 : Int32) (x3_7 : Int32) => bv (x4 + 1) (fun x4_9 => f_X9_codeOfWord_13 g0 S K n x1_5 x2_6 x3_7 x4_9)) (fun J_8 => br (x5_4 = 32) (bv (fun (_u : Unit) => bv (x1 + 1) (fun x1_12 => bv (gi S 28 g0 8) (fun x2_13 => J_8 x1_12 x2_13 1))) (fun J_11 => br (x3 = 0) (J_11 ()) (br (x2 = (gi S 28 g0 9)) (some x1) (J_11 ())))) (bv (fun (v_16 : Int32) => bv (x2 + 1) (fun x2_18 => J_8 x1 x2_18 v_16)) (fun J_17 => bv (fun (_u : Unit) => J_17 0) (fun J_19 => br (x3 = 0) (J_19 ()) (br ((gi S 28 g0 9) ≤ x2) (J_19 ()) (ck (inb x2 400 = true) (br ((gi S 29 g0 (nn x2)) = x5_4) (J_17 1) (J_19 ())))))))))))
def f_X9_codeOfWord (g0 : Nat) (S : St) : Option (Int32) := bv (gi S 28 g0 8) (fun x2_1 => f_X9_codeOfWord_13 g0 S (fun (_u : Unit) => some ((-1))) FU 100 x2_1 1 0)
set_option maxRecDepth 100000 in
set_option maxHeartbeats 4000000 in
theorem w_X9_codeOfWord_13 (hc : Cx p s m args meth c cX9_codeOfWord 6 "PumpCrossing$TextReader" D cs B0 kt Lv) (hr : meth.sig.returnType = some .int) {o : Int32}  {g0 : Nat} {S : St} {K : Unit → Option (Int32)} (hL0 : Lv 28 g0) (hK : ∀ (_u : Unit) (H : Heap) (locs : List Loc) (ls : Array Slot), K _u = some o → Dy s D cs B0 α Lv S H locs → lv_has ls 6 [] → W p l e (Rm 4 0 0) s m args below meth c H locs 0 0 (MQ below (Qi D cs B0 α Lv o S) args s 0 0 (AB B0)) (F0 m 104 ls [])) : ∀ (n : Nat) (x1 : Int32) (x2 : Int32) (x3 : Int32) (x4 : Int32) (H : Heap) (locs : List Loc) (ls : Array Slot), f_X9_codeOfWord_13 g0 S K n x1 x2 x3 x4 = some o → Dy s D cs B0 α Lv S H locs → lv_has ls 6 [(0, .ref (α 28 g0)), (1, .int x1), (2, .int x2), (3, .int x3), (4, .int x4)] → W p l e (Rm 4 0 0) s m args below meth c H locs 0 0 (MQ below (Qi D cs B0 α Lv o S) args s 0 0 (AB B0)) (F0 m 13 ls []) := by
  intro n
  induction n with
  | zero =>
    intro x1 x2 x3 x4 H locs ls hf
    rw [f_X9_codeOfWord_13] at hf
    cases hf
  | succ n ih =>
    intro x1 x2 x3 x4 H locs ls hf hd hl
    rw [f_X9_codeOfWord_13] at hf
    refine lv_iload hc.x hc.b dX9_codeOfWord_13 (lv_at hl 4 rfl) ?_
    refine r_ldcS hc (i := 3) rfl dX9_codeOfWord_15 ?_
    refine k_i (k_runVs hc hd my_J0_length_8abf5 tw_631 (by decide) (c_slen l D cs B0 kt α Lv S 3 (by decide) hc.cl) rfl rfl hl.1 (Nat.le_of_ble_eq_true rfl) ⟨Nat.le_of_ble_eq_true rfl, Nat.le_of_ble_eq_true rfl, Nat.zero_le _, Nat.zero_le _⟩ dX9_codeOfWord_17) hd (fun H locs hd => ?_)
    refine lv_icmp_ge (tgt := 104) hc.x hc.b dX9_codeOfWord_20 (by decide) (fun c_2 => ?_) (fun c_2 => ?_)
    · have hf := br_y c_2 hf
      exact hK ()  _ _ _ hf hd (lv_sub hl [] rfl)
    · have hf := br_n c_2 hf
      refine r_ldcS hc (i := 3) rfl dX9_codeOfWord_23 ?_
      refine lv_iload hc.x hc.b dX9_codeOfWord_25 (lv_at hl 4 rfl) ?_
      obtain ⟨hi_3, hf⟩ := ck_s hf
      refine k_i (k_runVs hc hd my_J0_charAt_5068e tw_641 (by decide) (c_schr l D cs B0 kt α Lv S 3 x4 (by decide) hi_3 hc.cl) rfl rfl hl.1 (Nat.le_of_ble_eq_true rfl) ⟨Nat.le_of_ble_eq_true rfl, Nat.le_of_ble_eq_true rfl, Nat.zero_le _, Nat.zero_le _⟩ dX9_codeOfWord_27) hd (fun H locs hd => ?_)
      refine lv_topi (fun x5_4 ex5_4 => ?_)
      have hf := bv_n ex5_4 hf
      refine lv_istore (lv' := [(5, .int x5_4), (0, .ref (α 28 g0)), (1, .int x1), (2, .int x2), (3, .int x3), (4, .int x4)]) hc.x hc.b dX9_codeOfWord_30 hl (by decide) rfl (fun ls hl => ?_)
      refine lv_iload hc.x hc.b dX9_codeOfWord_32 (lv_at hl 0 rfl) ?_
      refine lv_bipush (v := 32) hc.x hc.b dX9_codeOfWord_34 (by decide) ?_
      refine jn_s (P := fun J_8 => ∀ (x1_5 : Int32) (x2_6 : Int32) (x3_7 : Int32) (H : Heap) (locs : List Loc) (ls : Array Slot), J_8 x1_5 x2_6 x3_7 = some o → Dy s D cs B0 α Lv S H locs → lv_has ls 6 [(0, .ref (α 28 g0)), (1, .int x1_5), (2, .int x2_6), (3, .int x3_7), (4, .int x4)] → W p l e (Rm 4 0 0) s m args below meth c H locs 0 0 (MQ below (Qi D cs B0 α Lv o S) args s 0 0 (AB B0)) (F0 m 98 ls [])) hf ?_ (fun J_8 hJ_8 hf => ?_)
      · intro x1_5 x2_6 x3_7 H locs ls hf hd hl
        obtain ⟨x4_9, ex4_9⟩ : ∃ z : Int32, z = x4 + 1 := ⟨_, rfl⟩
        have hf := bv_n ex4_9 hf
        refine lv_iinc (v := x4_9) (lv' := [(4, .int x4_9), (0, .ref (α 28 g0)), (1, .int x1_5), (2, .int x2_6), (3, .int x3_7)]) hc.x hc.b dX9_codeOfWord_98 hl (k := 4) rfl (by rw [ex4_9]; rfl) (by decide) rfl (fun ls hl => ?_)
        refine lv_goto (tgt := 13) hc.x hc.b dX9_codeOfWord_101 (by decide) ?_
        exact ih x1_5 x2_6 x3_7 x4_9 _ _ _ hf hd (lv_sub hl [1, 2, 3, 4, 0] rfl)
      refine lv_icmp_eq (tgt := 74) hc.x hc.b dX9_codeOfWord_36 (by decide) (fun c_10 => ?_) (fun c_10 => ?_)
      · have hf := br_y c_10 hf
        refine lv_iload_n hc.x hc.b dX9_codeOfWord_74 rfl (lv_at hl 4 rfl) ?_
        refine jn_s (P := fun J_11 => ∀ (_u : Unit) (H : Heap) (locs : List Loc) (ls : Array Slot), J_11 _u = some o → Dy s D cs B0 α Lv S H locs → lv_has ls 6 [(0, .ref (α 28 g0)), (1, .int x1), (4, .int x4)] → W p l e (Rm 4 0 0) s m args below meth c H locs 0 0 (MQ below (Qi D cs B0 α Lv o S) args s 0 0 (AB B0)) (F0 m 88 ls [])) hf ?_ (fun J_11 hJ_11 hf => ?_)
        · intro _u H locs ls hf hd hl
          obtain ⟨x1_12, ex1_12⟩ : ∃ z : Int32, z = x1 + 1 := ⟨_, rfl⟩
          have hf := bv_n ex1_12 hf
          refine lv_iinc (v := x1_12) (lv' := [(1, .int x1_12), (0, .ref (α 28 g0)), (4, .int x4)]) hc.x hc.b dX9_codeOfWord_88 hl (k := 1) rfl (by rw [ex1_12]; rfl) (by decide) rfl (fun ls hl => ?_)
          refine lv_aload_n hc.x hc.b dX9_codeOfWord_91 rfl (lv_at hl 1 rfl) ?_
          refine fg_28_8 hc hd hL0 tw_235 dX9_codeOfWord_92 ?_
          refine lv_topi (fun x2_13 ex2_13 => ?_)
          have hf := bv_n ex2_13 hf
          refine lv_istore_n (lv' := [(2, .int x2_13), (1, .int x1_12), (0, .ref (α 28 g0)), (4, .int x4)]) hc.x hc.b dX9_codeOfWord_95 rfl hl (by decide) rfl (fun ls hl => ?_)
          refine lv_iconst (v := 1) hc.x hc.b dX9_codeOfWord_96 (by decide) ?_
          refine lv_istore_n (lv' := [(3, .int 1), (2, .int x2_13), (1, .int x1_12), (0, .ref (α 28 g0)), (4, .int x4)]) hc.x hc.b dX9_codeOfWord_97 rfl hl (by decide) rfl (fun ls hl => ?_)
          exact hJ_8 x1_12 x2_13 1 _ _ _ hf hd (lv_sub hl [3, 2, 1, 0, 4] rfl)
        refine lv_if_eq (tgt := 88) hc.x hc.b dX9_codeOfWord_75 (by decide) (fun c_14 => ?_) (fun c_14 => ?_)
        · have hf := br_y c_14 hf
          exact hJ_11 ()  _ _ _ hf hd (lv_sub hl [1, 2, 5] rfl)
        · have hf := br_n c_14 hf
          refine lv_iload_n hc.x hc.b dX9_codeOfWord_78 rfl (lv_at hl 3 rfl) ?_
          refine lv_aload_n hc.x hc.b dX9_codeOfWord_79 rfl (lv_at hl 1 rfl) ?_
          refine fg_28_9 hc hd hL0 tw_236 dX9_codeOfWord_80 ?_
          refine lv_icmp_ne (tgt := 88) hc.x hc.b dX9_codeOfWord_83 (by decide) (fun c_15 => ?_) (fun c_15 => ?_)
          · have hf := br_n c_15 hf
            exact hJ_11 ()  _ _ _ hf hd (lv_sub hl [1, 2, 5] rfl)
          · have hf := br_y c_15 hf
            refine lv_iload_n hc.x hc.b dX9_codeOfWord_86 rfl (lv_at hl 2 rfl) ?_
            cases hf
            exact r_iret hc hd hr dX9_codeOfWord_87
      · have hf := br_n c_10 hf
        refine lv_iload_n hc.x hc.b dX9_codeOfWord_39 rfl (lv_at hl 4 rfl) ?_
        refine jn_s (P := fun J_17 => ∀ (v_16 : Int32) (H : Heap) (locs : List Loc) (ls : Array Slot), J_17 v_16 = some o → Dy s D cs B0 α Lv S H locs → lv_has ls 6 [(0, .ref (α 28 g0)), (1, .int x1), (2, .int x2), (4, .int x4)] → W p l e (Rm 4 0 0) s m args below meth c H locs 0 0 (MQ below (Qi D cs B0 α Lv o S) args s 0 0 (AB B0)) (F0 m 67 ls [.int v_16])) hf ?_ (fun J_17 hJ_17 hf => ?_)
        · intro v_16 H locs ls hf hd hl
          refine lv_istore_n (lv' := [(3, .int v_16), (0, .ref (α 28 g0)), (1, .int x1), (2, .int x2), (4, .int x4)]) hc.x hc.b dX9_codeOfWord_67 rfl hl (by decide) rfl (fun ls hl => ?_)
          obtain ⟨x2_18, ex2_18⟩ : ∃ z : Int32, z = x2 + 1 := ⟨_, rfl⟩
          have hf := bv_n ex2_18 hf
          refine lv_iinc (v := x2_18) (lv' := [(2, .int x2_18), (3, .int v_16), (0, .ref (α 28 g0)), (1, .int x1), (4, .int x4)]) hc.x hc.b dX9_codeOfWord_68 hl (k := 3) rfl (by rw [ex2_18]; rfl) (by decide) rfl (fun ls hl => ?_)
          refine lv_goto (tgt := 98) hc.x hc.b dX9_codeOfWord_71 (by decide) ?_
          exact hJ_8 x1 x2_18 v_16 _ _ _ hf hd (lv_sub hl [2, 3, 0, 1, 4] rfl)
        refine jn_s (P := fun J_19 => ∀ (_u : Unit) (H : Heap) (locs : List Loc) (ls : Array Slot), J_19 _u = some o → Dy s D cs B0 α Lv S H locs → lv_has ls 6 [(0, .ref (α 28 g0)), (1, .int x1), (2, .int x2), (4, .int x4)] → W p l e (Rm 4 0 0) s m args below meth c H locs 0 0 (MQ below (Qi D cs B0 α Lv o S) args s 0 0 (AB B0)) (F0 m 66 ls [])) hf ?_ (fun J_19 hJ_19 hf => ?_)
        · intro _u H locs ls hf hd hl
          refine lv_iconst (v := 0) hc.x hc.b dX9_codeOfWord_66 (by decide) ?_
          exact hJ_17 0 _ _ _ hf hd (lv_sub hl [0, 1, 2, 3] rfl)
        refine lv_if_eq (tgt := 66) hc.x hc.b dX9_codeOfWord_40 (by decide) (fun c_20 => ?_) (fun c_20 => ?_)
        · have hf := br_y c_20 hf
          exact hJ_19 ()  _ _ _ hf hd (lv_sub hl [1, 2, 3, 5] rfl)
        · have hf := br_n c_20 hf
          refine lv_iload_n hc.x hc.b dX9_codeOfWord_43 rfl (lv_at hl 3 rfl) ?_
          refine lv_aload_n hc.x hc.b dX9_codeOfWord_44 rfl (lv_at hl 1 rfl) ?_
          refine fg_28_9 hc hd hL0 tw_236 dX9_codeOfWord_45 ?_
          refine lv_icmp_ge (tgt := 66) hc.x hc.b dX9_codeOfWord_48 (by decide) (fun c_21 => ?_) (fun c_21 => ?_)
          · have hf := br_y c_21 hf
            exact hJ_19 ()  _ _ _ hf hd (lv_sub hl [1, 2, 3, 5] rfl)
          · have hf := br_n c_21 hf
            refine lv_aload_n hc.x hc.b dX9_codeOfWord_51 rfl (lv_at hl 1 rfl) ?_
            refine fg_28_0 hc hd hL0 tw_218 dX9_codeOfWord_52 ?_
            refine lv_iload_n hc.x hc.b dX9_codeOfWord_55 rfl (lv_at hl 3 rfl) ?_
            obtain ⟨hi_22, hf⟩ := ck_s hf
            refine r_bald hc hd (cl_28_tape hc.cl hL0) rfl hi_22 dX9_codeOfWord_56 ?_
            refine lv_iload hc.x hc.b dX9_codeOfWord_57 (lv_at hl 0 rfl) ?_
            refine lv_icmp_ne (tgt := 66) hc.x hc.b dX9_codeOfWord_59 (by decide) (fun c_23 => ?_) (fun c_23 => ?_)
            · have hf := br_n c_23 hf
              exact hJ_19 ()  _ _ _ hf hd (lv_sub hl [1, 2, 3, 5] rfl)
            · have hf := br_y c_23 hf
              refine lv_iconst (v := 1) hc.x hc.b dX9_codeOfWord_62 (by decide) ?_
              refine lv_goto (tgt := 67) hc.x hc.b dX9_codeOfWord_63 (by decide) ?_
              exact hJ_17 1 _ _ _ hf hd (lv_sub hl [1, 2, 3, 5] rfl)
set_option maxRecDepth 100000 in
set_option maxHeartbeats 4000000 in
theorem b_X9_codeOfWord (hc : Cx p s m args meth c cX9_codeOfWord 6 "PumpCrossing$TextReader" D cs B0 kt Lv) (hr : meth.sig.returnType = some .int)  {o : Int32}  {S : St} {g0 : Nat} (hL0 : Lv 28 g0) {H : Heap} {locs : List Loc} {ls : Array Slot} (hf : f_X9_codeOfWord g0 S = some o) (hd : Dy s D cs B0 α Lv S H locs) (hl : lv_has ls 6 [(0, .ref (α 28 g0))]) : W p l e (Rm 4 0 0) s m args below meth c H locs 0 0 (MQ below (Qi D cs B0 α Lv o S) args s 0 0 (AB B0)) (F0 m 0 ls []) := by
  unfold f_X9_codeOfWord at hf
  refine lv_bipush (v := 100) hc.x hc.b dX9_codeOfWord_0 (by decide) ?_
  refine lv_istore_n (lv' := [(1, .int 100), (0, .ref (α 28 g0))]) hc.x hc.b dX9_codeOfWord_2 rfl hl (by decide) rfl (fun ls hl => ?_)
  refine lv_aload_n hc.x hc.b dX9_codeOfWord_3 rfl (lv_at hl 1 rfl) ?_
  refine fg_28_8 hc hd hL0 tw_235 dX9_codeOfWord_4 ?_
  refine lv_topi (fun x2_1 ex2_1 => ?_)
  have hf := bv_n ex2_1 hf
  refine lv_istore_n (lv' := [(2, .int x2_1), (1, .int 100), (0, .ref (α 28 g0))]) hc.x hc.b dX9_codeOfWord_7 rfl hl (by decide) rfl (fun ls hl => ?_)
  refine lv_iconst (v := 1) hc.x hc.b dX9_codeOfWord_8 (by decide) ?_
  refine lv_istore_n (lv' := [(3, .int 1), (2, .int x2_1), (1, .int 100), (0, .ref (α 28 g0))]) hc.x hc.b dX9_codeOfWord_9 rfl hl (by decide) rfl (fun ls hl => ?_)
  refine lv_iconst (v := 0) hc.x hc.b dX9_codeOfWord_10 (by decide) ?_
  refine lv_istore (lv' := [(4, .int 0), (3, .int 1), (2, .int x2_1), (1, .int 100), (0, .ref (α 28 g0))]) hc.x hc.b dX9_codeOfWord_11 hl (by decide) rfl (fun ls hl => ?_)
  refine w_X9_codeOfWord_13 hc hr hL0 ?_ _ _ _ _ _ _ _ _ hf hd (lv_sub hl [4, 3, 2, 1, 0] rfl)
  intro _u H locs ls hf hd hl
  refine lv_iconst (v := (-1)) hc.x hc.b dX9_codeOfWord_104 (by decide) ?_
  cases hf
  exact r_iret hc hd hr dX9_codeOfWord_105
theorem c_X9_codeOfWord (l : Launch) (D : va_G) (cs : Nat → ClassId) (B0 : Nat) (kt : (Nat → Nat) × (Nat → Nat)) (α : Nat → Nat → Nat) (Lv : Nat → Nat → Prop) (S : St) (g0 : Nat) (hcl : Cl Lv) (hL0 : Lv 28 g0) {o : Int32} (hf : f_X9_codeOfWord g0 S = some o) : Met l yX9_codeOfWord (wz yX9_codeOfWord cX9_codeOfWord 6 (some .int)) (Rm 4 0 0) (Pz D cs B0 kt α Lv S [.ref (α 28 g0)]) (Qi D cs B0 α Lv o S) 0 0 (AB B0) := met_of (by decide) rfl hcl (Nat.le_of_ble_eq_true rfl) (fun p e s m below meth c hc hr hd ls hl => b_X9_codeOfWord hc hr hL0 hf hd hl)
theorem my_X9_codeOfWord : MyV yX9_codeOfWord "PumpCrossing$TextReader" cX9_codeOfWord 6 (some .int) 0 := ⟨tw_628, (in_sel 8 (by decide +kernel) (by decide +kernel)), tw_7, tw_629, by decide +kernel⟩
def f_X9_faultOf (g0 : Nat) (x1 : Int32) (x2 : Int32) (x3 : Int32) (x4 : Int32) (S : St) : Option (Int32) := br (x1 = ((-2))) (some 1) (br (x3 = ((-1))) (some 2) (bv (fun (_u : Unit) => some 3) (fun J_3 => bv (fun (_u : Unit) => bv (fun (_u : Unit) => bv (fun (v_6 : Int32) => bv (fun (v_8 : Int32) => bv (fun (v_10 : Int32) => some v_10) (fun J_11 => bv (fun (_u : Unit) => J_11 4) (fun J_12 => br (v_6 = 0) (br (v_8 = 0) (J_11 0) (J_12 ())) (J_12 ())))) (fun J_9 => bv (fun (_u : Unit) => J_9 0) (fun J_15 => br (x1 = 109) (br ((gi S 28 g0 10) = 4) (J_9 1) (J_15 ())) (J_15 ())))) (fun J_7 => bv (fun (_u : Unit) => J_7 0) (fun J_18 => br (x4 = 0) (J_18 ()) (br (x2 = 0) (br (x1 = 0) (J_18 ()) (br ((gi S 28 g0 5) = 12) (J_7 1) (J_18 ()))) (J_18 ()))))) (fun J_5 => br (x2 = 9) (br (x1 ≤ 223) (J_5 ()) (J_3 ())) (J_5 ()))) (fun J_4 => br (x2 = 8) (br (x1 = 200) (J_3 ()) (J_4 ())) (J_4 ())))))
set_option maxRecDepth 100000 in
set_option maxHeartbeats 4000000 in
theorem b_X9_faultOf (hc : Cx p s m args meth c cX9_faultOf 7 "PumpCrossing$TextReader" D cs B0 kt Lv) (hr : meth.sig.returnType = some .int)  {o : Int32}  {S : St} {g0 : Nat} {x1 : Int32} {x2 : Int32} {x3 : Int32} {x4 : Int32} (hL0 : Lv 28 g0) {H : Heap} {locs : List Loc} {ls : Array Slot} (hf : f_X9_faultOf g0 x1 x2 x3 x4 S = some o) (hd : Dy s D cs B0 α Lv S H locs) (hl : lv_has ls 7 [(0, .ref (α 28 g0)), (1, .int x1), (2, .int x2), (3, .int x3), (4, .int x4)]) : W p l e (Rm 0 0 0) s m args below meth c H locs 0 0 (MQ below (Qi D cs B0 α Lv o S) args s 0 0 (AB B0)) (F0 m 0 ls []) := by
  unfold f_X9_faultOf at hf
  refine lv_iload_n hc.x hc.b dX9_faultOf_0 rfl (lv_at hl 1 rfl) ?_
  refine lv_bipush (v := (-2)) hc.x hc.b dX9_faultOf_1 (by decide) ?_
  refine lv_icmp_ne (tgt := 8) hc.x hc.b dX9_faultOf_3 (by decide) (fun c_1 => ?_) (fun c_1 => ?_)
  · have hf := br_n c_1 hf
    refine lv_iload_n hc.x hc.b dX9_faultOf_8 rfl (lv_at hl 3 rfl) ?_
    refine lv_iconst (v := (-1)) hc.x hc.b dX9_faultOf_9 (by decide) ?_
    refine lv_icmp_ne (tgt := 15) hc.x hc.b dX9_faultOf_10 (by decide) (fun c_2 => ?_) (fun c_2 => ?_)
    · have hf := br_n c_2 hf
      refine lv_iload_n hc.x hc.b dX9_faultOf_15 rfl (lv_at hl 2 rfl) ?_
      refine lv_bipush (v := 8) hc.x hc.b dX9_faultOf_16 (by decide) ?_
      refine jn_s (P := fun J_3 => ∀ (_u : Unit) (H : Heap) (locs : List Loc) (ls : Array Slot), J_3 _u = some o → Dy s D cs B0 α Lv S H locs → lv_has ls 7 [] → W p l e (Rm 0 0 0) s m args below meth c H locs 0 0 (MQ below (Qi D cs B0 α Lv o S) args s 0 0 (AB B0)) (F0 m 41 ls [])) hf ?_ (fun J_3 hJ_3 hf => ?_)
      · intro _u H locs ls hf hd hl
        refine lv_iconst (v := 3) hc.x hc.b dX9_faultOf_41 (by decide) ?_
        cases hf
        exact r_iret hc hd hr dX9_faultOf_42
      refine jn_s (P := fun J_4 => ∀ (_u : Unit) (H : Heap) (locs : List Loc) (ls : Array Slot), J_4 _u = some o → Dy s D cs B0 α Lv S H locs → lv_has ls 7 [(0, .ref (α 28 g0)), (1, .int x1), (2, .int x2), (4, .int x4)] → W p l e (Rm 0 0 0) s m args below meth c H locs 0 0 (MQ below (Qi D cs B0 α Lv o S) args s 0 0 (AB B0)) (F0 m 28 ls [])) hf ?_ (fun J_4 hJ_4 hf => ?_)
      · intro _u H locs ls hf hd hl
        refine lv_iload_n hc.x hc.b dX9_faultOf_28 rfl (lv_at hl 2 rfl) ?_
        refine lv_bipush (v := 9) hc.x hc.b dX9_faultOf_29 (by decide) ?_
        refine jn_s (P := fun J_5 => ∀ (_u : Unit) (H : Heap) (locs : List Loc) (ls : Array Slot), J_5 _u = some o → Dy s D cs B0 α Lv S H locs → lv_has ls 7 [(0, .ref (α 28 g0)), (1, .int x1), (2, .int x2), (4, .int x4)] → W p l e (Rm 0 0 0) s m args below meth c H locs 0 0 (MQ below (Qi D cs B0 α Lv o S) args s 0 0 (AB B0)) (F0 m 43 ls [])) hf ?_ (fun J_5 hJ_5 hf => ?_)
        · intro _u H locs ls hf hd hl
          refine lv_iload hc.x hc.b dX9_faultOf_43 (lv_at hl 3 rfl) ?_
          refine jn_s (P := fun J_7 => ∀ (v_6 : Int32) (H : Heap) (locs : List Loc) (ls : Array Slot), J_7 v_6 = some o → Dy s D cs B0 α Lv S H locs → lv_has ls 7 [(0, .ref (α 28 g0)), (1, .int x1)] → W p l e (Rm 0 0 0) s m args below meth c H locs 0 0 (MQ below (Qi D cs B0 α Lv o S) args s 0 0 (AB B0)) (F0 m 70 ls [.int v_6])) hf ?_ (fun J_7 hJ_7 hf => ?_)
          · intro v_6 H locs ls hf hd hl
            refine lv_istore (lv' := [(5, .int v_6), (0, .ref (α 28 g0)), (1, .int x1)]) hc.x hc.b dX9_faultOf_70 hl (by decide) rfl (fun ls hl => ?_)
            refine lv_iload_n hc.x hc.b dX9_faultOf_72 rfl (lv_at hl 2 rfl) ?_
            refine lv_bipush (v := 109) hc.x hc.b dX9_faultOf_73 (by decide) ?_
            refine jn_s (P := fun J_9 => ∀ (v_8 : Int32) (H : Heap) (locs : List Loc) (ls : Array Slot), J_9 v_8 = some o → Dy s D cs B0 α Lv S H locs → lv_has ls 7 [(5, .int v_6)] → W p l e (Rm 0 0 0) s m args below meth c H locs 0 0 (MQ below (Qi D cs B0 α Lv o S) args s 0 0 (AB B0)) (F0 m 91 ls [.int v_8])) hf ?_ (fun J_9 hJ_9 hf => ?_)
            · intro v_8 H locs ls hf hd hl
              refine lv_istore (lv' := [(6, .int v_8), (5, .int v_6)]) hc.x hc.b dX9_faultOf_91 hl (by decide) rfl (fun ls hl => ?_)
              refine lv_iload hc.x hc.b dX9_faultOf_93 (lv_at hl 1 rfl) ?_
              refine jn_s (P := fun J_11 => ∀ (v_10 : Int32) (H : Heap) (locs : List Loc) (ls : Array Slot), J_11 v_10 = some o → Dy s D cs B0 α Lv S H locs → lv_has ls 7 [] → W p l e (Rm 0 0 0) s m args below meth c H locs 0 0 (MQ below (Qi D cs B0 α Lv o S) args s 0 0 (AB B0)) (F0 m 108 ls [.int v_10])) hf ?_ (fun J_11 hJ_11 hf => ?_)
              · intro v_10 H locs ls hf hd hl
                cases hf
                exact r_iret hc hd hr dX9_faultOf_108
              refine jn_s (P := fun J_12 => ∀ (_u : Unit) (H : Heap) (locs : List Loc) (ls : Array Slot), J_12 _u = some o → Dy s D cs B0 α Lv S H locs → lv_has ls 7 [] → W p l e (Rm 0 0 0) s m args below meth c H locs 0 0 (MQ below (Qi D cs B0 α Lv o S) args s 0 0 (AB B0)) (F0 m 103 ls [])) hf ?_ (fun J_12 hJ_12 hf => ?_)
              · intro _u H locs ls hf hd hl
                refine lv_iconst (v := 4) hc.x hc.b dX9_faultOf_103 (by decide) ?_
                refine lv_goto (tgt := 108) hc.x hc.b dX9_faultOf_104 (by decide) ?_
                exact hJ_11 4 _ _ _ hf hd (lv_sub hl [] rfl)
              refine lv_if_ne (tgt := 103) hc.x hc.b dX9_faultOf_95 (by decide) (fun c_13 => ?_) (fun c_13 => ?_)
              · have hf := br_n c_13 hf
                exact hJ_12 ()  _ _ _ hf hd (lv_sub hl [] rfl)
              · have hf := br_y c_13 hf
                refine lv_iload hc.x hc.b dX9_faultOf_98 (lv_at hl 0 rfl) ?_
                refine lv_if_eq (tgt := 107) hc.x hc.b dX9_faultOf_100 (by decide) (fun c_14 => ?_) (fun c_14 => ?_)
                · have hf := br_y c_14 hf
                  refine lv_iconst (v := 0) hc.x hc.b dX9_faultOf_107 (by decide) ?_
                  exact hJ_11 0 _ _ _ hf hd (lv_sub hl [] rfl)
                · have hf := br_n c_14 hf
                  exact hJ_12 ()  _ _ _ hf hd (lv_sub hl [] rfl)
            refine jn_s (P := fun J_15 => ∀ (_u : Unit) (H : Heap) (locs : List Loc) (ls : Array Slot), J_15 _u = some o → Dy s D cs B0 α Lv S H locs → lv_has ls 7 [(5, .int v_6)] → W p l e (Rm 0 0 0) s m args below meth c H locs 0 0 (MQ below (Qi D cs B0 α Lv o S) args s 0 0 (AB B0)) (F0 m 90 ls [])) hf ?_ (fun J_15 hJ_15 hf => ?_)
            · intro _u H locs ls hf hd hl
              refine lv_iconst (v := 0) hc.x hc.b dX9_faultOf_90 (by decide) ?_
              exact hJ_9 0 _ _ _ hf hd (lv_sub hl [0] rfl)
            refine lv_icmp_ne (tgt := 90) hc.x hc.b dX9_faultOf_75 (by decide) (fun c_16 => ?_) (fun c_16 => ?_)
            · have hf := br_n c_16 hf
              exact hJ_15 ()  _ _ _ hf hd (lv_sub hl [0] rfl)
            · have hf := br_y c_16 hf
              refine lv_aload_n hc.x hc.b dX9_faultOf_78 rfl (lv_at hl 1 rfl) ?_
              refine fg_28_10 hc hd hL0 tw_237 dX9_faultOf_79 ?_
              refine lv_iconst (v := 4) hc.x hc.b dX9_faultOf_82 (by decide) ?_
              refine lv_icmp_ne (tgt := 90) hc.x hc.b dX9_faultOf_83 (by decide) (fun c_17 => ?_) (fun c_17 => ?_)
              · have hf := br_n c_17 hf
                exact hJ_15 ()  _ _ _ hf hd (lv_sub hl [0] rfl)
              · have hf := br_y c_17 hf
                refine lv_iconst (v := 1) hc.x hc.b dX9_faultOf_86 (by decide) ?_
                refine lv_goto (tgt := 91) hc.x hc.b dX9_faultOf_87 (by decide) ?_
                exact hJ_9 1 _ _ _ hf hd (lv_sub hl [0] rfl)
          refine jn_s (P := fun J_18 => ∀ (_u : Unit) (H : Heap) (locs : List Loc) (ls : Array Slot), J_18 _u = some o → Dy s D cs B0 α Lv S H locs → lv_has ls 7 [(0, .ref (α 28 g0)), (1, .int x1)] → W p l e (Rm 0 0 0) s m args below meth c H locs 0 0 (MQ below (Qi D cs B0 α Lv o S) args s 0 0 (AB B0)) (F0 m 69 ls [])) hf ?_ (fun J_18 hJ_18 hf => ?_)
          · intro _u H locs ls hf hd hl
            refine lv_iconst (v := 0) hc.x hc.b dX9_faultOf_69 (by decide) ?_
            exact hJ_7 0 _ _ _ hf hd (lv_sub hl [0, 1] rfl)
          refine lv_if_eq (tgt := 69) hc.x hc.b dX9_faultOf_45 (by decide) (fun c_19 => ?_) (fun c_19 => ?_)
          · have hf := br_y c_19 hf
            exact hJ_18 ()  _ _ _ hf hd (lv_sub hl [0, 1] rfl)
          · have hf := br_n c_19 hf
            refine lv_iload_n hc.x hc.b dX9_faultOf_48 rfl (lv_at hl 2 rfl) ?_
            refine lv_if_ne (tgt := 69) hc.x hc.b dX9_faultOf_49 (by decide) (fun c_20 => ?_) (fun c_20 => ?_)
            · have hf := br_n c_20 hf
              exact hJ_18 ()  _ _ _ hf hd (lv_sub hl [0, 1] rfl)
            · have hf := br_y c_20 hf
              refine lv_iload_n hc.x hc.b dX9_faultOf_52 rfl (lv_at hl 1 rfl) ?_
              refine lv_if_eq (tgt := 69) hc.x hc.b dX9_faultOf_53 (by decide) (fun c_21 => ?_) (fun c_21 => ?_)
              · have hf := br_y c_21 hf
                exact hJ_18 ()  _ _ _ hf hd (lv_sub hl [0, 1] rfl)
              · have hf := br_n c_21 hf
                refine lv_aload_n hc.x hc.b dX9_faultOf_56 rfl (lv_at hl 0 rfl) ?_
                refine fg_28_5 hc hd hL0 tw_230 dX9_faultOf_57 ?_
                refine lv_bipush (v := 12) hc.x hc.b dX9_faultOf_60 (by decide) ?_
                refine lv_icmp_ne (tgt := 69) hc.x hc.b dX9_faultOf_62 (by decide) (fun c_22 => ?_) (fun c_22 => ?_)
                · have hf := br_n c_22 hf
                  exact hJ_18 ()  _ _ _ hf hd (lv_sub hl [0, 1] rfl)
                · have hf := br_y c_22 hf
                  refine lv_iconst (v := 1) hc.x hc.b dX9_faultOf_65 (by decide) ?_
                  refine lv_goto (tgt := 70) hc.x hc.b dX9_faultOf_66 (by decide) ?_
                  exact hJ_7 1 _ _ _ hf hd (lv_sub hl [0, 1] rfl)
        refine lv_icmp_ne (tgt := 43) hc.x hc.b dX9_faultOf_31 (by decide) (fun c_23 => ?_) (fun c_23 => ?_)
        · have hf := br_n c_23 hf
          exact hJ_5 ()  _ _ _ hf hd (lv_sub hl [0, 1, 2, 3] rfl)
        · have hf := br_y c_23 hf
          refine lv_iload_n hc.x hc.b dX9_faultOf_34 rfl (lv_at hl 1 rfl) ?_
          refine lv_sipush (v := 223) hc.x hc.b dX9_faultOf_35 (by decide) ?_
          refine lv_icmp_le (tgt := 43) hc.x hc.b dX9_faultOf_38 (by decide) (fun c_24 => ?_) (fun c_24 => ?_)
          · have hf := br_y c_24 hf
            exact hJ_5 ()  _ _ _ hf hd (lv_sub hl [0, 1, 2, 3] rfl)
          · have hf := br_n c_24 hf
            exact hJ_3 ()  _ _ _ hf hd (lv_sub hl [] rfl)
      refine lv_icmp_ne (tgt := 28) hc.x hc.b dX9_faultOf_18 (by decide) (fun c_25 => ?_) (fun c_25 => ?_)
      · have hf := br_n c_25 hf
        exact hJ_4 ()  _ _ _ hf hd (lv_sub hl [0, 1, 2, 4] rfl)
      · have hf := br_y c_25 hf
        refine lv_iload_n hc.x hc.b dX9_faultOf_21 rfl (lv_at hl 1 rfl) ?_
        refine lv_sipush (v := 200) hc.x hc.b dX9_faultOf_22 (by decide) ?_
        refine lv_icmp_eq (tgt := 41) hc.x hc.b dX9_faultOf_25 (by decide) (fun c_26 => ?_) (fun c_26 => ?_)
        · have hf := br_y c_26 hf
          exact hJ_3 ()  _ _ _ hf hd (lv_sub hl [] rfl)
        · have hf := br_n c_26 hf
          exact hJ_4 ()  _ _ _ hf hd (lv_sub hl [0, 1, 2, 4] rfl)
    · have hf := br_y c_2 hf
      refine lv_iconst (v := 2) hc.x hc.b dX9_faultOf_13 (by decide) ?_
      cases hf
      exact r_iret hc hd hr dX9_faultOf_14
  · have hf := br_y c_1 hf
    refine lv_iconst (v := 1) hc.x hc.b dX9_faultOf_6 (by decide) ?_
    cases hf
    exact r_iret hc hd hr dX9_faultOf_7
theorem c_X9_faultOf (l : Launch) (D : va_G) (cs : Nat → ClassId) (B0 : Nat) (kt : (Nat → Nat) × (Nat → Nat)) (α : Nat → Nat → Nat) (Lv : Nat → Nat → Prop) (S : St) (g0 : Nat) (x1 : Int32) (x2 : Int32) (x3 : Int32) (x4 : Int32) (hcl : Cl Lv) (hL0 : Lv 28 g0) {o : Int32} (hf : f_X9_faultOf g0 x1 x2 x3 x4 S = some o) : Met l yX9_faultOf (wz yX9_faultOf cX9_faultOf 7 (some .int)) (Rm 0 0 0) (Pz D cs B0 kt α Lv S [.ref (α 28 g0), .int x1, .int x2, .int x3, .int x4]) (Qi D cs B0 α Lv o S) 0 0 (AB B0) := met_of (by decide) rfl hcl (Nat.le_of_ble_eq_true rfl) (fun p e s m below meth c hc hr hd ls hl => b_X9_faultOf hc hr hL0 hf hd hl)
theorem my_X9_faultOf : MyV yX9_faultOf "PumpCrossing$TextReader" cX9_faultOf 7 (some .int) 4 := ⟨tw_706, (in_sel 10 (by decide +kernel) (by decide +kernel)), tw_7, tw_707, by decide +kernel⟩
def f_X9_hasRoom (g0 : Nat) (S : St) : Option (Int32) := bv (fun (v_1 : Int32) => ck (v_1 = 0 ∨ v_1 = 1) (some v_1)) (fun J_2 => br (400 < ((gi S 28 g0 1) + 20)) (J_2 0) (J_2 1))
set_option maxRecDepth 100000 in
set_option maxHeartbeats 4000000 in
theorem b_X9_hasRoom (hc : Cx p s m args meth c cX9_hasRoom 1 "PumpCrossing$TextReader" D cs B0 kt Lv) (hr : meth.sig.returnType = some .boolean)  {o : Int32}  {S : St} {g0 : Nat} (hL0 : Lv 28 g0) {H : Heap} {locs : List Loc} {ls : Array Slot} (hf : f_X9_hasRoom g0 S = some o) (hd : Dy s D cs B0 α Lv S H locs) (hl : lv_has ls 1 [(0, .ref (α 28 g0))]) : W p l e (Rm 0 0 0) s m args below meth c H locs 0 0 (MQ below (Qi D cs B0 α Lv o S) args s 0 0 (AB B0)) (F0 m 0 ls []) := by
  unfold f_X9_hasRoom at hf
  refine lv_aload_n hc.x hc.b dX9_hasRoom_0 rfl (lv_at hl 0 rfl) ?_
  refine fg_28_1 hc hd hL0 tw_219 dX9_hasRoom_1 ?_
  refine lv_bipush (v := 20) hc.x hc.b dX9_hasRoom_4 (by decide) ?_
  refine lv_iadd hc.x hc.b dX9_hasRoom_6 ?_
  refine lv_sipush (v := 400) hc.x hc.b dX9_hasRoom_7 (by decide) ?_
  refine jn_s (P := fun J_2 => ∀ (v_1 : Int32) (H : Heap) (locs : List Loc) (ls : Array Slot), J_2 v_1 = some o → Dy s D cs B0 α Lv S H locs → lv_has ls 1 [] → W p l e (Rm 0 0 0) s m args below meth c H locs 0 0 (MQ below (Qi D cs B0 α Lv o S) args s 0 0 (AB B0)) (F0 m 18 ls [.int v_1])) hf ?_ (fun J_2 hJ_2 hf => ?_)
  · intro v_1 H locs ls hf hd hl
    obtain ⟨hz, hf⟩ := ck_s hf
    cases hf
    exact r_zret hc hd hr hz dX9_hasRoom_18
  refine lv_icmp_gt (tgt := 17) hc.x hc.b dX9_hasRoom_10 (by decide) (fun c_3 => ?_) (fun c_3 => ?_)
  · have hf := br_y c_3 hf
    refine lv_iconst (v := 0) hc.x hc.b dX9_hasRoom_17 (by decide) ?_
    exact hJ_2 0 _ _ _ hf hd (lv_sub hl [] rfl)
  · have hf := br_n c_3 hf
    refine lv_iconst (v := 1) hc.x hc.b dX9_hasRoom_13 (by decide) ?_
    refine lv_goto (tgt := 18) hc.x hc.b dX9_hasRoom_14 (by decide) ?_
    exact hJ_2 1 _ _ _ hf hd (lv_sub hl [] rfl)
theorem c_X9_hasRoom (l : Launch) (D : va_G) (cs : Nat → ClassId) (B0 : Nat) (kt : (Nat → Nat) × (Nat → Nat)) (α : Nat → Nat → Nat) (Lv : Nat → Nat → Prop) (S : St) (g0 : Nat) (hcl : Cl Lv) (hL0 : Lv 28 g0) {o : Int32} (hf : f_X9_hasRoom g0 S = some o) : Met l yX9_hasRoom (wz yX9_hasRoom cX9_hasRoom 1 (some .boolean)) (Rm 0 0 0) (Pz D cs B0 kt α Lv S [.ref (α 28 g0)]) (Qi D cs B0 α Lv o S) 0 0 (AB B0) := met_of (by decide) rfl hcl (Nat.le_of_ble_eq_true rfl) (fun p e s m below meth c hc hr hd ls hl => b_X9_hasRoom hc hr hL0 hf hd hl)
theorem my_X9_hasRoom : MyV yX9_hasRoom "PumpCrossing$TextReader" cX9_hasRoom 1 (some .boolean) 0 := ⟨tw_383, tw_384, tw_7, tw_385, by decide +kernel⟩
def f_X9_isDigit (x0 : Int32) (S : St) : Option (Int32) := bv (fun (v_1 : Int32) => ck (v_1 = 0 ∨ v_1 = 1) (some v_1)) (fun J_2 => bv (fun (_u : Unit) => J_2 0) (fun J_3 => br (x0 < 48) (J_3 ()) (br (57 < x0) (J_3 ()) (J_2 1))))
set_option maxRecDepth 100000 in
set_option maxHeartbeats 4000000 in
theorem b_X9_isDigit (hc : Cx p s m args meth c cX9_isDigit 1 "PumpCrossing$TextReader" D cs B0 kt Lv) (hr : meth.sig.returnType = some .boolean)  {o : Int32}  {S : St} {x0 : Int32}  {H : Heap} {locs : List Loc} {ls : Array Slot} (hf : f_X9_isDigit x0 S = some o) (hd : Dy s D cs B0 α Lv S H locs) (hl : lv_has ls 1 [(0, .int x0)]) : W p l e (Rm 0 0 0) s m args below meth c H locs 0 0 (MQ below (Qi D cs B0 α Lv o S) args s 0 0 (AB B0)) (F0 m 0 ls []) := by
  unfold f_X9_isDigit at hf
  refine lv_iload_n hc.x hc.b dX9_isDigit_0 rfl (lv_at hl 0 rfl) ?_
  refine lv_bipush (v := 48) hc.x hc.b dX9_isDigit_1 (by decide) ?_
  refine jn_s (P := fun J_2 => ∀ (v_1 : Int32) (H : Heap) (locs : List Loc) (ls : Array Slot), J_2 v_1 = some o → Dy s D cs B0 α Lv S H locs → lv_has ls 1 [] → W p l e (Rm 0 0 0) s m args below meth c H locs 0 0 (MQ below (Qi D cs B0 α Lv o S) args s 0 0 (AB B0)) (F0 m 17 ls [.int v_1])) hf ?_ (fun J_2 hJ_2 hf => ?_)
  · intro v_1 H locs ls hf hd hl
    obtain ⟨hz, hf⟩ := ck_s hf
    cases hf
    exact r_zret hc hd hr hz dX9_isDigit_17
  refine jn_s (P := fun J_3 => ∀ (_u : Unit) (H : Heap) (locs : List Loc) (ls : Array Slot), J_3 _u = some o → Dy s D cs B0 α Lv S H locs → lv_has ls 1 [] → W p l e (Rm 0 0 0) s m args below meth c H locs 0 0 (MQ below (Qi D cs B0 α Lv o S) args s 0 0 (AB B0)) (F0 m 16 ls [])) hf ?_ (fun J_3 hJ_3 hf => ?_)
  · intro _u H locs ls hf hd hl
    refine lv_iconst (v := 0) hc.x hc.b dX9_isDigit_16 (by decide) ?_
    exact hJ_2 0 _ _ _ hf hd (lv_sub hl [] rfl)
  refine lv_icmp_lt (tgt := 16) hc.x hc.b dX9_isDigit_3 (by decide) (fun c_4 => ?_) (fun c_4 => ?_)
  · have hf := br_y c_4 hf
    exact hJ_3 ()  _ _ _ hf hd (lv_sub hl [] rfl)
  · have hf := br_n c_4 hf
    refine lv_iload_n hc.x hc.b dX9_isDigit_6 rfl (lv_at hl 0 rfl) ?_
    refine lv_bipush (v := 57) hc.x hc.b dX9_isDigit_7 (by decide) ?_
    refine lv_icmp_gt (tgt := 16) hc.x hc.b dX9_isDigit_9 (by decide) (fun c_5 => ?_) (fun c_5 => ?_)
    · have hf := br_y c_5 hf
      exact hJ_3 ()  _ _ _ hf hd (lv_sub hl [] rfl)
    · have hf := br_n c_5 hf
      refine lv_iconst (v := 1) hc.x hc.b dX9_isDigit_12 (by decide) ?_
      refine lv_goto (tgt := 17) hc.x hc.b dX9_isDigit_13 (by decide) ?_
      exact hJ_2 1 _ _ _ hf hd (lv_sub hl [] rfl)
theorem c_X9_isDigit (l : Launch) (D : va_G) (cs : Nat → ClassId) (B0 : Nat) (kt : (Nat → Nat) × (Nat → Nat)) (α : Nat → Nat → Nat) (Lv : Nat → Nat → Prop) (S : St) (x0 : Int32) (hcl : Cl Lv)  {o : Int32} (hf : f_X9_isDigit x0 S = some o) : Met l yX9_isDigit (wz yX9_isDigit cX9_isDigit 1 (some .boolean)) (Rm 0 0 0) (Pz D cs B0 kt α Lv S [.int x0]) (Qi D cs B0 α Lv o S) 0 0 (AB B0) := met_of (by decide) rfl hcl (Nat.le_of_ble_eq_true rfl) (fun p e s m below meth c hc hr hd ls hl => b_X9_isDigit hc hr  hf hd hl)
theorem my_X9_isDigit : MyS yX9_isDigit cX9_isDigit 1 (some .boolean) 1 := ⟨tw_680, tw_7, tw_681, by decide +kernel⟩
def f_X9_isLetter (x0 : Int32) (S : St) : Option (Int32) := bv (fun (v_1 : Int32) => ck (v_1 = 0 ∨ v_1 = 1) (some v_1)) (fun J_2 => bv (fun (_u : Unit) => J_2 0) (fun J_3 => br (x0 < 97) (J_3 ()) (br (122 < x0) (J_3 ()) (J_2 1))))
set_option maxRecDepth 100000 in
set_option maxHeartbeats 4000000 in
theorem b_X9_isLetter (hc : Cx p s m args meth c cX9_isLetter 1 "PumpCrossing$TextReader" D cs B0 kt Lv) (hr : meth.sig.returnType = some .boolean)  {o : Int32}  {S : St} {x0 : Int32}  {H : Heap} {locs : List Loc} {ls : Array Slot} (hf : f_X9_isLetter x0 S = some o) (hd : Dy s D cs B0 α Lv S H locs) (hl : lv_has ls 1 [(0, .int x0)]) : W p l e (Rm 0 0 0) s m args below meth c H locs 0 0 (MQ below (Qi D cs B0 α Lv o S) args s 0 0 (AB B0)) (F0 m 0 ls []) := by
  unfold f_X9_isLetter at hf
  refine lv_iload_n hc.x hc.b dX9_isLetter_0 rfl (lv_at hl 0 rfl) ?_
  refine lv_bipush (v := 97) hc.x hc.b dX9_isLetter_1 (by decide) ?_
  refine jn_s (P := fun J_2 => ∀ (v_1 : Int32) (H : Heap) (locs : List Loc) (ls : Array Slot), J_2 v_1 = some o → Dy s D cs B0 α Lv S H locs → lv_has ls 1 [] → W p l e (Rm 0 0 0) s m args below meth c H locs 0 0 (MQ below (Qi D cs B0 α Lv o S) args s 0 0 (AB B0)) (F0 m 17 ls [.int v_1])) hf ?_ (fun J_2 hJ_2 hf => ?_)
  · intro v_1 H locs ls hf hd hl
    obtain ⟨hz, hf⟩ := ck_s hf
    cases hf
    exact r_zret hc hd hr hz dX9_isLetter_17
  refine jn_s (P := fun J_3 => ∀ (_u : Unit) (H : Heap) (locs : List Loc) (ls : Array Slot), J_3 _u = some o → Dy s D cs B0 α Lv S H locs → lv_has ls 1 [] → W p l e (Rm 0 0 0) s m args below meth c H locs 0 0 (MQ below (Qi D cs B0 α Lv o S) args s 0 0 (AB B0)) (F0 m 16 ls [])) hf ?_ (fun J_3 hJ_3 hf => ?_)
  · intro _u H locs ls hf hd hl
    refine lv_iconst (v := 0) hc.x hc.b dX9_isLetter_16 (by decide) ?_
    exact hJ_2 0 _ _ _ hf hd (lv_sub hl [] rfl)
  refine lv_icmp_lt (tgt := 16) hc.x hc.b dX9_isLetter_3 (by decide) (fun c_4 => ?_) (fun c_4 => ?_)
  · have hf := br_y c_4 hf
    exact hJ_3 ()  _ _ _ hf hd (lv_sub hl [] rfl)
  · have hf := br_n c_4 hf
    refine lv_iload_n hc.x hc.b dX9_isLetter_6 rfl (lv_at hl 0 rfl) ?_
    refine lv_bipush (v := 122) hc.x hc.b dX9_isLetter_7 (by decide) ?_
    refine lv_icmp_gt (tgt := 16) hc.x hc.b dX9_isLetter_9 (by decide) (fun c_5 => ?_) (fun c_5 => ?_)
    · have hf := br_y c_5 hf
      exact hJ_3 ()  _ _ _ hf hd (lv_sub hl [] rfl)
    · have hf := br_n c_5 hf
      refine lv_iconst (v := 1) hc.x hc.b dX9_isLetter_12 (by decide) ?_
      refine lv_goto (tgt := 17) hc.x hc.b dX9_isLetter_13 (by decide) ?_
      exact hJ_2 1 _ _ _ hf hd (lv_sub hl [] rfl)
theorem c_X9_isLetter (l : Launch) (D : va_G) (cs : Nat → ClassId) (B0 : Nat) (kt : (Nat → Nat) × (Nat → Nat)) (α : Nat → Nat → Nat) (Lv : Nat → Nat → Prop) (S : St) (x0 : Int32) (hcl : Cl Lv)  {o : Int32} (hf : f_X9_isLetter x0 S = some o) : Met l yX9_isLetter (wz yX9_isLetter cX9_isLetter 1 (some .boolean)) (Rm 0 0 0) (Pz D cs B0 kt α Lv S [.int x0]) (Qi D cs B0 α Lv o S) 0 0 (AB B0) := met_of (by decide) rfl hcl (Nat.le_of_ble_eq_true rfl) (fun p e s m below meth c hc hr hd ls hl => b_X9_isLetter hc hr  hf hd hl)
theorem my_X9_isLetter : MyS yX9_isLetter cX9_isLetter 1 (some .boolean) 1 := ⟨tw_624, tw_7, tw_625, by decide +kernel⟩
def f_X9_keepToken (g0 : Nat) (x1 : Int32) (x2 : Int32) (S : St) : Option (St) := bv (fun  (S_1 : St) => bv (fun (v_3 : Int32) (S_4 : St) => bv (si S_4 28 g0 10 v_3) (fun S_6 => bv (fun  (S_7 : St) => some S_7) (fun J_8 => br (400 ≤ (gi S_6 28 g0 3)) (J_8 S_6) (ck (inb (gi S_6 28 g0 3) 400 = true) (bv (si S_6 30 g0 (nn (gi S_6 28 g0 3)) x1) (fun S_11 => bv (si S_11 28 g0 3 ((gi S_11 28 g0 3) + 1)) (fun S_12 => J_8 S_12))))))) (fun J_5 => br (x1 = 109) (J_5 ((gi S_1 28 g0 10) + 1) S_1) (J_5 0 S_1))) (fun J_2 => br (x2 = 0) (bv (fun  (S_15 : St) => bv (si S_15 28 g0 5 ((gi S_15 28 g0 5) + 1)) (fun S_17 => J_2 S_17)) (fun J_16 => br (12 ≤ (gi S 28 g0 5)) (J_16 S) (ck (inb (gi S 28 g0 5) 12 = true) (bv (si S 31 g0 (nn (gi S 28 g0 5)) (gi S 28 g0 3)) (fun S_20 => J_16 S_20))))) (J_2 S))
set_option maxRecDepth 100000 in
set_option maxHeartbeats 4000000 in
theorem b_X9_keepToken (hc : Cx p s m args meth c cX9_keepToken 3 "PumpCrossing$TextReader" D cs B0 kt Lv) (hr : meth.sig.returnType = none)  {o : St}  {S : St} {g0 : Nat} {x1 : Int32} {x2 : Int32} (hL0 : Lv 28 g0) {H : Heap} {locs : List Loc} {ls : Array Slot} (hf : f_X9_keepToken g0 x1 x2 S = some o) (hd : Dy s D cs B0 α Lv S H locs) (hl : lv_has ls 3 [(0, .ref (α 28 g0)), (1, .int x1), (2, .int x2)]) : W p l e (Rm 0 0 0) s m args below meth c H locs 0 0 (MQ below (Qv D cs B0 α Lv o) args s 0 0 (AB B0)) (F0 m 0 ls []) := by
  unfold f_X9_keepToken at hf
  refine lv_iload_n hc.x hc.b dX9_keepToken_0 rfl (lv_at hl 2 rfl) ?_
  refine jn_s (P := fun J_2 => ∀  (S_1 : St) (H : Heap) (locs : List Loc) (ls : Array Slot), J_2 S_1 = some o → Dy s D cs B0 α Lv S_1 H locs → lv_has ls 3 [(0, .ref (α 28 g0)), (1, .int x1)] → W p l e (Rm 0 0 0) s m args below meth c H locs 0 0 (MQ below (Qv D cs B0 α Lv o) args s 0 0 (AB B0)) (F0 m 36 ls [])) hf ?_ (fun J_2 hJ_2 hf => ?_)
  · intro S_1 H locs ls hf hd hl
    refine lv_aload_n hc.x hc.b dX9_keepToken_36 rfl (lv_at hl 0 rfl) ?_
    refine lv_iload_n hc.x hc.b dX9_keepToken_37 rfl (lv_at hl 1 rfl) ?_
    refine lv_bipush (v := 109) hc.x hc.b dX9_keepToken_38 (by decide) ?_
    refine jn_s (P := fun J_5 => ∀ (v_3 : Int32) (S_4 : St) (H : Heap) (locs : List Loc) (ls : Array Slot), J_5 v_3 S_4 = some o → Dy s D cs B0 α Lv S_4 H locs → lv_has ls 3 [(0, .ref (α 28 g0)), (1, .int x1)] → W p l e (Rm 0 0 0) s m args below meth c H locs 0 0 (MQ below (Qv D cs B0 α Lv o) args s 0 0 (AB B0)) (F0 m 53 ls [.int v_3, .ref (α 28 g0)])) hf ?_ (fun J_5 hJ_5 hf => ?_)
    · intro v_3 S_4 H locs ls hf hd hl
      refine fp_28_10 hc hd hL0 tw_237 dX9_keepToken_53 (fun H locs hd => ?_)
      obtain ⟨S_6, hd, hf⟩ := nmD hd hf
      refine lv_aload_n hc.x hc.b dX9_keepToken_56 rfl (lv_at hl 0 rfl) ?_
      refine fg_28_3 hc hd hL0 tw_226 dX9_keepToken_57 ?_
      refine lv_sipush (v := 400) hc.x hc.b dX9_keepToken_60 (by decide) ?_
      refine jn_s (P := fun J_8 => ∀  (S_7 : St) (H : Heap) (locs : List Loc) (ls : Array Slot), J_8 S_7 = some o → Dy s D cs B0 α Lv S_7 H locs → lv_has ls 3 [] → W p l e (Rm 0 0 0) s m args below meth c H locs 0 0 (MQ below (Qv D cs B0 α Lv o) args s 0 0 (AB B0)) (F0 m 86 ls [])) hf ?_ (fun J_8 hJ_8 hf => ?_)
      · intro S_7 H locs ls hf hd hl
        cases hf
        exact r_vret hc hd hr dX9_keepToken_86
      refine lv_icmp_ge (tgt := 86) hc.x hc.b dX9_keepToken_63 (by decide) (fun c_9 => ?_) (fun c_9 => ?_)
      · have hf := br_y c_9 hf
        exact hJ_8 S_6 _ _ _ hf hd (lv_sub hl [] rfl)
      · have hf := br_n c_9 hf
        refine lv_aload_n hc.x hc.b dX9_keepToken_66 rfl (lv_at hl 0 rfl) ?_
        refine fg_28_2 hc hd hL0 tw_222 dX9_keepToken_67 ?_
        refine lv_aload_n hc.x hc.b dX9_keepToken_70 rfl (lv_at hl 0 rfl) ?_
        refine fg_28_3 hc hd hL0 tw_226 dX9_keepToken_71 ?_
        refine lv_iload_n hc.x hc.b dX9_keepToken_74 rfl (lv_at hl 1 rfl) ?_
        obtain ⟨hi_10, hf⟩ := ck_s hf
        refine r_iast hc hd (cl_28_tokens hc.cl hL0) (fun _ => rfl) hi_10 dX9_keepToken_75 (fun H locs hd => ?_)
        obtain ⟨S_11, hd, hf⟩ := nmD hd hf
        refine lv_aload_n hc.x hc.b dX9_keepToken_76 rfl (lv_at hl 0 rfl) ?_
        refine lv_dup hc.x hc.b dX9_keepToken_77 rfl ?_
        refine fg_28_3 hc hd hL0 tw_226 dX9_keepToken_78 ?_
        refine lv_iconst (v := 1) hc.x hc.b dX9_keepToken_81 (by decide) ?_
        refine lv_iadd hc.x hc.b dX9_keepToken_82 ?_
        refine fp_28_3 hc hd hL0 tw_226 dX9_keepToken_83 (fun H locs hd => ?_)
        obtain ⟨S_12, hd, hf⟩ := nmD hd hf
        exact hJ_8 S_12 _ _ _ hf hd (lv_sub hl [] rfl)
    refine lv_icmp_ne (tgt := 52) hc.x hc.b dX9_keepToken_40 (by decide) (fun c_13 => ?_) (fun c_13 => ?_)
    · have hf := br_n c_13 hf
      refine lv_iconst (v := 0) hc.x hc.b dX9_keepToken_52 (by decide) ?_
      exact hJ_5 0 S_1 _ _ _ hf hd (lv_sub hl [0, 1] rfl)
    · have hf := br_y c_13 hf
      refine lv_aload_n hc.x hc.b dX9_keepToken_43 rfl (lv_at hl 0 rfl) ?_
      refine fg_28_10 hc hd hL0 tw_237 dX9_keepToken_44 ?_
      refine lv_iconst (v := 1) hc.x hc.b dX9_keepToken_47 (by decide) ?_
      refine lv_iadd hc.x hc.b dX9_keepToken_48 ?_
      refine lv_goto (tgt := 53) hc.x hc.b dX9_keepToken_49 (by decide) ?_
      exact hJ_5 ((gi S_1 28 g0 10) + 1) S_1 _ _ _ hf hd (lv_sub hl [0, 1] rfl)
  refine lv_if_ne (tgt := 36) hc.x hc.b dX9_keepToken_1 (by decide) (fun c_14 => ?_) (fun c_14 => ?_)
  · have hf := br_n c_14 hf
    exact hJ_2 S _ _ _ hf hd (lv_sub hl [0, 1] rfl)
  · have hf := br_y c_14 hf
    refine lv_aload_n hc.x hc.b dX9_keepToken_4 rfl (lv_at hl 0 rfl) ?_
    refine fg_28_5 hc hd hL0 tw_230 dX9_keepToken_5 ?_
    refine lv_bipush (v := 12) hc.x hc.b dX9_keepToken_8 (by decide) ?_
    refine jn_s (P := fun J_16 => ∀  (S_15 : St) (H : Heap) (locs : List Loc) (ls : Array Slot), J_16 S_15 = some o → Dy s D cs B0 α Lv S_15 H locs → lv_has ls 3 [(0, .ref (α 28 g0)), (1, .int x1)] → W p l e (Rm 0 0 0) s m args below meth c H locs 0 0 (MQ below (Qv D cs B0 α Lv o) args s 0 0 (AB B0)) (F0 m 26 ls [])) hf ?_ (fun J_16 hJ_16 hf => ?_)
    · intro S_15 H locs ls hf hd hl
      refine lv_aload_n hc.x hc.b dX9_keepToken_26 rfl (lv_at hl 0 rfl) ?_
      refine lv_dup hc.x hc.b dX9_keepToken_27 rfl ?_
      refine fg_28_5 hc hd hL0 tw_230 dX9_keepToken_28 ?_
      refine lv_iconst (v := 1) hc.x hc.b dX9_keepToken_31 (by decide) ?_
      refine lv_iadd hc.x hc.b dX9_keepToken_32 ?_
      refine fp_28_5 hc hd hL0 tw_230 dX9_keepToken_33 (fun H locs hd => ?_)
      obtain ⟨S_17, hd, hf⟩ := nmD hd hf
      exact hJ_2 S_17 _ _ _ hf hd (lv_sub hl [0, 1] rfl)
    refine lv_icmp_ge (tgt := 26) hc.x hc.b dX9_keepToken_10 (by decide) (fun c_18 => ?_) (fun c_18 => ?_)
    · have hf := br_y c_18 hf
      exact hJ_16 S _ _ _ hf hd (lv_sub hl [0, 1] rfl)
    · have hf := br_n c_18 hf
      refine lv_aload_n hc.x hc.b dX9_keepToken_13 rfl (lv_at hl 0 rfl) ?_
      refine fg_28_4 hc hd hL0 tw_227 dX9_keepToken_14 ?_
      refine lv_aload_n hc.x hc.b dX9_keepToken_17 rfl (lv_at hl 0 rfl) ?_
      refine fg_28_5 hc hd hL0 tw_230 dX9_keepToken_18 ?_
      refine lv_aload_n hc.x hc.b dX9_keepToken_21 rfl (lv_at hl 0 rfl) ?_
      refine fg_28_3 hc hd hL0 tw_226 dX9_keepToken_22 ?_
      obtain ⟨hi_19, hf⟩ := ck_s hf
      refine r_iast hc hd (cl_28_starts hc.cl hL0) (fun _ => rfl) hi_19 dX9_keepToken_25 (fun H locs hd => ?_)
      obtain ⟨S_20, hd, hf⟩ := nmD hd hf
      exact hJ_16 S_20 _ _ _ hf hd (lv_sub hl [0, 1] rfl)
theorem c_X9_keepToken (l : Launch) (D : va_G) (cs : Nat → ClassId) (B0 : Nat) (kt : (Nat → Nat) × (Nat → Nat)) (α : Nat → Nat → Nat) (Lv : Nat → Nat → Prop) (S : St) (g0 : Nat) (x1 : Int32) (x2 : Int32) (hcl : Cl Lv) (hL0 : Lv 28 g0) {o : St} (hf : f_X9_keepToken g0 x1 x2 S = some o) : Met l yX9_keepToken (wz yX9_keepToken cX9_keepToken 3 none) (Rm 0 0 0) (Pz D cs B0 kt α Lv S [.ref (α 28 g0), .int x1, .int x2]) (Qv D cs B0 α Lv o) 0 0 (AB B0) := met_of (by decide) rfl hcl (Nat.le_of_ble_eq_true rfl) (fun p e s m below meth c hc hr hd ls hl => b_X9_keepToken hc hr hL0 hf hd hl)
theorem my_X9_keepToken : MyV yX9_keepToken "PumpCrossing$TextReader" cX9_keepToken 3 none 2 := ⟨tw_710, (in_sel 11 (by decide +kernel) (by decide +kernel)), tw_7, tw_711, by decide +kernel⟩
def f_X9_nextToken_8 (g0 : Nat) (x1 : Int32) (K : St → Option (Int32 × St)) : Nat → St → Option (Int32 × St)
  | 0, _ => none
  | n + 1, S => br (x1 ≤ (gi S 28 g0 8)) (K S) (ck (inb (gi S 28 g0 8) 400 = true) (bv (fun  (S_4 : St) => bv (si S_4 28 g0 8 ((gi S_4 28 g0 8) + 1)) (fun S_6 => f_X9_nextToken_8 g0 x1 K n S_6)) (fun J_5 => br ((gi S 29 g0 (nn (gi S 28 g0 8))) = 32) (J_5 S) (ck (inb (gi S 28 g0 8) 400 = true) (br ((gi S 29 g0 (nn (gi S 28 g0 8))) = 10) (J_5 S) (K S))))))
def f_X9_nextToken_140 (g0 : Nat) (x1 : Int32) (K : St → Option (Int32 × St)) : Nat → St → Option (Int32 × St)
  | 0, _ => none
  | n + 1, S => br (x1 ≤ (gi S 28 g0 9)) (K S) (ck (inb (gi S 28 g0 9) 400 = true) (on (f_X9_isDigit (gi S 29 g0 (nn (gi S 28 g0 9))) S) (fun r_37 => br (r_37 = 0) (K S) (bv (si S 28 g0 9 ((gi S 28 g0 9) + 1)) (fun S_39 => f_X9_nextToken_140 g0 x1 K n S_39)))))
def f_X9_nextToken_92 (g0 : Nat) (x1 : Int32) (K : St → Option (Int32 × St)) : Nat → St → Option (Int32 × St)
  | 0, _ => none
  | n + 1, S => br (x1 ≤ (gi S 28 g0 9)) (K S) (ck (inb (gi S 28 g0 9) 400 = true) (on (f_X9_isLetter (gi S 29 g0 (nn (gi S 28 g0 9))) S) (fun r_46 => br (r_46 = 0) (K S) (bv (si S 28 g0 9 ((gi S 28 g0 9) + 1)) (fun S_48 => f_X9_nextToken_92 g0 x1 K n S_48)))))
def f_X9_nextToken (g0 : Nat) (x1 : Int32) (S : St) : Option (Int32 × St) := bv (si S 28 g0 8 (gi S 28 g0 9)) (fun S_1 => f_X9_nextToken_8 g0 x1 (fun  (S_10 : St) => bv (si S_10 28 g0 9 (gi S_10 28 g0 8)) (fun S_11 => br ((gi S_11 28 g0 8) < x1) (ck (inb (gi S_11 28 g0 8) 400 = true) (bv (gi S_11 29 g0 (nn (gi S_11 28 g0 8))) (fun x2_14 => on (f_X9_isLetter x2_14 S_11) (fun r_16 => br (r_16 = 0) (on (f_X9_isDigit x2_14 S_11) (fun r_19 => br (r_19 = 0) (bv (si S_11 28 g0 9 ((gi S_11 28 g0 9) + 1)) (fun S_21 => bv (fun (v_22 : Int32) (S_23 : St) => some (v_22, S_23)) (fun J_24 => bv (fun  (S_25 : St) => J_24 x2_14 S_25) (fun J_26 => br (x2_14 = 59) (J_26 S_21) (on (f_X9_isPlusOrMinus x2_14 S_21) (fun r_29 => br (r_29 = 0) (on (f_X9_isRelation x2_14 S_21) (fun r_32 => br (r_32 = 0) (J_24 ((-2)) S_21) (J_26 S_21))) (J_26 S_21))))))) (f_X9_nextToken_140 g0 x1 (fun  (S_40 : St) => on (f_X9_codeOfNumber g0 S_40) (fun r_42 => some (r_42, S_40))) FU  S_11))) (f_X9_nextToken_92 g0 x1 (fun  (S_49 : St) => on (f_X9_codeOfWord g0 S_49) (fun r_51 => some (r_51, S_49))) FU  S_11))))) (some (0, S_11)))) FU  S_1)
set_option maxRecDepth 100000 in
set_option maxHeartbeats 4000000 in
theorem w_X9_nextToken_8 (hc : Cx p s m args meth c cX9_nextToken 3 "PumpCrossing$TextReader" D cs B0 kt Lv) (hr : meth.sig.returnType = some .int) {o : Int32 × St}  {g0 : Nat} {x1 : Int32} {K : St → Option (Int32 × St)} (hL0 : Lv 28 g0) (hK : ∀  (S : St) (H : Heap) (locs : List Loc) (ls : Array Slot), K S = some o → Dy s D cs B0 α Lv S H locs → lv_has ls 3 [(0, .ref (α 28 g0)), (1, .int x1)] → W p l e (Rm 5 0 0) s m args below meth c H locs 0 0 (MQ below (Qi D cs B0 α Lv o.1 o.2) args s 0 0 (AB B0)) (F0 m 57 ls [])) : ∀ (n : Nat)  (S : St) (H : Heap) (locs : List Loc) (ls : Array Slot), f_X9_nextToken_8 g0 x1 K n S = some o → Dy s D cs B0 α Lv S H locs → lv_has ls 3 [(0, .ref (α 28 g0)), (1, .int x1)] → W p l e (Rm 5 0 0) s m args below meth c H locs 0 0 (MQ below (Qi D cs B0 α Lv o.1 o.2) args s 0 0 (AB B0)) (F0 m 8 ls []) := by
  intro n
  induction n with
  | zero =>
    intro S H locs ls hf
    rw [f_X9_nextToken_8] at hf
    cases hf
  | succ n ih =>
    intro S H locs ls hf hd hl
    rw [f_X9_nextToken_8] at hf
    refine lv_aload_n hc.x hc.b dX9_nextToken_8 rfl (lv_at hl 0 rfl) ?_
    refine fg_28_8 hc hd hL0 tw_235 dX9_nextToken_9 ?_
    refine lv_iload_n hc.x hc.b dX9_nextToken_12 rfl (lv_at hl 1 rfl) ?_
    refine lv_icmp_ge (tgt := 57) hc.x hc.b dX9_nextToken_13 (by decide) (fun c_2 => ?_) (fun c_2 => ?_)
    · have hf := br_y c_2 hf
      exact hK S _ _ _ hf hd (lv_sub hl [0, 1] rfl)
    · have hf := br_n c_2 hf
      refine lv_aload_n hc.x hc.b dX9_nextToken_16 rfl (lv_at hl 0 rfl) ?_
      refine fg_28_0 hc hd hL0 tw_218 dX9_nextToken_17 ?_
      refine lv_aload_n hc.x hc.b dX9_nextToken_20 rfl (lv_at hl 0 rfl) ?_
      refine fg_28_8 hc hd hL0 tw_235 dX9_nextToken_21 ?_
      obtain ⟨hi_3, hf⟩ := ck_s hf
      refine r_bald hc hd (cl_28_tape hc.cl hL0) rfl hi_3 dX9_nextToken_24 ?_
      refine lv_bipush (v := 32) hc.x hc.b dX9_nextToken_25 (by decide) ?_
      refine jn_s (P := fun J_5 => ∀  (S_4 : St) (H : Heap) (locs : List Loc) (ls : Array Slot), J_5 S_4 = some o → Dy s D cs B0 α Lv S_4 H locs → lv_has ls 3 [(0, .ref (α 28 g0)), (1, .int x1)] → W p l e (Rm 5 0 0) s m args below meth c H locs 0 0 (MQ below (Qi D cs B0 α Lv o.1 o.2) args s 0 0 (AB B0)) (F0 m 44 ls [])) hf ?_ (fun J_5 hJ_5 hf => ?_)
      · intro S_4 H locs ls hf hd hl
        refine lv_aload_n hc.x hc.b dX9_nextToken_44 rfl (lv_at hl 0 rfl) ?_
        refine lv_dup hc.x hc.b dX9_nextToken_45 rfl ?_
        refine fg_28_8 hc hd hL0 tw_235 dX9_nextToken_46 ?_
        refine lv_iconst (v := 1) hc.x hc.b dX9_nextToken_49 (by decide) ?_
        refine lv_iadd hc.x hc.b dX9_nextToken_50 ?_
        refine fp_28_8 hc hd hL0 tw_235 dX9_nextToken_51 (fun H locs hd => ?_)
        obtain ⟨S_6, hd, hf⟩ := nmD hd hf
        refine lv_goto (tgt := 8) hc.x hc.b dX9_nextToken_54 (by decide) ?_
        exact ih S_6 _ _ _ hf hd (lv_sub hl [0, 1] rfl)
      refine lv_icmp_eq (tgt := 44) hc.x hc.b dX9_nextToken_27 (by decide) (fun c_7 => ?_) (fun c_7 => ?_)
      · have hf := br_y c_7 hf
        exact hJ_5 S _ _ _ hf hd (lv_sub hl [0, 1] rfl)
      · have hf := br_n c_7 hf
        refine lv_aload_n hc.x hc.b dX9_nextToken_30 rfl (lv_at hl 0 rfl) ?_
        refine fg_28_0 hc hd hL0 tw_218 dX9_nextToken_31 ?_
        refine lv_aload_n hc.x hc.b dX9_nextToken_34 rfl (lv_at hl 0 rfl) ?_
        refine fg_28_8 hc hd hL0 tw_235 dX9_nextToken_35 ?_
        obtain ⟨hi_8, hf⟩ := ck_s hf
        refine r_bald hc hd (cl_28_tape hc.cl hL0) rfl hi_8 dX9_nextToken_38 ?_
        refine lv_bipush (v := 10) hc.x hc.b dX9_nextToken_39 (by decide) ?_
        refine lv_icmp_ne (tgt := 57) hc.x hc.b dX9_nextToken_41 (by decide) (fun c_9 => ?_) (fun c_9 => ?_)
        · have hf := br_n c_9 hf
          exact hK S _ _ _ hf hd (lv_sub hl [0, 1] rfl)
        · have hf := br_y c_9 hf
          exact hJ_5 S _ _ _ hf hd (lv_sub hl [0, 1] rfl)
set_option maxRecDepth 100000 in
set_option maxHeartbeats 4000000 in
theorem w_X9_nextToken_140 (hc : Cx p s m args meth c cX9_nextToken 3 "PumpCrossing$TextReader" D cs B0 kt Lv) (hr : meth.sig.returnType = some .int) {o : Int32 × St}  {g0 : Nat} {x1 : Int32} {K : St → Option (Int32 × St)} (hL0 : Lv 28 g0) (hK : ∀  (S : St) (H : Heap) (locs : List Loc) (ls : Array Slot), K S = some o → Dy s D cs B0 α Lv S H locs → lv_has ls 3 [(0, .ref (α 28 g0))] → W p l e (Rm 5 0 0) s m args below meth c H locs 0 0 (MQ below (Qi D cs B0 α Lv o.1 o.2) args s 0 0 (AB B0)) (F0 m 176 ls [])) : ∀ (n : Nat)  (S : St) (H : Heap) (locs : List Loc) (ls : Array Slot), f_X9_nextToken_140 g0 x1 K n S = some o → Dy s D cs B0 α Lv S H locs → lv_has ls 3 [(0, .ref (α 28 g0)), (1, .int x1)] → W p l e (Rm 5 0 0) s m args below meth c H locs 0 0 (MQ below (Qi D cs B0 α Lv o.1 o.2) args s 0 0 (AB B0)) (F0 m 140 ls []) := by
  intro n
  induction n with
  | zero =>
    intro S H locs ls hf
    rw [f_X9_nextToken_140] at hf
    cases hf
  | succ n ih =>
    intro S H locs ls hf hd hl
    rw [f_X9_nextToken_140] at hf
    refine lv_aload_n hc.x hc.b dX9_nextToken_140 rfl (lv_at hl 0 rfl) ?_
    refine fg_28_9 hc hd hL0 tw_236 dX9_nextToken_141 ?_
    refine lv_iload_n hc.x hc.b dX9_nextToken_144 rfl (lv_at hl 1 rfl) ?_
    refine lv_icmp_ge (tgt := 176) hc.x hc.b dX9_nextToken_145 (by decide) (fun c_34 => ?_) (fun c_34 => ?_)
    · have hf := br_y c_34 hf
      exact hK S _ _ _ hf hd (lv_sub hl [0] rfl)
    · have hf := br_n c_34 hf
      refine lv_aload_n hc.x hc.b dX9_nextToken_148 rfl (lv_at hl 0 rfl) ?_
      refine fg_28_0 hc hd hL0 tw_218 dX9_nextToken_149 ?_
      refine lv_aload_n hc.x hc.b dX9_nextToken_152 rfl (lv_at hl 0 rfl) ?_
      refine fg_28_9 hc hd hL0 tw_236 dX9_nextToken_153 ?_
      obtain ⟨hi_35, hf⟩ := ck_s hf
      refine r_bald hc hd (cl_28_tape hc.cl hL0) rfl hi_35 dX9_nextToken_156 ?_
      obtain ⟨r_37, hq_36, hf⟩ := on_s hf
      refine k_i (k_runS hc hd my_X9_isDigit tw_679 (c_X9_isDigit l D cs B0 kt α Lv S (gi S 29 g0 (nn (gi S 28 g0 9))) hc.cl   hq_36) rfl rfl hl.1 (Nat.le_of_ble_eq_true rfl) ⟨Nat.le_of_ble_eq_true rfl, Nat.le_of_ble_eq_true rfl, Nat.zero_le _, Nat.zero_le _⟩ dX9_nextToken_157) hd (fun H locs hd => ?_)
      refine lv_if_eq (tgt := 176) hc.x hc.b dX9_nextToken_160 (by decide) (fun c_38 => ?_) (fun c_38 => ?_)
      · have hf := br_y c_38 hf
        exact hK S _ _ _ hf hd (lv_sub hl [0] rfl)
      · have hf := br_n c_38 hf
        refine lv_aload_n hc.x hc.b dX9_nextToken_163 rfl (lv_at hl 0 rfl) ?_
        refine lv_dup hc.x hc.b dX9_nextToken_164 rfl ?_
        refine fg_28_9 hc hd hL0 tw_236 dX9_nextToken_165 ?_
        refine lv_iconst (v := 1) hc.x hc.b dX9_nextToken_168 (by decide) ?_
        refine lv_iadd hc.x hc.b dX9_nextToken_169 ?_
        refine fp_28_9 hc hd hL0 tw_236 dX9_nextToken_170 (fun H locs hd => ?_)
        obtain ⟨S_39, hd, hf⟩ := nmD hd hf
        refine lv_goto (tgt := 140) hc.x hc.b dX9_nextToken_173 (by decide) ?_
        exact ih S_39 _ _ _ hf hd (lv_sub hl [0, 1] rfl)
set_option maxRecDepth 100000 in
set_option maxHeartbeats 4000000 in
theorem w_X9_nextToken_92 (hc : Cx p s m args meth c cX9_nextToken 3 "PumpCrossing$TextReader" D cs B0 kt Lv) (hr : meth.sig.returnType = some .int) {o : Int32 × St}  {g0 : Nat} {x1 : Int32} {K : St → Option (Int32 × St)} (hL0 : Lv 28 g0) (hK : ∀  (S : St) (H : Heap) (locs : List Loc) (ls : Array Slot), K S = some o → Dy s D cs B0 α Lv S H locs → lv_has ls 3 [(0, .ref (α 28 g0))] → W p l e (Rm 5 0 0) s m args below meth c H locs 0 0 (MQ below (Qi D cs B0 α Lv o.1 o.2) args s 0 0 (AB B0)) (F0 m 128 ls [])) : ∀ (n : Nat)  (S : St) (H : Heap) (locs : List Loc) (ls : Array Slot), f_X9_nextToken_92 g0 x1 K n S = some o → Dy s D cs B0 α Lv S H locs → lv_has ls 3 [(0, .ref (α 28 g0)), (1, .int x1)] → W p l e (Rm 5 0 0) s m args below meth c H locs 0 0 (MQ below (Qi D cs B0 α Lv o.1 o.2) args s 0 0 (AB B0)) (F0 m 92 ls []) := by
  intro n
  induction n with
  | zero =>
    intro S H locs ls hf
    rw [f_X9_nextToken_92] at hf
    cases hf
  | succ n ih =>
    intro S H locs ls hf hd hl
    rw [f_X9_nextToken_92] at hf
    refine lv_aload_n hc.x hc.b dX9_nextToken_92 rfl (lv_at hl 0 rfl) ?_
    refine fg_28_9 hc hd hL0 tw_236 dX9_nextToken_93 ?_
    refine lv_iload_n hc.x hc.b dX9_nextToken_96 rfl (lv_at hl 1 rfl) ?_
    refine lv_icmp_ge (tgt := 128) hc.x hc.b dX9_nextToken_97 (by decide) (fun c_43 => ?_) (fun c_43 => ?_)
    · have hf := br_y c_43 hf
      exact hK S _ _ _ hf hd (lv_sub hl [0] rfl)
    · have hf := br_n c_43 hf
      refine lv_aload_n hc.x hc.b dX9_nextToken_100 rfl (lv_at hl 0 rfl) ?_
      refine fg_28_0 hc hd hL0 tw_218 dX9_nextToken_101 ?_
      refine lv_aload_n hc.x hc.b dX9_nextToken_104 rfl (lv_at hl 0 rfl) ?_
      refine fg_28_9 hc hd hL0 tw_236 dX9_nextToken_105 ?_
      obtain ⟨hi_44, hf⟩ := ck_s hf
      refine r_bald hc hd (cl_28_tape hc.cl hL0) rfl hi_44 dX9_nextToken_108 ?_
      obtain ⟨r_46, hq_45, hf⟩ := on_s hf
      refine k_i (k_runS hc hd my_X9_isLetter tw_623 (c_X9_isLetter l D cs B0 kt α Lv S (gi S 29 g0 (nn (gi S 28 g0 9))) hc.cl   hq_45) rfl rfl hl.1 (Nat.le_of_ble_eq_true rfl) ⟨Nat.le_of_ble_eq_true rfl, Nat.le_of_ble_eq_true rfl, Nat.zero_le _, Nat.zero_le _⟩ dX9_nextToken_109) hd (fun H locs hd => ?_)
      refine lv_if_eq (tgt := 128) hc.x hc.b dX9_nextToken_112 (by decide) (fun c_47 => ?_) (fun c_47 => ?_)
      · have hf := br_y c_47 hf
        exact hK S _ _ _ hf hd (lv_sub hl [0] rfl)
      · have hf := br_n c_47 hf
        refine lv_aload_n hc.x hc.b dX9_nextToken_115 rfl (lv_at hl 0 rfl) ?_
        refine lv_dup hc.x hc.b dX9_nextToken_116 rfl ?_
        refine fg_28_9 hc hd hL0 tw_236 dX9_nextToken_117 ?_
        refine lv_iconst (v := 1) hc.x hc.b dX9_nextToken_120 (by decide) ?_
        refine lv_iadd hc.x hc.b dX9_nextToken_121 ?_
        refine fp_28_9 hc hd hL0 tw_236 dX9_nextToken_122 (fun H locs hd => ?_)
        obtain ⟨S_48, hd, hf⟩ := nmD hd hf
        refine lv_goto (tgt := 92) hc.x hc.b dX9_nextToken_125 (by decide) ?_
        exact ih S_48 _ _ _ hf hd (lv_sub hl [0, 1] rfl)
set_option maxRecDepth 100000 in
set_option maxHeartbeats 4000000 in
theorem b_X9_nextToken (hc : Cx p s m args meth c cX9_nextToken 3 "PumpCrossing$TextReader" D cs B0 kt Lv) (hr : meth.sig.returnType = some .int)  {o : Int32 × St}  {S : St} {g0 : Nat} {x1 : Int32} (hL0 : Lv 28 g0) {H : Heap} {locs : List Loc} {ls : Array Slot} (hf : f_X9_nextToken g0 x1 S = some o) (hd : Dy s D cs B0 α Lv S H locs) (hl : lv_has ls 3 [(0, .ref (α 28 g0)), (1, .int x1)]) : W p l e (Rm 5 0 0) s m args below meth c H locs 0 0 (MQ below (Qi D cs B0 α Lv o.1 o.2) args s 0 0 (AB B0)) (F0 m 0 ls []) := by
  unfold f_X9_nextToken at hf
  refine lv_aload_n hc.x hc.b dX9_nextToken_0 rfl (lv_at hl 0 rfl) ?_
  refine lv_aload_n hc.x hc.b dX9_nextToken_1 rfl (lv_at hl 0 rfl) ?_
  refine fg_28_9 hc hd hL0 tw_236 dX9_nextToken_2 ?_
  refine fp_28_8 hc hd hL0 tw_235 dX9_nextToken_5 (fun H locs hd => ?_)
  obtain ⟨S_1, hd, hf⟩ := nmD hd hf
  refine w_X9_nextToken_8 hc hr hL0 ?_ _ _ _ _ _ hf hd (lv_sub hl [0, 1] rfl)
  intro S_10 H locs ls hf hd hl
  refine lv_aload_n hc.x hc.b dX9_nextToken_57 rfl (lv_at hl 0 rfl) ?_
  refine lv_aload_n hc.x hc.b dX9_nextToken_58 rfl (lv_at hl 0 rfl) ?_
  refine fg_28_8 hc hd hL0 tw_235 dX9_nextToken_59 ?_
  refine fp_28_9 hc hd hL0 tw_236 dX9_nextToken_62 (fun H locs hd => ?_)
  obtain ⟨S_11, hd, hf⟩ := nmD hd hf
  refine lv_aload_n hc.x hc.b dX9_nextToken_65 rfl (lv_at hl 0 rfl) ?_
  refine fg_28_8 hc hd hL0 tw_235 dX9_nextToken_66 ?_
  refine lv_iload_n hc.x hc.b dX9_nextToken_69 rfl (lv_at hl 1 rfl) ?_
  refine lv_icmp_lt (tgt := 75) hc.x hc.b dX9_nextToken_70 (by decide) (fun c_12 => ?_) (fun c_12 => ?_)
  · have hf := br_y c_12 hf
    refine lv_aload_n hc.x hc.b dX9_nextToken_75 rfl (lv_at hl 0 rfl) ?_
    refine fg_28_0 hc hd hL0 tw_218 dX9_nextToken_76 ?_
    refine lv_aload_n hc.x hc.b dX9_nextToken_79 rfl (lv_at hl 0 rfl) ?_
    refine fg_28_8 hc hd hL0 tw_235 dX9_nextToken_80 ?_
    obtain ⟨hi_13, hf⟩ := ck_s hf
    refine r_bald hc hd (cl_28_tape hc.cl hL0) rfl hi_13 dX9_nextToken_83 ?_
    refine lv_topi (fun x2_14 ex2_14 => ?_)
    have hf := bv_n ex2_14 hf
    refine lv_istore_n (lv' := [(2, .int x2_14), (0, .ref (α 28 g0)), (1, .int x1)]) hc.x hc.b dX9_nextToken_84 rfl hl (by decide) rfl (fun ls hl => ?_)
    refine lv_iload_n hc.x hc.b dX9_nextToken_85 rfl (lv_at hl 0 rfl) ?_
    obtain ⟨r_16, hq_15, hf⟩ := on_s hf
    refine k_i (k_runS hc hd my_X9_isLetter tw_623 (c_X9_isLetter l D cs B0 kt α Lv S_11 x2_14 hc.cl   hq_15) rfl rfl hl.1 (Nat.le_of_ble_eq_true rfl) ⟨Nat.le_of_ble_eq_true rfl, Nat.le_of_ble_eq_true rfl, Nat.zero_le _, Nat.zero_le _⟩ dX9_nextToken_86) hd (fun H locs hd => ?_)
    refine lv_if_eq (tgt := 133) hc.x hc.b dX9_nextToken_89 (by decide) (fun c_17 => ?_) (fun c_17 => ?_)
    · have hf := br_y c_17 hf
      refine lv_iload_n hc.x hc.b dX9_nextToken_133 rfl (lv_at hl 0 rfl) ?_
      obtain ⟨r_19, hq_18, hf⟩ := on_s hf
      refine k_i (k_runS hc hd my_X9_isDigit tw_679 (c_X9_isDigit l D cs B0 kt α Lv S_11 x2_14 hc.cl   hq_18) rfl rfl hl.1 (Nat.le_of_ble_eq_true rfl) ⟨Nat.le_of_ble_eq_true rfl, Nat.le_of_ble_eq_true rfl, Nat.zero_le _, Nat.zero_le _⟩ dX9_nextToken_134) hd (fun H locs hd => ?_)
      refine lv_if_eq (tgt := 181) hc.x hc.b dX9_nextToken_137 (by decide) (fun c_20 => ?_) (fun c_20 => ?_)
      · have hf := br_y c_20 hf
        refine lv_aload_n hc.x hc.b dX9_nextToken_181 rfl (lv_at hl 1 rfl) ?_
        refine lv_dup hc.x hc.b dX9_nextToken_182 rfl ?_
        refine fg_28_9 hc hd hL0 tw_236 dX9_nextToken_183 ?_
        refine lv_iconst (v := 1) hc.x hc.b dX9_nextToken_186 (by decide) ?_
        refine lv_iadd hc.x hc.b dX9_nextToken_187 ?_
        refine fp_28_9 hc hd hL0 tw_236 dX9_nextToken_188 (fun H locs hd => ?_)
        obtain ⟨S_21, hd, hf⟩ := nmD hd hf
        refine lv_iload_n hc.x hc.b dX9_nextToken_191 rfl (lv_at hl 0 rfl) ?_
        refine lv_bipush (v := 59) hc.x hc.b dX9_nextToken_192 (by decide) ?_
        refine jn_s (P := fun J_24 => ∀ (v_22 : Int32) (S_23 : St) (H : Heap) (locs : List Loc) (ls : Array Slot), J_24 v_22 S_23 = some o → Dy s D cs B0 α Lv S_23 H locs → lv_has ls 3 [] → W p l e (Rm 5 0 0) s m args below meth c H locs 0 0 (MQ below (Qi D cs B0 α Lv o.1 o.2) args s 0 0 (AB B0)) (F0 m 217 ls [.int v_22])) hf ?_ (fun J_24 hJ_24 hf => ?_)
        · intro v_22 S_23 H locs ls hf hd hl
          cases hf
          exact r_iret hc hd hr dX9_nextToken_217
        refine jn_s (P := fun J_26 => ∀  (S_25 : St) (H : Heap) (locs : List Loc) (ls : Array Slot), J_26 S_25 = some o → Dy s D cs B0 α Lv S_25 H locs → lv_has ls 3 [(2, .int x2_14)] → W p l e (Rm 5 0 0) s m args below meth c H locs 0 0 (MQ below (Qi D cs B0 α Lv o.1 o.2) args s 0 0 (AB B0)) (F0 m 211 ls [])) hf ?_ (fun J_26 hJ_26 hf => ?_)
        · intro S_25 H locs ls hf hd hl
          refine lv_iload_n hc.x hc.b dX9_nextToken_211 rfl (lv_at hl 0 rfl) ?_
          refine lv_goto (tgt := 217) hc.x hc.b dX9_nextToken_212 (by decide) ?_
          exact hJ_24 x2_14 S_25 _ _ _ hf hd (lv_sub hl [] rfl)
        refine lv_icmp_eq (tgt := 211) hc.x hc.b dX9_nextToken_194 (by decide) (fun c_27 => ?_) (fun c_27 => ?_)
        · have hf := br_y c_27 hf
          exact hJ_26 S_21 _ _ _ hf hd (lv_sub hl [0] rfl)
        · have hf := br_n c_27 hf
          refine lv_iload_n hc.x hc.b dX9_nextToken_197 rfl (lv_at hl 0 rfl) ?_
          obtain ⟨r_29, hq_28, hf⟩ := on_s hf
          refine k_i (k_runS hc hd my_X9_isPlusOrMinus tw_686 (c_X9_isPlusOrMinus l D cs B0 kt α Lv S_21 x2_14 hc.cl   hq_28) rfl rfl hl.1 (Nat.le_of_ble_eq_true rfl) ⟨Nat.le_of_ble_eq_true rfl, Nat.le_of_ble_eq_true rfl, Nat.zero_le _, Nat.zero_le _⟩ dX9_nextToken_198) hd (fun H locs hd => ?_)
          refine lv_if_ne (tgt := 211) hc.x hc.b dX9_nextToken_201 (by decide) (fun c_30 => ?_) (fun c_30 => ?_)
          · have hf := br_n c_30 hf
            exact hJ_26 S_21 _ _ _ hf hd (lv_sub hl [0] rfl)
          · have hf := br_y c_30 hf
            refine lv_iload_n hc.x hc.b dX9_nextToken_204 rfl (lv_at hl 0 rfl) ?_
            obtain ⟨r_32, hq_31, hf⟩ := on_s hf
            refine k_i (k_runS hc hd my_X9_isRelation tw_689 (c_X9_isRelation l D cs B0 kt α Lv S_21 x2_14 hc.cl   hq_31) rfl rfl hl.1 (Nat.le_of_ble_eq_true rfl) ⟨Nat.le_of_ble_eq_true rfl, Nat.le_of_ble_eq_true rfl, Nat.zero_le _, Nat.zero_le _⟩ dX9_nextToken_205) hd (fun H locs hd => ?_)
            refine lv_if_eq (tgt := 215) hc.x hc.b dX9_nextToken_208 (by decide) (fun c_33 => ?_) (fun c_33 => ?_)
            · have hf := br_y c_33 hf
              refine lv_bipush (v := (-2)) hc.x hc.b dX9_nextToken_215 (by decide) ?_
              exact hJ_24 ((-2)) S_21 _ _ _ hf hd (lv_sub hl [] rfl)
            · have hf := br_n c_33 hf
              exact hJ_26 S_21 _ _ _ hf hd (lv_sub hl [0] rfl)
      · have hf := br_n c_20 hf
        refine w_X9_nextToken_140 hc hr hL0 ?_ _ _ _ _ _ hf hd (lv_sub hl [1, 2] rfl)
        intro S_40 H locs ls hf hd hl
        refine lv_aload_n hc.x hc.b dX9_nextToken_176 rfl (lv_at hl 0 rfl) ?_
        obtain ⟨r_42, hq_41, hf⟩ := on_s hf
        refine k_i (k_runV hc hd my_X9_codeOfNumber tw_682 hL0 rfl rfl rfl (c_X9_codeOfNumber l D cs B0 kt α Lv S_40 g0 hc.cl hL0  hq_41) rfl rfl hl.1 (Nat.le_of_ble_eq_true rfl) ⟨Nat.le_of_ble_eq_true rfl, Nat.le_of_ble_eq_true rfl, Nat.zero_le _, Nat.zero_le _⟩ dX9_nextToken_177) hd (fun H locs hd => ?_)
        cases hf
        exact r_iret hc hd hr dX9_nextToken_180
    · have hf := br_n c_17 hf
      refine w_X9_nextToken_92 hc hr hL0 ?_ _ _ _ _ _ hf hd (lv_sub hl [1, 2] rfl)
      intro S_49 H locs ls hf hd hl
      refine lv_aload_n hc.x hc.b dX9_nextToken_128 rfl (lv_at hl 0 rfl) ?_
      obtain ⟨r_51, hq_50, hf⟩ := on_s hf
      refine k_i (k_runV hc hd my_X9_codeOfWord tw_626 hL0 rfl rfl rfl (c_X9_codeOfWord l D cs B0 kt α Lv S_49 g0 hc.cl hL0  hq_50) rfl rfl hl.1 (Nat.le_of_ble_eq_true rfl) ⟨Nat.le_of_ble_eq_true rfl, Nat.le_of_ble_eq_true rfl, Nat.zero_le _, Nat.zero_le _⟩ dX9_nextToken_129) hd (fun H locs hd => ?_)
      cases hf
      exact r_iret hc hd hr dX9_nextToken_132
  · have hf := br_n c_12 hf
    refine lv_iconst (v := 0) hc.x hc.b dX9_nextToken_73 (by decide) ?_
    cases hf
    exact r_iret hc hd hr dX9_nextToken_74
theorem c_X9_nextToken (l : Launch) (D : va_G) (cs : Nat → ClassId) (B0 : Nat) (kt : (Nat → Nat) × (Nat → Nat)) (α : Nat → Nat → Nat) (Lv : Nat → Nat → Prop) (S : St) (g0 : Nat) (x1 : Int32) (hcl : Cl Lv) (hL0 : Lv 28 g0) {o : Int32 × St} (hf : f_X9_nextToken g0 x1 S = some o) : Met l yX9_nextToken (wz yX9_nextToken cX9_nextToken 3 (some .int)) (Rm 5 0 0) (Pz D cs B0 kt α Lv S [.ref (α 28 g0), .int x1]) (Qi D cs B0 α Lv o.1 o.2) 0 0 (AB B0) := met_of (by decide) rfl hcl (Nat.le_of_ble_eq_true rfl) (fun p e s m below meth c hc hr hd ls hl => b_X9_nextToken hc hr hL0 hf hd hl)
theorem my_X9_nextToken : MyV yX9_nextToken "PumpCrossing$TextReader" cX9_nextToken 3 (some .int) 1 := ⟨tw_621, (in_sel 7 (by decide +kernel) (by decide +kernel)), tw_7, tw_622, by decide +kernel⟩
def f_X9_read_40 (g0 : Nat) (x1 : Int32) (x2 : Int32) (K : St → Option (St)) : Nat → Int32 → Int32 → St → Option (St)
  | 0, _, _, _ => none
  | n + 1, x3, x4, S => br (400 < x4) (K S) (on2 (f_X9_nextToken g0 x1 S) (fun r_11 S_10 => bv (fun (v_12 : Int32) (S_13 : St) => on (f_X9_faultOf g0 r_11 x3 v_12 x2 S_13) (fun r_16 => bv (si S_13 28 g0 6 r_16) (fun S_17 => br ((gi S_17 28 g0 6) = 0) (br (r_11 = 0) (some S_17) (on (f_X9_keepToken g0 r_11 x3 S_17) (fun S_21 => bv (x4 + 1) (fun x4_22 => f_X9_read_40 g0 x1 x2 K n v_12 x4_22 S_21)))) (bv (si S_17 28 g0 7 (gi S_17 28 g0 8)) (fun S_23 => some S_23))))) (fun J_14 => br (x2 = 0) (on (f_X9_behindInLaw x3 r_11 S_10) (fun r_26 => J_14 r_26 S_10)) (on (f_X9_behindInRules x3 r_11 S_10) (fun r_28 => J_14 r_28 S_10)))))
def f_X9_read (g0 : Nat) (x1 : Int32) (x2 : Int32) (S : St) : Option (St) := bv (si S 28 g0 3 0) (fun S_1 => bv (si S_1 28 g0 5 0) (fun S_2 => bv (si S_2 28 g0 9 0) (fun S_3 => bv (si S_3 28 g0 10 0) (fun S_4 => bv (si S_4 28 g0 1 0) (fun S_5 => bv (si S_5 28 g0 6 0) (fun S_6 => bv (si S_6 28 g0 7 ((-1))) (fun S_7 => f_X9_read_40 g0 x1 x2 (fun  (S_29 : St) => some S_29) FU 0 0 S_7)))))))
set_option maxRecDepth 100000 in
set_option maxHeartbeats 4000000 in
theorem w_X9_read_40 (hc : Cx p s m args meth c cX9_read 7 "PumpCrossing$TextReader" D cs B0 kt Lv) (hr : meth.sig.returnType = none) {o : St}  {g0 : Nat} {x1 : Int32} {x2 : Int32} {K : St → Option (St)} (hL0 : Lv 28 g0) (hK : ∀  (S : St) (H : Heap) (locs : List Loc) (ls : Array Slot), K S = some o → Dy s D cs B0 α Lv S H locs → lv_has ls 7 [] → W p l e (Rm 6 0 0) s m args below meth c H locs 0 0 (MQ below (Qv D cs B0 α Lv o) args s 0 0 (AB B0)) (F0 m 128 ls [])) : ∀ (n : Nat) (x3 : Int32) (x4 : Int32) (S : St) (H : Heap) (locs : List Loc) (ls : Array Slot), f_X9_read_40 g0 x1 x2 K n x3 x4 S = some o → Dy s D cs B0 α Lv S H locs → lv_has ls 7 [(0, .ref (α 28 g0)), (1, .int x1), (2, .int x2), (3, .int x3), (4, .int x4)] → W p l e (Rm 6 0 0) s m args below meth c H locs 0 0 (MQ below (Qv D cs B0 α Lv o) args s 0 0 (AB B0)) (F0 m 40 ls []) := by
  intro n
  induction n with
  | zero =>
    intro x3 x4 S H locs ls hf
    rw [f_X9_read_40] at hf
    cases hf
  | succ n ih =>
    intro x3 x4 S H locs ls hf hd hl
    rw [f_X9_read_40] at hf
    refine lv_iload hc.x hc.b dX9_read_40 (lv_at hl 4 rfl) ?_
    refine lv_sipush (v := 400) hc.x hc.b dX9_read_42 (by decide) ?_
    refine lv_icmp_gt (tgt := 128) hc.x hc.b dX9_read_45 (by decide) (fun c_8 => ?_) (fun c_8 => ?_)
    · have hf := br_y c_8 hf
      exact hK S _ _ _ hf hd (lv_sub hl [] rfl)
    · have hf := br_n c_8 hf
      refine lv_aload_n hc.x hc.b dX9_read_48 rfl (lv_at hl 0 rfl) ?_
      refine lv_iload_n hc.x hc.b dX9_read_49 rfl (lv_at hl 1 rfl) ?_
      obtain ⟨r_11, S_10, hq_9, hf⟩ := on2_s hf
      refine k_i (k_runV hc hd my_X9_nextToken tw_619 hL0 rfl rfl rfl (c_X9_nextToken l D cs B0 kt α Lv S g0 x1 hc.cl hL0  hq_9) rfl rfl hl.1 (Nat.le_of_ble_eq_true rfl) ⟨Nat.le_of_ble_eq_true rfl, Nat.le_of_ble_eq_true rfl, Nat.zero_le _, Nat.zero_le _⟩ dX9_read_50) hd (fun H locs hd => ?_)
      refine lv_istore (lv' := [(5, .int r_11), (0, .ref (α 28 g0)), (1, .int x1), (2, .int x2), (3, .int x3), (4, .int x4)]) hc.x hc.b dX9_read_53 hl (by decide) rfl (fun ls hl => ?_)
      refine lv_iload_n hc.x hc.b dX9_read_55 rfl (lv_at hl 3 rfl) ?_
      refine jn_s (P := fun J_14 => ∀ (v_12 : Int32) (S_13 : St) (H : Heap) (locs : List Loc) (ls : Array Slot), J_14 v_12 S_13 = some o → Dy s D cs B0 α Lv S_13 H locs → lv_has ls 7 [(0, .ref (α 28 g0)), (1, .int x1), (2, .int x2), (3, .int x3), (4, .int x4), (5, .int r_11)] → W p l e (Rm 6 0 0) s m args below meth c H locs 0 0 (MQ below (Qv D cs B0 α Lv o) args s 0 0 (AB B0)) (F0 m 74 ls [.int v_12])) hf ?_ (fun J_14 hJ_14 hf => ?_)
      · intro v_12 S_13 H locs ls hf hd hl
        refine lv_istore (lv' := [(6, .int v_12), (0, .ref (α 28 g0)), (1, .int x1), (2, .int x2), (3, .int x3), (4, .int x4), (5, .int r_11)]) hc.x hc.b dX9_read_74 hl (by decide) rfl (fun ls hl => ?_)
        refine lv_aload_n hc.x hc.b dX9_read_76 rfl (lv_at hl 1 rfl) ?_
        refine lv_aload_n hc.x hc.b dX9_read_77 rfl (lv_at hl 1 rfl) ?_
        refine lv_iload hc.x hc.b dX9_read_78 (lv_at hl 6 rfl) ?_
        refine lv_iload_n hc.x hc.b dX9_read_80 rfl (lv_at hl 4 rfl) ?_
        refine lv_iload hc.x hc.b dX9_read_81 (lv_at hl 0 rfl) ?_
        refine lv_iload_n hc.x hc.b dX9_read_83 rfl (lv_at hl 3 rfl) ?_
        obtain ⟨r_16, hq_15, hf⟩ := on_s hf
        refine k_i (k_runV hc hd my_X9_faultOf tw_704 hL0 rfl rfl rfl (c_X9_faultOf l D cs B0 kt α Lv S_13 g0 r_11 x3 v_12 x2 hc.cl hL0  hq_15) rfl rfl hl.1 (Nat.le_of_ble_eq_true rfl) ⟨Nat.le_of_ble_eq_true rfl, Nat.le_of_ble_eq_true rfl, Nat.zero_le _, Nat.zero_le _⟩ dX9_read_84) hd (fun H locs hd => ?_)
        refine fp_28_6 hc hd hL0 tw_231 dX9_read_87 (fun H locs hd => ?_)
        obtain ⟨S_17, hd, hf⟩ := nmD hd hf
        refine lv_aload_n hc.x hc.b dX9_read_90 rfl (lv_at hl 1 rfl) ?_
        refine fg_28_6 hc hd hL0 tw_231 dX9_read_91 ?_
        refine lv_if_eq (tgt := 106) hc.x hc.b dX9_read_94 (by decide) (fun c_18 => ?_) (fun c_18 => ?_)
        · have hf := br_y c_18 hf
          refine lv_iload hc.x hc.b dX9_read_106 (lv_at hl 6 rfl) ?_
          refine lv_if_ne (tgt := 112) hc.x hc.b dX9_read_108 (by decide) (fun c_19 => ?_) (fun c_19 => ?_)
          · have hf := br_n c_19 hf
            refine lv_aload_n hc.x hc.b dX9_read_112 rfl (lv_at hl 1 rfl) ?_
            refine lv_iload hc.x hc.b dX9_read_113 (lv_at hl 6 rfl) ?_
            refine lv_iload_n hc.x hc.b dX9_read_115 rfl (lv_at hl 4 rfl) ?_
            obtain ⟨S_21, hq_20, hf⟩ := on_s hf
            refine k_v (k_runV hc hd my_X9_keepToken tw_708 hL0 rfl rfl rfl (c_X9_keepToken l D cs B0 kt α Lv S_17 g0 r_11 x3 hc.cl hL0  hq_20) rfl rfl hl.1 (Nat.le_of_ble_eq_true rfl) ⟨Nat.le_of_ble_eq_true rfl, Nat.le_of_ble_eq_true rfl, Nat.zero_le _, Nat.zero_le _⟩ dX9_read_116) hd (fun H locs hd => ?_)
            refine lv_iload hc.x hc.b dX9_read_119 (lv_at hl 0 rfl) ?_
            refine lv_istore_n (lv' := [(3, .int v_12), (6, .int v_12), (0, .ref (α 28 g0)), (1, .int x1), (2, .int x2), (4, .int x4), (5, .int r_11)]) hc.x hc.b dX9_read_121 rfl hl (by decide) rfl (fun ls hl => ?_)
            obtain ⟨x4_22, ex4_22⟩ : ∃ z : Int32, z = x4 + 1 := ⟨_, rfl⟩
            have hf := bv_n ex4_22 hf
            refine lv_iinc (v := x4_22) (lv' := [(4, .int x4_22), (3, .int v_12), (6, .int v_12), (0, .ref (α 28 g0)), (1, .int x1), (2, .int x2), (5, .int r_11)]) hc.x hc.b dX9_read_122 hl (k := 5) rfl (by rw [ex4_22]; rfl) (by decide) rfl (fun ls hl => ?_)
            refine lv_goto (tgt := 40) hc.x hc.b dX9_read_125 (by decide) ?_
            exact ih v_12 x4_22 S_21 _ _ _ hf hd (lv_sub hl [3, 4, 5, 1, 0] rfl)
          · have hf := br_y c_19 hf
            cases hf
            exact r_vret hc hd hr dX9_read_111
        · have hf := br_n c_18 hf
          refine lv_aload_n hc.x hc.b dX9_read_97 rfl (lv_at hl 1 rfl) ?_
          refine lv_aload_n hc.x hc.b dX9_read_98 rfl (lv_at hl 1 rfl) ?_
          refine fg_28_8 hc hd hL0 tw_235 dX9_read_99 ?_
          refine fp_28_7 hc hd hL0 tw_233 dX9_read_102 (fun H locs hd => ?_)
          obtain ⟨S_23, hd, hf⟩ := nmD hd hf
          cases hf
          exact r_vret hc hd hr dX9_read_105
      refine lv_if_eq (tgt := 68) hc.x hc.b dX9_read_56 (by decide) (fun c_24 => ?_) (fun c_24 => ?_)
      · have hf := br_y c_24 hf
        refine lv_iload_n hc.x hc.b dX9_read_68 rfl (lv_at hl 4 rfl) ?_
        refine lv_iload hc.x hc.b dX9_read_69 (lv_at hl 0 rfl) ?_
        obtain ⟨r_26, hq_25, hf⟩ := on_s hf
        refine k_i (k_runS hc hd my_X9_behindInLaw tw_701 (c_X9_behindInLaw l D cs B0 kt α Lv S_10 x3 r_11 hc.cl   hq_25) rfl rfl hl.1 (Nat.le_of_ble_eq_true rfl) ⟨Nat.le_of_ble_eq_true rfl, Nat.le_of_ble_eq_true rfl, Nat.zero_le _, Nat.zero_le _⟩ dX9_read_71) hd (fun H locs hd => ?_)
        exact hJ_14 r_26 S_10 _ _ _ hf hd (lv_sub hl [1, 2, 3, 4, 5, 0] rfl)
      · have hf := br_n c_24 hf
        refine lv_iload_n hc.x hc.b dX9_read_59 rfl (lv_at hl 4 rfl) ?_
        refine lv_iload hc.x hc.b dX9_read_60 (lv_at hl 0 rfl) ?_
        obtain ⟨r_28, hq_27, hf⟩ := on_s hf
        refine k_i (k_runS hc hd my_X9_behindInRules tw_692 (c_X9_behindInRules l D cs B0 kt α Lv S_10 x3 r_11 hc.cl   hq_27) rfl rfl hl.1 (Nat.le_of_ble_eq_true rfl) ⟨Nat.le_of_ble_eq_true rfl, Nat.le_of_ble_eq_true rfl, Nat.zero_le _, Nat.zero_le _⟩ dX9_read_62) hd (fun H locs hd => ?_)
        refine lv_goto (tgt := 74) hc.x hc.b dX9_read_65 (by decide) ?_
        exact hJ_14 r_28 S_10 _ _ _ hf hd (lv_sub hl [1, 2, 3, 4, 5, 0] rfl)
set_option maxRecDepth 100000 in
set_option maxHeartbeats 4000000 in
theorem b_X9_read (hc : Cx p s m args meth c cX9_read 7 "PumpCrossing$TextReader" D cs B0 kt Lv) (hr : meth.sig.returnType = none)  {o : St}  {S : St} {g0 : Nat} {x1 : Int32} {x2 : Int32} (hL0 : Lv 28 g0) {H : Heap} {locs : List Loc} {ls : Array Slot} (hf : f_X9_read g0 x1 x2 S = some o) (hd : Dy s D cs B0 α Lv S H locs) (hl : lv_has ls 7 [(0, .ref (α 28 g0)), (1, .int x1), (2, .int x2)]) : W p l e (Rm 6 0 0) s m args below meth c H locs 0 0 (MQ below (Qv D cs B0 α Lv o) args s 0 0 (AB B0)) (F0 m 0 ls []) := by
  unfold f_X9_read at hf
  refine lv_aload_n hc.x hc.b dX9_read_0 rfl (lv_at hl 0 rfl) ?_
  refine lv_iconst (v := 0) hc.x hc.b dX9_read_1 (by decide) ?_
  refine fp_28_3 hc hd hL0 tw_226 dX9_read_2 (fun H locs hd => ?_)
  obtain ⟨S_1, hd, hf⟩ := nmD hd hf
  refine lv_aload_n hc.x hc.b dX9_read_5 rfl (lv_at hl 0 rfl) ?_
  refine lv_iconst (v := 0) hc.x hc.b dX9_read_6 (by decide) ?_
  refine fp_28_5 hc hd hL0 tw_230 dX9_read_7 (fun H locs hd => ?_)
  obtain ⟨S_2, hd, hf⟩ := nmD hd hf
  refine lv_aload_n hc.x hc.b dX9_read_10 rfl (lv_at hl 0 rfl) ?_
  refine lv_iconst (v := 0) hc.x hc.b dX9_read_11 (by decide) ?_
  refine fp_28_9 hc hd hL0 tw_236 dX9_read_12 (fun H locs hd => ?_)
  obtain ⟨S_3, hd, hf⟩ := nmD hd hf
  refine lv_aload_n hc.x hc.b dX9_read_15 rfl (lv_at hl 0 rfl) ?_
  refine lv_iconst (v := 0) hc.x hc.b dX9_read_16 (by decide) ?_
  refine fp_28_10 hc hd hL0 tw_237 dX9_read_17 (fun H locs hd => ?_)
  obtain ⟨S_4, hd, hf⟩ := nmD hd hf
  refine lv_aload_n hc.x hc.b dX9_read_20 rfl (lv_at hl 0 rfl) ?_
  refine lv_iconst (v := 0) hc.x hc.b dX9_read_21 (by decide) ?_
  refine fp_28_1 hc hd hL0 tw_219 dX9_read_22 (fun H locs hd => ?_)
  obtain ⟨S_5, hd, hf⟩ := nmD hd hf
  refine lv_aload_n hc.x hc.b dX9_read_25 rfl (lv_at hl 0 rfl) ?_
  refine lv_iconst (v := 0) hc.x hc.b dX9_read_26 (by decide) ?_
  refine fp_28_6 hc hd hL0 tw_231 dX9_read_27 (fun H locs hd => ?_)
  obtain ⟨S_6, hd, hf⟩ := nmD hd hf
  refine lv_aload_n hc.x hc.b dX9_read_30 rfl (lv_at hl 0 rfl) ?_
  refine lv_iconst (v := (-1)) hc.x hc.b dX9_read_31 (by decide) ?_
  refine fp_28_7 hc hd hL0 tw_233 dX9_read_32 (fun H locs hd => ?_)
  obtain ⟨S_7, hd, hf⟩ := nmD hd hf
  refine lv_iconst (v := 0) hc.x hc.b dX9_read_35 (by decide) ?_
  refine lv_istore_n (lv' := [(3, .int 0), (0, .ref (α 28 g0)), (1, .int x1), (2, .int x2)]) hc.x hc.b dX9_read_36 rfl hl (by decide) rfl (fun ls hl => ?_)
  refine lv_iconst (v := 0) hc.x hc.b dX9_read_37 (by decide) ?_
  refine lv_istore (lv' := [(4, .int 0), (3, .int 0), (0, .ref (α 28 g0)), (1, .int x1), (2, .int x2)]) hc.x hc.b dX9_read_38 hl (by decide) rfl (fun ls hl => ?_)
  refine w_X9_read_40 hc hr hL0 ?_ _ _ _ _ _ _ _ hf hd (lv_sub hl [2, 3, 4, 1, 0] rfl)
  intro S_29 H locs ls hf hd hl
  cases hf
  exact r_vret hc hd hr dX9_read_128
theorem c_X9_read (l : Launch) (D : va_G) (cs : Nat → ClassId) (B0 : Nat) (kt : (Nat → Nat) × (Nat → Nat)) (α : Nat → Nat → Nat) (Lv : Nat → Nat → Prop) (S : St) (g0 : Nat) (x1 : Int32) (x2 : Int32) (hcl : Cl Lv) (hL0 : Lv 28 g0) {o : St} (hf : f_X9_read g0 x1 x2 S = some o) : Met l yX9_read (wz yX9_read cX9_read 7 none) (Rm 6 0 0) (Pz D cs B0 kt α Lv S [.ref (α 28 g0), .int x1, .int x2]) (Qv D cs B0 α Lv o) 0 0 (AB B0) := met_of (by decide) rfl hcl (Nat.le_of_ble_eq_true rfl) (fun p e s m below meth c hc hr hd ls hl => b_X9_read hc hr hL0 hf hd hl)
theorem my_X9_read : MyV yX9_read "PumpCrossing$TextReader" cX9_read 7 none 2 := ⟨tw_616, tw_617, tw_7, tw_618, by decide +kernel⟩
end
