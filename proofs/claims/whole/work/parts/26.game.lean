section
variable {p : Program} {l : Launch} {e : Env} {s : State} {m : MethodId} {args : Array Value} {below : List Frame} {meth : Method} {c : Code} {D : va_G} {cs : Nat → ClassId} {B0 : Nat} {kt : (Nat → Nat) × (Nat → Nat)} {α : Nat → Nat → Nat} {Lv : Nat → Nat → Prop}
def f_X4_begin_37 (g0 : Nat) (g1 : Nat) (x2 : Int32) (x3 : Int32) (x4 : Int32) (x5 : Int32) (K : St → Option (St)) : Nat → Int32 → St → Option (St)
  | 0, _, _ => none
  | n + 1, x6, S => br ((gi S 36 g0 0) ≤ x6) (K S) (ck (inb x5 8 = true) (ck (inb x2 4 = true) (bv (si S 26 0 (nn x2) (gi S 21 g1 (nn x5))) (fun S_10 => ck (inb x6 8 = true) (ck (inb x3 4 = true) (bv (si S_10 26 0 (nn x3) (gi S_10 21 g1 (nn x6))) (fun S_13 => ck (inb x5 8 = true) (on (f_X3_soldAt g1 x2 0 x4 S_13) (fun r_16 => ck (inb x2 4 = true) (ck (inb x2 4 = true) (ck (inb x6 8 = true) (bv (si S_13 38 ((nn x5)) (nn x6) (r_16 * ((gi S_13 26 0 (nn x2)) - (gi S_13 3 g1 (nn x2))))) (fun S_20 => ck (inb x5 8 = true) (on (f_X3_soldAt g1 x3 0 x4 S_20) (fun r_23 => ck (inb x3 4 = true) (ck (inb x3 4 = true) (ck (inb x6 8 = true) (bv (si S_20 40 ((nn x5)) (nn x6) (r_23 * ((gi S_20 26 0 (nn x3)) - (gi S_20 3 g1 (nn x3))))) (fun S_27 => bv (x6 + 1) (fun x6_28 => f_X4_begin_37 g0 g1 x2 x3 x4 x5 K n x6_28 S_27))))))))))))))))))))
def f_X4_begin_25 (g0 : Nat) (g1 : Nat) (x2 : Int32) (x3 : Int32) (x4 : Int32) (K : St → Option (St)) : Nat → Int32 → St → Option (St)
  | 0, _, _ => none
  | n + 1, x5, S => br ((gi S 36 g0 0) ≤ x5) (K S) (f_X4_begin_37 g0 g1 x2 x3 x4 x5 (fun  (S_29 : St) => bv (x5 + 1) (fun x5_30 => f_X4_begin_25 g0 g1 x2 x3 x4 K n x5_30 S_29)) FU 0 S)
def f_X4_begin (g0 : Nat) (g1 : Nat) (x2 : Int32) (x3 : Int32) (S : St) : Option (St) := bv (si S 36 g0 0 (gi S 2 g1 14)) (fun S_1 => on (f_X2_takePricesNow g1 0 S_1) (fun S_3 => on (f_X2_known g1 S_3) (fun r_5 => f_X4_begin_25 g0 g1 x2 x3 r_5 (fun  (S_31 : St) => some S_31) FU 0 S_3)))
set_option maxRecDepth 100000 in
set_option maxHeartbeats 4000000 in
theorem w_X4_begin_37 (hc : Cx p s m args meth c cX4_begin 7 "PumpCrossing$Game" D cs B0 kt Lv) (hr : meth.sig.returnType = none) {o : St}  {g0 : Nat} {g1 : Nat} {x2 : Int32} {x3 : Int32} {x4 : Int32} {x5 : Int32} {K : St → Option (St)} (hL0 : Lv 36 g0) (hL1 : Lv 2 g1) (hK : ∀  (S : St) (H : Heap) (locs : List Loc) (ls : Array Slot), K S = some o → Dy s D cs B0 α Lv S H locs → lv_has ls 7 [(0, .ref (α 36 g0)), (1, .ref (α 2 g1)), (2, .int x2), (3, .int x3), (4, .int x4), (5, .int x5)] → W p l e (Rm 3 0 0) s m args below meth c H locs 0 0 (MQ below (Qv D cs B0 α Lv o) args s 0 0 (AB B0)) (F0 m 154 ls [])) : ∀ (n : Nat) (x6 : Int32) (S : St) (H : Heap) (locs : List Loc) (ls : Array Slot), f_X4_begin_37 g0 g1 x2 x3 x4 x5 K n x6 S = some o → Dy s D cs B0 α Lv S H locs → lv_has ls 7 [(0, .ref (α 36 g0)), (1, .ref (α 2 g1)), (2, .int x2), (3, .int x3), (4, .int x4), (5, .int x5), (6, .int x6)] → W p l e (Rm 3 0 0) s m args below meth c H locs 0 0 (MQ below (Qv D cs B0 α Lv o) args s 0 0 (AB B0)) (F0 m 37 ls []) := by
  intro n
  induction n with
  | zero =>
    intro x6 S H locs ls hf
    rw [f_X4_begin_37] at hf
    cases hf
  | succ n ih =>
    intro x6 S H locs ls hf hd hl
    rw [f_X4_begin_37] at hf
    refine lv_iload hc.x hc.b dX4_begin_37 (lv_at hl 6 rfl) ?_
    refine lv_aload_n hc.x hc.b dX4_begin_39 rfl (lv_at hl 0 rfl) ?_
    refine fg_36_0 hc hd hL0 tw_297 dX4_begin_40 ?_
    refine lv_icmp_ge (tgt := 154) hc.x hc.b dX4_begin_43 (by decide) (fun c_7 => ?_) (fun c_7 => ?_)
    · have hf := br_y c_7 hf
      exact hK S _ _ _ hf hd (lv_sub hl [0, 1, 2, 3, 4, 5] rfl)
    · have hf := br_n c_7 hf
      refine lv_aload_n hc.x hc.b dX4_begin_46 rfl (lv_at hl 0 rfl) ?_
      refine fg_36_3 hc hd hL0 tw_304 dX4_begin_47 ?_
      refine lv_iload_n hc.x hc.b dX4_begin_50 rfl (lv_at hl 2 rfl) ?_
      refine lv_aload_n hc.x hc.b dX4_begin_51 rfl (lv_at hl 1 rfl) ?_
      refine fg_2_13 hc hd hL1 tw_164 dX4_begin_52 ?_
      refine lv_iload hc.x hc.b dX4_begin_55 (lv_at hl 5 rfl) ?_
      obtain ⟨hi_8, hf⟩ := ck_s hf
      refine r_iald hc hd (cl_2_levels hc.cl hL1) rfl hi_8 dX4_begin_57 ?_
      obtain ⟨hi_9, hf⟩ := ck_s hf
      refine r_iast hc hd (cl_36_prices hc.cl hL0) (fun _ => rfl) hi_9 dX4_begin_58 (fun H locs hd => ?_)
      obtain ⟨S_10, hd, hf⟩ := nmD hd hf
      refine lv_aload_n hc.x hc.b dX4_begin_59 rfl (lv_at hl 0 rfl) ?_
      refine fg_36_3 hc hd hL0 tw_304 dX4_begin_60 ?_
      refine lv_iload_n hc.x hc.b dX4_begin_63 rfl (lv_at hl 3 rfl) ?_
      refine lv_aload_n hc.x hc.b dX4_begin_64 rfl (lv_at hl 1 rfl) ?_
      refine fg_2_13 hc hd hL1 tw_164 dX4_begin_65 ?_
      refine lv_iload hc.x hc.b dX4_begin_68 (lv_at hl 6 rfl) ?_
      obtain ⟨hi_11, hf⟩ := ck_s hf
      refine r_iald hc hd (cl_2_levels hc.cl hL1) rfl hi_11 dX4_begin_70 ?_
      obtain ⟨hi_12, hf⟩ := ck_s hf
      refine r_iast hc hd (cl_36_prices hc.cl hL0) (fun _ => rfl) hi_12 dX4_begin_71 (fun H locs hd => ?_)
      obtain ⟨S_13, hd, hf⟩ := nmD hd hf
      refine lv_aload_n hc.x hc.b dX4_begin_72 rfl (lv_at hl 0 rfl) ?_
      refine fg_36_1 hc hd hL0 tw_298 dX4_begin_73 ?_
      refine lv_iload hc.x hc.b dX4_begin_76 (lv_at hl 5 rfl) ?_
      obtain ⟨hi_14, hf⟩ := ck_s hf
      refine r_aald hc hd (cl_36_gainA hc.cl hL0) (t0 := 6) rfl rfl rfl hi_14 dX4_begin_78 ?_
      show W p l e (Rm 3 0 0) s m args below meth c H locs 0 0 (MQ below (Qv D cs B0 α Lv o) args s 0 0 (AB B0)) (F0 m 79 ls [.ref (α 38 ((nn x5)))])
      refine lv_iload hc.x hc.b dX4_begin_79 (lv_at hl 6 rfl) ?_
      refine lv_aload_n hc.x hc.b dX4_begin_81 rfl (lv_at hl 1 rfl) ?_
      refine fg_2_9 hc hd hL1 tw_155 dX4_begin_82 ?_
      refine lv_iload_n hc.x hc.b dX4_begin_85 rfl (lv_at hl 2 rfl) ?_
      refine lv_aload_n hc.x hc.b dX4_begin_86 rfl (lv_at hl 0 rfl) ?_
      refine fg_36_3 hc hd hL0 tw_304 dX4_begin_87 ?_
      refine lv_iload hc.x hc.b dX4_begin_90 (lv_at hl 4 rfl) ?_
      obtain ⟨r_16, hq_15, hf⟩ := on_s hf
      refine k_i (k_runV hc hd my_X3_soldAt tw_1002 (cl_2_drivers hc.cl hL1) rfl rfl rfl (c_X3_soldAt l D cs B0 kt α Lv S_13 g1 x2 0 x4 hc.cl (cl_2_drivers hc.cl hL1) (cl_36_prices hc.cl hL0)  hq_15) rfl rfl hl.1 (Nat.le_of_ble_eq_true rfl) ⟨Nat.le_of_ble_eq_true rfl, Nat.le_of_ble_eq_true rfl, Nat.zero_le _, Nat.zero_le _⟩ dX4_begin_92) hd (fun H locs hd => ?_)
      refine lv_aload_n hc.x hc.b dX4_begin_95 rfl (lv_at hl 0 rfl) ?_
      refine fg_36_3 hc hd hL0 tw_304 dX4_begin_96 ?_
      refine lv_iload_n hc.x hc.b dX4_begin_99 rfl (lv_at hl 2 rfl) ?_
      obtain ⟨hi_17, hf⟩ := ck_s hf
      refine r_iald hc hd (cl_36_prices hc.cl hL0) rfl hi_17 dX4_begin_100 ?_
      refine lv_aload_n hc.x hc.b dX4_begin_101 rfl (lv_at hl 1 rfl) ?_
      refine fg_2_1 hc hd hL1 tw_138 dX4_begin_102 ?_
      refine lv_iload_n hc.x hc.b dX4_begin_105 rfl (lv_at hl 2 rfl) ?_
      obtain ⟨hi_18, hf⟩ := ck_s hf
      refine r_iald hc hd (cl_2_costs hc.cl hL1) rfl hi_18 dX4_begin_106 ?_
      refine lv_isub hc.x hc.b dX4_begin_107 ?_
      refine lv_imul hc.x hc.b dX4_begin_108 ?_
      obtain ⟨hi_19, hf⟩ := ck_s hf
      refine r_iast hc hd (cl_37 hc.cl (cl_36_gainA hc.cl hL0) (inb_lt hi_14)) (fun _ => rfl) hi_19 dX4_begin_109 (fun H locs hd => ?_)
      obtain ⟨S_20, hd, hf⟩ := nmD hd hf
      refine lv_aload_n hc.x hc.b dX4_begin_110 rfl (lv_at hl 0 rfl) ?_
      refine fg_36_2 hc hd hL0 tw_301 dX4_begin_111 ?_
      refine lv_iload hc.x hc.b dX4_begin_114 (lv_at hl 5 rfl) ?_
      obtain ⟨hi_21, hf⟩ := ck_s hf
      refine r_aald hc hd (cl_36_gainB hc.cl hL0) (t0 := 6) rfl rfl rfl hi_21 dX4_begin_116 ?_
      show W p l e (Rm 3 0 0) s m args below meth c H locs 0 0 (MQ below (Qv D cs B0 α Lv o) args s 0 0 (AB B0)) (F0 m 117 ls [.ref (α 40 ((nn x5)))])
      refine lv_iload hc.x hc.b dX4_begin_117 (lv_at hl 6 rfl) ?_
      refine lv_aload_n hc.x hc.b dX4_begin_119 rfl (lv_at hl 1 rfl) ?_
      refine fg_2_9 hc hd hL1 tw_155 dX4_begin_120 ?_
      refine lv_iload_n hc.x hc.b dX4_begin_123 rfl (lv_at hl 3 rfl) ?_
      refine lv_aload_n hc.x hc.b dX4_begin_124 rfl (lv_at hl 0 rfl) ?_
      refine fg_36_3 hc hd hL0 tw_304 dX4_begin_125 ?_
      refine lv_iload hc.x hc.b dX4_begin_128 (lv_at hl 4 rfl) ?_
      obtain ⟨r_23, hq_22, hf⟩ := on_s hf
      refine k_i (k_runV hc hd my_X3_soldAt tw_1002 (cl_2_drivers hc.cl hL1) rfl rfl rfl (c_X3_soldAt l D cs B0 kt α Lv S_20 g1 x3 0 x4 hc.cl (cl_2_drivers hc.cl hL1) (cl_36_prices hc.cl hL0)  hq_22) rfl rfl hl.1 (Nat.le_of_ble_eq_true rfl) ⟨Nat.le_of_ble_eq_true rfl, Nat.le_of_ble_eq_true rfl, Nat.zero_le _, Nat.zero_le _⟩ dX4_begin_130) hd (fun H locs hd => ?_)
      refine lv_aload_n hc.x hc.b dX4_begin_133 rfl (lv_at hl 0 rfl) ?_
      refine fg_36_3 hc hd hL0 tw_304 dX4_begin_134 ?_
      refine lv_iload_n hc.x hc.b dX4_begin_137 rfl (lv_at hl 3 rfl) ?_
      obtain ⟨hi_24, hf⟩ := ck_s hf
      refine r_iald hc hd (cl_36_prices hc.cl hL0) rfl hi_24 dX4_begin_138 ?_
      refine lv_aload_n hc.x hc.b dX4_begin_139 rfl (lv_at hl 1 rfl) ?_
      refine fg_2_1 hc hd hL1 tw_138 dX4_begin_140 ?_
      refine lv_iload_n hc.x hc.b dX4_begin_143 rfl (lv_at hl 3 rfl) ?_
      obtain ⟨hi_25, hf⟩ := ck_s hf
      refine r_iald hc hd (cl_2_costs hc.cl hL1) rfl hi_25 dX4_begin_144 ?_
      refine lv_isub hc.x hc.b dX4_begin_145 ?_
      refine lv_imul hc.x hc.b dX4_begin_146 ?_
      obtain ⟨hi_26, hf⟩ := ck_s hf
      refine r_iast hc hd (cl_39 hc.cl (cl_36_gainB hc.cl hL0) (inb_lt hi_21)) (fun _ => rfl) hi_26 dX4_begin_147 (fun H locs hd => ?_)
      obtain ⟨S_27, hd, hf⟩ := nmD hd hf
      obtain ⟨x6_28, ex6_28⟩ : ∃ z : Int32, z = x6 + 1 := ⟨_, rfl⟩
      have hf := bv_n ex6_28 hf
      refine lv_iinc (v := x6_28) (lv' := [(6, .int x6_28), (0, .ref (α 36 g0)), (1, .ref (α 2 g1)), (2, .int x2), (3, .int x3), (4, .int x4), (5, .int x5)]) hc.x hc.b dX4_begin_148 hl (k := 6) rfl (by rw [ex6_28]; rfl) (by decide) rfl (fun ls hl => ?_)
      refine lv_goto (tgt := 37) hc.x hc.b dX4_begin_151 (by decide) ?_
      exact ih x6_28 S_27 _ _ _ hf hd (lv_sub hl [1, 2, 3, 4, 5, 6, 0] rfl)
set_option maxRecDepth 100000 in
set_option maxHeartbeats 4000000 in
theorem w_X4_begin_25 (hc : Cx p s m args meth c cX4_begin 7 "PumpCrossing$Game" D cs B0 kt Lv) (hr : meth.sig.returnType = none) {o : St}  {g0 : Nat} {g1 : Nat} {x2 : Int32} {x3 : Int32} {x4 : Int32} {K : St → Option (St)} (hL0 : Lv 36 g0) (hL1 : Lv 2 g1) (hK : ∀  (S : St) (H : Heap) (locs : List Loc) (ls : Array Slot), K S = some o → Dy s D cs B0 α Lv S H locs → lv_has ls 7 [] → W p l e (Rm 3 0 0) s m args below meth c H locs 0 0 (MQ below (Qv D cs B0 α Lv o) args s 0 0 (AB B0)) (F0 m 160 ls [])) : ∀ (n : Nat) (x5 : Int32) (S : St) (H : Heap) (locs : List Loc) (ls : Array Slot), f_X4_begin_25 g0 g1 x2 x3 x4 K n x5 S = some o → Dy s D cs B0 α Lv S H locs → lv_has ls 7 [(0, .ref (α 36 g0)), (1, .ref (α 2 g1)), (2, .int x2), (3, .int x3), (4, .int x4), (5, .int x5)] → W p l e (Rm 3 0 0) s m args below meth c H locs 0 0 (MQ below (Qv D cs B0 α Lv o) args s 0 0 (AB B0)) (F0 m 25 ls []) := by
  intro n
  induction n with
  | zero =>
    intro x5 S H locs ls hf
    rw [f_X4_begin_25] at hf
    cases hf
  | succ n ih =>
    intro x5 S H locs ls hf hd hl
    rw [f_X4_begin_25] at hf
    refine lv_iload hc.x hc.b dX4_begin_25 (lv_at hl 5 rfl) ?_
    refine lv_aload_n hc.x hc.b dX4_begin_27 rfl (lv_at hl 0 rfl) ?_
    refine fg_36_0 hc hd hL0 tw_297 dX4_begin_28 ?_
    refine lv_icmp_ge (tgt := 160) hc.x hc.b dX4_begin_31 (by decide) (fun c_6 => ?_) (fun c_6 => ?_)
    · have hf := br_y c_6 hf
      exact hK S _ _ _ hf hd (lv_sub hl [] rfl)
    · have hf := br_n c_6 hf
      refine lv_iconst (v := 0) hc.x hc.b dX4_begin_34 (by decide) ?_
      refine lv_istore (lv' := [(6, .int 0), (0, .ref (α 36 g0)), (1, .ref (α 2 g1)), (2, .int x2), (3, .int x3), (4, .int x4), (5, .int x5)]) hc.x hc.b dX4_begin_35 hl (by decide) rfl (fun ls hl => ?_)
      refine w_X4_begin_37 hc hr hL0 hL1 ?_ _ _ _ _ _ _ hf hd (lv_sub hl [1, 2, 3, 4, 5, 6, 0] rfl)
      intro S_29 H locs ls hf hd hl
      obtain ⟨x5_30, ex5_30⟩ : ∃ z : Int32, z = x5 + 1 := ⟨_, rfl⟩
      have hf := bv_n ex5_30 hf
      refine lv_iinc (v := x5_30) (lv' := [(5, .int x5_30), (0, .ref (α 36 g0)), (1, .ref (α 2 g1)), (2, .int x2), (3, .int x3), (4, .int x4)]) hc.x hc.b dX4_begin_154 hl (k := 5) rfl (by rw [ex5_30]; rfl) (by decide) rfl (fun ls hl => ?_)
      refine lv_goto (tgt := 25) hc.x hc.b dX4_begin_157 (by decide) ?_
      exact ih x5_30 S_29 _ _ _ hf hd (lv_sub hl [1, 2, 3, 4, 5, 0] rfl)
set_option maxRecDepth 100000 in
set_option maxHeartbeats 4000000 in
theorem b_X4_begin (hc : Cx p s m args meth c cX4_begin 7 "PumpCrossing$Game" D cs B0 kt Lv) (hr : meth.sig.returnType = none)  {o : St}  {S : St} {g0 : Nat} {g1 : Nat} {x2 : Int32} {x3 : Int32} (hL0 : Lv 36 g0) (hL1 : Lv 2 g1) {H : Heap} {locs : List Loc} {ls : Array Slot} (hf : f_X4_begin g0 g1 x2 x3 S = some o) (hd : Dy s D cs B0 α Lv S H locs) (hl : lv_has ls 7 [(0, .ref (α 36 g0)), (1, .ref (α 2 g1)), (2, .int x2), (3, .int x3)]) : W p l e (Rm 3 0 0) s m args below meth c H locs 0 0 (MQ below (Qv D cs B0 α Lv o) args s 0 0 (AB B0)) (F0 m 0 ls []) := by
  unfold f_X4_begin at hf
  refine lv_aload_n hc.x hc.b dX4_begin_0 rfl (lv_at hl 0 rfl) ?_
  refine lv_aload_n hc.x hc.b dX4_begin_1 rfl (lv_at hl 1 rfl) ?_
  refine fg_2_14 hc hd hL1 tw_166 dX4_begin_2 ?_
  refine fp_36_0 hc hd hL0 tw_297 dX4_begin_5 (fun H locs hd => ?_)
  obtain ⟨S_1, hd, hf⟩ := nmD hd hf
  refine lv_aload_n hc.x hc.b dX4_begin_8 rfl (lv_at hl 1 rfl) ?_
  refine lv_aload_n hc.x hc.b dX4_begin_9 rfl (lv_at hl 0 rfl) ?_
  refine fg_36_3 hc hd hL0 tw_304 dX4_begin_10 ?_
  obtain ⟨S_3, hq_2, hf⟩ := on_s hf
  refine k_v (k_runV hc hd my_X2_takePricesNow tw_1000 hL1 rfl rfl rfl (c_X2_takePricesNow l D cs B0 kt α Lv S_1 g1 0 hc.cl hL1 (cl_36_prices hc.cl hL0)  hq_2) rfl rfl hl.1 (Nat.le_of_ble_eq_true rfl) ⟨Nat.le_of_ble_eq_true rfl, Nat.le_of_ble_eq_true rfl, Nat.zero_le _, Nat.zero_le _⟩ dX4_begin_13) hd (fun H locs hd => ?_)
  refine lv_aload_n hc.x hc.b dX4_begin_16 rfl (lv_at hl 1 rfl) ?_
  obtain ⟨r_5, hq_4, hf⟩ := on_s hf
  refine k_i (k_runV hc hd my_X2_known tw_1001 hL1 rfl rfl rfl (c_X2_known l D cs B0 kt α Lv S_3 g1 hc.cl hL1  hq_4) rfl rfl hl.1 (Nat.le_of_ble_eq_true rfl) ⟨Nat.le_of_ble_eq_true rfl, Nat.le_of_ble_eq_true rfl, Nat.zero_le _, Nat.zero_le _⟩ dX4_begin_17) hd (fun H locs hd => ?_)
  refine lv_istore (lv' := [(4, .int r_5), (0, .ref (α 36 g0)), (1, .ref (α 2 g1)), (2, .int x2), (3, .int x3)]) hc.x hc.b dX4_begin_20 hl (by decide) rfl (fun ls hl => ?_)
  refine lv_iconst (v := 0) hc.x hc.b dX4_begin_22 (by decide) ?_
  refine lv_istore (lv' := [(5, .int 0), (4, .int r_5), (0, .ref (α 36 g0)), (1, .ref (α 2 g1)), (2, .int x2), (3, .int x3)]) hc.x hc.b dX4_begin_23 hl (by decide) rfl (fun ls hl => ?_)
  refine w_X4_begin_25 hc hr hL0 hL1 ?_ _ _ _ _ _ _ hf hd (lv_sub hl [2, 3, 4, 5, 1, 0] rfl)
  intro S_31 H locs ls hf hd hl
  cases hf
  exact r_vret hc hd hr dX4_begin_160
theorem c_X4_begin (l : Launch) (D : va_G) (cs : Nat → ClassId) (B0 : Nat) (kt : (Nat → Nat) × (Nat → Nat)) (α : Nat → Nat → Nat) (Lv : Nat → Nat → Prop) (S : St) (g0 : Nat) (g1 : Nat) (x2 : Int32) (x3 : Int32) (hcl : Cl Lv) (hL0 : Lv 36 g0) (hL1 : Lv 2 g1) {o : St} (hf : f_X4_begin g0 g1 x2 x3 S = some o) : Met l yX4_begin (wz yX4_begin cX4_begin 7 none) (Rm 3 0 0) (Pz D cs B0 kt α Lv S [.ref (α 36 g0), .ref (α 2 g1), .int x2, .int x3]) (Qv D cs B0 α Lv o) 0 0 (AB B0) := met_of (by decide) rfl hcl (Nat.le_of_ble_eq_true rfl) (fun p e s m below meth c hc hr hd ls hl => b_X4_begin hc hr hL0 hL1 hf hd hl)
theorem my_X4_begin : MyV yX4_begin "PumpCrossing$Game" cX4_begin 7 none 3 := ⟨tw_997, tw_998, tw_9, tw_999, by decide +kernel⟩
def f_X4_isEven_2 (g0 : Nat) (x1 : Int32) (x2 : Int32) (S : St) (K : Unit → Option (Int32)) : Nat → Int32 → Option (Int32)
  | 0, _ => none
  | n + 1, x3 => br ((gi S 36 g0 0) ≤ x3) (K ()) (ck (inb x3 8 = true) (ck (inb x2 8 = true) (ck (inb x1 8 = true) (ck (inb x2 8 = true) (bv (fun (_u : Unit) => some 0) (fun J_6 => br ((gi S 38 ((nn x1)) (nn x2)) < (gi S 38 ((nn x3)) (nn x2))) (J_6 ()) (ck (inb x1 8 = true) (ck (inb x3 8 = true) (ck (inb x1 8 = true) (ck (inb x2 8 = true) (br ((gi S 40 ((nn x1)) (nn x3)) ≤ (gi S 40 ((nn x1)) (nn x2))) (bv (x3 + 1) (fun x3_13 => f_X4_isEven_2 g0 x1 x2 S K n x3_13)) (J_6 ()))))))))))))
def f_X4_isEven (g0 : Nat) (x1 : Int32) (x2 : Int32) (S : St) : Option (Int32) := f_X4_isEven_2 g0 x1 x2 S (fun (_u : Unit) => some 1) FU 0
set_option maxRecDepth 100000 in
set_option maxHeartbeats 4000000 in
theorem w_X4_isEven_2 (hc : Cx p s m args meth c cX4_isEven 4 "PumpCrossing$Game" D cs B0 kt Lv) (hr : meth.sig.returnType = some .boolean) {o : Int32}  {g0 : Nat} {x1 : Int32} {x2 : Int32} {S : St} {K : Unit → Option (Int32)} (hL0 : Lv 36 g0) (hK : ∀ (_u : Unit) (H : Heap) (locs : List Loc) (ls : Array Slot), K _u = some o → Dy s D cs B0 α Lv S H locs → lv_has ls 4 [] → W p l e (Rm 0 0 0) s m args below meth c H locs 0 0 (MQ below (Qi D cs B0 α Lv o S) args s 0 0 (AB B0)) (F0 m 56 ls [])) : ∀ (n : Nat) (x3 : Int32) (H : Heap) (locs : List Loc) (ls : Array Slot), f_X4_isEven_2 g0 x1 x2 S K n x3 = some o → Dy s D cs B0 α Lv S H locs → lv_has ls 4 [(0, .ref (α 36 g0)), (1, .int x1), (2, .int x2), (3, .int x3)] → W p l e (Rm 0 0 0) s m args below meth c H locs 0 0 (MQ below (Qi D cs B0 α Lv o S) args s 0 0 (AB B0)) (F0 m 2 ls []) := by
  intro n
  induction n with
  | zero =>
    intro x3 H locs ls hf
    rw [f_X4_isEven_2] at hf
    cases hf
  | succ n ih =>
    intro x3 H locs ls hf hd hl
    rw [f_X4_isEven_2] at hf
    refine lv_iload_n hc.x hc.b dX4_isEven_2 rfl (lv_at hl 3 rfl) ?_
    refine lv_aload_n hc.x hc.b dX4_isEven_3 rfl (lv_at hl 0 rfl) ?_
    refine fg_36_0 hc hd hL0 tw_297 dX4_isEven_4 ?_
    refine lv_icmp_ge (tgt := 56) hc.x hc.b dX4_isEven_7 (by decide) (fun c_1 => ?_) (fun c_1 => ?_)
    · have hf := br_y c_1 hf
      exact hK ()  _ _ _ hf hd (lv_sub hl [] rfl)
    · have hf := br_n c_1 hf
      refine lv_aload_n hc.x hc.b dX4_isEven_10 rfl (lv_at hl 0 rfl) ?_
      refine fg_36_1 hc hd hL0 tw_298 dX4_isEven_11 ?_
      refine lv_iload_n hc.x hc.b dX4_isEven_14 rfl (lv_at hl 3 rfl) ?_
      obtain ⟨hi_2, hf⟩ := ck_s hf
      refine r_aald hc hd (cl_36_gainA hc.cl hL0) (t0 := 6) rfl rfl rfl hi_2 dX4_isEven_15 ?_
      show W p l e (Rm 0 0 0) s m args below meth c H locs 0 0 (MQ below (Qi D cs B0 α Lv o S) args s 0 0 (AB B0)) (F0 m 16 ls [.ref (α 38 ((nn x3)))])
      refine lv_iload_n hc.x hc.b dX4_isEven_16 rfl (lv_at hl 2 rfl) ?_
      obtain ⟨hi_3, hf⟩ := ck_s hf
      refine r_iald hc hd (cl_37 hc.cl (cl_36_gainA hc.cl hL0) (inb_lt hi_2)) rfl hi_3 dX4_isEven_17 ?_
      refine lv_aload_n hc.x hc.b dX4_isEven_18 rfl (lv_at hl 0 rfl) ?_
      refine fg_36_1 hc hd hL0 tw_298 dX4_isEven_19 ?_
      refine lv_iload_n hc.x hc.b dX4_isEven_22 rfl (lv_at hl 1 rfl) ?_
      obtain ⟨hi_4, hf⟩ := ck_s hf
      refine r_aald hc hd (cl_36_gainA hc.cl hL0) (t0 := 6) rfl rfl rfl hi_4 dX4_isEven_23 ?_
      show W p l e (Rm 0 0 0) s m args below meth c H locs 0 0 (MQ below (Qi D cs B0 α Lv o S) args s 0 0 (AB B0)) (F0 m 24 ls [.ref (α 38 ((nn x1))), .int (gi S 38 ((nn x3)) (nn x2))])
      refine lv_iload_n hc.x hc.b dX4_isEven_24 rfl (lv_at hl 2 rfl) ?_
      obtain ⟨hi_5, hf⟩ := ck_s hf
      refine r_iald hc hd (cl_37 hc.cl (cl_36_gainA hc.cl hL0) (inb_lt hi_4)) rfl hi_5 dX4_isEven_25 ?_
      refine jn_s (P := fun J_6 => ∀ (_u : Unit) (H : Heap) (locs : List Loc) (ls : Array Slot), J_6 _u = some o → Dy s D cs B0 α Lv S H locs → lv_has ls 4 [] → W p l e (Rm 0 0 0) s m args below meth c H locs 0 0 (MQ below (Qi D cs B0 α Lv o S) args s 0 0 (AB B0)) (F0 m 48 ls [])) hf ?_ (fun J_6 hJ_6 hf => ?_)
      · intro _u H locs ls hf hd hl
        refine lv_iconst (v := 0) hc.x hc.b dX4_isEven_48 (by decide) ?_
        cases hf
        exact r_zret hc hd hr (Or.inl rfl) dX4_isEven_49
      refine lv_icmp_gt (tgt := 48) hc.x hc.b dX4_isEven_26 (by decide) (fun c_7 => ?_) (fun c_7 => ?_)
      · have hf := br_y c_7 hf
        exact hJ_6 ()  _ _ _ hf hd (lv_sub hl [] rfl)
      · have hf := br_n c_7 hf
        refine lv_aload_n hc.x hc.b dX4_isEven_29 rfl (lv_at hl 0 rfl) ?_
        refine fg_36_2 hc hd hL0 tw_301 dX4_isEven_30 ?_
        refine lv_iload_n hc.x hc.b dX4_isEven_33 rfl (lv_at hl 1 rfl) ?_
        obtain ⟨hi_8, hf⟩ := ck_s hf
        refine r_aald hc hd (cl_36_gainB hc.cl hL0) (t0 := 6) rfl rfl rfl hi_8 dX4_isEven_34 ?_
        show W p l e (Rm 0 0 0) s m args below meth c H locs 0 0 (MQ below (Qi D cs B0 α Lv o S) args s 0 0 (AB B0)) (F0 m 35 ls [.ref (α 40 ((nn x1)))])
        refine lv_iload_n hc.x hc.b dX4_isEven_35 rfl (lv_at hl 3 rfl) ?_
        obtain ⟨hi_9, hf⟩ := ck_s hf
        refine r_iald hc hd (cl_39 hc.cl (cl_36_gainB hc.cl hL0) (inb_lt hi_8)) rfl hi_9 dX4_isEven_36 ?_
        refine lv_aload_n hc.x hc.b dX4_isEven_37 rfl (lv_at hl 0 rfl) ?_
        refine fg_36_2 hc hd hL0 tw_301 dX4_isEven_38 ?_
        refine lv_iload_n hc.x hc.b dX4_isEven_41 rfl (lv_at hl 1 rfl) ?_
        obtain ⟨hi_10, hf⟩ := ck_s hf
        refine r_aald hc hd (cl_36_gainB hc.cl hL0) (t0 := 6) rfl rfl rfl hi_10 dX4_isEven_42 ?_
        show W p l e (Rm 0 0 0) s m args below meth c H locs 0 0 (MQ below (Qi D cs B0 α Lv o S) args s 0 0 (AB B0)) (F0 m 43 ls [.ref (α 40 ((nn x1))), .int (gi S 40 ((nn x1)) (nn x3))])
        refine lv_iload_n hc.x hc.b dX4_isEven_43 rfl (lv_at hl 2 rfl) ?_
        obtain ⟨hi_11, hf⟩ := ck_s hf
        refine r_iald hc hd (cl_39 hc.cl (cl_36_gainB hc.cl hL0) (inb_lt hi_10)) rfl hi_11 dX4_isEven_44 ?_
        refine lv_icmp_le (tgt := 50) hc.x hc.b dX4_isEven_45 (by decide) (fun c_12 => ?_) (fun c_12 => ?_)
        · have hf := br_y c_12 hf
          obtain ⟨x3_13, ex3_13⟩ : ∃ z : Int32, z = x3 + 1 := ⟨_, rfl⟩
          have hf := bv_n ex3_13 hf
          refine lv_iinc (v := x3_13) (lv' := [(3, .int x3_13), (0, .ref (α 36 g0)), (1, .int x1), (2, .int x2)]) hc.x hc.b dX4_isEven_50 hl (k := 3) rfl (by rw [ex3_13]; rfl) (by decide) rfl (fun ls hl => ?_)
          refine lv_goto (tgt := 2) hc.x hc.b dX4_isEven_53 (by decide) ?_
          exact ih x3_13 _ _ _ hf hd (lv_sub hl [1, 2, 3, 0] rfl)
        · have hf := br_n c_12 hf
          exact hJ_6 ()  _ _ _ hf hd (lv_sub hl [] rfl)
set_option maxRecDepth 100000 in
set_option maxHeartbeats 4000000 in
theorem b_X4_isEven (hc : Cx p s m args meth c cX4_isEven 4 "PumpCrossing$Game" D cs B0 kt Lv) (hr : meth.sig.returnType = some .boolean)  {o : Int32}  {S : St} {g0 : Nat} {x1 : Int32} {x2 : Int32} (hL0 : Lv 36 g0) {H : Heap} {locs : List Loc} {ls : Array Slot} (hf : f_X4_isEven g0 x1 x2 S = some o) (hd : Dy s D cs B0 α Lv S H locs) (hl : lv_has ls 4 [(0, .ref (α 36 g0)), (1, .int x1), (2, .int x2)]) : W p l e (Rm 0 0 0) s m args below meth c H locs 0 0 (MQ below (Qi D cs B0 α Lv o S) args s 0 0 (AB B0)) (F0 m 0 ls []) := by
  unfold f_X4_isEven at hf
  refine lv_iconst (v := 0) hc.x hc.b dX4_isEven_0 (by decide) ?_
  refine lv_istore_n (lv' := [(3, .int 0), (0, .ref (α 36 g0)), (1, .int x1), (2, .int x2)]) hc.x hc.b dX4_isEven_1 rfl hl (by decide) rfl (fun ls hl => ?_)
  refine w_X4_isEven_2 hc hr hL0 ?_ _ _ _ _ _ hf hd (lv_sub hl [1, 2, 3, 0] rfl)
  intro _u H locs ls hf hd hl
  refine lv_iconst (v := 1) hc.x hc.b dX4_isEven_56 (by decide) ?_
  cases hf
  exact r_zret hc hd hr (Or.inr rfl) dX4_isEven_57
theorem c_X4_isEven (l : Launch) (D : va_G) (cs : Nat → ClassId) (B0 : Nat) (kt : (Nat → Nat) × (Nat → Nat)) (α : Nat → Nat → Nat) (Lv : Nat → Nat → Prop) (S : St) (g0 : Nat) (x1 : Int32) (x2 : Int32) (hcl : Cl Lv) (hL0 : Lv 36 g0) {o : Int32} (hf : f_X4_isEven g0 x1 x2 S = some o) : Met l yX4_isEven (wz yX4_isEven cX4_isEven 4 (some .boolean)) (Rm 0 0 0) (Pz D cs B0 kt α Lv S [.ref (α 36 g0), .int x1, .int x2]) (Qi D cs B0 α Lv o S) 0 0 (AB B0) := met_of (by decide) rfl hcl (Nat.le_of_ble_eq_true rfl) (fun p e s m below meth c hc hr hd ls hl => b_X4_isEven hc hr hL0 hf hd hl)
theorem my_X4_isEven : MyV yX4_isEven "PumpCrossing$Game" cX4_isEven 4 (some .boolean) 2 := ⟨tw_1031, (in_sel 21 (by decide +kernel) (by decide +kernel)), tw_9, tw_1032, by decide +kernel⟩
def f_X4_evenPair_15 (g0 : Nat) (x1 : Int32) (x3 : Int32) (S : St) (K : Int32 → Option (Int32)) : Nat → Int32 → Int32 → Option (Int32)
  | 0, _, _ => none
  | n + 1, x2, x4 => br ((gi S 36 g0 0) ≤ x4) (K x2) (on (f_X4_isEven g0 x3 x4 S) (fun r_4 => bv (fun (x2_5 : Int32) => bv (x4 + 1) (fun x4_7 => f_X4_evenPair_15 g0 x1 x3 S K n x2_5 x4_7)) (fun J_6 => br (r_4 = 0) (J_6 x2) (br (x2 = x1) (on (f_X11_pair x3 x4 S) (fun r_12 => some r_12)) (bv (x2 + 1) (fun x2_10 => J_6 x2_10))))))
def f_X4_evenPair_4 (g0 : Nat) (x1 : Int32) (S : St) (K : Unit → Option (Int32)) : Nat → Int32 → Int32 → Option (Int32)
  | 0, _, _ => none
  | n + 1, x2, x3 => br ((gi S 36 g0 0) ≤ x3) (K ()) (f_X4_evenPair_15 g0 x1 x3 S (fun (x2_13 : Int32) => bv (x3 + 1) (fun x3_14 => f_X4_evenPair_4 g0 x1 S K n x2_13 x3_14)) FU x2 0)
def f_X4_evenPair (g0 : Nat) (x1 : Int32) (S : St) : Option (Int32) := f_X4_evenPair_4 g0 x1 S (fun (_u : Unit) => some ((-1))) FU 0 0
set_option maxRecDepth 100000 in
set_option maxHeartbeats 4000000 in
theorem w_X4_evenPair_15 (hc : Cx p s m args meth c cX4_evenPair 5 "PumpCrossing$Game" D cs B0 kt Lv) (hr : meth.sig.returnType = some .int) {o : Int32}  {g0 : Nat} {x1 : Int32} {x3 : Int32} {S : St} {K : Int32 → Option (Int32)} (hL0 : Lv 36 g0) (hK : ∀ (k2 : Int32) (H : Heap) (locs : List Loc) (ls : Array Slot), K k2 = some o → Dy s D cs B0 α Lv S H locs → lv_has ls 5 [(0, .ref (α 36 g0)), (1, .int x1), (2, .int k2), (3, .int x3)] → W p l e (Rm 1 0 0) s m args below meth c H locs 0 0 (MQ below (Qi D cs B0 α Lv o S) args s 0 0 (AB B0)) (F0 m 55 ls [])) : ∀ (n : Nat) (x2 : Int32) (x4 : Int32) (H : Heap) (locs : List Loc) (ls : Array Slot), f_X4_evenPair_15 g0 x1 x3 S K n x2 x4 = some o → Dy s D cs B0 α Lv S H locs → lv_has ls 5 [(0, .ref (α 36 g0)), (1, .int x1), (3, .int x3), (2, .int x2), (4, .int x4)] → W p l e (Rm 1 0 0) s m args below meth c H locs 0 0 (MQ below (Qi D cs B0 α Lv o S) args s 0 0 (AB B0)) (F0 m 15 ls []) := by
  intro n
  induction n with
  | zero =>
    intro x2 x4 H locs ls hf
    rw [f_X4_evenPair_15] at hf
    cases hf
  | succ n ih =>
    intro x2 x4 H locs ls hf hd hl
    rw [f_X4_evenPair_15] at hf
    refine lv_iload hc.x hc.b dX4_evenPair_15 (lv_at hl 4 rfl) ?_
    refine lv_aload_n hc.x hc.b dX4_evenPair_17 rfl (lv_at hl 0 rfl) ?_
    refine fg_36_0 hc hd hL0 tw_297 dX4_evenPair_18 ?_
    refine lv_icmp_ge (tgt := 55) hc.x hc.b dX4_evenPair_21 (by decide) (fun c_2 => ?_) (fun c_2 => ?_)
    · have hf := br_y c_2 hf
      exact hK x2 _ _ _ hf hd (lv_sub hl [0, 1, 3, 2] rfl)
    · have hf := br_n c_2 hf
      refine lv_aload_n hc.x hc.b dX4_evenPair_24 rfl (lv_at hl 0 rfl) ?_
      refine lv_iload_n hc.x hc.b dX4_evenPair_25 rfl (lv_at hl 2 rfl) ?_
      refine lv_iload hc.x hc.b dX4_evenPair_26 (lv_at hl 4 rfl) ?_
      obtain ⟨r_4, hq_3, hf⟩ := on_s hf
      refine k_i (k_runV hc hd my_X4_isEven tw_1029 hL0 rfl rfl rfl (c_X4_isEven l D cs B0 kt α Lv S g0 x3 x4 hc.cl hL0  hq_3) rfl rfl hl.1 (Nat.le_of_ble_eq_true rfl) ⟨Nat.le_of_ble_eq_true rfl, Nat.le_of_ble_eq_true rfl, Nat.zero_le _, Nat.zero_le _⟩ dX4_evenPair_28) hd (fun H locs hd => ?_)
      refine jn_s (P := fun J_6 => ∀ (x2_5 : Int32) (H : Heap) (locs : List Loc) (ls : Array Slot), J_6 x2_5 = some o → Dy s D cs B0 α Lv S H locs → lv_has ls 5 [(0, .ref (α 36 g0)), (1, .int x1), (2, .int x2_5), (3, .int x3), (4, .int x4)] → W p l e (Rm 1 0 0) s m args below meth c H locs 0 0 (MQ below (Qi D cs B0 α Lv o S) args s 0 0 (AB B0)) (F0 m 49 ls [])) hf ?_ (fun J_6 hJ_6 hf => ?_)
      · intro x2_5 H locs ls hf hd hl
        obtain ⟨x4_7, ex4_7⟩ : ∃ z : Int32, z = x4 + 1 := ⟨_, rfl⟩
        have hf := bv_n ex4_7 hf
        refine lv_iinc (v := x4_7) (lv' := [(4, .int x4_7), (0, .ref (α 36 g0)), (1, .int x1), (2, .int x2_5), (3, .int x3)]) hc.x hc.b dX4_evenPair_49 hl (k := 4) rfl (by rw [ex4_7]; rfl) (by decide) rfl (fun ls hl => ?_)
        refine lv_goto (tgt := 15) hc.x hc.b dX4_evenPair_52 (by decide) ?_
        exact ih x2_5 x4_7 _ _ _ hf hd (lv_sub hl [1, 2, 4, 3, 0] rfl)
      refine lv_if_eq (tgt := 49) hc.x hc.b dX4_evenPair_31 (by decide) (fun c_8 => ?_) (fun c_8 => ?_)
      · have hf := br_y c_8 hf
        exact hJ_6 x2 _ _ _ hf hd (lv_sub hl [0, 1, 3, 2, 4] rfl)
      · have hf := br_n c_8 hf
        refine lv_iload_n hc.x hc.b dX4_evenPair_34 rfl (lv_at hl 3 rfl) ?_
        refine lv_iload_n hc.x hc.b dX4_evenPair_35 rfl (lv_at hl 1 rfl) ?_
        refine lv_icmp_ne (tgt := 46) hc.x hc.b dX4_evenPair_36 (by decide) (fun c_9 => ?_) (fun c_9 => ?_)
        · have hf := br_n c_9 hf
          obtain ⟨x2_10, ex2_10⟩ : ∃ z : Int32, z = x2 + 1 := ⟨_, rfl⟩
          have hf := bv_n ex2_10 hf
          refine lv_iinc (v := x2_10) (lv' := [(2, .int x2_10), (0, .ref (α 36 g0)), (1, .int x1), (3, .int x3), (4, .int x4)]) hc.x hc.b dX4_evenPair_46 hl (k := 3) rfl (by rw [ex2_10]; rfl) (by decide) rfl (fun ls hl => ?_)
          exact hJ_6 x2_10 _ _ _ hf hd (lv_sub hl [1, 2, 0, 3, 4] rfl)
        · have hf := br_y c_9 hf
          refine lv_iload_n hc.x hc.b dX4_evenPair_39 rfl (lv_at hl 2 rfl) ?_
          refine lv_iload hc.x hc.b dX4_evenPair_40 (lv_at hl 4 rfl) ?_
          obtain ⟨r_12, hq_11, hf⟩ := on_s hf
          refine k_i (k_runSN hc hd my_X11_pair hc.kc.2.2.2.2.2.2.1 (c_X11_pair l D cs B0 kt α Lv S x3 x4 hc.cl   hq_11) rfl rfl hl.1 (Nat.le_of_ble_eq_true rfl) ⟨Nat.le_of_ble_eq_true rfl, Nat.le_of_ble_eq_true rfl, Nat.zero_le _, Nat.zero_le _⟩ dX4_evenPair_42) hd (fun H locs hd => ?_)
          cases hf
          exact r_iret hc hd hr dX4_evenPair_45
set_option maxRecDepth 100000 in
set_option maxHeartbeats 4000000 in
theorem w_X4_evenPair_4 (hc : Cx p s m args meth c cX4_evenPair 5 "PumpCrossing$Game" D cs B0 kt Lv) (hr : meth.sig.returnType = some .int) {o : Int32}  {g0 : Nat} {x1 : Int32} {S : St} {K : Unit → Option (Int32)} (hL0 : Lv 36 g0) (hK : ∀ (_u : Unit) (H : Heap) (locs : List Loc) (ls : Array Slot), K _u = some o → Dy s D cs B0 α Lv S H locs → lv_has ls 5 [] → W p l e (Rm 1 0 0) s m args below meth c H locs 0 0 (MQ below (Qi D cs B0 α Lv o S) args s 0 0 (AB B0)) (F0 m 61 ls [])) : ∀ (n : Nat) (x2 : Int32) (x3 : Int32) (H : Heap) (locs : List Loc) (ls : Array Slot), f_X4_evenPair_4 g0 x1 S K n x2 x3 = some o → Dy s D cs B0 α Lv S H locs → lv_has ls 5 [(0, .ref (α 36 g0)), (1, .int x1), (2, .int x2), (3, .int x3)] → W p l e (Rm 1 0 0) s m args below meth c H locs 0 0 (MQ below (Qi D cs B0 α Lv o S) args s 0 0 (AB B0)) (F0 m 4 ls []) := by
  intro n
  induction n with
  | zero =>
    intro x2 x3 H locs ls hf
    rw [f_X4_evenPair_4] at hf
    cases hf
  | succ n ih =>
    intro x2 x3 H locs ls hf hd hl
    rw [f_X4_evenPair_4] at hf
    refine lv_iload_n hc.x hc.b dX4_evenPair_4 rfl (lv_at hl 3 rfl) ?_
    refine lv_aload_n hc.x hc.b dX4_evenPair_5 rfl (lv_at hl 0 rfl) ?_
    refine fg_36_0 hc hd hL0 tw_297 dX4_evenPair_6 ?_
    refine lv_icmp_ge (tgt := 61) hc.x hc.b dX4_evenPair_9 (by decide) (fun c_1 => ?_) (fun c_1 => ?_)
    · have hf := br_y c_1 hf
      exact hK ()  _ _ _ hf hd (lv_sub hl [] rfl)
    · have hf := br_n c_1 hf
      refine lv_iconst (v := 0) hc.x hc.b dX4_evenPair_12 (by decide) ?_
      refine lv_istore (lv' := [(4, .int 0), (0, .ref (α 36 g0)), (1, .int x1), (2, .int x2), (3, .int x3)]) hc.x hc.b dX4_evenPair_13 hl (by decide) rfl (fun ls hl => ?_)
      refine w_X4_evenPair_15 hc hr hL0 ?_ _ _ _ _ _ _ hf hd (lv_sub hl [1, 2, 4, 3, 0] rfl)
      intro x2_13 H locs ls hf hd hl
      obtain ⟨x3_14, ex3_14⟩ : ∃ z : Int32, z = x3 + 1 := ⟨_, rfl⟩
      have hf := bv_n ex3_14 hf
      refine lv_iinc (v := x3_14) (lv' := [(3, .int x3_14), (0, .ref (α 36 g0)), (1, .int x1), (2, .int x2_13)]) hc.x hc.b dX4_evenPair_55 hl (k := 3) rfl (by rw [ex3_14]; rfl) (by decide) rfl (fun ls hl => ?_)
      refine lv_goto (tgt := 4) hc.x hc.b dX4_evenPair_58 (by decide) ?_
      exact ih x2_13 x3_14 _ _ _ hf hd (lv_sub hl [1, 2, 3, 0] rfl)
set_option maxRecDepth 100000 in
set_option maxHeartbeats 4000000 in
theorem b_X4_evenPair (hc : Cx p s m args meth c cX4_evenPair 5 "PumpCrossing$Game" D cs B0 kt Lv) (hr : meth.sig.returnType = some .int)  {o : Int32}  {S : St} {g0 : Nat} {x1 : Int32} (hL0 : Lv 36 g0) {H : Heap} {locs : List Loc} {ls : Array Slot} (hf : f_X4_evenPair g0 x1 S = some o) (hd : Dy s D cs B0 α Lv S H locs) (hl : lv_has ls 5 [(0, .ref (α 36 g0)), (1, .int x1)]) : W p l e (Rm 1 0 0) s m args below meth c H locs 0 0 (MQ below (Qi D cs B0 α Lv o S) args s 0 0 (AB B0)) (F0 m 0 ls []) := by
  unfold f_X4_evenPair at hf
  refine lv_iconst (v := 0) hc.x hc.b dX4_evenPair_0 (by decide) ?_
  refine lv_istore_n (lv' := [(2, .int 0), (0, .ref (α 36 g0)), (1, .int x1)]) hc.x hc.b dX4_evenPair_1 rfl hl (by decide) rfl (fun ls hl => ?_)
  refine lv_iconst (v := 0) hc.x hc.b dX4_evenPair_2 (by decide) ?_
  refine lv_istore_n (lv' := [(3, .int 0), (2, .int 0), (0, .ref (α 36 g0)), (1, .int x1)]) hc.x hc.b dX4_evenPair_3 rfl hl (by decide) rfl (fun ls hl => ?_)
  refine w_X4_evenPair_4 hc hr hL0 ?_ _ _ _ _ _ _ hf hd (lv_sub hl [2, 3, 1, 0] rfl)
  intro _u H locs ls hf hd hl
  refine lv_iconst (v := (-1)) hc.x hc.b dX4_evenPair_61 (by decide) ?_
  cases hf
  exact r_iret hc hd hr dX4_evenPair_62
theorem c_X4_evenPair (l : Launch) (D : va_G) (cs : Nat → ClassId) (B0 : Nat) (kt : (Nat → Nat) × (Nat → Nat)) (α : Nat → Nat → Nat) (Lv : Nat → Nat → Prop) (S : St) (g0 : Nat) (x1 : Int32) (hcl : Cl Lv) (hL0 : Lv 36 g0) {o : Int32} (hf : f_X4_evenPair g0 x1 S = some o) : Met l yX4_evenPair (wz yX4_evenPair cX4_evenPair 5 (some .int)) (Rm 1 0 0) (Pz D cs B0 kt α Lv S [.ref (α 36 g0), .int x1]) (Qi D cs B0 α Lv o S) 0 0 (AB B0) := met_of (by decide) rfl hcl (Nat.le_of_ble_eq_true rfl) (fun p e s m below meth c hc hr hd ls hl => b_X4_evenPair hc hr hL0 hf hd hl)
theorem my_X4_evenPair : MyV yX4_evenPair "PumpCrossing$Game" cX4_evenPair 5 (some .int) 1 := ⟨tw_1034, tw_1035, tw_9, tw_1036, by decide +kernel⟩
def f_X4_evenPairs_14 (g0 : Nat) (x2 : Int32) (S : St) (K : Int32 → Option (Int32)) : Nat → Int32 → Int32 → Option (Int32)
  | 0, _, _ => none
  | n + 1, x1, x3 => br ((gi S 36 g0 0) ≤ x3) (K x1) (on (f_X4_isEven g0 x2 x3 S) (fun r_4 => bv (fun (v_5 : Int32) => bv (x1 + v_5) (fun x1_7 => bv (x3 + 1) (fun x3_8 => f_X4_evenPairs_14 g0 x2 S K n x1_7 x3_8))) (fun J_6 => br (r_4 = 0) (J_6 0) (J_6 1))))
def f_X4_evenPairs_4 (g0 : Nat) (S : St) (K : Int32 → Option (Int32)) : Nat → Int32 → Int32 → Option (Int32)
  | 0, _, _ => none
  | n + 1, x1, x2 => br ((gi S 36 g0 0) ≤ x2) (K x1) (f_X4_evenPairs_14 g0 x2 S (fun (x1_10 : Int32) => bv (x2 + 1) (fun x2_11 => f_X4_evenPairs_4 g0 S K n x1_10 x2_11)) FU x1 0)
def f_X4_evenPairs (g0 : Nat) (S : St) : Option (Int32) := f_X4_evenPairs_4 g0 S (fun (x1_12 : Int32) => some x1_12) FU 0 0
set_option maxRecDepth 100000 in
set_option maxHeartbeats 4000000 in
theorem w_X4_evenPairs_14 (hc : Cx p s m args meth c cX4_evenPairs 4 "PumpCrossing$Game" D cs B0 kt Lv) (hr : meth.sig.returnType = some .int) {o : Int32}  {g0 : Nat} {x2 : Int32} {S : St} {K : Int32 → Option (Int32)} (hL0 : Lv 36 g0) (hK : ∀ (k1 : Int32) (H : Heap) (locs : List Loc) (ls : Array Slot), K k1 = some o → Dy s D cs B0 α Lv S H locs → lv_has ls 4 [(0, .ref (α 36 g0)), (1, .int k1), (2, .int x2)] → W p l e (Rm 1 0 0) s m args below meth c H locs 0 0 (MQ below (Qi D cs B0 α Lv o S) args s 0 0 (AB B0)) (F0 m 45 ls [])) : ∀ (n : Nat) (x1 : Int32) (x3 : Int32) (H : Heap) (locs : List Loc) (ls : Array Slot), f_X4_evenPairs_14 g0 x2 S K n x1 x3 = some o → Dy s D cs B0 α Lv S H locs → lv_has ls 4 [(0, .ref (α 36 g0)), (2, .int x2), (1, .int x1), (3, .int x3)] → W p l e (Rm 1 0 0) s m args below meth c H locs 0 0 (MQ below (Qi D cs B0 α Lv o S) args s 0 0 (AB B0)) (F0 m 14 ls []) := by
  intro n
  induction n with
  | zero =>
    intro x1 x3 H locs ls hf
    rw [f_X4_evenPairs_14] at hf
    cases hf
  | succ n ih =>
    intro x1 x3 H locs ls hf hd hl
    rw [f_X4_evenPairs_14] at hf
    refine lv_iload_n hc.x hc.b dX4_evenPairs_14 rfl (lv_at hl 3 rfl) ?_
    refine lv_aload_n hc.x hc.b dX4_evenPairs_15 rfl (lv_at hl 0 rfl) ?_
    refine fg_36_0 hc hd hL0 tw_297 dX4_evenPairs_16 ?_
    refine lv_icmp_ge (tgt := 45) hc.x hc.b dX4_evenPairs_19 (by decide) (fun c_2 => ?_) (fun c_2 => ?_)
    · have hf := br_y c_2 hf
      exact hK x1 _ _ _ hf hd (lv_sub hl [0, 2, 1] rfl)
    · have hf := br_n c_2 hf
      refine lv_iload_n hc.x hc.b dX4_evenPairs_22 rfl (lv_at hl 2 rfl) ?_
      refine lv_aload_n hc.x hc.b dX4_evenPairs_23 rfl (lv_at hl 0 rfl) ?_
      refine lv_iload_n hc.x hc.b dX4_evenPairs_24 rfl (lv_at hl 1 rfl) ?_
      refine lv_iload_n hc.x hc.b dX4_evenPairs_25 rfl (lv_at hl 3 rfl) ?_
      obtain ⟨r_4, hq_3, hf⟩ := on_s hf
      refine k_i (k_runV hc hd my_X4_isEven tw_1029 hL0 rfl rfl rfl (c_X4_isEven l D cs B0 kt α Lv S g0 x2 x3 hc.cl hL0  hq_3) rfl rfl hl.1 (Nat.le_of_ble_eq_true rfl) ⟨Nat.le_of_ble_eq_true rfl, Nat.le_of_ble_eq_true rfl, Nat.zero_le _, Nat.zero_le _⟩ dX4_evenPairs_26) hd (fun H locs hd => ?_)
      refine jn_s (P := fun J_6 => ∀ (v_5 : Int32) (H : Heap) (locs : List Loc) (ls : Array Slot), J_6 v_5 = some o → Dy s D cs B0 α Lv S H locs → lv_has ls 4 [(0, .ref (α 36 g0)), (2, .int x2), (3, .int x3)] → W p l e (Rm 1 0 0) s m args below meth c H locs 0 0 (MQ below (Qi D cs B0 α Lv o S) args s 0 0 (AB B0)) (F0 m 37 ls [.int v_5, .int x1])) hf ?_ (fun J_6 hJ_6 hf => ?_)
      · intro v_5 H locs ls hf hd hl
        refine lv_iadd hc.x hc.b dX4_evenPairs_37 ?_
        refine lv_topi (fun x1_7 ex1_7 => ?_)
        have hf := bv_n ex1_7 hf
        refine lv_istore_n (lv' := [(1, .int x1_7), (0, .ref (α 36 g0)), (2, .int x2), (3, .int x3)]) hc.x hc.b dX4_evenPairs_38 rfl hl (by decide) rfl (fun ls hl => ?_)
        obtain ⟨x3_8, ex3_8⟩ : ∃ z : Int32, z = x3 + 1 := ⟨_, rfl⟩
        have hf := bv_n ex3_8 hf
        refine lv_iinc (v := x3_8) (lv' := [(3, .int x3_8), (1, .int x1_7), (0, .ref (α 36 g0)), (2, .int x2)]) hc.x hc.b dX4_evenPairs_39 hl (k := 3) rfl (by rw [ex3_8]; rfl) (by decide) rfl (fun ls hl => ?_)
        refine lv_goto (tgt := 14) hc.x hc.b dX4_evenPairs_42 (by decide) ?_
        exact ih x1_7 x3_8 _ _ _ hf hd (lv_sub hl [2, 3, 1, 0] rfl)
      refine lv_if_eq (tgt := 36) hc.x hc.b dX4_evenPairs_29 (by decide) (fun c_9 => ?_) (fun c_9 => ?_)
      · have hf := br_y c_9 hf
        refine lv_iconst (v := 0) hc.x hc.b dX4_evenPairs_36 (by decide) ?_
        exact hJ_6 0 _ _ _ hf hd (lv_sub hl [0, 1, 3] rfl)
      · have hf := br_n c_9 hf
        refine lv_iconst (v := 1) hc.x hc.b dX4_evenPairs_32 (by decide) ?_
        refine lv_goto (tgt := 37) hc.x hc.b dX4_evenPairs_33 (by decide) ?_
        exact hJ_6 1 _ _ _ hf hd (lv_sub hl [0, 1, 3] rfl)
set_option maxRecDepth 100000 in
set_option maxHeartbeats 4000000 in
theorem w_X4_evenPairs_4 (hc : Cx p s m args meth c cX4_evenPairs 4 "PumpCrossing$Game" D cs B0 kt Lv) (hr : meth.sig.returnType = some .int) {o : Int32}  {g0 : Nat} {S : St} {K : Int32 → Option (Int32)} (hL0 : Lv 36 g0) (hK : ∀ (k1 : Int32) (H : Heap) (locs : List Loc) (ls : Array Slot), K k1 = some o → Dy s D cs B0 α Lv S H locs → lv_has ls 4 [(1, .int k1)] → W p l e (Rm 1 0 0) s m args below meth c H locs 0 0 (MQ below (Qi D cs B0 α Lv o S) args s 0 0 (AB B0)) (F0 m 51 ls [])) : ∀ (n : Nat) (x1 : Int32) (x2 : Int32) (H : Heap) (locs : List Loc) (ls : Array Slot), f_X4_evenPairs_4 g0 S K n x1 x2 = some o → Dy s D cs B0 α Lv S H locs → lv_has ls 4 [(0, .ref (α 36 g0)), (1, .int x1), (2, .int x2)] → W p l e (Rm 1 0 0) s m args below meth c H locs 0 0 (MQ below (Qi D cs B0 α Lv o S) args s 0 0 (AB B0)) (F0 m 4 ls []) := by
  intro n
  induction n with
  | zero =>
    intro x1 x2 H locs ls hf
    rw [f_X4_evenPairs_4] at hf
    cases hf
  | succ n ih =>
    intro x1 x2 H locs ls hf hd hl
    rw [f_X4_evenPairs_4] at hf
    refine lv_iload_n hc.x hc.b dX4_evenPairs_4 rfl (lv_at hl 2 rfl) ?_
    refine lv_aload_n hc.x hc.b dX4_evenPairs_5 rfl (lv_at hl 0 rfl) ?_
    refine fg_36_0 hc hd hL0 tw_297 dX4_evenPairs_6 ?_
    refine lv_icmp_ge (tgt := 51) hc.x hc.b dX4_evenPairs_9 (by decide) (fun c_1 => ?_) (fun c_1 => ?_)
    · have hf := br_y c_1 hf
      exact hK x1 _ _ _ hf hd (lv_sub hl [1] rfl)
    · have hf := br_n c_1 hf
      refine lv_iconst (v := 0) hc.x hc.b dX4_evenPairs_12 (by decide) ?_
      refine lv_istore_n (lv' := [(3, .int 0), (0, .ref (α 36 g0)), (1, .int x1), (2, .int x2)]) hc.x hc.b dX4_evenPairs_13 rfl hl (by decide) rfl (fun ls hl => ?_)
      refine w_X4_evenPairs_14 hc hr hL0 ?_ _ _ _ _ _ _ hf hd (lv_sub hl [1, 3, 2, 0] rfl)
      intro x1_10 H locs ls hf hd hl
      obtain ⟨x2_11, ex2_11⟩ : ∃ z : Int32, z = x2 + 1 := ⟨_, rfl⟩
      have hf := bv_n ex2_11 hf
      refine lv_iinc (v := x2_11) (lv' := [(2, .int x2_11), (0, .ref (α 36 g0)), (1, .int x1_10)]) hc.x hc.b dX4_evenPairs_45 hl (k := 2) rfl (by rw [ex2_11]; rfl) (by decide) rfl (fun ls hl => ?_)
      refine lv_goto (tgt := 4) hc.x hc.b dX4_evenPairs_48 (by decide) ?_
      exact ih x1_10 x2_11 _ _ _ hf hd (lv_sub hl [1, 2, 0] rfl)
set_option maxRecDepth 100000 in
set_option maxHeartbeats 4000000 in
theorem b_X4_evenPairs (hc : Cx p s m args meth c cX4_evenPairs 4 "PumpCrossing$Game" D cs B0 kt Lv) (hr : meth.sig.returnType = some .int)  {o : Int32}  {S : St} {g0 : Nat} (hL0 : Lv 36 g0) {H : Heap} {locs : List Loc} {ls : Array Slot} (hf : f_X4_evenPairs g0 S = some o) (hd : Dy s D cs B0 α Lv S H locs) (hl : lv_has ls 4 [(0, .ref (α 36 g0))]) : W p l e (Rm 1 0 0) s m args below meth c H locs 0 0 (MQ below (Qi D cs B0 α Lv o S) args s 0 0 (AB B0)) (F0 m 0 ls []) := by
  unfold f_X4_evenPairs at hf
  refine lv_iconst (v := 0) hc.x hc.b dX4_evenPairs_0 (by decide) ?_
  refine lv_istore_n (lv' := [(1, .int 0), (0, .ref (α 36 g0))]) hc.x hc.b dX4_evenPairs_1 rfl hl (by decide) rfl (fun ls hl => ?_)
  refine lv_iconst (v := 0) hc.x hc.b dX4_evenPairs_2 (by decide) ?_
  refine lv_istore_n (lv' := [(2, .int 0), (1, .int 0), (0, .ref (α 36 g0))]) hc.x hc.b dX4_evenPairs_3 rfl hl (by decide) rfl (fun ls hl => ?_)
  refine w_X4_evenPairs_4 hc hr hL0 ?_ _ _ _ _ _ _ hf hd (lv_sub hl [2, 1, 0] rfl)
  intro x1_12 H locs ls hf hd hl
  refine lv_iload_n hc.x hc.b dX4_evenPairs_51 rfl (lv_at hl 0 rfl) ?_
  cases hf
  exact r_iret hc hd hr dX4_evenPairs_52
theorem c_X4_evenPairs (l : Launch) (D : va_G) (cs : Nat → ClassId) (B0 : Nat) (kt : (Nat → Nat) × (Nat → Nat)) (α : Nat → Nat → Nat) (Lv : Nat → Nat → Prop) (S : St) (g0 : Nat) (hcl : Cl Lv) (hL0 : Lv 36 g0) {o : Int32} (hf : f_X4_evenPairs g0 S = some o) : Met l yX4_evenPairs (wz yX4_evenPairs cX4_evenPairs 4 (some .int)) (Rm 1 0 0) (Pz D cs B0 kt α Lv S [.ref (α 36 g0)]) (Qi D cs B0 α Lv o S) 0 0 (AB B0) := met_of (by decide) rfl hcl (Nat.le_of_ble_eq_true rfl) (fun p e s m below meth c hc hr hd ls hl => b_X4_evenPairs hc hr hL0 hf hd hl)
theorem my_X4_evenPairs : MyV yX4_evenPairs "PumpCrossing$Game" cX4_evenPairs 4 (some .int) 0 := ⟨tw_1026, tw_1027, tw_9, tw_1028, by decide +kernel⟩
def f_X4_moverSum (g0 : Nat) (x1 : Int32) (x2 : Int32) (x3 : Int32) (S : St) : Option (Int32) := bv (rmI x1 2) (fun q_1 => bv (fun (v_2 : Int32) => ck (inb (x1 + 1) 41 = true) (ck (inb x2 8 = true) (some (v_2 + (gi S 58 ((nn (x1 + 1))) (nn x2)))))) (fun J_3 => br (q_1 = 0) (ck (inb x2 8 = true) (ck (inb x3 8 = true) (J_3 (gi S 38 ((nn x2)) (nn x3))))) (ck (inb x3 8 = true) (ck (inb x2 8 = true) (J_3 (gi S 40 ((nn x3)) (nn x2)))))))
set_option maxRecDepth 100000 in
set_option maxHeartbeats 4000000 in
theorem b_X4_moverSum (hc : Cx p s m args meth c cX4_moverSum 5 "PumpCrossing$Game" D cs B0 kt Lv) (hr : meth.sig.returnType = some .int)  {o : Int32}  {S : St} {g0 : Nat} {x1 : Int32} {x2 : Int32} {x3 : Int32} (hL0 : Lv 36 g0) {H : Heap} {locs : List Loc} {ls : Array Slot} (hf : f_X4_moverSum g0 x1 x2 x3 S = some o) (hd : Dy s D cs B0 α Lv S H locs) (hl : lv_has ls 5 [(0, .ref (α 36 g0)), (1, .int x1), (2, .int x2), (3, .int x3)]) : W p l e (Rm 0 0 0) s m args below meth c H locs 0 0 (MQ below (Qi D cs B0 α Lv o S) args s 0 0 (AB B0)) (F0 m 0 ls []) := by
  unfold f_X4_moverSum at hf
  refine lv_iload_n hc.x hc.b dX4_moverSum_0 rfl (lv_at hl 1 rfl) ?_
  refine lv_iconst (v := 2) hc.x hc.b dX4_moverSum_1 (by decide) ?_
  refine lv_irem hc.x hc.b dX4_moverSum_2 (by decide) ?_
  refine lv_topi (fun q_1 eq_1 => ?_)
  have hf := bv_n eq_1 hf
  refine jn_s (P := fun J_3 => ∀ (v_2 : Int32) (H : Heap) (locs : List Loc) (ls : Array Slot), J_3 v_2 = some o → Dy s D cs B0 α Lv S H locs → lv_has ls 5 [(0, .ref (α 36 g0)), (1, .int x1), (2, .int x2)] → W p l e (Rm 0 0 0) s m args below meth c H locs 0 0 (MQ below (Qi D cs B0 α Lv o S) args s 0 0 (AB B0)) (F0 m 25 ls [.int v_2])) hf ?_ (fun J_3 hJ_3 hf => ?_)
  · intro v_2 H locs ls hf hd hl
    refine lv_istore (lv' := [(4, .int v_2), (0, .ref (α 36 g0)), (1, .int x1), (2, .int x2)]) hc.x hc.b dX4_moverSum_25 hl (by decide) rfl (fun ls hl => ?_)
    refine lv_iload hc.x hc.b dX4_moverSum_27 (lv_at hl 0 rfl) ?_
    refine lv_aload_n hc.x hc.b dX4_moverSum_29 rfl (lv_at hl 1 rfl) ?_
    refine fg_36_6 hc hd hL0 tw_308 dX4_moverSum_30 ?_
    refine lv_iload_n hc.x hc.b dX4_moverSum_33 rfl (lv_at hl 2 rfl) ?_
    refine lv_iconst (v := 1) hc.x hc.b dX4_moverSum_34 (by decide) ?_
    refine lv_iadd hc.x hc.b dX4_moverSum_35 ?_
    obtain ⟨hi_4, hf⟩ := ck_s hf
    refine r_aald hc hd (cl_36_waiterSums hc.cl hL0) (t0 := 6) rfl rfl rfl hi_4 dX4_moverSum_36 ?_
    show W p l e (Rm 0 0 0) s m args below meth c H locs 0 0 (MQ below (Qi D cs B0 α Lv o S) args s 0 0 (AB B0)) (F0 m 37 ls [.ref (α 58 ((nn (x1 + 1)))), .int v_2])
    refine lv_iload_n hc.x hc.b dX4_moverSum_37 rfl (lv_at hl 3 rfl) ?_
    obtain ⟨hi_5, hf⟩ := ck_s hf
    refine r_iald hc hd (cl_47 hc.cl (cl_36_waiterSums hc.cl hL0) (inb_lt hi_4)) rfl hi_5 dX4_moverSum_38 ?_
    refine lv_iadd hc.x hc.b dX4_moverSum_39 ?_
    cases hf
    exact r_iret hc hd hr dX4_moverSum_40
  refine lv_if_ne (tgt := 17) hc.x hc.b dX4_moverSum_3 (by decide) (fun c_6 => ?_) (fun c_6 => ?_)
  · have hf := br_n c_6 hf
    refine lv_aload_n hc.x hc.b dX4_moverSum_17 rfl (lv_at hl 0 rfl) ?_
    refine fg_36_2 hc hd hL0 tw_301 dX4_moverSum_18 ?_
    refine lv_iload_n hc.x hc.b dX4_moverSum_21 rfl (lv_at hl 3 rfl) ?_
    obtain ⟨hi_7, hf⟩ := ck_s hf
    refine r_aald hc hd (cl_36_gainB hc.cl hL0) (t0 := 6) rfl rfl rfl hi_7 dX4_moverSum_22 ?_
    show W p l e (Rm 0 0 0) s m args below meth c H locs 0 0 (MQ below (Qi D cs B0 α Lv o S) args s 0 0 (AB B0)) (F0 m 23 ls [.ref (α 40 ((nn x3)))])
    refine lv_iload_n hc.x hc.b dX4_moverSum_23 rfl (lv_at hl 2 rfl) ?_
    obtain ⟨hi_8, hf⟩ := ck_s hf
    refine r_iald hc hd (cl_39 hc.cl (cl_36_gainB hc.cl hL0) (inb_lt hi_7)) rfl hi_8 dX4_moverSum_24 ?_
    exact hJ_3 (gi S 40 ((nn x3)) (nn x2)) _ _ _ hf hd (lv_sub hl [0, 1, 2] rfl)
  · have hf := br_y c_6 hf
    refine lv_aload_n hc.x hc.b dX4_moverSum_6 rfl (lv_at hl 0 rfl) ?_
    refine fg_36_1 hc hd hL0 tw_298 dX4_moverSum_7 ?_
    refine lv_iload_n hc.x hc.b dX4_moverSum_10 rfl (lv_at hl 2 rfl) ?_
    obtain ⟨hi_9, hf⟩ := ck_s hf
    refine r_aald hc hd (cl_36_gainA hc.cl hL0) (t0 := 6) rfl rfl rfl hi_9 dX4_moverSum_11 ?_
    show W p l e (Rm 0 0 0) s m args below meth c H locs 0 0 (MQ below (Qi D cs B0 α Lv o S) args s 0 0 (AB B0)) (F0 m 12 ls [.ref (α 38 ((nn x2)))])
    refine lv_iload_n hc.x hc.b dX4_moverSum_12 rfl (lv_at hl 3 rfl) ?_
    obtain ⟨hi_10, hf⟩ := ck_s hf
    refine r_iald hc hd (cl_37 hc.cl (cl_36_gainA hc.cl hL0) (inb_lt hi_9)) rfl hi_10 dX4_moverSum_13 ?_
    refine lv_goto (tgt := 25) hc.x hc.b dX4_moverSum_14 (by decide) ?_
    exact hJ_3 (gi S 38 ((nn x2)) (nn x3)) _ _ _ hf hd (lv_sub hl [0, 1, 2] rfl)
theorem c_X4_moverSum (l : Launch) (D : va_G) (cs : Nat → ClassId) (B0 : Nat) (kt : (Nat → Nat) × (Nat → Nat)) (α : Nat → Nat → Nat) (Lv : Nat → Nat → Prop) (S : St) (g0 : Nat) (x1 : Int32) (x2 : Int32) (x3 : Int32) (hcl : Cl Lv) (hL0 : Lv 36 g0) {o : Int32} (hf : f_X4_moverSum g0 x1 x2 x3 S = some o) : Met l yX4_moverSum (wz yX4_moverSum cX4_moverSum 5 (some .int)) (Rm 0 0 0) (Pz D cs B0 kt α Lv S [.ref (α 36 g0), .int x1, .int x2, .int x3]) (Qi D cs B0 α Lv o S) 0 0 (AB B0) := met_of (by decide) rfl hcl (Nat.le_of_ble_eq_true rfl) (fun p e s m below meth c hc hr hd ls hl => b_X4_moverSum hc hr hL0 hf hd hl)
theorem my_X4_moverSum : MyV yX4_moverSum "PumpCrossing$Game" cX4_moverSum 5 (some .int) 3 := ⟨tw_1076, (in_sel 24 (by decide +kernel) (by decide +kernel)), tw_9, tw_1077, by decide +kernel⟩
def f_X4_foreseeTurn_14 (g0 : Nat) (x1 : Int32) (x2 : Int32) (K : Int32 → Int32 → St → Option (St)) : Nat → Int32 → Int32 → Int32 → St → Option (St)
  | 0, _, _, _, _ => none
  | n + 1, x3, x4, x5, S => br ((gi S 36 g0 0) ≤ x5) (K x3 x4 S) (on (f_X4_moverSum g0 x1 x5 x2 S) (fun r_5 => bv (fun (x3_6 : Int32) (x4_7 : Int32) (S_8 : St) => bv (x5 + 1) (fun x5_10 => f_X4_foreseeTurn_14 g0 x1 x2 K n x3_6 x4_7 x5_10 S_8)) (fun J_9 => br (r_5 ≤ x4) (J_9 x3 x4 S) (J_9 x5 r_5 S))))
def f_X4_foreseeTurn (g0 : Nat) (x1 : Int32) (x2 : Int32) (S : St) : Option (St) := on (f_X4_moverSum g0 x1 0 x2 S) (fun r_2 => f_X4_foreseeTurn_14 g0 x1 x2 (fun (x3_12 : Int32) (x4_13 : Int32) (S_14 : St) => ck (inb x1 40 = true) (ck (inb x2 8 = true) (bv (si S_14 42 ((nn x1)) (nn x2) x3_12) (fun S_17 => ck (inb x1 41 = true) (ck (inb x2 8 = true) (bv (si S_17 48 ((nn x1)) (nn x2) x4_13) (fun S_20 => bv (rmI x1 2) (fun q_21 => bv (fun (v_22 : Int32) (S_23 : St) => ck (inb x1 41 = true) (ck (inb (x1 + 1) 41 = true) (ck (inb x3_12 8 = true) (ck (inb x2 8 = true) (bv (si S_23 58 ((nn x1)) (nn x2) (v_22 + (gi S_23 48 ((nn (x1 + 1))) (nn x3_12)))) (fun S_29 => some S_29)))))) (fun J_24 => br (q_21 = 0) (ck (inb x3_12 8 = true) (ck (inb x2 8 = true) (J_24 (gi S_20 40 ((nn x3_12)) (nn x2)) S_20))) (ck (inb x2 8 = true) (ck (inb x3_12 8 = true) (J_24 (gi S_20 38 ((nn x2)) (nn x3_12)) S_20)))))))))))) FU 0 r_2 1 S)
set_option maxRecDepth 100000 in
set_option maxHeartbeats 4000000 in
theorem w_X4_foreseeTurn_14 (hc : Cx p s m args meth c cX4_foreseeTurn 7 "PumpCrossing$Game" D cs B0 kt Lv) (hr : meth.sig.returnType = none) {o : St}  {g0 : Nat} {x1 : Int32} {x2 : Int32} {K : Int32 → Int32 → St → Option (St)} (hL0 : Lv 36 g0) (hK : ∀ (k3 : Int32) (k4 : Int32) (S : St) (H : Heap) (locs : List Loc) (ls : Array Slot), K k3 k4 S = some o → Dy s D cs B0 α Lv S H locs → lv_has ls 7 [(0, .ref (α 36 g0)), (1, .int x1), (2, .int x2), (3, .int k3), (4, .int k4)] → W p l e (Rm 1 0 0) s m args below meth c H locs 0 0 (MQ below (Qv D cs B0 α Lv o) args s 0 0 (AB B0)) (F0 m 53 ls [])) : ∀ (n : Nat) (x3 : Int32) (x4 : Int32) (x5 : Int32) (S : St) (H : Heap) (locs : List Loc) (ls : Array Slot), f_X4_foreseeTurn_14 g0 x1 x2 K n x3 x4 x5 S = some o → Dy s D cs B0 α Lv S H locs → lv_has ls 7 [(0, .ref (α 36 g0)), (1, .int x1), (2, .int x2), (3, .int x3), (4, .int x4), (5, .int x5)] → W p l e (Rm 1 0 0) s m args below meth c H locs 0 0 (MQ below (Qv D cs B0 α Lv o) args s 0 0 (AB B0)) (F0 m 14 ls []) := by
  intro n
  induction n with
  | zero =>
    intro x3 x4 x5 S H locs ls hf
    rw [f_X4_foreseeTurn_14] at hf
    cases hf
  | succ n ih =>
    intro x3 x4 x5 S H locs ls hf hd hl
    rw [f_X4_foreseeTurn_14] at hf
    refine lv_iload hc.x hc.b dX4_foreseeTurn_14 (lv_at hl 5 rfl) ?_
    refine lv_aload_n hc.x hc.b dX4_foreseeTurn_16 rfl (lv_at hl 0 rfl) ?_
    refine fg_36_0 hc hd hL0 tw_297 dX4_foreseeTurn_17 ?_
    refine lv_icmp_ge (tgt := 53) hc.x hc.b dX4_foreseeTurn_20 (by decide) (fun c_3 => ?_) (fun c_3 => ?_)
    · have hf := br_y c_3 hf
      exact hK x3 x4 S _ _ _ hf hd (lv_sub hl [0, 1, 2, 3, 4] rfl)
    · have hf := br_n c_3 hf
      refine lv_aload_n hc.x hc.b dX4_foreseeTurn_23 rfl (lv_at hl 0 rfl) ?_
      refine lv_iload_n hc.x hc.b dX4_foreseeTurn_24 rfl (lv_at hl 1 rfl) ?_
      refine lv_iload hc.x hc.b dX4_foreseeTurn_25 (lv_at hl 5 rfl) ?_
      refine lv_iload_n hc.x hc.b dX4_foreseeTurn_27 rfl (lv_at hl 2 rfl) ?_
      obtain ⟨r_5, hq_4, hf⟩ := on_s hf
      refine k_i (k_runV hc hd my_X4_moverSum tw_1074 hL0 rfl rfl rfl (c_X4_moverSum l D cs B0 kt α Lv S g0 x1 x5 x2 hc.cl hL0  hq_4) rfl rfl hl.1 (Nat.le_of_ble_eq_true rfl) ⟨Nat.le_of_ble_eq_true rfl, Nat.le_of_ble_eq_true rfl, Nat.zero_le _, Nat.zero_le _⟩ dX4_foreseeTurn_28) hd (fun H locs hd => ?_)
      refine lv_istore (lv' := [(6, .int r_5), (0, .ref (α 36 g0)), (1, .int x1), (2, .int x2), (3, .int x3), (4, .int x4), (5, .int x5)]) hc.x hc.b dX4_foreseeTurn_31 hl (by decide) rfl (fun ls hl => ?_)
      refine lv_iload hc.x hc.b dX4_foreseeTurn_33 (lv_at hl 0 rfl) ?_
      refine lv_iload hc.x hc.b dX4_foreseeTurn_35 (lv_at hl 5 rfl) ?_
      refine jn_s (P := fun J_9 => ∀ (x3_6 : Int32) (x4_7 : Int32) (S_8 : St) (H : Heap) (locs : List Loc) (ls : Array Slot), J_9 x3_6 x4_7 S_8 = some o → Dy s D cs B0 α Lv S_8 H locs → lv_has ls 7 [(0, .ref (α 36 g0)), (1, .int x1), (2, .int x2), (3, .int x3_6), (4, .int x4_7), (5, .int x5)] → W p l e (Rm 1 0 0) s m args below meth c H locs 0 0 (MQ below (Qv D cs B0 α Lv o) args s 0 0 (AB B0)) (F0 m 47 ls [])) hf ?_ (fun J_9 hJ_9 hf => ?_)
      · intro x3_6 x4_7 S_8 H locs ls hf hd hl
        obtain ⟨x5_10, ex5_10⟩ : ∃ z : Int32, z = x5 + 1 := ⟨_, rfl⟩
        have hf := bv_n ex5_10 hf
        refine lv_iinc (v := x5_10) (lv' := [(5, .int x5_10), (0, .ref (α 36 g0)), (1, .int x1), (2, .int x2), (3, .int x3_6), (4, .int x4_7)]) hc.x hc.b dX4_foreseeTurn_47 hl (k := 5) rfl (by rw [ex5_10]; rfl) (by decide) rfl (fun ls hl => ?_)
        refine lv_goto (tgt := 14) hc.x hc.b dX4_foreseeTurn_50 (by decide) ?_
        exact ih x3_6 x4_7 x5_10 S_8 _ _ _ hf hd (lv_sub hl [1, 2, 3, 4, 5, 0] rfl)
      refine lv_icmp_le (tgt := 47) hc.x hc.b dX4_foreseeTurn_37 (by decide) (fun c_11 => ?_) (fun c_11 => ?_)
      · have hf := br_y c_11 hf
        exact hJ_9 x3 x4 S _ _ _ hf hd (lv_sub hl [1, 2, 3, 4, 5, 6] rfl)
      · have hf := br_n c_11 hf
        refine lv_iload hc.x hc.b dX4_foreseeTurn_40 (lv_at hl 6 rfl) ?_
        refine lv_istore_n (lv' := [(3, .int x5), (6, .int r_5), (0, .ref (α 36 g0)), (1, .int x1), (2, .int x2), (4, .int x4), (5, .int x5)]) hc.x hc.b dX4_foreseeTurn_42 rfl hl (by decide) rfl (fun ls hl => ?_)
        refine lv_iload hc.x hc.b dX4_foreseeTurn_43 (lv_at hl 1 rfl) ?_
        refine lv_istore (lv' := [(4, .int r_5), (3, .int x5), (6, .int r_5), (0, .ref (α 36 g0)), (1, .int x1), (2, .int x2), (5, .int x5)]) hc.x hc.b dX4_foreseeTurn_45 hl (by decide) rfl (fun ls hl => ?_)
        exact hJ_9 x5 r_5 S _ _ _ hf hd (lv_sub hl [3, 4, 5, 1, 0, 6] rfl)
set_option maxRecDepth 100000 in
set_option maxHeartbeats 4000000 in
theorem b_X4_foreseeTurn (hc : Cx p s m args meth c cX4_foreseeTurn 7 "PumpCrossing$Game" D cs B0 kt Lv) (hr : meth.sig.returnType = none)  {o : St}  {S : St} {g0 : Nat} {x1 : Int32} {x2 : Int32} (hL0 : Lv 36 g0) {H : Heap} {locs : List Loc} {ls : Array Slot} (hf : f_X4_foreseeTurn g0 x1 x2 S = some o) (hd : Dy s D cs B0 α Lv S H locs) (hl : lv_has ls 7 [(0, .ref (α 36 g0)), (1, .int x1), (2, .int x2)]) : W p l e (Rm 1 0 0) s m args below meth c H locs 0 0 (MQ below (Qv D cs B0 α Lv o) args s 0 0 (AB B0)) (F0 m 0 ls []) := by
  unfold f_X4_foreseeTurn at hf
  refine lv_iconst (v := 0) hc.x hc.b dX4_foreseeTurn_0 (by decide) ?_
  refine lv_istore_n (lv' := [(3, .int 0), (0, .ref (α 36 g0)), (1, .int x1), (2, .int x2)]) hc.x hc.b dX4_foreseeTurn_1 rfl hl (by decide) rfl (fun ls hl => ?_)
  refine lv_aload_n hc.x hc.b dX4_foreseeTurn_2 rfl (lv_at hl 1 rfl) ?_
  refine lv_iload_n hc.x hc.b dX4_foreseeTurn_3 rfl (lv_at hl 2 rfl) ?_
  refine lv_iconst (v := 0) hc.x hc.b dX4_foreseeTurn_4 (by decide) ?_
  refine lv_iload_n hc.x hc.b dX4_foreseeTurn_5 rfl (lv_at hl 3 rfl) ?_
  obtain ⟨r_2, hq_1, hf⟩ := on_s hf
  refine k_i (k_runV hc hd my_X4_moverSum tw_1074 hL0 rfl rfl rfl (c_X4_moverSum l D cs B0 kt α Lv S g0 x1 0 x2 hc.cl hL0  hq_1) rfl rfl hl.1 (Nat.le_of_ble_eq_true rfl) ⟨Nat.le_of_ble_eq_true rfl, Nat.le_of_ble_eq_true rfl, Nat.zero_le _, Nat.zero_le _⟩ dX4_foreseeTurn_6) hd (fun H locs hd => ?_)
  refine lv_istore (lv' := [(4, .int r_2), (3, .int 0), (0, .ref (α 36 g0)), (1, .int x1), (2, .int x2)]) hc.x hc.b dX4_foreseeTurn_9 hl (by decide) rfl (fun ls hl => ?_)
  refine lv_iconst (v := 1) hc.x hc.b dX4_foreseeTurn_11 (by decide) ?_
  refine lv_istore (lv' := [(5, .int 1), (4, .int r_2), (3, .int 0), (0, .ref (α 36 g0)), (1, .int x1), (2, .int x2)]) hc.x hc.b dX4_foreseeTurn_12 hl (by decide) rfl (fun ls hl => ?_)
  refine w_X4_foreseeTurn_14 hc hr hL0 ?_ _ _ _ _ _ _ _ _ hf hd (lv_sub hl [3, 4, 5, 2, 1, 0] rfl)
  intro x3_12 x4_13 S_14 H locs ls hf hd hl
  refine lv_aload_n hc.x hc.b dX4_foreseeTurn_53 rfl (lv_at hl 0 rfl) ?_
  refine fg_36_4 hc hd hL0 tw_305 dX4_foreseeTurn_54 ?_
  refine lv_iload_n hc.x hc.b dX4_foreseeTurn_57 rfl (lv_at hl 1 rfl) ?_
  obtain ⟨hi_15, hf⟩ := ck_s hf
  refine r_aald hc hd (cl_36_choices hc.cl hL0) (t0 := 6) rfl rfl rfl hi_15 dX4_foreseeTurn_58 ?_
  show W p l e (Rm 1 0 0) s m args below meth c H locs 0 0 (MQ below (Qv D cs B0 α Lv o) args s 0 0 (AB B0)) (F0 m 59 ls [.ref (α 42 ((nn x1)))])
  refine lv_iload_n hc.x hc.b dX4_foreseeTurn_59 rfl (lv_at hl 2 rfl) ?_
  refine lv_iload_n hc.x hc.b dX4_foreseeTurn_60 rfl (lv_at hl 3 rfl) ?_
  obtain ⟨hi_16, hf⟩ := ck_s hf
  refine r_iast hc hd (cl_41 hc.cl (cl_36_choices hc.cl hL0) (inb_lt hi_15)) (fun _ => rfl) hi_16 dX4_foreseeTurn_61 (fun H locs hd => ?_)
  obtain ⟨S_17, hd, hf⟩ := nmD hd hf
  refine lv_aload_n hc.x hc.b dX4_foreseeTurn_62 rfl (lv_at hl 0 rfl) ?_
  refine fg_36_5 hc hd hL0 tw_306 dX4_foreseeTurn_63 ?_
  refine lv_iload_n hc.x hc.b dX4_foreseeTurn_66 rfl (lv_at hl 1 rfl) ?_
  obtain ⟨hi_18, hf⟩ := ck_s hf
  refine r_aald hc hd (cl_36_moverSums hc.cl hL0) (t0 := 6) rfl rfl rfl hi_18 dX4_foreseeTurn_67 ?_
  show W p l e (Rm 1 0 0) s m args below meth c H locs 0 0 (MQ below (Qv D cs B0 α Lv o) args s 0 0 (AB B0)) (F0 m 68 ls [.ref (α 48 ((nn x1)))])
  refine lv_iload_n hc.x hc.b dX4_foreseeTurn_68 rfl (lv_at hl 2 rfl) ?_
  refine lv_iload hc.x hc.b dX4_foreseeTurn_69 (lv_at hl 4 rfl) ?_
  obtain ⟨hi_19, hf⟩ := ck_s hf
  refine r_iast hc hd (cl_43 hc.cl (cl_36_moverSums hc.cl hL0) (inb_lt hi_18)) (fun _ => rfl) hi_19 dX4_foreseeTurn_71 (fun H locs hd => ?_)
  obtain ⟨S_20, hd, hf⟩ := nmD hd hf
  refine lv_iload_n hc.x hc.b dX4_foreseeTurn_72 rfl (lv_at hl 1 rfl) ?_
  refine lv_iconst (v := 2) hc.x hc.b dX4_foreseeTurn_73 (by decide) ?_
  refine lv_irem hc.x hc.b dX4_foreseeTurn_74 (by decide) ?_
  refine lv_topi (fun q_21 eq_21 => ?_)
  have hf := bv_n eq_21 hf
  refine jn_s (P := fun J_24 => ∀ (v_22 : Int32) (S_23 : St) (H : Heap) (locs : List Loc) (ls : Array Slot), J_24 v_22 S_23 = some o → Dy s D cs B0 α Lv S_23 H locs → lv_has ls 7 [(0, .ref (α 36 g0)), (1, .int x1), (2, .int x2), (3, .int x3_12)] → W p l e (Rm 1 0 0) s m args below meth c H locs 0 0 (MQ below (Qv D cs B0 α Lv o) args s 0 0 (AB B0)) (F0 m 97 ls [.int v_22])) hf ?_ (fun J_24 hJ_24 hf => ?_)
  · intro v_22 S_23 H locs ls hf hd hl
    refine lv_istore (lv' := [(5, .int v_22), (0, .ref (α 36 g0)), (1, .int x1), (2, .int x2), (3, .int x3_12)]) hc.x hc.b dX4_foreseeTurn_97 hl (by decide) rfl (fun ls hl => ?_)
    refine lv_aload_n hc.x hc.b dX4_foreseeTurn_99 rfl (lv_at hl 1 rfl) ?_
    refine fg_36_6 hc hd hL0 tw_308 dX4_foreseeTurn_100 ?_
    refine lv_iload_n hc.x hc.b dX4_foreseeTurn_103 rfl (lv_at hl 2 rfl) ?_
    obtain ⟨hi_25, hf⟩ := ck_s hf
    refine r_aald hc hd (cl_36_waiterSums hc.cl hL0) (t0 := 6) rfl rfl rfl hi_25 dX4_foreseeTurn_104 ?_
    show W p l e (Rm 1 0 0) s m args below meth c H locs 0 0 (MQ below (Qv D cs B0 α Lv o) args s 0 0 (AB B0)) (F0 m 105 ls [.ref (α 58 ((nn x1)))])
    refine lv_iload_n hc.x hc.b dX4_foreseeTurn_105 rfl (lv_at hl 3 rfl) ?_
    refine lv_iload hc.x hc.b dX4_foreseeTurn_106 (lv_at hl 0 rfl) ?_
    refine lv_aload_n hc.x hc.b dX4_foreseeTurn_108 rfl (lv_at hl 1 rfl) ?_
    refine fg_36_5 hc hd hL0 tw_306 dX4_foreseeTurn_109 ?_
    refine lv_iload_n hc.x hc.b dX4_foreseeTurn_112 rfl (lv_at hl 2 rfl) ?_
    refine lv_iconst (v := 1) hc.x hc.b dX4_foreseeTurn_113 (by decide) ?_
    refine lv_iadd hc.x hc.b dX4_foreseeTurn_114 ?_
    obtain ⟨hi_26, hf⟩ := ck_s hf
    refine r_aald hc hd (cl_36_moverSums hc.cl hL0) (t0 := 6) rfl rfl rfl hi_26 dX4_foreseeTurn_115 ?_
    show W p l e (Rm 1 0 0) s m args below meth c H locs 0 0 (MQ below (Qv D cs B0 α Lv o) args s 0 0 (AB B0)) (F0 m 116 ls [.ref (α 48 ((nn (x1 + 1)))), .int v_22, .int x2, .ref (α 58 ((nn x1)))])
    refine lv_iload_n hc.x hc.b dX4_foreseeTurn_116 rfl (lv_at hl 4 rfl) ?_
    obtain ⟨hi_27, hf⟩ := ck_s hf
    refine r_iald hc hd (cl_43 hc.cl (cl_36_moverSums hc.cl hL0) (inb_lt hi_26)) rfl hi_27 dX4_foreseeTurn_117 ?_
    refine lv_iadd hc.x hc.b dX4_foreseeTurn_118 ?_
    obtain ⟨hi_28, hf⟩ := ck_s hf
    refine r_iast hc hd (cl_47 hc.cl (cl_36_waiterSums hc.cl hL0) (inb_lt hi_25)) (fun _ => rfl) hi_28 dX4_foreseeTurn_119 (fun H locs hd => ?_)
    obtain ⟨S_29, hd, hf⟩ := nmD hd hf
    cases hf
    exact r_vret hc hd hr dX4_foreseeTurn_120
  refine lv_if_ne (tgt := 89) hc.x hc.b dX4_foreseeTurn_75 (by decide) (fun c_30 => ?_) (fun c_30 => ?_)
  · have hf := br_n c_30 hf
    refine lv_aload_n hc.x hc.b dX4_foreseeTurn_89 rfl (lv_at hl 0 rfl) ?_
    refine fg_36_1 hc hd hL0 tw_298 dX4_foreseeTurn_90 ?_
    refine lv_iload_n hc.x hc.b dX4_foreseeTurn_93 rfl (lv_at hl 2 rfl) ?_
    obtain ⟨hi_31, hf⟩ := ck_s hf
    refine r_aald hc hd (cl_36_gainA hc.cl hL0) (t0 := 6) rfl rfl rfl hi_31 dX4_foreseeTurn_94 ?_
    show W p l e (Rm 1 0 0) s m args below meth c H locs 0 0 (MQ below (Qv D cs B0 α Lv o) args s 0 0 (AB B0)) (F0 m 95 ls [.ref (α 38 ((nn x2)))])
    refine lv_iload_n hc.x hc.b dX4_foreseeTurn_95 rfl (lv_at hl 3 rfl) ?_
    obtain ⟨hi_32, hf⟩ := ck_s hf
    refine r_iald hc hd (cl_37 hc.cl (cl_36_gainA hc.cl hL0) (inb_lt hi_31)) rfl hi_32 dX4_foreseeTurn_96 ?_
    exact hJ_24 (gi S_20 38 ((nn x2)) (nn x3_12)) S_20 _ _ _ hf hd (lv_sub hl [0, 1, 2, 3] rfl)
  · have hf := br_y c_30 hf
    refine lv_aload_n hc.x hc.b dX4_foreseeTurn_78 rfl (lv_at hl 0 rfl) ?_
    refine fg_36_2 hc hd hL0 tw_301 dX4_foreseeTurn_79 ?_
    refine lv_iload_n hc.x hc.b dX4_foreseeTurn_82 rfl (lv_at hl 3 rfl) ?_
    obtain ⟨hi_33, hf⟩ := ck_s hf
    refine r_aald hc hd (cl_36_gainB hc.cl hL0) (t0 := 6) rfl rfl rfl hi_33 dX4_foreseeTurn_83 ?_
    show W p l e (Rm 1 0 0) s m args below meth c H locs 0 0 (MQ below (Qv D cs B0 α Lv o) args s 0 0 (AB B0)) (F0 m 84 ls [.ref (α 40 ((nn x3_12)))])
    refine lv_iload_n hc.x hc.b dX4_foreseeTurn_84 rfl (lv_at hl 2 rfl) ?_
    obtain ⟨hi_34, hf⟩ := ck_s hf
    refine r_iald hc hd (cl_39 hc.cl (cl_36_gainB hc.cl hL0) (inb_lt hi_33)) rfl hi_34 dX4_foreseeTurn_85 ?_
    refine lv_goto (tgt := 97) hc.x hc.b dX4_foreseeTurn_86 (by decide) ?_
    exact hJ_24 (gi S_20 40 ((nn x3_12)) (nn x2)) S_20 _ _ _ hf hd (lv_sub hl [0, 1, 2, 3] rfl)
theorem c_X4_foreseeTurn (l : Launch) (D : va_G) (cs : Nat → ClassId) (B0 : Nat) (kt : (Nat → Nat) × (Nat → Nat)) (α : Nat → Nat → Nat) (Lv : Nat → Nat → Prop) (S : St) (g0 : Nat) (x1 : Int32) (x2 : Int32) (hcl : Cl Lv) (hL0 : Lv 36 g0) {o : St} (hf : f_X4_foreseeTurn g0 x1 x2 S = some o) : Met l yX4_foreseeTurn (wz yX4_foreseeTurn cX4_foreseeTurn 7 none) (Rm 1 0 0) (Pz D cs B0 kt α Lv S [.ref (α 36 g0), .int x1, .int x2]) (Qv D cs B0 α Lv o) 0 0 (AB B0) := met_of (by decide) rfl hcl (Nat.le_of_ble_eq_true rfl) (fun p e s m below meth c hc hr hd ls hl => b_X4_foreseeTurn hc hr hL0 hf hd hl)
theorem my_X4_foreseeTurn : MyV yX4_foreseeTurn "PumpCrossing$Game" cX4_foreseeTurn 7 none 2 := ⟨tw_1072, (in_sel 23 (by decide +kernel) (by decide +kernel)), tw_9, tw_1073, by decide +kernel⟩
def f_X4_foresee_2 (g0 : Nat) (x1 : Int32) (K : St → Option (St)) : Nat → Int32 → St → Option (St)
  | 0, _, _ => none
  | n + 1, x2, S => br ((gi S 36 g0 0) ≤ x2) (K S) (ck (inb x1 41 = true) (ck (inb x2 8 = true) (bv (si S 48 ((nn x1)) (nn x2) 0) (fun S_4 => ck (inb x1 41 = true) (ck (inb x2 8 = true) (bv (si S_4 58 ((nn x1)) (nn x2) 0) (fun S_7 => bv (x2 + 1) (fun x2_8 => f_X4_foresee_2 g0 x1 K n x2_8 S_7))))))))
def f_X4_foresee_44 (g0 : Nat) (x2 : Int32) (K : St → Option (St)) : Nat → Int32 → St → Option (St)
  | 0, _, _ => none
  | n + 1, x3, S => br ((gi S 36 g0 0) ≤ x3) (K S) (on (f_X4_foreseeTurn g0 x2 x3 S) (fun S_14 => bv (x3 + 1) (fun x3_15 => f_X4_foresee_44 g0 x2 K n x3_15 S_14)))
def f_X4_foresee_38 (g0 : Nat) (K : St → Option (St)) : Nat → Int32 → St → Option (St)
  | 0, _, _ => none
  | n + 1, x2, S => br (x2 < 0) (K S) (f_X4_foresee_44 g0 x2 (fun  (S_16 : St) => bv (x2 + (-1)) (fun x2_17 => f_X4_foresee_38 g0 K n x2_17 S_16)) FU 0 S)
def f_X4_foresee (g0 : Nat) (x1 : Int32) (S : St) : Option (St) := f_X4_foresee_2 g0 x1 (fun  (S_9 : St) => bv (x1 - 1) (fun x2_10 => f_X4_foresee_38 g0 (fun  (S_18 : St) => some S_18) FU x2_10 S_9)) FU 0 S
set_option maxRecDepth 100000 in
set_option maxHeartbeats 4000000 in
theorem w_X4_foresee_2 (hc : Cx p s m args meth c cX4_foresee 4 "PumpCrossing$Game" D cs B0 kt Lv) (hr : meth.sig.returnType = none) {o : St}  {g0 : Nat} {x1 : Int32} {K : St → Option (St)} (hL0 : Lv 36 g0) (hK : ∀  (S : St) (H : Heap) (locs : List Loc) (ls : Array Slot), K S = some o → Dy s D cs B0 α Lv S H locs → lv_has ls 4 [(0, .ref (α 36 g0)), (1, .int x1)] → W p l e (Rm 2 0 0) s m args below meth c H locs 0 0 (MQ below (Qv D cs B0 α Lv o) args s 0 0 (AB B0)) (F0 m 34 ls [])) : ∀ (n : Nat) (x2 : Int32) (S : St) (H : Heap) (locs : List Loc) (ls : Array Slot), f_X4_foresee_2 g0 x1 K n x2 S = some o → Dy s D cs B0 α Lv S H locs → lv_has ls 4 [(0, .ref (α 36 g0)), (1, .int x1), (2, .int x2)] → W p l e (Rm 2 0 0) s m args below meth c H locs 0 0 (MQ below (Qv D cs B0 α Lv o) args s 0 0 (AB B0)) (F0 m 2 ls []) := by
  intro n
  induction n with
  | zero =>
    intro x2 S H locs ls hf
    rw [f_X4_foresee_2] at hf
    cases hf
  | succ n ih =>
    intro x2 S H locs ls hf hd hl
    rw [f_X4_foresee_2] at hf
    refine lv_iload_n hc.x hc.b dX4_foresee_2 rfl (lv_at hl 2 rfl) ?_
    refine lv_aload_n hc.x hc.b dX4_foresee_3 rfl (lv_at hl 0 rfl) ?_
    refine fg_36_0 hc hd hL0 tw_297 dX4_foresee_4 ?_
    refine lv_icmp_ge (tgt := 34) hc.x hc.b dX4_foresee_7 (by decide) (fun c_1 => ?_) (fun c_1 => ?_)
    · have hf := br_y c_1 hf
      exact hK S _ _ _ hf hd (lv_sub hl [0, 1] rfl)
    · have hf := br_n c_1 hf
      refine lv_aload_n hc.x hc.b dX4_foresee_10 rfl (lv_at hl 0 rfl) ?_
      refine fg_36_5 hc hd hL0 tw_306 dX4_foresee_11 ?_
      refine lv_iload_n hc.x hc.b dX4_foresee_14 rfl (lv_at hl 1 rfl) ?_
      obtain ⟨hi_2, hf⟩ := ck_s hf
      refine r_aald hc hd (cl_36_moverSums hc.cl hL0) (t0 := 6) rfl rfl rfl hi_2 dX4_foresee_15 ?_
      show W p l e (Rm 2 0 0) s m args below meth c H locs 0 0 (MQ below (Qv D cs B0 α Lv o) args s 0 0 (AB B0)) (F0 m 16 ls [.ref (α 48 ((nn x1)))])
      refine lv_iload_n hc.x hc.b dX4_foresee_16 rfl (lv_at hl 2 rfl) ?_
      refine lv_iconst (v := 0) hc.x hc.b dX4_foresee_17 (by decide) ?_
      obtain ⟨hi_3, hf⟩ := ck_s hf
      refine r_iast hc hd (cl_43 hc.cl (cl_36_moverSums hc.cl hL0) (inb_lt hi_2)) (fun _ => rfl) hi_3 dX4_foresee_18 (fun H locs hd => ?_)
      obtain ⟨S_4, hd, hf⟩ := nmD hd hf
      refine lv_aload_n hc.x hc.b dX4_foresee_19 rfl (lv_at hl 0 rfl) ?_
      refine fg_36_6 hc hd hL0 tw_308 dX4_foresee_20 ?_
      refine lv_iload_n hc.x hc.b dX4_foresee_23 rfl (lv_at hl 1 rfl) ?_
      obtain ⟨hi_5, hf⟩ := ck_s hf
      refine r_aald hc hd (cl_36_waiterSums hc.cl hL0) (t0 := 6) rfl rfl rfl hi_5 dX4_foresee_24 ?_
      show W p l e (Rm 2 0 0) s m args below meth c H locs 0 0 (MQ below (Qv D cs B0 α Lv o) args s 0 0 (AB B0)) (F0 m 25 ls [.ref (α 58 ((nn x1)))])
      refine lv_iload_n hc.x hc.b dX4_foresee_25 rfl (lv_at hl 2 rfl) ?_
      refine lv_iconst (v := 0) hc.x hc.b dX4_foresee_26 (by decide) ?_
      obtain ⟨hi_6, hf⟩ := ck_s hf
      refine r_iast hc hd (cl_47 hc.cl (cl_36_waiterSums hc.cl hL0) (inb_lt hi_5)) (fun _ => rfl) hi_6 dX4_foresee_27 (fun H locs hd => ?_)
      obtain ⟨S_7, hd, hf⟩ := nmD hd hf
      obtain ⟨x2_8, ex2_8⟩ : ∃ z : Int32, z = x2 + 1 := ⟨_, rfl⟩
      have hf := bv_n ex2_8 hf
      refine lv_iinc (v := x2_8) (lv' := [(2, .int x2_8), (0, .ref (α 36 g0)), (1, .int x1)]) hc.x hc.b dX4_foresee_28 hl (k := 2) rfl (by rw [ex2_8]; rfl) (by decide) rfl (fun ls hl => ?_)
      refine lv_goto (tgt := 2) hc.x hc.b dX4_foresee_31 (by decide) ?_
      exact ih x2_8 S_7 _ _ _ hf hd (lv_sub hl [1, 2, 0] rfl)
set_option maxRecDepth 100000 in
set_option maxHeartbeats 4000000 in
theorem w_X4_foresee_44 (hc : Cx p s m args meth c cX4_foresee 4 "PumpCrossing$Game" D cs B0 kt Lv) (hr : meth.sig.returnType = none) {o : St}  {g0 : Nat} {x2 : Int32} {K : St → Option (St)} (hL0 : Lv 36 g0) (hK : ∀  (S : St) (H : Heap) (locs : List Loc) (ls : Array Slot), K S = some o → Dy s D cs B0 α Lv S H locs → lv_has ls 4 [(0, .ref (α 36 g0)), (2, .int x2)] → W p l e (Rm 2 0 0) s m args below meth c H locs 0 0 (MQ below (Qv D cs B0 α Lv o) args s 0 0 (AB B0)) (F0 m 64 ls [])) : ∀ (n : Nat) (x3 : Int32) (S : St) (H : Heap) (locs : List Loc) (ls : Array Slot), f_X4_foresee_44 g0 x2 K n x3 S = some o → Dy s D cs B0 α Lv S H locs → lv_has ls 4 [(0, .ref (α 36 g0)), (2, .int x2), (3, .int x3)] → W p l e (Rm 2 0 0) s m args below meth c H locs 0 0 (MQ below (Qv D cs B0 α Lv o) args s 0 0 (AB B0)) (F0 m 44 ls []) := by
  intro n
  induction n with
  | zero =>
    intro x3 S H locs ls hf
    rw [f_X4_foresee_44] at hf
    cases hf
  | succ n ih =>
    intro x3 S H locs ls hf hd hl
    rw [f_X4_foresee_44] at hf
    refine lv_iload_n hc.x hc.b dX4_foresee_44 rfl (lv_at hl 2 rfl) ?_
    refine lv_aload_n hc.x hc.b dX4_foresee_45 rfl (lv_at hl 0 rfl) ?_
    refine fg_36_0 hc hd hL0 tw_297 dX4_foresee_46 ?_
    refine lv_icmp_ge (tgt := 64) hc.x hc.b dX4_foresee_49 (by decide) (fun c_12 => ?_) (fun c_12 => ?_)
    · have hf := br_y c_12 hf
      exact hK S _ _ _ hf hd (lv_sub hl [0, 1] rfl)
    · have hf := br_n c_12 hf
      refine lv_aload_n hc.x hc.b dX4_foresee_52 rfl (lv_at hl 0 rfl) ?_
      refine lv_iload_n hc.x hc.b dX4_foresee_53 rfl (lv_at hl 1 rfl) ?_
      refine lv_iload_n hc.x hc.b dX4_foresee_54 rfl (lv_at hl 2 rfl) ?_
      obtain ⟨S_14, hq_13, hf⟩ := on_s hf
      refine k_v (k_runV hc hd my_X4_foreseeTurn tw_1070 hL0 rfl rfl rfl (c_X4_foreseeTurn l D cs B0 kt α Lv S g0 x2 x3 hc.cl hL0  hq_13) rfl rfl hl.1 (Nat.le_of_ble_eq_true rfl) ⟨Nat.le_of_ble_eq_true rfl, Nat.le_of_ble_eq_true rfl, Nat.zero_le _, Nat.zero_le _⟩ dX4_foresee_55) hd (fun H locs hd => ?_)
      obtain ⟨x3_15, ex3_15⟩ : ∃ z : Int32, z = x3 + 1 := ⟨_, rfl⟩
      have hf := bv_n ex3_15 hf
      refine lv_iinc (v := x3_15) (lv' := [(3, .int x3_15), (0, .ref (α 36 g0)), (2, .int x2)]) hc.x hc.b dX4_foresee_58 hl (k := 2) rfl (by rw [ex3_15]; rfl) (by decide) rfl (fun ls hl => ?_)
      refine lv_goto (tgt := 44) hc.x hc.b dX4_foresee_61 (by decide) ?_
      exact ih x3_15 S_14 _ _ _ hf hd (lv_sub hl [1, 2, 0] rfl)
set_option maxRecDepth 100000 in
set_option maxHeartbeats 4000000 in
theorem w_X4_foresee_38 (hc : Cx p s m args meth c cX4_foresee 4 "PumpCrossing$Game" D cs B0 kt Lv) (hr : meth.sig.returnType = none) {o : St}  {g0 : Nat} {K : St → Option (St)} (hL0 : Lv 36 g0) (hK : ∀  (S : St) (H : Heap) (locs : List Loc) (ls : Array Slot), K S = some o → Dy s D cs B0 α Lv S H locs → lv_has ls 4 [] → W p l e (Rm 2 0 0) s m args below meth c H locs 0 0 (MQ below (Qv D cs B0 α Lv o) args s 0 0 (AB B0)) (F0 m 70 ls [])) : ∀ (n : Nat) (x2 : Int32) (S : St) (H : Heap) (locs : List Loc) (ls : Array Slot), f_X4_foresee_38 g0 K n x2 S = some o → Dy s D cs B0 α Lv S H locs → lv_has ls 4 [(0, .ref (α 36 g0)), (2, .int x2)] → W p l e (Rm 2 0 0) s m args below meth c H locs 0 0 (MQ below (Qv D cs B0 α Lv o) args s 0 0 (AB B0)) (F0 m 38 ls []) := by
  intro n
  induction n with
  | zero =>
    intro x2 S H locs ls hf
    rw [f_X4_foresee_38] at hf
    cases hf
  | succ n ih =>
    intro x2 S H locs ls hf hd hl
    rw [f_X4_foresee_38] at hf
    refine lv_iload_n hc.x hc.b dX4_foresee_38 rfl (lv_at hl 1 rfl) ?_
    refine lv_if_lt (tgt := 70) hc.x hc.b dX4_foresee_39 (by decide) (fun c_11 => ?_) (fun c_11 => ?_)
    · have hf := br_y c_11 hf
      exact hK S _ _ _ hf hd (lv_sub hl [] rfl)
    · have hf := br_n c_11 hf
      refine lv_iconst (v := 0) hc.x hc.b dX4_foresee_42 (by decide) ?_
      refine lv_istore_n (lv' := [(3, .int 0), (0, .ref (α 36 g0)), (2, .int x2)]) hc.x hc.b dX4_foresee_43 rfl hl (by decide) rfl (fun ls hl => ?_)
      refine w_X4_foresee_44 hc hr hL0 ?_ _ _ _ _ _ _ hf hd (lv_sub hl [1, 2, 0] rfl)
      intro S_16 H locs ls hf hd hl
      obtain ⟨x2_17, ex2_17⟩ : ∃ z : Int32, z = x2 + (-1) := ⟨_, rfl⟩
      have hf := bv_n ex2_17 hf
      refine lv_iinc (v := x2_17) (lv' := [(2, .int x2_17), (0, .ref (α 36 g0))]) hc.x hc.b dX4_foresee_64 hl (k := 1) rfl (by rw [ex2_17]; rfl) (by decide) rfl (fun ls hl => ?_)
      refine lv_goto (tgt := 38) hc.x hc.b dX4_foresee_67 (by decide) ?_
      exact ih x2_17 S_16 _ _ _ hf hd (lv_sub hl [1, 0] rfl)
set_option maxRecDepth 100000 in
set_option maxHeartbeats 4000000 in
theorem b_X4_foresee (hc : Cx p s m args meth c cX4_foresee 4 "PumpCrossing$Game" D cs B0 kt Lv) (hr : meth.sig.returnType = none)  {o : St}  {S : St} {g0 : Nat} {x1 : Int32} (hL0 : Lv 36 g0) {H : Heap} {locs : List Loc} {ls : Array Slot} (hf : f_X4_foresee g0 x1 S = some o) (hd : Dy s D cs B0 α Lv S H locs) (hl : lv_has ls 4 [(0, .ref (α 36 g0)), (1, .int x1)]) : W p l e (Rm 2 0 0) s m args below meth c H locs 0 0 (MQ below (Qv D cs B0 α Lv o) args s 0 0 (AB B0)) (F0 m 0 ls []) := by
  unfold f_X4_foresee at hf
  refine lv_iconst (v := 0) hc.x hc.b dX4_foresee_0 (by decide) ?_
  refine lv_istore_n (lv' := [(2, .int 0), (0, .ref (α 36 g0)), (1, .int x1)]) hc.x hc.b dX4_foresee_1 rfl hl (by decide) rfl (fun ls hl => ?_)
  refine w_X4_foresee_2 hc hr hL0 ?_ _ _ _ _ _ _ hf hd (lv_sub hl [1, 2, 0] rfl)
  intro S_9 H locs ls hf hd hl
  refine lv_iload_n hc.x hc.b dX4_foresee_34 rfl (lv_at hl 1 rfl) ?_
  refine lv_iconst (v := 1) hc.x hc.b dX4_foresee_35 (by decide) ?_
  refine lv_isub hc.x hc.b dX4_foresee_36 ?_
  refine lv_topi (fun x2_10 ex2_10 => ?_)
  have hf := bv_n ex2_10 hf
  refine lv_istore_n (lv' := [(2, .int x2_10), (0, .ref (α 36 g0)), (1, .int x1)]) hc.x hc.b dX4_foresee_37 rfl hl (by decide) rfl (fun ls hl => ?_)
  refine w_X4_foresee_38 hc hr hL0 ?_ _ _ _ _ _ _ hf hd (lv_sub hl [1, 0] rfl)
  intro S_18 H locs ls hf hd hl
  cases hf
  exact r_vret hc hd hr dX4_foresee_70
theorem c_X4_foresee (l : Launch) (D : va_G) (cs : Nat → ClassId) (B0 : Nat) (kt : (Nat → Nat) × (Nat → Nat)) (α : Nat → Nat → Nat) (Lv : Nat → Nat → Prop) (S : St) (g0 : Nat) (x1 : Int32) (hcl : Cl Lv) (hL0 : Lv 36 g0) {o : St} (hf : f_X4_foresee g0 x1 S = some o) : Met l yX4_foresee (wz yX4_foresee cX4_foresee 4 none) (Rm 2 0 0) (Pz D cs B0 kt α Lv S [.ref (α 36 g0), .int x1]) (Qv D cs B0 α Lv o) 0 0 (AB B0) := met_of (by decide) rfl hcl (Nat.le_of_ble_eq_true rfl) (fun p e s m below meth c hc hr hd ls hl => b_X4_foresee hc hr hL0 hf hd hl)
theorem my_X4_foresee : MyV yX4_foresee "PumpCrossing$Game" cX4_foresee 4 none 1 := ⟨tw_1067, tw_1068, tw_9, tw_1069, by decide +kernel⟩
def f_X4_together (g0 : Nat) (x1 : Int32) (x2 : Int32) (S : St) : Option (Int32) := ck (inb x1 8 = true) (ck (inb x2 8 = true) (ck (inb x1 8 = true) (ck (inb x2 8 = true) (some ((gi S 38 ((nn x1)) (nn x2)) + (gi S 40 ((nn x1)) (nn x2)))))))
set_option maxRecDepth 100000 in
set_option maxHeartbeats 4000000 in
theorem b_X4_together (hc : Cx p s m args meth c cX4_together 3 "PumpCrossing$Game" D cs B0 kt Lv) (hr : meth.sig.returnType = some .int)  {o : Int32}  {S : St} {g0 : Nat} {x1 : Int32} {x2 : Int32} (hL0 : Lv 36 g0) {H : Heap} {locs : List Loc} {ls : Array Slot} (hf : f_X4_together g0 x1 x2 S = some o) (hd : Dy s D cs B0 α Lv S H locs) (hl : lv_has ls 3 [(0, .ref (α 36 g0)), (1, .int x1), (2, .int x2)]) : W p l e (Rm 0 0 0) s m args below meth c H locs 0 0 (MQ below (Qi D cs B0 α Lv o S) args s 0 0 (AB B0)) (F0 m 0 ls []) := by
  unfold f_X4_together at hf
  refine lv_aload_n hc.x hc.b dX4_together_0 rfl (lv_at hl 0 rfl) ?_
  refine fg_36_1 hc hd hL0 tw_298 dX4_together_1 ?_
  refine lv_iload_n hc.x hc.b dX4_together_4 rfl (lv_at hl 1 rfl) ?_
  obtain ⟨hi_1, hf⟩ := ck_s hf
  refine r_aald hc hd (cl_36_gainA hc.cl hL0) (t0 := 6) rfl rfl rfl hi_1 dX4_together_5 ?_
  show W p l e (Rm 0 0 0) s m args below meth c H locs 0 0 (MQ below (Qi D cs B0 α Lv o S) args s 0 0 (AB B0)) (F0 m 6 ls [.ref (α 38 ((nn x1)))])
  refine lv_iload_n hc.x hc.b dX4_together_6 rfl (lv_at hl 2 rfl) ?_
  obtain ⟨hi_2, hf⟩ := ck_s hf
  refine r_iald hc hd (cl_37 hc.cl (cl_36_gainA hc.cl hL0) (inb_lt hi_1)) rfl hi_2 dX4_together_7 ?_
  refine lv_aload_n hc.x hc.b dX4_together_8 rfl (lv_at hl 0 rfl) ?_
  refine fg_36_2 hc hd hL0 tw_301 dX4_together_9 ?_
  refine lv_iload_n hc.x hc.b dX4_together_12 rfl (lv_at hl 1 rfl) ?_
  obtain ⟨hi_3, hf⟩ := ck_s hf
  refine r_aald hc hd (cl_36_gainB hc.cl hL0) (t0 := 6) rfl rfl rfl hi_3 dX4_together_13 ?_
  show W p l e (Rm 0 0 0) s m args below meth c H locs 0 0 (MQ below (Qi D cs B0 α Lv o S) args s 0 0 (AB B0)) (F0 m 14 ls [.ref (α 40 ((nn x1))), .int (gi S 38 ((nn x1)) (nn x2))])
  refine lv_iload_n hc.x hc.b dX4_together_14 rfl (lv_at hl 2 rfl) ?_
  obtain ⟨hi_4, hf⟩ := ck_s hf
  refine r_iald hc hd (cl_39 hc.cl (cl_36_gainB hc.cl hL0) (inb_lt hi_3)) rfl hi_4 dX4_together_15 ?_
  refine lv_iadd hc.x hc.b dX4_together_16 ?_
  cases hf
  exact r_iret hc hd hr dX4_together_17
theorem c_X4_together (l : Launch) (D : va_G) (cs : Nat → ClassId) (B0 : Nat) (kt : (Nat → Nat) × (Nat → Nat)) (α : Nat → Nat → Nat) (Lv : Nat → Nat → Prop) (S : St) (g0 : Nat) (x1 : Int32) (x2 : Int32) (hcl : Cl Lv) (hL0 : Lv 36 g0) {o : Int32} (hf : f_X4_together g0 x1 x2 S = some o) : Met l yX4_together (wz yX4_together cX4_together 3 (some .int)) (Rm 0 0 0) (Pz D cs B0 kt α Lv S [.ref (α 36 g0), .int x1, .int x2]) (Qi D cs B0 α Lv o S) 0 0 (AB B0) := met_of (by decide) rfl hcl (Nat.le_of_ble_eq_true rfl) (fun p e s m below meth c hc hr hd ls hl => b_X4_together hc hr hL0 hf hd hl)
theorem my_X4_together : MyV yX4_together "PumpCrossing$Game" cX4_together 3 (some .int) 2 := ⟨tw_1052, tw_1053, tw_9, tw_1054, by decide +kernel⟩
def f_X4_jointPair_17 (g0 : Nat) (x3 : Int32) (S : St) (K : Int32 → Int32 → Option (Int32)) : Nat → Int32 → Int32 → Int32 → Option (Int32)
  | 0, _, _, _ => none
  | n + 1, x1, x2, x4 => br ((gi S 36 g0 0) ≤ x4) (K x1 x2) (bv (fun (x1_3 : Int32) (x2_4 : Int32) => bv (x4 + 1) (fun x4_6 => f_X4_jointPair_17 g0 x3 S K n x1_3 x2_4 x4_6)) (fun J_5 => bv (fun (_u : Unit) => on (f_X11_pair x3 x4 S) (fun r_9 => on (f_X4_together g0 x3 x4 S) (fun r_11 => J_5 r_9 r_11))) (fun J_7 => br (x1 = ((-1))) (J_7 ()) (on (f_X4_together g0 x3 x4 S) (fun r_14 => br (r_14 ≤ x2) (J_5 x1 x2) (J_7 ()))))))
def f_X4_jointPair_6 (g0 : Nat) (S : St) (K : Int32 → Option (Int32)) : Nat → Int32 → Int32 → Int32 → Option (Int32)
  | 0, _, _, _ => none
  | n + 1, x1, x2, x3 => br ((gi S 36 g0 0) ≤ x3) (K x1) (f_X4_jointPair_17 g0 x3 S (fun (x1_16 : Int32) (x2_17 : Int32) => bv (x3 + 1) (fun x3_18 => f_X4_jointPair_6 g0 S K n x1_16 x2_17 x3_18)) FU x1 x2 0)
def f_X4_jointPair (g0 : Nat) (S : St) : Option (Int32) := f_X4_jointPair_6 g0 S (fun (x1_19 : Int32) => some x1_19) FU ((-1)) 0 0
set_option maxRecDepth 100000 in
set_option maxHeartbeats 4000000 in
theorem w_X4_jointPair_17 (hc : Cx p s m args meth c cX4_jointPair 5 "PumpCrossing$Game" D cs B0 kt Lv) (hr : meth.sig.returnType = some .int) {o : Int32}  {g0 : Nat} {x3 : Int32} {S : St} {K : Int32 → Int32 → Option (Int32)} (hL0 : Lv 36 g0) (hK : ∀ (k1 : Int32) (k2 : Int32) (H : Heap) (locs : List Loc) (ls : Array Slot), K k1 k2 = some o → Dy s D cs B0 α Lv S H locs → lv_has ls 5 [(0, .ref (α 36 g0)), (1, .int k1), (2, .int k2), (3, .int x3)] → W p l e (Rm 1 0 0) s m args below meth c H locs 0 0 (MQ below (Qi D cs B0 α Lv o S) args s 0 0 (AB B0)) (F0 m 63 ls [])) : ∀ (n : Nat) (x1 : Int32) (x2 : Int32) (x4 : Int32) (H : Heap) (locs : List Loc) (ls : Array Slot), f_X4_jointPair_17 g0 x3 S K n x1 x2 x4 = some o → Dy s D cs B0 α Lv S H locs → lv_has ls 5 [(0, .ref (α 36 g0)), (3, .int x3), (1, .int x1), (2, .int x2), (4, .int x4)] → W p l e (Rm 1 0 0) s m args below meth c H locs 0 0 (MQ below (Qi D cs B0 α Lv o S) args s 0 0 (AB B0)) (F0 m 17 ls []) := by
  intro n
  induction n with
  | zero =>
    intro x1 x2 x4 H locs ls hf
    rw [f_X4_jointPair_17] at hf
    cases hf
  | succ n ih =>
    intro x1 x2 x4 H locs ls hf hd hl
    rw [f_X4_jointPair_17] at hf
    refine lv_iload hc.x hc.b dX4_jointPair_17 (lv_at hl 4 rfl) ?_
    refine lv_aload_n hc.x hc.b dX4_jointPair_19 rfl (lv_at hl 0 rfl) ?_
    refine fg_36_0 hc hd hL0 tw_297 dX4_jointPair_20 ?_
    refine lv_icmp_ge (tgt := 63) hc.x hc.b dX4_jointPair_23 (by decide) (fun c_2 => ?_) (fun c_2 => ?_)
    · have hf := br_y c_2 hf
      exact hK x1 x2 _ _ _ hf hd (lv_sub hl [0, 2, 3, 1] rfl)
    · have hf := br_n c_2 hf
      refine lv_iload_n hc.x hc.b dX4_jointPair_26 rfl (lv_at hl 2 rfl) ?_
      refine lv_iconst (v := (-1)) hc.x hc.b dX4_jointPair_27 (by decide) ?_
      refine jn_s (P := fun J_5 => ∀ (x1_3 : Int32) (x2_4 : Int32) (H : Heap) (locs : List Loc) (ls : Array Slot), J_5 x1_3 x2_4 = some o → Dy s D cs B0 α Lv S H locs → lv_has ls 5 [(0, .ref (α 36 g0)), (1, .int x1_3), (2, .int x2_4), (3, .int x3), (4, .int x4)] → W p l e (Rm 1 0 0) s m args below meth c H locs 0 0 (MQ below (Qi D cs B0 α Lv o S) args s 0 0 (AB B0)) (F0 m 57 ls [])) hf ?_ (fun J_5 hJ_5 hf => ?_)
      · intro x1_3 x2_4 H locs ls hf hd hl
        obtain ⟨x4_6, ex4_6⟩ : ∃ z : Int32, z = x4 + 1 := ⟨_, rfl⟩
        have hf := bv_n ex4_6 hf
        refine lv_iinc (v := x4_6) (lv' := [(4, .int x4_6), (0, .ref (α 36 g0)), (1, .int x1_3), (2, .int x2_4), (3, .int x3)]) hc.x hc.b dX4_jointPair_57 hl (k := 4) rfl (by rw [ex4_6]; rfl) (by decide) rfl (fun ls hl => ?_)
        refine lv_goto (tgt := 17) hc.x hc.b dX4_jointPair_60 (by decide) ?_
        exact ih x1_3 x2_4 x4_6 _ _ _ hf hd (lv_sub hl [1, 4, 2, 3, 0] rfl)
      refine jn_s (P := fun J_7 => ∀ (_u : Unit) (H : Heap) (locs : List Loc) (ls : Array Slot), J_7 _u = some o → Dy s D cs B0 α Lv S H locs → lv_has ls 5 [(0, .ref (α 36 g0)), (3, .int x3), (4, .int x4)] → W p l e (Rm 1 0 0) s m args below meth c H locs 0 0 (MQ below (Qi D cs B0 α Lv o S) args s 0 0 (AB B0)) (F0 m 42 ls [])) hf ?_ (fun J_7 hJ_7 hf => ?_)
      · intro _u H locs ls hf hd hl
        refine lv_iload_n hc.x hc.b dX4_jointPair_42 rfl (lv_at hl 1 rfl) ?_
        refine lv_iload hc.x hc.b dX4_jointPair_43 (lv_at hl 2 rfl) ?_
        obtain ⟨r_9, hq_8, hf⟩ := on_s hf
        refine k_i (k_runSN hc hd my_X11_pair hc.kc.2.2.2.2.2.2.1 (c_X11_pair l D cs B0 kt α Lv S x3 x4 hc.cl   hq_8) rfl rfl hl.1 (Nat.le_of_ble_eq_true rfl) ⟨Nat.le_of_ble_eq_true rfl, Nat.le_of_ble_eq_true rfl, Nat.zero_le _, Nat.zero_le _⟩ dX4_jointPair_45) hd (fun H locs hd => ?_)
        refine lv_istore_n (lv' := [(1, .int r_9), (0, .ref (α 36 g0)), (3, .int x3), (4, .int x4)]) hc.x hc.b dX4_jointPair_48 rfl hl (by decide) rfl (fun ls hl => ?_)
        refine lv_aload_n hc.x hc.b dX4_jointPair_49 rfl (lv_at hl 1 rfl) ?_
        refine lv_iload_n hc.x hc.b dX4_jointPair_50 rfl (lv_at hl 2 rfl) ?_
        refine lv_iload hc.x hc.b dX4_jointPair_51 (lv_at hl 3 rfl) ?_
        obtain ⟨r_11, hq_10, hf⟩ := on_s hf
        refine k_i (k_runV hc hd my_X4_together tw_1051 hL0 rfl rfl rfl (c_X4_together l D cs B0 kt α Lv S g0 x3 x4 hc.cl hL0  hq_10) rfl rfl hl.1 (Nat.le_of_ble_eq_true rfl) ⟨Nat.le_of_ble_eq_true rfl, Nat.le_of_ble_eq_true rfl, Nat.zero_le _, Nat.zero_le _⟩ dX4_jointPair_53) hd (fun H locs hd => ?_)
        refine lv_istore_n (lv' := [(2, .int r_11), (1, .int r_9), (0, .ref (α 36 g0)), (3, .int x3), (4, .int x4)]) hc.x hc.b dX4_jointPair_56 rfl hl (by decide) rfl (fun ls hl => ?_)
        exact hJ_5 r_9 r_11 _ _ _ hf hd (lv_sub hl [2, 1, 0, 3, 4] rfl)
      refine lv_icmp_eq (tgt := 42) hc.x hc.b dX4_jointPair_28 (by decide) (fun c_12 => ?_) (fun c_12 => ?_)
      · have hf := br_y c_12 hf
        exact hJ_7 ()  _ _ _ hf hd (lv_sub hl [0, 1, 4] rfl)
      · have hf := br_n c_12 hf
        refine lv_aload_n hc.x hc.b dX4_jointPair_31 rfl (lv_at hl 0 rfl) ?_
        refine lv_iload_n hc.x hc.b dX4_jointPair_32 rfl (lv_at hl 1 rfl) ?_
        refine lv_iload hc.x hc.b dX4_jointPair_33 (lv_at hl 4 rfl) ?_
        obtain ⟨r_14, hq_13, hf⟩ := on_s hf
        refine k_i (k_runV hc hd my_X4_together tw_1051 hL0 rfl rfl rfl (c_X4_together l D cs B0 kt α Lv S g0 x3 x4 hc.cl hL0  hq_13) rfl rfl hl.1 (Nat.le_of_ble_eq_true rfl) ⟨Nat.le_of_ble_eq_true rfl, Nat.le_of_ble_eq_true rfl, Nat.zero_le _, Nat.zero_le _⟩ dX4_jointPair_35) hd (fun H locs hd => ?_)
        refine lv_iload_n hc.x hc.b dX4_jointPair_38 rfl (lv_at hl 3 rfl) ?_
        refine lv_icmp_le (tgt := 57) hc.x hc.b dX4_jointPair_39 (by decide) (fun c_15 => ?_) (fun c_15 => ?_)
        · have hf := br_y c_15 hf
          exact hJ_5 x1 x2 _ _ _ hf hd (lv_sub hl [0, 2, 3, 1, 4] rfl)
        · have hf := br_n c_15 hf
          exact hJ_7 ()  _ _ _ hf hd (lv_sub hl [0, 1, 4] rfl)
set_option maxRecDepth 100000 in
set_option maxHeartbeats 4000000 in
theorem w_X4_jointPair_6 (hc : Cx p s m args meth c cX4_jointPair 5 "PumpCrossing$Game" D cs B0 kt Lv) (hr : meth.sig.returnType = some .int) {o : Int32}  {g0 : Nat} {S : St} {K : Int32 → Option (Int32)} (hL0 : Lv 36 g0) (hK : ∀ (k1 : Int32) (H : Heap) (locs : List Loc) (ls : Array Slot), K k1 = some o → Dy s D cs B0 α Lv S H locs → lv_has ls 5 [(1, .int k1)] → W p l e (Rm 1 0 0) s m args below meth c H locs 0 0 (MQ below (Qi D cs B0 α Lv o S) args s 0 0 (AB B0)) (F0 m 69 ls [])) : ∀ (n : Nat) (x1 : Int32) (x2 : Int32) (x3 : Int32) (H : Heap) (locs : List Loc) (ls : Array Slot), f_X4_jointPair_6 g0 S K n x1 x2 x3 = some o → Dy s D cs B0 α Lv S H locs → lv_has ls 5 [(0, .ref (α 36 g0)), (1, .int x1), (2, .int x2), (3, .int x3)] → W p l e (Rm 1 0 0) s m args below meth c H locs 0 0 (MQ below (Qi D cs B0 α Lv o S) args s 0 0 (AB B0)) (F0 m 6 ls []) := by
  intro n
  induction n with
  | zero =>
    intro x1 x2 x3 H locs ls hf
    rw [f_X4_jointPair_6] at hf
    cases hf
  | succ n ih =>
    intro x1 x2 x3 H locs ls hf hd hl
    rw [f_X4_jointPair_6] at hf
    refine lv_iload_n hc.x hc.b dX4_jointPair_6 rfl (lv_at hl 3 rfl) ?_
    refine lv_aload_n hc.x hc.b dX4_jointPair_7 rfl (lv_at hl 0 rfl) ?_
    refine fg_36_0 hc hd hL0 tw_297 dX4_jointPair_8 ?_
    refine lv_icmp_ge (tgt := 69) hc.x hc.b dX4_jointPair_11 (by decide) (fun c_1 => ?_) (fun c_1 => ?_)
    · have hf := br_y c_1 hf
      exact hK x1 _ _ _ hf hd (lv_sub hl [1] rfl)
    · have hf := br_n c_1 hf
      refine lv_iconst (v := 0) hc.x hc.b dX4_jointPair_14 (by decide) ?_
      refine lv_istore (lv' := [(4, .int 0), (0, .ref (α 36 g0)), (1, .int x1), (2, .int x2), (3, .int x3)]) hc.x hc.b dX4_jointPair_15 hl (by decide) rfl (fun ls hl => ?_)
      refine w_X4_jointPair_17 hc hr hL0 ?_ _ _ _ _ _ _ _ hf hd (lv_sub hl [1, 4, 2, 3, 0] rfl)
      intro x1_16 x2_17 H locs ls hf hd hl
      obtain ⟨x3_18, ex3_18⟩ : ∃ z : Int32, z = x3 + 1 := ⟨_, rfl⟩
      have hf := bv_n ex3_18 hf
      refine lv_iinc (v := x3_18) (lv' := [(3, .int x3_18), (0, .ref (α 36 g0)), (1, .int x1_16), (2, .int x2_17)]) hc.x hc.b dX4_jointPair_63 hl (k := 3) rfl (by rw [ex3_18]; rfl) (by decide) rfl (fun ls hl => ?_)
      refine lv_goto (tgt := 6) hc.x hc.b dX4_jointPair_66 (by decide) ?_
      exact ih x1_16 x2_17 x3_18 _ _ _ hf hd (lv_sub hl [1, 2, 3, 0] rfl)
set_option maxRecDepth 100000 in
set_option maxHeartbeats 4000000 in
theorem b_X4_jointPair (hc : Cx p s m args meth c cX4_jointPair 5 "PumpCrossing$Game" D cs B0 kt Lv) (hr : meth.sig.returnType = some .int)  {o : Int32}  {S : St} {g0 : Nat} (hL0 : Lv 36 g0) {H : Heap} {locs : List Loc} {ls : Array Slot} (hf : f_X4_jointPair g0 S = some o) (hd : Dy s D cs B0 α Lv S H locs) (hl : lv_has ls 5 [(0, .ref (α 36 g0))]) : W p l e (Rm 1 0 0) s m args below meth c H locs 0 0 (MQ below (Qi D cs B0 α Lv o S) args s 0 0 (AB B0)) (F0 m 0 ls []) := by
  unfold f_X4_jointPair at hf
  refine lv_iconst (v := (-1)) hc.x hc.b dX4_jointPair_0 (by decide) ?_
  refine lv_istore_n (lv' := [(1, .int ((-1))), (0, .ref (α 36 g0))]) hc.x hc.b dX4_jointPair_1 rfl hl (by decide) rfl (fun ls hl => ?_)
  refine lv_iconst (v := 0) hc.x hc.b dX4_jointPair_2 (by decide) ?_
  refine lv_istore_n (lv' := [(2, .int 0), (1, .int ((-1))), (0, .ref (α 36 g0))]) hc.x hc.b dX4_jointPair_3 rfl hl (by decide) rfl (fun ls hl => ?_)
  refine lv_iconst (v := 0) hc.x hc.b dX4_jointPair_4 (by decide) ?_
  refine lv_istore_n (lv' := [(3, .int 0), (2, .int 0), (1, .int ((-1))), (0, .ref (α 36 g0))]) hc.x hc.b dX4_jointPair_5 rfl hl (by decide) rfl (fun ls hl => ?_)
  refine w_X4_jointPair_6 hc hr hL0 ?_ _ _ _ _ _ _ _ hf hd (lv_sub hl [3, 2, 1, 0] rfl)
  intro x1_19 H locs ls hf hd hl
  refine lv_iload_n hc.x hc.b dX4_jointPair_69 rfl (lv_at hl 0 rfl) ?_
  cases hf
  exact r_iret hc hd hr dX4_jointPair_70
theorem c_X4_jointPair (l : Launch) (D : va_G) (cs : Nat → ClassId) (B0 : Nat) (kt : (Nat → Nat) × (Nat → Nat)) (α : Nat → Nat → Nat) (Lv : Nat → Nat → Prop) (S : St) (g0 : Nat) (hcl : Cl Lv) (hL0 : Lv 36 g0) {o : Int32} (hf : f_X4_jointPair g0 S = some o) : Met l yX4_jointPair (wz yX4_jointPair cX4_jointPair 5 (some .int)) (Rm 1 0 0) (Pz D cs B0 kt α Lv S [.ref (α 36 g0)]) (Qi D cs B0 α Lv o S) 0 0 (AB B0) := met_of (by decide) rfl hcl (Nat.le_of_ble_eq_true rfl) (fun p e s m below meth c hc hr hd ls hl => b_X4_jointPair hc hr hL0 hf hd hl)
theorem my_X4_jointPair : MyV yX4_jointPair "PumpCrossing$Game" cX4_jointPair 5 (some .int) 0 := ⟨tw_1048, tw_1049, tw_9, tw_1050, by decide +kernel⟩
def f_X4_replyOfA_4 (g0 : Nat) (x1 : Int32) (S : St) (K : Int32 → Option (Int32)) : Nat → Int32 → Int32 → Option (Int32)
  | 0, _, _ => none
  | n + 1, x2, x3 => br ((gi S 36 g0 0) ≤ x3) (K x2) (ck (inb x3 8 = true) (ck (inb x1 8 = true) (ck (inb x2 8 = true) (ck (inb x1 8 = true) (bv (fun (x2_6 : Int32) => bv (x3 + 1) (fun x3_8 => f_X4_replyOfA_4 g0 x1 S K n x2_6 x3_8)) (fun J_7 => br ((gi S 38 ((nn x3)) (nn x1)) ≤ (gi S 38 ((nn x2)) (nn x1))) (J_7 x2) (J_7 x3)))))))
def f_X4_replyOfA (g0 : Nat) (x1 : Int32) (S : St) : Option (Int32) := f_X4_replyOfA_4 g0 x1 S (fun (x2_10 : Int32) => some x2_10) FU 0 1
set_option maxRecDepth 100000 in
set_option maxHeartbeats 4000000 in
theorem w_X4_replyOfA_4 (hc : Cx p s m args meth c cX4_replyOfA 4 "PumpCrossing$Game" D cs B0 kt Lv) (hr : meth.sig.returnType = some .int) {o : Int32}  {g0 : Nat} {x1 : Int32} {S : St} {K : Int32 → Option (Int32)} (hL0 : Lv 36 g0) (hK : ∀ (k2 : Int32) (H : Heap) (locs : List Loc) (ls : Array Slot), K k2 = some o → Dy s D cs B0 α Lv S H locs → lv_has ls 4 [(2, .int k2)] → W p l e (Rm 0 0 0) s m args below meth c H locs 0 0 (MQ below (Qi D cs B0 α Lv o S) args s 0 0 (AB B0)) (F0 m 39 ls [])) : ∀ (n : Nat) (x2 : Int32) (x3 : Int32) (H : Heap) (locs : List Loc) (ls : Array Slot), f_X4_replyOfA_4 g0 x1 S K n x2 x3 = some o → Dy s D cs B0 α Lv S H locs → lv_has ls 4 [(0, .ref (α 36 g0)), (1, .int x1), (2, .int x2), (3, .int x3)] → W p l e (Rm 0 0 0) s m args below meth c H locs 0 0 (MQ below (Qi D cs B0 α Lv o S) args s 0 0 (AB B0)) (F0 m 4 ls []) := by
  intro n
  induction n with
  | zero =>
    intro x2 x3 H locs ls hf
    rw [f_X4_replyOfA_4] at hf
    cases hf
  | succ n ih =>
    intro x2 x3 H locs ls hf hd hl
    rw [f_X4_replyOfA_4] at hf
    refine lv_iload_n hc.x hc.b dX4_replyOfA_4 rfl (lv_at hl 3 rfl) ?_
    refine lv_aload_n hc.x hc.b dX4_replyOfA_5 rfl (lv_at hl 0 rfl) ?_
    refine fg_36_0 hc hd hL0 tw_297 dX4_replyOfA_6 ?_
    refine lv_icmp_ge (tgt := 39) hc.x hc.b dX4_replyOfA_9 (by decide) (fun c_1 => ?_) (fun c_1 => ?_)
    · have hf := br_y c_1 hf
      exact hK x2 _ _ _ hf hd (lv_sub hl [2] rfl)
    · have hf := br_n c_1 hf
      refine lv_aload_n hc.x hc.b dX4_replyOfA_12 rfl (lv_at hl 0 rfl) ?_
      refine fg_36_1 hc hd hL0 tw_298 dX4_replyOfA_13 ?_
      refine lv_iload_n hc.x hc.b dX4_replyOfA_16 rfl (lv_at hl 3 rfl) ?_
      obtain ⟨hi_2, hf⟩ := ck_s hf
      refine r_aald hc hd (cl_36_gainA hc.cl hL0) (t0 := 6) rfl rfl rfl hi_2 dX4_replyOfA_17 ?_
      show W p l e (Rm 0 0 0) s m args below meth c H locs 0 0 (MQ below (Qi D cs B0 α Lv o S) args s 0 0 (AB B0)) (F0 m 18 ls [.ref (α 38 ((nn x3)))])
      refine lv_iload_n hc.x hc.b dX4_replyOfA_18 rfl (lv_at hl 1 rfl) ?_
      obtain ⟨hi_3, hf⟩ := ck_s hf
      refine r_iald hc hd (cl_37 hc.cl (cl_36_gainA hc.cl hL0) (inb_lt hi_2)) rfl hi_3 dX4_replyOfA_19 ?_
      refine lv_aload_n hc.x hc.b dX4_replyOfA_20 rfl (lv_at hl 0 rfl) ?_
      refine fg_36_1 hc hd hL0 tw_298 dX4_replyOfA_21 ?_
      refine lv_iload_n hc.x hc.b dX4_replyOfA_24 rfl (lv_at hl 2 rfl) ?_
      obtain ⟨hi_4, hf⟩ := ck_s hf
      refine r_aald hc hd (cl_36_gainA hc.cl hL0) (t0 := 6) rfl rfl rfl hi_4 dX4_replyOfA_25 ?_
      show W p l e (Rm 0 0 0) s m args below meth c H locs 0 0 (MQ below (Qi D cs B0 α Lv o S) args s 0 0 (AB B0)) (F0 m 26 ls [.ref (α 38 ((nn x2))), .int (gi S 38 ((nn x3)) (nn x1))])
      refine lv_iload_n hc.x hc.b dX4_replyOfA_26 rfl (lv_at hl 1 rfl) ?_
      obtain ⟨hi_5, hf⟩ := ck_s hf
      refine r_iald hc hd (cl_37 hc.cl (cl_36_gainA hc.cl hL0) (inb_lt hi_4)) rfl hi_5 dX4_replyOfA_27 ?_
      refine jn_s (P := fun J_7 => ∀ (x2_6 : Int32) (H : Heap) (locs : List Loc) (ls : Array Slot), J_7 x2_6 = some o → Dy s D cs B0 α Lv S H locs → lv_has ls 4 [(0, .ref (α 36 g0)), (1, .int x1), (2, .int x2_6), (3, .int x3)] → W p l e (Rm 0 0 0) s m args below meth c H locs 0 0 (MQ below (Qi D cs B0 α Lv o S) args s 0 0 (AB B0)) (F0 m 33 ls [])) hf ?_ (fun J_7 hJ_7 hf => ?_)
      · intro x2_6 H locs ls hf hd hl
        obtain ⟨x3_8, ex3_8⟩ : ∃ z : Int32, z = x3 + 1 := ⟨_, rfl⟩
        have hf := bv_n ex3_8 hf
        refine lv_iinc (v := x3_8) (lv' := [(3, .int x3_8), (0, .ref (α 36 g0)), (1, .int x1), (2, .int x2_6)]) hc.x hc.b dX4_replyOfA_33 hl (k := 3) rfl (by rw [ex3_8]; rfl) (by decide) rfl (fun ls hl => ?_)
        refine lv_goto (tgt := 4) hc.x hc.b dX4_replyOfA_36 (by decide) ?_
        exact ih x2_6 x3_8 _ _ _ hf hd (lv_sub hl [1, 2, 3, 0] rfl)
      refine lv_icmp_le (tgt := 33) hc.x hc.b dX4_replyOfA_28 (by decide) (fun c_9 => ?_) (fun c_9 => ?_)
      · have hf := br_y c_9 hf
        exact hJ_7 x2 _ _ _ hf hd (lv_sub hl [0, 1, 2, 3] rfl)
      · have hf := br_n c_9 hf
        refine lv_iload_n hc.x hc.b dX4_replyOfA_31 rfl (lv_at hl 3 rfl) ?_
        refine lv_istore_n (lv' := [(2, .int x3), (0, .ref (α 36 g0)), (1, .int x1), (3, .int x3)]) hc.x hc.b dX4_replyOfA_32 rfl hl (by decide) rfl (fun ls hl => ?_)
        exact hJ_7 x3 _ _ _ hf hd (lv_sub hl [1, 2, 0, 3] rfl)
set_option maxRecDepth 100000 in
set_option maxHeartbeats 4000000 in
theorem b_X4_replyOfA (hc : Cx p s m args meth c cX4_replyOfA 4 "PumpCrossing$Game" D cs B0 kt Lv) (hr : meth.sig.returnType = some .int)  {o : Int32}  {S : St} {g0 : Nat} {x1 : Int32} (hL0 : Lv 36 g0) {H : Heap} {locs : List Loc} {ls : Array Slot} (hf : f_X4_replyOfA g0 x1 S = some o) (hd : Dy s D cs B0 α Lv S H locs) (hl : lv_has ls 4 [(0, .ref (α 36 g0)), (1, .int x1)]) : W p l e (Rm 0 0 0) s m args below meth c H locs 0 0 (MQ below (Qi D cs B0 α Lv o S) args s 0 0 (AB B0)) (F0 m 0 ls []) := by
  unfold f_X4_replyOfA at hf
  refine lv_iconst (v := 0) hc.x hc.b dX4_replyOfA_0 (by decide) ?_
  refine lv_istore_n (lv' := [(2, .int 0), (0, .ref (α 36 g0)), (1, .int x1)]) hc.x hc.b dX4_replyOfA_1 rfl hl (by decide) rfl (fun ls hl => ?_)
  refine lv_iconst (v := 1) hc.x hc.b dX4_replyOfA_2 (by decide) ?_
  refine lv_istore_n (lv' := [(3, .int 1), (2, .int 0), (0, .ref (α 36 g0)), (1, .int x1)]) hc.x hc.b dX4_replyOfA_3 rfl hl (by decide) rfl (fun ls hl => ?_)
  refine w_X4_replyOfA_4 hc hr hL0 ?_ _ _ _ _ _ _ hf hd (lv_sub hl [2, 3, 1, 0] rfl)
  intro x2_10 H locs ls hf hd hl
  refine lv_iload_n hc.x hc.b dX4_replyOfA_39 rfl (lv_at hl 0 rfl) ?_
  cases hf
  exact r_iret hc hd hr dX4_replyOfA_40
theorem c_X4_replyOfA (l : Launch) (D : va_G) (cs : Nat → ClassId) (B0 : Nat) (kt : (Nat → Nat) × (Nat → Nat)) (α : Nat → Nat → Nat) (Lv : Nat → Nat → Prop) (S : St) (g0 : Nat) (x1 : Int32) (hcl : Cl Lv) (hL0 : Lv 36 g0) {o : Int32} (hf : f_X4_replyOfA g0 x1 S = some o) : Met l yX4_replyOfA (wz yX4_replyOfA cX4_replyOfA 4 (some .int)) (Rm 0 0 0) (Pz D cs B0 kt α Lv S [.ref (α 36 g0), .int x1]) (Qi D cs B0 α Lv o S) 0 0 (AB B0) := met_of (by decide) rfl hcl (Nat.le_of_ble_eq_true rfl) (fun p e s m below meth c hc hr hd ls hl => b_X4_replyOfA hc hr hL0 hf hd hl)
theorem my_X4_replyOfA : MyV yX4_replyOfA "PumpCrossing$Game" cX4_replyOfA 4 (some .int) 1 := ⟨tw_1015, tw_1016, tw_9, tw_1017, by decide +kernel⟩
def f_X4_setInTurn_5 (g0 : Nat) (x2 : Int32) (S : St) (K : Int32 → Option (Int32)) : Nat → Int32 → Int32 → Option (Int32)
  | 0, _, _ => none
  | n + 1, x3, x4 => br (x2 < x4) (K x3) (ck (inb x4 40 = true) (ck (inb x3 8 = true) (bv (gi S 42 ((nn x4)) (nn x3)) (fun x3_4 => bv (x4 + 1) (fun x4_5 => f_X4_setInTurn_5 g0 x2 S K n x3_4 x4_5)))))
def f_X4_setInTurn (g0 : Nat) (x1 : Int32) (x2 : Int32) (S : St) : Option (Int32) := f_X4_setInTurn_5 g0 x2 S (fun (x3_6 : Int32) => some x3_6) FU x1 0
set_option maxRecDepth 100000 in
set_option maxHeartbeats 4000000 in
theorem w_X4_setInTurn_5 (hc : Cx p s m args meth c cX4_setInTurn 5 "PumpCrossing$Game" D cs B0 kt Lv) (hr : meth.sig.returnType = some .int) {o : Int32}  {g0 : Nat} {x2 : Int32} {S : St} {K : Int32 → Option (Int32)} (hL0 : Lv 36 g0) (hK : ∀ (k3 : Int32) (H : Heap) (locs : List Loc) (ls : Array Slot), K k3 = some o → Dy s D cs B0 α Lv S H locs → lv_has ls 5 [(3, .int k3)] → W p l e (Rm 0 0 0) s m args below meth c H locs 0 0 (MQ below (Qi D cs B0 α Lv o S) args s 0 0 (AB B0)) (F0 m 27 ls [])) : ∀ (n : Nat) (x3 : Int32) (x4 : Int32) (H : Heap) (locs : List Loc) (ls : Array Slot), f_X4_setInTurn_5 g0 x2 S K n x3 x4 = some o → Dy s D cs B0 α Lv S H locs → lv_has ls 5 [(0, .ref (α 36 g0)), (2, .int x2), (3, .int x3), (4, .int x4)] → W p l e (Rm 0 0 0) s m args below meth c H locs 0 0 (MQ below (Qi D cs B0 α Lv o S) args s 0 0 (AB B0)) (F0 m 5 ls []) := by
  intro n
  induction n with
  | zero =>
    intro x3 x4 H locs ls hf
    rw [f_X4_setInTurn_5] at hf
    cases hf
  | succ n ih =>
    intro x3 x4 H locs ls hf hd hl
    rw [f_X4_setInTurn_5] at hf
    refine lv_iload hc.x hc.b dX4_setInTurn_5 (lv_at hl 3 rfl) ?_
    refine lv_iload_n hc.x hc.b dX4_setInTurn_7 rfl (lv_at hl 1 rfl) ?_
    refine lv_icmp_gt (tgt := 27) hc.x hc.b dX4_setInTurn_8 (by decide) (fun c_1 => ?_) (fun c_1 => ?_)
    · have hf := br_y c_1 hf
      exact hK x3 _ _ _ hf hd (lv_sub hl [2] rfl)
    · have hf := br_n c_1 hf
      refine lv_aload_n hc.x hc.b dX4_setInTurn_11 rfl (lv_at hl 0 rfl) ?_
      refine fg_36_4 hc hd hL0 tw_305 dX4_setInTurn_12 ?_
      refine lv_iload hc.x hc.b dX4_setInTurn_15 (lv_at hl 3 rfl) ?_
      obtain ⟨hi_2, hf⟩ := ck_s hf
      refine r_aald hc hd (cl_36_choices hc.cl hL0) (t0 := 6) rfl rfl rfl hi_2 dX4_setInTurn_17 ?_
      show W p l e (Rm 0 0 0) s m args below meth c H locs 0 0 (MQ below (Qi D cs B0 α Lv o S) args s 0 0 (AB B0)) (F0 m 18 ls [.ref (α 42 ((nn x4)))])
      refine lv_iload_n hc.x hc.b dX4_setInTurn_18 rfl (lv_at hl 2 rfl) ?_
      obtain ⟨hi_3, hf⟩ := ck_s hf
      refine r_iald hc hd (cl_41 hc.cl (cl_36_choices hc.cl hL0) (inb_lt hi_2)) rfl hi_3 dX4_setInTurn_19 ?_
      refine lv_topi (fun x3_4 ex3_4 => ?_)
      have hf := bv_n ex3_4 hf
      refine lv_istore_n (lv' := [(3, .int x3_4), (0, .ref (α 36 g0)), (2, .int x2), (4, .int x4)]) hc.x hc.b dX4_setInTurn_20 rfl hl (by decide) rfl (fun ls hl => ?_)
      obtain ⟨x4_5, ex4_5⟩ : ∃ z : Int32, z = x4 + 1 := ⟨_, rfl⟩
      have hf := bv_n ex4_5 hf
      refine lv_iinc (v := x4_5) (lv' := [(4, .int x4_5), (3, .int x3_4), (0, .ref (α 36 g0)), (2, .int x2)]) hc.x hc.b dX4_setInTurn_21 hl (k := 3) rfl (by rw [ex4_5]; rfl) (by decide) rfl (fun ls hl => ?_)
      refine lv_goto (tgt := 5) hc.x hc.b dX4_setInTurn_24 (by decide) ?_
      exact ih x3_4 x4_5 _ _ _ hf hd (lv_sub hl [2, 3, 1, 0] rfl)
set_option maxRecDepth 100000 in
set_option maxHeartbeats 4000000 in
theorem b_X4_setInTurn (hc : Cx p s m args meth c cX4_setInTurn 5 "PumpCrossing$Game" D cs B0 kt Lv) (hr : meth.sig.returnType = some .int)  {o : Int32}  {S : St} {g0 : Nat} {x1 : Int32} {x2 : Int32} (hL0 : Lv 36 g0) {H : Heap} {locs : List Loc} {ls : Array Slot} (hf : f_X4_setInTurn g0 x1 x2 S = some o) (hd : Dy s D cs B0 α Lv S H locs) (hl : lv_has ls 5 [(0, .ref (α 36 g0)), (1, .int x1), (2, .int x2)]) : W p l e (Rm 0 0 0) s m args below meth c H locs 0 0 (MQ below (Qi D cs B0 α Lv o S) args s 0 0 (AB B0)) (F0 m 0 ls []) := by
  unfold f_X4_setInTurn at hf
  refine lv_iload_n hc.x hc.b dX4_setInTurn_0 rfl (lv_at hl 1 rfl) ?_
  refine lv_istore_n (lv' := [(3, .int x1), (0, .ref (α 36 g0)), (1, .int x1), (2, .int x2)]) hc.x hc.b dX4_setInTurn_1 rfl hl (by decide) rfl (fun ls hl => ?_)
  refine lv_iconst (v := 0) hc.x hc.b dX4_setInTurn_2 (by decide) ?_
  refine lv_istore (lv' := [(4, .int 0), (3, .int x1), (0, .ref (α 36 g0)), (1, .int x1), (2, .int x2)]) hc.x hc.b dX4_setInTurn_3 hl (by decide) rfl (fun ls hl => ?_)
  refine w_X4_setInTurn_5 hc hr hL0 ?_ _ _ _ _ _ _ hf hd (lv_sub hl [2, 4, 1, 0] rfl)
  intro x3_6 H locs ls hf hd hl
  refine lv_iload_n hc.x hc.b dX4_setInTurn_27 rfl (lv_at hl 0 rfl) ?_
  cases hf
  exact r_iret hc hd hr dX4_setInTurn_28
theorem c_X4_setInTurn (l : Launch) (D : va_G) (cs : Nat → ClassId) (B0 : Nat) (kt : (Nat → Nat) × (Nat → Nat)) (α : Nat → Nat → Nat) (Lv : Nat → Nat → Prop) (S : St) (g0 : Nat) (x1 : Int32) (x2 : Int32) (hcl : Cl Lv) (hL0 : Lv 36 g0) {o : Int32} (hf : f_X4_setInTurn g0 x1 x2 S = some o) : Met l yX4_setInTurn (wz yX4_setInTurn cX4_setInTurn 5 (some .int)) (Rm 0 0 0) (Pz D cs B0 kt α Lv S [.ref (α 36 g0), .int x1, .int x2]) (Qi D cs B0 α Lv o S) 0 0 (AB B0) := met_of (by decide) rfl hcl (Nat.le_of_ble_eq_true rfl) (fun p e s m below meth c hc hr hd ls hl => b_X4_setInTurn hc hr hL0 hf hd hl)
theorem my_X4_setInTurn : MyV yX4_setInTurn "PumpCrossing$Game" cX4_setInTurn 5 (some .int) 2 := ⟨tw_1079, tw_1080, tw_9, tw_1081, by decide +kernel⟩
def f_X6_bestOf_4 (g0 : Nat) (g1 : Nat) (S : St) (K : Int32 → Option (Int32)) : Nat → Int32 → Int32 → Option (Int32)
  | 0, _, _ => none
  | n + 1, x2, x3 => br ((gi S 44 g0 2) ≤ x3) (K x2) (ck (inb x3 8 = true) (ck (inb x2 8 = true) (bv (fun (x2_4 : Int32) => bv (x3 + 1) (fun x3_6 => f_X6_bestOf_4 g0 g1 S K n x2_4 x3_6)) (fun J_5 => br ((gi S 46 g1 (nn x3)) ≤ (gi S 46 g1 (nn x2))) (J_5 x2) (J_5 x3)))))
def f_X6_bestOf (g0 : Nat) (g1 : Nat) (S : St) : Option (Int32) := f_X6_bestOf_4 g0 g1 S (fun (x2_8 : Int32) => some x2_8) FU 0 1
set_option maxRecDepth 100000 in
set_option maxHeartbeats 4000000 in
theorem w_X6_bestOf_4 (hc : Cx p s m args meth c cX6_bestOf 4 "PumpCrossing$Learners" D cs B0 kt Lv) (hr : meth.sig.returnType = some .int) {o : Int32}  {g0 : Nat} {g1 : Nat} {S : St} {K : Int32 → Option (Int32)} (hL0 : Lv 44 g0) (hL1 : Lv 46 g1) (hK : ∀ (k2 : Int32) (H : Heap) (locs : List Loc) (ls : Array Slot), K k2 = some o → Dy s D cs B0 α Lv S H locs → lv_has ls 4 [(2, .int k2)] → W p l e (Rm 0 0 0) s m args below meth c H locs 0 0 (MQ below (Qi D cs B0 α Lv o S) args s 0 0 (AB B0)) (F0 m 29 ls [])) : ∀ (n : Nat) (x2 : Int32) (x3 : Int32) (H : Heap) (locs : List Loc) (ls : Array Slot), f_X6_bestOf_4 g0 g1 S K n x2 x3 = some o → Dy s D cs B0 α Lv S H locs → lv_has ls 4 [(0, .ref (α 44 g0)), (1, .ref (α 46 g1)), (2, .int x2), (3, .int x3)] → W p l e (Rm 0 0 0) s m args below meth c H locs 0 0 (MQ below (Qi D cs B0 α Lv o S) args s 0 0 (AB B0)) (F0 m 4 ls []) := by
  intro n
  induction n with
  | zero =>
    intro x2 x3 H locs ls hf
    rw [f_X6_bestOf_4] at hf
    cases hf
  | succ n ih =>
    intro x2 x3 H locs ls hf hd hl
    rw [f_X6_bestOf_4] at hf
    refine lv_iload_n hc.x hc.b dX6_bestOf_4 rfl (lv_at hl 3 rfl) ?_
    refine lv_aload_n hc.x hc.b dX6_bestOf_5 rfl (lv_at hl 0 rfl) ?_
    refine fg_44_2 hc hd hL0 tw_334 dX6_bestOf_6 ?_
    refine lv_icmp_ge (tgt := 29) hc.x hc.b dX6_bestOf_9 (by decide) (fun c_1 => ?_) (fun c_1 => ?_)
    · have hf := br_y c_1 hf
      exact hK x2 _ _ _ hf hd (lv_sub hl [2] rfl)
    · have hf := br_n c_1 hf
      refine lv_aload_n hc.x hc.b dX6_bestOf_12 rfl (lv_at hl 1 rfl) ?_
      refine lv_iload_n hc.x hc.b dX6_bestOf_13 rfl (lv_at hl 3 rfl) ?_
      obtain ⟨hi_2, hf⟩ := ck_s hf
      refine r_iald hc hd hL1 rfl hi_2 dX6_bestOf_14 ?_
      refine lv_aload_n hc.x hc.b dX6_bestOf_15 rfl (lv_at hl 1 rfl) ?_
      refine lv_iload_n hc.x hc.b dX6_bestOf_16 rfl (lv_at hl 2 rfl) ?_
      obtain ⟨hi_3, hf⟩ := ck_s hf
      refine r_iald hc hd hL1 rfl hi_3 dX6_bestOf_17 ?_
      refine jn_s (P := fun J_5 => ∀ (x2_4 : Int32) (H : Heap) (locs : List Loc) (ls : Array Slot), J_5 x2_4 = some o → Dy s D cs B0 α Lv S H locs → lv_has ls 4 [(0, .ref (α 44 g0)), (1, .ref (α 46 g1)), (2, .int x2_4), (3, .int x3)] → W p l e (Rm 0 0 0) s m args below meth c H locs 0 0 (MQ below (Qi D cs B0 α Lv o S) args s 0 0 (AB B0)) (F0 m 23 ls [])) hf ?_ (fun J_5 hJ_5 hf => ?_)
      · intro x2_4 H locs ls hf hd hl
        obtain ⟨x3_6, ex3_6⟩ : ∃ z : Int32, z = x3 + 1 := ⟨_, rfl⟩
        have hf := bv_n ex3_6 hf
        refine lv_iinc (v := x3_6) (lv' := [(3, .int x3_6), (0, .ref (α 44 g0)), (1, .ref (α 46 g1)), (2, .int x2_4)]) hc.x hc.b dX6_bestOf_23 hl (k := 3) rfl (by rw [ex3_6]; rfl) (by decide) rfl (fun ls hl => ?_)
        refine lv_goto (tgt := 4) hc.x hc.b dX6_bestOf_26 (by decide) ?_
        exact ih x2_4 x3_6 _ _ _ hf hd (lv_sub hl [1, 2, 3, 0] rfl)
      refine lv_icmp_le (tgt := 23) hc.x hc.b dX6_bestOf_18 (by decide) (fun c_7 => ?_) (fun c_7 => ?_)
      · have hf := br_y c_7 hf
        exact hJ_5 x2 _ _ _ hf hd (lv_sub hl [0, 1, 2, 3] rfl)
      · have hf := br_n c_7 hf
        refine lv_iload_n hc.x hc.b dX6_bestOf_21 rfl (lv_at hl 3 rfl) ?_
        refine lv_istore_n (lv' := [(2, .int x3), (0, .ref (α 44 g0)), (1, .ref (α 46 g1)), (3, .int x3)]) hc.x hc.b dX6_bestOf_22 rfl hl (by decide) rfl (fun ls hl => ?_)
        exact hJ_5 x3 _ _ _ hf hd (lv_sub hl [1, 2, 0, 3] rfl)
set_option maxRecDepth 100000 in
set_option maxHeartbeats 4000000 in
theorem b_X6_bestOf (hc : Cx p s m args meth c cX6_bestOf 4 "PumpCrossing$Learners" D cs B0 kt Lv) (hr : meth.sig.returnType = some .int)  {o : Int32}  {S : St} {g0 : Nat} {g1 : Nat} (hL0 : Lv 44 g0) (hL1 : Lv 46 g1) {H : Heap} {locs : List Loc} {ls : Array Slot} (hf : f_X6_bestOf g0 g1 S = some o) (hd : Dy s D cs B0 α Lv S H locs) (hl : lv_has ls 4 [(0, .ref (α 44 g0)), (1, .ref (α 46 g1))]) : W p l e (Rm 0 0 0) s m args below meth c H locs 0 0 (MQ below (Qi D cs B0 α Lv o S) args s 0 0 (AB B0)) (F0 m 0 ls []) := by
  unfold f_X6_bestOf at hf
  refine lv_iconst (v := 0) hc.x hc.b dX6_bestOf_0 (by decide) ?_
  refine lv_istore_n (lv' := [(2, .int 0), (0, .ref (α 44 g0)), (1, .ref (α 46 g1))]) hc.x hc.b dX6_bestOf_1 rfl hl (by decide) rfl (fun ls hl => ?_)
  refine lv_iconst (v := 1) hc.x hc.b dX6_bestOf_2 (by decide) ?_
  refine lv_istore_n (lv' := [(3, .int 1), (2, .int 0), (0, .ref (α 44 g0)), (1, .ref (α 46 g1))]) hc.x hc.b dX6_bestOf_3 rfl hl (by decide) rfl (fun ls hl => ?_)
  refine w_X6_bestOf_4 hc hr hL0 hL1 ?_ _ _ _ _ _ _ hf hd (lv_sub hl [2, 3, 1, 0] rfl)
  intro x2_8 H locs ls hf hd hl
  refine lv_iload_n hc.x hc.b dX6_bestOf_29 rfl (lv_at hl 0 rfl) ?_
  cases hf
  exact r_iret hc hd hr dX6_bestOf_30
theorem c_X6_bestOf (l : Launch) (D : va_G) (cs : Nat → ClassId) (B0 : Nat) (kt : (Nat → Nat) × (Nat → Nat)) (α : Nat → Nat → Nat) (Lv : Nat → Nat → Prop) (S : St) (g0 : Nat) (g1 : Nat) (hcl : Cl Lv) (hL0 : Lv 44 g0) (hL1 : Lv 46 g1) {o : Int32} (hf : f_X6_bestOf g0 g1 S = some o) : Met l yX6_bestOf (wz yX6_bestOf cX6_bestOf 4 (some .int)) (Rm 0 0 0) (Pz D cs B0 kt α Lv S [.ref (α 44 g0), .ref (α 46 g1)]) (Qi D cs B0 α Lv o S) 0 0 (AB B0) := met_of (by decide) rfl hcl (Nat.le_of_ble_eq_true rfl) (fun p e s m below meth c hc hr hd ls hl => b_X6_bestOf hc hr hL0 hL1 hf hd hl)
theorem my_X6_bestOf : MyV yX6_bestOf "PumpCrossing$Learners" cX6_bestOf 4 (some .int) 1 := ⟨tw_1116, (in_sel 28 (by decide +kernel) (by decide +kernel)), tw_10, tw_1117, by decide +kernel⟩
def f_X6_answerOfB (g0 : Nat) (x1 : Int32) (S : St) : Option (Int32) := ck (inb x1 8 = true) (on (f_X6_bestOf g0 (8 * 1 + (nn x1)) S) (fun r_3 => some r_3))
set_option maxRecDepth 100000 in
set_option maxHeartbeats 4000000 in
theorem b_X6_answerOfB (hc : Cx p s m args meth c cX6_answerOfB 2 "PumpCrossing$Learners" D cs B0 kt Lv) (hr : meth.sig.returnType = some .int)  {o : Int32}  {S : St} {g0 : Nat} {x1 : Int32} (hL0 : Lv 44 g0) {H : Heap} {locs : List Loc} {ls : Array Slot} (hf : f_X6_answerOfB g0 x1 S = some o) (hd : Dy s D cs B0 α Lv S H locs) (hl : lv_has ls 2 [(0, .ref (α 44 g0)), (1, .int x1)]) : W p l e (Rm 1 0 0) s m args below meth c H locs 0 0 (MQ below (Qi D cs B0 α Lv o S) args s 0 0 (AB B0)) (F0 m 0 ls []) := by
  unfold f_X6_answerOfB at hf
  refine lv_aload_n hc.x hc.b dX6_answerOfB_0 rfl (lv_at hl 0 rfl) ?_
  refine lv_aload_n hc.x hc.b dX6_answerOfB_1 rfl (lv_at hl 0 rfl) ?_
  refine fg_44_1 hc hd hL0 tw_333 dX6_answerOfB_2 ?_
  refine lv_iload_n hc.x hc.b dX6_answerOfB_5 rfl (lv_at hl 1 rfl) ?_
  obtain ⟨hi_1, hf⟩ := ck_s hf
  refine r_aald hc hd (cl_44_tableB hc.cl hL0) (t0 := 6) rfl rfl rfl hi_1 dX6_answerOfB_6 ?_
  show W p l e (Rm 1 0 0) s m args below meth c H locs 0 0 (MQ below (Qi D cs B0 α Lv o S) args s 0 0 (AB B0)) (F0 m 7 ls [.ref (α 46 (8 * 1 + (nn x1))), .ref (α 44 g0)])
  obtain ⟨r_3, hq_2, hf⟩ := on_s hf
  refine k_i (k_runV hc hd my_X6_bestOf tw_1114 hL0 rfl rfl rfl (c_X6_bestOf l D cs B0 kt α Lv S g0 (8 * 1 + (nn x1)) hc.cl hL0 (cl_45 hc.cl (cl_44_tableB hc.cl hL0) (inb_lt hi_1))  hq_2) rfl rfl hl.1 (Nat.le_of_ble_eq_true rfl) ⟨Nat.le_of_ble_eq_true rfl, Nat.le_of_ble_eq_true rfl, Nat.zero_le _, Nat.zero_le _⟩ dX6_answerOfB_7) hd (fun H locs hd => ?_)
  cases hf
  exact r_iret hc hd hr dX6_answerOfB_10
theorem c_X6_answerOfB (l : Launch) (D : va_G) (cs : Nat → ClassId) (B0 : Nat) (kt : (Nat → Nat) × (Nat → Nat)) (α : Nat → Nat → Nat) (Lv : Nat → Nat → Prop) (S : St) (g0 : Nat) (x1 : Int32) (hcl : Cl Lv) (hL0 : Lv 44 g0) {o : Int32} (hf : f_X6_answerOfB g0 x1 S = some o) : Met l yX6_answerOfB (wz yX6_answerOfB cX6_answerOfB 2 (some .int)) (Rm 1 0 0) (Pz D cs B0 kt α Lv S [.ref (α 44 g0), .int x1]) (Qi D cs B0 α Lv o S) 0 0 (AB B0) := met_of (by decide) rfl hcl (Nat.le_of_ble_eq_true rfl) (fun p e s m below meth c hc hr hd ls hl => b_X6_answerOfB hc hr hL0 hf hd hl)
theorem my_X6_answerOfB : MyV yX6_answerOfB "PumpCrossing$Learners" cX6_answerOfB 2 (some .int) 1 := ⟨tw_1139, tw_1140, tw_10, tw_1141, by decide +kernel⟩
def f_X6_clear_33 (g0 : Nat) (x1 : Int32) (x2 : Int32) (K : St → Option (St)) : Nat → Int32 → St → Option (St)
  | 0, _, _ => none
  | n + 1, x3, S => br (x1 ≤ x3) (K S) (ck (inb x2 8 = true) (ck (inb x3 8 = true) (bv (si S 46 (8 * 0 + (nn x2)) (nn x3) 0) (fun S_9 => ck (inb x2 8 = true) (ck (inb x3 8 = true) (bv (si S_9 46 (8 * 1 + (nn x2)) (nn x3) 0) (fun S_12 => bv (x3 + 1) (fun x3_13 => f_X6_clear_33 g0 x1 x2 K n x3_13 S_12))))))))
def f_X6_clear_26 (g0 : Nat) (x1 : Int32) (K : St → Option (St)) : Nat → Int32 → St → Option (St)
  | 0, _, _ => none
  | n + 1, x2, S => br (x1 ≤ x2) (K S) (f_X6_clear_33 g0 x1 x2 (fun  (S_14 : St) => bv (x2 + 1) (fun x2_15 => f_X6_clear_26 g0 x1 K n x2_15 S_14)) FU 0 S)
def f_X6_clear (g0 : Nat) (x1 : Int32) (S : St) : Option (St) := bv (si S 44 g0 2 x1) (fun S_1 => bv (mxI 0 (x1 - 1)) (fun q_2 => bv (si S_1 44 g0 3 q_2) (fun S_3 => bv (si S_3 44 g0 4 (gi S_3 44 g0 3)) (fun S_4 => f_X6_clear_26 g0 x1 (fun  (S_16 : St) => some S_16) FU 0 S_4))))
set_option maxRecDepth 100000 in
set_option maxHeartbeats 4000000 in
theorem w_X6_clear_33 (hc : Cx p s m args meth c cX6_clear 4 "PumpCrossing$Learners" D cs B0 kt Lv) (hr : meth.sig.returnType = none) {o : St}  {g0 : Nat} {x1 : Int32} {x2 : Int32} {K : St → Option (St)} (hL0 : Lv 44 g0) (hK : ∀  (S : St) (H : Heap) (locs : List Loc) (ls : Array Slot), K S = some o → Dy s D cs B0 α Lv S H locs → lv_has ls 4 [(0, .ref (α 44 g0)), (1, .int x1), (2, .int x2)] → W p l e (Rm 2 0 0) s m args below meth c H locs 0 0 (MQ below (Qv D cs B0 α Lv o) args s 0 0 (AB B0)) (F0 m 62 ls [])) : ∀ (n : Nat) (x3 : Int32) (S : St) (H : Heap) (locs : List Loc) (ls : Array Slot), f_X6_clear_33 g0 x1 x2 K n x3 S = some o → Dy s D cs B0 α Lv S H locs → lv_has ls 4 [(0, .ref (α 44 g0)), (1, .int x1), (2, .int x2), (3, .int x3)] → W p l e (Rm 2 0 0) s m args below meth c H locs 0 0 (MQ below (Qv D cs B0 α Lv o) args s 0 0 (AB B0)) (F0 m 33 ls []) := by
  intro n
  induction n with
  | zero =>
    intro x3 S H locs ls hf
    rw [f_X6_clear_33] at hf
    cases hf
  | succ n ih =>
    intro x3 S H locs ls hf hd hl
    rw [f_X6_clear_33] at hf
    refine lv_iload_n hc.x hc.b dX6_clear_33 rfl (lv_at hl 3 rfl) ?_
    refine lv_iload_n hc.x hc.b dX6_clear_34 rfl (lv_at hl 1 rfl) ?_
    refine lv_icmp_ge (tgt := 62) hc.x hc.b dX6_clear_35 (by decide) (fun c_6 => ?_) (fun c_6 => ?_)
    · have hf := br_y c_6 hf
      exact hK S _ _ _ hf hd (lv_sub hl [0, 1, 2] rfl)
    · have hf := br_n c_6 hf
      refine lv_aload_n hc.x hc.b dX6_clear_38 rfl (lv_at hl 0 rfl) ?_
      refine fg_44_0 hc hd hL0 tw_332 dX6_clear_39 ?_
      refine lv_iload_n hc.x hc.b dX6_clear_42 rfl (lv_at hl 2 rfl) ?_
      obtain ⟨hi_7, hf⟩ := ck_s hf
      refine r_aald hc hd (cl_44_tableA hc.cl hL0) (t0 := 6) rfl rfl rfl hi_7 dX6_clear_43 ?_
      show W p l e (Rm 2 0 0) s m args below meth c H locs 0 0 (MQ below (Qv D cs B0 α Lv o) args s 0 0 (AB B0)) (F0 m 44 ls [.ref (α 46 (8 * 0 + (nn x2)))])
      refine lv_iload_n hc.x hc.b dX6_clear_44 rfl (lv_at hl 3 rfl) ?_
      refine lv_iconst (v := 0) hc.x hc.b dX6_clear_45 (by decide) ?_
      obtain ⟨hi_8, hf⟩ := ck_s hf
      refine r_iast hc hd (cl_45 hc.cl (cl_44_tableA hc.cl hL0) (inb_lt hi_7)) (fun _ => rfl) hi_8 dX6_clear_46 (fun H locs hd => ?_)
      obtain ⟨S_9, hd, hf⟩ := nmD hd hf
      refine lv_aload_n hc.x hc.b dX6_clear_47 rfl (lv_at hl 0 rfl) ?_
      refine fg_44_1 hc hd hL0 tw_333 dX6_clear_48 ?_
      refine lv_iload_n hc.x hc.b dX6_clear_51 rfl (lv_at hl 2 rfl) ?_
      obtain ⟨hi_10, hf⟩ := ck_s hf
      refine r_aald hc hd (cl_44_tableB hc.cl hL0) (t0 := 6) rfl rfl rfl hi_10 dX6_clear_52 ?_
      show W p l e (Rm 2 0 0) s m args below meth c H locs 0 0 (MQ below (Qv D cs B0 α Lv o) args s 0 0 (AB B0)) (F0 m 53 ls [.ref (α 46 (8 * 1 + (nn x2)))])
      refine lv_iload_n hc.x hc.b dX6_clear_53 rfl (lv_at hl 3 rfl) ?_
      refine lv_iconst (v := 0) hc.x hc.b dX6_clear_54 (by decide) ?_
      obtain ⟨hi_11, hf⟩ := ck_s hf
      refine r_iast hc hd (cl_45 hc.cl (cl_44_tableB hc.cl hL0) (inb_lt hi_10)) (fun _ => rfl) hi_11 dX6_clear_55 (fun H locs hd => ?_)
      obtain ⟨S_12, hd, hf⟩ := nmD hd hf
      obtain ⟨x3_13, ex3_13⟩ : ∃ z : Int32, z = x3 + 1 := ⟨_, rfl⟩
      have hf := bv_n ex3_13 hf
      refine lv_iinc (v := x3_13) (lv' := [(3, .int x3_13), (0, .ref (α 44 g0)), (1, .int x1), (2, .int x2)]) hc.x hc.b dX6_clear_56 hl (k := 3) rfl (by rw [ex3_13]; rfl) (by decide) rfl (fun ls hl => ?_)
      refine lv_goto (tgt := 33) hc.x hc.b dX6_clear_59 (by decide) ?_
      exact ih x3_13 S_12 _ _ _ hf hd (lv_sub hl [1, 2, 3, 0] rfl)
set_option maxRecDepth 100000 in
set_option maxHeartbeats 4000000 in
theorem w_X6_clear_26 (hc : Cx p s m args meth c cX6_clear 4 "PumpCrossing$Learners" D cs B0 kt Lv) (hr : meth.sig.returnType = none) {o : St}  {g0 : Nat} {x1 : Int32} {K : St → Option (St)} (hL0 : Lv 44 g0) (hK : ∀  (S : St) (H : Heap) (locs : List Loc) (ls : Array Slot), K S = some o → Dy s D cs B0 α Lv S H locs → lv_has ls 4 [] → W p l e (Rm 2 0 0) s m args below meth c H locs 0 0 (MQ below (Qv D cs B0 α Lv o) args s 0 0 (AB B0)) (F0 m 68 ls [])) : ∀ (n : Nat) (x2 : Int32) (S : St) (H : Heap) (locs : List Loc) (ls : Array Slot), f_X6_clear_26 g0 x1 K n x2 S = some o → Dy s D cs B0 α Lv S H locs → lv_has ls 4 [(0, .ref (α 44 g0)), (1, .int x1), (2, .int x2)] → W p l e (Rm 2 0 0) s m args below meth c H locs 0 0 (MQ below (Qv D cs B0 α Lv o) args s 0 0 (AB B0)) (F0 m 26 ls []) := by
  intro n
  induction n with
  | zero =>
    intro x2 S H locs ls hf
    rw [f_X6_clear_26] at hf
    cases hf
  | succ n ih =>
    intro x2 S H locs ls hf hd hl
    rw [f_X6_clear_26] at hf
    refine lv_iload_n hc.x hc.b dX6_clear_26 rfl (lv_at hl 2 rfl) ?_
    refine lv_iload_n hc.x hc.b dX6_clear_27 rfl (lv_at hl 1 rfl) ?_
    refine lv_icmp_ge (tgt := 68) hc.x hc.b dX6_clear_28 (by decide) (fun c_5 => ?_) (fun c_5 => ?_)
    · have hf := br_y c_5 hf
      exact hK S _ _ _ hf hd (lv_sub hl [] rfl)
    · have hf := br_n c_5 hf
      refine lv_iconst (v := 0) hc.x hc.b dX6_clear_31 (by decide) ?_
      refine lv_istore_n (lv' := [(3, .int 0), (0, .ref (α 44 g0)), (1, .int x1), (2, .int x2)]) hc.x hc.b dX6_clear_32 rfl hl (by decide) rfl (fun ls hl => ?_)
      refine w_X6_clear_33 hc hr hL0 ?_ _ _ _ _ _ _ hf hd (lv_sub hl [1, 2, 3, 0] rfl)
      intro S_14 H locs ls hf hd hl
      obtain ⟨x2_15, ex2_15⟩ : ∃ z : Int32, z = x2 + 1 := ⟨_, rfl⟩
      have hf := bv_n ex2_15 hf
      refine lv_iinc (v := x2_15) (lv' := [(2, .int x2_15), (0, .ref (α 44 g0)), (1, .int x1)]) hc.x hc.b dX6_clear_62 hl (k := 2) rfl (by rw [ex2_15]; rfl) (by decide) rfl (fun ls hl => ?_)
      refine lv_goto (tgt := 26) hc.x hc.b dX6_clear_65 (by decide) ?_
      exact ih x2_15 S_14 _ _ _ hf hd (lv_sub hl [1, 2, 0] rfl)
set_option maxRecDepth 100000 in
set_option maxHeartbeats 4000000 in
theorem b_X6_clear (hc : Cx p s m args meth c cX6_clear 4 "PumpCrossing$Learners" D cs B0 kt Lv) (hr : meth.sig.returnType = none)  {o : St}  {S : St} {g0 : Nat} {x1 : Int32} (hL0 : Lv 44 g0) {H : Heap} {locs : List Loc} {ls : Array Slot} (hf : f_X6_clear g0 x1 S = some o) (hd : Dy s D cs B0 α Lv S H locs) (hl : lv_has ls 4 [(0, .ref (α 44 g0)), (1, .int x1)]) : W p l e (Rm 2 0 0) s m args below meth c H locs 0 0 (MQ below (Qv D cs B0 α Lv o) args s 0 0 (AB B0)) (F0 m 0 ls []) := by
  unfold f_X6_clear at hf
  refine lv_aload_n hc.x hc.b dX6_clear_0 rfl (lv_at hl 0 rfl) ?_
  refine lv_iload_n hc.x hc.b dX6_clear_1 rfl (lv_at hl 1 rfl) ?_
  refine fp_44_2 hc hd hL0 tw_334 dX6_clear_2 (fun H locs hd => ?_)
  obtain ⟨S_1, hd, hf⟩ := nmD hd hf
  refine lv_aload_n hc.x hc.b dX6_clear_5 rfl (lv_at hl 0 rfl) ?_
  refine lv_iconst (v := 0) hc.x hc.b dX6_clear_6 (by decide) ?_
  refine lv_iload_n hc.x hc.b dX6_clear_7 rfl (lv_at hl 1 rfl) ?_
  refine lv_iconst (v := 1) hc.x hc.b dX6_clear_8 (by decide) ?_
  refine lv_isub hc.x hc.b dX6_clear_9 ?_
  refine r_max hc hl.1 tw_1104 (Nat.le_of_ble_eq_true rfl) (Nat.le_of_ble_eq_true rfl) (Nat.zero_le _) (Nat.zero_le _) dX6_clear_10 ?_
  refine lv_topi (fun q_2 eq_2 => ?_)
  have hf := bv_n eq_2 hf
  refine fp_44_3 hc hd hL0 tw_335 dX6_clear_13 (fun H locs hd => ?_)
  obtain ⟨S_3, hd, hf⟩ := nmD hd hf
  refine lv_aload_n hc.x hc.b dX6_clear_16 rfl (lv_at hl 0 rfl) ?_
  refine lv_aload_n hc.x hc.b dX6_clear_17 rfl (lv_at hl 0 rfl) ?_
  refine fg_44_3 hc hd hL0 tw_335 dX6_clear_18 ?_
  refine fp_44_4 hc hd hL0 tw_337 dX6_clear_21 (fun H locs hd => ?_)
  obtain ⟨S_4, hd, hf⟩ := nmD hd hf
  refine lv_iconst (v := 0) hc.x hc.b dX6_clear_24 (by decide) ?_
  refine lv_istore_n (lv' := [(2, .int 0), (0, .ref (α 44 g0)), (1, .int x1)]) hc.x hc.b dX6_clear_25 rfl hl (by decide) rfl (fun ls hl => ?_)
  refine w_X6_clear_26 hc hr hL0 ?_ _ _ _ _ _ _ hf hd (lv_sub hl [1, 2, 0] rfl)
  intro S_16 H locs ls hf hd hl
  cases hf
  exact r_vret hc hd hr dX6_clear_68
theorem c_X6_clear (l : Launch) (D : va_G) (cs : Nat → ClassId) (B0 : Nat) (kt : (Nat → Nat) × (Nat → Nat)) (α : Nat → Nat → Nat) (Lv : Nat → Nat → Prop) (S : St) (g0 : Nat) (x1 : Int32) (hcl : Cl Lv) (hL0 : Lv 44 g0) {o : St} (hf : f_X6_clear g0 x1 S = some o) : Met l yX6_clear (wz yX6_clear cX6_clear 4 none) (Rm 2 0 0) (Pz D cs B0 kt α Lv S [.ref (α 44 g0), .int x1]) (Qv D cs B0 α Lv o) 0 0 (AB B0) := met_of (by decide) rfl hcl (Nat.le_of_ble_eq_true rfl) (fun p e s m below meth c hc hr hd ls hl => b_X6_clear hc hr hL0 hf hd hl)
theorem my_X6_clear : MyV yX6_clear "PumpCrossing$Learners" cX6_clear 4 none 1 := ⟨tw_1102, (in_sel 25 (by decide +kernel) (by decide +kernel)), tw_10, tw_1103, by decide +kernel⟩
def f_X6_draw (g0 : Nat) (S : St) : Option (Int32 × St) := bv (si S 44 g0 5 ((1103515245 * (gi S 44 g0 5)) + 12345)) (fun S_1 => bv (usI (gi S_1 44 g0 5) 16) (fun q_2 => some (q_2, S_1)))
set_option maxRecDepth 100000 in
set_option maxHeartbeats 4000000 in
theorem b_X6_draw (hc : Cx p s m args meth c cX6_draw 1 "PumpCrossing$Learners" D cs B0 kt Lv) (hr : meth.sig.returnType = some .int)  {o : Int32 × St}  {S : St} {g0 : Nat} (hL0 : Lv 44 g0) {H : Heap} {locs : List Loc} {ls : Array Slot} (hf : f_X6_draw g0 S = some o) (hd : Dy s D cs B0 α Lv S H locs) (hl : lv_has ls 1 [(0, .ref (α 44 g0))]) : W p l e (Rm 0 0 0) s m args below meth c H locs 0 0 (MQ below (Qi D cs B0 α Lv o.1 o.2) args s 0 0 (AB B0)) (F0 m 0 ls []) := by
  unfold f_X6_draw at hf
  refine lv_aload_n hc.x hc.b dX6_draw_0 rfl (lv_at hl 0 rfl) ?_
  refine lv_ldc (v := 1103515245) hc.x hc.b hc.ow (hc.ts tw_1113) dX6_draw_1 ?_
  refine lv_aload_n hc.x hc.b dX6_draw_3 rfl (lv_at hl 0 rfl) ?_
  refine fg_44_5 hc hd hL0 tw_339 dX6_draw_4 ?_
  refine lv_imul hc.x hc.b dX6_draw_7 ?_
  refine lv_sipush (v := 12345) hc.x hc.b dX6_draw_8 (by decide) ?_
  refine lv_iadd hc.x hc.b dX6_draw_11 ?_
  refine fp_44_5 hc hd hL0 tw_339 dX6_draw_12 (fun H locs hd => ?_)
  obtain ⟨S_1, hd, hf⟩ := nmD hd hf
  refine lv_aload_n hc.x hc.b dX6_draw_15 rfl (lv_at hl 0 rfl) ?_
  refine fg_44_5 hc hd hL0 tw_339 dX6_draw_16 ?_
  refine lv_bipush (v := 16) hc.x hc.b dX6_draw_19 (by decide) ?_
  refine lv_iushr (v := usI (gi S_1 44 g0 5) 16) hc.x hc.b dX6_draw_21 rfl ?_
  refine lv_topi (fun q_2 eq_2 => ?_)
  have hf := bv_n eq_2 hf
  cases hf
  exact r_iret hc hd hr dX6_draw_22
theorem c_X6_draw (l : Launch) (D : va_G) (cs : Nat → ClassId) (B0 : Nat) (kt : (Nat → Nat) × (Nat → Nat)) (α : Nat → Nat → Nat) (Lv : Nat → Nat → Prop) (S : St) (g0 : Nat) (hcl : Cl Lv) (hL0 : Lv 44 g0) {o : Int32 × St} (hf : f_X6_draw g0 S = some o) : Met l yX6_draw (wz yX6_draw cX6_draw 1 (some .int)) (Rm 0 0 0) (Pz D cs B0 kt α Lv S [.ref (α 44 g0)]) (Qi D cs B0 α Lv o.1 o.2) 0 0 (AB B0) := met_of (by decide) rfl hcl (Nat.le_of_ble_eq_true rfl) (fun p e s m below meth c hc hr hd ls hl => b_X6_draw hc hr hL0 hf hd hl)
theorem my_X6_draw : MyV yX6_draw "PumpCrossing$Learners" cX6_draw 1 (some .int) 0 := ⟨tw_1111, (in_sel 27 (by decide +kernel) (by decide +kernel)), tw_10, tw_1112, by decide +kernel⟩
def f_X6_mend (g0 : Nat) (g1 : Nat) (x2 : Int32) (x3 : Int32) (g4 : Nat) (S : St) : Option (St) := ck (inb x2 8 = true) (bv (gi S 46 g1 (nn x2)) (fun x5_2 => on (f_X6_bestOf g0 g4 S) (fun r_4 => ck (inb r_4 8 = true) (bv (gi S 46 g4 (nn r_4)) (fun x6_6 => bv (dvI (7 * x6_6) 8) (fun q_7 => bv (dvI (((8 * x3) + q_7) - x5_2) 8) (fun q_8 => ck (inb x2 8 = true) (bv (si S 46 g1 (nn x2) (x5_2 + q_8)) (fun S_10 => some S_10)))))))))
set_option maxRecDepth 100000 in
set_option maxHeartbeats 4000000 in
theorem b_X6_mend (hc : Cx p s m args meth c cX6_mend 7 "PumpCrossing$Learners" D cs B0 kt Lv) (hr : meth.sig.returnType = none)  {o : St}  {S : St} {g0 : Nat} {g1 : Nat} {x2 : Int32} {x3 : Int32} {g4 : Nat} (hL0 : Lv 44 g0) (hL1 : Lv 46 g1) (hL4 : Lv 46 g4) {H : Heap} {locs : List Loc} {ls : Array Slot} (hf : f_X6_mend g0 g1 x2 x3 g4 S = some o) (hd : Dy s D cs B0 α Lv S H locs) (hl : lv_has ls 7 [(0, .ref (α 44 g0)), (1, .ref (α 46 g1)), (2, .int x2), (3, .int x3), (4, .ref (α 46 g4))]) : W p l e (Rm 1 0 0) s m args below meth c H locs 0 0 (MQ below (Qv D cs B0 α Lv o) args s 0 0 (AB B0)) (F0 m 0 ls []) := by
  unfold f_X6_mend at hf
  refine lv_aload_n hc.x hc.b dX6_mend_0 rfl (lv_at hl 1 rfl) ?_
  refine lv_iload_n hc.x hc.b dX6_mend_1 rfl (lv_at hl 2 rfl) ?_
  obtain ⟨hi_1, hf⟩ := ck_s hf
  refine r_iald hc hd hL1 rfl hi_1 dX6_mend_2 ?_
  refine lv_topi (fun x5_2 ex5_2 => ?_)
  have hf := bv_n ex5_2 hf
  refine lv_istore (lv' := [(5, .int x5_2), (0, .ref (α 44 g0)), (1, .ref (α 46 g1)), (2, .int x2), (3, .int x3), (4, .ref (α 46 g4))]) hc.x hc.b dX6_mend_3 hl (by decide) rfl (fun ls hl => ?_)
  refine lv_aload hc.x hc.b dX6_mend_5 (lv_at hl 5 rfl) ?_
  refine lv_aload_n hc.x hc.b dX6_mend_7 rfl (lv_at hl 1 rfl) ?_
  refine lv_aload hc.x hc.b dX6_mend_8 (lv_at hl 5 rfl) ?_
  obtain ⟨r_4, hq_3, hf⟩ := on_s hf
  refine k_i (k_runV hc hd my_X6_bestOf tw_1114 hL0 rfl rfl rfl (c_X6_bestOf l D cs B0 kt α Lv S g0 g4 hc.cl hL0 hL4  hq_3) rfl rfl hl.1 (Nat.le_of_ble_eq_true rfl) ⟨Nat.le_of_ble_eq_true rfl, Nat.le_of_ble_eq_true rfl, Nat.zero_le _, Nat.zero_le _⟩ dX6_mend_10) hd (fun H locs hd => ?_)
  obtain ⟨hi_5, hf⟩ := ck_s hf
  refine r_iald hc hd hL4 rfl hi_5 dX6_mend_13 ?_
  refine lv_topi (fun x6_6 ex6_6 => ?_)
  have hf := bv_n ex6_6 hf
  refine lv_istore (lv' := [(6, .int x6_6), (5, .int x5_2), (0, .ref (α 44 g0)), (1, .ref (α 46 g1)), (2, .int x2), (3, .int x3), (4, .ref (α 46 g4))]) hc.x hc.b dX6_mend_14 hl (by decide) rfl (fun ls hl => ?_)
  refine lv_aload_n hc.x hc.b dX6_mend_16 rfl (lv_at hl 3 rfl) ?_
  refine lv_iload_n hc.x hc.b dX6_mend_17 rfl (lv_at hl 4 rfl) ?_
  refine lv_iload hc.x hc.b dX6_mend_18 (lv_at hl 1 rfl) ?_
  refine lv_bipush (v := 8) hc.x hc.b dX6_mend_20 (by decide) ?_
  refine lv_iload_n hc.x hc.b dX6_mend_22 rfl (lv_at hl 5 rfl) ?_
  refine lv_imul hc.x hc.b dX6_mend_23 ?_
  refine lv_bipush (v := 7) hc.x hc.b dX6_mend_24 (by decide) ?_
  refine lv_iload hc.x hc.b dX6_mend_26 (lv_at hl 0 rfl) ?_
  refine lv_imul hc.x hc.b dX6_mend_28 ?_
  refine lv_bipush (v := 8) hc.x hc.b dX6_mend_29 (by decide) ?_
  refine lv_idiv hc.x hc.b dX6_mend_31 (by decide) ?_
  refine lv_topi (fun q_7 eq_7 => ?_)
  have hf := bv_n eq_7 hf
  refine lv_iadd hc.x hc.b dX6_mend_32 ?_
  refine lv_iload hc.x hc.b dX6_mend_33 (lv_at hl 1 rfl) ?_
  refine lv_isub hc.x hc.b dX6_mend_35 ?_
  refine lv_bipush (v := 8) hc.x hc.b dX6_mend_36 (by decide) ?_
  refine lv_idiv hc.x hc.b dX6_mend_38 (by decide) ?_
  refine lv_topi (fun q_8 eq_8 => ?_)
  have hf := bv_n eq_8 hf
  refine lv_iadd hc.x hc.b dX6_mend_39 ?_
  obtain ⟨hi_9, hf⟩ := ck_s hf
  refine r_iast hc hd hL1 (fun _ => rfl) hi_9 dX6_mend_40 (fun H locs hd => ?_)
  obtain ⟨S_10, hd, hf⟩ := nmD hd hf
  cases hf
  exact r_vret hc hd hr dX6_mend_41
theorem c_X6_mend (l : Launch) (D : va_G) (cs : Nat → ClassId) (B0 : Nat) (kt : (Nat → Nat) × (Nat → Nat)) (α : Nat → Nat → Nat) (Lv : Nat → Nat → Prop) (S : St) (g0 : Nat) (g1 : Nat) (x2 : Int32) (x3 : Int32) (g4 : Nat) (hcl : Cl Lv) (hL0 : Lv 44 g0) (hL1 : Lv 46 g1) (hL4 : Lv 46 g4) {o : St} (hf : f_X6_mend g0 g1 x2 x3 g4 S = some o) : Met l yX6_mend (wz yX6_mend cX6_mend 7 none) (Rm 1 0 0) (Pz D cs B0 kt α Lv S [.ref (α 44 g0), .ref (α 46 g1), .int x2, .int x3, .ref (α 46 g4)]) (Qv D cs B0 α Lv o) 0 0 (AB B0) := met_of (by decide) rfl hcl (Nat.le_of_ble_eq_true rfl) (fun p e s m below meth c hc hr hd ls hl => b_X6_mend hc hr hL0 hL1 hL4 hf hd hl)
theorem my_X6_mend : MyV yX6_mend "PumpCrossing$Learners" cX6_mend 7 none 4 := ⟨tw_1120, (in_sel 29 (by decide +kernel) (by decide +kernel)), tw_10, tw_1121, by decide +kernel⟩
def f_X6_take (g0 : Nat) (g1 : Nat) (x2 : Int32) (x3 : Int32) (S : St) : Option (Int32 × St) := on2 (f_X6_draw g0 S) (fun r_3 S_2 => bv (rmI r_3 100) (fun q_4 => bv (fun  (S_5 : St) => ck (inb x2 8 = true) (on (f_X6_bestOf g0 (8 * g1 + (nn x2)) S_5) (fun r_9 => some (r_9, S_5)))) (fun J_6 => br (x3 ≤ q_4) (J_6 S_2) (br ((gi S_2 44 g0 2) ≤ 0) (J_6 S_2) (on2 (f_X6_draw g0 S_2) (fun r_14 S_13 => ck (¬ (gi S_13 44 g0 2) = 0) (bv (rmI r_14 (gi S_13 44 g0 2)) (fun q_16 => some (q_16, S_13)))))))))
set_option maxRecDepth 100000 in
set_option maxHeartbeats 4000000 in
theorem b_X6_take (hc : Cx p s m args meth c cX6_take 4 "PumpCrossing$Learners" D cs B0 kt Lv) (hr : meth.sig.returnType = some .int)  {o : Int32 × St}  {S : St} {g0 : Nat} {g1 : Nat} {x2 : Int32} {x3 : Int32} (hL0 : Lv 44 g0) (hL1 : Lv 45 g1) {H : Heap} {locs : List Loc} {ls : Array Slot} (hf : f_X6_take g0 g1 x2 x3 S = some o) (hd : Dy s D cs B0 α Lv S H locs) (hl : lv_has ls 4 [(0, .ref (α 44 g0)), (1, .ref (α 45 g1)), (2, .int x2), (3, .int x3)]) : W p l e (Rm 1 0 0) s m args below meth c H locs 0 0 (MQ below (Qi D cs B0 α Lv o.1 o.2) args s 0 0 (AB B0)) (F0 m 0 ls []) := by
  unfold f_X6_take at hf
  refine lv_aload_n hc.x hc.b dX6_take_0 rfl (lv_at hl 0 rfl) ?_
  obtain ⟨r_3, S_2, hq_1, hf⟩ := on2_s hf
  refine k_i (k_runV hc hd my_X6_draw tw_1109 hL0 rfl rfl rfl (c_X6_draw l D cs B0 kt α Lv S g0 hc.cl hL0  hq_1) rfl rfl hl.1 (Nat.le_of_ble_eq_true rfl) ⟨Nat.le_of_ble_eq_true rfl, Nat.le_of_ble_eq_true rfl, Nat.zero_le _, Nat.zero_le _⟩ dX6_take_1) hd (fun H locs hd => ?_)
  refine lv_bipush (v := 100) hc.x hc.b dX6_take_4 (by decide) ?_
  refine lv_irem hc.x hc.b dX6_take_6 (by decide) ?_
  refine lv_topi (fun q_4 eq_4 => ?_)
  have hf := bv_n eq_4 hf
  refine lv_iload_n hc.x hc.b dX6_take_7 rfl (lv_at hl 3 rfl) ?_
  refine jn_s (P := fun J_6 => ∀  (S_5 : St) (H : Heap) (locs : List Loc) (ls : Array Slot), J_6 S_5 = some o → Dy s D cs B0 α Lv S_5 H locs → lv_has ls 4 [(0, .ref (α 44 g0)), (1, .ref (α 45 g1)), (2, .int x2)] → W p l e (Rm 1 0 0) s m args below meth c H locs 0 0 (MQ below (Qi D cs B0 α Lv o.1 o.2) args s 0 0 (AB B0)) (F0 m 28 ls [])) hf ?_ (fun J_6 hJ_6 hf => ?_)
  · intro S_5 H locs ls hf hd hl
    refine lv_aload_n hc.x hc.b dX6_take_28 rfl (lv_at hl 0 rfl) ?_
    refine lv_aload_n hc.x hc.b dX6_take_29 rfl (lv_at hl 1 rfl) ?_
    refine lv_iload_n hc.x hc.b dX6_take_30 rfl (lv_at hl 2 rfl) ?_
    obtain ⟨hi_7, hf⟩ := ck_s hf
    refine r_aald hc hd hL1 (t0 := 6) rfl rfl rfl hi_7 dX6_take_31 ?_
    show W p l e (Rm 1 0 0) s m args below meth c H locs 0 0 (MQ below (Qi D cs B0 α Lv o.1 o.2) args s 0 0 (AB B0)) (F0 m 32 ls [.ref (α 46 (8 * g1 + (nn x2))), .ref (α 44 g0)])
    obtain ⟨r_9, hq_8, hf⟩ := on_s hf
    refine k_i (k_runV hc hd my_X6_bestOf tw_1114 hL0 rfl rfl rfl (c_X6_bestOf l D cs B0 kt α Lv S_5 g0 (8 * g1 + (nn x2)) hc.cl hL0 (cl_45 hc.cl hL1 (inb_lt hi_7))  hq_8) rfl rfl hl.1 (Nat.le_of_ble_eq_true rfl) ⟨Nat.le_of_ble_eq_true rfl, Nat.le_of_ble_eq_true rfl, Nat.zero_le _, Nat.zero_le _⟩ dX6_take_32) hd (fun H locs hd => ?_)
    cases hf
    exact r_iret hc hd hr dX6_take_35
  refine lv_icmp_ge (tgt := 28) hc.x hc.b dX6_take_8 (by decide) (fun c_10 => ?_) (fun c_10 => ?_)
  · have hf := br_y c_10 hf
    exact hJ_6 S_2 _ _ _ hf hd (lv_sub hl [0, 1, 2] rfl)
  · have hf := br_n c_10 hf
    refine lv_aload_n hc.x hc.b dX6_take_11 rfl (lv_at hl 0 rfl) ?_
    refine fg_44_2 hc hd hL0 tw_334 dX6_take_12 ?_
    refine lv_if_le (tgt := 28) hc.x hc.b dX6_take_15 (by decide) (fun c_11 => ?_) (fun c_11 => ?_)
    · have hf := br_y c_11 hf
      exact hJ_6 S_2 _ _ _ hf hd (lv_sub hl [0, 1, 2] rfl)
    · have hf := br_n c_11 hf
      refine lv_aload_n hc.x hc.b dX6_take_18 rfl (lv_at hl 0 rfl) ?_
      obtain ⟨r_14, S_13, hq_12, hf⟩ := on2_s hf
      refine k_i (k_runV hc hd my_X6_draw tw_1109 hL0 rfl rfl rfl (c_X6_draw l D cs B0 kt α Lv S_2 g0 hc.cl hL0  hq_12) rfl rfl hl.1 (Nat.le_of_ble_eq_true rfl) ⟨Nat.le_of_ble_eq_true rfl, Nat.le_of_ble_eq_true rfl, Nat.zero_le _, Nat.zero_le _⟩ dX6_take_19) hd (fun H locs hd => ?_)
      refine lv_aload_n hc.x hc.b dX6_take_22 rfl (lv_at hl 0 rfl) ?_
      refine fg_44_2 hc hd hL0 tw_334 dX6_take_23 ?_
      obtain ⟨hn_15, hf⟩ := ck_s hf
      refine lv_irem hc.x hc.b dX6_take_26 hn_15 ?_
      refine lv_topi (fun q_16 eq_16 => ?_)
      have hf := bv_n eq_16 hf
      cases hf
      exact r_iret hc hd hr dX6_take_27
theorem c_X6_take (l : Launch) (D : va_G) (cs : Nat → ClassId) (B0 : Nat) (kt : (Nat → Nat) × (Nat → Nat)) (α : Nat → Nat → Nat) (Lv : Nat → Nat → Prop) (S : St) (g0 : Nat) (g1 : Nat) (x2 : Int32) (x3 : Int32) (hcl : Cl Lv) (hL0 : Lv 44 g0) (hL1 : Lv 45 g1) {o : Int32 × St} (hf : f_X6_take g0 g1 x2 x3 S = some o) : Met l yX6_take (wz yX6_take cX6_take 4 (some .int)) (Rm 1 0 0) (Pz D cs B0 kt α Lv S [.ref (α 44 g0), .ref (α 45 g1), .int x2, .int x3]) (Qi D cs B0 α Lv o.1 o.2) 0 0 (AB B0) := met_of (by decide) rfl hcl (Nat.le_of_ble_eq_true rfl) (fun p e s m below meth c hc hr hd ls hl => b_X6_take hc hr hL0 hL1 hf hd hl)
theorem my_X6_take : MyV yX6_take "PumpCrossing$Learners" cX6_take 4 (some .int) 3 := ⟨tw_1107, (in_sel 26 (by decide +kernel) (by decide +kernel)), tw_10, tw_1108, by decide +kernel⟩
def f_X6_letGo_16 (g0 : Nat) (g1 : Nat) (x2 : Int32) (K : St → Option (St)) : Nat → Int32 → St → Option (St)
  | 0, _, _ => none
  | n + 1, x4, S => br (x2 ≤ x4) (K S) (ck (¬ x2 = 0) (bv (dvI (50 * x4) x2) (fun q_6 => bv (50 - q_6) (fun x5_7 => on2 (f_X6_take g0 0 (gi S 44 g0 4) x5_7 S) (fun r_10 S_9 => on2 (f_X6_take g0 1 (gi S_9 44 g0 3) x5_7 S_9) (fun r_13 S_12 => ck (inb (gi S_12 44 g0 4) 8 = true) (ck (inb r_10 8 = true) (ck (inb r_13 8 = true) (ck (inb r_13 8 = true) (on (f_X6_mend g0 (8 * 0 + (nn (gi S_12 44 g0 4))) r_10 (gi S_12 38 ((nn r_10)) (nn r_13)) (8 * 0 + (nn r_13)) S_12) (fun S_19 => ck (inb (gi S_19 44 g0 3) 8 = true) (ck (inb r_10 8 = true) (ck (inb r_13 8 = true) (ck (inb r_10 8 = true) (on (f_X6_mend g0 (8 * 1 + (nn (gi S_19 44 g0 3))) r_13 (gi S_19 40 ((nn r_10)) (nn r_13)) (8 * 1 + (nn r_10)) S_19) (fun S_25 => bv (si S_25 44 g0 3 r_10) (fun S_26 => bv (si S_26 44 g0 4 r_13) (fun S_27 => bv (x4 + 1) (fun x4_28 => f_X6_letGo_16 g0 g1 x2 K n x4_28 S_27)))))))))))))))))))
def f_X6_letGo_151 (g0 : Nat) (K : St → Option (St)) : Nat → Int32 → St → Option (St)
  | 0, _, _ => none
  | n + 1, x4, S => br (10 ≤ x4) (K S) (ck (inb (gi S 44 g0 4) 8 = true) (on (f_X6_bestOf g0 (8 * 0 + (nn (gi S 44 g0 4))) S) (fun r_33 => ck (inb (gi S 44 g0 3) 8 = true) (on (f_X6_bestOf g0 (8 * 1 + (nn (gi S 44 g0 3))) S) (fun r_36 => bv (si S 44 g0 4 r_36) (fun S_37 => bv (si S_37 44 g0 3 r_33) (fun S_38 => bv (x4 + 1) (fun x4_39 => f_X6_letGo_151 g0 K n x4_39 S_38))))))))
def f_X6_letGo (g0 : Nat) (g1 : Nat) (x2 : Int32) (x3 : Int32) (S : St) : Option (St) := on (f_X6_clear g0 (gi S 36 g1 0) S) (fun S_2 => bv (si S_2 44 g0 5 x3) (fun S_3 => f_X6_letGo_16 g0 g1 x2 (fun  (S_29 : St) => f_X6_letGo_151 g0 (fun  (S_40 : St) => some S_40) FU 0 S_29) FU 0 S_3))
set_option maxRecDepth 100000 in
set_option maxHeartbeats 4000000 in
theorem w_X6_letGo_16 (hc : Cx p s m args meth c cX6_letGo 8 "PumpCrossing$Learners" D cs B0 kt Lv) (hr : meth.sig.returnType = none) {o : St}  {g0 : Nat} {g1 : Nat} {x2 : Int32} {K : St → Option (St)} (hL0 : Lv 44 g0) (hL1 : Lv 36 g1) (hK : ∀  (S : St) (H : Heap) (locs : List Loc) (ls : Array Slot), K S = some o → Dy s D cs B0 α Lv S H locs → lv_has ls 8 [(0, .ref (α 44 g0))] → W p l e (Rm 3 0 0) s m args below meth c H locs 0 0 (MQ below (Qv D cs B0 α Lv o) args s 0 0 (AB B0)) (F0 m 148 ls [])) : ∀ (n : Nat) (x4 : Int32) (S : St) (H : Heap) (locs : List Loc) (ls : Array Slot), f_X6_letGo_16 g0 g1 x2 K n x4 S = some o → Dy s D cs B0 α Lv S H locs → lv_has ls 8 [(0, .ref (α 44 g0)), (1, .ref (α 36 g1)), (2, .int x2), (4, .int x4)] → W p l e (Rm 3 0 0) s m args below meth c H locs 0 0 (MQ below (Qv D cs B0 α Lv o) args s 0 0 (AB B0)) (F0 m 16 ls []) := by
  intro n
  induction n with
  | zero =>
    intro x4 S H locs ls hf
    rw [f_X6_letGo_16] at hf
    cases hf
  | succ n ih =>
    intro x4 S H locs ls hf hd hl
    rw [f_X6_letGo_16] at hf
    refine lv_iload hc.x hc.b dX6_letGo_16 (lv_at hl 3 rfl) ?_
    refine lv_iload_n hc.x hc.b dX6_letGo_18 rfl (lv_at hl 2 rfl) ?_
    refine lv_icmp_ge (tgt := 148) hc.x hc.b dX6_letGo_19 (by decide) (fun c_4 => ?_) (fun c_4 => ?_)
    · have hf := br_y c_4 hf
      exact hK S _ _ _ hf hd (lv_sub hl [0] rfl)
    · have hf := br_n c_4 hf
      refine lv_bipush (v := 50) hc.x hc.b dX6_letGo_22 (by decide) ?_
      refine lv_bipush (v := 50) hc.x hc.b dX6_letGo_24 (by decide) ?_
      refine lv_iload hc.x hc.b dX6_letGo_26 (lv_at hl 3 rfl) ?_
      refine lv_imul hc.x hc.b dX6_letGo_28 ?_
      refine lv_iload_n hc.x hc.b dX6_letGo_29 rfl (lv_at hl 2 rfl) ?_
      obtain ⟨hn_5, hf⟩ := ck_s hf
      refine lv_idiv hc.x hc.b dX6_letGo_30 hn_5 ?_
      refine lv_topi (fun q_6 eq_6 => ?_)
      have hf := bv_n eq_6 hf
      refine lv_isub hc.x hc.b dX6_letGo_31 ?_
      refine lv_topi (fun x5_7 ex5_7 => ?_)
      have hf := bv_n ex5_7 hf
      refine lv_istore (lv' := [(5, .int x5_7), (0, .ref (α 44 g0)), (1, .ref (α 36 g1)), (2, .int x2), (4, .int x4)]) hc.x hc.b dX6_letGo_32 hl (by decide) rfl (fun ls hl => ?_)
      refine lv_aload_n hc.x hc.b dX6_letGo_34 rfl (lv_at hl 1 rfl) ?_
      refine lv_aload_n hc.x hc.b dX6_letGo_35 rfl (lv_at hl 1 rfl) ?_
      refine fg_44_0 hc hd hL0 tw_332 dX6_letGo_36 ?_
      refine lv_aload_n hc.x hc.b dX6_letGo_39 rfl (lv_at hl 1 rfl) ?_
      refine fg_44_4 hc hd hL0 tw_337 dX6_letGo_40 ?_
      refine lv_iload hc.x hc.b dX6_letGo_43 (lv_at hl 0 rfl) ?_
      obtain ⟨r_10, S_9, hq_8, hf⟩ := on2_s hf
      refine k_i (k_runV hc hd my_X6_take tw_1105 hL0 rfl rfl rfl (c_X6_take l D cs B0 kt α Lv S g0 0 (gi S 44 g0 4) x5_7 hc.cl hL0 (cl_44_tableA hc.cl hL0)  hq_8) rfl rfl hl.1 (Nat.le_of_ble_eq_true rfl) ⟨Nat.le_of_ble_eq_true rfl, Nat.le_of_ble_eq_true rfl, Nat.zero_le _, Nat.zero_le _⟩ dX6_letGo_45) hd (fun H locs hd => ?_)
      refine lv_istore (lv' := [(6, .int r_10), (5, .int x5_7), (0, .ref (α 44 g0)), (1, .ref (α 36 g1)), (2, .int x2), (4, .int x4)]) hc.x hc.b dX6_letGo_48 hl (by decide) rfl (fun ls hl => ?_)
      refine lv_aload_n hc.x hc.b dX6_letGo_50 rfl (lv_at hl 2 rfl) ?_
      refine lv_aload_n hc.x hc.b dX6_letGo_51 rfl (lv_at hl 2 rfl) ?_
      refine fg_44_1 hc hd hL0 tw_333 dX6_letGo_52 ?_
      refine lv_aload_n hc.x hc.b dX6_letGo_55 rfl (lv_at hl 2 rfl) ?_
      refine fg_44_3 hc hd hL0 tw_335 dX6_letGo_56 ?_
      refine lv_iload hc.x hc.b dX6_letGo_59 (lv_at hl 1 rfl) ?_
      obtain ⟨r_13, S_12, hq_11, hf⟩ := on2_s hf
      refine k_i (k_runV hc hd my_X6_take tw_1105 hL0 rfl rfl rfl (c_X6_take l D cs B0 kt α Lv S_9 g0 1 (gi S_9 44 g0 3) x5_7 hc.cl hL0 (cl_44_tableB hc.cl hL0)  hq_11) rfl rfl hl.1 (Nat.le_of_ble_eq_true rfl) ⟨Nat.le_of_ble_eq_true rfl, Nat.le_of_ble_eq_true rfl, Nat.zero_le _, Nat.zero_le _⟩ dX6_letGo_61) hd (fun H locs hd => ?_)
      refine lv_istore (lv' := [(7, .int r_13), (6, .int r_10), (5, .int x5_7), (0, .ref (α 44 g0)), (1, .ref (α 36 g1)), (2, .int x2), (4, .int x4)]) hc.x hc.b dX6_letGo_64 hl (by decide) rfl (fun ls hl => ?_)
      refine lv_aload_n hc.x hc.b dX6_letGo_66 rfl (lv_at hl 3 rfl) ?_
      refine lv_aload_n hc.x hc.b dX6_letGo_67 rfl (lv_at hl 3 rfl) ?_
      refine fg_44_0 hc hd hL0 tw_332 dX6_letGo_68 ?_
      refine lv_aload_n hc.x hc.b dX6_letGo_71 rfl (lv_at hl 3 rfl) ?_
      refine fg_44_4 hc hd hL0 tw_337 dX6_letGo_72 ?_
      obtain ⟨hi_14, hf⟩ := ck_s hf
      refine r_aald hc hd (cl_44_tableA hc.cl hL0) (t0 := 6) rfl rfl rfl hi_14 dX6_letGo_75 ?_
      show W p l e (Rm 3 0 0) s m args below meth c H locs 0 0 (MQ below (Qv D cs B0 α Lv o) args s 0 0 (AB B0)) (F0 m 76 ls [.ref (α 46 (8 * 0 + (nn (gi S_12 44 g0 4)))), .ref (α 44 g0)])
      refine lv_iload hc.x hc.b dX6_letGo_76 (lv_at hl 1 rfl) ?_
      refine lv_aload_n hc.x hc.b dX6_letGo_78 rfl (lv_at hl 4 rfl) ?_
      refine fg_36_1 hc hd hL1 tw_299 dX6_letGo_79 ?_
      refine lv_iload hc.x hc.b dX6_letGo_82 (lv_at hl 1 rfl) ?_
      obtain ⟨hi_15, hf⟩ := ck_s hf
      refine r_aald hc hd (cl_36_gainA hc.cl hL1) (t0 := 6) rfl rfl rfl hi_15 dX6_letGo_84 ?_
      show W p l e (Rm 3 0 0) s m args below meth c H locs 0 0 (MQ below (Qv D cs B0 α Lv o) args s 0 0 (AB B0)) (F0 m 85 ls [.ref (α 38 ((nn r_10))), .int r_10, .ref (α 46 (8 * 0 + (nn (gi S_12 44 g0 4)))), .ref (α 44 g0)])
      refine lv_iload hc.x hc.b dX6_letGo_85 (lv_at hl 0 rfl) ?_
      obtain ⟨hi_16, hf⟩ := ck_s hf
      refine r_iald hc hd (cl_37 hc.cl (cl_36_gainA hc.cl hL1) (inb_lt hi_15)) rfl hi_16 dX6_letGo_87 ?_
      refine lv_aload_n hc.x hc.b dX6_letGo_88 rfl (lv_at hl 3 rfl) ?_
      refine fg_44_0 hc hd hL0 tw_332 dX6_letGo_89 ?_
      refine lv_iload hc.x hc.b dX6_letGo_92 (lv_at hl 0 rfl) ?_
      obtain ⟨hi_17, hf⟩ := ck_s hf
      refine r_aald hc hd (cl_44_tableA hc.cl hL0) (t0 := 6) rfl rfl rfl hi_17 dX6_letGo_94 ?_
      show W p l e (Rm 3 0 0) s m args below meth c H locs 0 0 (MQ below (Qv D cs B0 α Lv o) args s 0 0 (AB B0)) (F0 m 95 ls [.ref (α 46 (8 * 0 + (nn r_13))), .int (gi S_12 38 ((nn r_10)) (nn r_13)), .int r_10, .ref (α 46 (8 * 0 + (nn (gi S_12 44 g0 4)))), .ref (α 44 g0)])
      obtain ⟨S_19, hq_18, hf⟩ := on_s hf
      refine k_v (k_runV hc hd my_X6_mend tw_1118 hL0 rfl rfl rfl (c_X6_mend l D cs B0 kt α Lv S_12 g0 (8 * 0 + (nn (gi S_12 44 g0 4))) r_10 (gi S_12 38 ((nn r_10)) (nn r_13)) (8 * 0 + (nn r_13)) hc.cl hL0 (cl_45 hc.cl (cl_44_tableA hc.cl hL0) (inb_lt hi_14)) (cl_45 hc.cl (cl_44_tableA hc.cl hL0) (inb_lt hi_17))  hq_18) rfl rfl hl.1 (Nat.le_of_ble_eq_true rfl) ⟨Nat.le_of_ble_eq_true rfl, Nat.le_of_ble_eq_true rfl, Nat.zero_le _, Nat.zero_le _⟩ dX6_letGo_95) hd (fun H locs hd => ?_)
      refine lv_aload_n hc.x hc.b dX6_letGo_98 rfl (lv_at hl 3 rfl) ?_
      refine lv_aload_n hc.x hc.b dX6_letGo_99 rfl (lv_at hl 3 rfl) ?_
      refine fg_44_1 hc hd hL0 tw_333 dX6_letGo_100 ?_
      refine lv_aload_n hc.x hc.b dX6_letGo_103 rfl (lv_at hl 3 rfl) ?_
      refine fg_44_3 hc hd hL0 tw_335 dX6_letGo_104 ?_
      obtain ⟨hi_20, hf⟩ := ck_s hf
      refine r_aald hc hd (cl_44_tableB hc.cl hL0) (t0 := 6) rfl rfl rfl hi_20 dX6_letGo_107 ?_
      show W p l e (Rm 3 0 0) s m args below meth c H locs 0 0 (MQ below (Qv D cs B0 α Lv o) args s 0 0 (AB B0)) (F0 m 108 ls [.ref (α 46 (8 * 1 + (nn (gi S_19 44 g0 3)))), .ref (α 44 g0)])
      refine lv_iload hc.x hc.b dX6_letGo_108 (lv_at hl 0 rfl) ?_
      refine lv_aload_n hc.x hc.b dX6_letGo_110 rfl (lv_at hl 4 rfl) ?_
      refine fg_36_2 hc hd hL1 tw_302 dX6_letGo_111 ?_
      refine lv_iload hc.x hc.b dX6_letGo_114 (lv_at hl 1 rfl) ?_
      obtain ⟨hi_21, hf⟩ := ck_s hf
      refine r_aald hc hd (cl_36_gainB hc.cl hL1) (t0 := 6) rfl rfl rfl hi_21 dX6_letGo_116 ?_
      show W p l e (Rm 3 0 0) s m args below meth c H locs 0 0 (MQ below (Qv D cs B0 α Lv o) args s 0 0 (AB B0)) (F0 m 117 ls [.ref (α 40 ((nn r_10))), .int r_13, .ref (α 46 (8 * 1 + (nn (gi S_19 44 g0 3)))), .ref (α 44 g0)])
      refine lv_iload hc.x hc.b dX6_letGo_117 (lv_at hl 0 rfl) ?_
      obtain ⟨hi_22, hf⟩ := ck_s hf
      refine r_iald hc hd (cl_39 hc.cl (cl_36_gainB hc.cl hL1) (inb_lt hi_21)) rfl hi_22 dX6_letGo_119 ?_
      refine lv_aload_n hc.x hc.b dX6_letGo_120 rfl (lv_at hl 3 rfl) ?_
      refine fg_44_1 hc hd hL0 tw_333 dX6_letGo_121 ?_
      refine lv_iload hc.x hc.b dX6_letGo_124 (lv_at hl 1 rfl) ?_
      obtain ⟨hi_23, hf⟩ := ck_s hf
      refine r_aald hc hd (cl_44_tableB hc.cl hL0) (t0 := 6) rfl rfl rfl hi_23 dX6_letGo_126 ?_
      show W p l e (Rm 3 0 0) s m args below meth c H locs 0 0 (MQ below (Qv D cs B0 α Lv o) args s 0 0 (AB B0)) (F0 m 127 ls [.ref (α 46 (8 * 1 + (nn r_10))), .int (gi S_19 40 ((nn r_10)) (nn r_13)), .int r_13, .ref (α 46 (8 * 1 + (nn (gi S_19 44 g0 3)))), .ref (α 44 g0)])
      obtain ⟨S_25, hq_24, hf⟩ := on_s hf
      refine k_v (k_runV hc hd my_X6_mend tw_1118 hL0 rfl rfl rfl (c_X6_mend l D cs B0 kt α Lv S_19 g0 (8 * 1 + (nn (gi S_19 44 g0 3))) r_13 (gi S_19 40 ((nn r_10)) (nn r_13)) (8 * 1 + (nn r_10)) hc.cl hL0 (cl_45 hc.cl (cl_44_tableB hc.cl hL0) (inb_lt hi_20)) (cl_45 hc.cl (cl_44_tableB hc.cl hL0) (inb_lt hi_23))  hq_24) rfl rfl hl.1 (Nat.le_of_ble_eq_true rfl) ⟨Nat.le_of_ble_eq_true rfl, Nat.le_of_ble_eq_true rfl, Nat.zero_le _, Nat.zero_le _⟩ dX6_letGo_127) hd (fun H locs hd => ?_)
      refine lv_aload_n hc.x hc.b dX6_letGo_130 rfl (lv_at hl 3 rfl) ?_
      refine lv_iload hc.x hc.b dX6_letGo_131 (lv_at hl 1 rfl) ?_
      refine fp_44_3 hc hd hL0 tw_335 dX6_letGo_133 (fun H locs hd => ?_)
      obtain ⟨S_26, hd, hf⟩ := nmD hd hf
      refine lv_aload_n hc.x hc.b dX6_letGo_136 rfl (lv_at hl 3 rfl) ?_
      refine lv_iload hc.x hc.b dX6_letGo_137 (lv_at hl 0 rfl) ?_
      refine fp_44_4 hc hd hL0 tw_337 dX6_letGo_139 (fun H locs hd => ?_)
      obtain ⟨S_27, hd, hf⟩ := nmD hd hf
      obtain ⟨x4_28, ex4_28⟩ : ∃ z : Int32, z = x4 + 1 := ⟨_, rfl⟩
      have hf := bv_n ex4_28 hf
      refine lv_iinc (v := x4_28) (lv' := [(4, .int x4_28), (7, .int r_13), (6, .int r_10), (5, .int x5_7), (0, .ref (α 44 g0)), (1, .ref (α 36 g1)), (2, .int x2)]) hc.x hc.b dX6_letGo_142 hl (k := 6) rfl (by rw [ex4_28]; rfl) (by decide) rfl (fun ls hl => ?_)
      refine lv_goto (tgt := 16) hc.x hc.b dX6_letGo_145 (by decide) ?_
      exact ih x4_28 S_27 _ _ _ hf hd (lv_sub hl [4, 5, 6, 0] rfl)
set_option maxRecDepth 100000 in
set_option maxHeartbeats 4000000 in
theorem w_X6_letGo_151 (hc : Cx p s m args meth c cX6_letGo 8 "PumpCrossing$Learners" D cs B0 kt Lv) (hr : meth.sig.returnType = none) {o : St}  {g0 : Nat} {K : St → Option (St)} (hL0 : Lv 44 g0) (hK : ∀  (S : St) (H : Heap) (locs : List Loc) (ls : Array Slot), K S = some o → Dy s D cs B0 α Lv S H locs → lv_has ls 8 [] → W p l e (Rm 3 0 0) s m args below meth c H locs 0 0 (MQ below (Qv D cs B0 α Lv o) args s 0 0 (AB B0)) (F0 m 202 ls [])) : ∀ (n : Nat) (x4 : Int32) (S : St) (H : Heap) (locs : List Loc) (ls : Array Slot), f_X6_letGo_151 g0 K n x4 S = some o → Dy s D cs B0 α Lv S H locs → lv_has ls 8 [(0, .ref (α 44 g0)), (4, .int x4)] → W p l e (Rm 3 0 0) s m args below meth c H locs 0 0 (MQ below (Qv D cs B0 α Lv o) args s 0 0 (AB B0)) (F0 m 151 ls []) := by
  intro n
  induction n with
  | zero =>
    intro x4 S H locs ls hf
    rw [f_X6_letGo_151] at hf
    cases hf
  | succ n ih =>
    intro x4 S H locs ls hf hd hl
    rw [f_X6_letGo_151] at hf
    refine lv_iload hc.x hc.b dX6_letGo_151 (lv_at hl 1 rfl) ?_
    refine lv_bipush (v := 10) hc.x hc.b dX6_letGo_153 (by decide) ?_
    refine lv_icmp_ge (tgt := 202) hc.x hc.b dX6_letGo_155 (by decide) (fun c_30 => ?_) (fun c_30 => ?_)
    · have hf := br_y c_30 hf
      exact hK S _ _ _ hf hd (lv_sub hl [] rfl)
    · have hf := br_n c_30 hf
      refine lv_aload_n hc.x hc.b dX6_letGo_158 rfl (lv_at hl 0 rfl) ?_
      refine lv_aload_n hc.x hc.b dX6_letGo_159 rfl (lv_at hl 0 rfl) ?_
      refine fg_44_0 hc hd hL0 tw_332 dX6_letGo_160 ?_
      refine lv_aload_n hc.x hc.b dX6_letGo_163 rfl (lv_at hl 0 rfl) ?_
      refine fg_44_4 hc hd hL0 tw_337 dX6_letGo_164 ?_
      obtain ⟨hi_31, hf⟩ := ck_s hf
      refine r_aald hc hd (cl_44_tableA hc.cl hL0) (t0 := 6) rfl rfl rfl hi_31 dX6_letGo_167 ?_
      show W p l e (Rm 3 0 0) s m args below meth c H locs 0 0 (MQ below (Qv D cs B0 α Lv o) args s 0 0 (AB B0)) (F0 m 168 ls [.ref (α 46 (8 * 0 + (nn (gi S 44 g0 4)))), .ref (α 44 g0)])
      obtain ⟨r_33, hq_32, hf⟩ := on_s hf
      refine k_i (k_runV hc hd my_X6_bestOf tw_1114 hL0 rfl rfl rfl (c_X6_bestOf l D cs B0 kt α Lv S g0 (8 * 0 + (nn (gi S 44 g0 4))) hc.cl hL0 (cl_45 hc.cl (cl_44_tableA hc.cl hL0) (inb_lt hi_31))  hq_32) rfl rfl hl.1 (Nat.le_of_ble_eq_true rfl) ⟨Nat.le_of_ble_eq_true rfl, Nat.le_of_ble_eq_true rfl, Nat.zero_le _, Nat.zero_le _⟩ dX6_letGo_168) hd (fun H locs hd => ?_)
      refine lv_istore (lv' := [(5, .int r_33), (0, .ref (α 44 g0)), (4, .int x4)]) hc.x hc.b dX6_letGo_171 hl (by decide) rfl (fun ls hl => ?_)
      refine lv_aload_n hc.x hc.b dX6_letGo_173 rfl (lv_at hl 1 rfl) ?_
      refine lv_aload_n hc.x hc.b dX6_letGo_174 rfl (lv_at hl 1 rfl) ?_
      refine lv_aload_n hc.x hc.b dX6_letGo_175 rfl (lv_at hl 1 rfl) ?_
      refine fg_44_1 hc hd hL0 tw_333 dX6_letGo_176 ?_
      refine lv_aload_n hc.x hc.b dX6_letGo_179 rfl (lv_at hl 1 rfl) ?_
      refine fg_44_3 hc hd hL0 tw_335 dX6_letGo_180 ?_
      obtain ⟨hi_34, hf⟩ := ck_s hf
      refine r_aald hc hd (cl_44_tableB hc.cl hL0) (t0 := 6) rfl rfl rfl hi_34 dX6_letGo_183 ?_
      show W p l e (Rm 3 0 0) s m args below meth c H locs 0 0 (MQ below (Qv D cs B0 α Lv o) args s 0 0 (AB B0)) (F0 m 184 ls [.ref (α 46 (8 * 1 + (nn (gi S 44 g0 3)))), .ref (α 44 g0), .ref (α 44 g0)])
      obtain ⟨r_36, hq_35, hf⟩ := on_s hf
      refine k_i (k_runV hc hd my_X6_bestOf tw_1114 hL0 rfl rfl rfl (c_X6_bestOf l D cs B0 kt α Lv S g0 (8 * 1 + (nn (gi S 44 g0 3))) hc.cl hL0 (cl_45 hc.cl (cl_44_tableB hc.cl hL0) (inb_lt hi_34))  hq_35) rfl rfl hl.1 (Nat.le_of_ble_eq_true rfl) ⟨Nat.le_of_ble_eq_true rfl, Nat.le_of_ble_eq_true rfl, Nat.zero_le _, Nat.zero_le _⟩ dX6_letGo_184) hd (fun H locs hd => ?_)
      refine fp_44_4 hc hd hL0 tw_337 dX6_letGo_187 (fun H locs hd => ?_)
      obtain ⟨S_37, hd, hf⟩ := nmD hd hf
      refine lv_aload_n hc.x hc.b dX6_letGo_190 rfl (lv_at hl 1 rfl) ?_
      refine lv_iload hc.x hc.b dX6_letGo_191 (lv_at hl 0 rfl) ?_
      refine fp_44_3 hc hd hL0 tw_335 dX6_letGo_193 (fun H locs hd => ?_)
      obtain ⟨S_38, hd, hf⟩ := nmD hd hf
      obtain ⟨x4_39, ex4_39⟩ : ∃ z : Int32, z = x4 + 1 := ⟨_, rfl⟩
      have hf := bv_n ex4_39 hf
      refine lv_iinc (v := x4_39) (lv' := [(4, .int x4_39), (5, .int r_33), (0, .ref (α 44 g0))]) hc.x hc.b dX6_letGo_196 hl (k := 2) rfl (by rw [ex4_39]; rfl) (by decide) rfl (fun ls hl => ?_)
      refine lv_goto (tgt := 151) hc.x hc.b dX6_letGo_199 (by decide) ?_
      exact ih x4_39 S_38 _ _ _ hf hd (lv_sub hl [2, 0] rfl)
set_option maxRecDepth 100000 in
set_option maxHeartbeats 4000000 in
theorem b_X6_letGo (hc : Cx p s m args meth c cX6_letGo 8 "PumpCrossing$Learners" D cs B0 kt Lv) (hr : meth.sig.returnType = none)  {o : St}  {S : St} {g0 : Nat} {g1 : Nat} {x2 : Int32} {x3 : Int32} (hL0 : Lv 44 g0) (hL1 : Lv 36 g1) {H : Heap} {locs : List Loc} {ls : Array Slot} (hf : f_X6_letGo g0 g1 x2 x3 S = some o) (hd : Dy s D cs B0 α Lv S H locs) (hl : lv_has ls 8 [(0, .ref (α 44 g0)), (1, .ref (α 36 g1)), (2, .int x2), (3, .int x3)]) : W p l e (Rm 3 0 0) s m args below meth c H locs 0 0 (MQ below (Qv D cs B0 α Lv o) args s 0 0 (AB B0)) (F0 m 0 ls []) := by
  unfold f_X6_letGo at hf
  refine lv_aload_n hc.x hc.b dX6_letGo_0 rfl (lv_at hl 0 rfl) ?_
  refine lv_aload_n hc.x hc.b dX6_letGo_1 rfl (lv_at hl 1 rfl) ?_
  refine fg_36_0 hc hd hL1 tw_296 dX6_letGo_2 ?_
  obtain ⟨S_2, hq_1, hf⟩ := on_s hf
  refine k_v (k_runV hc hd my_X6_clear tw_1100 hL0 rfl rfl rfl (c_X6_clear l D cs B0 kt α Lv S g0 (gi S 36 g1 0) hc.cl hL0  hq_1) rfl rfl hl.1 (Nat.le_of_ble_eq_true rfl) ⟨Nat.le_of_ble_eq_true rfl, Nat.le_of_ble_eq_true rfl, Nat.zero_le _, Nat.zero_le _⟩ dX6_letGo_5) hd (fun H locs hd => ?_)
  refine lv_aload_n hc.x hc.b dX6_letGo_8 rfl (lv_at hl 0 rfl) ?_
  refine lv_iload_n hc.x hc.b dX6_letGo_9 rfl (lv_at hl 3 rfl) ?_
  refine fp_44_5 hc hd hL0 tw_339 dX6_letGo_10 (fun H locs hd => ?_)
  obtain ⟨S_3, hd, hf⟩ := nmD hd hf
  refine lv_iconst (v := 0) hc.x hc.b dX6_letGo_13 (by decide) ?_
  refine lv_istore (lv' := [(4, .int 0), (0, .ref (α 44 g0)), (1, .ref (α 36 g1)), (2, .int x2), (3, .int x3)]) hc.x hc.b dX6_letGo_14 hl (by decide) rfl (fun ls hl => ?_)
  refine w_X6_letGo_16 hc hr hL0 hL1 ?_ _ _ _ _ _ _ hf hd (lv_sub hl [1, 2, 3, 0] rfl)
  intro S_29 H locs ls hf hd hl
  refine lv_iconst (v := 0) hc.x hc.b dX6_letGo_148 (by decide) ?_
  refine lv_istore (lv' := [(4, .int 0), (0, .ref (α 44 g0))]) hc.x hc.b dX6_letGo_149 hl (by decide) rfl (fun ls hl => ?_)
  refine w_X6_letGo_151 hc hr hL0 ?_ _ _ _ _ _ _ hf hd (lv_sub hl [1, 0] rfl)
  intro S_40 H locs ls hf hd hl
  cases hf
  exact r_vret hc hd hr dX6_letGo_202
theorem c_X6_letGo (l : Launch) (D : va_G) (cs : Nat → ClassId) (B0 : Nat) (kt : (Nat → Nat) × (Nat → Nat)) (α : Nat → Nat → Nat) (Lv : Nat → Nat → Prop) (S : St) (g0 : Nat) (g1 : Nat) (x2 : Int32) (x3 : Int32) (hcl : Cl Lv) (hL0 : Lv 44 g0) (hL1 : Lv 36 g1) {o : St} (hf : f_X6_letGo g0 g1 x2 x3 S = some o) : Met l yX6_letGo (wz yX6_letGo cX6_letGo 8 none) (Rm 3 0 0) (Pz D cs B0 kt α Lv S [.ref (α 44 g0), .ref (α 36 g1), .int x2, .int x3]) (Qv D cs B0 α Lv o) 0 0 (AB B0) := met_of (by decide) rfl hcl (Nat.le_of_ble_eq_true rfl) (fun p e s m below meth c hc hr hd ls hl => b_X6_letGo hc hr hL0 hL1 hf hd hl)
theorem my_X6_letGo : MyV yX6_letGo "PumpCrossing$Learners" cX6_letGo 8 none 3 := ⟨tw_1097, tw_1098, tw_10, tw_1099, by decide +kernel⟩
end
