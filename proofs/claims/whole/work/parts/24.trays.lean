section
variable {p : Program} {l : Launch} {e : Env} {s : State} {m : MethodId} {args : Array Value} {below : List Frame} {meth : Method} {c : Code} {D : va_G} {cs : Nat → ClassId} {B0 : Nat} {kt : (Nat → Nat) × (Nat → Nat)} {α : Nat → Nat → Nat} {Lv : Nat → Nat → Prop}
def f_X10_allWithin_2 (g0 : Nat) (x1 : Int32) (x2 : Int32) (S : St) (K : Unit → Option (Int32)) : Nat → Int32 → Option (Int32)
  | 0, _ => none
  | n + 1, x3 => ck (inb x1 4 = true) (br ((gi S 51 g0 (nn x1)) ≤ x3) (K ()) (ck (inb x1 4 = true) (ck (inb x3 28 = true) (bv (fun (_u : Unit) => some 0) (fun J_5 => br ((lg_cmp (gl S 53 ((nn x1)) (nn x3)) 0) < 0) (J_5 ()) (ck (inb x1 4 = true) (ck (inb x3 28 = true) (br ((lg_cmp (gl S 53 ((nn x1)) (nn x3)) (Int32.toInt64 x2)) ≤ 0) (bv (x3 + 1) (fun x3_10 => f_X10_allWithin_2 g0 x1 x2 S K n x3_10)) (J_5 ())))))))))
def f_X10_allWithin (g0 : Nat) (x1 : Int32) (x2 : Int32) (S : St) : Option (Int32) := f_X10_allWithin_2 g0 x1 x2 S (fun (_u : Unit) => some 1) FU 0
set_option maxRecDepth 100000 in
set_option maxHeartbeats 4000000 in
theorem w_X10_allWithin_2 (hc : Cx p s m args meth c cX10_allWithin 4 "PumpCrossing$Trays" D cs B0 kt Lv) (hr : meth.sig.returnType = some .boolean) {o : Int32}  {g0 : Nat} {x1 : Int32} {x2 : Int32} {S : St} {K : Unit → Option (Int32)} (hL0 : Lv 49 g0) (hK : ∀ (_u : Unit) (H : Heap) (locs : List Loc) (ls : Array Slot), K _u = some o → Dy s D cs B0 α Lv S H locs → lv_has ls 4 [] → W p l e (Rm 0 0 0) s m args below meth c H locs 0 0 (MQ below (Qi D cs B0 α Lv o S) args s 0 0 (AB B0)) (F0 m 47 ls [])) : ∀ (n : Nat) (x3 : Int32) (H : Heap) (locs : List Loc) (ls : Array Slot), f_X10_allWithin_2 g0 x1 x2 S K n x3 = some o → Dy s D cs B0 α Lv S H locs → lv_has ls 4 [(0, .ref (α 49 g0)), (1, .int x1), (2, .int x2), (3, .int x3)] → W p l e (Rm 0 0 0) s m args below meth c H locs 0 0 (MQ below (Qi D cs B0 α Lv o S) args s 0 0 (AB B0)) (F0 m 2 ls []) := by
  intro n
  induction n with
  | zero =>
    intro x3 H locs ls hf
    rw [f_X10_allWithin_2] at hf
    cases hf
  | succ n ih =>
    intro x3 H locs ls hf hd hl
    rw [f_X10_allWithin_2] at hf
    refine lv_iload_n hc.x hc.b dX10_allWithin_2 rfl (lv_at hl 3 rfl) ?_
    refine lv_aload_n hc.x hc.b dX10_allWithin_3 rfl (lv_at hl 0 rfl) ?_
    refine fg_49_1 hc hd hL0 tw_272 dX10_allWithin_4 ?_
    refine lv_iload_n hc.x hc.b dX10_allWithin_7 rfl (lv_at hl 1 rfl) ?_
    obtain ⟨hi_1, hf⟩ := ck_s hf
    refine r_iald hc hd (cl_49_lengths hc.cl hL0) rfl hi_1 dX10_allWithin_8 ?_
    refine lv_icmp_ge (tgt := 47) hc.x hc.b dX10_allWithin_9 (by decide) (fun c_2 => ?_) (fun c_2 => ?_)
    · have hf := br_y c_2 hf
      exact hK ()  _ _ _ hf hd (lv_sub hl [] rfl)
    · have hf := br_n c_2 hf
      refine lv_aload_n hc.x hc.b dX10_allWithin_12 rfl (lv_at hl 0 rfl) ?_
      refine fg_49_2 hc hd hL0 tw_274 dX10_allWithin_13 ?_
      refine lv_iload_n hc.x hc.b dX10_allWithin_16 rfl (lv_at hl 1 rfl) ?_
      obtain ⟨hi_3, hf⟩ := ck_s hf
      refine r_aald hc hd (cl_49_numbers hc.cl hL0) (t0 := 7) rfl rfl rfl hi_3 dX10_allWithin_17 ?_
      show W p l e (Rm 0 0 0) s m args below meth c H locs 0 0 (MQ below (Qi D cs B0 α Lv o S) args s 0 0 (AB B0)) (F0 m 18 ls [.ref (α 53 ((nn x1)))])
      refine lv_iload_n hc.x hc.b dX10_allWithin_18 rfl (lv_at hl 3 rfl) ?_
      obtain ⟨hi_4, hf⟩ := ck_s hf
      refine r_lald hc hd (cl_52 hc.cl (cl_49_numbers hc.cl hL0) (inb_lt hi_3)) rfl hi_4 dX10_allWithin_19 ?_
      refine lv_lconst (v := 0) hc.x hc.b dX10_allWithin_20 (by decide) ?_
      refine W.lcmp hc.x hc.b dX10_allWithin_21 ?_
      refine jn_s (P := fun J_5 => ∀ (_u : Unit) (H : Heap) (locs : List Loc) (ls : Array Slot), J_5 _u = some o → Dy s D cs B0 α Lv S H locs → lv_has ls 4 [] → W p l e (Rm 0 0 0) s m args below meth c H locs 0 0 (MQ below (Qi D cs B0 α Lv o S) args s 0 0 (AB B0)) (F0 m 39 ls [])) hf ?_ (fun J_5 hJ_5 hf => ?_)
      · intro _u H locs ls hf hd hl
        refine lv_iconst (v := 0) hc.x hc.b dX10_allWithin_39 (by decide) ?_
        cases hf
        exact r_zret hc hd hr (Or.inl rfl) dX10_allWithin_40
      refine lv_if_lt (tgt := 39) hc.x hc.b dX10_allWithin_22 (by decide) (fun c_6 => ?_) (fun c_6 => ?_)
      · have hf := br_y c_6 hf
        exact hJ_5 ()  _ _ _ hf hd (lv_sub hl [] rfl)
      · have hf := br_n c_6 hf
        refine lv_aload_n hc.x hc.b dX10_allWithin_25 rfl (lv_at hl 0 rfl) ?_
        refine fg_49_2 hc hd hL0 tw_274 dX10_allWithin_26 ?_
        refine lv_iload_n hc.x hc.b dX10_allWithin_29 rfl (lv_at hl 1 rfl) ?_
        obtain ⟨hi_7, hf⟩ := ck_s hf
        refine r_aald hc hd (cl_49_numbers hc.cl hL0) (t0 := 7) rfl rfl rfl hi_7 dX10_allWithin_30 ?_
        show W p l e (Rm 0 0 0) s m args below meth c H locs 0 0 (MQ below (Qi D cs B0 α Lv o S) args s 0 0 (AB B0)) (F0 m 31 ls [.ref (α 53 ((nn x1)))])
        refine lv_iload_n hc.x hc.b dX10_allWithin_31 rfl (lv_at hl 3 rfl) ?_
        obtain ⟨hi_8, hf⟩ := ck_s hf
        refine r_lald hc hd (cl_52 hc.cl (cl_49_numbers hc.cl hL0) (inb_lt hi_7)) rfl hi_8 dX10_allWithin_32 ?_
        refine lv_iload_n hc.x hc.b dX10_allWithin_33 rfl (lv_at hl 2 rfl) ?_
        refine lv_i2l (v := Int32.toInt64 x2) hc.x hc.b dX10_allWithin_34 rfl ?_
        refine W.lcmp hc.x hc.b dX10_allWithin_35 ?_
        refine lv_if_le (tgt := 41) hc.x hc.b dX10_allWithin_36 (by decide) (fun c_9 => ?_) (fun c_9 => ?_)
        · have hf := br_y c_9 hf
          obtain ⟨x3_10, ex3_10⟩ : ∃ z : Int32, z = x3 + 1 := ⟨_, rfl⟩
          have hf := bv_n ex3_10 hf
          refine lv_iinc (v := x3_10) (lv' := [(3, .int x3_10), (0, .ref (α 49 g0)), (1, .int x1), (2, .int x2)]) hc.x hc.b dX10_allWithin_41 hl (k := 3) rfl (by rw [ex3_10]; rfl) (by decide) rfl (fun ls hl => ?_)
          refine lv_goto (tgt := 2) hc.x hc.b dX10_allWithin_44 (by decide) ?_
          exact ih x3_10 _ _ _ hf hd (lv_sub hl [1, 2, 3, 0] rfl)
        · have hf := br_n c_9 hf
          exact hJ_5 ()  _ _ _ hf hd (lv_sub hl [] rfl)
set_option maxRecDepth 100000 in
set_option maxHeartbeats 4000000 in
theorem b_X10_allWithin (hc : Cx p s m args meth c cX10_allWithin 4 "PumpCrossing$Trays" D cs B0 kt Lv) (hr : meth.sig.returnType = some .boolean)  {o : Int32}  {S : St} {g0 : Nat} {x1 : Int32} {x2 : Int32} (hL0 : Lv 49 g0) {H : Heap} {locs : List Loc} {ls : Array Slot} (hf : f_X10_allWithin g0 x1 x2 S = some o) (hd : Dy s D cs B0 α Lv S H locs) (hl : lv_has ls 4 [(0, .ref (α 49 g0)), (1, .int x1), (2, .int x2)]) : W p l e (Rm 0 0 0) s m args below meth c H locs 0 0 (MQ below (Qi D cs B0 α Lv o S) args s 0 0 (AB B0)) (F0 m 0 ls []) := by
  unfold f_X10_allWithin at hf
  refine lv_iconst (v := 0) hc.x hc.b dX10_allWithin_0 (by decide) ?_
  refine lv_istore_n (lv' := [(3, .int 0), (0, .ref (α 49 g0)), (1, .int x1), (2, .int x2)]) hc.x hc.b dX10_allWithin_1 rfl hl (by decide) rfl (fun ls hl => ?_)
  refine w_X10_allWithin_2 hc hr hL0 ?_ _ _ _ _ _ hf hd (lv_sub hl [1, 2, 3, 0] rfl)
  intro _u H locs ls hf hd hl
  refine lv_iconst (v := 1) hc.x hc.b dX10_allWithin_47 (by decide) ?_
  cases hf
  exact r_zret hc hd hr (Or.inr rfl) dX10_allWithin_48
theorem c_X10_allWithin (l : Launch) (D : va_G) (cs : Nat → ClassId) (B0 : Nat) (kt : (Nat → Nat) × (Nat → Nat)) (α : Nat → Nat → Nat) (Lv : Nat → Nat → Prop) (S : St) (g0 : Nat) (x1 : Int32) (x2 : Int32) (hcl : Cl Lv) (hL0 : Lv 49 g0) {o : Int32} (hf : f_X10_allWithin g0 x1 x2 S = some o) : Met l yX10_allWithin (wz yX10_allWithin cX10_allWithin 4 (some .boolean)) (Rm 0 0 0) (Pz D cs B0 kt α Lv S [.ref (α 49 g0), .int x1, .int x2]) (Qi D cs B0 α Lv o S) 0 0 (AB B0) := met_of (by decide) rfl hcl (Nat.le_of_ble_eq_true rfl) (fun p e s m below meth c hc hr hd ls hl => b_X10_allWithin hc hr hL0 hf hd hl)
theorem my_X10_allWithin : MyV yX10_allWithin "PumpCrossing$Trays" cX10_allWithin 4 (some .boolean) 2 := ⟨tw_1165, tw_1166, tw_8, tw_1167, by decide +kernel⟩
def f_X10_clear_17 (g0 : Nat) (x1 : Int32) (x3 : Int32) (K : St → Option (St)) : Nat → Int32 → St → Option (St)
  | 0, _, _ => none
  | n + 1, x4, S => br (x3 ≤ x4) (K S) (ck (inb x1 4 = true) (ck (inb x4 28 = true) (bv (sl S 53 ((nn x1)) (nn x4) 0) (fun S_8 => bv (x4 + 1) (fun x4_9 => f_X10_clear_17 g0 x1 x3 K n x4_9 S_8)))))
def f_X10_clear (g0 : Nat) (x1 : Int32) (x2 : Int32) (x3 : Int32) (S : St) : Option (St) := ck (inb x1 4 = true) (bv (si S 50 g0 (nn x1) x2) (fun S_2 => ck (inb x1 4 = true) (bv (si S_2 51 g0 (nn x1) x3) (fun S_4 => f_X10_clear_17 g0 x1 x3 (fun  (S_10 : St) => some S_10) FU 0 S_4))))
set_option maxRecDepth 100000 in
set_option maxHeartbeats 4000000 in
theorem w_X10_clear_17 (hc : Cx p s m args meth c cX10_clear 5 "PumpCrossing$Trays" D cs B0 kt Lv) (hr : meth.sig.returnType = none) {o : St}  {g0 : Nat} {x1 : Int32} {x3 : Int32} {K : St → Option (St)} (hL0 : Lv 49 g0) (hK : ∀  (S : St) (H : Heap) (locs : List Loc) (ls : Array Slot), K S = some o → Dy s D cs B0 α Lv S H locs → lv_has ls 5 [] → W p l e (Rm 0 0 0) s m args below meth c H locs 0 0 (MQ below (Qv D cs B0 α Lv o) args s 0 0 (AB B0)) (F0 m 39 ls [])) : ∀ (n : Nat) (x4 : Int32) (S : St) (H : Heap) (locs : List Loc) (ls : Array Slot), f_X10_clear_17 g0 x1 x3 K n x4 S = some o → Dy s D cs B0 α Lv S H locs → lv_has ls 5 [(0, .ref (α 49 g0)), (1, .int x1), (3, .int x3), (4, .int x4)] → W p l e (Rm 0 0 0) s m args below meth c H locs 0 0 (MQ below (Qv D cs B0 α Lv o) args s 0 0 (AB B0)) (F0 m 17 ls []) := by
  intro n
  induction n with
  | zero =>
    intro x4 S H locs ls hf
    rw [f_X10_clear_17] at hf
    cases hf
  | succ n ih =>
    intro x4 S H locs ls hf hd hl
    rw [f_X10_clear_17] at hf
    refine lv_iload hc.x hc.b dX10_clear_17 (lv_at hl 3 rfl) ?_
    refine lv_iload_n hc.x hc.b dX10_clear_19 rfl (lv_at hl 2 rfl) ?_
    refine lv_icmp_ge (tgt := 39) hc.x hc.b dX10_clear_20 (by decide) (fun c_5 => ?_) (fun c_5 => ?_)
    · have hf := br_y c_5 hf
      exact hK S _ _ _ hf hd (lv_sub hl [] rfl)
    · have hf := br_n c_5 hf
      refine lv_aload_n hc.x hc.b dX10_clear_23 rfl (lv_at hl 0 rfl) ?_
      refine fg_49_2 hc hd hL0 tw_274 dX10_clear_24 ?_
      refine lv_iload_n hc.x hc.b dX10_clear_27 rfl (lv_at hl 1 rfl) ?_
      obtain ⟨hi_6, hf⟩ := ck_s hf
      refine r_aald hc hd (cl_49_numbers hc.cl hL0) (t0 := 7) rfl rfl rfl hi_6 dX10_clear_28 ?_
      show W p l e (Rm 0 0 0) s m args below meth c H locs 0 0 (MQ below (Qv D cs B0 α Lv o) args s 0 0 (AB B0)) (F0 m 29 ls [.ref (α 53 ((nn x1)))])
      refine lv_iload hc.x hc.b dX10_clear_29 (lv_at hl 3 rfl) ?_
      refine lv_lconst (v := 0) hc.x hc.b dX10_clear_31 (by decide) ?_
      obtain ⟨hi_7, hf⟩ := ck_s hf
      refine r_last hc hd (cl_52 hc.cl (cl_49_numbers hc.cl hL0) (inb_lt hi_6)) (fun _ => rfl) hi_7 dX10_clear_32 (fun H locs hd => ?_)
      obtain ⟨S_8, hd, hf⟩ := nmD hd hf
      obtain ⟨x4_9, ex4_9⟩ : ∃ z : Int32, z = x4 + 1 := ⟨_, rfl⟩
      have hf := bv_n ex4_9 hf
      refine lv_iinc (v := x4_9) (lv' := [(4, .int x4_9), (0, .ref (α 49 g0)), (1, .int x1), (3, .int x3)]) hc.x hc.b dX10_clear_33 hl (k := 3) rfl (by rw [ex4_9]; rfl) (by decide) rfl (fun ls hl => ?_)
      refine lv_goto (tgt := 17) hc.x hc.b dX10_clear_36 (by decide) ?_
      exact ih x4_9 S_8 _ _ _ hf hd (lv_sub hl [1, 2, 3, 0] rfl)
set_option maxRecDepth 100000 in
set_option maxHeartbeats 4000000 in
theorem b_X10_clear (hc : Cx p s m args meth c cX10_clear 5 "PumpCrossing$Trays" D cs B0 kt Lv) (hr : meth.sig.returnType = none)  {o : St}  {S : St} {g0 : Nat} {x1 : Int32} {x2 : Int32} {x3 : Int32} (hL0 : Lv 49 g0) {H : Heap} {locs : List Loc} {ls : Array Slot} (hf : f_X10_clear g0 x1 x2 x3 S = some o) (hd : Dy s D cs B0 α Lv S H locs) (hl : lv_has ls 5 [(0, .ref (α 49 g0)), (1, .int x1), (2, .int x2), (3, .int x3)]) : W p l e (Rm 0 0 0) s m args below meth c H locs 0 0 (MQ below (Qv D cs B0 α Lv o) args s 0 0 (AB B0)) (F0 m 0 ls []) := by
  unfold f_X10_clear at hf
  refine lv_aload_n hc.x hc.b dX10_clear_0 rfl (lv_at hl 0 rfl) ?_
  refine fg_49_0 hc hd hL0 tw_271 dX10_clear_1 ?_
  refine lv_iload_n hc.x hc.b dX10_clear_4 rfl (lv_at hl 1 rfl) ?_
  refine lv_iload_n hc.x hc.b dX10_clear_5 rfl (lv_at hl 2 rfl) ?_
  obtain ⟨hi_1, hf⟩ := ck_s hf
  refine r_iast hc hd (cl_49_sorts hc.cl hL0) (fun _ => rfl) hi_1 dX10_clear_6 (fun H locs hd => ?_)
  obtain ⟨S_2, hd, hf⟩ := nmD hd hf
  refine lv_aload_n hc.x hc.b dX10_clear_7 rfl (lv_at hl 0 rfl) ?_
  refine fg_49_1 hc hd hL0 tw_272 dX10_clear_8 ?_
  refine lv_iload_n hc.x hc.b dX10_clear_11 rfl (lv_at hl 1 rfl) ?_
  refine lv_iload_n hc.x hc.b dX10_clear_12 rfl (lv_at hl 3 rfl) ?_
  obtain ⟨hi_3, hf⟩ := ck_s hf
  refine r_iast hc hd (cl_49_lengths hc.cl hL0) (fun _ => rfl) hi_3 dX10_clear_13 (fun H locs hd => ?_)
  obtain ⟨S_4, hd, hf⟩ := nmD hd hf
  refine lv_iconst (v := 0) hc.x hc.b dX10_clear_14 (by decide) ?_
  refine lv_istore (lv' := [(4, .int 0), (0, .ref (α 49 g0)), (1, .int x1), (2, .int x2), (3, .int x3)]) hc.x hc.b dX10_clear_15 hl (by decide) rfl (fun ls hl => ?_)
  refine w_X10_clear_17 hc hr hL0 ?_ _ _ _ _ _ _ hf hd (lv_sub hl [1, 2, 4, 0] rfl)
  intro S_10 H locs ls hf hd hl
  cases hf
  exact r_vret hc hd hr dX10_clear_39
theorem c_X10_clear (l : Launch) (D : va_G) (cs : Nat → ClassId) (B0 : Nat) (kt : (Nat → Nat) × (Nat → Nat)) (α : Nat → Nat → Nat) (Lv : Nat → Nat → Prop) (S : St) (g0 : Nat) (x1 : Int32) (x2 : Int32) (x3 : Int32) (hcl : Cl Lv) (hL0 : Lv 49 g0) {o : St} (hf : f_X10_clear g0 x1 x2 x3 S = some o) : Met l yX10_clear (wz yX10_clear cX10_clear 5 none) (Rm 0 0 0) (Pz D cs B0 kt α Lv S [.ref (α 49 g0), .int x1, .int x2, .int x3]) (Qv D cs B0 α Lv o) 0 0 (AB B0) := met_of (by decide) rfl hcl (Nat.le_of_ble_eq_true rfl) (fun p e s m below meth c hc hr hd ls hl => b_X10_clear hc hr hL0 hf hd hl)
theorem my_X10_clear : MyV yX10_clear "PumpCrossing$Trays" cX10_clear 5 none 3 := ⟨tw_1243, tw_1244, tw_8, tw_1245, by decide +kernel⟩
def f_X10_cut (x0 : Int32) (x1 : Int64) (S : St) : Option (Int64) := br (x0 = 0) (some (Int32.toInt64 (tb (Int64.toInt32 x1)))) (br (x0 = 1) (some (Int32.toInt64 (ts (Int64.toInt32 x1)))) (br (x0 = 2) (some (Int32.toInt64 (Int64.toInt32 x1))) (some x1)))
set_option maxRecDepth 100000 in
set_option maxHeartbeats 4000000 in
theorem b_X10_cut (hc : Cx p s m args meth c cX10_cut 3 "PumpCrossing$Trays" D cs B0 kt Lv) (hr : meth.sig.returnType = some .long)  {o : Int64}  {S : St} {x0 : Int32} {x1 : Int64}  {H : Heap} {locs : List Loc} {ls : Array Slot} (hf : f_X10_cut x0 x1 S = some o) (hd : Dy s D cs B0 α Lv S H locs) (hl : lv_has ls 3 [(0, .int x0), (1, .long x1)]) : W p l e (Rm 0 0 0) s m args below meth c H locs 0 0 (MQ below (Ql D cs B0 α Lv o S) args s 0 0 (AB B0)) (F0 m 0 ls []) := by
  unfold f_X10_cut at hf
  refine lv_iload_n hc.x hc.b dX10_cut_0 rfl (lv_at hl 0 rfl) ?_
  by_cases c_1_0 : x0 = 0
  · have hf := br_y c_1_0 hf
    refine lv_tableIn (off := 27) (tgt := 28) hc.x hc.b dX10_cut_1 (by rw [c_1_0]; decide) (by rw [c_1_0]; decide) (by rw [c_1_0]; decide) (by decide) ?_
    refine lv_lload_n hc.x hc.b dX10_cut_28 rfl (lv_at hl 1 rfl) ?_
    refine lv_l2i (v := Int64.toInt32 x1) hc.x hc.b dX10_cut_29 rfl ?_
    refine lv_i2b (v := tb (Int64.toInt32 x1)) hc.x hc.b dX10_cut_30 rfl ?_
    refine lv_i2l (v := Int32.toInt64 (tb (Int64.toInt32 x1))) hc.x hc.b dX10_cut_31 rfl ?_
    cases hf
    exact r_lret hc hd hr dX10_cut_32
  · have hf := br_n c_1_0 hf
    by_cases c_1_1 : x0 = 1
    · have hf := br_y c_1_1 hf
      refine lv_tableIn (off := 32) (tgt := 33) hc.x hc.b dX10_cut_1 (by rw [c_1_1]; decide) (by rw [c_1_1]; decide) (by rw [c_1_1]; decide) (by decide) ?_
      refine lv_lload_n hc.x hc.b dX10_cut_33 rfl (lv_at hl 1 rfl) ?_
      refine lv_l2i (v := Int64.toInt32 x1) hc.x hc.b dX10_cut_34 rfl ?_
      refine lv_i2s (v := ts (Int64.toInt32 x1)) hc.x hc.b dX10_cut_35 rfl ?_
      refine lv_i2l (v := Int32.toInt64 (ts (Int64.toInt32 x1))) hc.x hc.b dX10_cut_36 rfl ?_
      cases hf
      exact r_lret hc hd hr dX10_cut_37
    · have hf := br_n c_1_1 hf
      by_cases c_1_2 : x0 = 2
      · have hf := br_y c_1_2 hf
        refine lv_tableIn (off := 37) (tgt := 38) hc.x hc.b dX10_cut_1 (by rw [c_1_2]; decide) (by rw [c_1_2]; decide) (by rw [c_1_2]; decide) (by decide) ?_
        refine lv_lload_n hc.x hc.b dX10_cut_38 rfl (lv_at hl 1 rfl) ?_
        refine lv_l2i (v := Int64.toInt32 x1) hc.x hc.b dX10_cut_39 rfl ?_
        refine lv_i2l (v := Int32.toInt64 (Int64.toInt32 x1)) hc.x hc.b dX10_cut_40 rfl ?_
        cases hf
        exact r_lret hc hd hr dX10_cut_41
      · have hf := br_n c_1_2 hf
        refine lv_tableOut (tgt := 42) hc.x hc.b dX10_cut_1 (sw_out (fun z h1 h2 => by
          rcases (show z = 0 ∨ z = 1 ∨ z = 2 by omega) with rfl | rfl | rfl
          · exact c_1_0
          · exact c_1_1
          · exact c_1_2)) (by decide) ?_
        refine lv_lload_n hc.x hc.b dX10_cut_42 rfl (lv_at hl 1 rfl) ?_
        cases hf
        exact r_lret hc hd hr dX10_cut_43
theorem c_X10_cut (l : Launch) (D : va_G) (cs : Nat → ClassId) (B0 : Nat) (kt : (Nat → Nat) × (Nat → Nat)) (α : Nat → Nat → Nat) (Lv : Nat → Nat → Prop) (S : St) (x0 : Int32) (x1 : Int64) (hcl : Cl Lv)  {o : Int64} (hf : f_X10_cut x0 x1 S = some o) : Met l yX10_cut (wz yX10_cut cX10_cut 3 (some .long)) (Rm 0 0 0) (Pz D cs B0 kt α Lv S [.int x0, .long x1]) (Ql D cs B0 α Lv o S) 0 0 (AB B0) := met_of (by decide) rfl hcl (Nat.le_of_ble_eq_true rfl) (fun p e s m below meth c hc hr hd ls hl => b_X10_cut hc hr  hf hd hl)
theorem my_X10_cut : MyS yX10_cut cX10_cut 3 (some .long) 2 := ⟨tw_1259, tw_8, tw_1260, by decide +kernel⟩
def f_X10_filledOn_2 (g0 : Nat) (x1 : Int32) (S : St) (K : Int32 → Option (Int32)) : Nat → Int32 → Int32 → Option (Int32)
  | 0, _, _ => none
  | n + 1, x2, x3 => br (x1 ≤ x3) (K x2) (ck (inb x3 28 = true) (ck (inb x2 13 = true) (bv (x2 + ((gi S 57 ((nn x3)) (nn x2)) - 1)) (fun x2_4 => bv (x3 + 1) (fun x3_5 => f_X10_filledOn_2 g0 x1 S K n x2_4 x3_5)))))
def f_X10_filledOn (g0 : Nat) (x1 : Int32) (x2 : Int32) (S : St) : Option (Int32) := f_X10_filledOn_2 g0 x1 S (fun (x2_6 : Int32) => ck (inb x1 28 = true) (ck (inb x2_6 13 = true) (some (gi S 57 ((nn x1)) (nn x2_6))))) FU x2 0
set_option maxRecDepth 100000 in
set_option maxHeartbeats 4000000 in
theorem w_X10_filledOn_2 (hc : Cx p s m args meth c cX10_filledOn 4 "PumpCrossing$Trays" D cs B0 kt Lv) (hr : meth.sig.returnType = some .int) {o : Int32}  {g0 : Nat} {x1 : Int32} {S : St} {K : Int32 → Option (Int32)} (hL0 : Lv 49 g0) (hK : ∀ (k2 : Int32) (H : Heap) (locs : List Loc) (ls : Array Slot), K k2 = some o → Dy s D cs B0 α Lv S H locs → lv_has ls 4 [(0, .ref (α 49 g0)), (1, .int x1), (2, .int k2)] → W p l e (Rm 0 0 0) s m args below meth c H locs 0 0 (MQ below (Qi D cs B0 α Lv o S) args s 0 0 (AB B0)) (F0 m 26 ls [])) : ∀ (n : Nat) (x2 : Int32) (x3 : Int32) (H : Heap) (locs : List Loc) (ls : Array Slot), f_X10_filledOn_2 g0 x1 S K n x2 x3 = some o → Dy s D cs B0 α Lv S H locs → lv_has ls 4 [(0, .ref (α 49 g0)), (1, .int x1), (2, .int x2), (3, .int x3)] → W p l e (Rm 0 0 0) s m args below meth c H locs 0 0 (MQ below (Qi D cs B0 α Lv o S) args s 0 0 (AB B0)) (F0 m 2 ls []) := by
  intro n
  induction n with
  | zero =>
    intro x2 x3 H locs ls hf
    rw [f_X10_filledOn_2] at hf
    cases hf
  | succ n ih =>
    intro x2 x3 H locs ls hf hd hl
    rw [f_X10_filledOn_2] at hf
    refine lv_iload_n hc.x hc.b dX10_filledOn_2 rfl (lv_at hl 3 rfl) ?_
    refine lv_iload_n hc.x hc.b dX10_filledOn_3 rfl (lv_at hl 1 rfl) ?_
    refine lv_icmp_ge (tgt := 26) hc.x hc.b dX10_filledOn_4 (by decide) (fun c_1 => ?_) (fun c_1 => ?_)
    · have hf := br_y c_1 hf
      exact hK x2 _ _ _ hf hd (lv_sub hl [0, 1, 2] rfl)
    · have hf := br_n c_1 hf
      refine lv_iload_n hc.x hc.b dX10_filledOn_7 rfl (lv_at hl 2 rfl) ?_
      refine lv_aload_n hc.x hc.b dX10_filledOn_8 rfl (lv_at hl 0 rfl) ?_
      refine fg_49_4 hc hd hL0 tw_277 dX10_filledOn_9 ?_
      refine lv_iload_n hc.x hc.b dX10_filledOn_12 rfl (lv_at hl 3 rfl) ?_
      obtain ⟨hi_2, hf⟩ := ck_s hf
      refine r_aald hc hd (cl_49_filled hc.cl hL0) (t0 := 6) rfl rfl rfl hi_2 dX10_filledOn_13 ?_
      show W p l e (Rm 0 0 0) s m args below meth c H locs 0 0 (MQ below (Qi D cs B0 α Lv o S) args s 0 0 (AB B0)) (F0 m 14 ls [.ref (α 57 ((nn x3))), .int x2])
      refine lv_iload_n hc.x hc.b dX10_filledOn_14 rfl (lv_at hl 2 rfl) ?_
      obtain ⟨hi_3, hf⟩ := ck_s hf
      refine r_iald hc hd (cl_56 hc.cl (cl_49_filled hc.cl hL0) (inb_lt hi_2)) rfl hi_3 dX10_filledOn_15 ?_
      refine lv_iconst (v := 1) hc.x hc.b dX10_filledOn_16 (by decide) ?_
      refine lv_isub hc.x hc.b dX10_filledOn_17 ?_
      refine lv_iadd hc.x hc.b dX10_filledOn_18 ?_
      refine lv_topi (fun x2_4 ex2_4 => ?_)
      have hf := bv_n ex2_4 hf
      refine lv_istore_n (lv' := [(2, .int x2_4), (0, .ref (α 49 g0)), (1, .int x1), (3, .int x3)]) hc.x hc.b dX10_filledOn_19 rfl hl (by decide) rfl (fun ls hl => ?_)
      obtain ⟨x3_5, ex3_5⟩ : ∃ z : Int32, z = x3 + 1 := ⟨_, rfl⟩
      have hf := bv_n ex3_5 hf
      refine lv_iinc (v := x3_5) (lv' := [(3, .int x3_5), (2, .int x2_4), (0, .ref (α 49 g0)), (1, .int x1)]) hc.x hc.b dX10_filledOn_20 hl (k := 3) rfl (by rw [ex3_5]; rfl) (by decide) rfl (fun ls hl => ?_)
      refine lv_goto (tgt := 2) hc.x hc.b dX10_filledOn_23 (by decide) ?_
      exact ih x2_4 x3_5 _ _ _ hf hd (lv_sub hl [2, 3, 1, 0] rfl)
set_option maxRecDepth 100000 in
set_option maxHeartbeats 4000000 in
theorem b_X10_filledOn (hc : Cx p s m args meth c cX10_filledOn 4 "PumpCrossing$Trays" D cs B0 kt Lv) (hr : meth.sig.returnType = some .int)  {o : Int32}  {S : St} {g0 : Nat} {x1 : Int32} {x2 : Int32} (hL0 : Lv 49 g0) {H : Heap} {locs : List Loc} {ls : Array Slot} (hf : f_X10_filledOn g0 x1 x2 S = some o) (hd : Dy s D cs B0 α Lv S H locs) (hl : lv_has ls 4 [(0, .ref (α 49 g0)), (1, .int x1), (2, .int x2)]) : W p l e (Rm 0 0 0) s m args below meth c H locs 0 0 (MQ below (Qi D cs B0 α Lv o S) args s 0 0 (AB B0)) (F0 m 0 ls []) := by
  unfold f_X10_filledOn at hf
  refine lv_iconst (v := 0) hc.x hc.b dX10_filledOn_0 (by decide) ?_
  refine lv_istore_n (lv' := [(3, .int 0), (0, .ref (α 49 g0)), (1, .int x1), (2, .int x2)]) hc.x hc.b dX10_filledOn_1 rfl hl (by decide) rfl (fun ls hl => ?_)
  refine w_X10_filledOn_2 hc hr hL0 ?_ _ _ _ _ _ _ hf hd (lv_sub hl [1, 2, 3, 0] rfl)
  intro x2_6 H locs ls hf hd hl
  refine lv_aload_n hc.x hc.b dX10_filledOn_26 rfl (lv_at hl 0 rfl) ?_
  refine fg_49_4 hc hd hL0 tw_277 dX10_filledOn_27 ?_
  refine lv_iload_n hc.x hc.b dX10_filledOn_30 rfl (lv_at hl 1 rfl) ?_
  obtain ⟨hi_7, hf⟩ := ck_s hf
  refine r_aald hc hd (cl_49_filled hc.cl hL0) (t0 := 6) rfl rfl rfl hi_7 dX10_filledOn_31 ?_
  show W p l e (Rm 0 0 0) s m args below meth c H locs 0 0 (MQ below (Qi D cs B0 α Lv o S) args s 0 0 (AB B0)) (F0 m 32 ls [.ref (α 57 ((nn x1)))])
  refine lv_iload_n hc.x hc.b dX10_filledOn_32 rfl (lv_at hl 2 rfl) ?_
  obtain ⟨hi_8, hf⟩ := ck_s hf
  refine r_iald hc hd (cl_56 hc.cl (cl_49_filled hc.cl hL0) (inb_lt hi_7)) rfl hi_8 dX10_filledOn_33 ?_
  cases hf
  exact r_iret hc hd hr dX10_filledOn_34
theorem c_X10_filledOn (l : Launch) (D : va_G) (cs : Nat → ClassId) (B0 : Nat) (kt : (Nat → Nat) × (Nat → Nat)) (α : Nat → Nat → Nat) (Lv : Nat → Nat → Prop) (S : St) (g0 : Nat) (x1 : Int32) (x2 : Int32) (hcl : Cl Lv) (hL0 : Lv 49 g0) {o : Int32} (hf : f_X10_filledOn g0 x1 x2 S = some o) : Met l yX10_filledOn (wz yX10_filledOn cX10_filledOn 4 (some .int)) (Rm 0 0 0) (Pz D cs B0 kt α Lv S [.ref (α 49 g0), .int x1, .int x2]) (Qi D cs B0 α Lv o S) 0 0 (AB B0) := met_of (by decide) rfl hcl (Nat.le_of_ble_eq_true rfl) (fun p e s m below meth c hc hr hd ls hl => b_X10_filledOn hc hr hL0 hf hd hl)
theorem my_X10_filledOn : MyV yX10_filledOn "PumpCrossing$Trays" cX10_filledOn 4 (some .int) 2 := ⟨tw_1208, tw_1209, tw_8, tw_1210, by decide +kernel⟩
def f_X10_isMissing (g0 : Nat) (x1 : Int32) (S : St) : Option (Int32) := ck (inb x1 4 = true) (bv (fun (v_2 : Int32) => ck (v_2 = 0 ∨ v_2 = 1) (some v_2)) (fun J_3 => br ((gi S 50 g0 (nn x1)) = ((-1))) (J_3 1) (J_3 0)))
set_option maxRecDepth 100000 in
set_option maxHeartbeats 4000000 in
theorem b_X10_isMissing (hc : Cx p s m args meth c cX10_isMissing 2 "PumpCrossing$Trays" D cs B0 kt Lv) (hr : meth.sig.returnType = some .boolean)  {o : Int32}  {S : St} {g0 : Nat} {x1 : Int32} (hL0 : Lv 49 g0) {H : Heap} {locs : List Loc} {ls : Array Slot} (hf : f_X10_isMissing g0 x1 S = some o) (hd : Dy s D cs B0 α Lv S H locs) (hl : lv_has ls 2 [(0, .ref (α 49 g0)), (1, .int x1)]) : W p l e (Rm 0 0 0) s m args below meth c H locs 0 0 (MQ below (Qi D cs B0 α Lv o S) args s 0 0 (AB B0)) (F0 m 0 ls []) := by
  unfold f_X10_isMissing at hf
  refine lv_aload_n hc.x hc.b dX10_isMissing_0 rfl (lv_at hl 0 rfl) ?_
  refine fg_49_0 hc hd hL0 tw_271 dX10_isMissing_1 ?_
  refine lv_iload_n hc.x hc.b dX10_isMissing_4 rfl (lv_at hl 1 rfl) ?_
  obtain ⟨hi_1, hf⟩ := ck_s hf
  refine r_iald hc hd (cl_49_sorts hc.cl hL0) rfl hi_1 dX10_isMissing_5 ?_
  refine lv_iconst (v := (-1)) hc.x hc.b dX10_isMissing_6 (by decide) ?_
  refine jn_s (P := fun J_3 => ∀ (v_2 : Int32) (H : Heap) (locs : List Loc) (ls : Array Slot), J_3 v_2 = some o → Dy s D cs B0 α Lv S H locs → lv_has ls 2 [] → W p l e (Rm 0 0 0) s m args below meth c H locs 0 0 (MQ below (Qi D cs B0 α Lv o S) args s 0 0 (AB B0)) (F0 m 15 ls [.int v_2])) hf ?_ (fun J_3 hJ_3 hf => ?_)
  · intro v_2 H locs ls hf hd hl
    obtain ⟨hz, hf⟩ := ck_s hf
    cases hf
    exact r_zret hc hd hr hz dX10_isMissing_15
  refine lv_icmp_ne (tgt := 14) hc.x hc.b dX10_isMissing_7 (by decide) (fun c_4 => ?_) (fun c_4 => ?_)
  · have hf := br_n c_4 hf
    refine lv_iconst (v := 0) hc.x hc.b dX10_isMissing_14 (by decide) ?_
    exact hJ_3 0 _ _ _ hf hd (lv_sub hl [] rfl)
  · have hf := br_y c_4 hf
    refine lv_iconst (v := 1) hc.x hc.b dX10_isMissing_10 (by decide) ?_
    refine lv_goto (tgt := 15) hc.x hc.b dX10_isMissing_11 (by decide) ?_
    exact hJ_3 1 _ _ _ hf hd (lv_sub hl [] rfl)
theorem c_X10_isMissing (l : Launch) (D : va_G) (cs : Nat → ClassId) (B0 : Nat) (kt : (Nat → Nat) × (Nat → Nat)) (α : Nat → Nat → Nat) (Lv : Nat → Nat → Prop) (S : St) (g0 : Nat) (x1 : Int32) (hcl : Cl Lv) (hL0 : Lv 49 g0) {o : Int32} (hf : f_X10_isMissing g0 x1 S = some o) : Met l yX10_isMissing (wz yX10_isMissing cX10_isMissing 2 (some .boolean)) (Rm 0 0 0) (Pz D cs B0 kt α Lv S [.ref (α 49 g0), .int x1]) (Qi D cs B0 α Lv o S) 0 0 (AB B0) := met_of (by decide) rfl hcl (Nat.le_of_ble_eq_true rfl) (fun p e s m below meth c hc hr hd ls hl => b_X10_isMissing hc hr hL0 hf hd hl)
theorem my_X10_isMissing : MyV yX10_isMissing "PumpCrossing$Trays" cX10_isMissing 2 (some .boolean) 1 := ⟨tw_1160, tw_1161, tw_8, tw_1162, by decide +kernel⟩
def f_X10_leastPaid (g0 : Nat) (x1 : Int32) (S : St) : Option (Int32) := ck (inb 0 29 = true) (ck (inb x1 13 = true) (some (gi S 55 ((nn 0)) (nn x1))))
set_option maxRecDepth 100000 in
set_option maxHeartbeats 4000000 in
theorem b_X10_leastPaid (hc : Cx p s m args meth c cX10_leastPaid 2 "PumpCrossing$Trays" D cs B0 kt Lv) (hr : meth.sig.returnType = some .int)  {o : Int32}  {S : St} {g0 : Nat} {x1 : Int32} (hL0 : Lv 49 g0) {H : Heap} {locs : List Loc} {ls : Array Slot} (hf : f_X10_leastPaid g0 x1 S = some o) (hd : Dy s D cs B0 α Lv S H locs) (hl : lv_has ls 2 [(0, .ref (α 49 g0)), (1, .int x1)]) : W p l e (Rm 0 0 0) s m args below meth c H locs 0 0 (MQ below (Qi D cs B0 α Lv o S) args s 0 0 (AB B0)) (F0 m 0 ls []) := by
  unfold f_X10_leastPaid at hf
  refine lv_aload_n hc.x hc.b dX10_leastPaid_0 rfl (lv_at hl 0 rfl) ?_
  refine fg_49_3 hc hd hL0 tw_276 dX10_leastPaid_1 ?_
  refine lv_iconst (v := 0) hc.x hc.b dX10_leastPaid_4 (by decide) ?_
  obtain ⟨hi_1, hf⟩ := ck_s hf
  refine r_aald hc hd (cl_49_least hc.cl hL0) (t0 := 6) rfl rfl rfl hi_1 dX10_leastPaid_5 ?_
  show W p l e (Rm 0 0 0) s m args below meth c H locs 0 0 (MQ below (Qi D cs B0 α Lv o S) args s 0 0 (AB B0)) (F0 m 6 ls [.ref (α 55 ((nn 0)))])
  refine lv_iload_n hc.x hc.b dX10_leastPaid_6 rfl (lv_at hl 1 rfl) ?_
  obtain ⟨hi_2, hf⟩ := ck_s hf
  refine r_iald hc hd (cl_54 hc.cl (cl_49_least hc.cl hL0) (inb_lt hi_1)) rfl hi_2 dX10_leastPaid_7 ?_
  cases hf
  exact r_iret hc hd hr dX10_leastPaid_8
theorem c_X10_leastPaid (l : Launch) (D : va_G) (cs : Nat → ClassId) (B0 : Nat) (kt : (Nat → Nat) × (Nat → Nat)) (α : Nat → Nat → Nat) (Lv : Nat → Nat → Prop) (S : St) (g0 : Nat) (x1 : Int32) (hcl : Cl Lv) (hL0 : Lv 49 g0) {o : Int32} (hf : f_X10_leastPaid g0 x1 S = some o) : Met l yX10_leastPaid (wz yX10_leastPaid cX10_leastPaid 2 (some .int)) (Rm 0 0 0) (Pz D cs B0 kt α Lv S [.ref (α 49 g0), .int x1]) (Qi D cs B0 α Lv o S) 0 0 (AB B0) := met_of (by decide) rfl hcl (Nat.le_of_ble_eq_true rfl) (fun p e s m below meth c hc hr hd ls hl => b_X10_leastPaid hc hr hL0 hf hd hl)
theorem my_X10_leastPaid : MyV yX10_leastPaid "PumpCrossing$Trays" cX10_leastPaid 2 (some .int) 1 := ⟨tw_1204, tw_1205, tw_8, tw_1206, by decide +kernel⟩
def f_X10_planDay_44 (g0 : Nat) (x1 : Int32) (x2 : Int32) (x3 : Int32) (x4 : Int32) (K : Int32 → Int32 → St → Option (St)) : Nat → Int32 → Int32 → Int32 → St → Option (St)
  | 0, _, _, _, _ => none
  | n + 1, x6, x7, x8, S => br (x3 < (x2 + x8)) (K x6 x7 S) (ck (inb (x1 + 1) 29 = true) (ck (inb ((x2 + x8) - 1) 13 = true) (bv ((x8 * x4) + (gi S 55 ((nn (x1 + 1))) (nn ((x2 + x8) - 1)))) (fun x9_11 => bv (fun (x6_12 : Int32) (x7_13 : Int32) (S_14 : St) => bv (x8 + 1) (fun x8_16 => f_X10_planDay_44 g0 x1 x2 x3 x4 K n x6_12 x7_13 x8_16 S_14)) (fun J_15 => br (x7 ≤ x9_11) (J_15 x6 x7 S) (J_15 x8 x9_11 S))))))
def f_X10_planDay (g0 : Nat) (x1 : Int32) (x2 : Int32) (x3 : Int32) (x4 : Int32) (S : St) : Option (St) := bv (fun (v_1 : Int32) (S_2 : St) => ck (inb (x1 + 1) 29 = true) (ck (inb ((x2 + v_1) - 1) 13 = true) (bv ((v_1 * x4) + (gi S_2 55 ((nn (x1 + 1))) (nn ((x2 + v_1) - 1)))) (fun x7_6 => bv (v_1 + 1) (fun x8_7 => f_X10_planDay_44 g0 x1 x2 x3 x4 (fun (x6_18 : Int32) (x7_19 : Int32) (S_20 : St) => ck (inb x1 29 = true) (ck (inb x2 13 = true) (bv (si S_20 55 ((nn x1)) (nn x2) x7_19) (fun S_23 => ck (inb x1 28 = true) (ck (inb x2 13 = true) (bv (si S_23 57 ((nn x1)) (nn x2) x6_18) (fun S_26 => some S_26))))))) FU v_1 x7_6 x8_7 S_2))))) (fun J_3 => br (x2 = 0) (J_3 1 S) (J_3 0 S))
set_option maxRecDepth 100000 in
set_option maxHeartbeats 4000000 in
theorem w_X10_planDay_44 (hc : Cx p s m args meth c cX10_planDay 10 "PumpCrossing$Trays" D cs B0 kt Lv) (hr : meth.sig.returnType = none) {o : St}  {g0 : Nat} {x1 : Int32} {x2 : Int32} {x3 : Int32} {x4 : Int32} {K : Int32 → Int32 → St → Option (St)} (hL0 : Lv 49 g0) (hK : ∀ (k6 : Int32) (k7 : Int32) (S : St) (H : Heap) (locs : List Loc) (ls : Array Slot), K k6 k7 S = some o → Dy s D cs B0 α Lv S H locs → lv_has ls 10 [(0, .ref (α 49 g0)), (1, .int x1), (2, .int x2), (6, .int k6), (7, .int k7)] → W p l e (Rm 0 0 0) s m args below meth c H locs 0 0 (MQ below (Qv D cs B0 α Lv o) args s 0 0 (AB B0)) (F0 m 96 ls [])) : ∀ (n : Nat) (x6 : Int32) (x7 : Int32) (x8 : Int32) (S : St) (H : Heap) (locs : List Loc) (ls : Array Slot), f_X10_planDay_44 g0 x1 x2 x3 x4 K n x6 x7 x8 S = some o → Dy s D cs B0 α Lv S H locs → lv_has ls 10 [(0, .ref (α 49 g0)), (1, .int x1), (2, .int x2), (3, .int x3), (4, .int x4), (6, .int x6), (7, .int x7), (8, .int x8)] → W p l e (Rm 0 0 0) s m args below meth c H locs 0 0 (MQ below (Qv D cs B0 α Lv o) args s 0 0 (AB B0)) (F0 m 44 ls []) := by
  intro n
  induction n with
  | zero =>
    intro x6 x7 x8 S H locs ls hf
    rw [f_X10_planDay_44] at hf
    cases hf
  | succ n ih =>
    intro x6 x7 x8 S H locs ls hf hd hl
    rw [f_X10_planDay_44] at hf
    refine lv_iload_n hc.x hc.b dX10_planDay_44 rfl (lv_at hl 2 rfl) ?_
    refine lv_iload hc.x hc.b dX10_planDay_45 (lv_at hl 7 rfl) ?_
    refine lv_iadd hc.x hc.b dX10_planDay_47 ?_
    refine lv_iload_n hc.x hc.b dX10_planDay_48 rfl (lv_at hl 3 rfl) ?_
    refine lv_icmp_gt (tgt := 96) hc.x hc.b dX10_planDay_49 (by decide) (fun c_8 => ?_) (fun c_8 => ?_)
    · have hf := br_y c_8 hf
      exact hK x6 x7 S _ _ _ hf hd (lv_sub hl [0, 1, 2, 5, 6] rfl)
    · have hf := br_n c_8 hf
      refine lv_iload hc.x hc.b dX10_planDay_52 (lv_at hl 7 rfl) ?_
      refine lv_iload hc.x hc.b dX10_planDay_54 (lv_at hl 4 rfl) ?_
      refine lv_imul hc.x hc.b dX10_planDay_56 ?_
      refine lv_aload_n hc.x hc.b dX10_planDay_57 rfl (lv_at hl 0 rfl) ?_
      refine fg_49_3 hc hd hL0 tw_276 dX10_planDay_58 ?_
      refine lv_iload_n hc.x hc.b dX10_planDay_61 rfl (lv_at hl 1 rfl) ?_
      refine lv_iconst (v := 1) hc.x hc.b dX10_planDay_62 (by decide) ?_
      refine lv_iadd hc.x hc.b dX10_planDay_63 ?_
      obtain ⟨hi_9, hf⟩ := ck_s hf
      refine r_aald hc hd (cl_49_least hc.cl hL0) (t0 := 6) rfl rfl rfl hi_9 dX10_planDay_64 ?_
      show W p l e (Rm 0 0 0) s m args below meth c H locs 0 0 (MQ below (Qv D cs B0 α Lv o) args s 0 0 (AB B0)) (F0 m 65 ls [.ref (α 55 ((nn (x1 + 1)))), .int (x8 * x4)])
      refine lv_iload_n hc.x hc.b dX10_planDay_65 rfl (lv_at hl 2 rfl) ?_
      refine lv_iload hc.x hc.b dX10_planDay_66 (lv_at hl 7 rfl) ?_
      refine lv_iadd hc.x hc.b dX10_planDay_68 ?_
      refine lv_iconst (v := 1) hc.x hc.b dX10_planDay_69 (by decide) ?_
      refine lv_isub hc.x hc.b dX10_planDay_70 ?_
      obtain ⟨hi_10, hf⟩ := ck_s hf
      refine r_iald hc hd (cl_54 hc.cl (cl_49_least hc.cl hL0) (inb_lt hi_9)) rfl hi_10 dX10_planDay_71 ?_
      refine lv_iadd hc.x hc.b dX10_planDay_72 ?_
      refine lv_topi (fun x9_11 ex9_11 => ?_)
      have hf := bv_n ex9_11 hf
      refine lv_istore (lv' := [(9, .int x9_11), (0, .ref (α 49 g0)), (1, .int x1), (2, .int x2), (3, .int x3), (4, .int x4), (6, .int x6), (7, .int x7), (8, .int x8)]) hc.x hc.b dX10_planDay_73 hl (by decide) rfl (fun ls hl => ?_)
      refine lv_iload hc.x hc.b dX10_planDay_75 (lv_at hl 0 rfl) ?_
      refine lv_iload hc.x hc.b dX10_planDay_77 (lv_at hl 7 rfl) ?_
      refine jn_s (P := fun J_15 => ∀ (x6_12 : Int32) (x7_13 : Int32) (S_14 : St) (H : Heap) (locs : List Loc) (ls : Array Slot), J_15 x6_12 x7_13 S_14 = some o → Dy s D cs B0 α Lv S_14 H locs → lv_has ls 10 [(0, .ref (α 49 g0)), (1, .int x1), (2, .int x2), (3, .int x3), (4, .int x4), (6, .int x6_12), (7, .int x7_13), (8, .int x8)] → W p l e (Rm 0 0 0) s m args below meth c H locs 0 0 (MQ below (Qv D cs B0 α Lv o) args s 0 0 (AB B0)) (F0 m 90 ls [])) hf ?_ (fun J_15 hJ_15 hf => ?_)
      · intro x6_12 x7_13 S_14 H locs ls hf hd hl
        obtain ⟨x8_16, ex8_16⟩ : ∃ z : Int32, z = x8 + 1 := ⟨_, rfl⟩
        have hf := bv_n ex8_16 hf
        refine lv_iinc (v := x8_16) (lv' := [(8, .int x8_16), (0, .ref (α 49 g0)), (1, .int x1), (2, .int x2), (3, .int x3), (4, .int x4), (6, .int x6_12), (7, .int x7_13)]) hc.x hc.b dX10_planDay_90 hl (k := 7) rfl (by rw [ex8_16]; rfl) (by decide) rfl (fun ls hl => ?_)
        refine lv_goto (tgt := 44) hc.x hc.b dX10_planDay_93 (by decide) ?_
        exact ih x6_12 x7_13 x8_16 S_14 _ _ _ hf hd (lv_sub hl [1, 2, 3, 4, 5, 6, 7, 0] rfl)
      refine lv_icmp_ge (tgt := 90) hc.x hc.b dX10_planDay_79 (by decide) (fun c_17 => ?_) (fun c_17 => ?_)
      · have hf := br_y c_17 hf
        exact hJ_15 x6 x7 S _ _ _ hf hd (lv_sub hl [1, 2, 3, 4, 5, 6, 7, 8] rfl)
      · have hf := br_n c_17 hf
        refine lv_iload hc.x hc.b dX10_planDay_82 (lv_at hl 8 rfl) ?_
        refine lv_istore (lv' := [(6, .int x8), (9, .int x9_11), (0, .ref (α 49 g0)), (1, .int x1), (2, .int x2), (3, .int x3), (4, .int x4), (7, .int x7), (8, .int x8)]) hc.x hc.b dX10_planDay_84 hl (by decide) rfl (fun ls hl => ?_)
        refine lv_iload hc.x hc.b dX10_planDay_86 (lv_at hl 1 rfl) ?_
        refine lv_istore (lv' := [(7, .int x9_11), (6, .int x8), (9, .int x9_11), (0, .ref (α 49 g0)), (1, .int x1), (2, .int x2), (3, .int x3), (4, .int x4), (8, .int x8)]) hc.x hc.b dX10_planDay_88 hl (by decide) rfl (fun ls hl => ?_)
        exact hJ_15 x8 x9_11 S _ _ _ hf hd (lv_sub hl [3, 4, 5, 6, 7, 1, 0, 8] rfl)
set_option maxRecDepth 100000 in
set_option maxHeartbeats 4000000 in
theorem b_X10_planDay (hc : Cx p s m args meth c cX10_planDay 10 "PumpCrossing$Trays" D cs B0 kt Lv) (hr : meth.sig.returnType = none)  {o : St}  {S : St} {g0 : Nat} {x1 : Int32} {x2 : Int32} {x3 : Int32} {x4 : Int32} (hL0 : Lv 49 g0) {H : Heap} {locs : List Loc} {ls : Array Slot} (hf : f_X10_planDay g0 x1 x2 x3 x4 S = some o) (hd : Dy s D cs B0 α Lv S H locs) (hl : lv_has ls 10 [(0, .ref (α 49 g0)), (1, .int x1), (2, .int x2), (3, .int x3), (4, .int x4)]) : W p l e (Rm 0 0 0) s m args below meth c H locs 0 0 (MQ below (Qv D cs B0 α Lv o) args s 0 0 (AB B0)) (F0 m 0 ls []) := by
  unfold f_X10_planDay at hf
  refine lv_iload_n hc.x hc.b dX10_planDay_0 rfl (lv_at hl 2 rfl) ?_
  refine jn_s (P := fun J_3 => ∀ (v_1 : Int32) (S_2 : St) (H : Heap) (locs : List Loc) (ls : Array Slot), J_3 v_1 S_2 = some o → Dy s D cs B0 α Lv S_2 H locs → lv_has ls 10 [(0, .ref (α 49 g0)), (1, .int x1), (2, .int x2), (3, .int x3), (4, .int x4)] → W p l e (Rm 0 0 0) s m args below meth c H locs 0 0 (MQ below (Qv D cs B0 α Lv o) args s 0 0 (AB B0)) (F0 m 9 ls [.int v_1])) hf ?_ (fun J_3 hJ_3 hf => ?_)
  · intro v_1 S_2 H locs ls hf hd hl
    refine lv_istore (lv' := [(5, .int v_1), (0, .ref (α 49 g0)), (1, .int x1), (2, .int x2), (3, .int x3), (4, .int x4)]) hc.x hc.b dX10_planDay_9 hl (by decide) rfl (fun ls hl => ?_)
    refine lv_iload hc.x hc.b dX10_planDay_11 (lv_at hl 0 rfl) ?_
    refine lv_istore (lv' := [(6, .int v_1), (5, .int v_1), (0, .ref (α 49 g0)), (1, .int x1), (2, .int x2), (3, .int x3), (4, .int x4)]) hc.x hc.b dX10_planDay_13 hl (by decide) rfl (fun ls hl => ?_)
    refine lv_iload hc.x hc.b dX10_planDay_15 (lv_at hl 1 rfl) ?_
    refine lv_iload hc.x hc.b dX10_planDay_17 (lv_at hl 6 rfl) ?_
    refine lv_imul hc.x hc.b dX10_planDay_19 ?_
    refine lv_aload_n hc.x hc.b dX10_planDay_20 rfl (lv_at hl 2 rfl) ?_
    refine fg_49_3 hc hd hL0 tw_276 dX10_planDay_21 ?_
    refine lv_iload_n hc.x hc.b dX10_planDay_24 rfl (lv_at hl 3 rfl) ?_
    refine lv_iconst (v := 1) hc.x hc.b dX10_planDay_25 (by decide) ?_
    refine lv_iadd hc.x hc.b dX10_planDay_26 ?_
    obtain ⟨hi_4, hf⟩ := ck_s hf
    refine r_aald hc hd (cl_49_least hc.cl hL0) (t0 := 6) rfl rfl rfl hi_4 dX10_planDay_27 ?_
    show W p l e (Rm 0 0 0) s m args below meth c H locs 0 0 (MQ below (Qv D cs B0 α Lv o) args s 0 0 (AB B0)) (F0 m 28 ls [.ref (α 55 ((nn (x1 + 1)))), .int (v_1 * x4)])
    refine lv_iload_n hc.x hc.b dX10_planDay_28 rfl (lv_at hl 4 rfl) ?_
    refine lv_iload hc.x hc.b dX10_planDay_29 (lv_at hl 1 rfl) ?_
    refine lv_iadd hc.x hc.b dX10_planDay_31 ?_
    refine lv_iconst (v := 1) hc.x hc.b dX10_planDay_32 (by decide) ?_
    refine lv_isub hc.x hc.b dX10_planDay_33 ?_
    obtain ⟨hi_5, hf⟩ := ck_s hf
    refine r_iald hc hd (cl_54 hc.cl (cl_49_least hc.cl hL0) (inb_lt hi_4)) rfl hi_5 dX10_planDay_34 ?_
    refine lv_iadd hc.x hc.b dX10_planDay_35 ?_
    refine lv_topi (fun x7_6 ex7_6 => ?_)
    have hf := bv_n ex7_6 hf
    refine lv_istore (lv' := [(7, .int x7_6), (6, .int v_1), (5, .int v_1), (0, .ref (α 49 g0)), (1, .int x1), (2, .int x2), (3, .int x3), (4, .int x4)]) hc.x hc.b dX10_planDay_36 hl (by decide) rfl (fun ls hl => ?_)
    refine lv_iload hc.x hc.b dX10_planDay_38 (lv_at hl 2 rfl) ?_
    refine lv_iconst (v := 1) hc.x hc.b dX10_planDay_40 (by decide) ?_
    refine lv_iadd hc.x hc.b dX10_planDay_41 ?_
    refine lv_topi (fun x8_7 ex8_7 => ?_)
    have hf := bv_n ex8_7 hf
    refine lv_istore (lv' := [(8, .int x8_7), (7, .int x7_6), (6, .int v_1), (5, .int v_1), (0, .ref (α 49 g0)), (1, .int x1), (2, .int x2), (3, .int x3), (4, .int x4)]) hc.x hc.b dX10_planDay_42 hl (by decide) rfl (fun ls hl => ?_)
    refine w_X10_planDay_44 hc hr hL0 ?_ _ _ _ _ _ _ _ _ hf hd (lv_sub hl [4, 5, 6, 7, 8, 2, 1, 0] rfl)
    intro x6_18 x7_19 S_20 H locs ls hf hd hl
    refine lv_aload_n hc.x hc.b dX10_planDay_96 rfl (lv_at hl 0 rfl) ?_
    refine fg_49_3 hc hd hL0 tw_276 dX10_planDay_97 ?_
    refine lv_iload_n hc.x hc.b dX10_planDay_100 rfl (lv_at hl 1 rfl) ?_
    obtain ⟨hi_21, hf⟩ := ck_s hf
    refine r_aald hc hd (cl_49_least hc.cl hL0) (t0 := 6) rfl rfl rfl hi_21 dX10_planDay_101 ?_
    show W p l e (Rm 0 0 0) s m args below meth c H locs 0 0 (MQ below (Qv D cs B0 α Lv o) args s 0 0 (AB B0)) (F0 m 102 ls [.ref (α 55 ((nn x1)))])
    refine lv_iload_n hc.x hc.b dX10_planDay_102 rfl (lv_at hl 2 rfl) ?_
    refine lv_iload hc.x hc.b dX10_planDay_103 (lv_at hl 4 rfl) ?_
    obtain ⟨hi_22, hf⟩ := ck_s hf
    refine r_iast hc hd (cl_54 hc.cl (cl_49_least hc.cl hL0) (inb_lt hi_21)) (fun _ => rfl) hi_22 dX10_planDay_105 (fun H locs hd => ?_)
    obtain ⟨S_23, hd, hf⟩ := nmD hd hf
    refine lv_aload_n hc.x hc.b dX10_planDay_106 rfl (lv_at hl 0 rfl) ?_
    refine fg_49_4 hc hd hL0 tw_277 dX10_planDay_107 ?_
    refine lv_iload_n hc.x hc.b dX10_planDay_110 rfl (lv_at hl 1 rfl) ?_
    obtain ⟨hi_24, hf⟩ := ck_s hf
    refine r_aald hc hd (cl_49_filled hc.cl hL0) (t0 := 6) rfl rfl rfl hi_24 dX10_planDay_111 ?_
    show W p l e (Rm 0 0 0) s m args below meth c H locs 0 0 (MQ below (Qv D cs B0 α Lv o) args s 0 0 (AB B0)) (F0 m 112 ls [.ref (α 57 ((nn x1)))])
    refine lv_iload_n hc.x hc.b dX10_planDay_112 rfl (lv_at hl 2 rfl) ?_
    refine lv_iload hc.x hc.b dX10_planDay_113 (lv_at hl 3 rfl) ?_
    obtain ⟨hi_25, hf⟩ := ck_s hf
    refine r_iast hc hd (cl_56 hc.cl (cl_49_filled hc.cl hL0) (inb_lt hi_24)) (fun _ => rfl) hi_25 dX10_planDay_115 (fun H locs hd => ?_)
    obtain ⟨S_26, hd, hf⟩ := nmD hd hf
    cases hf
    exact r_vret hc hd hr dX10_planDay_116
  refine lv_if_ne (tgt := 8) hc.x hc.b dX10_planDay_1 (by decide) (fun c_27 => ?_) (fun c_27 => ?_)
  · have hf := br_n c_27 hf
    refine lv_iconst (v := 0) hc.x hc.b dX10_planDay_8 (by decide) ?_
    exact hJ_3 0 S _ _ _ hf hd (lv_sub hl [0, 1, 2, 3, 4] rfl)
  · have hf := br_y c_27 hf
    refine lv_iconst (v := 1) hc.x hc.b dX10_planDay_4 (by decide) ?_
    refine lv_goto (tgt := 9) hc.x hc.b dX10_planDay_5 (by decide) ?_
    exact hJ_3 1 S _ _ _ hf hd (lv_sub hl [0, 1, 2, 3, 4] rfl)
theorem c_X10_planDay (l : Launch) (D : va_G) (cs : Nat → ClassId) (B0 : Nat) (kt : (Nat → Nat) × (Nat → Nat)) (α : Nat → Nat → Nat) (Lv : Nat → Nat → Prop) (S : St) (g0 : Nat) (x1 : Int32) (x2 : Int32) (x3 : Int32) (x4 : Int32) (hcl : Cl Lv) (hL0 : Lv 49 g0) {o : St} (hf : f_X10_planDay g0 x1 x2 x3 x4 S = some o) : Met l yX10_planDay (wz yX10_planDay cX10_planDay 10 none) (Rm 0 0 0) (Pz D cs B0 kt α Lv S [.ref (α 49 g0), .int x1, .int x2, .int x3, .int x4]) (Qv D cs B0 α Lv o) 0 0 (AB B0) := met_of (by decide) rfl hcl (Nat.le_of_ble_eq_true rfl) (fun p e s m below meth c hc hr hd ls hl => b_X10_planDay hc hr hL0 hf hd hl)
theorem my_X10_planDay : MyV yX10_planDay "PumpCrossing$Trays" cX10_planDay 10 none 4 := ⟨tw_1201, (in_sel 33 (by decide +kernel) (by decide +kernel)), tw_8, tw_1202, by decide +kernel⟩
def f_X10_planFilling_10 (g0 : Nat) (x1 : Int32) (x2 : Int32) (x3 : Int32) (K : St → Option (St)) : Nat → Int32 → St → Option (St)
  | 0, _, _ => none
  | n + 1, x4, S => br (x2 < x4) (K S) (ck (inb x3 29 = true) (ck (inb x4 13 = true) (bv (si S 55 ((nn x3)) (nn x4) 0) (fun S_6 => bv (x4 + 1) (fun x4_7 => f_X10_planFilling_10 g0 x1 x2 x3 K n x4_7 S_6)))))
def f_X10_planFilling_45 (g0 : Nat) (x1 : Int32) (x2 : Int32) (x4 : Int32) (K : St → Option (St)) : Nat → Int32 → St → Option (St)
  | 0, _, _ => none
  | n + 1, x5, S => br (x2 < x5) (K S) (ck (inb x1 4 = true) (ck (inb x4 28 = true) (on (f_X10_planDay g0 x4 x5 x2 (Int64.toInt32 (gl S 53 ((nn x1)) (nn x4))) S) (fun S_15 => bv (x5 + 1) (fun x5_16 => f_X10_planFilling_45 g0 x1 x2 x4 K n x5_16 S_15)))))
def f_X10_planFilling_37 (g0 : Nat) (x1 : Int32) (x2 : Int32) (K : St → Option (St)) : Nat → Int32 → St → Option (St)
  | 0, _, _ => none
  | n + 1, x4, S => br (x4 < 0) (K S) (f_X10_planFilling_45 g0 x1 x2 x4 (fun  (S_17 : St) => bv (x4 + (-1)) (fun x4_18 => f_X10_planFilling_37 g0 x1 x2 K n x4_18 S_17)) FU 0 S)
def f_X10_planFilling (g0 : Nat) (x1 : Int32) (x2 : Int32) (S : St) : Option (St) := ck (inb x1 4 = true) (bv (gi S 51 g0 (nn x1)) (fun x3_2 => f_X10_planFilling_10 g0 x1 x2 x3_2 (fun  (S_8 : St) => bv (x3_2 - 1) (fun x4_9 => f_X10_planFilling_37 g0 x1 x2 (fun  (S_19 : St) => some S_19) FU x4_9 S_8)) FU 0 S))
set_option maxRecDepth 100000 in
set_option maxHeartbeats 4000000 in
theorem w_X10_planFilling_10 (hc : Cx p s m args meth c cX10_planFilling 6 "PumpCrossing$Trays" D cs B0 kt Lv) (hr : meth.sig.returnType = none) {o : St}  {g0 : Nat} {x1 : Int32} {x2 : Int32} {x3 : Int32} {K : St → Option (St)} (hL0 : Lv 49 g0) (hK : ∀  (S : St) (H : Heap) (locs : List Loc) (ls : Array Slot), K S = some o → Dy s D cs B0 α Lv S H locs → lv_has ls 6 [(0, .ref (α 49 g0)), (1, .int x1), (2, .int x2), (3, .int x3)] → W p l e (Rm 1 0 0) s m args below meth c H locs 0 0 (MQ below (Qv D cs B0 α Lv o) args s 0 0 (AB B0)) (F0 m 32 ls [])) : ∀ (n : Nat) (x4 : Int32) (S : St) (H : Heap) (locs : List Loc) (ls : Array Slot), f_X10_planFilling_10 g0 x1 x2 x3 K n x4 S = some o → Dy s D cs B0 α Lv S H locs → lv_has ls 6 [(0, .ref (α 49 g0)), (1, .int x1), (2, .int x2), (3, .int x3), (4, .int x4)] → W p l e (Rm 1 0 0) s m args below meth c H locs 0 0 (MQ below (Qv D cs B0 α Lv o) args s 0 0 (AB B0)) (F0 m 10 ls []) := by
  intro n
  induction n with
  | zero =>
    intro x4 S H locs ls hf
    rw [f_X10_planFilling_10] at hf
    cases hf
  | succ n ih =>
    intro x4 S H locs ls hf hd hl
    rw [f_X10_planFilling_10] at hf
    refine lv_iload hc.x hc.b dX10_planFilling_10 (lv_at hl 4 rfl) ?_
    refine lv_iload_n hc.x hc.b dX10_planFilling_12 rfl (lv_at hl 2 rfl) ?_
    refine lv_icmp_gt (tgt := 32) hc.x hc.b dX10_planFilling_13 (by decide) (fun c_3 => ?_) (fun c_3 => ?_)
    · have hf := br_y c_3 hf
      exact hK S _ _ _ hf hd (lv_sub hl [0, 1, 2, 3] rfl)
    · have hf := br_n c_3 hf
      refine lv_aload_n hc.x hc.b dX10_planFilling_16 rfl (lv_at hl 0 rfl) ?_
      refine fg_49_3 hc hd hL0 tw_276 dX10_planFilling_17 ?_
      refine lv_iload_n hc.x hc.b dX10_planFilling_20 rfl (lv_at hl 3 rfl) ?_
      obtain ⟨hi_4, hf⟩ := ck_s hf
      refine r_aald hc hd (cl_49_least hc.cl hL0) (t0 := 6) rfl rfl rfl hi_4 dX10_planFilling_21 ?_
      show W p l e (Rm 1 0 0) s m args below meth c H locs 0 0 (MQ below (Qv D cs B0 α Lv o) args s 0 0 (AB B0)) (F0 m 22 ls [.ref (α 55 ((nn x3)))])
      refine lv_iload hc.x hc.b dX10_planFilling_22 (lv_at hl 4 rfl) ?_
      refine lv_iconst (v := 0) hc.x hc.b dX10_planFilling_24 (by decide) ?_
      obtain ⟨hi_5, hf⟩ := ck_s hf
      refine r_iast hc hd (cl_54 hc.cl (cl_49_least hc.cl hL0) (inb_lt hi_4)) (fun _ => rfl) hi_5 dX10_planFilling_25 (fun H locs hd => ?_)
      obtain ⟨S_6, hd, hf⟩ := nmD hd hf
      obtain ⟨x4_7, ex4_7⟩ : ∃ z : Int32, z = x4 + 1 := ⟨_, rfl⟩
      have hf := bv_n ex4_7 hf
      refine lv_iinc (v := x4_7) (lv' := [(4, .int x4_7), (0, .ref (α 49 g0)), (1, .int x1), (2, .int x2), (3, .int x3)]) hc.x hc.b dX10_planFilling_26 hl (k := 4) rfl (by rw [ex4_7]; rfl) (by decide) rfl (fun ls hl => ?_)
      refine lv_goto (tgt := 10) hc.x hc.b dX10_planFilling_29 (by decide) ?_
      exact ih x4_7 S_6 _ _ _ hf hd (lv_sub hl [1, 2, 3, 4, 0] rfl)
set_option maxRecDepth 100000 in
set_option maxHeartbeats 4000000 in
theorem w_X10_planFilling_45 (hc : Cx p s m args meth c cX10_planFilling 6 "PumpCrossing$Trays" D cs B0 kt Lv) (hr : meth.sig.returnType = none) {o : St}  {g0 : Nat} {x1 : Int32} {x2 : Int32} {x4 : Int32} {K : St → Option (St)} (hL0 : Lv 49 g0) (hK : ∀  (S : St) (H : Heap) (locs : List Loc) (ls : Array Slot), K S = some o → Dy s D cs B0 α Lv S H locs → lv_has ls 6 [(0, .ref (α 49 g0)), (1, .int x1), (2, .int x2), (4, .int x4)] → W p l e (Rm 1 0 0) s m args below meth c H locs 0 0 (MQ below (Qv D cs B0 α Lv o) args s 0 0 (AB B0)) (F0 m 76 ls [])) : ∀ (n : Nat) (x5 : Int32) (S : St) (H : Heap) (locs : List Loc) (ls : Array Slot), f_X10_planFilling_45 g0 x1 x2 x4 K n x5 S = some o → Dy s D cs B0 α Lv S H locs → lv_has ls 6 [(0, .ref (α 49 g0)), (1, .int x1), (2, .int x2), (4, .int x4), (5, .int x5)] → W p l e (Rm 1 0 0) s m args below meth c H locs 0 0 (MQ below (Qv D cs B0 α Lv o) args s 0 0 (AB B0)) (F0 m 45 ls []) := by
  intro n
  induction n with
  | zero =>
    intro x5 S H locs ls hf
    rw [f_X10_planFilling_45] at hf
    cases hf
  | succ n ih =>
    intro x5 S H locs ls hf hd hl
    rw [f_X10_planFilling_45] at hf
    refine lv_iload hc.x hc.b dX10_planFilling_45 (lv_at hl 4 rfl) ?_
    refine lv_iload_n hc.x hc.b dX10_planFilling_47 rfl (lv_at hl 2 rfl) ?_
    refine lv_icmp_gt (tgt := 76) hc.x hc.b dX10_planFilling_48 (by decide) (fun c_11 => ?_) (fun c_11 => ?_)
    · have hf := br_y c_11 hf
      exact hK S _ _ _ hf hd (lv_sub hl [0, 1, 2, 3] rfl)
    · have hf := br_n c_11 hf
      refine lv_aload_n hc.x hc.b dX10_planFilling_51 rfl (lv_at hl 0 rfl) ?_
      refine lv_iload hc.x hc.b dX10_planFilling_52 (lv_at hl 3 rfl) ?_
      refine lv_iload hc.x hc.b dX10_planFilling_54 (lv_at hl 4 rfl) ?_
      refine lv_iload_n hc.x hc.b dX10_planFilling_56 rfl (lv_at hl 2 rfl) ?_
      refine lv_aload_n hc.x hc.b dX10_planFilling_57 rfl (lv_at hl 0 rfl) ?_
      refine fg_49_2 hc hd hL0 tw_274 dX10_planFilling_58 ?_
      refine lv_iload_n hc.x hc.b dX10_planFilling_61 rfl (lv_at hl 1 rfl) ?_
      obtain ⟨hi_12, hf⟩ := ck_s hf
      refine r_aald hc hd (cl_49_numbers hc.cl hL0) (t0 := 7) rfl rfl rfl hi_12 dX10_planFilling_62 ?_
      show W p l e (Rm 1 0 0) s m args below meth c H locs 0 0 (MQ below (Qv D cs B0 α Lv o) args s 0 0 (AB B0)) (F0 m 63 ls [.ref (α 53 ((nn x1))), .int x2, .int x5, .int x4, .ref (α 49 g0)])
      refine lv_iload hc.x hc.b dX10_planFilling_63 (lv_at hl 3 rfl) ?_
      obtain ⟨hi_13, hf⟩ := ck_s hf
      refine r_lald hc hd (cl_52 hc.cl (cl_49_numbers hc.cl hL0) (inb_lt hi_12)) rfl hi_13 dX10_planFilling_65 ?_
      refine lv_l2i (v := Int64.toInt32 (gl S 53 ((nn x1)) (nn x4))) hc.x hc.b dX10_planFilling_66 rfl ?_
      obtain ⟨S_15, hq_14, hf⟩ := on_s hf
      refine k_v (k_runV hc hd my_X10_planDay tw_1199 hL0 rfl rfl rfl (c_X10_planDay l D cs B0 kt α Lv S g0 x4 x5 x2 (Int64.toInt32 (gl S 53 ((nn x1)) (nn x4))) hc.cl hL0  hq_14) rfl rfl hl.1 (Nat.le_of_ble_eq_true rfl) ⟨Nat.le_of_ble_eq_true rfl, Nat.le_of_ble_eq_true rfl, Nat.zero_le _, Nat.zero_le _⟩ dX10_planFilling_67) hd (fun H locs hd => ?_)
      obtain ⟨x5_16, ex5_16⟩ : ∃ z : Int32, z = x5 + 1 := ⟨_, rfl⟩
      have hf := bv_n ex5_16 hf
      refine lv_iinc (v := x5_16) (lv' := [(5, .int x5_16), (0, .ref (α 49 g0)), (1, .int x1), (2, .int x2), (4, .int x4)]) hc.x hc.b dX10_planFilling_70 hl (k := 4) rfl (by rw [ex5_16]; rfl) (by decide) rfl (fun ls hl => ?_)
      refine lv_goto (tgt := 45) hc.x hc.b dX10_planFilling_73 (by decide) ?_
      exact ih x5_16 S_15 _ _ _ hf hd (lv_sub hl [1, 2, 3, 4, 0] rfl)
set_option maxRecDepth 100000 in
set_option maxHeartbeats 4000000 in
theorem w_X10_planFilling_37 (hc : Cx p s m args meth c cX10_planFilling 6 "PumpCrossing$Trays" D cs B0 kt Lv) (hr : meth.sig.returnType = none) {o : St}  {g0 : Nat} {x1 : Int32} {x2 : Int32} {K : St → Option (St)} (hL0 : Lv 49 g0) (hK : ∀  (S : St) (H : Heap) (locs : List Loc) (ls : Array Slot), K S = some o → Dy s D cs B0 α Lv S H locs → lv_has ls 6 [] → W p l e (Rm 1 0 0) s m args below meth c H locs 0 0 (MQ below (Qv D cs B0 α Lv o) args s 0 0 (AB B0)) (F0 m 82 ls [])) : ∀ (n : Nat) (x4 : Int32) (S : St) (H : Heap) (locs : List Loc) (ls : Array Slot), f_X10_planFilling_37 g0 x1 x2 K n x4 S = some o → Dy s D cs B0 α Lv S H locs → lv_has ls 6 [(0, .ref (α 49 g0)), (1, .int x1), (2, .int x2), (4, .int x4)] → W p l e (Rm 1 0 0) s m args below meth c H locs 0 0 (MQ below (Qv D cs B0 α Lv o) args s 0 0 (AB B0)) (F0 m 37 ls []) := by
  intro n
  induction n with
  | zero =>
    intro x4 S H locs ls hf
    rw [f_X10_planFilling_37] at hf
    cases hf
  | succ n ih =>
    intro x4 S H locs ls hf hd hl
    rw [f_X10_planFilling_37] at hf
    refine lv_iload hc.x hc.b dX10_planFilling_37 (lv_at hl 3 rfl) ?_
    refine lv_if_lt (tgt := 82) hc.x hc.b dX10_planFilling_39 (by decide) (fun c_10 => ?_) (fun c_10 => ?_)
    · have hf := br_y c_10 hf
      exact hK S _ _ _ hf hd (lv_sub hl [] rfl)
    · have hf := br_n c_10 hf
      refine lv_iconst (v := 0) hc.x hc.b dX10_planFilling_42 (by decide) ?_
      refine lv_istore (lv' := [(5, .int 0), (0, .ref (α 49 g0)), (1, .int x1), (2, .int x2), (4, .int x4)]) hc.x hc.b dX10_planFilling_43 hl (by decide) rfl (fun ls hl => ?_)
      refine w_X10_planFilling_45 hc hr hL0 ?_ _ _ _ _ _ _ hf hd (lv_sub hl [1, 2, 3, 4, 0] rfl)
      intro S_17 H locs ls hf hd hl
      obtain ⟨x4_18, ex4_18⟩ : ∃ z : Int32, z = x4 + (-1) := ⟨_, rfl⟩
      have hf := bv_n ex4_18 hf
      refine lv_iinc (v := x4_18) (lv' := [(4, .int x4_18), (0, .ref (α 49 g0)), (1, .int x1), (2, .int x2)]) hc.x hc.b dX10_planFilling_76 hl (k := 3) rfl (by rw [ex4_18]; rfl) (by decide) rfl (fun ls hl => ?_)
      refine lv_goto (tgt := 37) hc.x hc.b dX10_planFilling_79 (by decide) ?_
      exact ih x4_18 S_17 _ _ _ hf hd (lv_sub hl [1, 2, 3, 0] rfl)
set_option maxRecDepth 100000 in
set_option maxHeartbeats 4000000 in
theorem b_X10_planFilling (hc : Cx p s m args meth c cX10_planFilling 6 "PumpCrossing$Trays" D cs B0 kt Lv) (hr : meth.sig.returnType = none)  {o : St}  {S : St} {g0 : Nat} {x1 : Int32} {x2 : Int32} (hL0 : Lv 49 g0) {H : Heap} {locs : List Loc} {ls : Array Slot} (hf : f_X10_planFilling g0 x1 x2 S = some o) (hd : Dy s D cs B0 α Lv S H locs) (hl : lv_has ls 6 [(0, .ref (α 49 g0)), (1, .int x1), (2, .int x2)]) : W p l e (Rm 1 0 0) s m args below meth c H locs 0 0 (MQ below (Qv D cs B0 α Lv o) args s 0 0 (AB B0)) (F0 m 0 ls []) := by
  unfold f_X10_planFilling at hf
  refine lv_aload_n hc.x hc.b dX10_planFilling_0 rfl (lv_at hl 0 rfl) ?_
  refine fg_49_1 hc hd hL0 tw_272 dX10_planFilling_1 ?_
  refine lv_iload_n hc.x hc.b dX10_planFilling_4 rfl (lv_at hl 1 rfl) ?_
  obtain ⟨hi_1, hf⟩ := ck_s hf
  refine r_iald hc hd (cl_49_lengths hc.cl hL0) rfl hi_1 dX10_planFilling_5 ?_
  refine lv_topi (fun x3_2 ex3_2 => ?_)
  have hf := bv_n ex3_2 hf
  refine lv_istore_n (lv' := [(3, .int x3_2), (0, .ref (α 49 g0)), (1, .int x1), (2, .int x2)]) hc.x hc.b dX10_planFilling_6 rfl hl (by decide) rfl (fun ls hl => ?_)
  refine lv_iconst (v := 0) hc.x hc.b dX10_planFilling_7 (by decide) ?_
  refine lv_istore (lv' := [(4, .int 0), (3, .int x3_2), (0, .ref (α 49 g0)), (1, .int x1), (2, .int x2)]) hc.x hc.b dX10_planFilling_8 hl (by decide) rfl (fun ls hl => ?_)
  refine w_X10_planFilling_10 hc hr hL0 ?_ _ _ _ _ _ _ hf hd (lv_sub hl [2, 3, 4, 1, 0] rfl)
  intro S_8 H locs ls hf hd hl
  refine lv_iload_n hc.x hc.b dX10_planFilling_32 rfl (lv_at hl 3 rfl) ?_
  refine lv_iconst (v := 1) hc.x hc.b dX10_planFilling_33 (by decide) ?_
  refine lv_isub hc.x hc.b dX10_planFilling_34 ?_
  refine lv_topi (fun x4_9 ex4_9 => ?_)
  have hf := bv_n ex4_9 hf
  refine lv_istore (lv' := [(4, .int x4_9), (0, .ref (α 49 g0)), (1, .int x1), (2, .int x2), (3, .int x3_2)]) hc.x hc.b dX10_planFilling_35 hl (by decide) rfl (fun ls hl => ?_)
  refine w_X10_planFilling_37 hc hr hL0 ?_ _ _ _ _ _ _ hf hd (lv_sub hl [1, 2, 3, 0] rfl)
  intro S_19 H locs ls hf hd hl
  cases hf
  exact r_vret hc hd hr dX10_planFilling_82
theorem c_X10_planFilling (l : Launch) (D : va_G) (cs : Nat → ClassId) (B0 : Nat) (kt : (Nat → Nat) × (Nat → Nat)) (α : Nat → Nat → Nat) (Lv : Nat → Nat → Prop) (S : St) (g0 : Nat) (x1 : Int32) (x2 : Int32) (hcl : Cl Lv) (hL0 : Lv 49 g0) {o : St} (hf : f_X10_planFilling g0 x1 x2 S = some o) : Met l yX10_planFilling (wz yX10_planFilling cX10_planFilling 6 none) (Rm 1 0 0) (Pz D cs B0 kt α Lv S [.ref (α 49 g0), .int x1, .int x2]) (Qv D cs B0 α Lv o) 0 0 (AB B0) := met_of (by decide) rfl hcl (Nat.le_of_ble_eq_true rfl) (fun p e s m below meth c hc hr hd ls hl => b_X10_planFilling hc hr hL0 hf hd hl)
theorem my_X10_planFilling : MyV yX10_planFilling "PumpCrossing$Trays" cX10_planFilling 6 none 2 := ⟨tw_1196, tw_1197, tw_8, tw_1198, by decide +kernel⟩
def f_X10_put (g0 : Nat) (x1 : Int32) (x2 : Int32) (x3 : Int64) (S : St) : Option (Int64 × St) := ck (inb x1 4 = true) (ck (inb x1 4 = true) (on (f_X10_cut (gi S 50 g0 (nn x1)) x3 S) (fun r_4 => ck (inb x2 28 = true) (bv (sl S 53 ((nn x1)) (nn x2) r_4) (fun S_6 => ck (inb x1 4 = true) (ck (inb x2 28 = true) (some (gl S_6 53 ((nn x1)) (nn x2), S_6))))))))
set_option maxRecDepth 100000 in
set_option maxHeartbeats 4000000 in
theorem b_X10_put (hc : Cx p s m args meth c cX10_put 5 "PumpCrossing$Trays" D cs B0 kt Lv) (hr : meth.sig.returnType = some .long)  {o : Int64 × St}  {S : St} {g0 : Nat} {x1 : Int32} {x2 : Int32} {x3 : Int64} (hL0 : Lv 49 g0) {H : Heap} {locs : List Loc} {ls : Array Slot} (hf : f_X10_put g0 x1 x2 x3 S = some o) (hd : Dy s D cs B0 α Lv S H locs) (hl : lv_has ls 5 [(0, .ref (α 49 g0)), (1, .int x1), (2, .int x2), (3, .long x3)]) : W p l e (Rm 1 0 0) s m args below meth c H locs 0 0 (MQ below (Ql D cs B0 α Lv o.1 o.2) args s 0 0 (AB B0)) (F0 m 0 ls []) := by
  unfold f_X10_put at hf
  refine lv_aload_n hc.x hc.b dX10_put_0 rfl (lv_at hl 0 rfl) ?_
  refine fg_49_2 hc hd hL0 tw_274 dX10_put_1 ?_
  refine lv_iload_n hc.x hc.b dX10_put_4 rfl (lv_at hl 1 rfl) ?_
  obtain ⟨hi_1, hf⟩ := ck_s hf
  refine r_aald hc hd (cl_49_numbers hc.cl hL0) (t0 := 7) rfl rfl rfl hi_1 dX10_put_5 ?_
  show W p l e (Rm 1 0 0) s m args below meth c H locs 0 0 (MQ below (Ql D cs B0 α Lv o.1 o.2) args s 0 0 (AB B0)) (F0 m 6 ls [.ref (α 53 ((nn x1)))])
  refine lv_iload_n hc.x hc.b dX10_put_6 rfl (lv_at hl 2 rfl) ?_
  refine lv_aload_n hc.x hc.b dX10_put_7 rfl (lv_at hl 0 rfl) ?_
  refine fg_49_0 hc hd hL0 tw_271 dX10_put_8 ?_
  refine lv_iload_n hc.x hc.b dX10_put_11 rfl (lv_at hl 1 rfl) ?_
  obtain ⟨hi_2, hf⟩ := ck_s hf
  refine r_iald hc hd (cl_49_sorts hc.cl hL0) rfl hi_2 dX10_put_12 ?_
  refine lv_lload_n hc.x hc.b dX10_put_13 rfl (lv_at hl 3 rfl) ?_
  obtain ⟨r_4, hq_3, hf⟩ := on_s hf
  refine k_l (k_runS hc hd my_X10_cut tw_1258 (c_X10_cut l D cs B0 kt α Lv S (gi S 50 g0 (nn x1)) x3 hc.cl   hq_3) rfl rfl hl.1 (Nat.le_of_ble_eq_true rfl) ⟨Nat.le_of_ble_eq_true rfl, Nat.le_of_ble_eq_true rfl, Nat.zero_le _, Nat.zero_le _⟩ dX10_put_14) hd (fun H locs hd => ?_)
  obtain ⟨hi_5, hf⟩ := ck_s hf
  refine r_last hc hd (cl_52 hc.cl (cl_49_numbers hc.cl hL0) (inb_lt hi_1)) (fun _ => rfl) hi_5 dX10_put_17 (fun H locs hd => ?_)
  obtain ⟨S_6, hd, hf⟩ := nmD hd hf
  refine lv_aload_n hc.x hc.b dX10_put_18 rfl (lv_at hl 0 rfl) ?_
  refine fg_49_2 hc hd hL0 tw_274 dX10_put_19 ?_
  refine lv_iload_n hc.x hc.b dX10_put_22 rfl (lv_at hl 1 rfl) ?_
  obtain ⟨hi_7, hf⟩ := ck_s hf
  refine r_aald hc hd (cl_49_numbers hc.cl hL0) (t0 := 7) rfl rfl rfl hi_7 dX10_put_23 ?_
  show W p l e (Rm 1 0 0) s m args below meth c H locs 0 0 (MQ below (Ql D cs B0 α Lv o.1 o.2) args s 0 0 (AB B0)) (F0 m 24 ls [.ref (α 53 ((nn x1)))])
  refine lv_iload_n hc.x hc.b dX10_put_24 rfl (lv_at hl 2 rfl) ?_
  obtain ⟨hi_8, hf⟩ := ck_s hf
  refine r_lald hc hd (cl_52 hc.cl (cl_49_numbers hc.cl hL0) (inb_lt hi_7)) rfl hi_8 dX10_put_25 ?_
  cases hf
  exact r_lret hc hd hr dX10_put_26
theorem c_X10_put (l : Launch) (D : va_G) (cs : Nat → ClassId) (B0 : Nat) (kt : (Nat → Nat) × (Nat → Nat)) (α : Nat → Nat → Nat) (Lv : Nat → Nat → Prop) (S : St) (g0 : Nat) (x1 : Int32) (x2 : Int32) (x3 : Int64) (hcl : Cl Lv) (hL0 : Lv 49 g0) {o : Int64 × St} (hf : f_X10_put g0 x1 x2 x3 S = some o) : Met l yX10_put (wz yX10_put cX10_put 5 (some .long)) (Rm 1 0 0) (Pz D cs B0 kt α Lv S [.ref (α 49 g0), .int x1, .int x2, .long x3]) (Ql D cs B0 α Lv o.1 o.2) 0 0 (AB B0) := met_of (by decide) rfl hcl (Nat.le_of_ble_eq_true rfl) (fun p e s m below meth c hc hr hd ls hl => b_X10_put hc hr hL0 hf hd hl)
theorem my_X10_put : MyV yX10_put "PumpCrossing$Trays" cX10_put 5 (some .long) 3 := ⟨tw_1255, tw_1256, tw_8, tw_1257, by decide +kernel⟩
def f_X8_addLag (g0 : Nat) (x1 : Int32) (S : St) : Option (St) := bv (fun  (S_1 : St) => some S_1) (fun J_2 => br (x1 = ((-1))) (J_2 S) (br ((Int32.ofNat 18) ≤ (gi S 22 g0 2)) (J_2 S) (ck (inb (gi S 22 g0 2) 18 = true) (bv (si S 25 g0 (nn (gi S 22 g0 2)) x1) (fun S_6 => bv (si S_6 22 g0 2 ((gi S_6 22 g0 2) + 1)) (fun S_7 => J_2 S_7))))))
set_option maxRecDepth 100000 in
set_option maxHeartbeats 4000000 in
theorem b_X8_addLag (hc : Cx p s m args meth c cX8_addLag 2 "PumpCrossing$Stories" D cs B0 kt Lv) (hr : meth.sig.returnType = none)  {o : St}  {S : St} {g0 : Nat} {x1 : Int32} (hL0 : Lv 22 g0) {H : Heap} {locs : List Loc} {ls : Array Slot} (hf : f_X8_addLag g0 x1 S = some o) (hd : Dy s D cs B0 α Lv S H locs) (hl : lv_has ls 2 [(0, .ref (α 22 g0)), (1, .int x1)]) : W p l e (Rm 0 0 0) s m args below meth c H locs 0 0 (MQ below (Qv D cs B0 α Lv o) args s 0 0 (AB B0)) (F0 m 0 ls []) := by
  unfold f_X8_addLag at hf
  refine lv_iload_n hc.x hc.b dX8_addLag_0 rfl (lv_at hl 1 rfl) ?_
  refine lv_iconst (v := (-1)) hc.x hc.b dX8_addLag_1 (by decide) ?_
  refine jn_s (P := fun J_2 => ∀  (S_1 : St) (H : Heap) (locs : List Loc) (ls : Array Slot), J_2 S_1 = some o → Dy s D cs B0 α Lv S_1 H locs → lv_has ls 2 [] → W p l e (Rm 0 0 0) s m args below meth c H locs 0 0 (MQ below (Qv D cs B0 α Lv o) args s 0 0 (AB B0)) (F0 m 37 ls [])) hf ?_ (fun J_2 hJ_2 hf => ?_)
  · intro S_1 H locs ls hf hd hl
    cases hf
    exact r_vret hc hd hr dX8_addLag_37
  refine lv_icmp_eq (tgt := 37) hc.x hc.b dX8_addLag_2 (by decide) (fun c_3 => ?_) (fun c_3 => ?_)
  · have hf := br_y c_3 hf
    exact hJ_2 S _ _ _ hf hd (lv_sub hl [] rfl)
  · have hf := br_n c_3 hf
    refine lv_aload_n hc.x hc.b dX8_addLag_5 rfl (lv_at hl 0 rfl) ?_
    refine fg_22_2 hc hd hL0 tw_123 dX8_addLag_6 ?_
    refine lv_aload_n hc.x hc.b dX8_addLag_9 rfl (lv_at hl 0 rfl) ?_
    refine fg_22_1 hc hd hL0 tw_122 dX8_addLag_10 ?_
    refine r_alen hc hd (cl_22_lags hc.cl hL0) (t0 := 0) rfl rfl dX8_addLag_13 ?_
    show W p l e (Rm 0 0 0) s m args below meth c H locs 0 0 (MQ below (Qv D cs B0 α Lv o) args s 0 0 (AB B0)) (F0 m 14 ls [.int (Int32.ofNat 18), .int (gi S 22 g0 2)])
    refine lv_icmp_ge (tgt := 37) hc.x hc.b dX8_addLag_14 (by decide) (fun c_4 => ?_) (fun c_4 => ?_)
    · have hf := br_y c_4 hf
      exact hJ_2 S _ _ _ hf hd (lv_sub hl [] rfl)
    · have hf := br_n c_4 hf
      refine lv_aload_n hc.x hc.b dX8_addLag_17 rfl (lv_at hl 0 rfl) ?_
      refine fg_22_1 hc hd hL0 tw_122 dX8_addLag_18 ?_
      refine lv_aload_n hc.x hc.b dX8_addLag_21 rfl (lv_at hl 0 rfl) ?_
      refine fg_22_2 hc hd hL0 tw_123 dX8_addLag_22 ?_
      refine lv_iload_n hc.x hc.b dX8_addLag_25 rfl (lv_at hl 1 rfl) ?_
      obtain ⟨hi_5, hf⟩ := ck_s hf
      refine r_iast hc hd (cl_22_lags hc.cl hL0) (fun _ => rfl) hi_5 dX8_addLag_26 (fun H locs hd => ?_)
      obtain ⟨S_6, hd, hf⟩ := nmD hd hf
      refine lv_aload_n hc.x hc.b dX8_addLag_27 rfl (lv_at hl 0 rfl) ?_
      refine lv_dup hc.x hc.b dX8_addLag_28 rfl ?_
      refine fg_22_2 hc hd hL0 tw_123 dX8_addLag_29 ?_
      refine lv_iconst (v := 1) hc.x hc.b dX8_addLag_32 (by decide) ?_
      refine lv_iadd hc.x hc.b dX8_addLag_33 ?_
      refine fp_22_2 hc hd hL0 tw_123 dX8_addLag_34 (fun H locs hd => ?_)
      obtain ⟨S_7, hd, hf⟩ := nmD hd hf
      exact hJ_2 S_7 _ _ _ hf hd (lv_sub hl [] rfl)
theorem c_X8_addLag (l : Launch) (D : va_G) (cs : Nat → ClassId) (B0 : Nat) (kt : (Nat → Nat) × (Nat → Nat)) (α : Nat → Nat → Nat) (Lv : Nat → Nat → Prop) (S : St) (g0 : Nat) (x1 : Int32) (hcl : Cl Lv) (hL0 : Lv 22 g0) {o : St} (hf : f_X8_addLag g0 x1 S = some o) : Met l yX8_addLag (wz yX8_addLag cX8_addLag 2 none) (Rm 0 0 0) (Pz D cs B0 kt α Lv S [.ref (α 22 g0), .int x1]) (Qv D cs B0 α Lv o) 0 0 (AB B0) := met_of (by decide) rfl hcl (Nat.le_of_ble_eq_true rfl) (fun p e s m below meth c hc hr hd ls hl => b_X8_addLag hc hr hL0 hf hd hl)
theorem my_X8_addLag : MyV yX8_addLag "PumpCrossing$Stories" cX8_addLag 2 none 1 := ⟨tw_1185, (in_sel 32 (by decide +kernel) (by decide +kernel)), tw_6, tw_1186, by decide +kernel⟩
def f_X8_addRise (g0 : Nat) (x1 : Int32) (x2 : Int32) (x3 : Int32) (S : St) : Option (Int32 × St) := br ((gi S 22 g0 3) < 6) (on (f_X8_addLag g0 x1 S) (fun S_3 => on (f_X8_addLag g0 x2 S_3) (fun S_5 => on (f_X8_addLag g0 x3 S_5) (fun S_7 => bv (gi S_7 22 g0 3) (fun q_8 => bv (si S_7 22 g0 3 (q_8 + 1)) (fun S_9 => some (q_8, S_9))))))) (some ((-1), S))
set_option maxRecDepth 100000 in
set_option maxHeartbeats 4000000 in
theorem b_X8_addRise (hc : Cx p s m args meth c cX8_addRise 4 "PumpCrossing$Stories" D cs B0 kt Lv) (hr : meth.sig.returnType = some .int)  {o : Int32 × St}  {S : St} {g0 : Nat} {x1 : Int32} {x2 : Int32} {x3 : Int32} (hL0 : Lv 22 g0) {H : Heap} {locs : List Loc} {ls : Array Slot} (hf : f_X8_addRise g0 x1 x2 x3 S = some o) (hd : Dy s D cs B0 α Lv S H locs) (hl : lv_has ls 4 [(0, .ref (α 22 g0)), (1, .int x1), (2, .int x2), (3, .int x3)]) : W p l e (Rm 1 0 0) s m args below meth c H locs 0 0 (MQ below (Qi D cs B0 α Lv o.1 o.2) args s 0 0 (AB B0)) (F0 m 0 ls []) := by
  unfold f_X8_addRise at hf
  refine lv_aload_n hc.x hc.b dX8_addRise_0 rfl (lv_at hl 0 rfl) ?_
  refine fg_22_3 hc hd hL0 tw_124 dX8_addRise_1 ?_
  refine lv_bipush (v := 6) hc.x hc.b dX8_addRise_4 (by decide) ?_
  refine lv_icmp_lt (tgt := 11) hc.x hc.b dX8_addRise_6 (by decide) (fun c_1 => ?_) (fun c_1 => ?_)
  · have hf := br_y c_1 hf
    refine lv_aload_n hc.x hc.b dX8_addRise_11 rfl (lv_at hl 0 rfl) ?_
    refine lv_iload_n hc.x hc.b dX8_addRise_12 rfl (lv_at hl 1 rfl) ?_
    obtain ⟨S_3, hq_2, hf⟩ := on_s hf
    refine k_v (k_runV hc hd my_X8_addLag tw_1183 hL0 rfl rfl rfl (c_X8_addLag l D cs B0 kt α Lv S g0 x1 hc.cl hL0  hq_2) rfl rfl hl.1 (Nat.le_of_ble_eq_true rfl) ⟨Nat.le_of_ble_eq_true rfl, Nat.le_of_ble_eq_true rfl, Nat.zero_le _, Nat.zero_le _⟩ dX8_addRise_13) hd (fun H locs hd => ?_)
    refine lv_aload_n hc.x hc.b dX8_addRise_16 rfl (lv_at hl 0 rfl) ?_
    refine lv_iload_n hc.x hc.b dX8_addRise_17 rfl (lv_at hl 2 rfl) ?_
    obtain ⟨S_5, hq_4, hf⟩ := on_s hf
    refine k_v (k_runV hc hd my_X8_addLag tw_1183 hL0 rfl rfl rfl (c_X8_addLag l D cs B0 kt α Lv S_3 g0 x2 hc.cl hL0  hq_4) rfl rfl hl.1 (Nat.le_of_ble_eq_true rfl) ⟨Nat.le_of_ble_eq_true rfl, Nat.le_of_ble_eq_true rfl, Nat.zero_le _, Nat.zero_le _⟩ dX8_addRise_18) hd (fun H locs hd => ?_)
    refine lv_aload_n hc.x hc.b dX8_addRise_21 rfl (lv_at hl 0 rfl) ?_
    refine lv_iload_n hc.x hc.b dX8_addRise_22 rfl (lv_at hl 3 rfl) ?_
    obtain ⟨S_7, hq_6, hf⟩ := on_s hf
    refine k_v (k_runV hc hd my_X8_addLag tw_1183 hL0 rfl rfl rfl (c_X8_addLag l D cs B0 kt α Lv S_5 g0 x3 hc.cl hL0  hq_6) rfl rfl hl.1 (Nat.le_of_ble_eq_true rfl) ⟨Nat.le_of_ble_eq_true rfl, Nat.le_of_ble_eq_true rfl, Nat.zero_le _, Nat.zero_le _⟩ dX8_addRise_23) hd (fun H locs hd => ?_)
    refine lv_aload_n hc.x hc.b dX8_addRise_26 rfl (lv_at hl 0 rfl) ?_
    refine lv_dup hc.x hc.b dX8_addRise_27 rfl ?_
    refine fg_22_3 hc hd hL0 tw_124 dX8_addRise_28 ?_
    refine lv_topi (fun q_8 eq_8 => ?_)
    have hf := bv_n eq_8 hf
    refine lv_dup_x1 hc.x hc.b dX8_addRise_31 rfl rfl ?_
    refine lv_iconst (v := 1) hc.x hc.b dX8_addRise_32 (by decide) ?_
    refine lv_iadd hc.x hc.b dX8_addRise_33 ?_
    refine fp_22_3 hc hd hL0 tw_124 dX8_addRise_34 (fun H locs hd => ?_)
    obtain ⟨S_9, hd, hf⟩ := nmD hd hf
    cases hf
    exact r_iret hc hd hr dX8_addRise_37
  · have hf := br_n c_1 hf
    refine lv_iconst (v := (-1)) hc.x hc.b dX8_addRise_9 (by decide) ?_
    cases hf
    exact r_iret hc hd hr dX8_addRise_10
theorem c_X8_addRise (l : Launch) (D : va_G) (cs : Nat → ClassId) (B0 : Nat) (kt : (Nat → Nat) × (Nat → Nat)) (α : Nat → Nat → Nat) (Lv : Nat → Nat → Prop) (S : St) (g0 : Nat) (x1 : Int32) (x2 : Int32) (x3 : Int32) (hcl : Cl Lv) (hL0 : Lv 22 g0) {o : Int32 × St} (hf : f_X8_addRise g0 x1 x2 x3 S = some o) : Met l yX8_addRise (wz yX8_addRise cX8_addRise 4 (some .int)) (Rm 1 0 0) (Pz D cs B0 kt α Lv S [.ref (α 22 g0), .int x1, .int x2, .int x3]) (Qi D cs B0 α Lv o.1 o.2) 0 0 (AB B0) := met_of (by decide) rfl hcl (Nat.le_of_ble_eq_true rfl) (fun p e s m below meth c hc hr hd ls hl => b_X8_addRise hc hr hL0 hf hd hl)
theorem my_X8_addRise : MyV yX8_addRise "PumpCrossing$Stories" cX8_addRise 4 (some .int) 3 := ⟨tw_1180, tw_1181, tw_6, tw_1182, by decide +kernel⟩
def f_X8_copyFrom_36 (g0 : Nat) (g1 : Nat) (K : St → Option (St)) : Nat → Int32 → St → Option (St)
  | 0, _, _ => none
  | n + 1, x2, S => br (2 ≤ x2) (K S) (ck (inb x2 2 = true) (ck (inb x2 2 = true) (ck (cpok 0 0 21 21 21 = true) (bv (ai S 24 (2 * g0 + (nn x2)) (va_cpy (gi S 24 (2 * g1 + (nn x2))) (gi S 24 (2 * g0 + (nn x2))) (nn 0) (nn 0) (nn 21))) (fun S_9 => bv (x2 + 1) (fun x2_10 => f_X8_copyFrom_36 g0 g1 K n x2_10 S_9))))))
def f_X8_copyFrom (g0 : Nat) (g1 : Nat) (S : St) : Option (St) := bv (si S 22 g0 3 (gi S 22 g1 3)) (fun S_1 => bv (si S_1 22 g0 2 (gi S_1 22 g1 2)) (fun S_2 => ck (cpok 0 0 (Int32.ofNat 18) 18 18 = true) (bv (ai S_2 25 g0 (va_cpy (gi S_2 25 g1) (gi S_2 25 g0) (nn 0) (nn 0) (nn (Int32.ofNat 18)))) (fun S_4 => f_X8_copyFrom_36 g0 g1 (fun  (S_11 : St) => some S_11) FU 0 S_4))))
set_option maxRecDepth 100000 in
set_option maxHeartbeats 4000000 in
theorem w_X8_copyFrom_36 (hc : Cx p s m args meth c cX8_copyFrom 3 "PumpCrossing$Stories" D cs B0 kt Lv) (hr : meth.sig.returnType = none) {o : St}  {g0 : Nat} {g1 : Nat} {K : St → Option (St)} (hL0 : Lv 22 g0) (hL1 : Lv 22 g1) (hK : ∀  (S : St) (H : Heap) (locs : List Loc) (ls : Array Slot), K S = some o → Dy s D cs B0 α Lv S H locs → lv_has ls 3 [] → W p l e (Rm 2 0 0) s m args below meth c H locs 0 0 (MQ below (Qv D cs B0 α Lv o) args s 0 0 (AB B0)) (F0 m 66 ls [])) : ∀ (n : Nat) (x2 : Int32) (S : St) (H : Heap) (locs : List Loc) (ls : Array Slot), f_X8_copyFrom_36 g0 g1 K n x2 S = some o → Dy s D cs B0 α Lv S H locs → lv_has ls 3 [(0, .ref (α 22 g0)), (1, .ref (α 22 g1)), (2, .int x2)] → W p l e (Rm 2 0 0) s m args below meth c H locs 0 0 (MQ below (Qv D cs B0 α Lv o) args s 0 0 (AB B0)) (F0 m 36 ls []) := by
  intro n
  induction n with
  | zero =>
    intro x2 S H locs ls hf
    rw [f_X8_copyFrom_36] at hf
    cases hf
  | succ n ih =>
    intro x2 S H locs ls hf hd hl
    rw [f_X8_copyFrom_36] at hf
    refine lv_iload_n hc.x hc.b dX8_copyFrom_36 rfl (lv_at hl 2 rfl) ?_
    refine lv_iconst (v := 2) hc.x hc.b dX8_copyFrom_37 (by decide) ?_
    refine lv_icmp_ge (tgt := 66) hc.x hc.b dX8_copyFrom_38 (by decide) (fun c_5 => ?_) (fun c_5 => ?_)
    · have hf := br_y c_5 hf
      exact hK S _ _ _ hf hd (lv_sub hl [] rfl)
    · have hf := br_n c_5 hf
      refine lv_aload_n hc.x hc.b dX8_copyFrom_41 rfl (lv_at hl 1 rfl) ?_
      refine fg_22_0 hc hd hL1 tw_121 dX8_copyFrom_42 ?_
      refine lv_iload_n hc.x hc.b dX8_copyFrom_45 rfl (lv_at hl 2 rfl) ?_
      obtain ⟨hi_6, hf⟩ := ck_s hf
      refine r_aald hc hd (cl_22_weights hc.cl hL1) (t0 := 6) rfl rfl rfl hi_6 dX8_copyFrom_46 ?_
      show W p l e (Rm 2 0 0) s m args below meth c H locs 0 0 (MQ below (Qv D cs B0 α Lv o) args s 0 0 (AB B0)) (F0 m 47 ls [.ref (α 24 (2 * g1 + (nn x2)))])
      refine lv_iconst (v := 0) hc.x hc.b dX8_copyFrom_47 (by decide) ?_
      refine lv_aload_n hc.x hc.b dX8_copyFrom_48 rfl (lv_at hl 0 rfl) ?_
      refine fg_22_0 hc hd hL0 tw_121 dX8_copyFrom_49 ?_
      refine lv_iload_n hc.x hc.b dX8_copyFrom_52 rfl (lv_at hl 2 rfl) ?_
      obtain ⟨hi_7, hf⟩ := ck_s hf
      refine r_aald hc hd (cl_22_weights hc.cl hL0) (t0 := 6) rfl rfl rfl hi_7 dX8_copyFrom_53 ?_
      show W p l e (Rm 2 0 0) s m args below meth c H locs 0 0 (MQ below (Qv D cs B0 α Lv o) args s 0 0 (AB B0)) (F0 m 54 ls [.ref (α 24 (2 * g0 + (nn x2))), .int 0, .ref (α 24 (2 * g1 + (nn x2)))])
      refine lv_iconst (v := 0) hc.x hc.b dX8_copyFrom_54 (by decide) ?_
      refine lv_bipush (v := 21) hc.x hc.b dX8_copyFrom_55 (by decide) ?_
      obtain ⟨hi_8, hf⟩ := ck_s hf
      refine r_copyi hc hd hl.1 tw_1294 (cl_23 hc.cl (cl_22_weights hc.cl hL1) (inb_lt hi_6)) (cl_23 hc.cl (cl_22_weights hc.cl hL0) (inb_lt hi_7)) rfl (fun _ => rfl) hi_8 (Nat.le_of_ble_eq_true rfl) (Nat.le_of_ble_eq_true rfl) dX8_copyFrom_57 (fun H locs hd => ?_)
      obtain ⟨S_9, hd, hf⟩ := nmD hd hf
      obtain ⟨x2_10, ex2_10⟩ : ∃ z : Int32, z = x2 + 1 := ⟨_, rfl⟩
      have hf := bv_n ex2_10 hf
      refine lv_iinc (v := x2_10) (lv' := [(2, .int x2_10), (0, .ref (α 22 g0)), (1, .ref (α 22 g1))]) hc.x hc.b dX8_copyFrom_60 hl (k := 2) rfl (by rw [ex2_10]; rfl) (by decide) rfl (fun ls hl => ?_)
      refine lv_goto (tgt := 36) hc.x hc.b dX8_copyFrom_63 (by decide) ?_
      exact ih x2_10 S_9 _ _ _ hf hd (lv_sub hl [1, 2, 0] rfl)
set_option maxRecDepth 100000 in
set_option maxHeartbeats 4000000 in
theorem b_X8_copyFrom (hc : Cx p s m args meth c cX8_copyFrom 3 "PumpCrossing$Stories" D cs B0 kt Lv) (hr : meth.sig.returnType = none)  {o : St}  {S : St} {g0 : Nat} {g1 : Nat} (hL0 : Lv 22 g0) (hL1 : Lv 22 g1) {H : Heap} {locs : List Loc} {ls : Array Slot} (hf : f_X8_copyFrom g0 g1 S = some o) (hd : Dy s D cs B0 α Lv S H locs) (hl : lv_has ls 3 [(0, .ref (α 22 g0)), (1, .ref (α 22 g1))]) : W p l e (Rm 2 0 0) s m args below meth c H locs 0 0 (MQ below (Qv D cs B0 α Lv o) args s 0 0 (AB B0)) (F0 m 0 ls []) := by
  unfold f_X8_copyFrom at hf
  refine lv_aload_n hc.x hc.b dX8_copyFrom_0 rfl (lv_at hl 0 rfl) ?_
  refine lv_aload_n hc.x hc.b dX8_copyFrom_1 rfl (lv_at hl 1 rfl) ?_
  refine fg_22_3 hc hd hL1 tw_124 dX8_copyFrom_2 ?_
  refine fp_22_3 hc hd hL0 tw_124 dX8_copyFrom_5 (fun H locs hd => ?_)
  obtain ⟨S_1, hd, hf⟩ := nmD hd hf
  refine lv_aload_n hc.x hc.b dX8_copyFrom_8 rfl (lv_at hl 0 rfl) ?_
  refine lv_aload_n hc.x hc.b dX8_copyFrom_9 rfl (lv_at hl 1 rfl) ?_
  refine fg_22_2 hc hd hL1 tw_123 dX8_copyFrom_10 ?_
  refine fp_22_2 hc hd hL0 tw_123 dX8_copyFrom_13 (fun H locs hd => ?_)
  obtain ⟨S_2, hd, hf⟩ := nmD hd hf
  refine lv_aload_n hc.x hc.b dX8_copyFrom_16 rfl (lv_at hl 1 rfl) ?_
  refine fg_22_1 hc hd hL1 tw_122 dX8_copyFrom_17 ?_
  refine lv_iconst (v := 0) hc.x hc.b dX8_copyFrom_20 (by decide) ?_
  refine lv_aload_n hc.x hc.b dX8_copyFrom_21 rfl (lv_at hl 0 rfl) ?_
  refine fg_22_1 hc hd hL0 tw_122 dX8_copyFrom_22 ?_
  refine lv_iconst (v := 0) hc.x hc.b dX8_copyFrom_25 (by decide) ?_
  refine lv_aload_n hc.x hc.b dX8_copyFrom_26 rfl (lv_at hl 0 rfl) ?_
  refine fg_22_1 hc hd hL0 tw_122 dX8_copyFrom_27 ?_
  refine r_alen hc hd (cl_22_lags hc.cl hL0) (t0 := 0) rfl rfl dX8_copyFrom_30 ?_
  show W p l e (Rm 2 0 0) s m args below meth c H locs 0 0 (MQ below (Qv D cs B0 α Lv o) args s 0 0 (AB B0)) (F0 m 31 ls [.int (Int32.ofNat 18), .int 0, .ref (α 25 g0), .int 0, .ref (α 25 g1)])
  obtain ⟨hi_3, hf⟩ := ck_s hf
  refine r_copyi hc hd hl.1 tw_1294 (cl_22_lags hc.cl hL1) (cl_22_lags hc.cl hL0) rfl (fun _ => rfl) hi_3 (Nat.le_of_ble_eq_true rfl) (Nat.le_of_ble_eq_true rfl) dX8_copyFrom_31 (fun H locs hd => ?_)
  obtain ⟨S_4, hd, hf⟩ := nmD hd hf
  refine lv_iconst (v := 0) hc.x hc.b dX8_copyFrom_34 (by decide) ?_
  refine lv_istore_n (lv' := [(2, .int 0), (0, .ref (α 22 g0)), (1, .ref (α 22 g1))]) hc.x hc.b dX8_copyFrom_35 rfl hl (by decide) rfl (fun ls hl => ?_)
  refine w_X8_copyFrom_36 hc hr hL0 hL1 ?_ _ _ _ _ _ _ hf hd (lv_sub hl [1, 2, 0] rfl)
  intro S_11 H locs ls hf hd hl
  cases hf
  exact r_vret hc hd hr dX8_copyFrom_66
theorem c_X8_copyFrom (l : Launch) (D : va_G) (cs : Nat → ClassId) (B0 : Nat) (kt : (Nat → Nat) × (Nat → Nat)) (α : Nat → Nat → Nat) (Lv : Nat → Nat → Prop) (S : St) (g0 : Nat) (g1 : Nat) (hcl : Cl Lv) (hL0 : Lv 22 g0) (hL1 : Lv 22 g1) {o : St} (hf : f_X8_copyFrom g0 g1 S = some o) : Met l yX8_copyFrom (wz yX8_copyFrom cX8_copyFrom 3 none) (Rm 2 0 0) (Pz D cs B0 kt α Lv S [.ref (α 22 g0), .ref (α 22 g1)]) (Qv D cs B0 α Lv o) 0 0 (AB B0) := met_of (by decide) rfl hcl (Nat.le_of_ble_eq_true rfl) (fun p e s m below meth c hc hr hd ls hl => b_X8_copyFrom hc hr hL0 hL1 hf hd hl)
theorem my_X8_copyFrom : MyV yX8_copyFrom "PumpCrossing$Stories" cX8_copyFrom 3 none 1 := ⟨tw_1291, tw_1292, tw_6, tw_1293, by decide +kernel⟩
def f_X8_product_5 (g0 : Nat) (x1 : Int32) (S : St) (K : Int64 → Option (Int64)) : Nat → Int64 → Int32 → Option (Int64)
  | 0, _, _ => none
  | n + 1, x2, x4 => br ((gi S 22 g0 2) ≤ x4) (K x2) (ck (inb x1 2 = true) (ck (inb x4 18 = true) (ck (inb (gi S 25 g0 (nn x4)) 21 = true) (bv (x2 * (Int32.toInt64 (gi S 24 (2 * g0 + (nn x1)) (nn (gi S 25 g0 (nn x4)))))) (fun x2_5 => bv (x4 + 1) (fun x4_6 => f_X8_product_5 g0 x1 S K n x2_5 x4_6))))))
def f_X8_product (g0 : Nat) (x1 : Int32) (S : St) : Option (Int64) := f_X8_product_5 g0 x1 S (fun (x2_7 : Int64) => some x2_7) FU 1 0
set_option maxRecDepth 100000 in
set_option maxHeartbeats 4000000 in
theorem w_X8_product_5 (hc : Cx p s m args meth c cX8_product 5 "PumpCrossing$Stories" D cs B0 kt Lv) (hr : meth.sig.returnType = some .long) {o : Int64}  {g0 : Nat} {x1 : Int32} {S : St} {K : Int64 → Option (Int64)} (hL0 : Lv 22 g0) (hK : ∀ (k2 : Int64) (H : Heap) (locs : List Loc) (ls : Array Slot), K k2 = some o → Dy s D cs B0 α Lv S H locs → lv_has ls 5 [(2, .long k2)] → W p l e (Rm 0 0 0) s m args below meth c H locs 0 0 (MQ below (Ql D cs B0 α Lv o S) args s 0 0 (AB B0)) (F0 m 38 ls [])) : ∀ (n : Nat) (x2 : Int64) (x4 : Int32) (H : Heap) (locs : List Loc) (ls : Array Slot), f_X8_product_5 g0 x1 S K n x2 x4 = some o → Dy s D cs B0 α Lv S H locs → lv_has ls 5 [(0, .ref (α 22 g0)), (1, .int x1), (2, .long x2), (4, .int x4)] → W p l e (Rm 0 0 0) s m args below meth c H locs 0 0 (MQ below (Ql D cs B0 α Lv o S) args s 0 0 (AB B0)) (F0 m 5 ls []) := by
  intro n
  induction n with
  | zero =>
    intro x2 x4 H locs ls hf
    rw [f_X8_product_5] at hf
    cases hf
  | succ n ih =>
    intro x2 x4 H locs ls hf hd hl
    rw [f_X8_product_5] at hf
    refine lv_iload hc.x hc.b dX8_product_5 (lv_at hl 3 rfl) ?_
    refine lv_aload_n hc.x hc.b dX8_product_7 rfl (lv_at hl 0 rfl) ?_
    refine fg_22_2 hc hd hL0 tw_123 dX8_product_8 ?_
    refine lv_icmp_ge (tgt := 38) hc.x hc.b dX8_product_11 (by decide) (fun c_1 => ?_) (fun c_1 => ?_)
    · have hf := br_y c_1 hf
      exact hK x2 _ _ _ hf hd (lv_sub hl [2] rfl)
    · have hf := br_n c_1 hf
      refine lv_lload_n hc.x hc.b dX8_product_14 rfl (lv_at hl 2 rfl) ?_
      refine lv_aload_n hc.x hc.b dX8_product_15 rfl (lv_at hl 0 rfl) ?_
      refine fg_22_0 hc hd hL0 tw_121 dX8_product_16 ?_
      refine lv_iload_n hc.x hc.b dX8_product_19 rfl (lv_at hl 1 rfl) ?_
      obtain ⟨hi_2, hf⟩ := ck_s hf
      refine r_aald hc hd (cl_22_weights hc.cl hL0) (t0 := 6) rfl rfl rfl hi_2 dX8_product_20 ?_
      show W p l e (Rm 0 0 0) s m args below meth c H locs 0 0 (MQ below (Ql D cs B0 α Lv o S) args s 0 0 (AB B0)) (F0 m 21 ls [.ref (α 24 (2 * g0 + (nn x1))), .long x2])
      refine lv_aload_n hc.x hc.b dX8_product_21 rfl (lv_at hl 0 rfl) ?_
      refine fg_22_1 hc hd hL0 tw_122 dX8_product_22 ?_
      refine lv_iload hc.x hc.b dX8_product_25 (lv_at hl 3 rfl) ?_
      obtain ⟨hi_3, hf⟩ := ck_s hf
      refine r_iald hc hd (cl_22_lags hc.cl hL0) rfl hi_3 dX8_product_27 ?_
      obtain ⟨hi_4, hf⟩ := ck_s hf
      refine r_iald hc hd (cl_23 hc.cl (cl_22_weights hc.cl hL0) (inb_lt hi_2)) rfl hi_4 dX8_product_28 ?_
      refine lv_i2l (v := Int32.toInt64 (gi S 24 (2 * g0 + (nn x1)) (nn (gi S 25 g0 (nn x4))))) hc.x hc.b dX8_product_29 rfl ?_
      refine lv_lmul hc.x hc.b dX8_product_30 ?_
      refine lv_topl (fun x2_5 ex2_5 => ?_)
      have hf := bv_n ex2_5 hf
      refine lv_lstore_n (lv' := [(2, .long x2_5), (0, .ref (α 22 g0)), (1, .int x1), (4, .int x4)]) hc.x hc.b dX8_product_31 rfl hl (by decide) rfl (fun ls hl => ?_)
      obtain ⟨x4_6, ex4_6⟩ : ∃ z : Int32, z = x4 + 1 := ⟨_, rfl⟩
      have hf := bv_n ex4_6 hf
      refine lv_iinc (v := x4_6) (lv' := [(4, .int x4_6), (2, .long x2_5), (0, .ref (α 22 g0)), (1, .int x1)]) hc.x hc.b dX8_product_32 hl (k := 3) rfl (by rw [ex4_6]; rfl) (by decide) rfl (fun ls hl => ?_)
      refine lv_goto (tgt := 5) hc.x hc.b dX8_product_35 (by decide) ?_
      exact ih x2_5 x4_6 _ _ _ hf hd (lv_sub hl [2, 3, 1, 0] rfl)
set_option maxRecDepth 100000 in
set_option maxHeartbeats 4000000 in
theorem b_X8_product (hc : Cx p s m args meth c cX8_product 5 "PumpCrossing$Stories" D cs B0 kt Lv) (hr : meth.sig.returnType = some .long)  {o : Int64}  {S : St} {g0 : Nat} {x1 : Int32} (hL0 : Lv 22 g0) {H : Heap} {locs : List Loc} {ls : Array Slot} (hf : f_X8_product g0 x1 S = some o) (hd : Dy s D cs B0 α Lv S H locs) (hl : lv_has ls 5 [(0, .ref (α 22 g0)), (1, .int x1)]) : W p l e (Rm 0 0 0) s m args below meth c H locs 0 0 (MQ below (Ql D cs B0 α Lv o S) args s 0 0 (AB B0)) (F0 m 0 ls []) := by
  unfold f_X8_product at hf
  refine lv_lconst (v := 1) hc.x hc.b dX8_product_0 (by decide) ?_
  refine lv_lstore_n (lv' := [(2, .long 1), (0, .ref (α 22 g0)), (1, .int x1)]) hc.x hc.b dX8_product_1 rfl hl (by decide) rfl (fun ls hl => ?_)
  refine lv_iconst (v := 0) hc.x hc.b dX8_product_2 (by decide) ?_
  refine lv_istore (lv' := [(4, .int 0), (2, .long 1), (0, .ref (α 22 g0)), (1, .int x1)]) hc.x hc.b dX8_product_3 hl (by decide) rfl (fun ls hl => ?_)
  refine w_X8_product_5 hc hr hL0 ?_ _ _ _ _ _ _ hf hd (lv_sub hl [2, 3, 1, 0] rfl)
  intro x2_7 H locs ls hf hd hl
  refine lv_lload_n hc.x hc.b dX8_product_38 rfl (lv_at hl 0 rfl) ?_
  cases hf
  exact r_lret hc hd hr dX8_product_39
theorem c_X8_product (l : Launch) (D : va_G) (cs : Nat → ClassId) (B0 : Nat) (kt : (Nat → Nat) × (Nat → Nat)) (α : Nat → Nat → Nat) (Lv : Nat → Nat → Prop) (S : St) (g0 : Nat) (x1 : Int32) (hcl : Cl Lv) (hL0 : Lv 22 g0) {o : Int64} (hf : f_X8_product g0 x1 S = some o) : Met l yX8_product (wz yX8_product cX8_product 5 (some .long)) (Rm 0 0 0) (Pz D cs B0 kt α Lv S [.ref (α 22 g0), .int x1]) (Ql D cs B0 α Lv o S) 0 0 (AB B0) := met_of (by decide) rfl hcl (Nat.le_of_ble_eq_true rfl) (fun p e s m below meth c hc hr hd ls hl => b_X8_product hc hr hL0 hf hd hl)
theorem my_X8_product : MyV yX8_product "PumpCrossing$Stories" cX8_product 5 (some .long) 1 := ⟨tw_430, tw_431, tw_6, tw_432, by decide +kernel⟩
def f_X8_setWeights_2 (g0 : Nat) (x1 : Int32) (g2 : Nat) (K : St → Option (St)) : Nat → Int32 → St → Option (St)
  | 0, _, _ => none
  | n + 1, x3, S => br (21 ≤ x3) (K S) (ck (inb x1 2 = true) (ck (inb x3 28 = true) (ck (inb x3 21 = true) (bv (si S 24 (2 * g0 + (nn x1)) (nn x3) (Int64.toInt32 (gl S 53 g2 (nn x3)))) (fun S_5 => bv (x3 + 1) (fun x3_6 => f_X8_setWeights_2 g0 x1 g2 K n x3_6 S_5))))))
def f_X8_setWeights (g0 : Nat) (x1 : Int32) (g2 : Nat) (S : St) : Option (St) := f_X8_setWeights_2 g0 x1 g2 (fun  (S_7 : St) => some S_7) FU 0 S
set_option maxRecDepth 100000 in
set_option maxHeartbeats 4000000 in
theorem w_X8_setWeights_2 (hc : Cx p s m args meth c cX8_setWeights 4 "PumpCrossing$Stories" D cs B0 kt Lv) (hr : meth.sig.returnType = none) {o : St}  {g0 : Nat} {x1 : Int32} {g2 : Nat} {K : St → Option (St)} (hL0 : Lv 22 g0) (hL2 : Lv 53 g2) (hK : ∀  (S : St) (H : Heap) (locs : List Loc) (ls : Array Slot), K S = some o → Dy s D cs B0 α Lv S H locs → lv_has ls 4 [] → W p l e (Rm 0 0 0) s m args below meth c H locs 0 0 (MQ below (Qv D cs B0 α Lv o) args s 0 0 (AB B0)) (F0 m 26 ls [])) : ∀ (n : Nat) (x3 : Int32) (S : St) (H : Heap) (locs : List Loc) (ls : Array Slot), f_X8_setWeights_2 g0 x1 g2 K n x3 S = some o → Dy s D cs B0 α Lv S H locs → lv_has ls 4 [(0, .ref (α 22 g0)), (1, .int x1), (2, .ref (α 53 g2)), (3, .int x3)] → W p l e (Rm 0 0 0) s m args below meth c H locs 0 0 (MQ below (Qv D cs B0 α Lv o) args s 0 0 (AB B0)) (F0 m 2 ls []) := by
  intro n
  induction n with
  | zero =>
    intro x3 S H locs ls hf
    rw [f_X8_setWeights_2] at hf
    cases hf
  | succ n ih =>
    intro x3 S H locs ls hf hd hl
    rw [f_X8_setWeights_2] at hf
    refine lv_iload_n hc.x hc.b dX8_setWeights_2 rfl (lv_at hl 3 rfl) ?_
    refine lv_bipush (v := 21) hc.x hc.b dX8_setWeights_3 (by decide) ?_
    refine lv_icmp_ge (tgt := 26) hc.x hc.b dX8_setWeights_5 (by decide) (fun c_1 => ?_) (fun c_1 => ?_)
    · have hf := br_y c_1 hf
      exact hK S _ _ _ hf hd (lv_sub hl [] rfl)
    · have hf := br_n c_1 hf
      refine lv_aload_n hc.x hc.b dX8_setWeights_8 rfl (lv_at hl 0 rfl) ?_
      refine fg_22_0 hc hd hL0 tw_121 dX8_setWeights_9 ?_
      refine lv_iload_n hc.x hc.b dX8_setWeights_12 rfl (lv_at hl 1 rfl) ?_
      obtain ⟨hi_2, hf⟩ := ck_s hf
      refine r_aald hc hd (cl_22_weights hc.cl hL0) (t0 := 6) rfl rfl rfl hi_2 dX8_setWeights_13 ?_
      show W p l e (Rm 0 0 0) s m args below meth c H locs 0 0 (MQ below (Qv D cs B0 α Lv o) args s 0 0 (AB B0)) (F0 m 14 ls [.ref (α 24 (2 * g0 + (nn x1)))])
      refine lv_iload_n hc.x hc.b dX8_setWeights_14 rfl (lv_at hl 3 rfl) ?_
      refine lv_aload_n hc.x hc.b dX8_setWeights_15 rfl (lv_at hl 2 rfl) ?_
      refine lv_iload_n hc.x hc.b dX8_setWeights_16 rfl (lv_at hl 3 rfl) ?_
      obtain ⟨hi_3, hf⟩ := ck_s hf
      refine r_lald hc hd hL2 rfl hi_3 dX8_setWeights_17 ?_
      refine lv_l2i (v := Int64.toInt32 (gl S 53 g2 (nn x3))) hc.x hc.b dX8_setWeights_18 rfl ?_
      obtain ⟨hi_4, hf⟩ := ck_s hf
      refine r_iast hc hd (cl_23 hc.cl (cl_22_weights hc.cl hL0) (inb_lt hi_2)) (fun _ => rfl) hi_4 dX8_setWeights_19 (fun H locs hd => ?_)
      obtain ⟨S_5, hd, hf⟩ := nmD hd hf
      obtain ⟨x3_6, ex3_6⟩ : ∃ z : Int32, z = x3 + 1 := ⟨_, rfl⟩
      have hf := bv_n ex3_6 hf
      refine lv_iinc (v := x3_6) (lv' := [(3, .int x3_6), (0, .ref (α 22 g0)), (1, .int x1), (2, .ref (α 53 g2))]) hc.x hc.b dX8_setWeights_20 hl (k := 3) rfl (by rw [ex3_6]; rfl) (by decide) rfl (fun ls hl => ?_)
      refine lv_goto (tgt := 2) hc.x hc.b dX8_setWeights_23 (by decide) ?_
      exact ih x3_6 S_5 _ _ _ hf hd (lv_sub hl [1, 2, 3, 0] rfl)
set_option maxRecDepth 100000 in
set_option maxHeartbeats 4000000 in
theorem b_X8_setWeights (hc : Cx p s m args meth c cX8_setWeights 4 "PumpCrossing$Stories" D cs B0 kt Lv) (hr : meth.sig.returnType = none)  {o : St}  {S : St} {g0 : Nat} {x1 : Int32} {g2 : Nat} (hL0 : Lv 22 g0) (hL2 : Lv 53 g2) {H : Heap} {locs : List Loc} {ls : Array Slot} (hf : f_X8_setWeights g0 x1 g2 S = some o) (hd : Dy s D cs B0 α Lv S H locs) (hl : lv_has ls 4 [(0, .ref (α 22 g0)), (1, .int x1), (2, .ref (α 53 g2))]) : W p l e (Rm 0 0 0) s m args below meth c H locs 0 0 (MQ below (Qv D cs B0 α Lv o) args s 0 0 (AB B0)) (F0 m 0 ls []) := by
  unfold f_X8_setWeights at hf
  refine lv_iconst (v := 0) hc.x hc.b dX8_setWeights_0 (by decide) ?_
  refine lv_istore_n (lv' := [(3, .int 0), (0, .ref (α 22 g0)), (1, .int x1), (2, .ref (α 53 g2))]) hc.x hc.b dX8_setWeights_1 rfl hl (by decide) rfl (fun ls hl => ?_)
  refine w_X8_setWeights_2 hc hr hL0 hL2 ?_ _ _ _ _ _ _ hf hd (lv_sub hl [1, 2, 3, 0] rfl)
  intro S_7 H locs ls hf hd hl
  cases hf
  exact r_vret hc hd hr dX8_setWeights_26
theorem c_X8_setWeights (l : Launch) (D : va_G) (cs : Nat → ClassId) (B0 : Nat) (kt : (Nat → Nat) × (Nat → Nat)) (α : Nat → Nat → Nat) (Lv : Nat → Nat → Prop) (S : St) (g0 : Nat) (x1 : Int32) (g2 : Nat) (hcl : Cl Lv) (hL0 : Lv 22 g0) (hL2 : Lv 53 g2) {o : St} (hf : f_X8_setWeights g0 x1 g2 S = some o) : Met l yX8_setWeights (wz yX8_setWeights cX8_setWeights 4 none) (Rm 0 0 0) (Pz D cs B0 kt α Lv S [.ref (α 22 g0), .int x1, .ref (α 53 g2)]) (Qv D cs B0 α Lv o) 0 0 (AB B0) := met_of (by decide) rfl hcl (Nat.le_of_ble_eq_true rfl) (fun p e s m below meth c hc hr hd ls hl => b_X8_setWeights hc hr hL0 hL2 hf hd hl)
theorem my_X8_setWeights : MyV yX8_setWeights "PumpCrossing$Stories" cX8_setWeights 4 none 2 := ⟨tw_1169, tw_1170, tw_6, tw_1171, by decide +kernel⟩
end
