section
variable {p : Program} {l : Launch} {e : Env} {s : State} {m : MethodId} {args : Array Value} {below : List Frame} {meth : Method} {c : Code} {D : va_G} {cs : Nat → ClassId} {B0 : Nat} {kt : (Nat → Nat) × (Nat → Nat)} {α : Nat → Nat → Nat} {Lv : Nat → Nat → Prop}
def f_X12_gainOf (g0 : Nat) (x1 : Int32) (x2 : Int32) (x3 : Int32) (S : St) : Option (Int32) := bv (fun (v_1 : Int32) => ck (inb ((v_1 + (8 * x1)) + x2) 128 = true) (some (gi S 72 g0 (nn ((v_1 + (8 * x1)) + x2))))) (fun J_2 => br (x3 = 0) (J_2 0) (J_2 64))
set_option maxRecDepth 100000 in
set_option maxHeartbeats 4000000 in
theorem b_X12_gainOf (hc : Cx p s m args meth c cX12_gainOf 4 "PumpCrossingModel" D cs B0 kt Lv) (hr : meth.sig.returnType = some .int)  {o : Int32}  {S : St} {g0 : Nat} {x1 : Int32} {x2 : Int32} {x3 : Int32} (hL0 : Lv 60 g0) {H : Heap} {locs : List Loc} {ls : Array Slot} (hf : f_X12_gainOf g0 x1 x2 x3 S = some o) (hd : Dy s D cs B0 α Lv S H locs) (hl : lv_has ls 4 [(0, .ref (α 60 g0)), (1, .int x1), (2, .int x2), (3, .int x3)]) : W p l e (Rm 0 0 0) s m args below meth c H locs 0 0 (MQ below (Qi D cs B0 α Lv o S) args s 0 0 (AB B0)) (F0 m 0 ls []) := by
  unfold f_X12_gainOf at hf
  refine lv_aload_n hc.x hc.b dX12_gainOf_0 rfl (lv_at hl 0 rfl) ?_
  refine fg_60_28 hc hd hL0 tw_1337 dX12_gainOf_1 ?_
  refine lv_iload_n hc.x hc.b dX12_gainOf_4 rfl (lv_at hl 3 rfl) ?_
  refine jn_s (P := fun J_2 => ∀ (v_1 : Int32) (H : Heap) (locs : List Loc) (ls : Array Slot), J_2 v_1 = some o → Dy s D cs B0 α Lv S H locs → lv_has ls 4 [(1, .int x1), (2, .int x2)] → W p l e (Rm 0 0 0) s m args below meth c H locs 0 0 (MQ below (Qi D cs B0 α Lv o S) args s 0 0 (AB B0)) (F0 m 14 ls [.int v_1, .ref (α 72 g0)])) hf ?_ (fun J_2 hJ_2 hf => ?_)
  · intro v_1 H locs ls hf hd hl
    refine lv_bipush (v := 8) hc.x hc.b dX12_gainOf_14 (by decide) ?_
    refine lv_iload_n hc.x hc.b dX12_gainOf_16 rfl (lv_at hl 0 rfl) ?_
    refine lv_imul hc.x hc.b dX12_gainOf_17 ?_
    refine lv_iadd hc.x hc.b dX12_gainOf_18 ?_
    refine lv_iload_n hc.x hc.b dX12_gainOf_19 rfl (lv_at hl 1 rfl) ?_
    refine lv_iadd hc.x hc.b dX12_gainOf_20 ?_
    obtain ⟨hi_3, hf⟩ := ck_s hf
    refine r_iald hc hd (cl_60_gains hc.cl hL0) rfl hi_3 dX12_gainOf_21 ?_
    cases hf
    exact r_iret hc hd hr dX12_gainOf_22
  refine lv_if_eq (tgt := 13) hc.x hc.b dX12_gainOf_5 (by decide) (fun c_4 => ?_) (fun c_4 => ?_)
  · have hf := br_y c_4 hf
    refine lv_iconst (v := 0) hc.x hc.b dX12_gainOf_13 (by decide) ?_
    exact hJ_2 0 _ _ _ hf hd (lv_sub hl [1, 2] rfl)
  · have hf := br_n c_4 hf
    refine lv_bipush (v := 64) hc.x hc.b dX12_gainOf_8 (by decide) ?_
    refine lv_goto (tgt := 14) hc.x hc.b dX12_gainOf_10 (by decide) ?_
    exact hJ_2 64 _ _ _ hf hd (lv_sub hl [1, 2] rfl)
theorem c_X12_gainOf (l : Launch) (D : va_G) (cs : Nat → ClassId) (B0 : Nat) (kt : (Nat → Nat) × (Nat → Nat)) (α : Nat → Nat → Nat) (Lv : Nat → Nat → Prop) (S : St) (g0 : Nat) (x1 : Int32) (x2 : Int32) (x3 : Int32) (hcl : Cl Lv) (hL0 : Lv 60 g0) {o : Int32} (hf : f_X12_gainOf g0 x1 x2 x3 S = some o) : Met l yX12_gainOf (wz yX12_gainOf cX12_gainOf 4 (some .int)) (Rm 0 0 0) (Pz D cs B0 kt α Lv S [.ref (α 60 g0), .int x1, .int x2, .int x3]) (Qi D cs B0 α Lv o S) 0 0 (AB B0) := met_of (by decide) rfl hcl (Nat.le_of_ble_eq_true rfl) (fun p e s m below meth c hc hr hd ls hl => b_X12_gainOf hc hr hL0 hf hd hl)
theorem my_X12_gainOf : MyV yX12_gainOf "PumpCrossingModel" cX12_gainOf 4 (some .int) 3 := ⟨tw_1742, (in_sel 78 (by decide +kernel) (by decide +kernel)), tw_11, tw_1743, by decide +kernel⟩
def f_X12_isEven_2 (g0 : Nat) (x1 : Int32) (x2 : Int32) (S : St) (K : Unit → Option (Int32)) : Nat → Int32 → Option (Int32)
  | 0, _ => none
  | n + 1, x3 => ck (inb 3 3179 = true) (br ((gi S 61 g0 (nn 3)) ≤ x3) (K ()) (on (f_X12_gainOf g0 x3 x2 0 S) (fun r_4 => on (f_X12_gainOf g0 x1 x2 0 S) (fun r_6 => bv (fun (_u : Unit) => some 0) (fun J_7 => br (r_6 < r_4) (J_7 ()) (on (f_X12_gainOf g0 x1 x3 1 S) (fun r_10 => on (f_X12_gainOf g0 x1 x2 1 S) (fun r_12 => br (r_10 ≤ r_12) (bv (x3 + 1) (fun x3_14 => f_X12_isEven_2 g0 x1 x2 S K n x3_14)) (J_7 ())))))))))
def f_X12_isEven (g0 : Nat) (x1 : Int32) (x2 : Int32) (S : St) : Option (Int32) := f_X12_isEven_2 g0 x1 x2 S (fun (_u : Unit) => some 1) FU 0
set_option maxRecDepth 100000 in
set_option maxHeartbeats 4000000 in
theorem w_X12_isEven_2 (hc : Cx p s m args meth c cX12_isEven 4 "PumpCrossingModel" D cs B0 kt Lv) (hr : meth.sig.returnType = some .boolean) {o : Int32}  {g0 : Nat} {x1 : Int32} {x2 : Int32} {S : St} {K : Unit → Option (Int32)} (hL0 : Lv 60 g0) (hK : ∀ (_u : Unit) (H : Heap) (locs : List Loc) (ls : Array Slot), K _u = some o → Dy s D cs B0 α Lv S H locs → lv_has ls 4 [] → W p l e (Rm 1 0 0) s m args below meth c H locs 0 0 (MQ below (Qi D cs B0 α Lv o S) args s 0 0 (AB B0)) (F0 m 54 ls [])) : ∀ (n : Nat) (x3 : Int32) (H : Heap) (locs : List Loc) (ls : Array Slot), f_X12_isEven_2 g0 x1 x2 S K n x3 = some o → Dy s D cs B0 α Lv S H locs → lv_has ls 4 [(0, .ref (α 60 g0)), (1, .int x1), (2, .int x2), (3, .int x3)] → W p l e (Rm 1 0 0) s m args below meth c H locs 0 0 (MQ below (Qi D cs B0 α Lv o S) args s 0 0 (AB B0)) (F0 m 2 ls []) := by
  intro n
  induction n with
  | zero =>
    intro x3 H locs ls hf
    rw [f_X12_isEven_2] at hf
    cases hf
  | succ n ih =>
    intro x3 H locs ls hf hd hl
    rw [f_X12_isEven_2] at hf
    refine lv_iload_n hc.x hc.b dX12_isEven_2 rfl (lv_at hl 3 rfl) ?_
    refine lv_aload_n hc.x hc.b dX12_isEven_3 rfl (lv_at hl 0 rfl) ?_
    refine fg_60_0 hc hd hL0 tw_1309 dX12_isEven_4 ?_
    refine lv_iconst (v := 3) hc.x hc.b dX12_isEven_7 (by decide) ?_
    obtain ⟨hi_1, hf⟩ := ck_s hf
    refine r_iald hc hd (cl_60_told hc.cl hL0) rfl hi_1 dX12_isEven_8 ?_
    refine lv_icmp_ge (tgt := 54) hc.x hc.b dX12_isEven_9 (by decide) (fun c_2 => ?_) (fun c_2 => ?_)
    · have hf := br_y c_2 hf
      exact hK ()  _ _ _ hf hd (lv_sub hl [] rfl)
    · have hf := br_n c_2 hf
      refine lv_aload_n hc.x hc.b dX12_isEven_12 rfl (lv_at hl 0 rfl) ?_
      refine lv_iload_n hc.x hc.b dX12_isEven_13 rfl (lv_at hl 3 rfl) ?_
      refine lv_iload_n hc.x hc.b dX12_isEven_14 rfl (lv_at hl 2 rfl) ?_
      refine lv_iconst (v := 0) hc.x hc.b dX12_isEven_15 (by decide) ?_
      obtain ⟨r_4, hq_3, hf⟩ := on_s hf
      refine k_i (k_runV hc hd my_X12_gainOf tw_1740 hL0 rfl rfl rfl (c_X12_gainOf l D cs B0 kt α Lv S g0 x3 x2 0 hc.cl hL0  hq_3) rfl rfl hl.1 (Nat.le_of_ble_eq_true rfl) ⟨Nat.le_of_ble_eq_true rfl, Nat.le_of_ble_eq_true rfl, Nat.zero_le _, Nat.zero_le _⟩ dX12_isEven_16) hd (fun H locs hd => ?_)
      refine lv_aload_n hc.x hc.b dX12_isEven_19 rfl (lv_at hl 0 rfl) ?_
      refine lv_iload_n hc.x hc.b dX12_isEven_20 rfl (lv_at hl 1 rfl) ?_
      refine lv_iload_n hc.x hc.b dX12_isEven_21 rfl (lv_at hl 2 rfl) ?_
      refine lv_iconst (v := 0) hc.x hc.b dX12_isEven_22 (by decide) ?_
      obtain ⟨r_6, hq_5, hf⟩ := on_s hf
      refine k_i (k_runV hc hd my_X12_gainOf tw_1740 hL0 rfl rfl rfl (c_X12_gainOf l D cs B0 kt α Lv S g0 x1 x2 0 hc.cl hL0  hq_5) rfl rfl hl.1 (Nat.le_of_ble_eq_true rfl) ⟨Nat.le_of_ble_eq_true rfl, Nat.le_of_ble_eq_true rfl, Nat.zero_le _, Nat.zero_le _⟩ dX12_isEven_23) hd (fun H locs hd => ?_)
      refine jn_s (P := fun J_7 => ∀ (_u : Unit) (H : Heap) (locs : List Loc) (ls : Array Slot), J_7 _u = some o → Dy s D cs B0 α Lv S H locs → lv_has ls 4 [] → W p l e (Rm 1 0 0) s m args below meth c H locs 0 0 (MQ below (Qi D cs B0 α Lv o S) args s 0 0 (AB B0)) (F0 m 46 ls [])) hf ?_ (fun J_7 hJ_7 hf => ?_)
      · intro _u H locs ls hf hd hl
        refine lv_iconst (v := 0) hc.x hc.b dX12_isEven_46 (by decide) ?_
        cases hf
        exact r_zret hc hd hr (Or.inl rfl) dX12_isEven_47
      refine lv_icmp_gt (tgt := 46) hc.x hc.b dX12_isEven_26 (by decide) (fun c_8 => ?_) (fun c_8 => ?_)
      · have hf := br_y c_8 hf
        exact hJ_7 ()  _ _ _ hf hd (lv_sub hl [] rfl)
      · have hf := br_n c_8 hf
        refine lv_aload_n hc.x hc.b dX12_isEven_29 rfl (lv_at hl 0 rfl) ?_
        refine lv_iload_n hc.x hc.b dX12_isEven_30 rfl (lv_at hl 1 rfl) ?_
        refine lv_iload_n hc.x hc.b dX12_isEven_31 rfl (lv_at hl 3 rfl) ?_
        refine lv_iconst (v := 1) hc.x hc.b dX12_isEven_32 (by decide) ?_
        obtain ⟨r_10, hq_9, hf⟩ := on_s hf
        refine k_i (k_runV hc hd my_X12_gainOf tw_1740 hL0 rfl rfl rfl (c_X12_gainOf l D cs B0 kt α Lv S g0 x1 x3 1 hc.cl hL0  hq_9) rfl rfl hl.1 (Nat.le_of_ble_eq_true rfl) ⟨Nat.le_of_ble_eq_true rfl, Nat.le_of_ble_eq_true rfl, Nat.zero_le _, Nat.zero_le _⟩ dX12_isEven_33) hd (fun H locs hd => ?_)
        refine lv_aload_n hc.x hc.b dX12_isEven_36 rfl (lv_at hl 0 rfl) ?_
        refine lv_iload_n hc.x hc.b dX12_isEven_37 rfl (lv_at hl 1 rfl) ?_
        refine lv_iload_n hc.x hc.b dX12_isEven_38 rfl (lv_at hl 2 rfl) ?_
        refine lv_iconst (v := 1) hc.x hc.b dX12_isEven_39 (by decide) ?_
        obtain ⟨r_12, hq_11, hf⟩ := on_s hf
        refine k_i (k_runV hc hd my_X12_gainOf tw_1740 hL0 rfl rfl rfl (c_X12_gainOf l D cs B0 kt α Lv S g0 x1 x2 1 hc.cl hL0  hq_11) rfl rfl hl.1 (Nat.le_of_ble_eq_true rfl) ⟨Nat.le_of_ble_eq_true rfl, Nat.le_of_ble_eq_true rfl, Nat.zero_le _, Nat.zero_le _⟩ dX12_isEven_40) hd (fun H locs hd => ?_)
        refine lv_icmp_le (tgt := 48) hc.x hc.b dX12_isEven_43 (by decide) (fun c_13 => ?_) (fun c_13 => ?_)
        · have hf := br_y c_13 hf
          obtain ⟨x3_14, ex3_14⟩ : ∃ z : Int32, z = x3 + 1 := ⟨_, rfl⟩
          have hf := bv_n ex3_14 hf
          refine lv_iinc (v := x3_14) (lv' := [(3, .int x3_14), (0, .ref (α 60 g0)), (1, .int x1), (2, .int x2)]) hc.x hc.b dX12_isEven_48 hl (k := 3) rfl (by rw [ex3_14]; rfl) (by decide) rfl (fun ls hl => ?_)
          refine lv_goto (tgt := 2) hc.x hc.b dX12_isEven_51 (by decide) ?_
          exact ih x3_14 _ _ _ hf hd (lv_sub hl [1, 2, 3, 0] rfl)
        · have hf := br_n c_13 hf
          exact hJ_7 ()  _ _ _ hf hd (lv_sub hl [] rfl)
set_option maxRecDepth 100000 in
set_option maxHeartbeats 4000000 in
theorem b_X12_isEven (hc : Cx p s m args meth c cX12_isEven 4 "PumpCrossingModel" D cs B0 kt Lv) (hr : meth.sig.returnType = some .boolean)  {o : Int32}  {S : St} {g0 : Nat} {x1 : Int32} {x2 : Int32} (hL0 : Lv 60 g0) {H : Heap} {locs : List Loc} {ls : Array Slot} (hf : f_X12_isEven g0 x1 x2 S = some o) (hd : Dy s D cs B0 α Lv S H locs) (hl : lv_has ls 4 [(0, .ref (α 60 g0)), (1, .int x1), (2, .int x2)]) : W p l e (Rm 1 0 0) s m args below meth c H locs 0 0 (MQ below (Qi D cs B0 α Lv o S) args s 0 0 (AB B0)) (F0 m 0 ls []) := by
  unfold f_X12_isEven at hf
  refine lv_iconst (v := 0) hc.x hc.b dX12_isEven_0 (by decide) ?_
  refine lv_istore_n (lv' := [(3, .int 0), (0, .ref (α 60 g0)), (1, .int x1), (2, .int x2)]) hc.x hc.b dX12_isEven_1 rfl hl (by decide) rfl (fun ls hl => ?_)
  refine w_X12_isEven_2 hc hr hL0 ?_ _ _ _ _ _ hf hd (lv_sub hl [1, 2, 3, 0] rfl)
  intro _u H locs ls hf hd hl
  refine lv_iconst (v := 1) hc.x hc.b dX12_isEven_54 (by decide) ?_
  cases hf
  exact r_zret hc hd hr (Or.inr rfl) dX12_isEven_55
theorem c_X12_isEven (l : Launch) (D : va_G) (cs : Nat → ClassId) (B0 : Nat) (kt : (Nat → Nat) × (Nat → Nat)) (α : Nat → Nat → Nat) (Lv : Nat → Nat → Prop) (S : St) (g0 : Nat) (x1 : Int32) (x2 : Int32) (hcl : Cl Lv) (hL0 : Lv 60 g0) {o : Int32} (hf : f_X12_isEven g0 x1 x2 S = some o) : Met l yX12_isEven (wz yX12_isEven cX12_isEven 4 (some .boolean)) (Rm 1 0 0) (Pz D cs B0 kt α Lv S [.ref (α 60 g0), .int x1, .int x2]) (Qi D cs B0 α Lv o S) 0 0 (AB B0) := met_of (by decide) rfl hcl (Nat.le_of_ble_eq_true rfl) (fun p e s m below meth c hc hr hd ls hl => b_X12_isEven hc hr hL0 hf hd hl)
theorem my_X12_isEven : MyV yX12_isEven "PumpCrossingModel" cX12_isEven 4 (some .boolean) 2 := ⟨tw_1758, (in_sel 80 (by decide +kernel) (by decide +kernel)), tw_11, tw_1759, by decide +kernel⟩
def f_X12_evenAt_17 (g0 : Nat) (x1 : Int32) (x3 : Int32) (S : St) (K : Int32 → Option (Int32)) : Nat → Int32 → Int32 → Option (Int32)
  | 0, _, _ => none
  | n + 1, x2, x4 => ck (inb 3 3179 = true) (br ((gi S 61 g0 (nn 3)) ≤ x4) (K x2) (on (f_X12_isEven g0 x3 x4 S) (fun r_6 => bv (fun (x2_7 : Int32) => bv (x4 + 1) (fun x4_9 => f_X12_evenAt_17 g0 x1 x3 S K n x2_7 x4_9)) (fun J_8 => br (r_6 = 0) (J_8 x2) (br (x2 = x1) (some ((10 * x3) + x4)) (bv (x2 + 1) (fun x2_12 => J_8 x2_12)))))))
def f_X12_evenAt_4 (g0 : Nat) (x1 : Int32) (S : St) (K : Int32 → Option (Int32)) : Nat → Int32 → Int32 → Option (Int32)
  | 0, _, _ => none
  | n + 1, x2, x3 => ck (inb 3 3179 = true) (br ((gi S 61 g0 (nn 3)) ≤ x3) (K x2) (f_X12_evenAt_17 g0 x1 x3 S (fun (x2_13 : Int32) => bv (x3 + 1) (fun x3_14 => f_X12_evenAt_4 g0 x1 S K n x2_13 x3_14)) FU x2 0))
def f_X12_evenAt (g0 : Nat) (x1 : Int32) (S : St) : Option (Int32) := f_X12_evenAt_4 g0 x1 S (fun (x2_15 : Int32) => bv (fun (v_16 : Int32) => some v_16) (fun J_17 => br (x1 = ((-1))) (J_17 x2_15) (J_17 ((-1))))) FU 0 0
set_option maxRecDepth 100000 in
set_option maxHeartbeats 4000000 in
theorem w_X12_evenAt_17 (hc : Cx p s m args meth c cX12_evenAt 5 "PumpCrossingModel" D cs B0 kt Lv) (hr : meth.sig.returnType = some .int) {o : Int32}  {g0 : Nat} {x1 : Int32} {x3 : Int32} {S : St} {K : Int32 → Option (Int32)} (hL0 : Lv 60 g0) (hK : ∀ (k2 : Int32) (H : Heap) (locs : List Loc) (ls : Array Slot), K k2 = some o → Dy s D cs B0 α Lv S H locs → lv_has ls 5 [(0, .ref (α 60 g0)), (1, .int x1), (2, .int k2), (3, .int x3)] → W p l e (Rm 2 0 0) s m args below meth c H locs 0 0 (MQ below (Qi D cs B0 α Lv o S) args s 0 0 (AB B0)) (F0 m 63 ls [])) : ∀ (n : Nat) (x2 : Int32) (x4 : Int32) (H : Heap) (locs : List Loc) (ls : Array Slot), f_X12_evenAt_17 g0 x1 x3 S K n x2 x4 = some o → Dy s D cs B0 α Lv S H locs → lv_has ls 5 [(0, .ref (α 60 g0)), (1, .int x1), (3, .int x3), (2, .int x2), (4, .int x4)] → W p l e (Rm 2 0 0) s m args below meth c H locs 0 0 (MQ below (Qi D cs B0 α Lv o S) args s 0 0 (AB B0)) (F0 m 17 ls []) := by
  intro n
  induction n with
  | zero =>
    intro x2 x4 H locs ls hf
    rw [f_X12_evenAt_17] at hf
    cases hf
  | succ n ih =>
    intro x2 x4 H locs ls hf hd hl
    rw [f_X12_evenAt_17] at hf
    refine lv_iload hc.x hc.b dX12_evenAt_17 (lv_at hl 4 rfl) ?_
    refine lv_aload_n hc.x hc.b dX12_evenAt_19 rfl (lv_at hl 0 rfl) ?_
    refine fg_60_0 hc hd hL0 tw_1309 dX12_evenAt_20 ?_
    refine lv_iconst (v := 3) hc.x hc.b dX12_evenAt_23 (by decide) ?_
    obtain ⟨hi_3, hf⟩ := ck_s hf
    refine r_iald hc hd (cl_60_told hc.cl hL0) rfl hi_3 dX12_evenAt_24 ?_
    refine lv_icmp_ge (tgt := 63) hc.x hc.b dX12_evenAt_25 (by decide) (fun c_4 => ?_) (fun c_4 => ?_)
    · have hf := br_y c_4 hf
      exact hK x2 _ _ _ hf hd (lv_sub hl [0, 1, 3, 2] rfl)
    · have hf := br_n c_4 hf
      refine lv_aload_n hc.x hc.b dX12_evenAt_28 rfl (lv_at hl 0 rfl) ?_
      refine lv_iload_n hc.x hc.b dX12_evenAt_29 rfl (lv_at hl 2 rfl) ?_
      refine lv_iload hc.x hc.b dX12_evenAt_30 (lv_at hl 4 rfl) ?_
      obtain ⟨r_6, hq_5, hf⟩ := on_s hf
      refine k_i (k_runV hc hd my_X12_isEven tw_1756 hL0 rfl rfl rfl (c_X12_isEven l D cs B0 kt α Lv S g0 x3 x4 hc.cl hL0  hq_5) rfl rfl hl.1 (Nat.le_of_ble_eq_true rfl) ⟨Nat.le_of_ble_eq_true rfl, Nat.le_of_ble_eq_true rfl, Nat.zero_le _, Nat.zero_le _⟩ dX12_evenAt_32) hd (fun H locs hd => ?_)
      refine jn_s (P := fun J_8 => ∀ (x2_7 : Int32) (H : Heap) (locs : List Loc) (ls : Array Slot), J_8 x2_7 = some o → Dy s D cs B0 α Lv S H locs → lv_has ls 5 [(0, .ref (α 60 g0)), (1, .int x1), (2, .int x2_7), (3, .int x3), (4, .int x4)] → W p l e (Rm 2 0 0) s m args below meth c H locs 0 0 (MQ below (Qi D cs B0 α Lv o S) args s 0 0 (AB B0)) (F0 m 57 ls [])) hf ?_ (fun J_8 hJ_8 hf => ?_)
      · intro x2_7 H locs ls hf hd hl
        obtain ⟨x4_9, ex4_9⟩ : ∃ z : Int32, z = x4 + 1 := ⟨_, rfl⟩
        have hf := bv_n ex4_9 hf
        refine lv_iinc (v := x4_9) (lv' := [(4, .int x4_9), (0, .ref (α 60 g0)), (1, .int x1), (2, .int x2_7), (3, .int x3)]) hc.x hc.b dX12_evenAt_57 hl (k := 4) rfl (by rw [ex4_9]; rfl) (by decide) rfl (fun ls hl => ?_)
        refine lv_goto (tgt := 17) hc.x hc.b dX12_evenAt_60 (by decide) ?_
        exact ih x2_7 x4_9 _ _ _ hf hd (lv_sub hl [1, 2, 4, 3, 0] rfl)
      refine lv_if_ne (tgt := 41) hc.x hc.b dX12_evenAt_35 (by decide) (fun c_10 => ?_) (fun c_10 => ?_)
      · have hf := br_n c_10 hf
        refine lv_iload_n hc.x hc.b dX12_evenAt_41 rfl (lv_at hl 3 rfl) ?_
        refine lv_iload_n hc.x hc.b dX12_evenAt_42 rfl (lv_at hl 1 rfl) ?_
        refine lv_icmp_ne (tgt := 54) hc.x hc.b dX12_evenAt_43 (by decide) (fun c_11 => ?_) (fun c_11 => ?_)
        · have hf := br_n c_11 hf
          obtain ⟨x2_12, ex2_12⟩ : ∃ z : Int32, z = x2 + 1 := ⟨_, rfl⟩
          have hf := bv_n ex2_12 hf
          refine lv_iinc (v := x2_12) (lv' := [(2, .int x2_12), (0, .ref (α 60 g0)), (1, .int x1), (3, .int x3), (4, .int x4)]) hc.x hc.b dX12_evenAt_54 hl (k := 3) rfl (by rw [ex2_12]; rfl) (by decide) rfl (fun ls hl => ?_)
          exact hJ_8 x2_12 _ _ _ hf hd (lv_sub hl [1, 2, 0, 3, 4] rfl)
        · have hf := br_y c_11 hf
          refine lv_bipush (v := 10) hc.x hc.b dX12_evenAt_46 (by decide) ?_
          refine lv_iload_n hc.x hc.b dX12_evenAt_48 rfl (lv_at hl 2 rfl) ?_
          refine lv_imul hc.x hc.b dX12_evenAt_49 ?_
          refine lv_iload hc.x hc.b dX12_evenAt_50 (lv_at hl 4 rfl) ?_
          refine lv_iadd hc.x hc.b dX12_evenAt_52 ?_
          cases hf
          exact r_iret hc hd hr dX12_evenAt_53
      · have hf := br_y c_10 hf
        refine lv_goto (tgt := 57) hc.x hc.b dX12_evenAt_38 (by decide) ?_
        exact hJ_8 x2 _ _ _ hf hd (lv_sub hl [0, 1, 3, 2, 4] rfl)
set_option maxRecDepth 100000 in
set_option maxHeartbeats 4000000 in
theorem w_X12_evenAt_4 (hc : Cx p s m args meth c cX12_evenAt 5 "PumpCrossingModel" D cs B0 kt Lv) (hr : meth.sig.returnType = some .int) {o : Int32}  {g0 : Nat} {x1 : Int32} {S : St} {K : Int32 → Option (Int32)} (hL0 : Lv 60 g0) (hK : ∀ (k2 : Int32) (H : Heap) (locs : List Loc) (ls : Array Slot), K k2 = some o → Dy s D cs B0 α Lv S H locs → lv_has ls 5 [(1, .int x1), (2, .int k2)] → W p l e (Rm 2 0 0) s m args below meth c H locs 0 0 (MQ below (Qi D cs B0 α Lv o S) args s 0 0 (AB B0)) (F0 m 69 ls [])) : ∀ (n : Nat) (x2 : Int32) (x3 : Int32) (H : Heap) (locs : List Loc) (ls : Array Slot), f_X12_evenAt_4 g0 x1 S K n x2 x3 = some o → Dy s D cs B0 α Lv S H locs → lv_has ls 5 [(0, .ref (α 60 g0)), (1, .int x1), (2, .int x2), (3, .int x3)] → W p l e (Rm 2 0 0) s m args below meth c H locs 0 0 (MQ below (Qi D cs B0 α Lv o S) args s 0 0 (AB B0)) (F0 m 4 ls []) := by
  intro n
  induction n with
  | zero =>
    intro x2 x3 H locs ls hf
    rw [f_X12_evenAt_4] at hf
    cases hf
  | succ n ih =>
    intro x2 x3 H locs ls hf hd hl
    rw [f_X12_evenAt_4] at hf
    refine lv_iload_n hc.x hc.b dX12_evenAt_4 rfl (lv_at hl 3 rfl) ?_
    refine lv_aload_n hc.x hc.b dX12_evenAt_5 rfl (lv_at hl 0 rfl) ?_
    refine fg_60_0 hc hd hL0 tw_1309 dX12_evenAt_6 ?_
    refine lv_iconst (v := 3) hc.x hc.b dX12_evenAt_9 (by decide) ?_
    obtain ⟨hi_1, hf⟩ := ck_s hf
    refine r_iald hc hd (cl_60_told hc.cl hL0) rfl hi_1 dX12_evenAt_10 ?_
    refine lv_icmp_ge (tgt := 69) hc.x hc.b dX12_evenAt_11 (by decide) (fun c_2 => ?_) (fun c_2 => ?_)
    · have hf := br_y c_2 hf
      exact hK x2 _ _ _ hf hd (lv_sub hl [1, 2] rfl)
    · have hf := br_n c_2 hf
      refine lv_iconst (v := 0) hc.x hc.b dX12_evenAt_14 (by decide) ?_
      refine lv_istore (lv' := [(4, .int 0), (0, .ref (α 60 g0)), (1, .int x1), (2, .int x2), (3, .int x3)]) hc.x hc.b dX12_evenAt_15 hl (by decide) rfl (fun ls hl => ?_)
      refine w_X12_evenAt_17 hc hr hL0 ?_ _ _ _ _ _ _ hf hd (lv_sub hl [1, 2, 4, 3, 0] rfl)
      intro x2_13 H locs ls hf hd hl
      obtain ⟨x3_14, ex3_14⟩ : ∃ z : Int32, z = x3 + 1 := ⟨_, rfl⟩
      have hf := bv_n ex3_14 hf
      refine lv_iinc (v := x3_14) (lv' := [(3, .int x3_14), (0, .ref (α 60 g0)), (1, .int x1), (2, .int x2_13)]) hc.x hc.b dX12_evenAt_63 hl (k := 3) rfl (by rw [ex3_14]; rfl) (by decide) rfl (fun ls hl => ?_)
      refine lv_goto (tgt := 4) hc.x hc.b dX12_evenAt_66 (by decide) ?_
      exact ih x2_13 x3_14 _ _ _ hf hd (lv_sub hl [1, 2, 3, 0] rfl)
set_option maxRecDepth 100000 in
set_option maxHeartbeats 4000000 in
theorem b_X12_evenAt (hc : Cx p s m args meth c cX12_evenAt 5 "PumpCrossingModel" D cs B0 kt Lv) (hr : meth.sig.returnType = some .int)  {o : Int32}  {S : St} {g0 : Nat} {x1 : Int32} (hL0 : Lv 60 g0) {H : Heap} {locs : List Loc} {ls : Array Slot} (hf : f_X12_evenAt g0 x1 S = some o) (hd : Dy s D cs B0 α Lv S H locs) (hl : lv_has ls 5 [(0, .ref (α 60 g0)), (1, .int x1)]) : W p l e (Rm 2 0 0) s m args below meth c H locs 0 0 (MQ below (Qi D cs B0 α Lv o S) args s 0 0 (AB B0)) (F0 m 0 ls []) := by
  unfold f_X12_evenAt at hf
  refine lv_iconst (v := 0) hc.x hc.b dX12_evenAt_0 (by decide) ?_
  refine lv_istore_n (lv' := [(2, .int 0), (0, .ref (α 60 g0)), (1, .int x1)]) hc.x hc.b dX12_evenAt_1 rfl hl (by decide) rfl (fun ls hl => ?_)
  refine lv_iconst (v := 0) hc.x hc.b dX12_evenAt_2 (by decide) ?_
  refine lv_istore_n (lv' := [(3, .int 0), (2, .int 0), (0, .ref (α 60 g0)), (1, .int x1)]) hc.x hc.b dX12_evenAt_3 rfl hl (by decide) rfl (fun ls hl => ?_)
  refine w_X12_evenAt_4 hc hr hL0 ?_ _ _ _ _ _ _ hf hd (lv_sub hl [2, 3, 1, 0] rfl)
  intro x2_15 H locs ls hf hd hl
  refine lv_iload_n hc.x hc.b dX12_evenAt_69 rfl (lv_at hl 0 rfl) ?_
  refine lv_iconst (v := (-1)) hc.x hc.b dX12_evenAt_70 (by decide) ?_
  refine jn_s (P := fun J_17 => ∀ (v_16 : Int32) (H : Heap) (locs : List Loc) (ls : Array Slot), J_17 v_16 = some o → Dy s D cs B0 α Lv S H locs → lv_has ls 5 [] → W p l e (Rm 2 0 0) s m args below meth c H locs 0 0 (MQ below (Qi D cs B0 α Lv o S) args s 0 0 (AB B0)) (F0 m 79 ls [.int v_16])) hf ?_ (fun J_17 hJ_17 hf => ?_)
  · intro v_16 H locs ls hf hd hl
    cases hf
    exact r_iret hc hd hr dX12_evenAt_79
  refine lv_icmp_ne (tgt := 78) hc.x hc.b dX12_evenAt_71 (by decide) (fun c_18 => ?_) (fun c_18 => ?_)
  · have hf := br_n c_18 hf
    refine lv_iconst (v := (-1)) hc.x hc.b dX12_evenAt_78 (by decide) ?_
    exact hJ_17 ((-1)) _ _ _ hf hd (lv_sub hl [] rfl)
  · have hf := br_y c_18 hf
    refine lv_iload_n hc.x hc.b dX12_evenAt_74 rfl (lv_at hl 1 rfl) ?_
    refine lv_goto (tgt := 79) hc.x hc.b dX12_evenAt_75 (by decide) ?_
    exact hJ_17 x2_15 _ _ _ hf hd (lv_sub hl [] rfl)
theorem c_X12_evenAt (l : Launch) (D : va_G) (cs : Nat → ClassId) (B0 : Nat) (kt : (Nat → Nat) × (Nat → Nat)) (α : Nat → Nat → Nat) (Lv : Nat → Nat → Prop) (S : St) (g0 : Nat) (x1 : Int32) (hcl : Cl Lv) (hL0 : Lv 60 g0) {o : Int32} (hf : f_X12_evenAt g0 x1 S = some o) : Met l yX12_evenAt (wz yX12_evenAt cX12_evenAt 5 (some .int)) (Rm 2 0 0) (Pz D cs B0 kt α Lv S [.ref (α 60 g0), .int x1]) (Qi D cs B0 α Lv o S) 0 0 (AB B0) := met_of (by decide) rfl hcl (Nat.le_of_ble_eq_true rfl) (fun p e s m below meth c hc hr hd ls hl => b_X12_evenAt hc hr hL0 hf hd hl)
theorem my_X12_evenAt : MyV yX12_evenAt "PumpCrossingModel" cX12_evenAt 5 (some .int) 1 := ⟨tw_1754, (in_sel 79 (by decide +kernel) (by decide +kernel)), tw_11, tw_1755, by decide +kernel⟩
def f_X12_present_2 (g0 : Nat) (K : St → Option (St)) : Nat → Int32 → St → Option (St)
  | 0, _, _ => none
  | n + 1, x1, S => br (4 ≤ x1) (K S) (ck (inb 0 3179 = true) (bv (fun (v_3 : Int32) (S_4 : St) => ck (inb x1 4 = true) (bv (si S_4 70 g0 (nn x1) v_3) (fun S_7 => bv (x1 + 1) (fun x1_8 => f_X12_present_2 g0 K n x1_8 S_7)))) (fun J_5 => br ((gi S 61 g0 (nn 0)) ≤ x1) (J_5 0 S) (ck (inb (12 + x1) 3179 = true) (J_5 (gi S 61 g0 (nn (12 + x1))) S)))))
def f_X12_present (g0 : Nat) (S : St) : Option (St) := f_X12_present_2 g0 (fun  (S_11 : St) => some S_11) FU 0 S
set_option maxRecDepth 100000 in
set_option maxHeartbeats 4000000 in
theorem w_X12_present_2 (hc : Cx p s m args meth c cX12_present 2 "PumpCrossingModel" D cs B0 kt Lv) (hr : meth.sig.returnType = none) {o : St}  {g0 : Nat} {K : St → Option (St)} (hL0 : Lv 60 g0) (hK : ∀  (S : St) (H : Heap) (locs : List Loc) (ls : Array Slot), K S = some o → Dy s D cs B0 α Lv S H locs → lv_has ls 2 [] → W p l e (Rm 0 0 0) s m args below meth c H locs 0 0 (MQ below (Qv D cs B0 α Lv o) args s 0 0 (AB B0)) (F0 m 42 ls [])) : ∀ (n : Nat) (x1 : Int32) (S : St) (H : Heap) (locs : List Loc) (ls : Array Slot), f_X12_present_2 g0 K n x1 S = some o → Dy s D cs B0 α Lv S H locs → lv_has ls 2 [(0, .ref (α 60 g0)), (1, .int x1)] → W p l e (Rm 0 0 0) s m args below meth c H locs 0 0 (MQ below (Qv D cs B0 α Lv o) args s 0 0 (AB B0)) (F0 m 2 ls []) := by
  intro n
  induction n with
  | zero =>
    intro x1 S H locs ls hf
    rw [f_X12_present_2] at hf
    cases hf
  | succ n ih =>
    intro x1 S H locs ls hf hd hl
    rw [f_X12_present_2] at hf
    refine lv_iload_n hc.x hc.b dX12_present_2 rfl (lv_at hl 1 rfl) ?_
    refine lv_iconst (v := 4) hc.x hc.b dX12_present_3 (by decide) ?_
    refine lv_icmp_ge (tgt := 42) hc.x hc.b dX12_present_4 (by decide) (fun c_1 => ?_) (fun c_1 => ?_)
    · have hf := br_y c_1 hf
      exact hK S _ _ _ hf hd (lv_sub hl [] rfl)
    · have hf := br_n c_1 hf
      refine lv_aload_n hc.x hc.b dX12_present_7 rfl (lv_at hl 0 rfl) ?_
      refine fg_60_24 hc hd hL0 tw_1333 dX12_present_8 ?_
      refine lv_iload_n hc.x hc.b dX12_present_11 rfl (lv_at hl 1 rfl) ?_
      refine lv_iload_n hc.x hc.b dX12_present_12 rfl (lv_at hl 1 rfl) ?_
      refine lv_aload_n hc.x hc.b dX12_present_13 rfl (lv_at hl 0 rfl) ?_
      refine fg_60_0 hc hd hL0 tw_1309 dX12_present_14 ?_
      refine lv_iconst (v := 0) hc.x hc.b dX12_present_17 (by decide) ?_
      obtain ⟨hi_2, hf⟩ := ck_s hf
      refine r_iald hc hd (cl_60_told hc.cl hL0) rfl hi_2 dX12_present_18 ?_
      refine jn_s (P := fun J_5 => ∀ (v_3 : Int32) (S_4 : St) (H : Heap) (locs : List Loc) (ls : Array Slot), J_5 v_3 S_4 = some o → Dy s D cs B0 α Lv S_4 H locs → lv_has ls 2 [(0, .ref (α 60 g0)), (1, .int x1)] → W p l e (Rm 0 0 0) s m args below meth c H locs 0 0 (MQ below (Qv D cs B0 α Lv o) args s 0 0 (AB B0)) (F0 m 35 ls [.int v_3, .int x1, .ref (α 70 g0)])) hf ?_ (fun J_5 hJ_5 hf => ?_)
      · intro v_3 S_4 H locs ls hf hd hl
        obtain ⟨hi_6, hf⟩ := ck_s hf
        refine r_iast hc hd (cl_60_now hc.cl hL0) (fun _ => rfl) hi_6 dX12_present_35 (fun H locs hd => ?_)
        obtain ⟨S_7, hd, hf⟩ := nmD hd hf
        obtain ⟨x1_8, ex1_8⟩ : ∃ z : Int32, z = x1 + 1 := ⟨_, rfl⟩
        have hf := bv_n ex1_8 hf
        refine lv_iinc (v := x1_8) (lv' := [(1, .int x1_8), (0, .ref (α 60 g0))]) hc.x hc.b dX12_present_36 hl (k := 1) rfl (by rw [ex1_8]; rfl) (by decide) rfl (fun ls hl => ?_)
        refine lv_goto (tgt := 2) hc.x hc.b dX12_present_39 (by decide) ?_
        exact ih x1_8 S_7 _ _ _ hf hd (lv_sub hl [1, 0] rfl)
      refine lv_icmp_ge (tgt := 34) hc.x hc.b dX12_present_19 (by decide) (fun c_9 => ?_) (fun c_9 => ?_)
      · have hf := br_y c_9 hf
        refine lv_iconst (v := 0) hc.x hc.b dX12_present_34 (by decide) ?_
        exact hJ_5 0 S _ _ _ hf hd (lv_sub hl [0, 1] rfl)
      · have hf := br_n c_9 hf
        refine lv_aload_n hc.x hc.b dX12_present_22 rfl (lv_at hl 0 rfl) ?_
        refine fg_60_0 hc hd hL0 tw_1309 dX12_present_23 ?_
        refine lv_bipush (v := 12) hc.x hc.b dX12_present_26 (by decide) ?_
        refine lv_iload_n hc.x hc.b dX12_present_28 rfl (lv_at hl 1 rfl) ?_
        refine lv_iadd hc.x hc.b dX12_present_29 ?_
        obtain ⟨hi_10, hf⟩ := ck_s hf
        refine r_iald hc hd (cl_60_told hc.cl hL0) rfl hi_10 dX12_present_30 ?_
        refine lv_goto (tgt := 35) hc.x hc.b dX12_present_31 (by decide) ?_
        exact hJ_5 (gi S 61 g0 (nn (12 + x1))) S _ _ _ hf hd (lv_sub hl [0, 1] rfl)
set_option maxRecDepth 100000 in
set_option maxHeartbeats 4000000 in
theorem b_X12_present (hc : Cx p s m args meth c cX12_present 2 "PumpCrossingModel" D cs B0 kt Lv) (hr : meth.sig.returnType = none)  {o : St}  {S : St} {g0 : Nat} (hL0 : Lv 60 g0) {H : Heap} {locs : List Loc} {ls : Array Slot} (hf : f_X12_present g0 S = some o) (hd : Dy s D cs B0 α Lv S H locs) (hl : lv_has ls 2 [(0, .ref (α 60 g0))]) : W p l e (Rm 0 0 0) s m args below meth c H locs 0 0 (MQ below (Qv D cs B0 α Lv o) args s 0 0 (AB B0)) (F0 m 0 ls []) := by
  unfold f_X12_present at hf
  refine lv_iconst (v := 0) hc.x hc.b dX12_present_0 (by decide) ?_
  refine lv_istore_n (lv' := [(1, .int 0), (0, .ref (α 60 g0))]) hc.x hc.b dX12_present_1 rfl hl (by decide) rfl (fun ls hl => ?_)
  refine w_X12_present_2 hc hr hL0 ?_ _ _ _ _ _ _ hf hd (lv_sub hl [1, 0] rfl)
  intro S_11 H locs ls hf hd hl
  cases hf
  exact r_vret hc hd hr dX12_present_42
theorem c_X12_present (l : Launch) (D : va_G) (cs : Nat → ClassId) (B0 : Nat) (kt : (Nat → Nat) × (Nat → Nat)) (α : Nat → Nat → Nat) (Lv : Nat → Nat → Prop) (S : St) (g0 : Nat) (hcl : Cl Lv) (hL0 : Lv 60 g0) {o : St} (hf : f_X12_present g0 S = some o) : Met l yX12_present (wz yX12_present cX12_present 2 none) (Rm 0 0 0) (Pz D cs B0 kt α Lv S [.ref (α 60 g0)]) (Qv D cs B0 α Lv o) 0 0 (AB B0) := met_of (by decide) rfl hcl (Nat.le_of_ble_eq_true rfl) (fun p e s m below meth c hc hr hd ls hl => b_X12_present hc hr hL0 hf hd hl)
theorem my_X12_present : MyV yX12_present "PumpCrossingModel" cX12_present 2 none 0 := ⟨tw_1639, (in_sel 65 (by decide +kernel) (by decide +kernel)), tw_11, tw_1640, by decide +kernel⟩
def f_X12_where_27 (g0 : Nat) (x2 : Int32) (S : St) (K : Int32 → Option (Int32)) : Nat → Int32 → Int32 → Int32 → Option (Int32)
  | 0, _, _, _ => none
  | n + 1, x3, x4, x5 => ck (inb 0 3179 = true) (br ((gi S 61 g0 (nn 0)) ≤ x5) (K x3) (ck (inb 123 3179 = true) (bv (fun (v_9 : Int32) => ck (inb (x2 + 1) 3179 = true) (bv (fun (x3_12 : Int32) (x4_13 : Int32) => bv (x5 + 1) (fun x5_15 => f_X12_where_27 g0 x2 S K n x3_12 x4_13 x5_15)) (fun J_14 => br (x5 = (gi S 61 g0 (nn (x2 + 1)))) (J_14 x3 x4) (br (v_9 = 0) (J_14 x3 x4) (ck (inb x5 4 = true) (ck (inb (x2 + 3) 3179 = true) (br (((gi S 70 g0 (nn x5)) + (gi S 61 g0 (nn (x2 + 3)))) < x4) (ck (inb x5 4 = true) (ck (inb (x2 + 3) 3179 = true) (bv ((gi S 70 g0 (nn x5)) + (gi S 61 g0 (nn (x2 + 3)))) (fun x4_23 => J_14 x5 x4_23)))) (J_14 x3 x4)))))))) (fun J_10 => bv (fun (_u : Unit) => J_10 1) (fun J_24 => br ((gi S 61 g0 (nn 123)) = 1) (J_24 ()) (ck (inb (x2 + 2) 3179 = true) (br (((((gi S 61 g0 (nn (x2 + 2))) : Int32) >>> (x5 &&& 31)) &&& 1) = 1) (J_24 ()) (J_10 0))))))))
def f_X12_where (g0 : Nat) (x1 : Int32) (S : St) : Option (Int32) := bv (28 + (4 * x1)) (fun x2_1 => ck (inb (x2_1 + 1) 3179 = true) (bv (gi S 61 g0 (nn (x2_1 + 1))) (fun x3_3 => ck (inb x3_3 4 = true) (bv (gi S 70 g0 (nn x3_3)) (fun x4_5 => f_X12_where_27 g0 x2_1 S (fun (x3_28 : Int32) => some x3_28) FU x3_3 x4_5 0)))))
set_option maxRecDepth 100000 in
set_option maxHeartbeats 4000000 in
theorem w_X12_where_27 (hc : Cx p s m args meth c cX12_where 7 "PumpCrossingModel" D cs B0 kt Lv) (hr : meth.sig.returnType = some .int) {o : Int32}  {g0 : Nat} {x2 : Int32} {S : St} {K : Int32 → Option (Int32)} (hL0 : Lv 60 g0) (hK : ∀ (k3 : Int32) (H : Heap) (locs : List Loc) (ls : Array Slot), K k3 = some o → Dy s D cs B0 α Lv S H locs → lv_has ls 7 [(3, .int k3)] → W p l e (Rm 0 0 0) s m args below meth c H locs 0 0 (MQ below (Qi D cs B0 α Lv o S) args s 0 0 (AB B0)) (F0 m 142 ls [])) : ∀ (n : Nat) (x3 : Int32) (x4 : Int32) (x5 : Int32) (H : Heap) (locs : List Loc) (ls : Array Slot), f_X12_where_27 g0 x2 S K n x3 x4 x5 = some o → Dy s D cs B0 α Lv S H locs → lv_has ls 7 [(0, .ref (α 60 g0)), (2, .int x2), (3, .int x3), (4, .int x4), (5, .int x5)] → W p l e (Rm 0 0 0) s m args below meth c H locs 0 0 (MQ below (Qi D cs B0 α Lv o S) args s 0 0 (AB B0)) (F0 m 27 ls []) := by
  intro n
  induction n with
  | zero =>
    intro x3 x4 x5 H locs ls hf
    rw [f_X12_where_27] at hf
    cases hf
  | succ n ih =>
    intro x3 x4 x5 H locs ls hf hd hl
    rw [f_X12_where_27] at hf
    refine lv_iload hc.x hc.b dX12_where_27 (lv_at hl 4 rfl) ?_
    refine lv_aload_n hc.x hc.b dX12_where_29 rfl (lv_at hl 0 rfl) ?_
    refine fg_60_0 hc hd hL0 tw_1309 dX12_where_30 ?_
    refine lv_iconst (v := 0) hc.x hc.b dX12_where_33 (by decide) ?_
    obtain ⟨hi_6, hf⟩ := ck_s hf
    refine r_iald hc hd (cl_60_told hc.cl hL0) rfl hi_6 dX12_where_34 ?_
    refine lv_icmp_ge (tgt := 142) hc.x hc.b dX12_where_35 (by decide) (fun c_7 => ?_) (fun c_7 => ?_)
    · have hf := br_y c_7 hf
      exact hK x3 _ _ _ hf hd (lv_sub hl [2] rfl)
    · have hf := br_n c_7 hf
      refine lv_aload_n hc.x hc.b dX12_where_38 rfl (lv_at hl 0 rfl) ?_
      refine fg_60_0 hc hd hL0 tw_1309 dX12_where_39 ?_
      refine lv_bipush (v := 123) hc.x hc.b dX12_where_42 (by decide) ?_
      obtain ⟨hi_8, hf⟩ := ck_s hf
      refine r_iald hc hd (cl_60_told hc.cl hL0) rfl hi_8 dX12_where_44 ?_
      refine lv_iconst (v := 1) hc.x hc.b dX12_where_45 (by decide) ?_
      refine jn_s (P := fun J_10 => ∀ (v_9 : Int32) (H : Heap) (locs : List Loc) (ls : Array Slot), J_10 v_9 = some o → Dy s D cs B0 α Lv S H locs → lv_has ls 7 [(0, .ref (α 60 g0)), (2, .int x2), (3, .int x3), (4, .int x4), (5, .int x5)] → W p l e (Rm 0 0 0) s m args below meth c H locs 0 0 (MQ below (Qi D cs B0 α Lv o S) args s 0 0 (AB B0)) (F0 m 71 ls [.int v_9])) hf ?_ (fun J_10 hJ_10 hf => ?_)
      · intro v_9 H locs ls hf hd hl
        refine lv_istore (lv' := [(6, .int v_9), (0, .ref (α 60 g0)), (2, .int x2), (3, .int x3), (4, .int x4), (5, .int x5)]) hc.x hc.b dX12_where_71 hl (by decide) rfl (fun ls hl => ?_)
        refine lv_iload hc.x hc.b dX12_where_73 (lv_at hl 5 rfl) ?_
        refine lv_aload_n hc.x hc.b dX12_where_75 rfl (lv_at hl 1 rfl) ?_
        refine fg_60_0 hc hd hL0 tw_1309 dX12_where_76 ?_
        refine lv_iload_n hc.x hc.b dX12_where_79 rfl (lv_at hl 2 rfl) ?_
        refine lv_iconst (v := 1) hc.x hc.b dX12_where_80 (by decide) ?_
        refine lv_iadd hc.x hc.b dX12_where_81 ?_
        obtain ⟨hi_11, hf⟩ := ck_s hf
        refine r_iald hc hd (cl_60_told hc.cl hL0) rfl hi_11 dX12_where_82 ?_
        refine jn_s (P := fun J_14 => ∀ (x3_12 : Int32) (x4_13 : Int32) (H : Heap) (locs : List Loc) (ls : Array Slot), J_14 x3_12 x4_13 = some o → Dy s D cs B0 α Lv S H locs → lv_has ls 7 [(0, .ref (α 60 g0)), (2, .int x2), (3, .int x3_12), (4, .int x4_13), (5, .int x5)] → W p l e (Rm 0 0 0) s m args below meth c H locs 0 0 (MQ below (Qi D cs B0 α Lv o S) args s 0 0 (AB B0)) (F0 m 136 ls [])) hf ?_ (fun J_14 hJ_14 hf => ?_)
        · intro x3_12 x4_13 H locs ls hf hd hl
          obtain ⟨x5_15, ex5_15⟩ : ∃ z : Int32, z = x5 + 1 := ⟨_, rfl⟩
          have hf := bv_n ex5_15 hf
          refine lv_iinc (v := x5_15) (lv' := [(5, .int x5_15), (0, .ref (α 60 g0)), (2, .int x2), (3, .int x3_12), (4, .int x4_13)]) hc.x hc.b dX12_where_136 hl (k := 4) rfl (by rw [ex5_15]; rfl) (by decide) rfl (fun ls hl => ?_)
          refine lv_goto (tgt := 27) hc.x hc.b dX12_where_139 (by decide) ?_
          exact ih x3_12 x4_13 x5_15 _ _ _ hf hd (lv_sub hl [1, 2, 3, 4, 0] rfl)
        refine lv_icmp_eq (tgt := 136) hc.x hc.b dX12_where_83 (by decide) (fun c_16 => ?_) (fun c_16 => ?_)
        · have hf := br_y c_16 hf
          exact hJ_14 x3 x4 _ _ _ hf hd (lv_sub hl [1, 2, 3, 4, 5] rfl)
        · have hf := br_n c_16 hf
          refine lv_iload hc.x hc.b dX12_where_86 (lv_at hl 0 rfl) ?_
          refine lv_if_eq (tgt := 136) hc.x hc.b dX12_where_88 (by decide) (fun c_17 => ?_) (fun c_17 => ?_)
          · have hf := br_y c_17 hf
            exact hJ_14 x3 x4 _ _ _ hf hd (lv_sub hl [1, 2, 3, 4, 5] rfl)
          · have hf := br_n c_17 hf
            refine lv_aload_n hc.x hc.b dX12_where_91 rfl (lv_at hl 1 rfl) ?_
            refine fg_60_24 hc hd hL0 tw_1333 dX12_where_92 ?_
            refine lv_iload hc.x hc.b dX12_where_95 (lv_at hl 5 rfl) ?_
            obtain ⟨hi_18, hf⟩ := ck_s hf
            refine r_iald hc hd (cl_60_now hc.cl hL0) rfl hi_18 dX12_where_97 ?_
            refine lv_aload_n hc.x hc.b dX12_where_98 rfl (lv_at hl 1 rfl) ?_
            refine fg_60_0 hc hd hL0 tw_1309 dX12_where_99 ?_
            refine lv_iload_n hc.x hc.b dX12_where_102 rfl (lv_at hl 2 rfl) ?_
            refine lv_iconst (v := 3) hc.x hc.b dX12_where_103 (by decide) ?_
            refine lv_iadd hc.x hc.b dX12_where_104 ?_
            obtain ⟨hi_19, hf⟩ := ck_s hf
            refine r_iald hc hd (cl_60_told hc.cl hL0) rfl hi_19 dX12_where_105 ?_
            refine lv_iadd hc.x hc.b dX12_where_106 ?_
            refine lv_iload hc.x hc.b dX12_where_107 (lv_at hl 4 rfl) ?_
            refine lv_icmp_lt (tgt := 115) hc.x hc.b dX12_where_109 (by decide) (fun c_20 => ?_) (fun c_20 => ?_)
            · have hf := br_y c_20 hf
              refine lv_aload_n hc.x hc.b dX12_where_115 rfl (lv_at hl 1 rfl) ?_
              refine fg_60_24 hc hd hL0 tw_1333 dX12_where_116 ?_
              refine lv_iload hc.x hc.b dX12_where_119 (lv_at hl 5 rfl) ?_
              obtain ⟨hi_21, hf⟩ := ck_s hf
              refine r_iald hc hd (cl_60_now hc.cl hL0) rfl hi_21 dX12_where_121 ?_
              refine lv_aload_n hc.x hc.b dX12_where_122 rfl (lv_at hl 1 rfl) ?_
              refine fg_60_0 hc hd hL0 tw_1309 dX12_where_123 ?_
              refine lv_iload_n hc.x hc.b dX12_where_126 rfl (lv_at hl 2 rfl) ?_
              refine lv_iconst (v := 3) hc.x hc.b dX12_where_127 (by decide) ?_
              refine lv_iadd hc.x hc.b dX12_where_128 ?_
              obtain ⟨hi_22, hf⟩ := ck_s hf
              refine r_iald hc hd (cl_60_told hc.cl hL0) rfl hi_22 dX12_where_129 ?_
              refine lv_iadd hc.x hc.b dX12_where_130 ?_
              refine lv_topi (fun x4_23 ex4_23 => ?_)
              have hf := bv_n ex4_23 hf
              refine lv_istore (lv' := [(4, .int x4_23), (6, .int v_9), (0, .ref (α 60 g0)), (2, .int x2), (3, .int x3), (5, .int x5)]) hc.x hc.b dX12_where_131 hl (by decide) rfl (fun ls hl => ?_)
              refine lv_iload hc.x hc.b dX12_where_133 (lv_at hl 5 rfl) ?_
              refine lv_istore_n (lv' := [(3, .int x5), (4, .int x4_23), (6, .int v_9), (0, .ref (α 60 g0)), (2, .int x2), (5, .int x5)]) hc.x hc.b dX12_where_135 rfl hl (by decide) rfl (fun ls hl => ?_)
              exact hJ_14 x5 x4_23 _ _ _ hf hd (lv_sub hl [3, 4, 0, 1, 5] rfl)
            · have hf := br_n c_20 hf
              refine lv_goto (tgt := 136) hc.x hc.b dX12_where_112 (by decide) ?_
              exact hJ_14 x3 x4 _ _ _ hf hd (lv_sub hl [1, 2, 3, 4, 5] rfl)
      refine jn_s (P := fun J_24 => ∀ (_u : Unit) (H : Heap) (locs : List Loc) (ls : Array Slot), J_24 _u = some o → Dy s D cs B0 α Lv S H locs → lv_has ls 7 [(0, .ref (α 60 g0)), (2, .int x2), (3, .int x3), (4, .int x4), (5, .int x5)] → W p l e (Rm 0 0 0) s m args below meth c H locs 0 0 (MQ below (Qi D cs B0 α Lv o S) args s 0 0 (AB B0)) (F0 m 66 ls [])) hf ?_ (fun J_24 hJ_24 hf => ?_)
      · intro _u H locs ls hf hd hl
        refine lv_iconst (v := 1) hc.x hc.b dX12_where_66 (by decide) ?_
        refine lv_goto (tgt := 71) hc.x hc.b dX12_where_67 (by decide) ?_
        exact hJ_10 1 _ _ _ hf hd (lv_sub hl [0, 1, 2, 3, 4] rfl)
      refine lv_icmp_eq (tgt := 66) hc.x hc.b dX12_where_46 (by decide) (fun c_25 => ?_) (fun c_25 => ?_)
      · have hf := br_y c_25 hf
        exact hJ_24 ()  _ _ _ hf hd (lv_sub hl [0, 1, 2, 3, 4] rfl)
      · have hf := br_n c_25 hf
        refine lv_aload_n hc.x hc.b dX12_where_49 rfl (lv_at hl 0 rfl) ?_
        refine fg_60_0 hc hd hL0 tw_1309 dX12_where_50 ?_
        refine lv_iload_n hc.x hc.b dX12_where_53 rfl (lv_at hl 1 rfl) ?_
        refine lv_iconst (v := 2) hc.x hc.b dX12_where_54 (by decide) ?_
        refine lv_iadd hc.x hc.b dX12_where_55 ?_
        obtain ⟨hi_26, hf⟩ := ck_s hf
        refine r_iald hc hd (cl_60_told hc.cl hL0) rfl hi_26 dX12_where_56 ?_
        refine lv_iload hc.x hc.b dX12_where_57 (lv_at hl 4 rfl) ?_
        refine lv_ishr hc.x hc.b dX12_where_59 ?_
        refine lv_iconst (v := 1) hc.x hc.b dX12_where_60 (by decide) ?_
        refine lv_iand hc.x hc.b dX12_where_61 ?_
        refine lv_iconst (v := 1) hc.x hc.b dX12_where_62 (by decide) ?_
        refine lv_icmp_ne (tgt := 70) hc.x hc.b dX12_where_63 (by decide) (fun c_27 => ?_) (fun c_27 => ?_)
        · have hf := br_n c_27 hf
          refine lv_iconst (v := 0) hc.x hc.b dX12_where_70 (by decide) ?_
          exact hJ_10 0 _ _ _ hf hd (lv_sub hl [0, 1, 2, 3, 4] rfl)
        · have hf := br_y c_27 hf
          exact hJ_24 ()  _ _ _ hf hd (lv_sub hl [0, 1, 2, 3, 4] rfl)
set_option maxRecDepth 100000 in
set_option maxHeartbeats 4000000 in
theorem b_X12_where (hc : Cx p s m args meth c cX12_where 7 "PumpCrossingModel" D cs B0 kt Lv) (hr : meth.sig.returnType = some .int)  {o : Int32}  {S : St} {g0 : Nat} {x1 : Int32} (hL0 : Lv 60 g0) {H : Heap} {locs : List Loc} {ls : Array Slot} (hf : f_X12_where g0 x1 S = some o) (hd : Dy s D cs B0 α Lv S H locs) (hl : lv_has ls 7 [(0, .ref (α 60 g0)), (1, .int x1)]) : W p l e (Rm 0 0 0) s m args below meth c H locs 0 0 (MQ below (Qi D cs B0 α Lv o S) args s 0 0 (AB B0)) (F0 m 0 ls []) := by
  unfold f_X12_where at hf
  refine lv_bipush (v := 28) hc.x hc.b dX12_where_0 (by decide) ?_
  refine lv_iconst (v := 4) hc.x hc.b dX12_where_2 (by decide) ?_
  refine lv_iload_n hc.x hc.b dX12_where_3 rfl (lv_at hl 1 rfl) ?_
  refine lv_imul hc.x hc.b dX12_where_4 ?_
  refine lv_iadd hc.x hc.b dX12_where_5 ?_
  refine lv_topi (fun x2_1 ex2_1 => ?_)
  have hf := bv_n ex2_1 hf
  refine lv_istore_n (lv' := [(2, .int x2_1), (0, .ref (α 60 g0)), (1, .int x1)]) hc.x hc.b dX12_where_6 rfl hl (by decide) rfl (fun ls hl => ?_)
  refine lv_aload_n hc.x hc.b dX12_where_7 rfl (lv_at hl 1 rfl) ?_
  refine fg_60_0 hc hd hL0 tw_1309 dX12_where_8 ?_
  refine lv_iload_n hc.x hc.b dX12_where_11 rfl (lv_at hl 0 rfl) ?_
  refine lv_iconst (v := 1) hc.x hc.b dX12_where_12 (by decide) ?_
  refine lv_iadd hc.x hc.b dX12_where_13 ?_
  obtain ⟨hi_2, hf⟩ := ck_s hf
  refine r_iald hc hd (cl_60_told hc.cl hL0) rfl hi_2 dX12_where_14 ?_
  refine lv_topi (fun x3_3 ex3_3 => ?_)
  have hf := bv_n ex3_3 hf
  refine lv_istore_n (lv' := [(3, .int x3_3), (2, .int x2_1), (0, .ref (α 60 g0)), (1, .int x1)]) hc.x hc.b dX12_where_15 rfl hl (by decide) rfl (fun ls hl => ?_)
  refine lv_aload_n hc.x hc.b dX12_where_16 rfl (lv_at hl 2 rfl) ?_
  refine fg_60_24 hc hd hL0 tw_1333 dX12_where_17 ?_
  refine lv_iload_n hc.x hc.b dX12_where_20 rfl (lv_at hl 0 rfl) ?_
  obtain ⟨hi_4, hf⟩ := ck_s hf
  refine r_iald hc hd (cl_60_now hc.cl hL0) rfl hi_4 dX12_where_21 ?_
  refine lv_topi (fun x4_5 ex4_5 => ?_)
  have hf := bv_n ex4_5 hf
  refine lv_istore (lv' := [(4, .int x4_5), (3, .int x3_3), (2, .int x2_1), (0, .ref (α 60 g0)), (1, .int x1)]) hc.x hc.b dX12_where_22 hl (by decide) rfl (fun ls hl => ?_)
  refine lv_iconst (v := 0) hc.x hc.b dX12_where_24 (by decide) ?_
  refine lv_istore (lv' := [(5, .int 0), (4, .int x4_5), (3, .int x3_3), (2, .int x2_1), (0, .ref (α 60 g0)), (1, .int x1)]) hc.x hc.b dX12_where_25 hl (by decide) rfl (fun ls hl => ?_)
  refine w_X12_where_27 hc hr hL0 ?_ _ _ _ _ _ _ _ hf hd (lv_sub hl [4, 3, 2, 1, 0] rfl)
  intro x3_28 H locs ls hf hd hl
  refine lv_iload_n hc.x hc.b dX12_where_142 rfl (lv_at hl 0 rfl) ?_
  cases hf
  exact r_iret hc hd hr dX12_where_143
theorem c_X12_where (l : Launch) (D : va_G) (cs : Nat → ClassId) (B0 : Nat) (kt : (Nat → Nat) × (Nat → Nat)) (α : Nat → Nat → Nat) (Lv : Nat → Nat → Prop) (S : St) (g0 : Nat) (x1 : Int32) (hcl : Cl Lv) (hL0 : Lv 60 g0) {o : Int32} (hf : f_X12_where g0 x1 S = some o) : Met l yX12_where (wz yX12_where cX12_where 7 (some .int)) (Rm 0 0 0) (Pz D cs B0 kt α Lv S [.ref (α 60 g0), .int x1]) (Qi D cs B0 α Lv o S) 0 0 (AB B0) := met_of (by decide) rfl hcl (Nat.le_of_ble_eq_true rfl) (fun p e s m below meth c hc hr hd ls hl => b_X12_where hc hr hL0 hf hd hl)
theorem my_X12_where : MyV yX12_where "PumpCrossingModel" cX12_where 7 (some .int) 1 := ⟨tw_1643, (in_sel 66 (by decide +kernel) (by decide +kernel)), tw_11, tw_1644, by decide +kernel⟩
def f_X12_profit_4 (g0 : Nat) (x1 : Int32) (S : St) (K : Int32 → Option (Int32)) : Nat → Int32 → Int32 → Option (Int32)
  | 0, _, _ => none
  | n + 1, x2, x3 => ck (inb 1 3179 = true) (br ((gi S 61 g0 (nn 1)) ≤ x3) (K x2) (on (f_X12_where g0 x3 S) (fun r_4 => bv (fun (x2_5 : Int32) => bv (x3 + 1) (fun x3_7 => f_X12_profit_4 g0 x1 S K n x2_5 x3_7)) (fun J_6 => br (r_4 = x1) (ck (inb (28 + (4 * x3)) 3179 = true) (ck (inb x1 4 = true) (ck (inb (8 + x1) 3179 = true) (bv (x2 + ((gi S 61 g0 (nn (28 + (4 * x3)))) * ((gi S 70 g0 (nn x1)) - (gi S 61 g0 (nn (8 + x1)))))) (fun x2_12 => J_6 x2_12))))) (J_6 x2)))))
def f_X12_profit (g0 : Nat) (x1 : Int32) (S : St) : Option (Int32) := f_X12_profit_4 g0 x1 S (fun (x2_13 : Int32) => some x2_13) FU 0 0
set_option maxRecDepth 100000 in
set_option maxHeartbeats 4000000 in
theorem w_X12_profit_4 (hc : Cx p s m args meth c cX12_profit 4 "PumpCrossingModel" D cs B0 kt Lv) (hr : meth.sig.returnType = some .int) {o : Int32}  {g0 : Nat} {x1 : Int32} {S : St} {K : Int32 → Option (Int32)} (hL0 : Lv 60 g0) (hK : ∀ (k2 : Int32) (H : Heap) (locs : List Loc) (ls : Array Slot), K k2 = some o → Dy s D cs B0 α Lv S H locs → lv_has ls 4 [(2, .int k2)] → W p l e (Rm 1 0 0) s m args below meth c H locs 0 0 (MQ below (Qi D cs B0 α Lv o S) args s 0 0 (AB B0)) (F0 m 60 ls [])) : ∀ (n : Nat) (x2 : Int32) (x3 : Int32) (H : Heap) (locs : List Loc) (ls : Array Slot), f_X12_profit_4 g0 x1 S K n x2 x3 = some o → Dy s D cs B0 α Lv S H locs → lv_has ls 4 [(0, .ref (α 60 g0)), (1, .int x1), (2, .int x2), (3, .int x3)] → W p l e (Rm 1 0 0) s m args below meth c H locs 0 0 (MQ below (Qi D cs B0 α Lv o S) args s 0 0 (AB B0)) (F0 m 4 ls []) := by
  intro n
  induction n with
  | zero =>
    intro x2 x3 H locs ls hf
    rw [f_X12_profit_4] at hf
    cases hf
  | succ n ih =>
    intro x2 x3 H locs ls hf hd hl
    rw [f_X12_profit_4] at hf
    refine lv_iload_n hc.x hc.b dX12_profit_4 rfl (lv_at hl 3 rfl) ?_
    refine lv_aload_n hc.x hc.b dX12_profit_5 rfl (lv_at hl 0 rfl) ?_
    refine fg_60_0 hc hd hL0 tw_1309 dX12_profit_6 ?_
    refine lv_iconst (v := 1) hc.x hc.b dX12_profit_9 (by decide) ?_
    obtain ⟨hi_1, hf⟩ := ck_s hf
    refine r_iald hc hd (cl_60_told hc.cl hL0) rfl hi_1 dX12_profit_10 ?_
    refine lv_icmp_ge (tgt := 60) hc.x hc.b dX12_profit_11 (by decide) (fun c_2 => ?_) (fun c_2 => ?_)
    · have hf := br_y c_2 hf
      exact hK x2 _ _ _ hf hd (lv_sub hl [2] rfl)
    · have hf := br_n c_2 hf
      refine lv_aload_n hc.x hc.b dX12_profit_14 rfl (lv_at hl 0 rfl) ?_
      refine lv_iload_n hc.x hc.b dX12_profit_15 rfl (lv_at hl 3 rfl) ?_
      obtain ⟨r_4, hq_3, hf⟩ := on_s hf
      refine k_i (k_runV hc hd my_X12_where tw_1641 hL0 rfl rfl rfl (c_X12_where l D cs B0 kt α Lv S g0 x3 hc.cl hL0  hq_3) rfl rfl hl.1 (Nat.le_of_ble_eq_true rfl) ⟨Nat.le_of_ble_eq_true rfl, Nat.le_of_ble_eq_true rfl, Nat.zero_le _, Nat.zero_le _⟩ dX12_profit_16) hd (fun H locs hd => ?_)
      refine lv_iload_n hc.x hc.b dX12_profit_19 rfl (lv_at hl 1 rfl) ?_
      refine jn_s (P := fun J_6 => ∀ (x2_5 : Int32) (H : Heap) (locs : List Loc) (ls : Array Slot), J_6 x2_5 = some o → Dy s D cs B0 α Lv S H locs → lv_has ls 4 [(0, .ref (α 60 g0)), (1, .int x1), (2, .int x2_5), (3, .int x3)] → W p l e (Rm 1 0 0) s m args below meth c H locs 0 0 (MQ below (Qi D cs B0 α Lv o S) args s 0 0 (AB B0)) (F0 m 54 ls [])) hf ?_ (fun J_6 hJ_6 hf => ?_)
      · intro x2_5 H locs ls hf hd hl
        obtain ⟨x3_7, ex3_7⟩ : ∃ z : Int32, z = x3 + 1 := ⟨_, rfl⟩
        have hf := bv_n ex3_7 hf
        refine lv_iinc (v := x3_7) (lv' := [(3, .int x3_7), (0, .ref (α 60 g0)), (1, .int x1), (2, .int x2_5)]) hc.x hc.b dX12_profit_54 hl (k := 3) rfl (by rw [ex3_7]; rfl) (by decide) rfl (fun ls hl => ?_)
        refine lv_goto (tgt := 4) hc.x hc.b dX12_profit_57 (by decide) ?_
        exact ih x2_5 x3_7 _ _ _ hf hd (lv_sub hl [1, 2, 3, 0] rfl)
      refine lv_icmp_ne (tgt := 54) hc.x hc.b dX12_profit_20 (by decide) (fun c_8 => ?_) (fun c_8 => ?_)
      · have hf := br_n c_8 hf
        exact hJ_6 x2 _ _ _ hf hd (lv_sub hl [0, 1, 2, 3] rfl)
      · have hf := br_y c_8 hf
        refine lv_iload_n hc.x hc.b dX12_profit_23 rfl (lv_at hl 2 rfl) ?_
        refine lv_aload_n hc.x hc.b dX12_profit_24 rfl (lv_at hl 0 rfl) ?_
        refine fg_60_0 hc hd hL0 tw_1309 dX12_profit_25 ?_
        refine lv_bipush (v := 28) hc.x hc.b dX12_profit_28 (by decide) ?_
        refine lv_iconst (v := 4) hc.x hc.b dX12_profit_30 (by decide) ?_
        refine lv_iload_n hc.x hc.b dX12_profit_31 rfl (lv_at hl 3 rfl) ?_
        refine lv_imul hc.x hc.b dX12_profit_32 ?_
        refine lv_iadd hc.x hc.b dX12_profit_33 ?_
        obtain ⟨hi_9, hf⟩ := ck_s hf
        refine r_iald hc hd (cl_60_told hc.cl hL0) rfl hi_9 dX12_profit_34 ?_
        refine lv_aload_n hc.x hc.b dX12_profit_35 rfl (lv_at hl 0 rfl) ?_
        refine fg_60_24 hc hd hL0 tw_1333 dX12_profit_36 ?_
        refine lv_iload_n hc.x hc.b dX12_profit_39 rfl (lv_at hl 1 rfl) ?_
        obtain ⟨hi_10, hf⟩ := ck_s hf
        refine r_iald hc hd (cl_60_now hc.cl hL0) rfl hi_10 dX12_profit_40 ?_
        refine lv_aload_n hc.x hc.b dX12_profit_41 rfl (lv_at hl 0 rfl) ?_
        refine fg_60_0 hc hd hL0 tw_1309 dX12_profit_42 ?_
        refine lv_bipush (v := 8) hc.x hc.b dX12_profit_45 (by decide) ?_
        refine lv_iload_n hc.x hc.b dX12_profit_47 rfl (lv_at hl 1 rfl) ?_
        refine lv_iadd hc.x hc.b dX12_profit_48 ?_
        obtain ⟨hi_11, hf⟩ := ck_s hf
        refine r_iald hc hd (cl_60_told hc.cl hL0) rfl hi_11 dX12_profit_49 ?_
        refine lv_isub hc.x hc.b dX12_profit_50 ?_
        refine lv_imul hc.x hc.b dX12_profit_51 ?_
        refine lv_iadd hc.x hc.b dX12_profit_52 ?_
        refine lv_topi (fun x2_12 ex2_12 => ?_)
        have hf := bv_n ex2_12 hf
        refine lv_istore_n (lv' := [(2, .int x2_12), (0, .ref (α 60 g0)), (1, .int x1), (3, .int x3)]) hc.x hc.b dX12_profit_53 rfl hl (by decide) rfl (fun ls hl => ?_)
        exact hJ_6 x2_12 _ _ _ hf hd (lv_sub hl [1, 2, 0, 3] rfl)
set_option maxRecDepth 100000 in
set_option maxHeartbeats 4000000 in
theorem b_X12_profit (hc : Cx p s m args meth c cX12_profit 4 "PumpCrossingModel" D cs B0 kt Lv) (hr : meth.sig.returnType = some .int)  {o : Int32}  {S : St} {g0 : Nat} {x1 : Int32} (hL0 : Lv 60 g0) {H : Heap} {locs : List Loc} {ls : Array Slot} (hf : f_X12_profit g0 x1 S = some o) (hd : Dy s D cs B0 α Lv S H locs) (hl : lv_has ls 4 [(0, .ref (α 60 g0)), (1, .int x1)]) : W p l e (Rm 1 0 0) s m args below meth c H locs 0 0 (MQ below (Qi D cs B0 α Lv o S) args s 0 0 (AB B0)) (F0 m 0 ls []) := by
  unfold f_X12_profit at hf
  refine lv_iconst (v := 0) hc.x hc.b dX12_profit_0 (by decide) ?_
  refine lv_istore_n (lv' := [(2, .int 0), (0, .ref (α 60 g0)), (1, .int x1)]) hc.x hc.b dX12_profit_1 rfl hl (by decide) rfl (fun ls hl => ?_)
  refine lv_iconst (v := 0) hc.x hc.b dX12_profit_2 (by decide) ?_
  refine lv_istore_n (lv' := [(3, .int 0), (2, .int 0), (0, .ref (α 60 g0)), (1, .int x1)]) hc.x hc.b dX12_profit_3 rfl hl (by decide) rfl (fun ls hl => ?_)
  refine w_X12_profit_4 hc hr hL0 ?_ _ _ _ _ _ _ hf hd (lv_sub hl [2, 3, 1, 0] rfl)
  intro x2_13 H locs ls hf hd hl
  refine lv_iload_n hc.x hc.b dX12_profit_60 rfl (lv_at hl 0 rfl) ?_
  cases hf
  exact r_iret hc hd hr dX12_profit_61
theorem c_X12_profit (l : Launch) (D : va_G) (cs : Nat → ClassId) (B0 : Nat) (kt : (Nat → Nat) × (Nat → Nat)) (α : Nat → Nat → Nat) (Lv : Nat → Nat → Prop) (S : St) (g0 : Nat) (x1 : Int32) (hcl : Cl Lv) (hL0 : Lv 60 g0) {o : Int32} (hf : f_X12_profit g0 x1 S = some o) : Met l yX12_profit (wz yX12_profit cX12_profit 4 (some .int)) (Rm 1 0 0) (Pz D cs B0 kt α Lv S [.ref (α 60 g0), .int x1]) (Qi D cs B0 α Lv o S) 0 0 (AB B0) := met_of (by decide) rfl hcl (Nat.le_of_ble_eq_true rfl) (fun p e s m below meth c hc hr hd ls hl => b_X12_profit hc hr hL0 hf hd hl)
theorem my_X12_profit : MyV yX12_profit "PumpCrossingModel" cX12_profit 4 (some .int) 1 := ⟨tw_1738, (in_sel 77 (by decide +kernel) (by decide +kernel)), tw_11, tw_1739, by decide +kernel⟩
def f_X12_layGains_19 (g0 : Nat) (x1 : Int32) (x2 : Int32) (x3 : Int32) (K : St → Option (St)) : Nat → Int32 → St → Option (St)
  | 0, _, _ => none
  | n + 1, x4, S => ck (inb 3 3179 = true) (br ((gi S 61 g0 (nn 3)) ≤ x4) (K S) (ck (inb (52 + x3) 3179 = true) (ck (inb x1 4 = true) (bv (si S 70 g0 (nn x1) (gi S 61 g0 (nn (52 + x3)))) (fun S_9 => ck (inb (52 + x4) 3179 = true) (ck (inb x2 4 = true) (bv (si S_9 70 g0 (nn x2) (gi S_9 61 g0 (nn (52 + x4)))) (fun S_12 => on (f_X12_profit g0 x1 S_12) (fun r_14 => ck (inb ((8 * x3) + x4) 128 = true) (bv (si S_12 72 g0 (nn ((8 * x3) + x4)) r_14) (fun S_16 => on (f_X12_profit g0 x2 S_16) (fun r_18 => ck (inb ((64 + (8 * x3)) + x4) 128 = true) (bv (si S_16 72 g0 (nn ((64 + (8 * x3)) + x4)) r_18) (fun S_20 => bv (x4 + 1) (fun x4_21 => f_X12_layGains_19 g0 x1 x2 x3 K n x4_21 S_20)))))))))))))))
def f_X12_layGains_6 (g0 : Nat) (x1 : Int32) (x2 : Int32) (K : St → Option (St)) : Nat → Int32 → St → Option (St)
  | 0, _, _ => none
  | n + 1, x3, S => ck (inb 3 3179 = true) (br ((gi S 61 g0 (nn 3)) ≤ x3) (K S) (f_X12_layGains_19 g0 x1 x2 x3 (fun  (S_22 : St) => bv (x3 + 1) (fun x3_23 => f_X12_layGains_6 g0 x1 x2 K n x3_23 S_22)) FU 0 S))
def f_X12_layGains (g0 : Nat) (x1 : Int32) (x2 : Int32) (S : St) : Option (St) := on (f_X12_present g0 S) (fun S_2 => f_X12_layGains_6 g0 x1 x2 (fun  (S_24 : St) => some S_24) FU 0 S_2)
set_option maxRecDepth 100000 in
set_option maxHeartbeats 4000000 in
theorem w_X12_layGains_19 (hc : Cx p s m args meth c cX12_layGains 5 "PumpCrossingModel" D cs B0 kt Lv) (hr : meth.sig.returnType = none) {o : St}  {g0 : Nat} {x1 : Int32} {x2 : Int32} {x3 : Int32} {K : St → Option (St)} (hL0 : Lv 60 g0) (hK : ∀  (S : St) (H : Heap) (locs : List Loc) (ls : Array Slot), K S = some o → Dy s D cs B0 α Lv S H locs → lv_has ls 5 [(0, .ref (α 60 g0)), (1, .int x1), (2, .int x2), (3, .int x3)] → W p l e (Rm 2 0 0) s m args below meth c H locs 0 0 (MQ below (Qv D cs B0 α Lv o) args s 0 0 (AB B0)) (F0 m 104 ls [])) : ∀ (n : Nat) (x4 : Int32) (S : St) (H : Heap) (locs : List Loc) (ls : Array Slot), f_X12_layGains_19 g0 x1 x2 x3 K n x4 S = some o → Dy s D cs B0 α Lv S H locs → lv_has ls 5 [(0, .ref (α 60 g0)), (1, .int x1), (2, .int x2), (3, .int x3), (4, .int x4)] → W p l e (Rm 2 0 0) s m args below meth c H locs 0 0 (MQ below (Qv D cs B0 α Lv o) args s 0 0 (AB B0)) (F0 m 19 ls []) := by
  intro n
  induction n with
  | zero =>
    intro x4 S H locs ls hf
    rw [f_X12_layGains_19] at hf
    cases hf
  | succ n ih =>
    intro x4 S H locs ls hf hd hl
    rw [f_X12_layGains_19] at hf
    refine lv_iload hc.x hc.b dX12_layGains_19 (lv_at hl 4 rfl) ?_
    refine lv_aload_n hc.x hc.b dX12_layGains_21 rfl (lv_at hl 0 rfl) ?_
    refine fg_60_0 hc hd hL0 tw_1309 dX12_layGains_22 ?_
    refine lv_iconst (v := 3) hc.x hc.b dX12_layGains_25 (by decide) ?_
    obtain ⟨hi_5, hf⟩ := ck_s hf
    refine r_iald hc hd (cl_60_told hc.cl hL0) rfl hi_5 dX12_layGains_26 ?_
    refine lv_icmp_ge (tgt := 104) hc.x hc.b dX12_layGains_27 (by decide) (fun c_6 => ?_) (fun c_6 => ?_)
    · have hf := br_y c_6 hf
      exact hK S _ _ _ hf hd (lv_sub hl [0, 1, 2, 3] rfl)
    · have hf := br_n c_6 hf
      refine lv_aload_n hc.x hc.b dX12_layGains_30 rfl (lv_at hl 0 rfl) ?_
      refine fg_60_24 hc hd hL0 tw_1333 dX12_layGains_31 ?_
      refine lv_iload_n hc.x hc.b dX12_layGains_34 rfl (lv_at hl 1 rfl) ?_
      refine lv_aload_n hc.x hc.b dX12_layGains_35 rfl (lv_at hl 0 rfl) ?_
      refine fg_60_0 hc hd hL0 tw_1309 dX12_layGains_36 ?_
      refine lv_bipush (v := 52) hc.x hc.b dX12_layGains_39 (by decide) ?_
      refine lv_iload_n hc.x hc.b dX12_layGains_41 rfl (lv_at hl 3 rfl) ?_
      refine lv_iadd hc.x hc.b dX12_layGains_42 ?_
      obtain ⟨hi_7, hf⟩ := ck_s hf
      refine r_iald hc hd (cl_60_told hc.cl hL0) rfl hi_7 dX12_layGains_43 ?_
      obtain ⟨hi_8, hf⟩ := ck_s hf
      refine r_iast hc hd (cl_60_now hc.cl hL0) (fun _ => rfl) hi_8 dX12_layGains_44 (fun H locs hd => ?_)
      obtain ⟨S_9, hd, hf⟩ := nmD hd hf
      refine lv_aload_n hc.x hc.b dX12_layGains_45 rfl (lv_at hl 0 rfl) ?_
      refine fg_60_24 hc hd hL0 tw_1333 dX12_layGains_46 ?_
      refine lv_iload_n hc.x hc.b dX12_layGains_49 rfl (lv_at hl 2 rfl) ?_
      refine lv_aload_n hc.x hc.b dX12_layGains_50 rfl (lv_at hl 0 rfl) ?_
      refine fg_60_0 hc hd hL0 tw_1309 dX12_layGains_51 ?_
      refine lv_bipush (v := 52) hc.x hc.b dX12_layGains_54 (by decide) ?_
      refine lv_iload hc.x hc.b dX12_layGains_56 (lv_at hl 4 rfl) ?_
      refine lv_iadd hc.x hc.b dX12_layGains_58 ?_
      obtain ⟨hi_10, hf⟩ := ck_s hf
      refine r_iald hc hd (cl_60_told hc.cl hL0) rfl hi_10 dX12_layGains_59 ?_
      obtain ⟨hi_11, hf⟩ := ck_s hf
      refine r_iast hc hd (cl_60_now hc.cl hL0) (fun _ => rfl) hi_11 dX12_layGains_60 (fun H locs hd => ?_)
      obtain ⟨S_12, hd, hf⟩ := nmD hd hf
      refine lv_aload_n hc.x hc.b dX12_layGains_61 rfl (lv_at hl 0 rfl) ?_
      refine fg_60_28 hc hd hL0 tw_1337 dX12_layGains_62 ?_
      refine lv_bipush (v := 8) hc.x hc.b dX12_layGains_65 (by decide) ?_
      refine lv_iload_n hc.x hc.b dX12_layGains_67 rfl (lv_at hl 3 rfl) ?_
      refine lv_imul hc.x hc.b dX12_layGains_68 ?_
      refine lv_iload hc.x hc.b dX12_layGains_69 (lv_at hl 4 rfl) ?_
      refine lv_iadd hc.x hc.b dX12_layGains_71 ?_
      refine lv_aload_n hc.x hc.b dX12_layGains_72 rfl (lv_at hl 0 rfl) ?_
      refine lv_iload_n hc.x hc.b dX12_layGains_73 rfl (lv_at hl 1 rfl) ?_
      obtain ⟨r_14, hq_13, hf⟩ := on_s hf
      refine k_i (k_runV hc hd my_X12_profit tw_1736 hL0 rfl rfl rfl (c_X12_profit l D cs B0 kt α Lv S_12 g0 x1 hc.cl hL0  hq_13) rfl rfl hl.1 (Nat.le_of_ble_eq_true rfl) ⟨Nat.le_of_ble_eq_true rfl, Nat.le_of_ble_eq_true rfl, Nat.zero_le _, Nat.zero_le _⟩ dX12_layGains_74) hd (fun H locs hd => ?_)
      obtain ⟨hi_15, hf⟩ := ck_s hf
      refine r_iast hc hd (cl_60_gains hc.cl hL0) (fun _ => rfl) hi_15 dX12_layGains_77 (fun H locs hd => ?_)
      obtain ⟨S_16, hd, hf⟩ := nmD hd hf
      refine lv_aload_n hc.x hc.b dX12_layGains_78 rfl (lv_at hl 0 rfl) ?_
      refine fg_60_28 hc hd hL0 tw_1337 dX12_layGains_79 ?_
      refine lv_bipush (v := 64) hc.x hc.b dX12_layGains_82 (by decide) ?_
      refine lv_bipush (v := 8) hc.x hc.b dX12_layGains_84 (by decide) ?_
      refine lv_iload_n hc.x hc.b dX12_layGains_86 rfl (lv_at hl 3 rfl) ?_
      refine lv_imul hc.x hc.b dX12_layGains_87 ?_
      refine lv_iadd hc.x hc.b dX12_layGains_88 ?_
      refine lv_iload hc.x hc.b dX12_layGains_89 (lv_at hl 4 rfl) ?_
      refine lv_iadd hc.x hc.b dX12_layGains_91 ?_
      refine lv_aload_n hc.x hc.b dX12_layGains_92 rfl (lv_at hl 0 rfl) ?_
      refine lv_iload_n hc.x hc.b dX12_layGains_93 rfl (lv_at hl 2 rfl) ?_
      obtain ⟨r_18, hq_17, hf⟩ := on_s hf
      refine k_i (k_runV hc hd my_X12_profit tw_1736 hL0 rfl rfl rfl (c_X12_profit l D cs B0 kt α Lv S_16 g0 x2 hc.cl hL0  hq_17) rfl rfl hl.1 (Nat.le_of_ble_eq_true rfl) ⟨Nat.le_of_ble_eq_true rfl, Nat.le_of_ble_eq_true rfl, Nat.zero_le _, Nat.zero_le _⟩ dX12_layGains_94) hd (fun H locs hd => ?_)
      obtain ⟨hi_19, hf⟩ := ck_s hf
      refine r_iast hc hd (cl_60_gains hc.cl hL0) (fun _ => rfl) hi_19 dX12_layGains_97 (fun H locs hd => ?_)
      obtain ⟨S_20, hd, hf⟩ := nmD hd hf
      obtain ⟨x4_21, ex4_21⟩ : ∃ z : Int32, z = x4 + 1 := ⟨_, rfl⟩
      have hf := bv_n ex4_21 hf
      refine lv_iinc (v := x4_21) (lv' := [(4, .int x4_21), (0, .ref (α 60 g0)), (1, .int x1), (2, .int x2), (3, .int x3)]) hc.x hc.b dX12_layGains_98 hl (k := 4) rfl (by rw [ex4_21]; rfl) (by decide) rfl (fun ls hl => ?_)
      refine lv_goto (tgt := 19) hc.x hc.b dX12_layGains_101 (by decide) ?_
      exact ih x4_21 S_20 _ _ _ hf hd (lv_sub hl [1, 2, 3, 4, 0] rfl)
set_option maxRecDepth 100000 in
set_option maxHeartbeats 4000000 in
theorem w_X12_layGains_6 (hc : Cx p s m args meth c cX12_layGains 5 "PumpCrossingModel" D cs B0 kt Lv) (hr : meth.sig.returnType = none) {o : St}  {g0 : Nat} {x1 : Int32} {x2 : Int32} {K : St → Option (St)} (hL0 : Lv 60 g0) (hK : ∀  (S : St) (H : Heap) (locs : List Loc) (ls : Array Slot), K S = some o → Dy s D cs B0 α Lv S H locs → lv_has ls 5 [] → W p l e (Rm 2 0 0) s m args below meth c H locs 0 0 (MQ below (Qv D cs B0 α Lv o) args s 0 0 (AB B0)) (F0 m 110 ls [])) : ∀ (n : Nat) (x3 : Int32) (S : St) (H : Heap) (locs : List Loc) (ls : Array Slot), f_X12_layGains_6 g0 x1 x2 K n x3 S = some o → Dy s D cs B0 α Lv S H locs → lv_has ls 5 [(0, .ref (α 60 g0)), (1, .int x1), (2, .int x2), (3, .int x3)] → W p l e (Rm 2 0 0) s m args below meth c H locs 0 0 (MQ below (Qv D cs B0 α Lv o) args s 0 0 (AB B0)) (F0 m 6 ls []) := by
  intro n
  induction n with
  | zero =>
    intro x3 S H locs ls hf
    rw [f_X12_layGains_6] at hf
    cases hf
  | succ n ih =>
    intro x3 S H locs ls hf hd hl
    rw [f_X12_layGains_6] at hf
    refine lv_iload_n hc.x hc.b dX12_layGains_6 rfl (lv_at hl 3 rfl) ?_
    refine lv_aload_n hc.x hc.b dX12_layGains_7 rfl (lv_at hl 0 rfl) ?_
    refine fg_60_0 hc hd hL0 tw_1309 dX12_layGains_8 ?_
    refine lv_iconst (v := 3) hc.x hc.b dX12_layGains_11 (by decide) ?_
    obtain ⟨hi_3, hf⟩ := ck_s hf
    refine r_iald hc hd (cl_60_told hc.cl hL0) rfl hi_3 dX12_layGains_12 ?_
    refine lv_icmp_ge (tgt := 110) hc.x hc.b dX12_layGains_13 (by decide) (fun c_4 => ?_) (fun c_4 => ?_)
    · have hf := br_y c_4 hf
      exact hK S _ _ _ hf hd (lv_sub hl [] rfl)
    · have hf := br_n c_4 hf
      refine lv_iconst (v := 0) hc.x hc.b dX12_layGains_16 (by decide) ?_
      refine lv_istore (lv' := [(4, .int 0), (0, .ref (α 60 g0)), (1, .int x1), (2, .int x2), (3, .int x3)]) hc.x hc.b dX12_layGains_17 hl (by decide) rfl (fun ls hl => ?_)
      refine w_X12_layGains_19 hc hr hL0 ?_ _ _ _ _ _ _ hf hd (lv_sub hl [1, 2, 3, 4, 0] rfl)
      intro S_22 H locs ls hf hd hl
      obtain ⟨x3_23, ex3_23⟩ : ∃ z : Int32, z = x3 + 1 := ⟨_, rfl⟩
      have hf := bv_n ex3_23 hf
      refine lv_iinc (v := x3_23) (lv' := [(3, .int x3_23), (0, .ref (α 60 g0)), (1, .int x1), (2, .int x2)]) hc.x hc.b dX12_layGains_104 hl (k := 3) rfl (by rw [ex3_23]; rfl) (by decide) rfl (fun ls hl => ?_)
      refine lv_goto (tgt := 6) hc.x hc.b dX12_layGains_107 (by decide) ?_
      exact ih x3_23 S_22 _ _ _ hf hd (lv_sub hl [1, 2, 3, 0] rfl)
set_option maxRecDepth 100000 in
set_option maxHeartbeats 4000000 in
theorem b_X12_layGains (hc : Cx p s m args meth c cX12_layGains 5 "PumpCrossingModel" D cs B0 kt Lv) (hr : meth.sig.returnType = none)  {o : St}  {S : St} {g0 : Nat} {x1 : Int32} {x2 : Int32} (hL0 : Lv 60 g0) {H : Heap} {locs : List Loc} {ls : Array Slot} (hf : f_X12_layGains g0 x1 x2 S = some o) (hd : Dy s D cs B0 α Lv S H locs) (hl : lv_has ls 5 [(0, .ref (α 60 g0)), (1, .int x1), (2, .int x2)]) : W p l e (Rm 2 0 0) s m args below meth c H locs 0 0 (MQ below (Qv D cs B0 α Lv o) args s 0 0 (AB B0)) (F0 m 0 ls []) := by
  unfold f_X12_layGains at hf
  refine lv_aload_n hc.x hc.b dX12_layGains_0 rfl (lv_at hl 0 rfl) ?_
  obtain ⟨S_2, hq_1, hf⟩ := on_s hf
  refine k_v (k_runV hc hd my_X12_present tw_1637 hL0 rfl rfl rfl (c_X12_present l D cs B0 kt α Lv S g0 hc.cl hL0  hq_1) rfl rfl hl.1 (Nat.le_of_ble_eq_true rfl) ⟨Nat.le_of_ble_eq_true rfl, Nat.le_of_ble_eq_true rfl, Nat.zero_le _, Nat.zero_le _⟩ dX12_layGains_1) hd (fun H locs hd => ?_)
  refine lv_iconst (v := 0) hc.x hc.b dX12_layGains_4 (by decide) ?_
  refine lv_istore_n (lv' := [(3, .int 0), (0, .ref (α 60 g0)), (1, .int x1), (2, .int x2)]) hc.x hc.b dX12_layGains_5 rfl hl (by decide) rfl (fun ls hl => ?_)
  refine w_X12_layGains_6 hc hr hL0 ?_ _ _ _ _ _ _ hf hd (lv_sub hl [1, 2, 3, 0] rfl)
  intro S_24 H locs ls hf hd hl
  cases hf
  exact r_vret hc hd hr dX12_layGains_110
theorem c_X12_layGains (l : Launch) (D : va_G) (cs : Nat → ClassId) (B0 : Nat) (kt : (Nat → Nat) × (Nat → Nat)) (α : Nat → Nat → Nat) (Lv : Nat → Nat → Prop) (S : St) (g0 : Nat) (x1 : Int32) (x2 : Int32) (hcl : Cl Lv) (hL0 : Lv 60 g0) {o : St} (hf : f_X12_layGains g0 x1 x2 S = some o) : Met l yX12_layGains (wz yX12_layGains cX12_layGains 5 none) (Rm 2 0 0) (Pz D cs B0 kt α Lv S [.ref (α 60 g0), .int x1, .int x2]) (Qv D cs B0 α Lv o) 0 0 (AB B0) := met_of (by decide) rfl hcl (Nat.le_of_ble_eq_true rfl) (fun p e s m below meth c hc hr hd ls hl => b_X12_layGains hc hr hL0 hf hd hl)
theorem my_X12_layGains : MyV yX12_layGains "PumpCrossingModel" cX12_layGains 5 none 2 := ⟨tw_1734, (in_sel 76 (by decide +kernel) (by decide +kernel)), tw_11, tw_1735, by decide +kernel⟩
def f_X12_within (x0 : Int64) (x2 : Int64) (x4 : Int64) (S : St) : Option (Int32) := bv (fun (v_1 : Int32) => ck (v_1 = 0 ∨ v_1 = 1) (some v_1)) (fun J_2 => bv (fun (_u : Unit) => J_2 0) (fun J_3 => br ((lg_cmp x0 x2) < 0) (J_3 ()) (br (0 < (lg_cmp x0 x4)) (J_3 ()) (J_2 1))))
set_option maxRecDepth 100000 in
set_option maxHeartbeats 4000000 in
theorem b_X12_within (hc : Cx p s m args meth c cX12_within 6 "PumpCrossingModel" D cs B0 kt Lv) (hr : meth.sig.returnType = some .boolean)  {o : Int32}  {S : St} {x0 : Int64} {x2 : Int64} {x4 : Int64}  {H : Heap} {locs : List Loc} {ls : Array Slot} (hf : f_X12_within x0 x2 x4 S = some o) (hd : Dy s D cs B0 α Lv S H locs) (hl : lv_has ls 6 [(0, .long x0), (2, .long x2), (4, .long x4)]) : W p l e (Rm 0 0 0) s m args below meth c H locs 0 0 (MQ below (Qi D cs B0 α Lv o S) args s 0 0 (AB B0)) (F0 m 0 ls []) := by
  unfold f_X12_within at hf
  refine lv_lload_n hc.x hc.b dX12_within_0 rfl (lv_at hl 0 rfl) ?_
  refine lv_lload_n hc.x hc.b dX12_within_1 rfl (lv_at hl 1 rfl) ?_
  refine W.lcmp hc.x hc.b dX12_within_2 ?_
  refine jn_s (P := fun J_2 => ∀ (v_1 : Int32) (H : Heap) (locs : List Loc) (ls : Array Slot), J_2 v_1 = some o → Dy s D cs B0 α Lv S H locs → lv_has ls 6 [] → W p l e (Rm 0 0 0) s m args below meth c H locs 0 0 (MQ below (Qi D cs B0 α Lv o S) args s 0 0 (AB B0)) (F0 m 18 ls [.int v_1])) hf ?_ (fun J_2 hJ_2 hf => ?_)
  · intro v_1 H locs ls hf hd hl
    obtain ⟨hz, hf⟩ := ck_s hf
    cases hf
    exact r_zret hc hd hr hz dX12_within_18
  refine jn_s (P := fun J_3 => ∀ (_u : Unit) (H : Heap) (locs : List Loc) (ls : Array Slot), J_3 _u = some o → Dy s D cs B0 α Lv S H locs → lv_has ls 6 [] → W p l e (Rm 0 0 0) s m args below meth c H locs 0 0 (MQ below (Qi D cs B0 α Lv o S) args s 0 0 (AB B0)) (F0 m 17 ls [])) hf ?_ (fun J_3 hJ_3 hf => ?_)
  · intro _u H locs ls hf hd hl
    refine lv_iconst (v := 0) hc.x hc.b dX12_within_17 (by decide) ?_
    exact hJ_2 0 _ _ _ hf hd (lv_sub hl [] rfl)
  refine lv_if_lt (tgt := 17) hc.x hc.b dX12_within_3 (by decide) (fun c_4 => ?_) (fun c_4 => ?_)
  · have hf := br_y c_4 hf
    exact hJ_3 ()  _ _ _ hf hd (lv_sub hl [] rfl)
  · have hf := br_n c_4 hf
    refine lv_lload_n hc.x hc.b dX12_within_6 rfl (lv_at hl 0 rfl) ?_
    refine lv_lload hc.x hc.b dX12_within_7 (lv_at hl 2 rfl) ?_
    refine W.lcmp hc.x hc.b dX12_within_9 ?_
    refine lv_if_gt (tgt := 17) hc.x hc.b dX12_within_10 (by decide) (fun c_5 => ?_) (fun c_5 => ?_)
    · have hf := br_y c_5 hf
      exact hJ_3 ()  _ _ _ hf hd (lv_sub hl [] rfl)
    · have hf := br_n c_5 hf
      refine lv_iconst (v := 1) hc.x hc.b dX12_within_13 (by decide) ?_
      refine lv_goto (tgt := 18) hc.x hc.b dX12_within_14 (by decide) ?_
      exact hJ_2 1 _ _ _ hf hd (lv_sub hl [] rfl)
theorem c_X12_within (l : Launch) (D : va_G) (cs : Nat → ClassId) (B0 : Nat) (kt : (Nat → Nat) × (Nat → Nat)) (α : Nat → Nat → Nat) (Lv : Nat → Nat → Prop) (S : St) (x0 : Int64) (x2 : Int64) (x4 : Int64) (hcl : Cl Lv)  {o : Int32} (hf : f_X12_within x0 x2 x4 S = some o) : Met l yX12_within (wz yX12_within cX12_within 6 (some .boolean)) (Rm 0 0 0) (Pz D cs B0 kt α Lv S [.long x0, .long x2, .long x4]) (Qi D cs B0 α Lv o S) 0 0 (AB B0) := met_of (by decide) rfl hcl (Nat.le_of_ble_eq_true rfl) (fun p e s m below meth c hc hr hd ls hl => b_X12_within hc hr  hf hd hl)
theorem my_X12_within : MyS yX12_within cX12_within 6 (some .boolean) 3 := ⟨tw_1445, tw_11, tw_1446, by decide +kernel⟩
def f_X12_isStation (g0 : Nat) (x1 : Int32) (S : St) : Option (Int32) := ck (inb 0 3179 = true) (on (f_X12_within (Int32.toInt64 x1) 0 (Int32.toInt64 ((gi S 61 g0 (nn 0)) - 1)) S) (fun r_3 => ck (r_3 = 0 ∨ r_3 = 1) (some r_3)))
set_option maxRecDepth 100000 in
set_option maxHeartbeats 4000000 in
theorem b_X12_isStation (hc : Cx p s m args meth c cX12_isStation 2 "PumpCrossingModel" D cs B0 kt Lv) (hr : meth.sig.returnType = some .boolean)  {o : Int32}  {S : St} {g0 : Nat} {x1 : Int32} (hL0 : Lv 60 g0) {H : Heap} {locs : List Loc} {ls : Array Slot} (hf : f_X12_isStation g0 x1 S = some o) (hd : Dy s D cs B0 α Lv S H locs) (hl : lv_has ls 2 [(0, .ref (α 60 g0)), (1, .int x1)]) : W p l e (Rm 1 0 0) s m args below meth c H locs 0 0 (MQ below (Qi D cs B0 α Lv o S) args s 0 0 (AB B0)) (F0 m 0 ls []) := by
  unfold f_X12_isStation at hf
  refine lv_iload_n hc.x hc.b dX12_isStation_0 rfl (lv_at hl 1 rfl) ?_
  refine lv_i2l (v := Int32.toInt64 x1) hc.x hc.b dX12_isStation_1 rfl ?_
  refine lv_lconst (v := 0) hc.x hc.b dX12_isStation_2 (by decide) ?_
  refine lv_aload_n hc.x hc.b dX12_isStation_3 rfl (lv_at hl 0 rfl) ?_
  refine fg_60_0 hc hd hL0 tw_1309 dX12_isStation_4 ?_
  refine lv_iconst (v := 0) hc.x hc.b dX12_isStation_7 (by decide) ?_
  obtain ⟨hi_1, hf⟩ := ck_s hf
  refine r_iald hc hd (cl_60_told hc.cl hL0) rfl hi_1 dX12_isStation_8 ?_
  refine lv_iconst (v := 1) hc.x hc.b dX12_isStation_9 (by decide) ?_
  refine lv_isub hc.x hc.b dX12_isStation_10 ?_
  refine lv_i2l (v := Int32.toInt64 ((gi S 61 g0 (nn 0)) - 1)) hc.x hc.b dX12_isStation_11 rfl ?_
  obtain ⟨r_3, hq_2, hf⟩ := on_s hf
  refine k_i (k_runS hc hd my_X12_within tw_1444 (c_X12_within l D cs B0 kt α Lv S (Int32.toInt64 x1) 0 (Int32.toInt64 ((gi S 61 g0 (nn 0)) - 1)) hc.cl   hq_2) rfl rfl hl.1 (Nat.le_of_ble_eq_true rfl) ⟨Nat.le_of_ble_eq_true rfl, Nat.le_of_ble_eq_true rfl, Nat.zero_le _, Nat.zero_le _⟩ dX12_isStation_12) hd (fun H locs hd => ?_)
  obtain ⟨hz, hf⟩ := ck_s hf
  cases hf
  exact r_zret hc hd hr hz dX12_isStation_15
theorem c_X12_isStation (l : Launch) (D : va_G) (cs : Nat → ClassId) (B0 : Nat) (kt : (Nat → Nat) × (Nat → Nat)) (α : Nat → Nat → Nat) (Lv : Nat → Nat → Prop) (S : St) (g0 : Nat) (x1 : Int32) (hcl : Cl Lv) (hL0 : Lv 60 g0) {o : Int32} (hf : f_X12_isStation g0 x1 S = some o) : Met l yX12_isStation (wz yX12_isStation cX12_isStation 2 (some .boolean)) (Rm 1 0 0) (Pz D cs B0 kt α Lv S [.ref (α 60 g0), .int x1]) (Qi D cs B0 α Lv o S) 0 0 (AB B0) := met_of (by decide) rfl hcl (Nat.le_of_ble_eq_true rfl) (fun p e s m below meth c hc hr hd ls hl => b_X12_isStation hc hr hL0 hf hd hl)
theorem my_X12_isStation : MyV yX12_isStation "PumpCrossingModel" cX12_isStation 2 (some .boolean) 1 := ⟨tw_1454, (in_sel 36 (by decide +kernel) (by decide +kernel)), tw_11, tw_1455, by decide +kernel⟩
def f_X12_pairFault (g0 : Nat) (x1 : Int32) (x2 : Int32) (S : St) : Option (Int32) := on (f_X12_isStation g0 x1 S) (fun r_2 => bv (fun (v_3 : Int32) => some v_3) (fun J_4 => bv (fun (_u : Unit) => J_4 1) (fun J_5 => br (r_2 = 0) (J_5 ()) (on (f_X12_isStation g0 x2 S) (fun r_8 => br (r_8 = 0) (J_5 ()) (br (x1 = x2) (J_4 2) (J_4 0)))))))
set_option maxRecDepth 100000 in
set_option maxHeartbeats 4000000 in
theorem b_X12_pairFault (hc : Cx p s m args meth c cX12_pairFault 3 "PumpCrossingModel" D cs B0 kt Lv) (hr : meth.sig.returnType = some .int)  {o : Int32}  {S : St} {g0 : Nat} {x1 : Int32} {x2 : Int32} (hL0 : Lv 60 g0) {H : Heap} {locs : List Loc} {ls : Array Slot} (hf : f_X12_pairFault g0 x1 x2 S = some o) (hd : Dy s D cs B0 α Lv S H locs) (hl : lv_has ls 3 [(0, .ref (α 60 g0)), (1, .int x1), (2, .int x2)]) : W p l e (Rm 2 0 0) s m args below meth c H locs 0 0 (MQ below (Qi D cs B0 α Lv o S) args s 0 0 (AB B0)) (F0 m 0 ls []) := by
  unfold f_X12_pairFault at hf
  refine lv_aload_n hc.x hc.b dX12_pairFault_0 rfl (lv_at hl 0 rfl) ?_
  refine lv_iload_n hc.x hc.b dX12_pairFault_1 rfl (lv_at hl 1 rfl) ?_
  obtain ⟨r_2, hq_1, hf⟩ := on_s hf
  refine k_i (k_runV hc hd my_X12_isStation tw_1452 hL0 rfl rfl rfl (c_X12_isStation l D cs B0 kt α Lv S g0 x1 hc.cl hL0  hq_1) rfl rfl hl.1 (Nat.le_of_ble_eq_true rfl) ⟨Nat.le_of_ble_eq_true rfl, Nat.le_of_ble_eq_true rfl, Nat.zero_le _, Nat.zero_le _⟩ dX12_pairFault_2) hd (fun H locs hd => ?_)
  refine jn_s (P := fun J_4 => ∀ (v_3 : Int32) (H : Heap) (locs : List Loc) (ls : Array Slot), J_4 v_3 = some o → Dy s D cs B0 α Lv S H locs → lv_has ls 3 [] → W p l e (Rm 2 0 0) s m args below meth c H locs 0 0 (MQ below (Qi D cs B0 α Lv o S) args s 0 0 (AB B0)) (F0 m 30 ls [.int v_3])) hf ?_ (fun J_4 hJ_4 hf => ?_)
  · intro v_3 H locs ls hf hd hl
    cases hf
    exact r_iret hc hd hr dX12_pairFault_30
  refine jn_s (P := fun J_5 => ∀ (_u : Unit) (H : Heap) (locs : List Loc) (ls : Array Slot), J_5 _u = some o → Dy s D cs B0 α Lv S H locs → lv_has ls 3 [] → W p l e (Rm 2 0 0) s m args below meth c H locs 0 0 (MQ below (Qi D cs B0 α Lv o S) args s 0 0 (AB B0)) (F0 m 16 ls [])) hf ?_ (fun J_5 hJ_5 hf => ?_)
  · intro _u H locs ls hf hd hl
    refine lv_iconst (v := 1) hc.x hc.b dX12_pairFault_16 (by decide) ?_
    refine lv_goto (tgt := 30) hc.x hc.b dX12_pairFault_17 (by decide) ?_
    exact hJ_4 1 _ _ _ hf hd (lv_sub hl [] rfl)
  refine lv_if_eq (tgt := 16) hc.x hc.b dX12_pairFault_5 (by decide) (fun c_6 => ?_) (fun c_6 => ?_)
  · have hf := br_y c_6 hf
    exact hJ_5 ()  _ _ _ hf hd (lv_sub hl [] rfl)
  · have hf := br_n c_6 hf
    refine lv_aload_n hc.x hc.b dX12_pairFault_8 rfl (lv_at hl 0 rfl) ?_
    refine lv_iload_n hc.x hc.b dX12_pairFault_9 rfl (lv_at hl 2 rfl) ?_
    obtain ⟨r_8, hq_7, hf⟩ := on_s hf
    refine k_i (k_runV hc hd my_X12_isStation tw_1452 hL0 rfl rfl rfl (c_X12_isStation l D cs B0 kt α Lv S g0 x2 hc.cl hL0  hq_7) rfl rfl hl.1 (Nat.le_of_ble_eq_true rfl) ⟨Nat.le_of_ble_eq_true rfl, Nat.le_of_ble_eq_true rfl, Nat.zero_le _, Nat.zero_le _⟩ dX12_pairFault_10) hd (fun H locs hd => ?_)
    refine lv_if_ne (tgt := 20) hc.x hc.b dX12_pairFault_13 (by decide) (fun c_9 => ?_) (fun c_9 => ?_)
    · have hf := br_n c_9 hf
      refine lv_iload_n hc.x hc.b dX12_pairFault_20 rfl (lv_at hl 1 rfl) ?_
      refine lv_iload_n hc.x hc.b dX12_pairFault_21 rfl (lv_at hl 2 rfl) ?_
      refine lv_icmp_ne (tgt := 29) hc.x hc.b dX12_pairFault_22 (by decide) (fun c_10 => ?_) (fun c_10 => ?_)
      · have hf := br_n c_10 hf
        refine lv_iconst (v := 0) hc.x hc.b dX12_pairFault_29 (by decide) ?_
        exact hJ_4 0 _ _ _ hf hd (lv_sub hl [] rfl)
      · have hf := br_y c_10 hf
        refine lv_iconst (v := 2) hc.x hc.b dX12_pairFault_25 (by decide) ?_
        refine lv_goto (tgt := 30) hc.x hc.b dX12_pairFault_26 (by decide) ?_
        exact hJ_4 2 _ _ _ hf hd (lv_sub hl [] rfl)
    · have hf := br_y c_9 hf
      exact hJ_5 ()  _ _ _ hf hd (lv_sub hl [] rfl)
theorem c_X12_pairFault (l : Launch) (D : va_G) (cs : Nat → ClassId) (B0 : Nat) (kt : (Nat → Nat) × (Nat → Nat)) (α : Nat → Nat → Nat) (Lv : Nat → Nat → Prop) (S : St) (g0 : Nat) (x1 : Int32) (x2 : Int32) (hcl : Cl Lv) (hL0 : Lv 60 g0) {o : Int32} (hf : f_X12_pairFault g0 x1 x2 S = some o) : Met l yX12_pairFault (wz yX12_pairFault cX12_pairFault 3 (some .int)) (Rm 2 0 0) (Pz D cs B0 kt α Lv S [.ref (α 60 g0), .int x1, .int x2]) (Qi D cs B0 α Lv o S) 0 0 (AB B0) := met_of (by decide) rfl hcl (Nat.le_of_ble_eq_true rfl) (fun p e s m below meth c hc hr hd ls hl => b_X12_pairFault hc hr hL0 hf hd hl)
theorem my_X12_pairFault : MyV yX12_pairFault "PumpCrossingModel" cX12_pairFault 3 (some .int) 2 := ⟨tw_1726, (in_sel 74 (by decide +kernel) (by decide +kernel)), tw_11, tw_1727, by decide +kernel⟩
def f_X12_learnFault (g0 : Nat) (x1 : Int32) (x2 : Int32) (x3 : Int32) (x4 : Int32) (S : St) : Option (Int32) := on (f_X12_pairFault g0 x1 x2 S) (fun r_2 => bv (fun (v_3 : Int32) => some v_3) (fun J_4 => br (r_2 ≤ 0) (on (f_X12_within (Int32.toInt64 x3) 1 (Int32.toInt64 x4) S) (fun r_7 => br (r_7 = 0) (J_4 2) (J_4 0))) (on (f_X12_pairFault g0 x1 x2 S) (fun r_10 => J_4 r_10))))
set_option maxRecDepth 100000 in
set_option maxHeartbeats 4000000 in
theorem b_X12_learnFault (hc : Cx p s m args meth c cX12_learnFault 5 "PumpCrossingModel" D cs B0 kt Lv) (hr : meth.sig.returnType = some .int)  {o : Int32}  {S : St} {g0 : Nat} {x1 : Int32} {x2 : Int32} {x3 : Int32} {x4 : Int32} (hL0 : Lv 60 g0) {H : Heap} {locs : List Loc} {ls : Array Slot} (hf : f_X12_learnFault g0 x1 x2 x3 x4 S = some o) (hd : Dy s D cs B0 α Lv S H locs) (hl : lv_has ls 5 [(0, .ref (α 60 g0)), (1, .int x1), (2, .int x2), (3, .int x3), (4, .int x4)]) : W p l e (Rm 3 0 0) s m args below meth c H locs 0 0 (MQ below (Qi D cs B0 α Lv o S) args s 0 0 (AB B0)) (F0 m 0 ls []) := by
  unfold f_X12_learnFault at hf
  refine lv_aload_n hc.x hc.b dX12_learnFault_0 rfl (lv_at hl 0 rfl) ?_
  refine lv_iload_n hc.x hc.b dX12_learnFault_1 rfl (lv_at hl 1 rfl) ?_
  refine lv_iload_n hc.x hc.b dX12_learnFault_2 rfl (lv_at hl 2 rfl) ?_
  obtain ⟨r_2, hq_1, hf⟩ := on_s hf
  refine k_i (k_runV hc hd my_X12_pairFault tw_1724 hL0 rfl rfl rfl (c_X12_pairFault l D cs B0 kt α Lv S g0 x1 x2 hc.cl hL0  hq_1) rfl rfl hl.1 (Nat.le_of_ble_eq_true rfl) ⟨Nat.le_of_ble_eq_true rfl, Nat.le_of_ble_eq_true rfl, Nat.zero_le _, Nat.zero_le _⟩ dX12_learnFault_3) hd (fun H locs hd => ?_)
  refine jn_s (P := fun J_4 => ∀ (v_3 : Int32) (H : Heap) (locs : List Loc) (ls : Array Slot), J_4 v_3 = some o → Dy s D cs B0 α Lv S H locs → lv_has ls 5 [] → W p l e (Rm 3 0 0) s m args below meth c H locs 0 0 (MQ below (Qi D cs B0 α Lv o S) args s 0 0 (AB B0)) (F0 m 35 ls [.int v_3])) hf ?_ (fun J_4 hJ_4 hf => ?_)
  · intro v_3 H locs ls hf hd hl
    cases hf
    exact r_iret hc hd hr dX12_learnFault_35
  refine lv_if_le (tgt := 18) hc.x hc.b dX12_learnFault_6 (by decide) (fun c_5 => ?_) (fun c_5 => ?_)
  · have hf := br_y c_5 hf
    refine lv_iload_n hc.x hc.b dX12_learnFault_18 rfl (lv_at hl 3 rfl) ?_
    refine lv_i2l (v := Int32.toInt64 x3) hc.x hc.b dX12_learnFault_19 rfl ?_
    refine lv_lconst (v := 1) hc.x hc.b dX12_learnFault_20 (by decide) ?_
    refine lv_iload hc.x hc.b dX12_learnFault_21 (lv_at hl 4 rfl) ?_
    refine lv_i2l (v := Int32.toInt64 x4) hc.x hc.b dX12_learnFault_23 rfl ?_
    obtain ⟨r_7, hq_6, hf⟩ := on_s hf
    refine k_i (k_runS hc hd my_X12_within tw_1444 (c_X12_within l D cs B0 kt α Lv S (Int32.toInt64 x3) 1 (Int32.toInt64 x4) hc.cl   hq_6) rfl rfl hl.1 (Nat.le_of_ble_eq_true rfl) ⟨Nat.le_of_ble_eq_true rfl, Nat.le_of_ble_eq_true rfl, Nat.zero_le _, Nat.zero_le _⟩ dX12_learnFault_24) hd (fun H locs hd => ?_)
    refine lv_if_eq (tgt := 34) hc.x hc.b dX12_learnFault_27 (by decide) (fun c_8 => ?_) (fun c_8 => ?_)
    · have hf := br_y c_8 hf
      refine lv_iconst (v := 2) hc.x hc.b dX12_learnFault_34 (by decide) ?_
      exact hJ_4 2 _ _ _ hf hd (lv_sub hl [] rfl)
    · have hf := br_n c_8 hf
      refine lv_iconst (v := 0) hc.x hc.b dX12_learnFault_30 (by decide) ?_
      refine lv_goto (tgt := 35) hc.x hc.b dX12_learnFault_31 (by decide) ?_
      exact hJ_4 0 _ _ _ hf hd (lv_sub hl [] rfl)
  · have hf := br_n c_5 hf
    refine lv_aload_n hc.x hc.b dX12_learnFault_9 rfl (lv_at hl 0 rfl) ?_
    refine lv_iload_n hc.x hc.b dX12_learnFault_10 rfl (lv_at hl 1 rfl) ?_
    refine lv_iload_n hc.x hc.b dX12_learnFault_11 rfl (lv_at hl 2 rfl) ?_
    obtain ⟨r_10, hq_9, hf⟩ := on_s hf
    refine k_i (k_runV hc hd my_X12_pairFault tw_1724 hL0 rfl rfl rfl (c_X12_pairFault l D cs B0 kt α Lv S g0 x1 x2 hc.cl hL0  hq_9) rfl rfl hl.1 (Nat.le_of_ble_eq_true rfl) ⟨Nat.le_of_ble_eq_true rfl, Nat.le_of_ble_eq_true rfl, Nat.zero_le _, Nat.zero_le _⟩ dX12_learnFault_12) hd (fun H locs hd => ?_)
    refine lv_goto (tgt := 35) hc.x hc.b dX12_learnFault_15 (by decide) ?_
    exact hJ_4 r_10 _ _ _ hf hd (lv_sub hl [] rfl)
theorem c_X12_learnFault (l : Launch) (D : va_G) (cs : Nat → ClassId) (B0 : Nat) (kt : (Nat → Nat) × (Nat → Nat)) (α : Nat → Nat → Nat) (Lv : Nat → Nat → Prop) (S : St) (g0 : Nat) (x1 : Int32) (x2 : Int32) (x3 : Int32) (x4 : Int32) (hcl : Cl Lv) (hL0 : Lv 60 g0) {o : Int32} (hf : f_X12_learnFault g0 x1 x2 x3 x4 S = some o) : Met l yX12_learnFault (wz yX12_learnFault cX12_learnFault 5 (some .int)) (Rm 3 0 0) (Pz D cs B0 kt α Lv S [.ref (α 60 g0), .int x1, .int x2, .int x3, .int x4]) (Qi D cs B0 α Lv o S) 0 0 (AB B0) := met_of (by decide) rfl hcl (Nat.le_of_ble_eq_true rfl) (fun p e s m below meth c hc hr hd ls hl => b_X12_learnFault hc hr hL0 hf hd hl)
theorem my_X12_learnFault : MyV yX12_learnFault "PumpCrossingModel" cX12_learnFault 5 (some .int) 4 := ⟨tw_1791, (in_sel 84 (by decide +kernel) (by decide +kernel)), tw_11, tw_1792, by decide +kernel⟩
def f_X12_greatest_5 (g0 : Nat) (x1 : Int32) (x2 : Int32) (S : St) (K : Int32 → Option (Int32)) : Nat → Int32 → Int32 → Option (Int32)
  | 0, _, _ => none
  | n + 1, x3, x4 => ck (inb 3 3179 = true) (br ((gi S 61 g0 (nn 3)) ≤ x4) (K x3) (ck (inb (((64 * x1) + (8 * x2)) + x4) 128 = true) (ck (inb (((64 * x1) + (8 * x2)) + x3) 128 = true) (bv (fun (x3_5 : Int32) => bv (x4 + 1) (fun x4_7 => f_X12_greatest_5 g0 x1 x2 S K n x3_5 x4_7)) (fun J_6 => br ((gi S 76 g0 (nn (((64 * x1) + (8 * x2)) + x4))) ≤ (gi S 76 g0 (nn (((64 * x1) + (8 * x2)) + x3)))) (J_6 x3) (J_6 x4))))))
def f_X12_greatest (g0 : Nat) (x1 : Int32) (x2 : Int32) (S : St) : Option (Int32) := f_X12_greatest_5 g0 x1 x2 S (fun (x3_9 : Int32) => some x3_9) FU 0 1
set_option maxRecDepth 100000 in
set_option maxHeartbeats 4000000 in
theorem w_X12_greatest_5 (hc : Cx p s m args meth c cX12_greatest 5 "PumpCrossingModel" D cs B0 kt Lv) (hr : meth.sig.returnType = some .int) {o : Int32}  {g0 : Nat} {x1 : Int32} {x2 : Int32} {S : St} {K : Int32 → Option (Int32)} (hL0 : Lv 60 g0) (hK : ∀ (k3 : Int32) (H : Heap) (locs : List Loc) (ls : Array Slot), K k3 = some o → Dy s D cs B0 α Lv S H locs → lv_has ls 5 [(3, .int k3)] → W p l e (Rm 0 0 0) s m args below meth c H locs 0 0 (MQ below (Qi D cs B0 α Lv o S) args s 0 0 (AB B0)) (F0 m 61 ls [])) : ∀ (n : Nat) (x3 : Int32) (x4 : Int32) (H : Heap) (locs : List Loc) (ls : Array Slot), f_X12_greatest_5 g0 x1 x2 S K n x3 x4 = some o → Dy s D cs B0 α Lv S H locs → lv_has ls 5 [(0, .ref (α 60 g0)), (1, .int x1), (2, .int x2), (3, .int x3), (4, .int x4)] → W p l e (Rm 0 0 0) s m args below meth c H locs 0 0 (MQ below (Qi D cs B0 α Lv o S) args s 0 0 (AB B0)) (F0 m 5 ls []) := by
  intro n
  induction n with
  | zero =>
    intro x3 x4 H locs ls hf
    rw [f_X12_greatest_5] at hf
    cases hf
  | succ n ih =>
    intro x3 x4 H locs ls hf hd hl
    rw [f_X12_greatest_5] at hf
    refine lv_iload hc.x hc.b dX12_greatest_5 (lv_at hl 4 rfl) ?_
    refine lv_aload_n hc.x hc.b dX12_greatest_7 rfl (lv_at hl 0 rfl) ?_
    refine fg_60_0 hc hd hL0 tw_1309 dX12_greatest_8 ?_
    refine lv_iconst (v := 3) hc.x hc.b dX12_greatest_11 (by decide) ?_
    obtain ⟨hi_1, hf⟩ := ck_s hf
    refine r_iald hc hd (cl_60_told hc.cl hL0) rfl hi_1 dX12_greatest_12 ?_
    refine lv_icmp_ge (tgt := 61) hc.x hc.b dX12_greatest_13 (by decide) (fun c_2 => ?_) (fun c_2 => ?_)
    · have hf := br_y c_2 hf
      exact hK x3 _ _ _ hf hd (lv_sub hl [3] rfl)
    · have hf := br_n c_2 hf
      refine lv_aload_n hc.x hc.b dX12_greatest_16 rfl (lv_at hl 0 rfl) ?_
      refine fg_60_32 hc hd hL0 tw_1341 dX12_greatest_17 ?_
      refine lv_bipush (v := 64) hc.x hc.b dX12_greatest_20 (by decide) ?_
      refine lv_iload_n hc.x hc.b dX12_greatest_22 rfl (lv_at hl 1 rfl) ?_
      refine lv_imul hc.x hc.b dX12_greatest_23 ?_
      refine lv_bipush (v := 8) hc.x hc.b dX12_greatest_24 (by decide) ?_
      refine lv_iload_n hc.x hc.b dX12_greatest_26 rfl (lv_at hl 2 rfl) ?_
      refine lv_imul hc.x hc.b dX12_greatest_27 ?_
      refine lv_iadd hc.x hc.b dX12_greatest_28 ?_
      refine lv_iload hc.x hc.b dX12_greatest_29 (lv_at hl 4 rfl) ?_
      refine lv_iadd hc.x hc.b dX12_greatest_31 ?_
      obtain ⟨hi_3, hf⟩ := ck_s hf
      refine r_iald hc hd (cl_60_table hc.cl hL0) rfl hi_3 dX12_greatest_32 ?_
      refine lv_aload_n hc.x hc.b dX12_greatest_33 rfl (lv_at hl 0 rfl) ?_
      refine fg_60_32 hc hd hL0 tw_1341 dX12_greatest_34 ?_
      refine lv_bipush (v := 64) hc.x hc.b dX12_greatest_37 (by decide) ?_
      refine lv_iload_n hc.x hc.b dX12_greatest_39 rfl (lv_at hl 1 rfl) ?_
      refine lv_imul hc.x hc.b dX12_greatest_40 ?_
      refine lv_bipush (v := 8) hc.x hc.b dX12_greatest_41 (by decide) ?_
      refine lv_iload_n hc.x hc.b dX12_greatest_43 rfl (lv_at hl 2 rfl) ?_
      refine lv_imul hc.x hc.b dX12_greatest_44 ?_
      refine lv_iadd hc.x hc.b dX12_greatest_45 ?_
      refine lv_iload_n hc.x hc.b dX12_greatest_46 rfl (lv_at hl 3 rfl) ?_
      refine lv_iadd hc.x hc.b dX12_greatest_47 ?_
      obtain ⟨hi_4, hf⟩ := ck_s hf
      refine r_iald hc hd (cl_60_table hc.cl hL0) rfl hi_4 dX12_greatest_48 ?_
      refine jn_s (P := fun J_6 => ∀ (x3_5 : Int32) (H : Heap) (locs : List Loc) (ls : Array Slot), J_6 x3_5 = some o → Dy s D cs B0 α Lv S H locs → lv_has ls 5 [(0, .ref (α 60 g0)), (1, .int x1), (2, .int x2), (3, .int x3_5), (4, .int x4)] → W p l e (Rm 0 0 0) s m args below meth c H locs 0 0 (MQ below (Qi D cs B0 α Lv o S) args s 0 0 (AB B0)) (F0 m 55 ls [])) hf ?_ (fun J_6 hJ_6 hf => ?_)
      · intro x3_5 H locs ls hf hd hl
        obtain ⟨x4_7, ex4_7⟩ : ∃ z : Int32, z = x4 + 1 := ⟨_, rfl⟩
        have hf := bv_n ex4_7 hf
        refine lv_iinc (v := x4_7) (lv' := [(4, .int x4_7), (0, .ref (α 60 g0)), (1, .int x1), (2, .int x2), (3, .int x3_5)]) hc.x hc.b dX12_greatest_55 hl (k := 4) rfl (by rw [ex4_7]; rfl) (by decide) rfl (fun ls hl => ?_)
        refine lv_goto (tgt := 5) hc.x hc.b dX12_greatest_58 (by decide) ?_
        exact ih x3_5 x4_7 _ _ _ hf hd (lv_sub hl [1, 2, 3, 4, 0] rfl)
      refine lv_icmp_le (tgt := 55) hc.x hc.b dX12_greatest_49 (by decide) (fun c_8 => ?_) (fun c_8 => ?_)
      · have hf := br_y c_8 hf
        exact hJ_6 x3 _ _ _ hf hd (lv_sub hl [0, 1, 2, 3, 4] rfl)
      · have hf := br_n c_8 hf
        refine lv_iload hc.x hc.b dX12_greatest_52 (lv_at hl 4 rfl) ?_
        refine lv_istore_n (lv' := [(3, .int x4), (0, .ref (α 60 g0)), (1, .int x1), (2, .int x2), (4, .int x4)]) hc.x hc.b dX12_greatest_54 rfl hl (by decide) rfl (fun ls hl => ?_)
        exact hJ_6 x4 _ _ _ hf hd (lv_sub hl [1, 2, 3, 0, 4] rfl)
set_option maxRecDepth 100000 in
set_option maxHeartbeats 4000000 in
theorem b_X12_greatest (hc : Cx p s m args meth c cX12_greatest 5 "PumpCrossingModel" D cs B0 kt Lv) (hr : meth.sig.returnType = some .int)  {o : Int32}  {S : St} {g0 : Nat} {x1 : Int32} {x2 : Int32} (hL0 : Lv 60 g0) {H : Heap} {locs : List Loc} {ls : Array Slot} (hf : f_X12_greatest g0 x1 x2 S = some o) (hd : Dy s D cs B0 α Lv S H locs) (hl : lv_has ls 5 [(0, .ref (α 60 g0)), (1, .int x1), (2, .int x2)]) : W p l e (Rm 0 0 0) s m args below meth c H locs 0 0 (MQ below (Qi D cs B0 α Lv o S) args s 0 0 (AB B0)) (F0 m 0 ls []) := by
  unfold f_X12_greatest at hf
  refine lv_iconst (v := 0) hc.x hc.b dX12_greatest_0 (by decide) ?_
  refine lv_istore_n (lv' := [(3, .int 0), (0, .ref (α 60 g0)), (1, .int x1), (2, .int x2)]) hc.x hc.b dX12_greatest_1 rfl hl (by decide) rfl (fun ls hl => ?_)
  refine lv_iconst (v := 1) hc.x hc.b dX12_greatest_2 (by decide) ?_
  refine lv_istore (lv' := [(4, .int 1), (3, .int 0), (0, .ref (α 60 g0)), (1, .int x1), (2, .int x2)]) hc.x hc.b dX12_greatest_3 hl (by decide) rfl (fun ls hl => ?_)
  refine w_X12_greatest_5 hc hr hL0 ?_ _ _ _ _ _ _ hf hd (lv_sub hl [2, 3, 4, 1, 0] rfl)
  intro x3_9 H locs ls hf hd hl
  refine lv_iload_n hc.x hc.b dX12_greatest_61 rfl (lv_at hl 0 rfl) ?_
  cases hf
  exact r_iret hc hd hr dX12_greatest_62
theorem c_X12_greatest (l : Launch) (D : va_G) (cs : Nat → ClassId) (B0 : Nat) (kt : (Nat → Nat) × (Nat → Nat)) (α : Nat → Nat → Nat) (Lv : Nat → Nat → Prop) (S : St) (g0 : Nat) (x1 : Int32) (x2 : Int32) (hcl : Cl Lv) (hL0 : Lv 60 g0) {o : Int32} (hf : f_X12_greatest g0 x1 x2 S = some o) : Met l yX12_greatest (wz yX12_greatest cX12_greatest 5 (some .int)) (Rm 0 0 0) (Pz D cs B0 kt α Lv S [.ref (α 60 g0), .int x1, .int x2]) (Qi D cs B0 α Lv o S) 0 0 (AB B0) := met_of (by decide) rfl hcl (Nat.le_of_ble_eq_true rfl) (fun p e s m below meth c hc hr hd ls hl => b_X12_greatest hc hr hL0 hf hd hl)
theorem my_X12_greatest : MyV yX12_greatest "PumpCrossingModel" cX12_greatest 5 (some .int) 2 := ⟨tw_1808, (in_sel 88 (by decide +kernel) (by decide +kernel)), tw_11, tw_1809, by decide +kernel⟩
def f_X12_draw (g0 : Nat) (S : St) : Option (Int32 × St) := bv (si S 60 g0 33 ((1103515245 * (gi S 60 g0 33)) + 12345)) (fun S_1 => bv (usI (gi S_1 60 g0 33) 16) (fun q_2 => some (q_2, S_1)))
set_option maxRecDepth 100000 in
set_option maxHeartbeats 4000000 in
theorem b_X12_draw (hc : Cx p s m args meth c cX12_draw 1 "PumpCrossingModel" D cs B0 kt Lv) (hr : meth.sig.returnType = some .int)  {o : Int32 × St}  {S : St} {g0 : Nat} (hL0 : Lv 60 g0) {H : Heap} {locs : List Loc} {ls : Array Slot} (hf : f_X12_draw g0 S = some o) (hd : Dy s D cs B0 α Lv S H locs) (hl : lv_has ls 1 [(0, .ref (α 60 g0))]) : W p l e (Rm 0 0 0) s m args below meth c H locs 0 0 (MQ below (Qi D cs B0 α Lv o.1 o.2) args s 0 0 (AB B0)) (F0 m 0 ls []) := by
  unfold f_X12_draw at hf
  refine lv_aload_n hc.x hc.b dX12_draw_0 rfl (lv_at hl 0 rfl) ?_
  refine lv_ldcw (v := 1103515245) hc.x hc.b hc.ow (hc.ts tw_1805) dX12_draw_1 ?_
  refine lv_aload_n hc.x hc.b dX12_draw_4 rfl (lv_at hl 0 rfl) ?_
  refine fg_60_33 hc hd hL0 tw_1342 dX12_draw_5 ?_
  refine lv_imul hc.x hc.b dX12_draw_8 ?_
  refine lv_sipush (v := 12345) hc.x hc.b dX12_draw_9 (by decide) ?_
  refine lv_iadd hc.x hc.b dX12_draw_12 ?_
  refine fp_60_33 hc hd hL0 tw_1342 dX12_draw_13 (fun H locs hd => ?_)
  obtain ⟨S_1, hd, hf⟩ := nmD hd hf
  refine lv_aload_n hc.x hc.b dX12_draw_16 rfl (lv_at hl 0 rfl) ?_
  refine fg_60_33 hc hd hL0 tw_1342 dX12_draw_17 ?_
  refine lv_bipush (v := 16) hc.x hc.b dX12_draw_20 (by decide) ?_
  refine lv_iushr (v := usI (gi S_1 60 g0 33) 16) hc.x hc.b dX12_draw_22 rfl ?_
  refine lv_topi (fun q_2 eq_2 => ?_)
  have hf := bv_n eq_2 hf
  cases hf
  exact r_iret hc hd hr dX12_draw_23
theorem c_X12_draw (l : Launch) (D : va_G) (cs : Nat → ClassId) (B0 : Nat) (kt : (Nat → Nat) × (Nat → Nat)) (α : Nat → Nat → Nat) (Lv : Nat → Nat → Prop) (S : St) (g0 : Nat) (hcl : Cl Lv) (hL0 : Lv 60 g0) {o : Int32 × St} (hf : f_X12_draw g0 S = some o) : Met l yX12_draw (wz yX12_draw cX12_draw 1 (some .int)) (Rm 0 0 0) (Pz D cs B0 kt α Lv S [.ref (α 60 g0)]) (Qi D cs B0 α Lv o.1 o.2) 0 0 (AB B0) := met_of (by decide) rfl hcl (Nat.le_of_ble_eq_true rfl) (fun p e s m below meth c hc hr hd ls hl => b_X12_draw hc hr hL0 hf hd hl)
theorem my_X12_draw : MyV yX12_draw "PumpCrossingModel" cX12_draw 1 (some .int) 0 := ⟨tw_1803, (in_sel 87 (by decide +kernel) (by decide +kernel)), tw_11, tw_1804, by decide +kernel⟩
def f_X12_takes (g0 : Nat) (x1 : Int32) (x2 : Int32) (x3 : Int32) (S : St) : Option (Int32 × St) := on2 (f_X12_draw g0 S) (fun r_3 S_2 => bv (rmI r_3 100) (fun q_4 => bv (fun (v_5 : Int32) (S_6 : St) => some (v_5, S_6)) (fun J_7 => br (x3 ≤ q_4) (on (f_X12_greatest g0 x1 x2 S_2) (fun r_10 => J_7 r_10 S_2)) (on2 (f_X12_draw g0 S_2) (fun r_13 S_12 => ck (inb 3 3179 = true) (ck (¬ (gi S_12 61 g0 (nn 3)) = 0) (bv (rmI r_13 (gi S_12 61 g0 (nn 3))) (fun q_16 => J_7 q_16 S_12))))))))
set_option maxRecDepth 100000 in
set_option maxHeartbeats 4000000 in
theorem b_X12_takes (hc : Cx p s m args meth c cX12_takes 4 "PumpCrossingModel" D cs B0 kt Lv) (hr : meth.sig.returnType = some .int)  {o : Int32 × St}  {S : St} {g0 : Nat} {x1 : Int32} {x2 : Int32} {x3 : Int32} (hL0 : Lv 60 g0) {H : Heap} {locs : List Loc} {ls : Array Slot} (hf : f_X12_takes g0 x1 x2 x3 S = some o) (hd : Dy s D cs B0 α Lv S H locs) (hl : lv_has ls 4 [(0, .ref (α 60 g0)), (1, .int x1), (2, .int x2), (3, .int x3)]) : W p l e (Rm 1 0 0) s m args below meth c H locs 0 0 (MQ below (Qi D cs B0 α Lv o.1 o.2) args s 0 0 (AB B0)) (F0 m 0 ls []) := by
  unfold f_X12_takes at hf
  refine lv_aload_n hc.x hc.b dX12_takes_0 rfl (lv_at hl 0 rfl) ?_
  obtain ⟨r_3, S_2, hq_1, hf⟩ := on2_s hf
  refine k_i (k_runV hc hd my_X12_draw tw_1801 hL0 rfl rfl rfl (c_X12_draw l D cs B0 kt α Lv S g0 hc.cl hL0  hq_1) rfl rfl hl.1 (Nat.le_of_ble_eq_true rfl) ⟨Nat.le_of_ble_eq_true rfl, Nat.le_of_ble_eq_true rfl, Nat.zero_le _, Nat.zero_le _⟩ dX12_takes_1) hd (fun H locs hd => ?_)
  refine lv_bipush (v := 100) hc.x hc.b dX12_takes_4 (by decide) ?_
  refine lv_irem hc.x hc.b dX12_takes_6 (by decide) ?_
  refine lv_topi (fun q_4 eq_4 => ?_)
  have hf := bv_n eq_4 hf
  refine lv_iload_n hc.x hc.b dX12_takes_7 rfl (lv_at hl 3 rfl) ?_
  refine jn_s (P := fun J_7 => ∀ (v_5 : Int32) (S_6 : St) (H : Heap) (locs : List Loc) (ls : Array Slot), J_7 v_5 S_6 = some o → Dy s D cs B0 α Lv S_6 H locs → lv_has ls 4 [] → W p l e (Rm 1 0 0) s m args below meth c H locs 0 0 (MQ below (Qi D cs B0 α Lv o.1 o.2) args s 0 0 (AB B0)) (F0 m 31 ls [.int v_5])) hf ?_ (fun J_7 hJ_7 hf => ?_)
  · intro v_5 S_6 H locs ls hf hd hl
    cases hf
    exact r_iret hc hd hr dX12_takes_31
  refine lv_icmp_ge (tgt := 25) hc.x hc.b dX12_takes_8 (by decide) (fun c_8 => ?_) (fun c_8 => ?_)
  · have hf := br_y c_8 hf
    refine lv_aload_n hc.x hc.b dX12_takes_25 rfl (lv_at hl 0 rfl) ?_
    refine lv_iload_n hc.x hc.b dX12_takes_26 rfl (lv_at hl 1 rfl) ?_
    refine lv_iload_n hc.x hc.b dX12_takes_27 rfl (lv_at hl 2 rfl) ?_
    obtain ⟨r_10, hq_9, hf⟩ := on_s hf
    refine k_i (k_runV hc hd my_X12_greatest tw_1806 hL0 rfl rfl rfl (c_X12_greatest l D cs B0 kt α Lv S_2 g0 x1 x2 hc.cl hL0  hq_9) rfl rfl hl.1 (Nat.le_of_ble_eq_true rfl) ⟨Nat.le_of_ble_eq_true rfl, Nat.le_of_ble_eq_true rfl, Nat.zero_le _, Nat.zero_le _⟩ dX12_takes_28) hd (fun H locs hd => ?_)
    exact hJ_7 r_10 S_2 _ _ _ hf hd (lv_sub hl [] rfl)
  · have hf := br_n c_8 hf
    refine lv_aload_n hc.x hc.b dX12_takes_11 rfl (lv_at hl 0 rfl) ?_
    obtain ⟨r_13, S_12, hq_11, hf⟩ := on2_s hf
    refine k_i (k_runV hc hd my_X12_draw tw_1801 hL0 rfl rfl rfl (c_X12_draw l D cs B0 kt α Lv S_2 g0 hc.cl hL0  hq_11) rfl rfl hl.1 (Nat.le_of_ble_eq_true rfl) ⟨Nat.le_of_ble_eq_true rfl, Nat.le_of_ble_eq_true rfl, Nat.zero_le _, Nat.zero_le _⟩ dX12_takes_12) hd (fun H locs hd => ?_)
    refine lv_aload_n hc.x hc.b dX12_takes_15 rfl (lv_at hl 0 rfl) ?_
    refine fg_60_0 hc hd hL0 tw_1309 dX12_takes_16 ?_
    refine lv_iconst (v := 3) hc.x hc.b dX12_takes_19 (by decide) ?_
    obtain ⟨hi_14, hf⟩ := ck_s hf
    refine r_iald hc hd (cl_60_told hc.cl hL0) rfl hi_14 dX12_takes_20 ?_
    obtain ⟨hn_15, hf⟩ := ck_s hf
    refine lv_irem hc.x hc.b dX12_takes_21 hn_15 ?_
    refine lv_topi (fun q_16 eq_16 => ?_)
    have hf := bv_n eq_16 hf
    refine lv_goto (tgt := 31) hc.x hc.b dX12_takes_22 (by decide) ?_
    exact hJ_7 q_16 S_12 _ _ _ hf hd (lv_sub hl [] rfl)
theorem c_X12_takes (l : Launch) (D : va_G) (cs : Nat → ClassId) (B0 : Nat) (kt : (Nat → Nat) × (Nat → Nat)) (α : Nat → Nat → Nat) (Lv : Nat → Nat → Prop) (S : St) (g0 : Nat) (x1 : Int32) (x2 : Int32) (x3 : Int32) (hcl : Cl Lv) (hL0 : Lv 60 g0) {o : Int32 × St} (hf : f_X12_takes g0 x1 x2 x3 S = some o) : Met l yX12_takes (wz yX12_takes cX12_takes 4 (some .int)) (Rm 1 0 0) (Pz D cs B0 kt α Lv S [.ref (α 60 g0), .int x1, .int x2, .int x3]) (Qi D cs B0 α Lv o.1 o.2) 0 0 (AB B0) := met_of (by decide) rfl hcl (Nat.le_of_ble_eq_true rfl) (fun p e s m below meth c hc hr hd ls hl => b_X12_takes hc hr hL0 hf hd hl)
theorem my_X12_takes : MyV yX12_takes "PumpCrossingModel" cX12_takes 4 (some .int) 3 := ⟨tw_1799, (in_sel 86 (by decide +kernel) (by decide +kernel)), tw_11, tw_1800, by decide +kernel⟩
def f_X12_teaches (g0 : Nat) (x1 : Int32) (x2 : Int32) (x3 : Int32) (x4 : Int32) (x5 : Int32) (S : St) : Option (St) := bv (((64 * x1) + (8 * x2)) + x3) (fun x6_1 => on (f_X12_greatest g0 x1 x5 S) (fun r_3 => ck (inb (((64 * x1) + (8 * x5)) + r_3) 128 = true) (bv (gi S 76 g0 (nn (((64 * x1) + (8 * x5)) + r_3))) (fun x7_5 => ck (inb x6_1 128 = true) (bv (dvI (7 * x7_5) 8) (fun q_7 => ck (inb x6_1 128 = true) (bv (dvI (((8 * x4) + q_7) - (gi S 76 g0 (nn x6_1))) 8) (fun q_9 => ck (inb x6_1 128 = true) (bv (si S 76 g0 (nn x6_1) ((gi S 76 g0 (nn x6_1)) + q_9)) (fun S_11 => some S_11))))))))))
set_option maxRecDepth 100000 in
set_option maxHeartbeats 4000000 in
theorem b_X12_teaches (hc : Cx p s m args meth c cX12_teaches 8 "PumpCrossingModel" D cs B0 kt Lv) (hr : meth.sig.returnType = none)  {o : St}  {S : St} {g0 : Nat} {x1 : Int32} {x2 : Int32} {x3 : Int32} {x4 : Int32} {x5 : Int32} (hL0 : Lv 60 g0) {H : Heap} {locs : List Loc} {ls : Array Slot} (hf : f_X12_teaches g0 x1 x2 x3 x4 x5 S = some o) (hd : Dy s D cs B0 α Lv S H locs) (hl : lv_has ls 8 [(0, .ref (α 60 g0)), (1, .int x1), (2, .int x2), (3, .int x3), (4, .int x4), (5, .int x5)]) : W p l e (Rm 1 0 0) s m args below meth c H locs 0 0 (MQ below (Qv D cs B0 α Lv o) args s 0 0 (AB B0)) (F0 m 0 ls []) := by
  unfold f_X12_teaches at hf
  refine lv_bipush (v := 64) hc.x hc.b dX12_teaches_0 (by decide) ?_
  refine lv_iload_n hc.x hc.b dX12_teaches_2 rfl (lv_at hl 1 rfl) ?_
  refine lv_imul hc.x hc.b dX12_teaches_3 ?_
  refine lv_bipush (v := 8) hc.x hc.b dX12_teaches_4 (by decide) ?_
  refine lv_iload_n hc.x hc.b dX12_teaches_6 rfl (lv_at hl 2 rfl) ?_
  refine lv_imul hc.x hc.b dX12_teaches_7 ?_
  refine lv_iadd hc.x hc.b dX12_teaches_8 ?_
  refine lv_iload_n hc.x hc.b dX12_teaches_9 rfl (lv_at hl 3 rfl) ?_
  refine lv_iadd hc.x hc.b dX12_teaches_10 ?_
  refine lv_topi (fun x6_1 ex6_1 => ?_)
  have hf := bv_n ex6_1 hf
  refine lv_istore (lv' := [(6, .int x6_1), (0, .ref (α 60 g0)), (1, .int x1), (2, .int x2), (3, .int x3), (4, .int x4), (5, .int x5)]) hc.x hc.b dX12_teaches_11 hl (by decide) rfl (fun ls hl => ?_)
  refine lv_aload_n hc.x hc.b dX12_teaches_13 rfl (lv_at hl 1 rfl) ?_
  refine fg_60_32 hc hd hL0 tw_1341 dX12_teaches_14 ?_
  refine lv_bipush (v := 64) hc.x hc.b dX12_teaches_17 (by decide) ?_
  refine lv_iload_n hc.x hc.b dX12_teaches_19 rfl (lv_at hl 2 rfl) ?_
  refine lv_imul hc.x hc.b dX12_teaches_20 ?_
  refine lv_bipush (v := 8) hc.x hc.b dX12_teaches_21 (by decide) ?_
  refine lv_iload hc.x hc.b dX12_teaches_23 (lv_at hl 6 rfl) ?_
  refine lv_imul hc.x hc.b dX12_teaches_25 ?_
  refine lv_iadd hc.x hc.b dX12_teaches_26 ?_
  refine lv_aload_n hc.x hc.b dX12_teaches_27 rfl (lv_at hl 1 rfl) ?_
  refine lv_iload_n hc.x hc.b dX12_teaches_28 rfl (lv_at hl 2 rfl) ?_
  refine lv_iload hc.x hc.b dX12_teaches_29 (lv_at hl 6 rfl) ?_
  obtain ⟨r_3, hq_2, hf⟩ := on_s hf
  refine k_i (k_runV hc hd my_X12_greatest tw_1806 hL0 rfl rfl rfl (c_X12_greatest l D cs B0 kt α Lv S g0 x1 x5 hc.cl hL0  hq_2) rfl rfl hl.1 (Nat.le_of_ble_eq_true rfl) ⟨Nat.le_of_ble_eq_true rfl, Nat.le_of_ble_eq_true rfl, Nat.zero_le _, Nat.zero_le _⟩ dX12_teaches_31) hd (fun H locs hd => ?_)
  refine lv_iadd hc.x hc.b dX12_teaches_34 ?_
  obtain ⟨hi_4, hf⟩ := ck_s hf
  refine r_iald hc hd (cl_60_table hc.cl hL0) rfl hi_4 dX12_teaches_35 ?_
  refine lv_topi (fun x7_5 ex7_5 => ?_)
  have hf := bv_n ex7_5 hf
  refine lv_istore (lv' := [(7, .int x7_5), (6, .int x6_1), (0, .ref (α 60 g0)), (1, .int x1), (2, .int x2), (3, .int x3), (4, .int x4), (5, .int x5)]) hc.x hc.b dX12_teaches_36 hl (by decide) rfl (fun ls hl => ?_)
  refine lv_aload_n hc.x hc.b dX12_teaches_38 rfl (lv_at hl 2 rfl) ?_
  refine fg_60_32 hc hd hL0 tw_1341 dX12_teaches_39 ?_
  refine lv_iload hc.x hc.b dX12_teaches_42 (lv_at hl 1 rfl) ?_
  refine lv_dup2_11 hc.x hc.b dX12_teaches_44 rfl rfl ?_
  obtain ⟨hi_6, hf⟩ := ck_s hf
  refine r_iald hc hd (cl_60_table hc.cl hL0) rfl hi_6 dX12_teaches_45 ?_
  refine lv_bipush (v := 8) hc.x hc.b dX12_teaches_46 (by decide) ?_
  refine lv_iload hc.x hc.b dX12_teaches_48 (lv_at hl 6 rfl) ?_
  refine lv_imul hc.x hc.b dX12_teaches_50 ?_
  refine lv_bipush (v := 7) hc.x hc.b dX12_teaches_51 (by decide) ?_
  refine lv_iload hc.x hc.b dX12_teaches_53 (lv_at hl 0 rfl) ?_
  refine lv_imul hc.x hc.b dX12_teaches_55 ?_
  refine lv_bipush (v := 8) hc.x hc.b dX12_teaches_56 (by decide) ?_
  refine lv_idiv hc.x hc.b dX12_teaches_58 (by decide) ?_
  refine lv_topi (fun q_7 eq_7 => ?_)
  have hf := bv_n eq_7 hf
  refine lv_iadd hc.x hc.b dX12_teaches_59 ?_
  refine lv_aload_n hc.x hc.b dX12_teaches_60 rfl (lv_at hl 2 rfl) ?_
  refine fg_60_32 hc hd hL0 tw_1341 dX12_teaches_61 ?_
  refine lv_iload hc.x hc.b dX12_teaches_64 (lv_at hl 1 rfl) ?_
  obtain ⟨hi_8, hf⟩ := ck_s hf
  refine r_iald hc hd (cl_60_table hc.cl hL0) rfl hi_8 dX12_teaches_66 ?_
  refine lv_isub hc.x hc.b dX12_teaches_67 ?_
  refine lv_bipush (v := 8) hc.x hc.b dX12_teaches_68 (by decide) ?_
  refine lv_idiv hc.x hc.b dX12_teaches_70 (by decide) ?_
  refine lv_topi (fun q_9 eq_9 => ?_)
  have hf := bv_n eq_9 hf
  refine lv_iadd hc.x hc.b dX12_teaches_71 ?_
  obtain ⟨hi_10, hf⟩ := ck_s hf
  refine r_iast hc hd (cl_60_table hc.cl hL0) (fun _ => rfl) hi_10 dX12_teaches_72 (fun H locs hd => ?_)
  obtain ⟨S_11, hd, hf⟩ := nmD hd hf
  cases hf
  exact r_vret hc hd hr dX12_teaches_73
theorem c_X12_teaches (l : Launch) (D : va_G) (cs : Nat → ClassId) (B0 : Nat) (kt : (Nat → Nat) × (Nat → Nat)) (α : Nat → Nat → Nat) (Lv : Nat → Nat → Prop) (S : St) (g0 : Nat) (x1 : Int32) (x2 : Int32) (x3 : Int32) (x4 : Int32) (x5 : Int32) (hcl : Cl Lv) (hL0 : Lv 60 g0) {o : St} (hf : f_X12_teaches g0 x1 x2 x3 x4 x5 S = some o) : Met l yX12_teaches (wz yX12_teaches cX12_teaches 8 none) (Rm 1 0 0) (Pz D cs B0 kt α Lv S [.ref (α 60 g0), .int x1, .int x2, .int x3, .int x4, .int x5]) (Qv D cs B0 α Lv o) 0 0 (AB B0) := met_of (by decide) rfl hcl (Nat.le_of_ble_eq_true rfl) (fun p e s m below meth c hc hr hd ls hl => b_X12_teaches hc hr hL0 hf hd hl)
theorem my_X12_teaches : MyV yX12_teaches "PumpCrossingModel" cX12_teaches 8 none 5 := ⟨tw_1812, (in_sel 89 (by decide +kernel) (by decide +kernel)), tw_11, tw_1813, by decide +kernel⟩
def f_X12_learns_7 (g0 : Nat) (x1 : Int32) (K : St → Option (St)) : Nat → Int32 → St → Option (St)
  | 0, _, _ => none
  | n + 1, x3, S => br ((Int32.ofNat 128) ≤ x3) (K S) (ck (inb x3 128 = true) (bv (si S 76 g0 (nn x3) 0) (fun S_4 => bv (x3 + 1) (fun x3_5 => f_X12_learns_7 g0 x1 K n x3_5 S_4))))
def f_X12_learns_51 (g0 : Nat) (x1 : Int32) (K : St → Option (St)) : Nat → Int32 → St → Option (St)
  | 0, _, _ => none
  | n + 1, x3, S => br (x1 ≤ x3) (K S) (ck (¬ x1 = 0) (bv (dvI (50 * x3) x1) (fun q_12 => bv (50 - q_12) (fun x4_13 => on2 (f_X12_takes g0 0 (gi S 60 g0 35) x4_13 S) (fun r_16 S_15 => on2 (f_X12_takes g0 1 (gi S_15 60 g0 34) x4_13 S_15) (fun r_19 S_18 => on (f_X12_gainOf g0 r_16 r_19 0 S_18) (fun r_21 => on (f_X12_teaches g0 0 (gi S_18 60 g0 35) r_16 r_21 r_19 S_18) (fun S_23 => on (f_X12_gainOf g0 r_16 r_19 1 S_23) (fun r_25 => on (f_X12_teaches g0 1 (gi S_23 60 g0 34) r_19 r_25 r_16 S_23) (fun S_27 => bv (si S_27 60 g0 34 r_16) (fun S_28 => bv (si S_28 60 g0 35 r_19) (fun S_29 => bv (x3 + 1) (fun x3_30 => f_X12_learns_51 g0 x1 K n x3_30 S_29)))))))))))))
def f_X12_learns_157 (g0 : Nat) (K : St → Option (St)) : Nat → Int32 → St → Option (St)
  | 0, _, _ => none
  | n + 1, x3, S => br (10 ≤ x3) (K S) (on (f_X12_greatest g0 0 (gi S 60 g0 35) S) (fun r_34 => on (f_X12_greatest g0 1 (gi S 60 g0 34) S) (fun r_36 => bv (si S 60 g0 34 r_34) (fun S_37 => bv (si S_37 60 g0 35 r_36) (fun S_38 => bv (x3 + 1) (fun x3_39 => f_X12_learns_157 g0 K n x3_39 S_38))))))
def f_X12_learns (g0 : Nat) (x1 : Int32) (x2 : Int32) (S : St) : Option (St) := bv (si S 60 g0 33 x2) (fun S_1 => f_X12_learns_7 g0 x1 (fun  (S_6 : St) => ck (inb 3 3179 = true) (bv (si S_6 60 g0 34 ((gi S_6 61 g0 (nn 3)) - 1)) (fun S_8 => bv (si S_8 60 g0 35 (gi S_8 60 g0 34)) (fun S_9 => f_X12_learns_51 g0 x1 (fun  (S_31 : St) => f_X12_learns_157 g0 (fun  (S_40 : St) => some S_40) FU 0 S_31) FU 0 S_9)))) FU 0 S_1)
set_option maxRecDepth 100000 in
set_option maxHeartbeats 4000000 in
theorem w_X12_learns_7 (hc : Cx p s m args meth c cX12_learns 7 "PumpCrossingModel" D cs B0 kt Lv) (hr : meth.sig.returnType = none) {o : St}  {g0 : Nat} {x1 : Int32} {K : St → Option (St)} (hL0 : Lv 60 g0) (hK : ∀  (S : St) (H : Heap) (locs : List Loc) (ls : Array Slot), K S = some o → Dy s D cs B0 α Lv S H locs → lv_has ls 7 [(0, .ref (α 60 g0)), (1, .int x1)] → W p l e (Rm 2 0 0) s m args below meth c H locs 0 0 (MQ below (Qv D cs B0 α Lv o) args s 0 0 (AB B0)) (F0 m 29 ls [])) : ∀ (n : Nat) (x3 : Int32) (S : St) (H : Heap) (locs : List Loc) (ls : Array Slot), f_X12_learns_7 g0 x1 K n x3 S = some o → Dy s D cs B0 α Lv S H locs → lv_has ls 7 [(0, .ref (α 60 g0)), (1, .int x1), (3, .int x3)] → W p l e (Rm 2 0 0) s m args below meth c H locs 0 0 (MQ below (Qv D cs B0 α Lv o) args s 0 0 (AB B0)) (F0 m 7 ls []) := by
  intro n
  induction n with
  | zero =>
    intro x3 S H locs ls hf
    rw [f_X12_learns_7] at hf
    cases hf
  | succ n ih =>
    intro x3 S H locs ls hf hd hl
    rw [f_X12_learns_7] at hf
    refine lv_iload_n hc.x hc.b dX12_learns_7 rfl (lv_at hl 2 rfl) ?_
    refine lv_aload_n hc.x hc.b dX12_learns_8 rfl (lv_at hl 0 rfl) ?_
    refine fg_60_32 hc hd hL0 tw_1341 dX12_learns_9 ?_
    refine r_alen hc hd (cl_60_table hc.cl hL0) (t0 := 0) rfl rfl dX12_learns_12 ?_
    show W p l e (Rm 2 0 0) s m args below meth c H locs 0 0 (MQ below (Qv D cs B0 α Lv o) args s 0 0 (AB B0)) (F0 m 13 ls [.int (Int32.ofNat 128), .int x3])
    refine lv_icmp_ge (tgt := 29) hc.x hc.b dX12_learns_13 (by decide) (fun c_2 => ?_) (fun c_2 => ?_)
    · have hf := br_y c_2 hf
      exact hK S _ _ _ hf hd (lv_sub hl [0, 1] rfl)
    · have hf := br_n c_2 hf
      refine lv_aload_n hc.x hc.b dX12_learns_16 rfl (lv_at hl 0 rfl) ?_
      refine fg_60_32 hc hd hL0 tw_1341 dX12_learns_17 ?_
      refine lv_iload_n hc.x hc.b dX12_learns_20 rfl (lv_at hl 2 rfl) ?_
      refine lv_iconst (v := 0) hc.x hc.b dX12_learns_21 (by decide) ?_
      obtain ⟨hi_3, hf⟩ := ck_s hf
      refine r_iast hc hd (cl_60_table hc.cl hL0) (fun _ => rfl) hi_3 dX12_learns_22 (fun H locs hd => ?_)
      obtain ⟨S_4, hd, hf⟩ := nmD hd hf
      obtain ⟨x3_5, ex3_5⟩ : ∃ z : Int32, z = x3 + 1 := ⟨_, rfl⟩
      have hf := bv_n ex3_5 hf
      refine lv_iinc (v := x3_5) (lv' := [(3, .int x3_5), (0, .ref (α 60 g0)), (1, .int x1)]) hc.x hc.b dX12_learns_23 hl (k := 2) rfl (by rw [ex3_5]; rfl) (by decide) rfl (fun ls hl => ?_)
      refine lv_goto (tgt := 7) hc.x hc.b dX12_learns_26 (by decide) ?_
      exact ih x3_5 S_4 _ _ _ hf hd (lv_sub hl [1, 2, 0] rfl)
set_option maxRecDepth 100000 in
set_option maxHeartbeats 4000000 in
theorem w_X12_learns_51 (hc : Cx p s m args meth c cX12_learns 7 "PumpCrossingModel" D cs B0 kt Lv) (hr : meth.sig.returnType = none) {o : St}  {g0 : Nat} {x1 : Int32} {K : St → Option (St)} (hL0 : Lv 60 g0) (hK : ∀  (S : St) (H : Heap) (locs : List Loc) (ls : Array Slot), K S = some o → Dy s D cs B0 α Lv S H locs → lv_has ls 7 [(0, .ref (α 60 g0))] → W p l e (Rm 2 0 0) s m args below meth c H locs 0 0 (MQ below (Qv D cs B0 α Lv o) args s 0 0 (AB B0)) (F0 m 155 ls [])) : ∀ (n : Nat) (x3 : Int32) (S : St) (H : Heap) (locs : List Loc) (ls : Array Slot), f_X12_learns_51 g0 x1 K n x3 S = some o → Dy s D cs B0 α Lv S H locs → lv_has ls 7 [(0, .ref (α 60 g0)), (1, .int x1), (3, .int x3)] → W p l e (Rm 2 0 0) s m args below meth c H locs 0 0 (MQ below (Qv D cs B0 α Lv o) args s 0 0 (AB B0)) (F0 m 51 ls []) := by
  intro n
  induction n with
  | zero =>
    intro x3 S H locs ls hf
    rw [f_X12_learns_51] at hf
    cases hf
  | succ n ih =>
    intro x3 S H locs ls hf hd hl
    rw [f_X12_learns_51] at hf
    refine lv_iload_n hc.x hc.b dX12_learns_51 rfl (lv_at hl 2 rfl) ?_
    refine lv_iload_n hc.x hc.b dX12_learns_52 rfl (lv_at hl 1 rfl) ?_
    refine lv_icmp_ge (tgt := 155) hc.x hc.b dX12_learns_53 (by decide) (fun c_10 => ?_) (fun c_10 => ?_)
    · have hf := br_y c_10 hf
      exact hK S _ _ _ hf hd (lv_sub hl [0] rfl)
    · have hf := br_n c_10 hf
      refine lv_bipush (v := 50) hc.x hc.b dX12_learns_56 (by decide) ?_
      refine lv_bipush (v := 50) hc.x hc.b dX12_learns_58 (by decide) ?_
      refine lv_iload_n hc.x hc.b dX12_learns_60 rfl (lv_at hl 2 rfl) ?_
      refine lv_imul hc.x hc.b dX12_learns_61 ?_
      refine lv_iload_n hc.x hc.b dX12_learns_62 rfl (lv_at hl 1 rfl) ?_
      obtain ⟨hn_11, hf⟩ := ck_s hf
      refine lv_idiv hc.x hc.b dX12_learns_63 hn_11 ?_
      refine lv_topi (fun q_12 eq_12 => ?_)
      have hf := bv_n eq_12 hf
      refine lv_isub hc.x hc.b dX12_learns_64 ?_
      refine lv_topi (fun x4_13 ex4_13 => ?_)
      have hf := bv_n ex4_13 hf
      refine lv_istore (lv' := [(4, .int x4_13), (0, .ref (α 60 g0)), (1, .int x1), (3, .int x3)]) hc.x hc.b dX12_learns_65 hl (by decide) rfl (fun ls hl => ?_)
      refine lv_aload_n hc.x hc.b dX12_learns_67 rfl (lv_at hl 1 rfl) ?_
      refine lv_iconst (v := 0) hc.x hc.b dX12_learns_68 (by decide) ?_
      refine lv_aload_n hc.x hc.b dX12_learns_69 rfl (lv_at hl 1 rfl) ?_
      refine fg_60_35 hc hd hL0 tw_1344 dX12_learns_70 ?_
      refine lv_iload hc.x hc.b dX12_learns_73 (lv_at hl 0 rfl) ?_
      obtain ⟨r_16, S_15, hq_14, hf⟩ := on2_s hf
      refine k_i (k_runV hc hd my_X12_takes tw_1797 hL0 rfl rfl rfl (c_X12_takes l D cs B0 kt α Lv S g0 0 (gi S 60 g0 35) x4_13 hc.cl hL0  hq_14) rfl rfl hl.1 (Nat.le_of_ble_eq_true rfl) ⟨Nat.le_of_ble_eq_true rfl, Nat.le_of_ble_eq_true rfl, Nat.zero_le _, Nat.zero_le _⟩ dX12_learns_75) hd (fun H locs hd => ?_)
      refine lv_istore (lv' := [(5, .int r_16), (4, .int x4_13), (0, .ref (α 60 g0)), (1, .int x1), (3, .int x3)]) hc.x hc.b dX12_learns_78 hl (by decide) rfl (fun ls hl => ?_)
      refine lv_aload_n hc.x hc.b dX12_learns_80 rfl (lv_at hl 2 rfl) ?_
      refine lv_iconst (v := 1) hc.x hc.b dX12_learns_81 (by decide) ?_
      refine lv_aload_n hc.x hc.b dX12_learns_82 rfl (lv_at hl 2 rfl) ?_
      refine fg_60_34 hc hd hL0 tw_1343 dX12_learns_83 ?_
      refine lv_iload hc.x hc.b dX12_learns_86 (lv_at hl 1 rfl) ?_
      obtain ⟨r_19, S_18, hq_17, hf⟩ := on2_s hf
      refine k_i (k_runV hc hd my_X12_takes tw_1797 hL0 rfl rfl rfl (c_X12_takes l D cs B0 kt α Lv S_15 g0 1 (gi S_15 60 g0 34) x4_13 hc.cl hL0  hq_17) rfl rfl hl.1 (Nat.le_of_ble_eq_true rfl) ⟨Nat.le_of_ble_eq_true rfl, Nat.le_of_ble_eq_true rfl, Nat.zero_le _, Nat.zero_le _⟩ dX12_learns_88) hd (fun H locs hd => ?_)
      refine lv_istore (lv' := [(6, .int r_19), (5, .int r_16), (4, .int x4_13), (0, .ref (α 60 g0)), (1, .int x1), (3, .int x3)]) hc.x hc.b dX12_learns_91 hl (by decide) rfl (fun ls hl => ?_)
      refine lv_aload_n hc.x hc.b dX12_learns_93 rfl (lv_at hl 3 rfl) ?_
      refine lv_iconst (v := 0) hc.x hc.b dX12_learns_94 (by decide) ?_
      refine lv_aload_n hc.x hc.b dX12_learns_95 rfl (lv_at hl 3 rfl) ?_
      refine fg_60_35 hc hd hL0 tw_1344 dX12_learns_96 ?_
      refine lv_iload hc.x hc.b dX12_learns_99 (lv_at hl 1 rfl) ?_
      refine lv_aload_n hc.x hc.b dX12_learns_101 rfl (lv_at hl 3 rfl) ?_
      refine lv_iload hc.x hc.b dX12_learns_102 (lv_at hl 1 rfl) ?_
      refine lv_iload hc.x hc.b dX12_learns_104 (lv_at hl 0 rfl) ?_
      refine lv_iconst (v := 0) hc.x hc.b dX12_learns_106 (by decide) ?_
      obtain ⟨r_21, hq_20, hf⟩ := on_s hf
      refine k_i (k_runV hc hd my_X12_gainOf tw_1740 hL0 rfl rfl rfl (c_X12_gainOf l D cs B0 kt α Lv S_18 g0 r_16 r_19 0 hc.cl hL0  hq_20) rfl rfl hl.1 (Nat.le_of_ble_eq_true rfl) ⟨Nat.le_of_ble_eq_true rfl, Nat.le_of_ble_eq_true rfl, Nat.zero_le _, Nat.zero_le _⟩ dX12_learns_107) hd (fun H locs hd => ?_)
      refine lv_iload hc.x hc.b dX12_learns_110 (lv_at hl 0 rfl) ?_
      obtain ⟨S_23, hq_22, hf⟩ := on_s hf
      refine k_v (k_runV hc hd my_X12_teaches tw_1810 hL0 rfl rfl rfl (c_X12_teaches l D cs B0 kt α Lv S_18 g0 0 (gi S_18 60 g0 35) r_16 r_21 r_19 hc.cl hL0  hq_22) rfl rfl hl.1 (Nat.le_of_ble_eq_true rfl) ⟨Nat.le_of_ble_eq_true rfl, Nat.le_of_ble_eq_true rfl, Nat.zero_le _, Nat.zero_le _⟩ dX12_learns_112) hd (fun H locs hd => ?_)
      refine lv_aload_n hc.x hc.b dX12_learns_115 rfl (lv_at hl 3 rfl) ?_
      refine lv_iconst (v := 1) hc.x hc.b dX12_learns_116 (by decide) ?_
      refine lv_aload_n hc.x hc.b dX12_learns_117 rfl (lv_at hl 3 rfl) ?_
      refine fg_60_34 hc hd hL0 tw_1343 dX12_learns_118 ?_
      refine lv_iload hc.x hc.b dX12_learns_121 (lv_at hl 0 rfl) ?_
      refine lv_aload_n hc.x hc.b dX12_learns_123 rfl (lv_at hl 3 rfl) ?_
      refine lv_iload hc.x hc.b dX12_learns_124 (lv_at hl 1 rfl) ?_
      refine lv_iload hc.x hc.b dX12_learns_126 (lv_at hl 0 rfl) ?_
      refine lv_iconst (v := 1) hc.x hc.b dX12_learns_128 (by decide) ?_
      obtain ⟨r_25, hq_24, hf⟩ := on_s hf
      refine k_i (k_runV hc hd my_X12_gainOf tw_1740 hL0 rfl rfl rfl (c_X12_gainOf l D cs B0 kt α Lv S_23 g0 r_16 r_19 1 hc.cl hL0  hq_24) rfl rfl hl.1 (Nat.le_of_ble_eq_true rfl) ⟨Nat.le_of_ble_eq_true rfl, Nat.le_of_ble_eq_true rfl, Nat.zero_le _, Nat.zero_le _⟩ dX12_learns_129) hd (fun H locs hd => ?_)
      refine lv_iload hc.x hc.b dX12_learns_132 (lv_at hl 1 rfl) ?_
      obtain ⟨S_27, hq_26, hf⟩ := on_s hf
      refine k_v (k_runV hc hd my_X12_teaches tw_1810 hL0 rfl rfl rfl (c_X12_teaches l D cs B0 kt α Lv S_23 g0 1 (gi S_23 60 g0 34) r_19 r_25 r_16 hc.cl hL0  hq_26) rfl rfl hl.1 (Nat.le_of_ble_eq_true rfl) ⟨Nat.le_of_ble_eq_true rfl, Nat.le_of_ble_eq_true rfl, Nat.zero_le _, Nat.zero_le _⟩ dX12_learns_134) hd (fun H locs hd => ?_)
      refine lv_aload_n hc.x hc.b dX12_learns_137 rfl (lv_at hl 3 rfl) ?_
      refine lv_iload hc.x hc.b dX12_learns_138 (lv_at hl 1 rfl) ?_
      refine fp_60_34 hc hd hL0 tw_1343 dX12_learns_140 (fun H locs hd => ?_)
      obtain ⟨S_28, hd, hf⟩ := nmD hd hf
      refine lv_aload_n hc.x hc.b dX12_learns_143 rfl (lv_at hl 3 rfl) ?_
      refine lv_iload hc.x hc.b dX12_learns_144 (lv_at hl 0 rfl) ?_
      refine fp_60_35 hc hd hL0 tw_1344 dX12_learns_146 (fun H locs hd => ?_)
      obtain ⟨S_29, hd, hf⟩ := nmD hd hf
      obtain ⟨x3_30, ex3_30⟩ : ∃ z : Int32, z = x3 + 1 := ⟨_, rfl⟩
      have hf := bv_n ex3_30 hf
      refine lv_iinc (v := x3_30) (lv' := [(3, .int x3_30), (6, .int r_19), (5, .int r_16), (4, .int x4_13), (0, .ref (α 60 g0)), (1, .int x1)]) hc.x hc.b dX12_learns_149 hl (k := 5) rfl (by rw [ex3_30]; rfl) (by decide) rfl (fun ls hl => ?_)
      refine lv_goto (tgt := 51) hc.x hc.b dX12_learns_152 (by decide) ?_
      exact ih x3_30 S_29 _ _ _ hf hd (lv_sub hl [4, 5, 0] rfl)
set_option maxRecDepth 100000 in
set_option maxHeartbeats 4000000 in
theorem w_X12_learns_157 (hc : Cx p s m args meth c cX12_learns 7 "PumpCrossingModel" D cs B0 kt Lv) (hr : meth.sig.returnType = none) {o : St}  {g0 : Nat} {K : St → Option (St)} (hL0 : Lv 60 g0) (hK : ∀  (S : St) (H : Heap) (locs : List Loc) (ls : Array Slot), K S = some o → Dy s D cs B0 α Lv S H locs → lv_has ls 7 [] → W p l e (Rm 2 0 0) s m args below meth c H locs 0 0 (MQ below (Qv D cs B0 α Lv o) args s 0 0 (AB B0)) (F0 m 203 ls [])) : ∀ (n : Nat) (x3 : Int32) (S : St) (H : Heap) (locs : List Loc) (ls : Array Slot), f_X12_learns_157 g0 K n x3 S = some o → Dy s D cs B0 α Lv S H locs → lv_has ls 7 [(0, .ref (α 60 g0)), (3, .int x3)] → W p l e (Rm 2 0 0) s m args below meth c H locs 0 0 (MQ below (Qv D cs B0 α Lv o) args s 0 0 (AB B0)) (F0 m 157 ls []) := by
  intro n
  induction n with
  | zero =>
    intro x3 S H locs ls hf
    rw [f_X12_learns_157] at hf
    cases hf
  | succ n ih =>
    intro x3 S H locs ls hf hd hl
    rw [f_X12_learns_157] at hf
    refine lv_iload_n hc.x hc.b dX12_learns_157 rfl (lv_at hl 1 rfl) ?_
    refine lv_bipush (v := 10) hc.x hc.b dX12_learns_158 (by decide) ?_
    refine lv_icmp_ge (tgt := 203) hc.x hc.b dX12_learns_160 (by decide) (fun c_32 => ?_) (fun c_32 => ?_)
    · have hf := br_y c_32 hf
      exact hK S _ _ _ hf hd (lv_sub hl [] rfl)
    · have hf := br_n c_32 hf
      refine lv_aload_n hc.x hc.b dX12_learns_163 rfl (lv_at hl 0 rfl) ?_
      refine lv_iconst (v := 0) hc.x hc.b dX12_learns_164 (by decide) ?_
      refine lv_aload_n hc.x hc.b dX12_learns_165 rfl (lv_at hl 0 rfl) ?_
      refine fg_60_35 hc hd hL0 tw_1344 dX12_learns_166 ?_
      obtain ⟨r_34, hq_33, hf⟩ := on_s hf
      refine k_i (k_runV hc hd my_X12_greatest tw_1806 hL0 rfl rfl rfl (c_X12_greatest l D cs B0 kt α Lv S g0 0 (gi S 60 g0 35) hc.cl hL0  hq_33) rfl rfl hl.1 (Nat.le_of_ble_eq_true rfl) ⟨Nat.le_of_ble_eq_true rfl, Nat.le_of_ble_eq_true rfl, Nat.zero_le _, Nat.zero_le _⟩ dX12_learns_169) hd (fun H locs hd => ?_)
      refine lv_istore (lv' := [(4, .int r_34), (0, .ref (α 60 g0)), (3, .int x3)]) hc.x hc.b dX12_learns_172 hl (by decide) rfl (fun ls hl => ?_)
      refine lv_aload_n hc.x hc.b dX12_learns_174 rfl (lv_at hl 1 rfl) ?_
      refine lv_iconst (v := 1) hc.x hc.b dX12_learns_175 (by decide) ?_
      refine lv_aload_n hc.x hc.b dX12_learns_176 rfl (lv_at hl 1 rfl) ?_
      refine fg_60_34 hc hd hL0 tw_1343 dX12_learns_177 ?_
      obtain ⟨r_36, hq_35, hf⟩ := on_s hf
      refine k_i (k_runV hc hd my_X12_greatest tw_1806 hL0 rfl rfl rfl (c_X12_greatest l D cs B0 kt α Lv S g0 1 (gi S 60 g0 34) hc.cl hL0  hq_35) rfl rfl hl.1 (Nat.le_of_ble_eq_true rfl) ⟨Nat.le_of_ble_eq_true rfl, Nat.le_of_ble_eq_true rfl, Nat.zero_le _, Nat.zero_le _⟩ dX12_learns_180) hd (fun H locs hd => ?_)
      refine lv_istore (lv' := [(5, .int r_36), (4, .int r_34), (0, .ref (α 60 g0)), (3, .int x3)]) hc.x hc.b dX12_learns_183 hl (by decide) rfl (fun ls hl => ?_)
      refine lv_aload_n hc.x hc.b dX12_learns_185 rfl (lv_at hl 2 rfl) ?_
      refine lv_iload hc.x hc.b dX12_learns_186 (lv_at hl 1 rfl) ?_
      refine fp_60_34 hc hd hL0 tw_1343 dX12_learns_188 (fun H locs hd => ?_)
      obtain ⟨S_37, hd, hf⟩ := nmD hd hf
      refine lv_aload_n hc.x hc.b dX12_learns_191 rfl (lv_at hl 2 rfl) ?_
      refine lv_iload hc.x hc.b dX12_learns_192 (lv_at hl 0 rfl) ?_
      refine fp_60_35 hc hd hL0 tw_1344 dX12_learns_194 (fun H locs hd => ?_)
      obtain ⟨S_38, hd, hf⟩ := nmD hd hf
      obtain ⟨x3_39, ex3_39⟩ : ∃ z : Int32, z = x3 + 1 := ⟨_, rfl⟩
      have hf := bv_n ex3_39 hf
      refine lv_iinc (v := x3_39) (lv' := [(3, .int x3_39), (5, .int r_36), (4, .int r_34), (0, .ref (α 60 g0))]) hc.x hc.b dX12_learns_197 hl (k := 3) rfl (by rw [ex3_39]; rfl) (by decide) rfl (fun ls hl => ?_)
      refine lv_goto (tgt := 157) hc.x hc.b dX12_learns_200 (by decide) ?_
      exact ih x3_39 S_38 _ _ _ hf hd (lv_sub hl [3, 0] rfl)
set_option maxRecDepth 100000 in
set_option maxHeartbeats 4000000 in
theorem b_X12_learns (hc : Cx p s m args meth c cX12_learns 7 "PumpCrossingModel" D cs B0 kt Lv) (hr : meth.sig.returnType = none)  {o : St}  {S : St} {g0 : Nat} {x1 : Int32} {x2 : Int32} (hL0 : Lv 60 g0) {H : Heap} {locs : List Loc} {ls : Array Slot} (hf : f_X12_learns g0 x1 x2 S = some o) (hd : Dy s D cs B0 α Lv S H locs) (hl : lv_has ls 7 [(0, .ref (α 60 g0)), (1, .int x1), (2, .int x2)]) : W p l e (Rm 2 0 0) s m args below meth c H locs 0 0 (MQ below (Qv D cs B0 α Lv o) args s 0 0 (AB B0)) (F0 m 0 ls []) := by
  unfold f_X12_learns at hf
  refine lv_aload_n hc.x hc.b dX12_learns_0 rfl (lv_at hl 0 rfl) ?_
  refine lv_iload_n hc.x hc.b dX12_learns_1 rfl (lv_at hl 2 rfl) ?_
  refine fp_60_33 hc hd hL0 tw_1342 dX12_learns_2 (fun H locs hd => ?_)
  obtain ⟨S_1, hd, hf⟩ := nmD hd hf
  refine lv_iconst (v := 0) hc.x hc.b dX12_learns_5 (by decide) ?_
  refine lv_istore_n (lv' := [(3, .int 0), (0, .ref (α 60 g0)), (1, .int x1), (2, .int x2)]) hc.x hc.b dX12_learns_6 rfl hl (by decide) rfl (fun ls hl => ?_)
  refine w_X12_learns_7 hc hr hL0 ?_ _ _ _ _ _ _ hf hd (lv_sub hl [1, 2, 0] rfl)
  intro S_6 H locs ls hf hd hl
  refine lv_aload_n hc.x hc.b dX12_learns_29 rfl (lv_at hl 0 rfl) ?_
  refine lv_aload_n hc.x hc.b dX12_learns_30 rfl (lv_at hl 0 rfl) ?_
  refine fg_60_0 hc hd hL0 tw_1309 dX12_learns_31 ?_
  refine lv_iconst (v := 3) hc.x hc.b dX12_learns_34 (by decide) ?_
  obtain ⟨hi_7, hf⟩ := ck_s hf
  refine r_iald hc hd (cl_60_told hc.cl hL0) rfl hi_7 dX12_learns_35 ?_
  refine lv_iconst (v := 1) hc.x hc.b dX12_learns_36 (by decide) ?_
  refine lv_isub hc.x hc.b dX12_learns_37 ?_
  refine fp_60_34 hc hd hL0 tw_1343 dX12_learns_38 (fun H locs hd => ?_)
  obtain ⟨S_8, hd, hf⟩ := nmD hd hf
  refine lv_aload_n hc.x hc.b dX12_learns_41 rfl (lv_at hl 0 rfl) ?_
  refine lv_aload_n hc.x hc.b dX12_learns_42 rfl (lv_at hl 0 rfl) ?_
  refine fg_60_34 hc hd hL0 tw_1343 dX12_learns_43 ?_
  refine fp_60_35 hc hd hL0 tw_1344 dX12_learns_46 (fun H locs hd => ?_)
  obtain ⟨S_9, hd, hf⟩ := nmD hd hf
  refine lv_iconst (v := 0) hc.x hc.b dX12_learns_49 (by decide) ?_
  refine lv_istore_n (lv' := [(3, .int 0), (0, .ref (α 60 g0)), (1, .int x1)]) hc.x hc.b dX12_learns_50 rfl hl (by decide) rfl (fun ls hl => ?_)
  refine w_X12_learns_51 hc hr hL0 ?_ _ _ _ _ _ _ hf hd (lv_sub hl [1, 2, 0] rfl)
  intro S_31 H locs ls hf hd hl
  refine lv_iconst (v := 0) hc.x hc.b dX12_learns_155 (by decide) ?_
  refine lv_istore_n (lv' := [(3, .int 0), (0, .ref (α 60 g0))]) hc.x hc.b dX12_learns_156 rfl hl (by decide) rfl (fun ls hl => ?_)
  refine w_X12_learns_157 hc hr hL0 ?_ _ _ _ _ _ _ hf hd (lv_sub hl [1, 0] rfl)
  intro S_40 H locs ls hf hd hl
  cases hf
  exact r_vret hc hd hr dX12_learns_203
theorem c_X12_learns (l : Launch) (D : va_G) (cs : Nat → ClassId) (B0 : Nat) (kt : (Nat → Nat) × (Nat → Nat)) (α : Nat → Nat → Nat) (Lv : Nat → Nat → Prop) (S : St) (g0 : Nat) (x1 : Int32) (x2 : Int32) (hcl : Cl Lv) (hL0 : Lv 60 g0) {o : St} (hf : f_X12_learns g0 x1 x2 S = some o) : Met l yX12_learns (wz yX12_learns cX12_learns 7 none) (Rm 2 0 0) (Pz D cs B0 kt α Lv S [.ref (α 60 g0), .int x1, .int x2]) (Qv D cs B0 α Lv o) 0 0 (AB B0) := met_of (by decide) rfl hcl (Nat.le_of_ble_eq_true rfl) (fun p e s m below meth c hc hr hd ls hl => b_X12_learns hc hr hL0 hf hd hl)
theorem my_X12_learns : MyV yX12_learns "PumpCrossingModel" cX12_learns 7 none 2 := ⟨tw_1795, (in_sel 85 (by decide +kernel) (by decide +kernel)), tw_11, tw_1796, by decide +kernel⟩
def f_X12_together (g0 : Nat) (x1 : Int32) (x2 : Int32) (S : St) : Option (Int32) := on (f_X12_gainOf g0 x1 x2 0 S) (fun r_2 => on (f_X12_gainOf g0 x1 x2 1 S) (fun r_4 => some (r_2 + r_4)))
set_option maxRecDepth 100000 in
set_option maxHeartbeats 4000000 in
theorem b_X12_together (hc : Cx p s m args meth c cX12_together 3 "PumpCrossingModel" D cs B0 kt Lv) (hr : meth.sig.returnType = some .int)  {o : Int32}  {S : St} {g0 : Nat} {x1 : Int32} {x2 : Int32} (hL0 : Lv 60 g0) {H : Heap} {locs : List Loc} {ls : Array Slot} (hf : f_X12_together g0 x1 x2 S = some o) (hd : Dy s D cs B0 α Lv S H locs) (hl : lv_has ls 3 [(0, .ref (α 60 g0)), (1, .int x1), (2, .int x2)]) : W p l e (Rm 1 0 0) s m args below meth c H locs 0 0 (MQ below (Qi D cs B0 α Lv o S) args s 0 0 (AB B0)) (F0 m 0 ls []) := by
  unfold f_X12_together at hf
  refine lv_aload_n hc.x hc.b dX12_together_0 rfl (lv_at hl 0 rfl) ?_
  refine lv_iload_n hc.x hc.b dX12_together_1 rfl (lv_at hl 1 rfl) ?_
  refine lv_iload_n hc.x hc.b dX12_together_2 rfl (lv_at hl 2 rfl) ?_
  refine lv_iconst (v := 0) hc.x hc.b dX12_together_3 (by decide) ?_
  obtain ⟨r_2, hq_1, hf⟩ := on_s hf
  refine k_i (k_runV hc hd my_X12_gainOf tw_1740 hL0 rfl rfl rfl (c_X12_gainOf l D cs B0 kt α Lv S g0 x1 x2 0 hc.cl hL0  hq_1) rfl rfl hl.1 (Nat.le_of_ble_eq_true rfl) ⟨Nat.le_of_ble_eq_true rfl, Nat.le_of_ble_eq_true rfl, Nat.zero_le _, Nat.zero_le _⟩ dX12_together_4) hd (fun H locs hd => ?_)
  refine lv_aload_n hc.x hc.b dX12_together_7 rfl (lv_at hl 0 rfl) ?_
  refine lv_iload_n hc.x hc.b dX12_together_8 rfl (lv_at hl 1 rfl) ?_
  refine lv_iload_n hc.x hc.b dX12_together_9 rfl (lv_at hl 2 rfl) ?_
  refine lv_iconst (v := 1) hc.x hc.b dX12_together_10 (by decide) ?_
  obtain ⟨r_4, hq_3, hf⟩ := on_s hf
  refine k_i (k_runV hc hd my_X12_gainOf tw_1740 hL0 rfl rfl rfl (c_X12_gainOf l D cs B0 kt α Lv S g0 x1 x2 1 hc.cl hL0  hq_3) rfl rfl hl.1 (Nat.le_of_ble_eq_true rfl) ⟨Nat.le_of_ble_eq_true rfl, Nat.le_of_ble_eq_true rfl, Nat.zero_le _, Nat.zero_le _⟩ dX12_together_11) hd (fun H locs hd => ?_)
  refine lv_iadd hc.x hc.b dX12_together_14 ?_
  cases hf
  exact r_iret hc hd hr dX12_together_15
theorem c_X12_together (l : Launch) (D : va_G) (cs : Nat → ClassId) (B0 : Nat) (kt : (Nat → Nat) × (Nat → Nat)) (α : Nat → Nat → Nat) (Lv : Nat → Nat → Prop) (S : St) (g0 : Nat) (x1 : Int32) (x2 : Int32) (hcl : Cl Lv) (hL0 : Lv 60 g0) {o : Int32} (hf : f_X12_together g0 x1 x2 S = some o) : Met l yX12_together (wz yX12_together cX12_together 3 (some .int)) (Rm 1 0 0) (Pz D cs B0 kt α Lv S [.ref (α 60 g0), .int x1, .int x2]) (Qi D cs B0 α Lv o S) 0 0 (AB B0) := met_of (by decide) rfl hcl (Nat.le_of_ble_eq_true rfl) (fun p e s m below meth c hc hr hd ls hl => b_X12_together hc hr hL0 hf hd hl)
theorem my_X12_together : MyV yX12_together "PumpCrossingModel" cX12_together 3 (some .int) 2 := ⟨tw_1766, (in_sel 81 (by decide +kernel) (by decide +kernel)), tw_11, tw_1767, by decide +kernel⟩
def f_X12_above_91 (g0 : Nat) (x3 : Int32) (x4 : Int32) (x6 : Int32) (K : Int32 → St → Option (Int32 × St)) : Nat → Int32 → Int32 → St → Option (Int32 × St)
  | 0, _, _, _ => none
  | n + 1, x7, x8, S => br (x4 < x8) (K x7 S) (on (f_X12_learns g0 x3 x8 S) (fun S_18 => on (f_X12_together g0 (gi S_18 60 g0 34) (gi S_18 60 g0 35) S_18) (fun r_20 => bv (fun (v_21 : Int32) (S_22 : St) => bv (x7 + v_21) (fun x7_24 => bv (x8 + 1) (fun x8_25 => f_X12_above_91 g0 x3 x4 x6 K n x7_24 x8_25 S_22))) (fun J_23 => br (r_20 ≤ x6) (J_23 0 S_18) (J_23 1 S_18)))))
def f_X12_above (g0 : Nat) (x1 : Int32) (x2 : Int32) (x3 : Int32) (x4 : Int32) (S : St) : Option (Int32 × St) := on (f_X12_learnFault g0 x1 x2 x3 300 S) (fun r_2 => bv (si S 60 g0 5 r_2) (fun S_3 => bv (fun  (S_4 : St) => br ((gi S_4 60 g0 5) ≤ 0) (on (f_X12_layGains g0 x1 x2 S_4) (fun S_8 => on (f_X12_evenAt g0 0 S_8) (fun r_10 => br (r_10 = ((-1))) (some ((-1), S_8)) (bv (dvI r_10 10) (fun q_12 => bv (rmI r_10 10) (fun q_13 => on (f_X12_together g0 q_12 q_13 S_8) (fun r_15 => f_X12_above_91 g0 x3 x4 r_15 (fun (x7_27 : Int32) (S_28 : St) => some (x7_27, S_28)) FU 0 1 S_8))))))) (some (0, S_4))) (fun J_5 => br ((gi S_3 60 g0 5) = 0) (on (f_X12_within (Int32.toInt64 x4) 1 20 S_3) (fun r_31 => br (r_31 = 0) (bv (si S_3 60 g0 5 2) (fun S_33 => J_5 S_33)) (J_5 S_3))) (J_5 S_3))))
set_option maxRecDepth 100000 in
set_option maxHeartbeats 4000000 in
theorem w_X12_above_91 (hc : Cx p s m args meth c cX12_above 9 "PumpCrossingModel" D cs B0 kt Lv) (hr : meth.sig.returnType = some .int) {o : Int32 × St}  {g0 : Nat} {x3 : Int32} {x4 : Int32} {x6 : Int32} {K : Int32 → St → Option (Int32 × St)} (hL0 : Lv 60 g0) (hK : ∀ (k7 : Int32) (S : St) (H : Heap) (locs : List Loc) (ls : Array Slot), K k7 S = some o → Dy s D cs B0 α Lv S H locs → lv_has ls 9 [(7, .int k7)] → W p l e (Rm 4 0 0) s m args below meth c H locs 0 0 (MQ below (Qi D cs B0 α Lv o.1 o.2) args s 0 0 (AB B0)) (F0 m 138 ls [])) : ∀ (n : Nat) (x7 : Int32) (x8 : Int32) (S : St) (H : Heap) (locs : List Loc) (ls : Array Slot), f_X12_above_91 g0 x3 x4 x6 K n x7 x8 S = some o → Dy s D cs B0 α Lv S H locs → lv_has ls 9 [(0, .ref (α 60 g0)), (3, .int x3), (4, .int x4), (6, .int x6), (7, .int x7), (8, .int x8)] → W p l e (Rm 4 0 0) s m args below meth c H locs 0 0 (MQ below (Qi D cs B0 α Lv o.1 o.2) args s 0 0 (AB B0)) (F0 m 91 ls []) := by
  intro n
  induction n with
  | zero =>
    intro x7 x8 S H locs ls hf
    rw [f_X12_above_91] at hf
    cases hf
  | succ n ih =>
    intro x7 x8 S H locs ls hf hd hl
    rw [f_X12_above_91] at hf
    refine lv_iload hc.x hc.b dX12_above_91 (lv_at hl 5 rfl) ?_
    refine lv_iload hc.x hc.b dX12_above_93 (lv_at hl 2 rfl) ?_
    refine lv_icmp_gt (tgt := 138) hc.x hc.b dX12_above_95 (by decide) (fun c_16 => ?_) (fun c_16 => ?_)
    · have hf := br_y c_16 hf
      exact hK x7 S _ _ _ hf hd (lv_sub hl [4] rfl)
    · have hf := br_n c_16 hf
      refine lv_aload_n hc.x hc.b dX12_above_98 rfl (lv_at hl 0 rfl) ?_
      refine lv_iload_n hc.x hc.b dX12_above_99 rfl (lv_at hl 1 rfl) ?_
      refine lv_iload hc.x hc.b dX12_above_100 (lv_at hl 5 rfl) ?_
      obtain ⟨S_18, hq_17, hf⟩ := on_s hf
      refine k_v (k_runV hc hd my_X12_learns tw_1793 hL0 rfl rfl rfl (c_X12_learns l D cs B0 kt α Lv S g0 x3 x8 hc.cl hL0  hq_17) rfl rfl hl.1 (Nat.le_of_ble_eq_true rfl) ⟨Nat.le_of_ble_eq_true rfl, Nat.le_of_ble_eq_true rfl, Nat.zero_le _, Nat.zero_le _⟩ dX12_above_102) hd (fun H locs hd => ?_)
      refine lv_iload hc.x hc.b dX12_above_105 (lv_at hl 4 rfl) ?_
      refine lv_aload_n hc.x hc.b dX12_above_107 rfl (lv_at hl 0 rfl) ?_
      refine lv_aload_n hc.x hc.b dX12_above_108 rfl (lv_at hl 0 rfl) ?_
      refine fg_60_34 hc hd hL0 tw_1343 dX12_above_109 ?_
      refine lv_aload_n hc.x hc.b dX12_above_112 rfl (lv_at hl 0 rfl) ?_
      refine fg_60_35 hc hd hL0 tw_1344 dX12_above_113 ?_
      obtain ⟨r_20, hq_19, hf⟩ := on_s hf
      refine k_i (k_runV hc hd my_X12_together tw_1764 hL0 rfl rfl rfl (c_X12_together l D cs B0 kt α Lv S_18 g0 (gi S_18 60 g0 34) (gi S_18 60 g0 35) hc.cl hL0  hq_19) rfl rfl hl.1 (Nat.le_of_ble_eq_true rfl) ⟨Nat.le_of_ble_eq_true rfl, Nat.le_of_ble_eq_true rfl, Nat.zero_le _, Nat.zero_le _⟩ dX12_above_116) hd (fun H locs hd => ?_)
      refine lv_iload hc.x hc.b dX12_above_119 (lv_at hl 3 rfl) ?_
      refine jn_s (P := fun J_23 => ∀ (v_21 : Int32) (S_22 : St) (H : Heap) (locs : List Loc) (ls : Array Slot), J_23 v_21 S_22 = some o → Dy s D cs B0 α Lv S_22 H locs → lv_has ls 9 [(0, .ref (α 60 g0)), (3, .int x3), (4, .int x4), (6, .int x6), (8, .int x8)] → W p l e (Rm 4 0 0) s m args below meth c H locs 0 0 (MQ below (Qi D cs B0 α Lv o.1 o.2) args s 0 0 (AB B0)) (F0 m 129 ls [.int v_21, .int x7])) hf ?_ (fun J_23 hJ_23 hf => ?_)
      · intro v_21 S_22 H locs ls hf hd hl
        refine lv_iadd hc.x hc.b dX12_above_129 ?_
        refine lv_topi (fun x7_24 ex7_24 => ?_)
        have hf := bv_n ex7_24 hf
        refine lv_istore (lv' := [(7, .int x7_24), (0, .ref (α 60 g0)), (3, .int x3), (4, .int x4), (6, .int x6), (8, .int x8)]) hc.x hc.b dX12_above_130 hl (by decide) rfl (fun ls hl => ?_)
        obtain ⟨x8_25, ex8_25⟩ : ∃ z : Int32, z = x8 + 1 := ⟨_, rfl⟩
        have hf := bv_n ex8_25 hf
        refine lv_iinc (v := x8_25) (lv' := [(8, .int x8_25), (7, .int x7_24), (0, .ref (α 60 g0)), (3, .int x3), (4, .int x4), (6, .int x6)]) hc.x hc.b dX12_above_132 hl (k := 5) rfl (by rw [ex8_25]; rfl) (by decide) rfl (fun ls hl => ?_)
        refine lv_goto (tgt := 91) hc.x hc.b dX12_above_135 (by decide) ?_
        exact ih x7_24 x8_25 S_22 _ _ _ hf hd (lv_sub hl [2, 3, 4, 5, 1, 0] rfl)
      refine lv_icmp_le (tgt := 128) hc.x hc.b dX12_above_121 (by decide) (fun c_26 => ?_) (fun c_26 => ?_)
      · have hf := br_y c_26 hf
        refine lv_iconst (v := 0) hc.x hc.b dX12_above_128 (by decide) ?_
        exact hJ_23 0 S_18 _ _ _ hf hd (lv_sub hl [0, 1, 2, 3, 5] rfl)
      · have hf := br_n c_26 hf
        refine lv_iconst (v := 1) hc.x hc.b dX12_above_124 (by decide) ?_
        refine lv_goto (tgt := 129) hc.x hc.b dX12_above_125 (by decide) ?_
        exact hJ_23 1 S_18 _ _ _ hf hd (lv_sub hl [0, 1, 2, 3, 5] rfl)
set_option maxRecDepth 100000 in
set_option maxHeartbeats 4000000 in
theorem b_X12_above (hc : Cx p s m args meth c cX12_above 9 "PumpCrossingModel" D cs B0 kt Lv) (hr : meth.sig.returnType = some .int)  {o : Int32 × St}  {S : St} {g0 : Nat} {x1 : Int32} {x2 : Int32} {x3 : Int32} {x4 : Int32} (hL0 : Lv 60 g0) {H : Heap} {locs : List Loc} {ls : Array Slot} (hf : f_X12_above g0 x1 x2 x3 x4 S = some o) (hd : Dy s D cs B0 α Lv S H locs) (hl : lv_has ls 9 [(0, .ref (α 60 g0)), (1, .int x1), (2, .int x2), (3, .int x3), (4, .int x4)]) : W p l e (Rm 4 0 0) s m args below meth c H locs 0 0 (MQ below (Qi D cs B0 α Lv o.1 o.2) args s 0 0 (AB B0)) (F0 m 0 ls []) := by
  unfold f_X12_above at hf
  refine lv_aload_n hc.x hc.b dX12_above_0 rfl (lv_at hl 0 rfl) ?_
  refine lv_aload_n hc.x hc.b dX12_above_1 rfl (lv_at hl 0 rfl) ?_
  refine lv_iload_n hc.x hc.b dX12_above_2 rfl (lv_at hl 1 rfl) ?_
  refine lv_iload_n hc.x hc.b dX12_above_3 rfl (lv_at hl 2 rfl) ?_
  refine lv_iload_n hc.x hc.b dX12_above_4 rfl (lv_at hl 3 rfl) ?_
  refine lv_sipush (v := 300) hc.x hc.b dX12_above_5 (by decide) ?_
  obtain ⟨r_2, hq_1, hf⟩ := on_s hf
  refine k_i (k_runV hc hd my_X12_learnFault tw_1789 hL0 rfl rfl rfl (c_X12_learnFault l D cs B0 kt α Lv S g0 x1 x2 x3 300 hc.cl hL0  hq_1) rfl rfl hl.1 (Nat.le_of_ble_eq_true rfl) ⟨Nat.le_of_ble_eq_true rfl, Nat.le_of_ble_eq_true rfl, Nat.zero_le _, Nat.zero_le _⟩ dX12_above_8) hd (fun H locs hd => ?_)
  refine fp_60_5 hc hd hL0 tw_1314 dX12_above_11 (fun H locs hd => ?_)
  obtain ⟨S_3, hd, hf⟩ := nmD hd hf
  refine lv_aload_n hc.x hc.b dX12_above_14 rfl (lv_at hl 0 rfl) ?_
  refine fg_60_5 hc hd hL0 tw_1314 dX12_above_15 ?_
  refine jn_s (P := fun J_5 => ∀  (S_4 : St) (H : Heap) (locs : List Loc) (ls : Array Slot), J_5 S_4 = some o → Dy s D cs B0 α Lv S_4 H locs → lv_has ls 9 [(0, .ref (α 60 g0)), (1, .int x1), (2, .int x2), (3, .int x3), (4, .int x4)] → W p l e (Rm 4 0 0) s m args below meth c H locs 0 0 (MQ below (Qi D cs B0 α Lv o.1 o.2) args s 0 0 (AB B0)) (F0 m 39 ls [])) hf ?_ (fun J_5 hJ_5 hf => ?_)
  · intro S_4 H locs ls hf hd hl
    refine lv_aload_n hc.x hc.b dX12_above_39 rfl (lv_at hl 0 rfl) ?_
    refine fg_60_5 hc hd hL0 tw_1314 dX12_above_40 ?_
    refine lv_if_le (tgt := 48) hc.x hc.b dX12_above_43 (by decide) (fun c_6 => ?_) (fun c_6 => ?_)
    · have hf := br_y c_6 hf
      refine lv_aload_n hc.x hc.b dX12_above_48 rfl (lv_at hl 0 rfl) ?_
      refine lv_iload_n hc.x hc.b dX12_above_49 rfl (lv_at hl 1 rfl) ?_
      refine lv_iload_n hc.x hc.b dX12_above_50 rfl (lv_at hl 2 rfl) ?_
      obtain ⟨S_8, hq_7, hf⟩ := on_s hf
      refine k_v (k_runV hc hd my_X12_layGains tw_1732 hL0 rfl rfl rfl (c_X12_layGains l D cs B0 kt α Lv S_4 g0 x1 x2 hc.cl hL0  hq_7) rfl rfl hl.1 (Nat.le_of_ble_eq_true rfl) ⟨Nat.le_of_ble_eq_true rfl, Nat.le_of_ble_eq_true rfl, Nat.zero_le _, Nat.zero_le _⟩ dX12_above_51) hd (fun H locs hd => ?_)
      refine lv_aload_n hc.x hc.b dX12_above_54 rfl (lv_at hl 0 rfl) ?_
      refine lv_iconst (v := 0) hc.x hc.b dX12_above_55 (by decide) ?_
      obtain ⟨r_10, hq_9, hf⟩ := on_s hf
      refine k_i (k_runV hc hd my_X12_evenAt tw_1752 hL0 rfl rfl rfl (c_X12_evenAt l D cs B0 kt α Lv S_8 g0 0 hc.cl hL0  hq_9) rfl rfl hl.1 (Nat.le_of_ble_eq_true rfl) ⟨Nat.le_of_ble_eq_true rfl, Nat.le_of_ble_eq_true rfl, Nat.zero_le _, Nat.zero_le _⟩ dX12_above_56) hd (fun H locs hd => ?_)
      refine lv_istore (lv' := [(5, .int r_10), (0, .ref (α 60 g0)), (1, .int x1), (2, .int x2), (3, .int x3), (4, .int x4)]) hc.x hc.b dX12_above_59 hl (by decide) rfl (fun ls hl => ?_)
      refine lv_iload hc.x hc.b dX12_above_61 (lv_at hl 0 rfl) ?_
      refine lv_iconst (v := (-1)) hc.x hc.b dX12_above_63 (by decide) ?_
      refine lv_icmp_ne (tgt := 69) hc.x hc.b dX12_above_64 (by decide) (fun c_11 => ?_) (fun c_11 => ?_)
      · have hf := br_n c_11 hf
        refine lv_aload_n hc.x hc.b dX12_above_69 rfl (lv_at hl 1 rfl) ?_
        refine lv_iload hc.x hc.b dX12_above_70 (lv_at hl 0 rfl) ?_
        refine lv_bipush (v := 10) hc.x hc.b dX12_above_72 (by decide) ?_
        refine lv_idiv hc.x hc.b dX12_above_74 (by decide) ?_
        refine lv_topi (fun q_12 eq_12 => ?_)
        have hf := bv_n eq_12 hf
        refine lv_iload hc.x hc.b dX12_above_75 (lv_at hl 0 rfl) ?_
        refine lv_bipush (v := 10) hc.x hc.b dX12_above_77 (by decide) ?_
        refine lv_irem hc.x hc.b dX12_above_79 (by decide) ?_
        refine lv_topi (fun q_13 eq_13 => ?_)
        have hf := bv_n eq_13 hf
        obtain ⟨r_15, hq_14, hf⟩ := on_s hf
        refine k_i (k_runV hc hd my_X12_together tw_1764 hL0 rfl rfl rfl (c_X12_together l D cs B0 kt α Lv S_8 g0 q_12 q_13 hc.cl hL0  hq_14) rfl rfl hl.1 (Nat.le_of_ble_eq_true rfl) ⟨Nat.le_of_ble_eq_true rfl, Nat.le_of_ble_eq_true rfl, Nat.zero_le _, Nat.zero_le _⟩ dX12_above_80) hd (fun H locs hd => ?_)
        refine lv_istore (lv' := [(6, .int r_15), (5, .int r_10), (0, .ref (α 60 g0)), (1, .int x1), (2, .int x2), (3, .int x3), (4, .int x4)]) hc.x hc.b dX12_above_83 hl (by decide) rfl (fun ls hl => ?_)
        refine lv_iconst (v := 0) hc.x hc.b dX12_above_85 (by decide) ?_
        refine lv_istore (lv' := [(7, .int 0), (6, .int r_15), (5, .int r_10), (0, .ref (α 60 g0)), (1, .int x1), (2, .int x2), (3, .int x3), (4, .int x4)]) hc.x hc.b dX12_above_86 hl (by decide) rfl (fun ls hl => ?_)
        refine lv_iconst (v := 1) hc.x hc.b dX12_above_88 (by decide) ?_
        refine lv_istore (lv' := [(8, .int 1), (7, .int 0), (6, .int r_15), (5, .int r_10), (0, .ref (α 60 g0)), (1, .int x1), (2, .int x2), (3, .int x3), (4, .int x4)]) hc.x hc.b dX12_above_89 hl (by decide) rfl (fun ls hl => ?_)
        refine w_X12_above_91 hc hr hL0 ?_ _ _ _ _ _ _ _ hf hd (lv_sub hl [4, 7, 8, 2, 1, 0] rfl)
        intro x7_27 S_28 H locs ls hf hd hl
        refine lv_iload hc.x hc.b dX12_above_138 (lv_at hl 0 rfl) ?_
        cases hf
        exact r_iret hc hd hr dX12_above_140
      · have hf := br_y c_11 hf
        refine lv_iconst (v := (-1)) hc.x hc.b dX12_above_67 (by decide) ?_
        cases hf
        exact r_iret hc hd hr dX12_above_68
    · have hf := br_n c_6 hf
      refine lv_iconst (v := 0) hc.x hc.b dX12_above_46 (by decide) ?_
      cases hf
      exact r_iret hc hd hr dX12_above_47
  refine lv_if_ne (tgt := 39) hc.x hc.b dX12_above_18 (by decide) (fun c_29 => ?_) (fun c_29 => ?_)
  · have hf := br_n c_29 hf
    exact hJ_5 S_3 _ _ _ hf hd (lv_sub hl [0, 1, 2, 3, 4] rfl)
  · have hf := br_y c_29 hf
    refine lv_iload hc.x hc.b dX12_above_21 (lv_at hl 4 rfl) ?_
    refine lv_i2l (v := Int32.toInt64 x4) hc.x hc.b dX12_above_23 rfl ?_
    refine lv_lconst (v := 1) hc.x hc.b dX12_above_24 (by decide) ?_
    refine lv_ldc2 (v := 20) hc.x hc.b hc.ow (hc.ts tw_1456) dX12_above_25 ?_
    obtain ⟨r_31, hq_30, hf⟩ := on_s hf
    refine k_i (k_runS hc hd my_X12_within tw_1444 (c_X12_within l D cs B0 kt α Lv S_3 (Int32.toInt64 x4) 1 20 hc.cl   hq_30) rfl rfl hl.1 (Nat.le_of_ble_eq_true rfl) ⟨Nat.le_of_ble_eq_true rfl, Nat.le_of_ble_eq_true rfl, Nat.zero_le _, Nat.zero_le _⟩ dX12_above_28) hd (fun H locs hd => ?_)
    refine lv_if_ne (tgt := 39) hc.x hc.b dX12_above_31 (by decide) (fun c_32 => ?_) (fun c_32 => ?_)
    · have hf := br_n c_32 hf
      exact hJ_5 S_3 _ _ _ hf hd (lv_sub hl [0, 1, 2, 3, 4] rfl)
    · have hf := br_y c_32 hf
      refine lv_aload_n hc.x hc.b dX12_above_34 rfl (lv_at hl 0 rfl) ?_
      refine lv_iconst (v := 2) hc.x hc.b dX12_above_35 (by decide) ?_
      refine fp_60_5 hc hd hL0 tw_1314 dX12_above_36 (fun H locs hd => ?_)
      obtain ⟨S_33, hd, hf⟩ := nmD hd hf
      exact hJ_5 S_33 _ _ _ hf hd (lv_sub hl [0, 1, 2, 3, 4] rfl)
theorem c_X12_above (l : Launch) (D : va_G) (cs : Nat → ClassId) (B0 : Nat) (kt : (Nat → Nat) × (Nat → Nat)) (α : Nat → Nat → Nat) (Lv : Nat → Nat → Prop) (S : St) (g0 : Nat) (x1 : Int32) (x2 : Int32) (x3 : Int32) (x4 : Int32) (hcl : Cl Lv) (hL0 : Lv 60 g0) {o : Int32 × St} (hf : f_X12_above g0 x1 x2 x3 x4 S = some o) : Met l yX12_above (wz yX12_above cX12_above 9 (some .int)) (Rm 4 0 0) (Pz D cs B0 kt α Lv S [.ref (α 60 g0), .int x1, .int x2, .int x3, .int x4]) (Qi D cs B0 α Lv o.1 o.2) 0 0 (AB B0) := met_of (by decide) rfl hcl (Nat.le_of_ble_eq_true rfl) (fun p e s m below meth c hc hr hd ls hl => b_X12_above hc hr hL0 hf hd hl)
theorem my_X12_above : MyV yX12_above "PumpCrossingModel" cX12_above 9 (some .int) 4 := ⟨tw_1815, tw_1816, tw_11, tw_1817, by decide +kernel⟩
def f_X12_blames (g0 : Nat) (x1 : Int32) (S : St) : Option (St) := br ((gi S 60 g0 16) = 0) (bv (fun (v_2 : Int32) (S_3 : St) => bv (si S_3 60 g0 16 v_2) (fun S_5 => bv (si S_5 60 g0 17 (gi S_5 60 g0 12)) (fun S_6 => some S_6))) (fun J_4 => br ((gi S 60 g0 13) = 4) (J_4 1 S) (J_4 x1 S))) (some S)
set_option maxRecDepth 100000 in
set_option maxHeartbeats 4000000 in
theorem b_X12_blames (hc : Cx p s m args meth c cX12_blames 2 "PumpCrossingModel" D cs B0 kt Lv) (hr : meth.sig.returnType = none)  {o : St}  {S : St} {g0 : Nat} {x1 : Int32} (hL0 : Lv 60 g0) {H : Heap} {locs : List Loc} {ls : Array Slot} (hf : f_X12_blames g0 x1 S = some o) (hd : Dy s D cs B0 α Lv S H locs) (hl : lv_has ls 2 [(0, .ref (α 60 g0)), (1, .int x1)]) : W p l e (Rm 0 0 0) s m args below meth c H locs 0 0 (MQ below (Qv D cs B0 α Lv o) args s 0 0 (AB B0)) (F0 m 0 ls []) := by
  unfold f_X12_blames at hf
  refine lv_aload_n hc.x hc.b dX12_blames_0 rfl (lv_at hl 0 rfl) ?_
  refine fg_60_16 hc hd hL0 tw_1325 dX12_blames_1 ?_
  refine lv_if_eq (tgt := 8) hc.x hc.b dX12_blames_4 (by decide) (fun c_1 => ?_) (fun c_1 => ?_)
  · have hf := br_y c_1 hf
    refine lv_aload_n hc.x hc.b dX12_blames_8 rfl (lv_at hl 0 rfl) ?_
    refine lv_aload_n hc.x hc.b dX12_blames_9 rfl (lv_at hl 0 rfl) ?_
    refine fg_60_13 hc hd hL0 tw_1322 dX12_blames_10 ?_
    refine lv_iconst (v := 4) hc.x hc.b dX12_blames_13 (by decide) ?_
    refine jn_s (P := fun J_4 => ∀ (v_2 : Int32) (S_3 : St) (H : Heap) (locs : List Loc) (ls : Array Slot), J_4 v_2 S_3 = some o → Dy s D cs B0 α Lv S_3 H locs → lv_has ls 2 [(0, .ref (α 60 g0))] → W p l e (Rm 0 0 0) s m args below meth c H locs 0 0 (MQ below (Qv D cs B0 α Lv o) args s 0 0 (AB B0)) (F0 m 22 ls [.int v_2, .ref (α 60 g0)])) hf ?_ (fun J_4 hJ_4 hf => ?_)
    · intro v_2 S_3 H locs ls hf hd hl
      refine fp_60_16 hc hd hL0 tw_1325 dX12_blames_22 (fun H locs hd => ?_)
      obtain ⟨S_5, hd, hf⟩ := nmD hd hf
      refine lv_aload_n hc.x hc.b dX12_blames_25 rfl (lv_at hl 0 rfl) ?_
      refine lv_aload_n hc.x hc.b dX12_blames_26 rfl (lv_at hl 0 rfl) ?_
      refine fg_60_12 hc hd hL0 tw_1321 dX12_blames_27 ?_
      refine fp_60_17 hc hd hL0 tw_1326 dX12_blames_30 (fun H locs hd => ?_)
      obtain ⟨S_6, hd, hf⟩ := nmD hd hf
      cases hf
      exact r_vret hc hd hr dX12_blames_33
    refine lv_icmp_ne (tgt := 21) hc.x hc.b dX12_blames_14 (by decide) (fun c_7 => ?_) (fun c_7 => ?_)
    · have hf := br_n c_7 hf
      refine lv_iload_n hc.x hc.b dX12_blames_21 rfl (lv_at hl 1 rfl) ?_
      exact hJ_4 x1 S _ _ _ hf hd (lv_sub hl [0] rfl)
    · have hf := br_y c_7 hf
      refine lv_iconst (v := 1) hc.x hc.b dX12_blames_17 (by decide) ?_
      refine lv_goto (tgt := 22) hc.x hc.b dX12_blames_18 (by decide) ?_
      exact hJ_4 1 S _ _ _ hf hd (lv_sub hl [0] rfl)
  · have hf := br_n c_1 hf
    cases hf
    exact r_vret hc hd hr dX12_blames_7
theorem c_X12_blames (l : Launch) (D : va_G) (cs : Nat → ClassId) (B0 : Nat) (kt : (Nat → Nat) × (Nat → Nat)) (α : Nat → Nat → Nat) (Lv : Nat → Nat → Prop) (S : St) (g0 : Nat) (x1 : Int32) (hcl : Cl Lv) (hL0 : Lv 60 g0) {o : St} (hf : f_X12_blames g0 x1 S = some o) : Met l yX12_blames (wz yX12_blames cX12_blames 2 none) (Rm 0 0 0) (Pz D cs B0 kt α Lv S [.ref (α 60 g0), .int x1]) (Qv D cs B0 α Lv o) 0 0 (AB B0) := met_of (by decide) rfl hcl (Nat.le_of_ble_eq_true rfl) (fun p e s m below meth c hc hr hd ls hl => b_X12_blames hc hr hL0 hf hd hl)
theorem my_X12_blames : MyV yX12_blames "PumpCrossingModel" cX12_blames 2 none 1 := ⟨tw_1520, (in_sel 44 (by decide +kernel) (by decide +kernel)), tw_11, tw_1521, by decide +kernel⟩
def f_X12_boardOf (g0 : Nat) (x1 : Int32) (x2 : Int32) (S : St) : Option (Int32) := bv (rmI x2 256) (fun q_1 => ck (inb ((1885 + (4 * q_1)) + x1) 3179 = true) (some (gi S 61 g0 (nn ((1885 + (4 * q_1)) + x1)))))
set_option maxRecDepth 100000 in
set_option maxHeartbeats 4000000 in
theorem b_X12_boardOf (hc : Cx p s m args meth c cX12_boardOf 3 "PumpCrossingModel" D cs B0 kt Lv) (hr : meth.sig.returnType = some .int)  {o : Int32}  {S : St} {g0 : Nat} {x1 : Int32} {x2 : Int32} (hL0 : Lv 60 g0) {H : Heap} {locs : List Loc} {ls : Array Slot} (hf : f_X12_boardOf g0 x1 x2 S = some o) (hd : Dy s D cs B0 α Lv S H locs) (hl : lv_has ls 3 [(0, .ref (α 60 g0)), (1, .int x1), (2, .int x2)]) : W p l e (Rm 0 0 0) s m args below meth c H locs 0 0 (MQ below (Qi D cs B0 α Lv o S) args s 0 0 (AB B0)) (F0 m 0 ls []) := by
  unfold f_X12_boardOf at hf
  refine lv_aload_n hc.x hc.b dX12_boardOf_0 rfl (lv_at hl 0 rfl) ?_
  refine fg_60_0 hc hd hL0 tw_1309 dX12_boardOf_1 ?_
  refine lv_sipush (v := 1885) hc.x hc.b dX12_boardOf_4 (by decide) ?_
  refine lv_iconst (v := 4) hc.x hc.b dX12_boardOf_7 (by decide) ?_
  refine lv_iload_n hc.x hc.b dX12_boardOf_8 rfl (lv_at hl 2 rfl) ?_
  refine lv_sipush (v := 256) hc.x hc.b dX12_boardOf_9 (by decide) ?_
  refine lv_irem hc.x hc.b dX12_boardOf_12 (by decide) ?_
  refine lv_topi (fun q_1 eq_1 => ?_)
  have hf := bv_n eq_1 hf
  refine lv_imul hc.x hc.b dX12_boardOf_13 ?_
  refine lv_iadd hc.x hc.b dX12_boardOf_14 ?_
  refine lv_iload_n hc.x hc.b dX12_boardOf_15 rfl (lv_at hl 1 rfl) ?_
  refine lv_iadd hc.x hc.b dX12_boardOf_16 ?_
  obtain ⟨hi_2, hf⟩ := ck_s hf
  refine r_iald hc hd (cl_60_told hc.cl hL0) rfl hi_2 dX12_boardOf_17 ?_
  cases hf
  exact r_iret hc hd hr dX12_boardOf_18
theorem c_X12_boardOf (l : Launch) (D : va_G) (cs : Nat → ClassId) (B0 : Nat) (kt : (Nat → Nat) × (Nat → Nat)) (α : Nat → Nat → Nat) (Lv : Nat → Nat → Prop) (S : St) (g0 : Nat) (x1 : Int32) (x2 : Int32) (hcl : Cl Lv) (hL0 : Lv 60 g0) {o : Int32} (hf : f_X12_boardOf g0 x1 x2 S = some o) : Met l yX12_boardOf (wz yX12_boardOf cX12_boardOf 3 (some .int)) (Rm 0 0 0) (Pz D cs B0 kt α Lv S [.ref (α 60 g0), .int x1, .int x2]) (Qi D cs B0 α Lv o S) 0 0 (AB B0) := met_of (by decide) rfl hcl (Nat.le_of_ble_eq_true rfl) (fun p e s m below meth c hc hr hd ls hl => b_X12_boardOf hc hr hL0 hf hd hl)
theorem my_X12_boardOf : MyV yX12_boardOf "PumpCrossingModel" cX12_boardOf 3 (some .int) 2 := ⟨tw_1659, (in_sel 68 (by decide +kernel) (by decide +kernel)), tw_11, tw_1660, by decide +kernel⟩
def f_X12_fails (g0 : Nat) (x1 : Int32) (S : St) : Option (Int32 × St) := bv (si S 60 g0 5 x1) (fun S_1 => some (0, S_1))
set_option maxRecDepth 100000 in
set_option maxHeartbeats 4000000 in
theorem b_X12_fails (hc : Cx p s m args meth c cX12_fails 2 "PumpCrossingModel" D cs B0 kt Lv) (hr : meth.sig.returnType = some .int)  {o : Int32 × St}  {S : St} {g0 : Nat} {x1 : Int32} (hL0 : Lv 60 g0) {H : Heap} {locs : List Loc} {ls : Array Slot} (hf : f_X12_fails g0 x1 S = some o) (hd : Dy s D cs B0 α Lv S H locs) (hl : lv_has ls 2 [(0, .ref (α 60 g0)), (1, .int x1)]) : W p l e (Rm 0 0 0) s m args below meth c H locs 0 0 (MQ below (Qi D cs B0 α Lv o.1 o.2) args s 0 0 (AB B0)) (F0 m 0 ls []) := by
  unfold f_X12_fails at hf
  refine lv_aload_n hc.x hc.b dX12_fails_0 rfl (lv_at hl 0 rfl) ?_
  refine lv_iload_n hc.x hc.b dX12_fails_1 rfl (lv_at hl 1 rfl) ?_
  refine fp_60_5 hc hd hL0 tw_1314 dX12_fails_2 (fun H locs hd => ?_)
  obtain ⟨S_1, hd, hf⟩ := nmD hd hf
  refine lv_iconst (v := 0) hc.x hc.b dX12_fails_5 (by decide) ?_
  cases hf
  exact r_iret hc hd hr dX12_fails_6
theorem c_X12_fails (l : Launch) (D : va_G) (cs : Nat → ClassId) (B0 : Nat) (kt : (Nat → Nat) × (Nat → Nat)) (α : Nat → Nat → Nat) (Lv : Nat → Nat → Prop) (S : St) (g0 : Nat) (x1 : Int32) (hcl : Cl Lv) (hL0 : Lv 60 g0) {o : Int32 × St} (hf : f_X12_fails g0 x1 S = some o) : Met l yX12_fails (wz yX12_fails cX12_fails 2 (some .int)) (Rm 0 0 0) (Pz D cs B0 kt α Lv S [.ref (α 60 g0), .int x1]) (Qi D cs B0 α Lv o.1 o.2) 0 0 (AB B0) := met_of (by decide) rfl hcl (Nat.le_of_ble_eq_true rfl) (fun p e s m below meth c hc hr hd ls hl => b_X12_fails hc hr hL0 hf hd hl)
theorem my_X12_fails : MyV yX12_fails "PumpCrossingModel" cX12_fails 2 (some .int) 1 := ⟨tw_1441, (in_sel 35 (by decide +kernel) (by decide +kernel)), tw_11, tw_1442, by decide +kernel⟩
def f_X12_isBoard (g0 : Nat) (x1 : Int32) (S : St) : Option (Int32) := ck (inb 2 3179 = true) (bv (mxI 0 ((gi S 61 g0 (nn 2)) - 256)) (fun q_2 => ck (inb 2 3179 = true) (on (f_X12_within (Int32.toInt64 x1) (Int32.toInt64 q_2) (Int32.toInt64 ((gi S 61 g0 (nn 2)) - 1)) S) (fun r_5 => ck (r_5 = 0 ∨ r_5 = 1) (some r_5)))))
set_option maxRecDepth 100000 in
set_option maxHeartbeats 4000000 in
theorem b_X12_isBoard (hc : Cx p s m args meth c cX12_isBoard 2 "PumpCrossingModel" D cs B0 kt Lv) (hr : meth.sig.returnType = some .boolean)  {o : Int32}  {S : St} {g0 : Nat} {x1 : Int32} (hL0 : Lv 60 g0) {H : Heap} {locs : List Loc} {ls : Array Slot} (hf : f_X12_isBoard g0 x1 S = some o) (hd : Dy s D cs B0 α Lv S H locs) (hl : lv_has ls 2 [(0, .ref (α 60 g0)), (1, .int x1)]) : W p l e (Rm 2 0 0) s m args below meth c H locs 0 0 (MQ below (Qi D cs B0 α Lv o S) args s 0 0 (AB B0)) (F0 m 0 ls []) := by
  unfold f_X12_isBoard at hf
  refine lv_iload_n hc.x hc.b dX12_isBoard_0 rfl (lv_at hl 1 rfl) ?_
  refine lv_i2l (v := Int32.toInt64 x1) hc.x hc.b dX12_isBoard_1 rfl ?_
  refine lv_iconst (v := 0) hc.x hc.b dX12_isBoard_2 (by decide) ?_
  refine lv_aload_n hc.x hc.b dX12_isBoard_3 rfl (lv_at hl 0 rfl) ?_
  refine fg_60_0 hc hd hL0 tw_1309 dX12_isBoard_4 ?_
  refine lv_iconst (v := 2) hc.x hc.b dX12_isBoard_7 (by decide) ?_
  obtain ⟨hi_1, hf⟩ := ck_s hf
  refine r_iald hc hd (cl_60_told hc.cl hL0) rfl hi_1 dX12_isBoard_8 ?_
  refine lv_sipush (v := 256) hc.x hc.b dX12_isBoard_9 (by decide) ?_
  refine lv_isub hc.x hc.b dX12_isBoard_12 ?_
  refine r_max hc hl.1 tw_1609 (Nat.le_of_ble_eq_true rfl) (Nat.le_of_ble_eq_true rfl) (Nat.zero_le _) (Nat.zero_le _) dX12_isBoard_13 ?_
  refine lv_topi (fun q_2 eq_2 => ?_)
  have hf := bv_n eq_2 hf
  refine lv_i2l (v := Int32.toInt64 q_2) hc.x hc.b dX12_isBoard_16 rfl ?_
  refine lv_aload_n hc.x hc.b dX12_isBoard_17 rfl (lv_at hl 0 rfl) ?_
  refine fg_60_0 hc hd hL0 tw_1309 dX12_isBoard_18 ?_
  refine lv_iconst (v := 2) hc.x hc.b dX12_isBoard_21 (by decide) ?_
  obtain ⟨hi_3, hf⟩ := ck_s hf
  refine r_iald hc hd (cl_60_told hc.cl hL0) rfl hi_3 dX12_isBoard_22 ?_
  refine lv_iconst (v := 1) hc.x hc.b dX12_isBoard_23 (by decide) ?_
  refine lv_isub hc.x hc.b dX12_isBoard_24 ?_
  refine lv_i2l (v := Int32.toInt64 ((gi S 61 g0 (nn 2)) - 1)) hc.x hc.b dX12_isBoard_25 rfl ?_
  obtain ⟨r_5, hq_4, hf⟩ := on_s hf
  refine k_i (k_runS hc hd my_X12_within tw_1444 (c_X12_within l D cs B0 kt α Lv S (Int32.toInt64 x1) (Int32.toInt64 q_2) (Int32.toInt64 ((gi S 61 g0 (nn 2)) - 1)) hc.cl   hq_4) rfl rfl hl.1 (Nat.le_of_ble_eq_true rfl) ⟨Nat.le_of_ble_eq_true rfl, Nat.le_of_ble_eq_true rfl, Nat.zero_le _, Nat.zero_le _⟩ dX12_isBoard_26) hd (fun H locs hd => ?_)
  obtain ⟨hz, hf⟩ := ck_s hf
  cases hf
  exact r_zret hc hd hr hz dX12_isBoard_29
theorem c_X12_isBoard (l : Launch) (D : va_G) (cs : Nat → ClassId) (B0 : Nat) (kt : (Nat → Nat) × (Nat → Nat)) (α : Nat → Nat → Nat) (Lv : Nat → Nat → Prop) (S : St) (g0 : Nat) (x1 : Int32) (hcl : Cl Lv) (hL0 : Lv 60 g0) {o : Int32} (hf : f_X12_isBoard g0 x1 S = some o) : Met l yX12_isBoard (wz yX12_isBoard cX12_isBoard 2 (some .boolean)) (Rm 2 0 0) (Pz D cs B0 kt α Lv S [.ref (α 60 g0), .int x1]) (Qi D cs B0 α Lv o S) 0 0 (AB B0) := met_of (by decide) rfl hcl (Nat.le_of_ble_eq_true rfl) (fun p e s m below meth c hc hr hd ls hl => b_X12_isBoard hc hr hL0 hf hd hl)
theorem my_X12_isBoard : MyV yX12_isBoard "PumpCrossingModel" cX12_isBoard 2 (some .boolean) 1 := ⟨tw_1655, (in_sel 67 (by decide +kernel) (by decide +kernel)), tw_11, tw_1656, by decide +kernel⟩
def f_X12_board (g0 : Nat) (x1 : Int32) (x2 : Int32) (S : St) : Option (Int32 × St) := bv (si S 60 g0 5 0) (fun S_1 => on (f_X12_isStation g0 x1 S_1) (fun r_3 => bv (fun (v_4 : Int32) (S_5 : St) => some (v_4, S_5)) (fun J_6 => bv (fun  (S_7 : St) => on2 (f_X12_fails g0 1 S_7) (fun r_11 S_10 => J_6 r_11 S_10)) (fun J_8 => br (r_3 = 0) (J_8 S_1) (on (f_X12_isBoard g0 x2 S_1) (fun r_14 => br (r_14 = 0) (J_8 S_1) (on (f_X12_boardOf g0 x1 x2 S_1) (fun r_17 => J_6 r_17 S_1))))))))
set_option maxRecDepth 100000 in
set_option maxHeartbeats 4000000 in
theorem b_X12_board (hc : Cx p s m args meth c cX12_board 3 "PumpCrossingModel" D cs B0 kt Lv) (hr : meth.sig.returnType = some .int)  {o : Int32 × St}  {S : St} {g0 : Nat} {x1 : Int32} {x2 : Int32} (hL0 : Lv 60 g0) {H : Heap} {locs : List Loc} {ls : Array Slot} (hf : f_X12_board g0 x1 x2 S = some o) (hd : Dy s D cs B0 α Lv S H locs) (hl : lv_has ls 3 [(0, .ref (α 60 g0)), (1, .int x1), (2, .int x2)]) : W p l e (Rm 3 0 0) s m args below meth c H locs 0 0 (MQ below (Qi D cs B0 α Lv o.1 o.2) args s 0 0 (AB B0)) (F0 m 0 ls []) := by
  unfold f_X12_board at hf
  refine lv_aload_n hc.x hc.b dX12_board_0 rfl (lv_at hl 0 rfl) ?_
  refine lv_iconst (v := 0) hc.x hc.b dX12_board_1 (by decide) ?_
  refine fp_60_5 hc hd hL0 tw_1314 dX12_board_2 (fun H locs hd => ?_)
  obtain ⟨S_1, hd, hf⟩ := nmD hd hf
  refine lv_aload_n hc.x hc.b dX12_board_5 rfl (lv_at hl 0 rfl) ?_
  refine lv_iload_n hc.x hc.b dX12_board_6 rfl (lv_at hl 1 rfl) ?_
  obtain ⟨r_3, hq_2, hf⟩ := on_s hf
  refine k_i (k_runV hc hd my_X12_isStation tw_1452 hL0 rfl rfl rfl (c_X12_isStation l D cs B0 kt α Lv S_1 g0 x1 hc.cl hL0  hq_2) rfl rfl hl.1 (Nat.le_of_ble_eq_true rfl) ⟨Nat.le_of_ble_eq_true rfl, Nat.le_of_ble_eq_true rfl, Nat.zero_le _, Nat.zero_le _⟩ dX12_board_7) hd (fun H locs hd => ?_)
  refine jn_s (P := fun J_6 => ∀ (v_4 : Int32) (S_5 : St) (H : Heap) (locs : List Loc) (ls : Array Slot), J_6 v_4 S_5 = some o → Dy s D cs B0 α Lv S_5 H locs → lv_has ls 3 [] → W p l e (Rm 3 0 0) s m args below meth c H locs 0 0 (MQ below (Qi D cs B0 α Lv o.1 o.2) args s 0 0 (AB B0)) (F0 m 35 ls [.int v_4])) hf ?_ (fun J_6 hJ_6 hf => ?_)
  · intro v_4 S_5 H locs ls hf hd hl
    cases hf
    exact r_iret hc hd hr dX12_board_35
  refine jn_s (P := fun J_8 => ∀  (S_7 : St) (H : Heap) (locs : List Loc) (ls : Array Slot), J_8 S_7 = some o → Dy s D cs B0 α Lv S_7 H locs → lv_has ls 3 [(0, .ref (α 60 g0))] → W p l e (Rm 3 0 0) s m args below meth c H locs 0 0 (MQ below (Qi D cs B0 α Lv o.1 o.2) args s 0 0 (AB B0)) (F0 m 30 ls [])) hf ?_ (fun J_8 hJ_8 hf => ?_)
  · intro S_7 H locs ls hf hd hl
    refine lv_aload_n hc.x hc.b dX12_board_30 rfl (lv_at hl 0 rfl) ?_
    refine lv_iconst (v := 1) hc.x hc.b dX12_board_31 (by decide) ?_
    obtain ⟨r_11, S_10, hq_9, hf⟩ := on2_s hf
    refine k_i (k_runV hc hd my_X12_fails tw_1439 hL0 rfl rfl rfl (c_X12_fails l D cs B0 kt α Lv S_7 g0 1 hc.cl hL0  hq_9) rfl rfl hl.1 (Nat.le_of_ble_eq_true rfl) ⟨Nat.le_of_ble_eq_true rfl, Nat.le_of_ble_eq_true rfl, Nat.zero_le _, Nat.zero_le _⟩ dX12_board_32) hd (fun H locs hd => ?_)
    exact hJ_6 r_11 S_10 _ _ _ hf hd (lv_sub hl [] rfl)
  refine lv_if_eq (tgt := 30) hc.x hc.b dX12_board_10 (by decide) (fun c_12 => ?_) (fun c_12 => ?_)
  · have hf := br_y c_12 hf
    exact hJ_8 S_1 _ _ _ hf hd (lv_sub hl [0] rfl)
  · have hf := br_n c_12 hf
    refine lv_aload_n hc.x hc.b dX12_board_13 rfl (lv_at hl 0 rfl) ?_
    refine lv_iload_n hc.x hc.b dX12_board_14 rfl (lv_at hl 2 rfl) ?_
    obtain ⟨r_14, hq_13, hf⟩ := on_s hf
    refine k_i (k_runV hc hd my_X12_isBoard tw_1653 hL0 rfl rfl rfl (c_X12_isBoard l D cs B0 kt α Lv S_1 g0 x2 hc.cl hL0  hq_13) rfl rfl hl.1 (Nat.le_of_ble_eq_true rfl) ⟨Nat.le_of_ble_eq_true rfl, Nat.le_of_ble_eq_true rfl, Nat.zero_le _, Nat.zero_le _⟩ dX12_board_15) hd (fun H locs hd => ?_)
    refine lv_if_eq (tgt := 30) hc.x hc.b dX12_board_18 (by decide) (fun c_15 => ?_) (fun c_15 => ?_)
    · have hf := br_y c_15 hf
      exact hJ_8 S_1 _ _ _ hf hd (lv_sub hl [0] rfl)
    · have hf := br_n c_15 hf
      refine lv_aload_n hc.x hc.b dX12_board_21 rfl (lv_at hl 0 rfl) ?_
      refine lv_iload_n hc.x hc.b dX12_board_22 rfl (lv_at hl 1 rfl) ?_
      refine lv_iload_n hc.x hc.b dX12_board_23 rfl (lv_at hl 2 rfl) ?_
      obtain ⟨r_17, hq_16, hf⟩ := on_s hf
      refine k_i (k_runV hc hd my_X12_boardOf tw_1657 hL0 rfl rfl rfl (c_X12_boardOf l D cs B0 kt α Lv S_1 g0 x1 x2 hc.cl hL0  hq_16) rfl rfl hl.1 (Nat.le_of_ble_eq_true rfl) ⟨Nat.le_of_ble_eq_true rfl, Nat.le_of_ble_eq_true rfl, Nat.zero_le _, Nat.zero_le _⟩ dX12_board_24) hd (fun H locs hd => ?_)
      refine lv_goto (tgt := 35) hc.x hc.b dX12_board_27 (by decide) ?_
      exact hJ_6 r_17 S_1 _ _ _ hf hd (lv_sub hl [] rfl)
theorem c_X12_board (l : Launch) (D : va_G) (cs : Nat → ClassId) (B0 : Nat) (kt : (Nat → Nat) × (Nat → Nat)) (α : Nat → Nat → Nat) (Lv : Nat → Nat → Prop) (S : St) (g0 : Nat) (x1 : Int32) (x2 : Int32) (hcl : Cl Lv) (hL0 : Lv 60 g0) {o : Int32 × St} (hf : f_X12_board g0 x1 x2 S = some o) : Met l yX12_board (wz yX12_board cX12_board 3 (some .int)) (Rm 3 0 0) (Pz D cs B0 kt α Lv S [.ref (α 60 g0), .int x1, .int x2]) (Qi D cs B0 α Lv o.1 o.2) 0 0 (AB B0) := met_of (by decide) rfl hcl (Nat.le_of_ble_eq_true rfl) (fun p e s m below meth c hc hr hd ls hl => b_X12_board hc hr hL0 hf hd hl)
theorem my_X12_board : MyV yX12_board "PumpCrossingModel" cX12_board 3 (some .int) 2 := ⟨tw_1650, tw_1651, tw_11, tw_1652, by decide +kernel⟩
def f_X12_both (x0 : Int32) (x1 : Int32) (x2 : Int32) (S : St) : Option (Int32) := br (x0 = 110) (some (x1 + x2)) (br (x0 = 111) (some (x1 - x2)) (br (x0 = 112) (bv (fun (v_2 : Int32) => some v_2) (fun J_3 => br (x2 ≤ x1) (J_3 0) (J_3 1))) (br (x0 = 113) (bv (fun (v_5 : Int32) => some v_5) (fun J_6 => br (x1 = x2) (J_6 1) (J_6 0))) (br (x0 = 114) (bv (fun (v_8 : Int32) => some v_8) (fun J_9 => br (x1 ≤ x2) (J_9 0) (J_9 1))) (br (x0 = 115) (some (x1 ||| x2)) (br (x0 = 116) (some (x1 &&& x2)) (some (x1 ||| x2))))))))
set_option maxRecDepth 100000 in
set_option maxHeartbeats 4000000 in
theorem b_X12_both (hc : Cx p s m args meth c cX12_both 3 "PumpCrossingModel" D cs B0 kt Lv) (hr : meth.sig.returnType = some .int)  {o : Int32}  {S : St} {x0 : Int32} {x1 : Int32} {x2 : Int32}  {H : Heap} {locs : List Loc} {ls : Array Slot} (hf : f_X12_both x0 x1 x2 S = some o) (hd : Dy s D cs B0 α Lv S H locs) (hl : lv_has ls 3 [(0, .int x0), (1, .int x1), (2, .int x2)]) : W p l e (Rm 0 0 0) s m args below meth c H locs 0 0 (MQ below (Qi D cs B0 α Lv o S) args s 0 0 (AB B0)) (F0 m 0 ls []) := by
  unfold f_X12_both at hf
  refine lv_iload_n hc.x hc.b dX12_both_0 rfl (lv_at hl 0 rfl) ?_
  by_cases c_1_0 : x0 = 110
  · have hf := br_y c_1_0 hf
    refine lv_tableIn (off := 43) (tgt := 44) hc.x hc.b dX12_both_1 (by rw [c_1_0]; decide) (by rw [c_1_0]; decide) (by rw [c_1_0]; decide) (by decide) ?_
    refine lv_iload_n hc.x hc.b dX12_both_44 rfl (lv_at hl 1 rfl) ?_
    refine lv_iload_n hc.x hc.b dX12_both_45 rfl (lv_at hl 2 rfl) ?_
    refine lv_iadd hc.x hc.b dX12_both_46 ?_
    cases hf
    exact r_iret hc hd hr dX12_both_47
  · have hf := br_n c_1_0 hf
    by_cases c_1_1 : x0 = 111
    · have hf := br_y c_1_1 hf
      refine lv_tableIn (off := 47) (tgt := 48) hc.x hc.b dX12_both_1 (by rw [c_1_1]; decide) (by rw [c_1_1]; decide) (by rw [c_1_1]; decide) (by decide) ?_
      refine lv_iload_n hc.x hc.b dX12_both_48 rfl (lv_at hl 1 rfl) ?_
      refine lv_iload_n hc.x hc.b dX12_both_49 rfl (lv_at hl 2 rfl) ?_
      refine lv_isub hc.x hc.b dX12_both_50 ?_
      cases hf
      exact r_iret hc hd hr dX12_both_51
    · have hf := br_n c_1_1 hf
      by_cases c_1_2 : x0 = 112
      · have hf := br_y c_1_2 hf
        refine lv_tableIn (off := 51) (tgt := 52) hc.x hc.b dX12_both_1 (by rw [c_1_2]; decide) (by rw [c_1_2]; decide) (by rw [c_1_2]; decide) (by decide) ?_
        refine lv_iload_n hc.x hc.b dX12_both_52 rfl (lv_at hl 1 rfl) ?_
        refine lv_iload_n hc.x hc.b dX12_both_53 rfl (lv_at hl 2 rfl) ?_
        refine jn_s (P := fun J_3 => ∀ (v_2 : Int32) (H : Heap) (locs : List Loc) (ls : Array Slot), J_3 v_2 = some o → Dy s D cs B0 α Lv S H locs → lv_has ls 3 [] → W p l e (Rm 0 0 0) s m args below meth c H locs 0 0 (MQ below (Qi D cs B0 α Lv o S) args s 0 0 (AB B0)) (F0 m 62 ls [.int v_2])) hf ?_ (fun J_3 hJ_3 hf => ?_)
        · intro v_2 H locs ls hf hd hl
          cases hf
          exact r_iret hc hd hr dX12_both_62
        refine lv_icmp_ge (tgt := 61) hc.x hc.b dX12_both_54 (by decide) (fun c_4 => ?_) (fun c_4 => ?_)
        · have hf := br_y c_4 hf
          refine lv_iconst (v := 0) hc.x hc.b dX12_both_61 (by decide) ?_
          exact hJ_3 0 _ _ _ hf hd (lv_sub hl [] rfl)
        · have hf := br_n c_4 hf
          refine lv_iconst (v := 1) hc.x hc.b dX12_both_57 (by decide) ?_
          refine lv_goto (tgt := 62) hc.x hc.b dX12_both_58 (by decide) ?_
          exact hJ_3 1 _ _ _ hf hd (lv_sub hl [] rfl)
      · have hf := br_n c_1_2 hf
        by_cases c_1_3 : x0 = 113
        · have hf := br_y c_1_3 hf
          refine lv_tableIn (off := 62) (tgt := 63) hc.x hc.b dX12_both_1 (by rw [c_1_3]; decide) (by rw [c_1_3]; decide) (by rw [c_1_3]; decide) (by decide) ?_
          refine lv_iload_n hc.x hc.b dX12_both_63 rfl (lv_at hl 1 rfl) ?_
          refine lv_iload_n hc.x hc.b dX12_both_64 rfl (lv_at hl 2 rfl) ?_
          refine jn_s (P := fun J_6 => ∀ (v_5 : Int32) (H : Heap) (locs : List Loc) (ls : Array Slot), J_6 v_5 = some o → Dy s D cs B0 α Lv S H locs → lv_has ls 3 [] → W p l e (Rm 0 0 0) s m args below meth c H locs 0 0 (MQ below (Qi D cs B0 α Lv o S) args s 0 0 (AB B0)) (F0 m 73 ls [.int v_5])) hf ?_ (fun J_6 hJ_6 hf => ?_)
          · intro v_5 H locs ls hf hd hl
            cases hf
            exact r_iret hc hd hr dX12_both_73
          refine lv_icmp_ne (tgt := 72) hc.x hc.b dX12_both_65 (by decide) (fun c_7 => ?_) (fun c_7 => ?_)
          · have hf := br_n c_7 hf
            refine lv_iconst (v := 0) hc.x hc.b dX12_both_72 (by decide) ?_
            exact hJ_6 0 _ _ _ hf hd (lv_sub hl [] rfl)
          · have hf := br_y c_7 hf
            refine lv_iconst (v := 1) hc.x hc.b dX12_both_68 (by decide) ?_
            refine lv_goto (tgt := 73) hc.x hc.b dX12_both_69 (by decide) ?_
            exact hJ_6 1 _ _ _ hf hd (lv_sub hl [] rfl)
        · have hf := br_n c_1_3 hf
          by_cases c_1_4 : x0 = 114
          · have hf := br_y c_1_4 hf
            refine lv_tableIn (off := 73) (tgt := 74) hc.x hc.b dX12_both_1 (by rw [c_1_4]; decide) (by rw [c_1_4]; decide) (by rw [c_1_4]; decide) (by decide) ?_
            refine lv_iload_n hc.x hc.b dX12_both_74 rfl (lv_at hl 1 rfl) ?_
            refine lv_iload_n hc.x hc.b dX12_both_75 rfl (lv_at hl 2 rfl) ?_
            refine jn_s (P := fun J_9 => ∀ (v_8 : Int32) (H : Heap) (locs : List Loc) (ls : Array Slot), J_9 v_8 = some o → Dy s D cs B0 α Lv S H locs → lv_has ls 3 [] → W p l e (Rm 0 0 0) s m args below meth c H locs 0 0 (MQ below (Qi D cs B0 α Lv o S) args s 0 0 (AB B0)) (F0 m 84 ls [.int v_8])) hf ?_ (fun J_9 hJ_9 hf => ?_)
            · intro v_8 H locs ls hf hd hl
              cases hf
              exact r_iret hc hd hr dX12_both_84
            refine lv_icmp_le (tgt := 83) hc.x hc.b dX12_both_76 (by decide) (fun c_10 => ?_) (fun c_10 => ?_)
            · have hf := br_y c_10 hf
              refine lv_iconst (v := 0) hc.x hc.b dX12_both_83 (by decide) ?_
              exact hJ_9 0 _ _ _ hf hd (lv_sub hl [] rfl)
            · have hf := br_n c_10 hf
              refine lv_iconst (v := 1) hc.x hc.b dX12_both_79 (by decide) ?_
              refine lv_goto (tgt := 84) hc.x hc.b dX12_both_80 (by decide) ?_
              exact hJ_9 1 _ _ _ hf hd (lv_sub hl [] rfl)
          · have hf := br_n c_1_4 hf
            by_cases c_1_5 : x0 = 115
            · have hf := br_y c_1_5 hf
              refine lv_tableIn (off := 88) (tgt := 89) hc.x hc.b dX12_both_1 (by rw [c_1_5]; decide) (by rw [c_1_5]; decide) (by rw [c_1_5]; decide) (by decide) ?_
              refine lv_iload_n hc.x hc.b dX12_both_89 rfl (lv_at hl 1 rfl) ?_
              refine lv_iload_n hc.x hc.b dX12_both_90 rfl (lv_at hl 2 rfl) ?_
              refine lv_ior hc.x hc.b dX12_both_91 ?_
              cases hf
              exact r_iret hc hd hr dX12_both_92
            · have hf := br_n c_1_5 hf
              by_cases c_1_6 : x0 = 116
              · have hf := br_y c_1_6 hf
                refine lv_tableIn (off := 84) (tgt := 85) hc.x hc.b dX12_both_1 (by rw [c_1_6]; decide) (by rw [c_1_6]; decide) (by rw [c_1_6]; decide) (by decide) ?_
                refine lv_iload_n hc.x hc.b dX12_both_85 rfl (lv_at hl 1 rfl) ?_
                refine lv_iload_n hc.x hc.b dX12_both_86 rfl (lv_at hl 2 rfl) ?_
                refine lv_iand hc.x hc.b dX12_both_87 ?_
                cases hf
                exact r_iret hc hd hr dX12_both_88
              · have hf := br_n c_1_6 hf
                refine lv_tableOut (tgt := 89) hc.x hc.b dX12_both_1 (sw_out (fun z h1 h2 => by
                  rcases (show z = 110 ∨ z = 111 ∨ z = 112 ∨ z = 113 ∨ z = 114 ∨ z = 115 ∨ z = 116 by omega) with rfl | rfl | rfl | rfl | rfl | rfl | rfl
                  · exact c_1_0
                  · exact c_1_1
                  · exact c_1_2
                  · exact c_1_3
                  · exact c_1_4
                  · exact c_1_5
                  · exact c_1_6)) (by decide) ?_
                refine lv_iload_n hc.x hc.b dX12_both_89 rfl (lv_at hl 1 rfl) ?_
                refine lv_iload_n hc.x hc.b dX12_both_90 rfl (lv_at hl 2 rfl) ?_
                refine lv_ior hc.x hc.b dX12_both_91 ?_
                cases hf
                exact r_iret hc hd hr dX12_both_92
theorem c_X12_both (l : Launch) (D : va_G) (cs : Nat → ClassId) (B0 : Nat) (kt : (Nat → Nat) × (Nat → Nat)) (α : Nat → Nat → Nat) (Lv : Nat → Nat → Prop) (S : St) (x0 : Int32) (x1 : Int32) (x2 : Int32) (hcl : Cl Lv)  {o : Int32} (hf : f_X12_both x0 x1 x2 S = some o) : Met l yX12_both (wz yX12_both cX12_both 3 (some .int)) (Rm 0 0 0) (Pz D cs B0 kt α Lv S [.int x0, .int x1, .int x2]) (Qi D cs B0 α Lv o S) 0 0 (AB B0) := met_of (by decide) rfl hcl (Nat.le_of_ble_eq_true rfl) (fun p e s m below meth c hc hr hd ls hl => b_X12_both hc hr  hf hd hl)
theorem my_X12_both : MyS yX12_both cX12_both 3 (some .int) 3 := ⟨tw_1635, tw_11, tw_1636, by decide +kernel⟩
def f_X12_keepsChange_16 (g0 : Nat) (x1 : Int32) (x2 : Int32) (K : St → Option (St)) : Nat → Int32 → St → Option (St)
  | 0, _, _ => none
  | n + 1, x3, S => br (3176 ≤ x3) (K S) (ck (inb (x3 + 3) 3179 = true) (ck (inb x3 3179 = true) (bv (si S 61 g0 (nn x3) (gi S 61 g0 (nn (x3 + 3)))) (fun S_20 => bv (x3 + 1) (fun x3_21 => f_X12_keepsChange_16 g0 x1 x2 K n x3_21 S_20)))))
def f_X12_keepsChange (g0 : Nat) (x1 : Int32) (x2 : Int32) (S : St) : Option (St) := ck (inb 6 3179 = true) (bv (fun  (S_2 : St) => ck (inb 6 3179 = true) (bv (3149 + (3 * (gi S_2 61 g0 (nn 6)))) (fun x3_5 => ck (inb x3_5 3179 = true) (bv (si S_2 61 g0 (nn x3_5) x1) (fun S_7 => ck (inb 2 3179 = true) (ck (inb (x3_5 + 1) 3179 = true) (bv (si S_7 61 g0 (nn (x3_5 + 1)) (gi S_7 61 g0 (nn 2))) (fun S_10 => ck (inb (x3_5 + 2) 3179 = true) (bv (si S_10 61 g0 (nn (x3_5 + 2)) x2) (fun S_12 => ck (inb 6 3179 = true) (ck (inb 6 3179 = true) (bv (si S_12 61 g0 (nn 6) ((gi S_12 61 g0 (nn 6)) + 1)) (fun S_15 => some S_15))))))))))))) (fun J_3 => br ((gi S 61 g0 (nn 6)) = 10) (f_X12_keepsChange_16 g0 x1 x2 (fun  (S_22 : St) => ck (inb 6 3179 = true) (ck (inb 6 3179 = true) (bv (si S_22 61 g0 (nn 6) ((gi S_22 61 g0 (nn 6)) - 1)) (fun S_25 => J_3 S_25)))) FU 3149 S) (J_3 S)))
set_option maxRecDepth 100000 in
set_option maxHeartbeats 4000000 in
theorem w_X12_keepsChange_16 (hc : Cx p s m args meth c cX12_keepsChange 4 "PumpCrossingModel" D cs B0 kt Lv) (hr : meth.sig.returnType = none) {o : St}  {g0 : Nat} {x1 : Int32} {x2 : Int32} {K : St → Option (St)} (hL0 : Lv 60 g0) (hK : ∀  (S : St) (H : Heap) (locs : List Loc) (ls : Array Slot), K S = some o → Dy s D cs B0 α Lv S H locs → lv_has ls 4 [(0, .ref (α 60 g0)), (1, .int x1), (2, .int x2)] → W p l e (Rm 0 0 0) s m args below meth c H locs 0 0 (MQ below (Qv D cs B0 α Lv o) args s 0 0 (AB B0)) (F0 m 43 ls [])) : ∀ (n : Nat) (x3 : Int32) (S : St) (H : Heap) (locs : List Loc) (ls : Array Slot), f_X12_keepsChange_16 g0 x1 x2 K n x3 S = some o → Dy s D cs B0 α Lv S H locs → lv_has ls 4 [(0, .ref (α 60 g0)), (1, .int x1), (2, .int x2), (3, .int x3)] → W p l e (Rm 0 0 0) s m args below meth c H locs 0 0 (MQ below (Qv D cs B0 α Lv o) args s 0 0 (AB B0)) (F0 m 16 ls []) := by
  intro n
  induction n with
  | zero =>
    intro x3 S H locs ls hf
    rw [f_X12_keepsChange_16] at hf
    cases hf
  | succ n ih =>
    intro x3 S H locs ls hf hd hl
    rw [f_X12_keepsChange_16] at hf
    refine lv_iload_n hc.x hc.b dX12_keepsChange_16 rfl (lv_at hl 3 rfl) ?_
    refine lv_sipush (v := 3176) hc.x hc.b dX12_keepsChange_17 (by decide) ?_
    refine lv_icmp_ge (tgt := 43) hc.x hc.b dX12_keepsChange_20 (by decide) (fun c_17 => ?_) (fun c_17 => ?_)
    · have hf := br_y c_17 hf
      exact hK S _ _ _ hf hd (lv_sub hl [0, 1, 2] rfl)
    · have hf := br_n c_17 hf
      refine lv_aload_n hc.x hc.b dX12_keepsChange_23 rfl (lv_at hl 0 rfl) ?_
      refine fg_60_0 hc hd hL0 tw_1309 dX12_keepsChange_24 ?_
      refine lv_iload_n hc.x hc.b dX12_keepsChange_27 rfl (lv_at hl 3 rfl) ?_
      refine lv_aload_n hc.x hc.b dX12_keepsChange_28 rfl (lv_at hl 0 rfl) ?_
      refine fg_60_0 hc hd hL0 tw_1309 dX12_keepsChange_29 ?_
      refine lv_iload_n hc.x hc.b dX12_keepsChange_32 rfl (lv_at hl 3 rfl) ?_
      refine lv_iconst (v := 3) hc.x hc.b dX12_keepsChange_33 (by decide) ?_
      refine lv_iadd hc.x hc.b dX12_keepsChange_34 ?_
      obtain ⟨hi_18, hf⟩ := ck_s hf
      refine r_iald hc hd (cl_60_told hc.cl hL0) rfl hi_18 dX12_keepsChange_35 ?_
      obtain ⟨hi_19, hf⟩ := ck_s hf
      refine r_iast hc hd (cl_60_told hc.cl hL0) (fun _ => rfl) hi_19 dX12_keepsChange_36 (fun H locs hd => ?_)
      obtain ⟨S_20, hd, hf⟩ := nmD hd hf
      obtain ⟨x3_21, ex3_21⟩ : ∃ z : Int32, z = x3 + 1 := ⟨_, rfl⟩
      have hf := bv_n ex3_21 hf
      refine lv_iinc (v := x3_21) (lv' := [(3, .int x3_21), (0, .ref (α 60 g0)), (1, .int x1), (2, .int x2)]) hc.x hc.b dX12_keepsChange_37 hl (k := 3) rfl (by rw [ex3_21]; rfl) (by decide) rfl (fun ls hl => ?_)
      refine lv_goto (tgt := 16) hc.x hc.b dX12_keepsChange_40 (by decide) ?_
      exact ih x3_21 S_20 _ _ _ hf hd (lv_sub hl [1, 2, 3, 0] rfl)
set_option maxRecDepth 100000 in
set_option maxHeartbeats 4000000 in
theorem b_X12_keepsChange (hc : Cx p s m args meth c cX12_keepsChange 4 "PumpCrossingModel" D cs B0 kt Lv) (hr : meth.sig.returnType = none)  {o : St}  {S : St} {g0 : Nat} {x1 : Int32} {x2 : Int32} (hL0 : Lv 60 g0) {H : Heap} {locs : List Loc} {ls : Array Slot} (hf : f_X12_keepsChange g0 x1 x2 S = some o) (hd : Dy s D cs B0 α Lv S H locs) (hl : lv_has ls 4 [(0, .ref (α 60 g0)), (1, .int x1), (2, .int x2)]) : W p l e (Rm 0 0 0) s m args below meth c H locs 0 0 (MQ below (Qv D cs B0 α Lv o) args s 0 0 (AB B0)) (F0 m 0 ls []) := by
  unfold f_X12_keepsChange at hf
  refine lv_aload_n hc.x hc.b dX12_keepsChange_0 rfl (lv_at hl 0 rfl) ?_
  refine fg_60_0 hc hd hL0 tw_1309 dX12_keepsChange_1 ?_
  refine lv_bipush (v := 6) hc.x hc.b dX12_keepsChange_4 (by decide) ?_
  obtain ⟨hi_1, hf⟩ := ck_s hf
  refine r_iald hc hd (cl_60_told hc.cl hL0) rfl hi_1 dX12_keepsChange_6 ?_
  refine lv_bipush (v := 10) hc.x hc.b dX12_keepsChange_7 (by decide) ?_
  refine jn_s (P := fun J_3 => ∀  (S_2 : St) (H : Heap) (locs : List Loc) (ls : Array Slot), J_3 S_2 = some o → Dy s D cs B0 α Lv S_2 H locs → lv_has ls 4 [(0, .ref (α 60 g0)), (1, .int x1), (2, .int x2)] → W p l e (Rm 0 0 0) s m args below meth c H locs 0 0 (MQ below (Qv D cs B0 α Lv o) args s 0 0 (AB B0)) (F0 m 54 ls [])) hf ?_ (fun J_3 hJ_3 hf => ?_)
  · intro S_2 H locs ls hf hd hl
    refine lv_sipush (v := 3149) hc.x hc.b dX12_keepsChange_54 (by decide) ?_
    refine lv_iconst (v := 3) hc.x hc.b dX12_keepsChange_57 (by decide) ?_
    refine lv_aload_n hc.x hc.b dX12_keepsChange_58 rfl (lv_at hl 0 rfl) ?_
    refine fg_60_0 hc hd hL0 tw_1309 dX12_keepsChange_59 ?_
    refine lv_bipush (v := 6) hc.x hc.b dX12_keepsChange_62 (by decide) ?_
    obtain ⟨hi_4, hf⟩ := ck_s hf
    refine r_iald hc hd (cl_60_told hc.cl hL0) rfl hi_4 dX12_keepsChange_64 ?_
    refine lv_imul hc.x hc.b dX12_keepsChange_65 ?_
    refine lv_iadd hc.x hc.b dX12_keepsChange_66 ?_
    refine lv_topi (fun x3_5 ex3_5 => ?_)
    have hf := bv_n ex3_5 hf
    refine lv_istore_n (lv' := [(3, .int x3_5), (0, .ref (α 60 g0)), (1, .int x1), (2, .int x2)]) hc.x hc.b dX12_keepsChange_67 rfl hl (by decide) rfl (fun ls hl => ?_)
    refine lv_aload_n hc.x hc.b dX12_keepsChange_68 rfl (lv_at hl 1 rfl) ?_
    refine fg_60_0 hc hd hL0 tw_1309 dX12_keepsChange_69 ?_
    refine lv_iload_n hc.x hc.b dX12_keepsChange_72 rfl (lv_at hl 0 rfl) ?_
    refine lv_iload_n hc.x hc.b dX12_keepsChange_73 rfl (lv_at hl 2 rfl) ?_
    obtain ⟨hi_6, hf⟩ := ck_s hf
    refine r_iast hc hd (cl_60_told hc.cl hL0) (fun _ => rfl) hi_6 dX12_keepsChange_74 (fun H locs hd => ?_)
    obtain ⟨S_7, hd, hf⟩ := nmD hd hf
    refine lv_aload_n hc.x hc.b dX12_keepsChange_75 rfl (lv_at hl 1 rfl) ?_
    refine fg_60_0 hc hd hL0 tw_1309 dX12_keepsChange_76 ?_
    refine lv_iload_n hc.x hc.b dX12_keepsChange_79 rfl (lv_at hl 0 rfl) ?_
    refine lv_iconst (v := 1) hc.x hc.b dX12_keepsChange_80 (by decide) ?_
    refine lv_iadd hc.x hc.b dX12_keepsChange_81 ?_
    refine lv_aload_n hc.x hc.b dX12_keepsChange_82 rfl (lv_at hl 1 rfl) ?_
    refine fg_60_0 hc hd hL0 tw_1309 dX12_keepsChange_83 ?_
    refine lv_iconst (v := 2) hc.x hc.b dX12_keepsChange_86 (by decide) ?_
    obtain ⟨hi_8, hf⟩ := ck_s hf
    refine r_iald hc hd (cl_60_told hc.cl hL0) rfl hi_8 dX12_keepsChange_87 ?_
    obtain ⟨hi_9, hf⟩ := ck_s hf
    refine r_iast hc hd (cl_60_told hc.cl hL0) (fun _ => rfl) hi_9 dX12_keepsChange_88 (fun H locs hd => ?_)
    obtain ⟨S_10, hd, hf⟩ := nmD hd hf
    refine lv_aload_n hc.x hc.b dX12_keepsChange_89 rfl (lv_at hl 1 rfl) ?_
    refine fg_60_0 hc hd hL0 tw_1309 dX12_keepsChange_90 ?_
    refine lv_iload_n hc.x hc.b dX12_keepsChange_93 rfl (lv_at hl 0 rfl) ?_
    refine lv_iconst (v := 2) hc.x hc.b dX12_keepsChange_94 (by decide) ?_
    refine lv_iadd hc.x hc.b dX12_keepsChange_95 ?_
    refine lv_iload_n hc.x hc.b dX12_keepsChange_96 rfl (lv_at hl 3 rfl) ?_
    obtain ⟨hi_11, hf⟩ := ck_s hf
    refine r_iast hc hd (cl_60_told hc.cl hL0) (fun _ => rfl) hi_11 dX12_keepsChange_97 (fun H locs hd => ?_)
    obtain ⟨S_12, hd, hf⟩ := nmD hd hf
    refine lv_aload_n hc.x hc.b dX12_keepsChange_98 rfl (lv_at hl 1 rfl) ?_
    refine fg_60_0 hc hd hL0 tw_1309 dX12_keepsChange_99 ?_
    refine lv_bipush (v := 6) hc.x hc.b dX12_keepsChange_102 (by decide) ?_
    refine lv_dup2_11 hc.x hc.b dX12_keepsChange_104 rfl rfl ?_
    obtain ⟨hi_13, hf⟩ := ck_s hf
    refine r_iald hc hd (cl_60_told hc.cl hL0) rfl hi_13 dX12_keepsChange_105 ?_
    refine lv_iconst (v := 1) hc.x hc.b dX12_keepsChange_106 (by decide) ?_
    refine lv_iadd hc.x hc.b dX12_keepsChange_107 ?_
    obtain ⟨hi_14, hf⟩ := ck_s hf
    refine r_iast hc hd (cl_60_told hc.cl hL0) (fun _ => rfl) hi_14 dX12_keepsChange_108 (fun H locs hd => ?_)
    obtain ⟨S_15, hd, hf⟩ := nmD hd hf
    cases hf
    exact r_vret hc hd hr dX12_keepsChange_109
  refine lv_icmp_ne (tgt := 54) hc.x hc.b dX12_keepsChange_9 (by decide) (fun c_16 => ?_) (fun c_16 => ?_)
  · have hf := br_n c_16 hf
    exact hJ_3 S _ _ _ hf hd (lv_sub hl [0, 1, 2] rfl)
  · have hf := br_y c_16 hf
    refine lv_sipush (v := 3149) hc.x hc.b dX12_keepsChange_12 (by decide) ?_
    refine lv_istore_n (lv' := [(3, .int 3149), (0, .ref (α 60 g0)), (1, .int x1), (2, .int x2)]) hc.x hc.b dX12_keepsChange_15 rfl hl (by decide) rfl (fun ls hl => ?_)
    refine w_X12_keepsChange_16 hc hr hL0 ?_ _ _ _ _ _ _ hf hd (lv_sub hl [1, 2, 3, 0] rfl)
    intro S_22 H locs ls hf hd hl
    refine lv_aload_n hc.x hc.b dX12_keepsChange_43 rfl (lv_at hl 0 rfl) ?_
    refine fg_60_0 hc hd hL0 tw_1309 dX12_keepsChange_44 ?_
    refine lv_bipush (v := 6) hc.x hc.b dX12_keepsChange_47 (by decide) ?_
    refine lv_dup2_11 hc.x hc.b dX12_keepsChange_49 rfl rfl ?_
    obtain ⟨hi_23, hf⟩ := ck_s hf
    refine r_iald hc hd (cl_60_told hc.cl hL0) rfl hi_23 dX12_keepsChange_50 ?_
    refine lv_iconst (v := 1) hc.x hc.b dX12_keepsChange_51 (by decide) ?_
    refine lv_isub hc.x hc.b dX12_keepsChange_52 ?_
    obtain ⟨hi_24, hf⟩ := ck_s hf
    refine r_iast hc hd (cl_60_told hc.cl hL0) (fun _ => rfl) hi_24 dX12_keepsChange_53 (fun H locs hd => ?_)
    obtain ⟨S_25, hd, hf⟩ := nmD hd hf
    exact hJ_3 S_25 _ _ _ hf hd (lv_sub hl [0, 1, 2] rfl)
theorem c_X12_keepsChange (l : Launch) (D : va_G) (cs : Nat → ClassId) (B0 : Nat) (kt : (Nat → Nat) × (Nat → Nat)) (α : Nat → Nat → Nat) (Lv : Nat → Nat → Prop) (S : St) (g0 : Nat) (x1 : Int32) (x2 : Int32) (hcl : Cl Lv) (hL0 : Lv 60 g0) {o : St} (hf : f_X12_keepsChange g0 x1 x2 S = some o) : Met l yX12_keepsChange (wz yX12_keepsChange cX12_keepsChange 4 none) (Rm 0 0 0) (Pz D cs B0 kt α Lv S [.ref (α 60 g0), .int x1, .int x2]) (Qv D cs B0 α Lv o) 0 0 (AB B0) := met_of (by decide) rfl hcl (Nat.le_of_ble_eq_true rfl) (fun p e s m below meth c hc hr hd ls hl => b_X12_keepsChange hc hr hL0 hf hd hl)
theorem my_X12_keepsChange : MyV yX12_keepsChange "PumpCrossingModel" cX12_keepsChange 4 none 2 := ⟨tw_1463, (in_sel 37 (by decide +kernel) (by decide +kernel)), tw_11, tw_1464, by decide +kernel⟩
def f_X12_cost (g0 : Nat) (x1 : Int32) (x2 : Int32) (S : St) : Option (Int32 × St) := bv (si S 60 g0 5 0) (fun S_1 => on (f_X12_isStation g0 x1 S_1) (fun r_3 => br (r_3 = 0) (on2 (f_X12_fails g0 1 S_1) (fun r_22 S_21 => some (r_22, S_21))) (on (f_X12_within (Int32.toInt64 x2) 0 99 S_1) (fun r_6 => br (r_6 = 0) (on2 (f_X12_fails g0 2 S_1) (fun r_19 S_18 => some (r_19, S_18))) (ck (inb (8 + x1) 3179 = true) (bv (gi S_1 61 g0 (nn (8 + x1))) (fun x3_9 => ck (inb (8 + x1) 3179 = true) (bv (si S_1 61 g0 (nn (8 + x1)) x2) (fun S_11 => bv (fun  (S_12 : St) => some (x3_9, S_12)) (fun J_13 => br (x2 = x3_9) (J_13 S_11) (on (f_X12_keepsChange g0 x1 (x2 - x3_9) S_11) (fun S_16 => J_13 S_16))))))))))))
set_option maxRecDepth 100000 in
set_option maxHeartbeats 4000000 in
theorem b_X12_cost (hc : Cx p s m args meth c cX12_cost 4 "PumpCrossingModel" D cs B0 kt Lv) (hr : meth.sig.returnType = some .int)  {o : Int32 × St}  {S : St} {g0 : Nat} {x1 : Int32} {x2 : Int32} (hL0 : Lv 60 g0) {H : Heap} {locs : List Loc} {ls : Array Slot} (hf : f_X12_cost g0 x1 x2 S = some o) (hd : Dy s D cs B0 α Lv S H locs) (hl : lv_has ls 4 [(0, .ref (α 60 g0)), (1, .int x1), (2, .int x2)]) : W p l e (Rm 2 0 0) s m args below meth c H locs 0 0 (MQ below (Qi D cs B0 α Lv o.1 o.2) args s 0 0 (AB B0)) (F0 m 0 ls []) := by
  unfold f_X12_cost at hf
  refine lv_aload_n hc.x hc.b dX12_cost_0 rfl (lv_at hl 0 rfl) ?_
  refine lv_iconst (v := 0) hc.x hc.b dX12_cost_1 (by decide) ?_
  refine fp_60_5 hc hd hL0 tw_1314 dX12_cost_2 (fun H locs hd => ?_)
  obtain ⟨S_1, hd, hf⟩ := nmD hd hf
  refine lv_aload_n hc.x hc.b dX12_cost_5 rfl (lv_at hl 0 rfl) ?_
  refine lv_iload_n hc.x hc.b dX12_cost_6 rfl (lv_at hl 1 rfl) ?_
  obtain ⟨r_3, hq_2, hf⟩ := on_s hf
  refine k_i (k_runV hc hd my_X12_isStation tw_1452 hL0 rfl rfl rfl (c_X12_isStation l D cs B0 kt α Lv S_1 g0 x1 hc.cl hL0  hq_2) rfl rfl hl.1 (Nat.le_of_ble_eq_true rfl) ⟨Nat.le_of_ble_eq_true rfl, Nat.le_of_ble_eq_true rfl, Nat.zero_le _, Nat.zero_le _⟩ dX12_cost_7) hd (fun H locs hd => ?_)
  refine lv_if_ne (tgt := 19) hc.x hc.b dX12_cost_10 (by decide) (fun c_4 => ?_) (fun c_4 => ?_)
  · have hf := br_n c_4 hf
    refine lv_iload_n hc.x hc.b dX12_cost_19 rfl (lv_at hl 2 rfl) ?_
    refine lv_i2l (v := Int32.toInt64 x2) hc.x hc.b dX12_cost_20 rfl ?_
    refine lv_lconst (v := 0) hc.x hc.b dX12_cost_21 (by decide) ?_
    refine lv_ldc2 (v := 99) hc.x hc.b hc.ow (hc.ts tw_1443) dX12_cost_22 ?_
    obtain ⟨r_6, hq_5, hf⟩ := on_s hf
    refine k_i (k_runS hc hd my_X12_within tw_1444 (c_X12_within l D cs B0 kt α Lv S_1 (Int32.toInt64 x2) 0 99 hc.cl   hq_5) rfl rfl hl.1 (Nat.le_of_ble_eq_true rfl) ⟨Nat.le_of_ble_eq_true rfl, Nat.le_of_ble_eq_true rfl, Nat.zero_le _, Nat.zero_le _⟩ dX12_cost_25) hd (fun H locs hd => ?_)
    refine lv_if_ne (tgt := 37) hc.x hc.b dX12_cost_28 (by decide) (fun c_7 => ?_) (fun c_7 => ?_)
    · have hf := br_n c_7 hf
      refine lv_aload_n hc.x hc.b dX12_cost_37 rfl (lv_at hl 0 rfl) ?_
      refine fg_60_0 hc hd hL0 tw_1309 dX12_cost_38 ?_
      refine lv_bipush (v := 8) hc.x hc.b dX12_cost_41 (by decide) ?_
      refine lv_iload_n hc.x hc.b dX12_cost_43 rfl (lv_at hl 1 rfl) ?_
      refine lv_iadd hc.x hc.b dX12_cost_44 ?_
      obtain ⟨hi_8, hf⟩ := ck_s hf
      refine r_iald hc hd (cl_60_told hc.cl hL0) rfl hi_8 dX12_cost_45 ?_
      refine lv_topi (fun x3_9 ex3_9 => ?_)
      have hf := bv_n ex3_9 hf
      refine lv_istore_n (lv' := [(3, .int x3_9), (0, .ref (α 60 g0)), (1, .int x1), (2, .int x2)]) hc.x hc.b dX12_cost_46 rfl hl (by decide) rfl (fun ls hl => ?_)
      refine lv_aload_n hc.x hc.b dX12_cost_47 rfl (lv_at hl 1 rfl) ?_
      refine fg_60_0 hc hd hL0 tw_1309 dX12_cost_48 ?_
      refine lv_bipush (v := 8) hc.x hc.b dX12_cost_51 (by decide) ?_
      refine lv_iload_n hc.x hc.b dX12_cost_53 rfl (lv_at hl 2 rfl) ?_
      refine lv_iadd hc.x hc.b dX12_cost_54 ?_
      refine lv_iload_n hc.x hc.b dX12_cost_55 rfl (lv_at hl 3 rfl) ?_
      obtain ⟨hi_10, hf⟩ := ck_s hf
      refine r_iast hc hd (cl_60_told hc.cl hL0) (fun _ => rfl) hi_10 dX12_cost_56 (fun H locs hd => ?_)
      obtain ⟨S_11, hd, hf⟩ := nmD hd hf
      refine lv_iload_n hc.x hc.b dX12_cost_57 rfl (lv_at hl 3 rfl) ?_
      refine lv_iload_n hc.x hc.b dX12_cost_58 rfl (lv_at hl 0 rfl) ?_
      refine jn_s (P := fun J_13 => ∀  (S_12 : St) (H : Heap) (locs : List Loc) (ls : Array Slot), J_13 S_12 = some o → Dy s D cs B0 α Lv S_12 H locs → lv_has ls 4 [(3, .int x3_9)] → W p l e (Rm 2 0 0) s m args below meth c H locs 0 0 (MQ below (Qi D cs B0 α Lv o.1 o.2) args s 0 0 (AB B0)) (F0 m 70 ls [])) hf ?_ (fun J_13 hJ_13 hf => ?_)
      · intro S_12 H locs ls hf hd hl
        refine lv_iload_n hc.x hc.b dX12_cost_70 rfl (lv_at hl 0 rfl) ?_
        cases hf
        exact r_iret hc hd hr dX12_cost_71
      refine lv_icmp_eq (tgt := 70) hc.x hc.b dX12_cost_59 (by decide) (fun c_14 => ?_) (fun c_14 => ?_)
      · have hf := br_y c_14 hf
        exact hJ_13 S_11 _ _ _ hf hd (lv_sub hl [0] rfl)
      · have hf := br_n c_14 hf
        refine lv_aload_n hc.x hc.b dX12_cost_62 rfl (lv_at hl 1 rfl) ?_
        refine lv_iload_n hc.x hc.b dX12_cost_63 rfl (lv_at hl 2 rfl) ?_
        refine lv_iload_n hc.x hc.b dX12_cost_64 rfl (lv_at hl 3 rfl) ?_
        refine lv_iload_n hc.x hc.b dX12_cost_65 rfl (lv_at hl 0 rfl) ?_
        refine lv_isub hc.x hc.b dX12_cost_66 ?_
        obtain ⟨S_16, hq_15, hf⟩ := on_s hf
        refine k_v (k_runV hc hd my_X12_keepsChange tw_1461 hL0 rfl rfl rfl (c_X12_keepsChange l D cs B0 kt α Lv S_11 g0 x1 (x2 - x3_9) hc.cl hL0  hq_15) rfl rfl hl.1 (Nat.le_of_ble_eq_true rfl) ⟨Nat.le_of_ble_eq_true rfl, Nat.le_of_ble_eq_true rfl, Nat.zero_le _, Nat.zero_le _⟩ dX12_cost_67) hd (fun H locs hd => ?_)
        exact hJ_13 S_16 _ _ _ hf hd (lv_sub hl [0] rfl)
    · have hf := br_y c_7 hf
      refine lv_aload_n hc.x hc.b dX12_cost_31 rfl (lv_at hl 0 rfl) ?_
      refine lv_iconst (v := 2) hc.x hc.b dX12_cost_32 (by decide) ?_
      obtain ⟨r_19, S_18, hq_17, hf⟩ := on2_s hf
      refine k_i (k_runV hc hd my_X12_fails tw_1439 hL0 rfl rfl rfl (c_X12_fails l D cs B0 kt α Lv S_1 g0 2 hc.cl hL0  hq_17) rfl rfl hl.1 (Nat.le_of_ble_eq_true rfl) ⟨Nat.le_of_ble_eq_true rfl, Nat.le_of_ble_eq_true rfl, Nat.zero_le _, Nat.zero_le _⟩ dX12_cost_33) hd (fun H locs hd => ?_)
      cases hf
      exact r_iret hc hd hr dX12_cost_36
  · have hf := br_y c_4 hf
    refine lv_aload_n hc.x hc.b dX12_cost_13 rfl (lv_at hl 0 rfl) ?_
    refine lv_iconst (v := 1) hc.x hc.b dX12_cost_14 (by decide) ?_
    obtain ⟨r_22, S_21, hq_20, hf⟩ := on2_s hf
    refine k_i (k_runV hc hd my_X12_fails tw_1439 hL0 rfl rfl rfl (c_X12_fails l D cs B0 kt α Lv S_1 g0 1 hc.cl hL0  hq_20) rfl rfl hl.1 (Nat.le_of_ble_eq_true rfl) ⟨Nat.le_of_ble_eq_true rfl, Nat.le_of_ble_eq_true rfl, Nat.zero_le _, Nat.zero_le _⟩ dX12_cost_15) hd (fun H locs hd => ?_)
    cases hf
    exact r_iret hc hd hr dX12_cost_18
theorem c_X12_cost (l : Launch) (D : va_G) (cs : Nat → ClassId) (B0 : Nat) (kt : (Nat → Nat) × (Nat → Nat)) (α : Nat → Nat → Nat) (Lv : Nat → Nat → Prop) (S : St) (g0 : Nat) (x1 : Int32) (x2 : Int32) (hcl : Cl Lv) (hL0 : Lv 60 g0) {o : Int32 × St} (hf : f_X12_cost g0 x1 x2 S = some o) : Met l yX12_cost (wz yX12_cost cX12_cost 4 (some .int)) (Rm 2 0 0) (Pz D cs B0 kt α Lv S [.ref (α 60 g0), .int x1, .int x2]) (Qi D cs B0 α Lv o.1 o.2) 0 0 (AB B0) := met_of (by decide) rfl hcl (Nat.le_of_ble_eq_true rfl) (fun p e s m below meth c hc hr hd ls hl => b_X12_cost hc hr hL0 hf hd hl)
theorem my_X12_cost : MyV yX12_cost "PumpCrossingModel" cX12_cost 4 (some .int) 2 := ⟨tw_1458, tw_1459, tw_11, tw_1460, by decide +kernel⟩
def f_X12_count (g0 : Nat) (x1 : Int32) (S : St) : Option (Int64 × St) := bv (si S 60 g0 5 0) (fun S_1 => br (x1 = 0) (ck (inb 0 3179 = true) (some (Int32.toInt64 (gi S_1 61 g0 (nn 0)), S_1))) (br (x1 = 1) (ck (inb 1 3179 = true) (some (Int32.toInt64 (gi S_1 61 g0 (nn 1)), S_1))) (br (x1 = 2) (ck (inb 2 3179 = true) (some (Int32.toInt64 (gi S_1 61 g0 (nn 2)), S_1))) (br (x1 = 3) (ck (inb 2 3179 = true) (bv (mnI 256 (gi S_1 61 g0 (nn 2))) (fun q_7 => some (Int32.toInt64 q_7, S_1)))) (br (x1 = 4) (ck (inb 3 3179 = true) (some (Int32.toInt64 (gi S_1 61 g0 (nn 3)), S_1))) (br (x1 = 5) (ck (inb 4 3179 = true) (some (Int32.toInt64 (gi S_1 61 g0 (nn 4)), S_1))) (br (x1 = 6) (ck (inb 5 3179 = true) (some (Int32.toInt64 (gi S_1 61 g0 (nn 5)), S_1))) (br (x1 = 7) (ck (inb 8 9 = true) (some (gl S_1 63 g0 (nn 8), S_1))) (br (x1 = 8) (some (Int32.toInt64 (gi S_1 60 g0 9), S_1)) (br (x1 = 9) (ck (inb 6 3179 = true) (some (Int32.toInt64 (gi S_1 61 g0 (nn 6)), S_1))) (some ((-1), S_1))))))))))))
set_option maxRecDepth 100000 in
set_option maxHeartbeats 4000000 in
theorem b_X12_count (hc : Cx p s m args meth c cX12_count 2 "PumpCrossingModel" D cs B0 kt Lv) (hr : meth.sig.returnType = some .long)  {o : Int64 × St}  {S : St} {g0 : Nat} {x1 : Int32} (hL0 : Lv 60 g0) {H : Heap} {locs : List Loc} {ls : Array Slot} (hf : f_X12_count g0 x1 S = some o) (hd : Dy s D cs B0 α Lv S H locs) (hl : lv_has ls 2 [(0, .ref (α 60 g0)), (1, .int x1)]) : W p l e (Rm 2 0 0) s m args below meth c H locs 0 0 (MQ below (Ql D cs B0 α Lv o.1 o.2) args s 0 0 (AB B0)) (F0 m 0 ls []) := by
  unfold f_X12_count at hf
  refine lv_aload_n hc.x hc.b dX12_count_0 rfl (lv_at hl 0 rfl) ?_
  refine lv_iconst (v := 0) hc.x hc.b dX12_count_1 (by decide) ?_
  refine fp_60_5 hc hd hL0 tw_1314 dX12_count_2 (fun H locs hd => ?_)
  obtain ⟨S_1, hd, hf⟩ := nmD hd hf
  refine lv_iload_n hc.x hc.b dX12_count_5 rfl (lv_at hl 1 rfl) ?_
  by_cases c_2_0 : x1 = 0
  · have hf := br_y c_2_0 hf
    refine lv_tableIn (off := 54) (tgt := 60) hc.x hc.b dX12_count_6 (by rw [c_2_0]; decide) (by rw [c_2_0]; decide) (by rw [c_2_0]; decide) (by decide) ?_
    refine lv_aload_n hc.x hc.b dX12_count_60 rfl (lv_at hl 0 rfl) ?_
    refine fg_60_0 hc hd hL0 tw_1309 dX12_count_61 ?_
    refine lv_iconst (v := 0) hc.x hc.b dX12_count_64 (by decide) ?_
    obtain ⟨hi_3, hf⟩ := ck_s hf
    refine r_iald hc hd (cl_60_told hc.cl hL0) rfl hi_3 dX12_count_65 ?_
    refine lv_i2l (v := Int32.toInt64 (gi S_1 61 g0 (nn 0))) hc.x hc.b dX12_count_66 rfl ?_
    cases hf
    exact r_lret hc hd hr dX12_count_67
  · have hf := br_n c_2_0 hf
    by_cases c_2_1 : x1 = 1
    · have hf := br_y c_2_1 hf
      refine lv_tableIn (off := 62) (tgt := 68) hc.x hc.b dX12_count_6 (by rw [c_2_1]; decide) (by rw [c_2_1]; decide) (by rw [c_2_1]; decide) (by decide) ?_
      refine lv_aload_n hc.x hc.b dX12_count_68 rfl (lv_at hl 0 rfl) ?_
      refine fg_60_0 hc hd hL0 tw_1309 dX12_count_69 ?_
      refine lv_iconst (v := 1) hc.x hc.b dX12_count_72 (by decide) ?_
      obtain ⟨hi_4, hf⟩ := ck_s hf
      refine r_iald hc hd (cl_60_told hc.cl hL0) rfl hi_4 dX12_count_73 ?_
      refine lv_i2l (v := Int32.toInt64 (gi S_1 61 g0 (nn 1))) hc.x hc.b dX12_count_74 rfl ?_
      cases hf
      exact r_lret hc hd hr dX12_count_75
    · have hf := br_n c_2_1 hf
      by_cases c_2_2 : x1 = 2
      · have hf := br_y c_2_2 hf
        refine lv_tableIn (off := 70) (tgt := 76) hc.x hc.b dX12_count_6 (by rw [c_2_2]; decide) (by rw [c_2_2]; decide) (by rw [c_2_2]; decide) (by decide) ?_
        refine lv_aload_n hc.x hc.b dX12_count_76 rfl (lv_at hl 0 rfl) ?_
        refine fg_60_0 hc hd hL0 tw_1309 dX12_count_77 ?_
        refine lv_iconst (v := 2) hc.x hc.b dX12_count_80 (by decide) ?_
        obtain ⟨hi_5, hf⟩ := ck_s hf
        refine r_iald hc hd (cl_60_told hc.cl hL0) rfl hi_5 dX12_count_81 ?_
        refine lv_i2l (v := Int32.toInt64 (gi S_1 61 g0 (nn 2))) hc.x hc.b dX12_count_82 rfl ?_
        cases hf
        exact r_lret hc hd hr dX12_count_83
      · have hf := br_n c_2_2 hf
        by_cases c_2_3 : x1 = 3
        · have hf := br_y c_2_3 hf
          refine lv_tableIn (off := 78) (tgt := 84) hc.x hc.b dX12_count_6 (by rw [c_2_3]; decide) (by rw [c_2_3]; decide) (by rw [c_2_3]; decide) (by decide) ?_
          refine lv_sipush (v := 256) hc.x hc.b dX12_count_84 (by decide) ?_
          refine lv_aload_n hc.x hc.b dX12_count_87 rfl (lv_at hl 0 rfl) ?_
          refine fg_60_0 hc hd hL0 tw_1309 dX12_count_88 ?_
          refine lv_iconst (v := 2) hc.x hc.b dX12_count_91 (by decide) ?_
          obtain ⟨hi_6, hf⟩ := ck_s hf
          refine r_iald hc hd (cl_60_told hc.cl hL0) rfl hi_6 dX12_count_92 ?_
          refine r_min hc hl.1 tw_1596 (Nat.le_of_ble_eq_true rfl) (Nat.le_of_ble_eq_true rfl) (Nat.zero_le _) (Nat.zero_le _) dX12_count_93 ?_
          refine lv_topi (fun q_7 eq_7 => ?_)
          have hf := bv_n eq_7 hf
          refine lv_i2l (v := Int32.toInt64 q_7) hc.x hc.b dX12_count_96 rfl ?_
          cases hf
          exact r_lret hc hd hr dX12_count_97
        · have hf := br_n c_2_3 hf
          by_cases c_2_4 : x1 = 4
          · have hf := br_y c_2_4 hf
            refine lv_tableIn (off := 92) (tgt := 98) hc.x hc.b dX12_count_6 (by rw [c_2_4]; decide) (by rw [c_2_4]; decide) (by rw [c_2_4]; decide) (by decide) ?_
            refine lv_aload_n hc.x hc.b dX12_count_98 rfl (lv_at hl 0 rfl) ?_
            refine fg_60_0 hc hd hL0 tw_1309 dX12_count_99 ?_
            refine lv_iconst (v := 3) hc.x hc.b dX12_count_102 (by decide) ?_
            obtain ⟨hi_8, hf⟩ := ck_s hf
            refine r_iald hc hd (cl_60_told hc.cl hL0) rfl hi_8 dX12_count_103 ?_
            refine lv_i2l (v := Int32.toInt64 (gi S_1 61 g0 (nn 3))) hc.x hc.b dX12_count_104 rfl ?_
            cases hf
            exact r_lret hc hd hr dX12_count_105
          · have hf := br_n c_2_4 hf
            by_cases c_2_5 : x1 = 5
            · have hf := br_y c_2_5 hf
              refine lv_tableIn (off := 100) (tgt := 106) hc.x hc.b dX12_count_6 (by rw [c_2_5]; decide) (by rw [c_2_5]; decide) (by rw [c_2_5]; decide) (by decide) ?_
              refine lv_aload_n hc.x hc.b dX12_count_106 rfl (lv_at hl 0 rfl) ?_
              refine fg_60_0 hc hd hL0 tw_1309 dX12_count_107 ?_
              refine lv_iconst (v := 4) hc.x hc.b dX12_count_110 (by decide) ?_
              obtain ⟨hi_9, hf⟩ := ck_s hf
              refine r_iald hc hd (cl_60_told hc.cl hL0) rfl hi_9 dX12_count_111 ?_
              refine lv_i2l (v := Int32.toInt64 (gi S_1 61 g0 (nn 4))) hc.x hc.b dX12_count_112 rfl ?_
              cases hf
              exact r_lret hc hd hr dX12_count_113
            · have hf := br_n c_2_5 hf
              by_cases c_2_6 : x1 = 6
              · have hf := br_y c_2_6 hf
                refine lv_tableIn (off := 108) (tgt := 114) hc.x hc.b dX12_count_6 (by rw [c_2_6]; decide) (by rw [c_2_6]; decide) (by rw [c_2_6]; decide) (by decide) ?_
                refine lv_aload_n hc.x hc.b dX12_count_114 rfl (lv_at hl 0 rfl) ?_
                refine fg_60_0 hc hd hL0 tw_1309 dX12_count_115 ?_
                refine lv_iconst (v := 5) hc.x hc.b dX12_count_118 (by decide) ?_
                obtain ⟨hi_10, hf⟩ := ck_s hf
                refine r_iald hc hd (cl_60_told hc.cl hL0) rfl hi_10 dX12_count_119 ?_
                refine lv_i2l (v := Int32.toInt64 (gi S_1 61 g0 (nn 5))) hc.x hc.b dX12_count_120 rfl ?_
                cases hf
                exact r_lret hc hd hr dX12_count_121
              · have hf := br_n c_2_6 hf
                by_cases c_2_7 : x1 = 7
                · have hf := br_y c_2_7 hf
                  refine lv_tableIn (off := 116) (tgt := 122) hc.x hc.b dX12_count_6 (by rw [c_2_7]; decide) (by rw [c_2_7]; decide) (by rw [c_2_7]; decide) (by decide) ?_
                  refine lv_aload_n hc.x hc.b dX12_count_122 rfl (lv_at hl 0 rfl) ?_
                  refine fg_60_2 hc hd hL0 tw_1311 dX12_count_123 ?_
                  refine lv_bipush (v := 8) hc.x hc.b dX12_count_126 (by decide) ?_
                  obtain ⟨hi_11, hf⟩ := ck_s hf
                  refine r_lald hc hd (cl_60_sums hc.cl hL0) rfl hi_11 dX12_count_128 ?_
                  cases hf
                  exact r_lret hc hd hr dX12_count_129
                · have hf := br_n c_2_7 hf
                  by_cases c_2_8 : x1 = 8
                  · have hf := br_y c_2_8 hf
                    refine lv_tableIn (off := 124) (tgt := 130) hc.x hc.b dX12_count_6 (by rw [c_2_8]; decide) (by rw [c_2_8]; decide) (by rw [c_2_8]; decide) (by decide) ?_
                    refine lv_aload_n hc.x hc.b dX12_count_130 rfl (lv_at hl 0 rfl) ?_
                    refine fg_60_9 hc hd hL0 tw_1318 dX12_count_131 ?_
                    refine lv_i2l (v := Int32.toInt64 (gi S_1 60 g0 9)) hc.x hc.b dX12_count_134 rfl ?_
                    cases hf
                    exact r_lret hc hd hr dX12_count_135
                  · have hf := br_n c_2_8 hf
                    by_cases c_2_9 : x1 = 9
                    · have hf := br_y c_2_9 hf
                      refine lv_tableIn (off := 130) (tgt := 136) hc.x hc.b dX12_count_6 (by rw [c_2_9]; decide) (by rw [c_2_9]; decide) (by rw [c_2_9]; decide) (by decide) ?_
                      refine lv_aload_n hc.x hc.b dX12_count_136 rfl (lv_at hl 0 rfl) ?_
                      refine fg_60_0 hc hd hL0 tw_1309 dX12_count_137 ?_
                      refine lv_bipush (v := 6) hc.x hc.b dX12_count_140 (by decide) ?_
                      obtain ⟨hi_12, hf⟩ := ck_s hf
                      refine r_iald hc hd (cl_60_told hc.cl hL0) rfl hi_12 dX12_count_142 ?_
                      refine lv_i2l (v := Int32.toInt64 (gi S_1 61 g0 (nn 6))) hc.x hc.b dX12_count_143 rfl ?_
                      cases hf
                      exact r_lret hc hd hr dX12_count_144
                    · have hf := br_n c_2_9 hf
                      refine lv_tableOut (tgt := 145) hc.x hc.b dX12_count_6 (sw_out (fun z h1 h2 => by
                        rcases (show z = 0 ∨ z = 1 ∨ z = 2 ∨ z = 3 ∨ z = 4 ∨ z = 5 ∨ z = 6 ∨ z = 7 ∨ z = 8 ∨ z = 9 by omega) with rfl | rfl | rfl | rfl | rfl | rfl | rfl | rfl | rfl | rfl
                        · exact c_2_0
                        · exact c_2_1
                        · exact c_2_2
                        · exact c_2_3
                        · exact c_2_4
                        · exact c_2_5
                        · exact c_2_6
                        · exact c_2_7
                        · exact c_2_8
                        · exact c_2_9)) (by decide) ?_
                      refine lv_ldc2 (v := (-1)) hc.x hc.b hc.ow (hc.ts tw_1879) dX12_count_145 ?_
                      cases hf
                      exact r_lret hc hd hr dX12_count_148
theorem c_X12_count (l : Launch) (D : va_G) (cs : Nat → ClassId) (B0 : Nat) (kt : (Nat → Nat) × (Nat → Nat)) (α : Nat → Nat → Nat) (Lv : Nat → Nat → Prop) (S : St) (g0 : Nat) (x1 : Int32) (hcl : Cl Lv) (hL0 : Lv 60 g0) {o : Int64 × St} (hf : f_X12_count g0 x1 S = some o) : Met l yX12_count (wz yX12_count cX12_count 2 (some .long)) (Rm 2 0 0) (Pz D cs B0 kt α Lv S [.ref (α 60 g0), .int x1]) (Ql D cs B0 α Lv o.1 o.2) 0 0 (AB B0) := met_of (by decide) rfl hcl (Nat.le_of_ble_eq_true rfl) (fun p e s m below meth c hc hr hd ls hl => b_X12_count hc hr hL0 hf hd hl)
theorem my_X12_count : MyV yX12_count "PumpCrossingModel" cX12_count 2 (some .long) 1 := ⟨tw_1876, tw_1877, tw_11, tw_1878, by decide +kernel⟩
def f_X12_driver (g0 : Nat) (x1 : Int32) (x2 : Int32) (x3 : Int32) (x4 : Int32) (S : St) : Option (Int32 × St) := bv (si S 60 g0 5 0) (fun S_1 => on (f_X12_isStation g0 x2 S_1) (fun r_3 => br (r_3 = 0) (on2 (f_X12_fails g0 1 S_1) (fun r_37 S_36 => some (r_37, S_36))) (on (f_X12_within (Int32.toInt64 x1) 1 99 S_1) (fun r_6 => bv (fun  (S_7 : St) => on2 (f_X12_fails g0 2 S_7) (fun r_11 S_10 => some (r_11, S_10))) (fun J_8 => br (r_6 = 0) (J_8 S_1) (br (x3 < 0) (J_8 S_1) (ck (inb 0 3179 = true) (br (((1 : Int32) <<< ((gi S_1 61 g0 (nn 0)) &&& 31)) ≤ x3) (J_8 S_1) (on (f_X12_within (Int32.toInt64 x4) 0 20 S_1) (fun r_17 => br (r_17 = 0) (J_8 S_1) (ck (inb 1 3179 = true) (br ((gi S_1 61 g0 (nn 1)) = 6) (some ((-1), S_1)) (ck (inb 1 3179 = true) (bv (28 + (4 * (gi S_1 61 g0 (nn 1)))) (fun x5_22 => ck (inb x5_22 3179 = true) (bv (si S_1 61 g0 (nn x5_22) x1) (fun S_24 => ck (inb (x5_22 + 1) 3179 = true) (bv (si S_24 61 g0 (nn (x5_22 + 1)) x2) (fun S_26 => ck (inb (x5_22 + 2) 3179 = true) (bv (si S_26 61 g0 (nn (x5_22 + 2)) x3) (fun S_28 => ck (inb (x5_22 + 3) 3179 = true) (bv (si S_28 61 g0 (nn (x5_22 + 3)) x4) (fun S_30 => ck (inb 1 3179 = true) (ck (inb 1 3179 = true) (bv (si S_30 61 g0 (nn 1) ((gi S_30 61 g0 (nn 1)) + 1)) (fun S_33 => ck (inb 1 3179 = true) (some ((gi S_33 61 g0 (nn 1)) - 1, S_33))))))))))))))))))))))))))))
set_option maxRecDepth 100000 in
set_option maxHeartbeats 4000000 in
theorem b_X12_driver (hc : Cx p s m args meth c cX12_driver 6 "PumpCrossingModel" D cs B0 kt Lv) (hr : meth.sig.returnType = some .int)  {o : Int32 × St}  {S : St} {g0 : Nat} {x1 : Int32} {x2 : Int32} {x3 : Int32} {x4 : Int32} (hL0 : Lv 60 g0) {H : Heap} {locs : List Loc} {ls : Array Slot} (hf : f_X12_driver g0 x1 x2 x3 x4 S = some o) (hd : Dy s D cs B0 α Lv S H locs) (hl : lv_has ls 6 [(0, .ref (α 60 g0)), (1, .int x1), (2, .int x2), (3, .int x3), (4, .int x4)]) : W p l e (Rm 2 0 0) s m args below meth c H locs 0 0 (MQ below (Qi D cs B0 α Lv o.1 o.2) args s 0 0 (AB B0)) (F0 m 0 ls []) := by
  unfold f_X12_driver at hf
  refine lv_aload_n hc.x hc.b dX12_driver_0 rfl (lv_at hl 0 rfl) ?_
  refine lv_iconst (v := 0) hc.x hc.b dX12_driver_1 (by decide) ?_
  refine fp_60_5 hc hd hL0 tw_1314 dX12_driver_2 (fun H locs hd => ?_)
  obtain ⟨S_1, hd, hf⟩ := nmD hd hf
  refine lv_aload_n hc.x hc.b dX12_driver_5 rfl (lv_at hl 0 rfl) ?_
  refine lv_iload_n hc.x hc.b dX12_driver_6 rfl (lv_at hl 2 rfl) ?_
  obtain ⟨r_3, hq_2, hf⟩ := on_s hf
  refine k_i (k_runV hc hd my_X12_isStation tw_1452 hL0 rfl rfl rfl (c_X12_isStation l D cs B0 kt α Lv S_1 g0 x2 hc.cl hL0  hq_2) rfl rfl hl.1 (Nat.le_of_ble_eq_true rfl) ⟨Nat.le_of_ble_eq_true rfl, Nat.le_of_ble_eq_true rfl, Nat.zero_le _, Nat.zero_le _⟩ dX12_driver_7) hd (fun H locs hd => ?_)
  refine lv_if_ne (tgt := 19) hc.x hc.b dX12_driver_10 (by decide) (fun c_4 => ?_) (fun c_4 => ?_)
  · have hf := br_n c_4 hf
    refine lv_iload_n hc.x hc.b dX12_driver_19 rfl (lv_at hl 1 rfl) ?_
    refine lv_i2l (v := Int32.toInt64 x1) hc.x hc.b dX12_driver_20 rfl ?_
    refine lv_lconst (v := 1) hc.x hc.b dX12_driver_21 (by decide) ?_
    refine lv_ldc2 (v := 99) hc.x hc.b hc.ow (hc.ts tw_1443) dX12_driver_22 ?_
    obtain ⟨r_6, hq_5, hf⟩ := on_s hf
    refine k_i (k_runS hc hd my_X12_within tw_1444 (c_X12_within l D cs B0 kt α Lv S_1 (Int32.toInt64 x1) 1 99 hc.cl   hq_5) rfl rfl hl.1 (Nat.le_of_ble_eq_true rfl) ⟨Nat.le_of_ble_eq_true rfl, Nat.le_of_ble_eq_true rfl, Nat.zero_le _, Nat.zero_le _⟩ dX12_driver_25) hd (fun H locs hd => ?_)
    refine jn_s (P := fun J_8 => ∀  (S_7 : St) (H : Heap) (locs : List Loc) (ls : Array Slot), J_8 S_7 = some o → Dy s D cs B0 α Lv S_7 H locs → lv_has ls 6 [(0, .ref (α 60 g0))] → W p l e (Rm 2 0 0) s m args below meth c H locs 0 0 (MQ below (Qi D cs B0 α Lv o.1 o.2) args s 0 0 (AB B0)) (F0 m 60 ls [])) hf ?_ (fun J_8 hJ_8 hf => ?_)
    · intro S_7 H locs ls hf hd hl
      refine lv_aload_n hc.x hc.b dX12_driver_60 rfl (lv_at hl 0 rfl) ?_
      refine lv_iconst (v := 2) hc.x hc.b dX12_driver_61 (by decide) ?_
      obtain ⟨r_11, S_10, hq_9, hf⟩ := on2_s hf
      refine k_i (k_runV hc hd my_X12_fails tw_1439 hL0 rfl rfl rfl (c_X12_fails l D cs B0 kt α Lv S_7 g0 2 hc.cl hL0  hq_9) rfl rfl hl.1 (Nat.le_of_ble_eq_true rfl) ⟨Nat.le_of_ble_eq_true rfl, Nat.le_of_ble_eq_true rfl, Nat.zero_le _, Nat.zero_le _⟩ dX12_driver_62) hd (fun H locs hd => ?_)
      cases hf
      exact r_iret hc hd hr dX12_driver_65
    refine lv_if_eq (tgt := 60) hc.x hc.b dX12_driver_28 (by decide) (fun c_12 => ?_) (fun c_12 => ?_)
    · have hf := br_y c_12 hf
      exact hJ_8 S_1 _ _ _ hf hd (lv_sub hl [0] rfl)
    · have hf := br_n c_12 hf
      refine lv_iload_n hc.x hc.b dX12_driver_31 rfl (lv_at hl 3 rfl) ?_
      refine lv_if_lt (tgt := 60) hc.x hc.b dX12_driver_32 (by decide) (fun c_13 => ?_) (fun c_13 => ?_)
      · have hf := br_y c_13 hf
        exact hJ_8 S_1 _ _ _ hf hd (lv_sub hl [0] rfl)
      · have hf := br_n c_13 hf
        refine lv_iload_n hc.x hc.b dX12_driver_35 rfl (lv_at hl 3 rfl) ?_
        refine lv_iconst (v := 1) hc.x hc.b dX12_driver_36 (by decide) ?_
        refine lv_aload_n hc.x hc.b dX12_driver_37 rfl (lv_at hl 0 rfl) ?_
        refine fg_60_0 hc hd hL0 tw_1309 dX12_driver_38 ?_
        refine lv_iconst (v := 0) hc.x hc.b dX12_driver_41 (by decide) ?_
        obtain ⟨hi_14, hf⟩ := ck_s hf
        refine r_iald hc hd (cl_60_told hc.cl hL0) rfl hi_14 dX12_driver_42 ?_
        refine lv_ishl hc.x hc.b dX12_driver_43 ?_
        refine lv_icmp_ge (tgt := 60) hc.x hc.b dX12_driver_44 (by decide) (fun c_15 => ?_) (fun c_15 => ?_)
        · have hf := br_y c_15 hf
          exact hJ_8 S_1 _ _ _ hf hd (lv_sub hl [0] rfl)
        · have hf := br_n c_15 hf
          refine lv_iload hc.x hc.b dX12_driver_47 (lv_at hl 4 rfl) ?_
          refine lv_i2l (v := Int32.toInt64 x4) hc.x hc.b dX12_driver_49 rfl ?_
          refine lv_lconst (v := 0) hc.x hc.b dX12_driver_50 (by decide) ?_
          refine lv_ldc2 (v := 20) hc.x hc.b hc.ow (hc.ts tw_1456) dX12_driver_51 ?_
          obtain ⟨r_17, hq_16, hf⟩ := on_s hf
          refine k_i (k_runS hc hd my_X12_within tw_1444 (c_X12_within l D cs B0 kt α Lv S_1 (Int32.toInt64 x4) 0 20 hc.cl   hq_16) rfl rfl hl.1 (Nat.le_of_ble_eq_true rfl) ⟨Nat.le_of_ble_eq_true rfl, Nat.le_of_ble_eq_true rfl, Nat.zero_le _, Nat.zero_le _⟩ dX12_driver_54) hd (fun H locs hd => ?_)
          refine lv_if_ne (tgt := 66) hc.x hc.b dX12_driver_57 (by decide) (fun c_18 => ?_) (fun c_18 => ?_)
          · have hf := br_n c_18 hf
            refine lv_aload_n hc.x hc.b dX12_driver_66 rfl (lv_at hl 0 rfl) ?_
            refine fg_60_0 hc hd hL0 tw_1309 dX12_driver_67 ?_
            refine lv_iconst (v := 1) hc.x hc.b dX12_driver_70 (by decide) ?_
            obtain ⟨hi_19, hf⟩ := ck_s hf
            refine r_iald hc hd (cl_60_told hc.cl hL0) rfl hi_19 dX12_driver_71 ?_
            refine lv_bipush (v := 6) hc.x hc.b dX12_driver_72 (by decide) ?_
            refine lv_icmp_ne (tgt := 79) hc.x hc.b dX12_driver_74 (by decide) (fun c_20 => ?_) (fun c_20 => ?_)
            · have hf := br_n c_20 hf
              refine lv_bipush (v := 28) hc.x hc.b dX12_driver_79 (by decide) ?_
              refine lv_iconst (v := 4) hc.x hc.b dX12_driver_81 (by decide) ?_
              refine lv_aload_n hc.x hc.b dX12_driver_82 rfl (lv_at hl 0 rfl) ?_
              refine fg_60_0 hc hd hL0 tw_1309 dX12_driver_83 ?_
              refine lv_iconst (v := 1) hc.x hc.b dX12_driver_86 (by decide) ?_
              obtain ⟨hi_21, hf⟩ := ck_s hf
              refine r_iald hc hd (cl_60_told hc.cl hL0) rfl hi_21 dX12_driver_87 ?_
              refine lv_imul hc.x hc.b dX12_driver_88 ?_
              refine lv_iadd hc.x hc.b dX12_driver_89 ?_
              refine lv_topi (fun x5_22 ex5_22 => ?_)
              have hf := bv_n ex5_22 hf
              refine lv_istore (lv' := [(5, .int x5_22), (0, .ref (α 60 g0)), (1, .int x1), (2, .int x2), (3, .int x3), (4, .int x4)]) hc.x hc.b dX12_driver_90 hl (by decide) rfl (fun ls hl => ?_)
              refine lv_aload_n hc.x hc.b dX12_driver_92 rfl (lv_at hl 1 rfl) ?_
              refine fg_60_0 hc hd hL0 tw_1309 dX12_driver_93 ?_
              refine lv_iload hc.x hc.b dX12_driver_96 (lv_at hl 0 rfl) ?_
              refine lv_iload_n hc.x hc.b dX12_driver_98 rfl (lv_at hl 2 rfl) ?_
              obtain ⟨hi_23, hf⟩ := ck_s hf
              refine r_iast hc hd (cl_60_told hc.cl hL0) (fun _ => rfl) hi_23 dX12_driver_99 (fun H locs hd => ?_)
              obtain ⟨S_24, hd, hf⟩ := nmD hd hf
              refine lv_aload_n hc.x hc.b dX12_driver_100 rfl (lv_at hl 1 rfl) ?_
              refine fg_60_0 hc hd hL0 tw_1309 dX12_driver_101 ?_
              refine lv_iload hc.x hc.b dX12_driver_104 (lv_at hl 0 rfl) ?_
              refine lv_iconst (v := 1) hc.x hc.b dX12_driver_106 (by decide) ?_
              refine lv_iadd hc.x hc.b dX12_driver_107 ?_
              refine lv_iload_n hc.x hc.b dX12_driver_108 rfl (lv_at hl 3 rfl) ?_
              obtain ⟨hi_25, hf⟩ := ck_s hf
              refine r_iast hc hd (cl_60_told hc.cl hL0) (fun _ => rfl) hi_25 dX12_driver_109 (fun H locs hd => ?_)
              obtain ⟨S_26, hd, hf⟩ := nmD hd hf
              refine lv_aload_n hc.x hc.b dX12_driver_110 rfl (lv_at hl 1 rfl) ?_
              refine fg_60_0 hc hd hL0 tw_1309 dX12_driver_111 ?_
              refine lv_iload hc.x hc.b dX12_driver_114 (lv_at hl 0 rfl) ?_
              refine lv_iconst (v := 2) hc.x hc.b dX12_driver_116 (by decide) ?_
              refine lv_iadd hc.x hc.b dX12_driver_117 ?_
              refine lv_iload_n hc.x hc.b dX12_driver_118 rfl (lv_at hl 4 rfl) ?_
              obtain ⟨hi_27, hf⟩ := ck_s hf
              refine r_iast hc hd (cl_60_told hc.cl hL0) (fun _ => rfl) hi_27 dX12_driver_119 (fun H locs hd => ?_)
              obtain ⟨S_28, hd, hf⟩ := nmD hd hf
              refine lv_aload_n hc.x hc.b dX12_driver_120 rfl (lv_at hl 1 rfl) ?_
              refine fg_60_0 hc hd hL0 tw_1309 dX12_driver_121 ?_
              refine lv_iload hc.x hc.b dX12_driver_124 (lv_at hl 0 rfl) ?_
              refine lv_iconst (v := 3) hc.x hc.b dX12_driver_126 (by decide) ?_
              refine lv_iadd hc.x hc.b dX12_driver_127 ?_
              refine lv_iload hc.x hc.b dX12_driver_128 (lv_at hl 5 rfl) ?_
              obtain ⟨hi_29, hf⟩ := ck_s hf
              refine r_iast hc hd (cl_60_told hc.cl hL0) (fun _ => rfl) hi_29 dX12_driver_130 (fun H locs hd => ?_)
              obtain ⟨S_30, hd, hf⟩ := nmD hd hf
              refine lv_aload_n hc.x hc.b dX12_driver_131 rfl (lv_at hl 1 rfl) ?_
              refine fg_60_0 hc hd hL0 tw_1309 dX12_driver_132 ?_
              refine lv_iconst (v := 1) hc.x hc.b dX12_driver_135 (by decide) ?_
              refine lv_dup2_11 hc.x hc.b dX12_driver_136 rfl rfl ?_
              obtain ⟨hi_31, hf⟩ := ck_s hf
              refine r_iald hc hd (cl_60_told hc.cl hL0) rfl hi_31 dX12_driver_137 ?_
              refine lv_iconst (v := 1) hc.x hc.b dX12_driver_138 (by decide) ?_
              refine lv_iadd hc.x hc.b dX12_driver_139 ?_
              obtain ⟨hi_32, hf⟩ := ck_s hf
              refine r_iast hc hd (cl_60_told hc.cl hL0) (fun _ => rfl) hi_32 dX12_driver_140 (fun H locs hd => ?_)
              obtain ⟨S_33, hd, hf⟩ := nmD hd hf
              refine lv_aload_n hc.x hc.b dX12_driver_141 rfl (lv_at hl 1 rfl) ?_
              refine fg_60_0 hc hd hL0 tw_1309 dX12_driver_142 ?_
              refine lv_iconst (v := 1) hc.x hc.b dX12_driver_145 (by decide) ?_
              obtain ⟨hi_34, hf⟩ := ck_s hf
              refine r_iald hc hd (cl_60_told hc.cl hL0) rfl hi_34 dX12_driver_146 ?_
              refine lv_iconst (v := 1) hc.x hc.b dX12_driver_147 (by decide) ?_
              refine lv_isub hc.x hc.b dX12_driver_148 ?_
              cases hf
              exact r_iret hc hd hr dX12_driver_149
            · have hf := br_y c_20 hf
              refine lv_iconst (v := (-1)) hc.x hc.b dX12_driver_77 (by decide) ?_
              cases hf
              exact r_iret hc hd hr dX12_driver_78
          · have hf := br_y c_18 hf
            exact hJ_8 S_1 _ _ _ hf hd (lv_sub hl [0] rfl)
  · have hf := br_y c_4 hf
    refine lv_aload_n hc.x hc.b dX12_driver_13 rfl (lv_at hl 0 rfl) ?_
    refine lv_iconst (v := 1) hc.x hc.b dX12_driver_14 (by decide) ?_
    obtain ⟨r_37, S_36, hq_35, hf⟩ := on2_s hf
    refine k_i (k_runV hc hd my_X12_fails tw_1439 hL0 rfl rfl rfl (c_X12_fails l D cs B0 kt α Lv S_1 g0 1 hc.cl hL0  hq_35) rfl rfl hl.1 (Nat.le_of_ble_eq_true rfl) ⟨Nat.le_of_ble_eq_true rfl, Nat.le_of_ble_eq_true rfl, Nat.zero_le _, Nat.zero_le _⟩ dX12_driver_15) hd (fun H locs hd => ?_)
    cases hf
    exact r_iret hc hd hr dX12_driver_18
theorem c_X12_driver (l : Launch) (D : va_G) (cs : Nat → ClassId) (B0 : Nat) (kt : (Nat → Nat) × (Nat → Nat)) (α : Nat → Nat → Nat) (Lv : Nat → Nat → Prop) (S : St) (g0 : Nat) (x1 : Int32) (x2 : Int32) (x3 : Int32) (x4 : Int32) (hcl : Cl Lv) (hL0 : Lv 60 g0) {o : Int32 × St} (hf : f_X12_driver g0 x1 x2 x3 x4 S = some o) : Met l yX12_driver (wz yX12_driver cX12_driver 6 (some .int)) (Rm 2 0 0) (Pz D cs B0 kt α Lv S [.ref (α 60 g0), .int x1, .int x2, .int x3, .int x4]) (Qi D cs B0 α Lv o.1 o.2) 0 0 (AB B0) := met_of (by decide) rfl hcl (Nat.le_of_ble_eq_true rfl) (fun p e s m below meth c hc hr hd ls hl => b_X12_driver hc hr hL0 hf hd hl)
theorem my_X12_driver : MyV yX12_driver "PumpCrossingModel" cX12_driver 6 (some .int) 4 := ⟨tw_1449, tw_1450, tw_11, tw_1451, by decide +kernel⟩
def f_X12_ends (g0 : Nat) (x1 : Int32) (S : St) : Option (Int32 × St) := bv (si S 60 g0 18 (gi S 60 g0 16)) (fun S_1 => bv (fun (v_2 : Int32) (S_3 : St) => bv (si S_3 60 g0 19 v_2) (fun S_5 => bv (fun (v_6 : Int32) (S_7 : St) => some (v_6, S_7)) (fun J_8 => br ((gi S_5 60 g0 16) = 0) (J_8 x1 S_5) (J_8 (((-10)) - (gi S_5 60 g0 16)) S_5)))) (fun J_4 => br ((gi S_1 60 g0 16) = 0) (J_4 ((-1)) S_1) (J_4 (gi S_1 60 g0 17) S_1)))
set_option maxRecDepth 100000 in
set_option maxHeartbeats 4000000 in
theorem b_X12_ends (hc : Cx p s m args meth c cX12_ends 2 "PumpCrossingModel" D cs B0 kt Lv) (hr : meth.sig.returnType = some .int)  {o : Int32 × St}  {S : St} {g0 : Nat} {x1 : Int32} (hL0 : Lv 60 g0) {H : Heap} {locs : List Loc} {ls : Array Slot} (hf : f_X12_ends g0 x1 S = some o) (hd : Dy s D cs B0 α Lv S H locs) (hl : lv_has ls 2 [(0, .ref (α 60 g0)), (1, .int x1)]) : W p l e (Rm 0 0 0) s m args below meth c H locs 0 0 (MQ below (Qi D cs B0 α Lv o.1 o.2) args s 0 0 (AB B0)) (F0 m 0 ls []) := by
  unfold f_X12_ends at hf
  refine lv_aload_n hc.x hc.b dX12_ends_0 rfl (lv_at hl 0 rfl) ?_
  refine lv_aload_n hc.x hc.b dX12_ends_1 rfl (lv_at hl 0 rfl) ?_
  refine fg_60_16 hc hd hL0 tw_1325 dX12_ends_2 ?_
  refine fp_60_18 hc hd hL0 tw_1327 dX12_ends_5 (fun H locs hd => ?_)
  obtain ⟨S_1, hd, hf⟩ := nmD hd hf
  refine lv_aload_n hc.x hc.b dX12_ends_8 rfl (lv_at hl 0 rfl) ?_
  refine lv_aload_n hc.x hc.b dX12_ends_9 rfl (lv_at hl 0 rfl) ?_
  refine fg_60_16 hc hd hL0 tw_1325 dX12_ends_10 ?_
  refine jn_s (P := fun J_4 => ∀ (v_2 : Int32) (S_3 : St) (H : Heap) (locs : List Loc) (ls : Array Slot), J_4 v_2 S_3 = some o → Dy s D cs B0 α Lv S_3 H locs → lv_has ls 2 [(0, .ref (α 60 g0)), (1, .int x1)] → W p l e (Rm 0 0 0) s m args below meth c H locs 0 0 (MQ below (Qi D cs B0 α Lv o.1 o.2) args s 0 0 (AB B0)) (F0 m 24 ls [.int v_2, .ref (α 60 g0)])) hf ?_ (fun J_4 hJ_4 hf => ?_)
  · intro v_2 S_3 H locs ls hf hd hl
    refine fp_60_19 hc hd hL0 tw_1328 dX12_ends_24 (fun H locs hd => ?_)
    obtain ⟨S_5, hd, hf⟩ := nmD hd hf
    refine lv_aload_n hc.x hc.b dX12_ends_27 rfl (lv_at hl 0 rfl) ?_
    refine fg_60_16 hc hd hL0 tw_1325 dX12_ends_28 ?_
    refine jn_s (P := fun J_8 => ∀ (v_6 : Int32) (S_7 : St) (H : Heap) (locs : List Loc) (ls : Array Slot), J_8 v_6 S_7 = some o → Dy s D cs B0 α Lv S_7 H locs → lv_has ls 2 [] → W p l e (Rm 0 0 0) s m args below meth c H locs 0 0 (MQ below (Qi D cs B0 α Lv o.1 o.2) args s 0 0 (AB B0)) (F0 m 45 ls [.int v_6])) hf ?_ (fun J_8 hJ_8 hf => ?_)
    · intro v_6 S_7 H locs ls hf hd hl
      cases hf
      exact r_iret hc hd hr dX12_ends_45
    refine lv_if_ne (tgt := 38) hc.x hc.b dX12_ends_31 (by decide) (fun c_9 => ?_) (fun c_9 => ?_)
    · have hf := br_n c_9 hf
      refine lv_bipush (v := (-10)) hc.x hc.b dX12_ends_38 (by decide) ?_
      refine lv_aload_n hc.x hc.b dX12_ends_40 rfl (lv_at hl 0 rfl) ?_
      refine fg_60_16 hc hd hL0 tw_1325 dX12_ends_41 ?_
      refine lv_isub hc.x hc.b dX12_ends_44 ?_
      exact hJ_8 (((-10)) - (gi S_5 60 g0 16)) S_5 _ _ _ hf hd (lv_sub hl [] rfl)
    · have hf := br_y c_9 hf
      refine lv_iload_n hc.x hc.b dX12_ends_34 rfl (lv_at hl 1 rfl) ?_
      refine lv_goto (tgt := 45) hc.x hc.b dX12_ends_35 (by decide) ?_
      exact hJ_8 x1 S_5 _ _ _ hf hd (lv_sub hl [] rfl)
  refine lv_if_ne (tgt := 20) hc.x hc.b dX12_ends_13 (by decide) (fun c_10 => ?_) (fun c_10 => ?_)
  · have hf := br_n c_10 hf
    refine lv_aload_n hc.x hc.b dX12_ends_20 rfl (lv_at hl 0 rfl) ?_
    refine fg_60_17 hc hd hL0 tw_1326 dX12_ends_21 ?_
    exact hJ_4 (gi S_1 60 g0 17) S_1 _ _ _ hf hd (lv_sub hl [0, 1] rfl)
  · have hf := br_y c_10 hf
    refine lv_iconst (v := (-1)) hc.x hc.b dX12_ends_16 (by decide) ?_
    refine lv_goto (tgt := 24) hc.x hc.b dX12_ends_17 (by decide) ?_
    exact hJ_4 ((-1)) S_1 _ _ _ hf hd (lv_sub hl [0, 1] rfl)
theorem c_X12_ends (l : Launch) (D : va_G) (cs : Nat → ClassId) (B0 : Nat) (kt : (Nat → Nat) × (Nat → Nat)) (α : Nat → Nat → Nat) (Lv : Nat → Nat → Prop) (S : St) (g0 : Nat) (x1 : Int32) (hcl : Cl Lv) (hL0 : Lv 60 g0) {o : Int32 × St} (hf : f_X12_ends g0 x1 S = some o) : Met l yX12_ends (wz yX12_ends cX12_ends 2 (some .int)) (Rm 0 0 0) (Pz D cs B0 kt α Lv S [.ref (α 60 g0), .int x1]) (Qi D cs B0 α Lv o.1 o.2) 0 0 (AB B0) := met_of (by decide) rfl hcl (Nat.le_of_ble_eq_true rfl) (fun p e s m below meth c hc hr hd ls hl => b_X12_ends hc hr hL0 hf hd hl)
theorem my_X12_ends : MyV yX12_ends "PumpCrossingModel" cX12_ends 2 (some .int) 1 := ⟨tw_1573, (in_sel 54 (by decide +kernel) (by decide +kernel)), tw_11, tw_1574, by decide +kernel⟩
def f_X12_even (g0 : Nat) (x1 : Int32) (x2 : Int32) (x3 : Int32) (S : St) : Option (Int32 × St) := on (f_X12_pairFault g0 x1 x2 S) (fun r_2 => bv (si S 60 g0 5 r_2) (fun S_3 => br ((gi S_3 60 g0 5) ≤ 0) (on (f_X12_layGains g0 x1 x2 S_3) (fun S_6 => on (f_X12_evenAt g0 x3 S_6) (fun r_8 => some (r_8, S_6)))) (some (0, S_3))))
set_option maxRecDepth 100000 in
set_option maxHeartbeats 4000000 in
theorem b_X12_even (hc : Cx p s m args meth c cX12_even 4 "PumpCrossingModel" D cs B0 kt Lv) (hr : meth.sig.returnType = some .int)  {o : Int32 × St}  {S : St} {g0 : Nat} {x1 : Int32} {x2 : Int32} {x3 : Int32} (hL0 : Lv 60 g0) {H : Heap} {locs : List Loc} {ls : Array Slot} (hf : f_X12_even g0 x1 x2 x3 S = some o) (hd : Dy s D cs B0 α Lv S H locs) (hl : lv_has ls 4 [(0, .ref (α 60 g0)), (1, .int x1), (2, .int x2), (3, .int x3)]) : W p l e (Rm 3 0 0) s m args below meth c H locs 0 0 (MQ below (Qi D cs B0 α Lv o.1 o.2) args s 0 0 (AB B0)) (F0 m 0 ls []) := by
  unfold f_X12_even at hf
  refine lv_aload_n hc.x hc.b dX12_even_0 rfl (lv_at hl 0 rfl) ?_
  refine lv_aload_n hc.x hc.b dX12_even_1 rfl (lv_at hl 0 rfl) ?_
  refine lv_iload_n hc.x hc.b dX12_even_2 rfl (lv_at hl 1 rfl) ?_
  refine lv_iload_n hc.x hc.b dX12_even_3 rfl (lv_at hl 2 rfl) ?_
  obtain ⟨r_2, hq_1, hf⟩ := on_s hf
  refine k_i (k_runV hc hd my_X12_pairFault tw_1724 hL0 rfl rfl rfl (c_X12_pairFault l D cs B0 kt α Lv S g0 x1 x2 hc.cl hL0  hq_1) rfl rfl hl.1 (Nat.le_of_ble_eq_true rfl) ⟨Nat.le_of_ble_eq_true rfl, Nat.le_of_ble_eq_true rfl, Nat.zero_le _, Nat.zero_le _⟩ dX12_even_4) hd (fun H locs hd => ?_)
  refine fp_60_5 hc hd hL0 tw_1314 dX12_even_7 (fun H locs hd => ?_)
  obtain ⟨S_3, hd, hf⟩ := nmD hd hf
  refine lv_aload_n hc.x hc.b dX12_even_10 rfl (lv_at hl 0 rfl) ?_
  refine fg_60_5 hc hd hL0 tw_1314 dX12_even_11 ?_
  refine lv_if_le (tgt := 19) hc.x hc.b dX12_even_14 (by decide) (fun c_4 => ?_) (fun c_4 => ?_)
  · have hf := br_y c_4 hf
    refine lv_aload_n hc.x hc.b dX12_even_19 rfl (lv_at hl 0 rfl) ?_
    refine lv_iload_n hc.x hc.b dX12_even_20 rfl (lv_at hl 1 rfl) ?_
    refine lv_iload_n hc.x hc.b dX12_even_21 rfl (lv_at hl 2 rfl) ?_
    obtain ⟨S_6, hq_5, hf⟩ := on_s hf
    refine k_v (k_runV hc hd my_X12_layGains tw_1732 hL0 rfl rfl rfl (c_X12_layGains l D cs B0 kt α Lv S_3 g0 x1 x2 hc.cl hL0  hq_5) rfl rfl hl.1 (Nat.le_of_ble_eq_true rfl) ⟨Nat.le_of_ble_eq_true rfl, Nat.le_of_ble_eq_true rfl, Nat.zero_le _, Nat.zero_le _⟩ dX12_even_22) hd (fun H locs hd => ?_)
    refine lv_aload_n hc.x hc.b dX12_even_25 rfl (lv_at hl 0 rfl) ?_
    refine lv_iload_n hc.x hc.b dX12_even_26 rfl (lv_at hl 3 rfl) ?_
    obtain ⟨r_8, hq_7, hf⟩ := on_s hf
    refine k_i (k_runV hc hd my_X12_evenAt tw_1752 hL0 rfl rfl rfl (c_X12_evenAt l D cs B0 kt α Lv S_6 g0 x3 hc.cl hL0  hq_7) rfl rfl hl.1 (Nat.le_of_ble_eq_true rfl) ⟨Nat.le_of_ble_eq_true rfl, Nat.le_of_ble_eq_true rfl, Nat.zero_le _, Nat.zero_le _⟩ dX12_even_27) hd (fun H locs hd => ?_)
    cases hf
    exact r_iret hc hd hr dX12_even_30
  · have hf := br_n c_4 hf
    refine lv_iconst (v := 0) hc.x hc.b dX12_even_17 (by decide) ?_
    cases hf
    exact r_iret hc hd hr dX12_even_18
theorem c_X12_even (l : Launch) (D : va_G) (cs : Nat → ClassId) (B0 : Nat) (kt : (Nat → Nat) × (Nat → Nat)) (α : Nat → Nat → Nat) (Lv : Nat → Nat → Prop) (S : St) (g0 : Nat) (x1 : Int32) (x2 : Int32) (x3 : Int32) (hcl : Cl Lv) (hL0 : Lv 60 g0) {o : Int32 × St} (hf : f_X12_even g0 x1 x2 x3 S = some o) : Met l yX12_even (wz yX12_even cX12_even 4 (some .int)) (Rm 3 0 0) (Pz D cs B0 kt α Lv S [.ref (α 60 g0), .int x1, .int x2, .int x3]) (Qi D cs B0 α Lv o.1 o.2) 0 0 (AB B0) := met_of (by decide) rfl hcl (Nat.le_of_ble_eq_true rfl) (fun p e s m below meth c hc hr hd ls hl => b_X12_even hc hr hL0 hf hd hl)
theorem my_X12_even : MyV yX12_even "PumpCrossingModel" cX12_even 4 (some .int) 3 := ⟨tw_1749, tw_1750, tw_11, tw_1751, by decide +kernel⟩
def f_X12_fault (g0 : Nat) (x1 : Int32) (S : St) : Option (Int32 × St) := bv (si S 60 g0 5 0) (fun S_1 => bv (fun (v_2 : Int32) (S_3 : St) => some (v_2, S_3)) (fun J_4 => br (x1 = 0) (J_4 (gi S_1 60 g0 18) S_1) (br (x1 = 1) (J_4 (gi S_1 60 g0 19) S_1) (J_4 ((-1)) S_1))))
set_option maxRecDepth 100000 in
set_option maxHeartbeats 4000000 in
theorem b_X12_fault (hc : Cx p s m args meth c cX12_fault 2 "PumpCrossingModel" D cs B0 kt Lv) (hr : meth.sig.returnType = some .int)  {o : Int32 × St}  {S : St} {g0 : Nat} {x1 : Int32} (hL0 : Lv 60 g0) {H : Heap} {locs : List Loc} {ls : Array Slot} (hf : f_X12_fault g0 x1 S = some o) (hd : Dy s D cs B0 α Lv S H locs) (hl : lv_has ls 2 [(0, .ref (α 60 g0)), (1, .int x1)]) : W p l e (Rm 0 0 0) s m args below meth c H locs 0 0 (MQ below (Qi D cs B0 α Lv o.1 o.2) args s 0 0 (AB B0)) (F0 m 0 ls []) := by
  unfold f_X12_fault at hf
  refine lv_aload_n hc.x hc.b dX12_fault_0 rfl (lv_at hl 0 rfl) ?_
  refine lv_iconst (v := 0) hc.x hc.b dX12_fault_1 (by decide) ?_
  refine fp_60_5 hc hd hL0 tw_1314 dX12_fault_2 (fun H locs hd => ?_)
  obtain ⟨S_1, hd, hf⟩ := nmD hd hf
  refine lv_iload_n hc.x hc.b dX12_fault_5 rfl (lv_at hl 1 rfl) ?_
  refine jn_s (P := fun J_4 => ∀ (v_2 : Int32) (S_3 : St) (H : Heap) (locs : List Loc) (ls : Array Slot), J_4 v_2 S_3 = some o → Dy s D cs B0 α Lv S_3 H locs → lv_has ls 2 [] → W p l e (Rm 0 0 0) s m args below meth c H locs 0 0 (MQ below (Qi D cs B0 α Lv o.1 o.2) args s 0 0 (AB B0)) (F0 m 29 ls [.int v_2])) hf ?_ (fun J_4 hJ_4 hf => ?_)
  · intro v_2 S_3 H locs ls hf hd hl
    cases hf
    exact r_iret hc hd hr dX12_fault_29
  refine lv_if_ne (tgt := 16) hc.x hc.b dX12_fault_6 (by decide) (fun c_5 => ?_) (fun c_5 => ?_)
  · have hf := br_n c_5 hf
    refine lv_iload_n hc.x hc.b dX12_fault_16 rfl (lv_at hl 1 rfl) ?_
    refine lv_iconst (v := 1) hc.x hc.b dX12_fault_17 (by decide) ?_
    refine lv_icmp_ne (tgt := 28) hc.x hc.b dX12_fault_18 (by decide) (fun c_6 => ?_) (fun c_6 => ?_)
    · have hf := br_n c_6 hf
      refine lv_iconst (v := (-1)) hc.x hc.b dX12_fault_28 (by decide) ?_
      exact hJ_4 ((-1)) S_1 _ _ _ hf hd (lv_sub hl [] rfl)
    · have hf := br_y c_6 hf
      refine lv_aload_n hc.x hc.b dX12_fault_21 rfl (lv_at hl 0 rfl) ?_
      refine fg_60_19 hc hd hL0 tw_1328 dX12_fault_22 ?_
      refine lv_goto (tgt := 29) hc.x hc.b dX12_fault_25 (by decide) ?_
      exact hJ_4 (gi S_1 60 g0 19) S_1 _ _ _ hf hd (lv_sub hl [] rfl)
  · have hf := br_y c_5 hf
    refine lv_aload_n hc.x hc.b dX12_fault_9 rfl (lv_at hl 0 rfl) ?_
    refine fg_60_18 hc hd hL0 tw_1327 dX12_fault_10 ?_
    refine lv_goto (tgt := 29) hc.x hc.b dX12_fault_13 (by decide) ?_
    exact hJ_4 (gi S_1 60 g0 18) S_1 _ _ _ hf hd (lv_sub hl [] rfl)
theorem c_X12_fault (l : Launch) (D : va_G) (cs : Nat → ClassId) (B0 : Nat) (kt : (Nat → Nat) × (Nat → Nat)) (α : Nat → Nat → Nat) (Lv : Nat → Nat → Prop) (S : St) (g0 : Nat) (x1 : Int32) (hcl : Cl Lv) (hL0 : Lv 60 g0) {o : Int32 × St} (hf : f_X12_fault g0 x1 S = some o) : Met l yX12_fault (wz yX12_fault cX12_fault 2 (some .int)) (Rm 0 0 0) (Pz D cs B0 kt α Lv S [.ref (α 60 g0), .int x1]) (Qi D cs B0 α Lv o.1 o.2) 0 0 (AB B0) := met_of (by decide) rfl hcl (Nat.le_of_ble_eq_true rfl) (fun p e s m below meth c hc hr hd ls hl => b_X12_fault hc hr hL0 hf hd hl)
theorem my_X12_fault : MyV yX12_fault "PumpCrossingModel" cX12_fault 2 (some .int) 1 := ⟨tw_1588, tw_1589, tw_11, tw_1590, by decide +kernel⟩
def f_X12_feed_23 (g0 : Nat) (x1 : Int32) (x2 : Int32) (x3 : Int32) (x4 : Int32) (x5 : Int32) (K : St → Option (Int32 × St)) : Nat → Int32 → St → Option (Int32 × St)
  | 0, _, _ => none
  | n + 1, x6, S => br (20 ≤ x6) (K S) (bv (fun (v_4 : Int32) (S_5 : St) => bv (usI v_4 (24 - (8 * (x6 &&& 3)))) (fun q_7 => ck (inb (gi S_5 60 g0 9) 400 = true) (bv (si S_5 66 g0 (nn (gi S_5 60 g0 9)) (q_7 &&& 255)) (fun S_9 => bv (si S_9 60 g0 9 ((gi S_9 60 g0 9) + 1)) (fun S_10 => bv (x6 + 1) (fun x6_11 => f_X12_feed_23 g0 x1 x2 x3 x4 x5 K n x6_11 S_10)))))) (fun J_6 => br (4 ≤ x6) (br (8 ≤ x6) (br (12 ≤ x6) (br (16 ≤ x6) (J_6 x5 S) (J_6 x4 S)) (J_6 x3 S)) (J_6 x2 S)) (J_6 x1 S)))
def f_X12_feed (g0 : Nat) (x1 : Int32) (x2 : Int32) (x3 : Int32) (x4 : Int32) (x5 : Int32) (S : St) : Option (Int32 × St) := bv (si S 60 g0 5 0) (fun S_1 => br (((gi S_1 60 g0 9) + 20) ≤ 400) (f_X12_feed_23 g0 x1 x2 x3 x4 x5 (fun  (S_16 : St) => some (gi S_16 60 g0 9, S_16)) FU 0 S_1) (some ((-1), S_1)))
set_option maxRecDepth 100000 in
set_option maxHeartbeats 4000000 in
theorem w_X12_feed_23 (hc : Cx p s m args meth c cX12_feed 8 "PumpCrossingModel" D cs B0 kt Lv) (hr : meth.sig.returnType = some .int) {o : Int32 × St}  {g0 : Nat} {x1 : Int32} {x2 : Int32} {x3 : Int32} {x4 : Int32} {x5 : Int32} {K : St → Option (Int32 × St)} (hL0 : Lv 60 g0) (hK : ∀  (S : St) (H : Heap) (locs : List Loc) (ls : Array Slot), K S = some o → Dy s D cs B0 α Lv S H locs → lv_has ls 8 [(0, .ref (α 60 g0))] → W p l e (Rm 0 0 0) s m args below meth c H locs 0 0 (MQ below (Qi D cs B0 α Lv o.1 o.2) args s 0 0 (AB B0)) (F0 m 120 ls [])) : ∀ (n : Nat) (x6 : Int32) (S : St) (H : Heap) (locs : List Loc) (ls : Array Slot), f_X12_feed_23 g0 x1 x2 x3 x4 x5 K n x6 S = some o → Dy s D cs B0 α Lv S H locs → lv_has ls 8 [(0, .ref (α 60 g0)), (1, .int x1), (2, .int x2), (3, .int x3), (4, .int x4), (5, .int x5), (6, .int x6)] → W p l e (Rm 0 0 0) s m args below meth c H locs 0 0 (MQ below (Qi D cs B0 α Lv o.1 o.2) args s 0 0 (AB B0)) (F0 m 23 ls []) := by
  intro n
  induction n with
  | zero =>
    intro x6 S H locs ls hf
    rw [f_X12_feed_23] at hf
    cases hf
  | succ n ih =>
    intro x6 S H locs ls hf hd hl
    rw [f_X12_feed_23] at hf
    refine lv_iload hc.x hc.b dX12_feed_23 (lv_at hl 6 rfl) ?_
    refine lv_bipush (v := 20) hc.x hc.b dX12_feed_25 (by decide) ?_
    refine lv_icmp_ge (tgt := 120) hc.x hc.b dX12_feed_27 (by decide) (fun c_3 => ?_) (fun c_3 => ?_)
    · have hf := br_y c_3 hf
      exact hK S _ _ _ hf hd (lv_sub hl [0] rfl)
    · have hf := br_n c_3 hf
      refine lv_iload hc.x hc.b dX12_feed_30 (lv_at hl 6 rfl) ?_
      refine lv_iconst (v := 4) hc.x hc.b dX12_feed_32 (by decide) ?_
      refine jn_s (P := fun J_6 => ∀ (v_4 : Int32) (S_5 : St) (H : Heap) (locs : List Loc) (ls : Array Slot), J_6 v_4 S_5 = some o → Dy s D cs B0 α Lv S_5 H locs → lv_has ls 8 [(0, .ref (α 60 g0)), (1, .int x1), (2, .int x2), (3, .int x3), (4, .int x4), (5, .int x5), (6, .int x6)] → W p l e (Rm 0 0 0) s m args below meth c H locs 0 0 (MQ below (Qi D cs B0 α Lv o.1 o.2) args s 0 0 (AB B0)) (F0 m 76 ls [.int v_4])) hf ?_ (fun J_6 hJ_6 hf => ?_)
      · intro v_4 S_5 H locs ls hf hd hl
        refine lv_istore (lv' := [(7, .int v_4), (0, .ref (α 60 g0)), (1, .int x1), (2, .int x2), (3, .int x3), (4, .int x4), (5, .int x5), (6, .int x6)]) hc.x hc.b dX12_feed_76 hl (by decide) rfl (fun ls hl => ?_)
        refine lv_aload_n hc.x hc.b dX12_feed_78 rfl (lv_at hl 1 rfl) ?_
        refine fg_60_6 hc hd hL0 tw_1315 dX12_feed_79 ?_
        refine lv_aload_n hc.x hc.b dX12_feed_82 rfl (lv_at hl 1 rfl) ?_
        refine fg_60_9 hc hd hL0 tw_1318 dX12_feed_83 ?_
        refine lv_iload hc.x hc.b dX12_feed_86 (lv_at hl 0 rfl) ?_
        refine lv_bipush (v := 24) hc.x hc.b dX12_feed_88 (by decide) ?_
        refine lv_bipush (v := 8) hc.x hc.b dX12_feed_90 (by decide) ?_
        refine lv_iload hc.x hc.b dX12_feed_92 (lv_at hl 7 rfl) ?_
        refine lv_iconst (v := 3) hc.x hc.b dX12_feed_94 (by decide) ?_
        refine lv_iand hc.x hc.b dX12_feed_95 ?_
        refine lv_imul hc.x hc.b dX12_feed_96 ?_
        refine lv_isub hc.x hc.b dX12_feed_97 ?_
        refine lv_iushr (v := usI v_4 (24 - (8 * (x6 &&& 3)))) hc.x hc.b dX12_feed_98 rfl ?_
        refine lv_topi (fun q_7 eq_7 => ?_)
        have hf := bv_n eq_7 hf
        refine lv_sipush (v := 255) hc.x hc.b dX12_feed_99 (by decide) ?_
        refine lv_iand hc.x hc.b dX12_feed_102 ?_
        obtain ⟨hi_8, hf⟩ := ck_s hf
        refine r_iast hc hd (cl_60_tape hc.cl hL0) (fun _ => rfl) hi_8 dX12_feed_103 (fun H locs hd => ?_)
        obtain ⟨S_9, hd, hf⟩ := nmD hd hf
        refine lv_aload_n hc.x hc.b dX12_feed_104 rfl (lv_at hl 1 rfl) ?_
        refine lv_dup hc.x hc.b dX12_feed_105 rfl ?_
        refine fg_60_9 hc hd hL0 tw_1318 dX12_feed_106 ?_
        refine lv_iconst (v := 1) hc.x hc.b dX12_feed_109 (by decide) ?_
        refine lv_iadd hc.x hc.b dX12_feed_110 ?_
        refine fp_60_9 hc hd hL0 tw_1318 dX12_feed_111 (fun H locs hd => ?_)
        obtain ⟨S_10, hd, hf⟩ := nmD hd hf
        obtain ⟨x6_11, ex6_11⟩ : ∃ z : Int32, z = x6 + 1 := ⟨_, rfl⟩
        have hf := bv_n ex6_11 hf
        refine lv_iinc (v := x6_11) (lv' := [(6, .int x6_11), (7, .int v_4), (0, .ref (α 60 g0)), (1, .int x1), (2, .int x2), (3, .int x3), (4, .int x4), (5, .int x5)]) hc.x hc.b dX12_feed_114 hl (k := 7) rfl (by rw [ex6_11]; rfl) (by decide) rfl (fun ls hl => ?_)
        refine lv_goto (tgt := 23) hc.x hc.b dX12_feed_117 (by decide) ?_
        exact ih x6_11 S_10 _ _ _ hf hd (lv_sub hl [2, 3, 4, 5, 6, 7, 0] rfl)
      refine lv_icmp_ge (tgt := 40) hc.x hc.b dX12_feed_33 (by decide) (fun c_12 => ?_) (fun c_12 => ?_)
      · have hf := br_y c_12 hf
        refine lv_iload hc.x hc.b dX12_feed_40 (lv_at hl 6 rfl) ?_
        refine lv_bipush (v := 8) hc.x hc.b dX12_feed_42 (by decide) ?_
        refine lv_icmp_ge (tgt := 51) hc.x hc.b dX12_feed_44 (by decide) (fun c_13 => ?_) (fun c_13 => ?_)
        · have hf := br_y c_13 hf
          refine lv_iload hc.x hc.b dX12_feed_51 (lv_at hl 6 rfl) ?_
          refine lv_bipush (v := 12) hc.x hc.b dX12_feed_53 (by decide) ?_
          refine lv_icmp_ge (tgt := 62) hc.x hc.b dX12_feed_55 (by decide) (fun c_14 => ?_) (fun c_14 => ?_)
          · have hf := br_y c_14 hf
            refine lv_iload hc.x hc.b dX12_feed_62 (lv_at hl 6 rfl) ?_
            refine lv_bipush (v := 16) hc.x hc.b dX12_feed_64 (by decide) ?_
            refine lv_icmp_ge (tgt := 74) hc.x hc.b dX12_feed_66 (by decide) (fun c_15 => ?_) (fun c_15 => ?_)
            · have hf := br_y c_15 hf
              refine lv_iload hc.x hc.b dX12_feed_74 (lv_at hl 5 rfl) ?_
              exact hJ_6 x5 S _ _ _ hf hd (lv_sub hl [0, 1, 2, 3, 4, 5, 6] rfl)
            · have hf := br_n c_15 hf
              refine lv_iload hc.x hc.b dX12_feed_69 (lv_at hl 4 rfl) ?_
              refine lv_goto (tgt := 76) hc.x hc.b dX12_feed_71 (by decide) ?_
              exact hJ_6 x4 S _ _ _ hf hd (lv_sub hl [0, 1, 2, 3, 4, 5, 6] rfl)
          · have hf := br_n c_14 hf
            refine lv_iload_n hc.x hc.b dX12_feed_58 rfl (lv_at hl 3 rfl) ?_
            refine lv_goto (tgt := 76) hc.x hc.b dX12_feed_59 (by decide) ?_
            exact hJ_6 x3 S _ _ _ hf hd (lv_sub hl [0, 1, 2, 3, 4, 5, 6] rfl)
        · have hf := br_n c_13 hf
          refine lv_iload_n hc.x hc.b dX12_feed_47 rfl (lv_at hl 2 rfl) ?_
          refine lv_goto (tgt := 76) hc.x hc.b dX12_feed_48 (by decide) ?_
          exact hJ_6 x2 S _ _ _ hf hd (lv_sub hl [0, 1, 2, 3, 4, 5, 6] rfl)
      · have hf := br_n c_12 hf
        refine lv_iload_n hc.x hc.b dX12_feed_36 rfl (lv_at hl 1 rfl) ?_
        refine lv_goto (tgt := 76) hc.x hc.b dX12_feed_37 (by decide) ?_
        exact hJ_6 x1 S _ _ _ hf hd (lv_sub hl [0, 1, 2, 3, 4, 5, 6] rfl)
set_option maxRecDepth 100000 in
set_option maxHeartbeats 4000000 in
theorem b_X12_feed (hc : Cx p s m args meth c cX12_feed 8 "PumpCrossingModel" D cs B0 kt Lv) (hr : meth.sig.returnType = some .int)  {o : Int32 × St}  {S : St} {g0 : Nat} {x1 : Int32} {x2 : Int32} {x3 : Int32} {x4 : Int32} {x5 : Int32} (hL0 : Lv 60 g0) {H : Heap} {locs : List Loc} {ls : Array Slot} (hf : f_X12_feed g0 x1 x2 x3 x4 x5 S = some o) (hd : Dy s D cs B0 α Lv S H locs) (hl : lv_has ls 8 [(0, .ref (α 60 g0)), (1, .int x1), (2, .int x2), (3, .int x3), (4, .int x4), (5, .int x5)]) : W p l e (Rm 0 0 0) s m args below meth c H locs 0 0 (MQ below (Qi D cs B0 α Lv o.1 o.2) args s 0 0 (AB B0)) (F0 m 0 ls []) := by
  unfold f_X12_feed at hf
  refine lv_aload_n hc.x hc.b dX12_feed_0 rfl (lv_at hl 0 rfl) ?_
  refine lv_iconst (v := 0) hc.x hc.b dX12_feed_1 (by decide) ?_
  refine fp_60_5 hc hd hL0 tw_1314 dX12_feed_2 (fun H locs hd => ?_)
  obtain ⟨S_1, hd, hf⟩ := nmD hd hf
  refine lv_aload_n hc.x hc.b dX12_feed_5 rfl (lv_at hl 0 rfl) ?_
  refine fg_60_9 hc hd hL0 tw_1318 dX12_feed_6 ?_
  refine lv_bipush (v := 20) hc.x hc.b dX12_feed_9 (by decide) ?_
  refine lv_iadd hc.x hc.b dX12_feed_11 ?_
  refine lv_sipush (v := 400) hc.x hc.b dX12_feed_12 (by decide) ?_
  refine lv_icmp_le (tgt := 20) hc.x hc.b dX12_feed_15 (by decide) (fun c_2 => ?_) (fun c_2 => ?_)
  · have hf := br_y c_2 hf
    refine lv_iconst (v := 0) hc.x hc.b dX12_feed_20 (by decide) ?_
    refine lv_istore (lv' := [(6, .int 0), (0, .ref (α 60 g0)), (1, .int x1), (2, .int x2), (3, .int x3), (4, .int x4), (5, .int x5)]) hc.x hc.b dX12_feed_21 hl (by decide) rfl (fun ls hl => ?_)
    refine w_X12_feed_23 hc hr hL0 ?_ _ _ _ _ _ _ hf hd (lv_sub hl [1, 2, 3, 4, 5, 6, 0] rfl)
    intro S_16 H locs ls hf hd hl
    refine lv_aload_n hc.x hc.b dX12_feed_120 rfl (lv_at hl 0 rfl) ?_
    refine fg_60_9 hc hd hL0 tw_1318 dX12_feed_121 ?_
    cases hf
    exact r_iret hc hd hr dX12_feed_124
  · have hf := br_n c_2 hf
    refine lv_iconst (v := (-1)) hc.x hc.b dX12_feed_18 (by decide) ?_
    cases hf
    exact r_iret hc hd hr dX12_feed_19
theorem c_X12_feed (l : Launch) (D : va_G) (cs : Nat → ClassId) (B0 : Nat) (kt : (Nat → Nat) × (Nat → Nat)) (α : Nat → Nat → Nat) (Lv : Nat → Nat → Prop) (S : St) (g0 : Nat) (x1 : Int32) (x2 : Int32) (x3 : Int32) (x4 : Int32) (x5 : Int32) (hcl : Cl Lv) (hL0 : Lv 60 g0) {o : Int32 × St} (hf : f_X12_feed g0 x1 x2 x3 x4 x5 S = some o) : Met l yX12_feed (wz yX12_feed cX12_feed 8 (some .int)) (Rm 0 0 0) (Pz D cs B0 kt α Lv S [.ref (α 60 g0), .int x1, .int x2, .int x3, .int x4, .int x5]) (Qi D cs B0 α Lv o.1 o.2) 0 0 (AB B0) := met_of (by decide) rfl hcl (Nat.le_of_ble_eq_true rfl) (fun p e s m below meth c hc hr hd ls hl => b_X12_feed hc hr hL0 hf hd hl)
theorem my_X12_feed : MyV yX12_feed "PumpCrossingModel" cX12_feed 8 (some .int) 5 := ⟨tw_1470, tw_1471, tw_11, tw_1472, by decide +kernel⟩
def f_X12_isTray (x0 : Int32) (S : St) : Option (Int32) := on (f_X12_within (Int32.toInt64 x0) 0 3 S) (fun r_2 => ck (r_2 = 0 ∨ r_2 = 1) (some r_2))
set_option maxRecDepth 100000 in
set_option maxHeartbeats 4000000 in
theorem b_X12_isTray (hc : Cx p s m args meth c cX12_isTray 1 "PumpCrossingModel" D cs B0 kt Lv) (hr : meth.sig.returnType = some .boolean)  {o : Int32}  {S : St} {x0 : Int32}  {H : Heap} {locs : List Loc} {ls : Array Slot} (hf : f_X12_isTray x0 S = some o) (hd : Dy s D cs B0 α Lv S H locs) (hl : lv_has ls 1 [(0, .int x0)]) : W p l e (Rm 1 0 0) s m args below meth c H locs 0 0 (MQ below (Qi D cs B0 α Lv o S) args s 0 0 (AB B0)) (F0 m 0 ls []) := by
  unfold f_X12_isTray at hf
  refine lv_iload_n hc.x hc.b dX12_isTray_0 rfl (lv_at hl 0 rfl) ?_
  refine lv_i2l (v := Int32.toInt64 x0) hc.x hc.b dX12_isTray_1 rfl ?_
  refine lv_lconst (v := 0) hc.x hc.b dX12_isTray_2 (by decide) ?_
  refine lv_ldc2 (v := 3) hc.x hc.b hc.ow (hc.ts tw_1447) dX12_isTray_3 ?_
  obtain ⟨r_2, hq_1, hf⟩ := on_s hf
  refine k_i (k_runS hc hd my_X12_within tw_1444 (c_X12_within l D cs B0 kt α Lv S (Int32.toInt64 x0) 0 3 hc.cl   hq_1) rfl rfl hl.1 (Nat.le_of_ble_eq_true rfl) ⟨Nat.le_of_ble_eq_true rfl, Nat.le_of_ble_eq_true rfl, Nat.zero_le _, Nat.zero_le _⟩ dX12_isTray_6) hd (fun H locs hd => ?_)
  obtain ⟨hz, hf⟩ := ck_s hf
  cases hf
  exact r_zret hc hd hr hz dX12_isTray_9
theorem c_X12_isTray (l : Launch) (D : va_G) (cs : Nat → ClassId) (B0 : Nat) (kt : (Nat → Nat) × (Nat → Nat)) (α : Nat → Nat → Nat) (Lv : Nat → Nat → Prop) (S : St) (x0 : Int32) (hcl : Cl Lv)  {o : Int32} (hf : f_X12_isTray x0 S = some o) : Met l yX12_isTray (wz yX12_isTray cX12_isTray 1 (some .boolean)) (Rm 1 0 0) (Pz D cs B0 kt α Lv S [.int x0]) (Qi D cs B0 α Lv o S) 0 0 (AB B0) := met_of (by decide) rfl hcl (Nat.le_of_ble_eq_true rfl) (fun p e s m below meth c hc hr hd ls hl => b_X12_isTray hc hr  hf hd hl)
theorem my_X12_isTray : MyS yX12_isTray cX12_isTray 1 (some .boolean) 1 := ⟨tw_1827, tw_11, tw_1828, by decide +kernel⟩
def f_X12_layPaid_10 (g0 : Nat) (x1 : Int32) (x2 : Int32) (x3 : Int32) (K : St → Option (St)) : Nat → Int32 → St → Option (St)
  | 0, _, _ => none
  | n + 1, x4, S => br (x2 < x4) (K S) (ck (inb ((13 * x3) + x4) 377 = true) (bv (si S 77 g0 (nn ((13 * x3) + x4)) 0) (fun S_5 => bv (x4 + 1) (fun x4_6 => f_X12_layPaid_10 g0 x1 x2 x3 K n x4_6 S_5))))
def f_X12_layPaid_65 (g0 : Nat) (x1 : Int32) (x2 : Int32) (x4 : Int32) (x5 : Int32) (K : Int32 → St → Option (St)) : Nat → Int32 → Int32 → St → Option (St)
  | 0, _, _, _ => none
  | n + 1, x6, x7, S => br (x2 < x7) (K x6 S) (ck (inb ((28 * x1) + x4) 112 = true) (ck (inb (((13 * (x4 + 1)) + x7) - 1) 377 = true) (bv (((x7 - x5) * (Int64.toInt32 (gl S 80 g0 (nn ((28 * x1) + x4))))) + (gi S 77 g0 (nn (((13 * (x4 + 1)) + x7) - 1)))) (fun x8_15 => bv (fun (x6_16 : Int32) (S_17 : St) => bv (x7 + 1) (fun x7_19 => f_X12_layPaid_65 g0 x1 x2 x4 x5 K n x6_16 x7_19 S_17)) (fun J_18 => bv (fun  (S_20 : St) => J_18 x8_15 S_20) (fun J_21 => br (x6 = ((-1))) (J_21 S) (br (x6 ≤ x8_15) (J_18 x6 S) (J_21 S))))))))
def f_X12_layPaid_48 (g0 : Nat) (x1 : Int32) (x2 : Int32) (x4 : Int32) (K : St → Option (St)) : Nat → Int32 → St → Option (St)
  | 0, _, _ => none
  | n + 1, x5, S => br (x2 < x5) (K S) (bv (mxI 1 x5) (fun q_11 => f_X12_layPaid_65 g0 x1 x2 x4 x5 (fun (x6_24 : Int32) (S_25 : St) => ck (inb ((13 * x4) + x5) 377 = true) (bv (si S_25 77 g0 (nn ((13 * x4) + x5)) x6_24) (fun S_27 => bv (x5 + 1) (fun x5_28 => f_X12_layPaid_48 g0 x1 x2 x4 K n x5_28 S_27)))) FU ((-1)) q_11 S))
def f_X12_layPaid_40 (g0 : Nat) (x1 : Int32) (x2 : Int32) (K : St → Option (St)) : Nat → Int32 → St → Option (St)
  | 0, _, _ => none
  | n + 1, x4, S => br (x4 < 0) (K S) (f_X12_layPaid_48 g0 x1 x2 x4 (fun  (S_29 : St) => bv (x4 + (-1)) (fun x4_30 => f_X12_layPaid_40 g0 x1 x2 K n x4_30 S_29)) FU 0 S)
def f_X12_layPaid (g0 : Nat) (x1 : Int32) (x2 : Int32) (S : St) : Option (St) := ck (inb x1 4 = true) (bv (gi S 79 g0 (nn x1)) (fun x3_2 => f_X12_layPaid_10 g0 x1 x2 x3_2 (fun  (S_7 : St) => bv (x3_2 - 1) (fun x4_8 => f_X12_layPaid_40 g0 x1 x2 (fun  (S_31 : St) => some S_31) FU x4_8 S_7)) FU 0 S))
set_option maxRecDepth 100000 in
set_option maxHeartbeats 4000000 in
theorem w_X12_layPaid_10 (hc : Cx p s m args meth c cX12_layPaid 9 "PumpCrossingModel" D cs B0 kt Lv) (hr : meth.sig.returnType = none) {o : St}  {g0 : Nat} {x1 : Int32} {x2 : Int32} {x3 : Int32} {K : St → Option (St)} (hL0 : Lv 60 g0) (hK : ∀  (S : St) (H : Heap) (locs : List Loc) (ls : Array Slot), K S = some o → Dy s D cs B0 α Lv S H locs → lv_has ls 9 [(0, .ref (α 60 g0)), (1, .int x1), (2, .int x2), (3, .int x3)] → W p l e (Rm 2 0 0) s m args below meth c H locs 0 0 (MQ below (Qv D cs B0 α Lv o) args s 0 0 (AB B0)) (F0 m 35 ls [])) : ∀ (n : Nat) (x4 : Int32) (S : St) (H : Heap) (locs : List Loc) (ls : Array Slot), f_X12_layPaid_10 g0 x1 x2 x3 K n x4 S = some o → Dy s D cs B0 α Lv S H locs → lv_has ls 9 [(0, .ref (α 60 g0)), (1, .int x1), (2, .int x2), (3, .int x3), (4, .int x4)] → W p l e (Rm 2 0 0) s m args below meth c H locs 0 0 (MQ below (Qv D cs B0 α Lv o) args s 0 0 (AB B0)) (F0 m 10 ls []) := by
  intro n
  induction n with
  | zero =>
    intro x4 S H locs ls hf
    rw [f_X12_layPaid_10] at hf
    cases hf
  | succ n ih =>
    intro x4 S H locs ls hf hd hl
    rw [f_X12_layPaid_10] at hf
    refine lv_iload hc.x hc.b dX12_layPaid_10 (lv_at hl 4 rfl) ?_
    refine lv_iload_n hc.x hc.b dX12_layPaid_12 rfl (lv_at hl 2 rfl) ?_
    refine lv_icmp_gt (tgt := 35) hc.x hc.b dX12_layPaid_13 (by decide) (fun c_3 => ?_) (fun c_3 => ?_)
    · have hf := br_y c_3 hf
      exact hK S _ _ _ hf hd (lv_sub hl [0, 1, 2, 3] rfl)
    · have hf := br_n c_3 hf
      refine lv_aload_n hc.x hc.b dX12_layPaid_16 rfl (lv_at hl 0 rfl) ?_
      refine fg_60_36 hc hd hL0 tw_1345 dX12_layPaid_17 ?_
      refine lv_bipush (v := 13) hc.x hc.b dX12_layPaid_20 (by decide) ?_
      refine lv_iload_n hc.x hc.b dX12_layPaid_22 rfl (lv_at hl 3 rfl) ?_
      refine lv_imul hc.x hc.b dX12_layPaid_23 ?_
      refine lv_iload hc.x hc.b dX12_layPaid_24 (lv_at hl 4 rfl) ?_
      refine lv_iadd hc.x hc.b dX12_layPaid_26 ?_
      refine lv_iconst (v := 0) hc.x hc.b dX12_layPaid_27 (by decide) ?_
      obtain ⟨hi_4, hf⟩ := ck_s hf
      refine r_iast hc hd (cl_60_paid hc.cl hL0) (fun _ => rfl) hi_4 dX12_layPaid_28 (fun H locs hd => ?_)
      obtain ⟨S_5, hd, hf⟩ := nmD hd hf
      obtain ⟨x4_6, ex4_6⟩ : ∃ z : Int32, z = x4 + 1 := ⟨_, rfl⟩
      have hf := bv_n ex4_6 hf
      refine lv_iinc (v := x4_6) (lv' := [(4, .int x4_6), (0, .ref (α 60 g0)), (1, .int x1), (2, .int x2), (3, .int x3)]) hc.x hc.b dX12_layPaid_29 hl (k := 4) rfl (by rw [ex4_6]; rfl) (by decide) rfl (fun ls hl => ?_)
      refine lv_goto (tgt := 10) hc.x hc.b dX12_layPaid_32 (by decide) ?_
      exact ih x4_6 S_5 _ _ _ hf hd (lv_sub hl [1, 2, 3, 4, 0] rfl)
set_option maxRecDepth 100000 in
set_option maxHeartbeats 4000000 in
theorem w_X12_layPaid_65 (hc : Cx p s m args meth c cX12_layPaid 9 "PumpCrossingModel" D cs B0 kt Lv) (hr : meth.sig.returnType = none) {o : St}  {g0 : Nat} {x1 : Int32} {x2 : Int32} {x4 : Int32} {x5 : Int32} {K : Int32 → St → Option (St)} (hL0 : Lv 60 g0) (hK : ∀ (k6 : Int32) (S : St) (H : Heap) (locs : List Loc) (ls : Array Slot), K k6 S = some o → Dy s D cs B0 α Lv S H locs → lv_has ls 9 [(0, .ref (α 60 g0)), (1, .int x1), (2, .int x2), (4, .int x4), (5, .int x5), (6, .int k6)] → W p l e (Rm 2 0 0) s m args below meth c H locs 0 0 (MQ below (Qv D cs B0 α Lv o) args s 0 0 (AB B0)) (F0 m 133 ls [])) : ∀ (n : Nat) (x6 : Int32) (x7 : Int32) (S : St) (H : Heap) (locs : List Loc) (ls : Array Slot), f_X12_layPaid_65 g0 x1 x2 x4 x5 K n x6 x7 S = some o → Dy s D cs B0 α Lv S H locs → lv_has ls 9 [(0, .ref (α 60 g0)), (1, .int x1), (2, .int x2), (4, .int x4), (5, .int x5), (6, .int x6), (7, .int x7)] → W p l e (Rm 2 0 0) s m args below meth c H locs 0 0 (MQ below (Qv D cs B0 α Lv o) args s 0 0 (AB B0)) (F0 m 65 ls []) := by
  intro n
  induction n with
  | zero =>
    intro x6 x7 S H locs ls hf
    rw [f_X12_layPaid_65] at hf
    cases hf
  | succ n ih =>
    intro x6 x7 S H locs ls hf hd hl
    rw [f_X12_layPaid_65] at hf
    refine lv_iload hc.x hc.b dX12_layPaid_65 (lv_at hl 6 rfl) ?_
    refine lv_iload_n hc.x hc.b dX12_layPaid_67 rfl (lv_at hl 2 rfl) ?_
    refine lv_icmp_gt (tgt := 133) hc.x hc.b dX12_layPaid_68 (by decide) (fun c_12 => ?_) (fun c_12 => ?_)
    · have hf := br_y c_12 hf
      exact hK x6 S _ _ _ hf hd (lv_sub hl [0, 1, 2, 3, 4, 5] rfl)
    · have hf := br_n c_12 hf
      refine lv_iload hc.x hc.b dX12_layPaid_71 (lv_at hl 6 rfl) ?_
      refine lv_iload hc.x hc.b dX12_layPaid_73 (lv_at hl 4 rfl) ?_
      refine lv_isub hc.x hc.b dX12_layPaid_75 ?_
      refine lv_aload_n hc.x hc.b dX12_layPaid_76 rfl (lv_at hl 0 rfl) ?_
      refine fg_60_39 hc hd hL0 tw_1348 dX12_layPaid_77 ?_
      refine lv_bipush (v := 28) hc.x hc.b dX12_layPaid_80 (by decide) ?_
      refine lv_iload_n hc.x hc.b dX12_layPaid_82 rfl (lv_at hl 1 rfl) ?_
      refine lv_imul hc.x hc.b dX12_layPaid_83 ?_
      refine lv_iload hc.x hc.b dX12_layPaid_84 (lv_at hl 3 rfl) ?_
      refine lv_iadd hc.x hc.b dX12_layPaid_86 ?_
      obtain ⟨hi_13, hf⟩ := ck_s hf
      refine r_lald hc hd (cl_60_numbers hc.cl hL0) rfl hi_13 dX12_layPaid_87 ?_
      refine lv_l2i (v := Int64.toInt32 (gl S 80 g0 (nn ((28 * x1) + x4)))) hc.x hc.b dX12_layPaid_88 rfl ?_
      refine lv_imul hc.x hc.b dX12_layPaid_89 ?_
      refine lv_aload_n hc.x hc.b dX12_layPaid_90 rfl (lv_at hl 0 rfl) ?_
      refine fg_60_36 hc hd hL0 tw_1345 dX12_layPaid_91 ?_
      refine lv_bipush (v := 13) hc.x hc.b dX12_layPaid_94 (by decide) ?_
      refine lv_iload hc.x hc.b dX12_layPaid_96 (lv_at hl 3 rfl) ?_
      refine lv_iconst (v := 1) hc.x hc.b dX12_layPaid_98 (by decide) ?_
      refine lv_iadd hc.x hc.b dX12_layPaid_99 ?_
      refine lv_imul hc.x hc.b dX12_layPaid_100 ?_
      refine lv_iload hc.x hc.b dX12_layPaid_101 (lv_at hl 6 rfl) ?_
      refine lv_iadd hc.x hc.b dX12_layPaid_103 ?_
      refine lv_iconst (v := 1) hc.x hc.b dX12_layPaid_104 (by decide) ?_
      refine lv_isub hc.x hc.b dX12_layPaid_105 ?_
      obtain ⟨hi_14, hf⟩ := ck_s hf
      refine r_iald hc hd (cl_60_paid hc.cl hL0) rfl hi_14 dX12_layPaid_106 ?_
      refine lv_iadd hc.x hc.b dX12_layPaid_107 ?_
      refine lv_topi (fun x8_15 ex8_15 => ?_)
      have hf := bv_n ex8_15 hf
      refine lv_istore (lv' := [(8, .int x8_15), (0, .ref (α 60 g0)), (1, .int x1), (2, .int x2), (4, .int x4), (5, .int x5), (6, .int x6), (7, .int x7)]) hc.x hc.b dX12_layPaid_108 hl (by decide) rfl (fun ls hl => ?_)
      refine lv_iload hc.x hc.b dX12_layPaid_110 (lv_at hl 6 rfl) ?_
      refine lv_iconst (v := (-1)) hc.x hc.b dX12_layPaid_112 (by decide) ?_
      refine jn_s (P := fun J_18 => ∀ (x6_16 : Int32) (S_17 : St) (H : Heap) (locs : List Loc) (ls : Array Slot), J_18 x6_16 S_17 = some o → Dy s D cs B0 α Lv S_17 H locs → lv_has ls 9 [(0, .ref (α 60 g0)), (1, .int x1), (2, .int x2), (4, .int x4), (5, .int x5), (6, .int x6_16), (7, .int x7)] → W p l e (Rm 2 0 0) s m args below meth c H locs 0 0 (MQ below (Qv D cs B0 α Lv o) args s 0 0 (AB B0)) (F0 m 127 ls [])) hf ?_ (fun J_18 hJ_18 hf => ?_)
      · intro x6_16 S_17 H locs ls hf hd hl
        obtain ⟨x7_19, ex7_19⟩ : ∃ z : Int32, z = x7 + 1 := ⟨_, rfl⟩
        have hf := bv_n ex7_19 hf
        refine lv_iinc (v := x7_19) (lv' := [(7, .int x7_19), (0, .ref (α 60 g0)), (1, .int x1), (2, .int x2), (4, .int x4), (5, .int x5), (6, .int x6_16)]) hc.x hc.b dX12_layPaid_127 hl (k := 6) rfl (by rw [ex7_19]; rfl) (by decide) rfl (fun ls hl => ?_)
        refine lv_goto (tgt := 65) hc.x hc.b dX12_layPaid_130 (by decide) ?_
        exact ih x6_16 x7_19 S_17 _ _ _ hf hd (lv_sub hl [1, 2, 3, 4, 5, 6, 0] rfl)
      refine jn_s (P := fun J_21 => ∀  (S_20 : St) (H : Heap) (locs : List Loc) (ls : Array Slot), J_21 S_20 = some o → Dy s D cs B0 α Lv S_20 H locs → lv_has ls 9 [(0, .ref (α 60 g0)), (1, .int x1), (2, .int x2), (4, .int x4), (5, .int x5), (7, .int x7), (8, .int x8_15)] → W p l e (Rm 2 0 0) s m args below meth c H locs 0 0 (MQ below (Qv D cs B0 α Lv o) args s 0 0 (AB B0)) (F0 m 123 ls [])) hf ?_ (fun J_21 hJ_21 hf => ?_)
      · intro S_20 H locs ls hf hd hl
        refine lv_iload hc.x hc.b dX12_layPaid_123 (lv_at hl 6 rfl) ?_
        refine lv_istore (lv' := [(6, .int x8_15), (0, .ref (α 60 g0)), (1, .int x1), (2, .int x2), (4, .int x4), (5, .int x5), (7, .int x7), (8, .int x8_15)]) hc.x hc.b dX12_layPaid_125 hl (by decide) rfl (fun ls hl => ?_)
        exact hJ_18 x8_15 S_20 _ _ _ hf hd (lv_sub hl [1, 2, 3, 4, 5, 0, 6] rfl)
      refine lv_icmp_eq (tgt := 123) hc.x hc.b dX12_layPaid_113 (by decide) (fun c_22 => ?_) (fun c_22 => ?_)
      · have hf := br_y c_22 hf
        exact hJ_21 S _ _ _ hf hd (lv_sub hl [1, 2, 3, 4, 5, 7, 0] rfl)
      · have hf := br_n c_22 hf
        refine lv_iload hc.x hc.b dX12_layPaid_116 (lv_at hl 0 rfl) ?_
        refine lv_iload hc.x hc.b dX12_layPaid_118 (lv_at hl 6 rfl) ?_
        refine lv_icmp_ge (tgt := 127) hc.x hc.b dX12_layPaid_120 (by decide) (fun c_23 => ?_) (fun c_23 => ?_)
        · have hf := br_y c_23 hf
          exact hJ_18 x6 S _ _ _ hf hd (lv_sub hl [1, 2, 3, 4, 5, 6, 7] rfl)
        · have hf := br_n c_23 hf
          exact hJ_21 S _ _ _ hf hd (lv_sub hl [1, 2, 3, 4, 5, 7, 0] rfl)
set_option maxRecDepth 100000 in
set_option maxHeartbeats 4000000 in
theorem w_X12_layPaid_48 (hc : Cx p s m args meth c cX12_layPaid 9 "PumpCrossingModel" D cs B0 kt Lv) (hr : meth.sig.returnType = none) {o : St}  {g0 : Nat} {x1 : Int32} {x2 : Int32} {x4 : Int32} {K : St → Option (St)} (hL0 : Lv 60 g0) (hK : ∀  (S : St) (H : Heap) (locs : List Loc) (ls : Array Slot), K S = some o → Dy s D cs B0 α Lv S H locs → lv_has ls 9 [(0, .ref (α 60 g0)), (1, .int x1), (2, .int x2), (4, .int x4)] → W p l e (Rm 2 0 0) s m args below meth c H locs 0 0 (MQ below (Qv D cs B0 α Lv o) args s 0 0 (AB B0)) (F0 m 154 ls [])) : ∀ (n : Nat) (x5 : Int32) (S : St) (H : Heap) (locs : List Loc) (ls : Array Slot), f_X12_layPaid_48 g0 x1 x2 x4 K n x5 S = some o → Dy s D cs B0 α Lv S H locs → lv_has ls 9 [(0, .ref (α 60 g0)), (1, .int x1), (2, .int x2), (4, .int x4), (5, .int x5)] → W p l e (Rm 2 0 0) s m args below meth c H locs 0 0 (MQ below (Qv D cs B0 α Lv o) args s 0 0 (AB B0)) (F0 m 48 ls []) := by
  intro n
  induction n with
  | zero =>
    intro x5 S H locs ls hf
    rw [f_X12_layPaid_48] at hf
    cases hf
  | succ n ih =>
    intro x5 S H locs ls hf hd hl
    rw [f_X12_layPaid_48] at hf
    refine lv_iload hc.x hc.b dX12_layPaid_48 (lv_at hl 4 rfl) ?_
    refine lv_iload_n hc.x hc.b dX12_layPaid_50 rfl (lv_at hl 2 rfl) ?_
    refine lv_icmp_gt (tgt := 154) hc.x hc.b dX12_layPaid_51 (by decide) (fun c_10 => ?_) (fun c_10 => ?_)
    · have hf := br_y c_10 hf
      exact hK S _ _ _ hf hd (lv_sub hl [0, 1, 2, 3] rfl)
    · have hf := br_n c_10 hf
      refine lv_iconst (v := (-1)) hc.x hc.b dX12_layPaid_54 (by decide) ?_
      refine lv_istore (lv' := [(6, .int ((-1))), (0, .ref (α 60 g0)), (1, .int x1), (2, .int x2), (4, .int x4), (5, .int x5)]) hc.x hc.b dX12_layPaid_55 hl (by decide) rfl (fun ls hl => ?_)
      refine lv_iconst (v := 1) hc.x hc.b dX12_layPaid_57 (by decide) ?_
      refine lv_iload hc.x hc.b dX12_layPaid_58 (lv_at hl 5 rfl) ?_
      refine r_max hc hl.1 tw_1609 (Nat.le_of_ble_eq_true rfl) (Nat.le_of_ble_eq_true rfl) (Nat.zero_le _) (Nat.zero_le _) dX12_layPaid_60 ?_
      refine lv_topi (fun q_11 eq_11 => ?_)
      have hf := bv_n eq_11 hf
      refine lv_istore (lv' := [(7, .int q_11), (6, .int ((-1))), (0, .ref (α 60 g0)), (1, .int x1), (2, .int x2), (4, .int x4), (5, .int x5)]) hc.x hc.b dX12_layPaid_63 hl (by decide) rfl (fun ls hl => ?_)
      refine w_X12_layPaid_65 hc hr hL0 ?_ _ _ _ _ _ _ _ hf hd (lv_sub hl [2, 3, 4, 5, 6, 1, 0] rfl)
      intro x6_24 S_25 H locs ls hf hd hl
      refine lv_aload_n hc.x hc.b dX12_layPaid_133 rfl (lv_at hl 0 rfl) ?_
      refine fg_60_36 hc hd hL0 tw_1345 dX12_layPaid_134 ?_
      refine lv_bipush (v := 13) hc.x hc.b dX12_layPaid_137 (by decide) ?_
      refine lv_iload hc.x hc.b dX12_layPaid_139 (lv_at hl 3 rfl) ?_
      refine lv_imul hc.x hc.b dX12_layPaid_141 ?_
      refine lv_iload hc.x hc.b dX12_layPaid_142 (lv_at hl 4 rfl) ?_
      refine lv_iadd hc.x hc.b dX12_layPaid_144 ?_
      refine lv_iload hc.x hc.b dX12_layPaid_145 (lv_at hl 5 rfl) ?_
      obtain ⟨hi_26, hf⟩ := ck_s hf
      refine r_iast hc hd (cl_60_paid hc.cl hL0) (fun _ => rfl) hi_26 dX12_layPaid_147 (fun H locs hd => ?_)
      obtain ⟨S_27, hd, hf⟩ := nmD hd hf
      obtain ⟨x5_28, ex5_28⟩ : ∃ z : Int32, z = x5 + 1 := ⟨_, rfl⟩
      have hf := bv_n ex5_28 hf
      refine lv_iinc (v := x5_28) (lv' := [(5, .int x5_28), (0, .ref (α 60 g0)), (1, .int x1), (2, .int x2), (4, .int x4), (6, .int x6_24)]) hc.x hc.b dX12_layPaid_148 hl (k := 4) rfl (by rw [ex5_28]; rfl) (by decide) rfl (fun ls hl => ?_)
      refine lv_goto (tgt := 48) hc.x hc.b dX12_layPaid_151 (by decide) ?_
      exact ih x5_28 S_27 _ _ _ hf hd (lv_sub hl [1, 2, 3, 4, 0] rfl)
set_option maxRecDepth 100000 in
set_option maxHeartbeats 4000000 in
theorem w_X12_layPaid_40 (hc : Cx p s m args meth c cX12_layPaid 9 "PumpCrossingModel" D cs B0 kt Lv) (hr : meth.sig.returnType = none) {o : St}  {g0 : Nat} {x1 : Int32} {x2 : Int32} {K : St → Option (St)} (hL0 : Lv 60 g0) (hK : ∀  (S : St) (H : Heap) (locs : List Loc) (ls : Array Slot), K S = some o → Dy s D cs B0 α Lv S H locs → lv_has ls 9 [] → W p l e (Rm 2 0 0) s m args below meth c H locs 0 0 (MQ below (Qv D cs B0 α Lv o) args s 0 0 (AB B0)) (F0 m 160 ls [])) : ∀ (n : Nat) (x4 : Int32) (S : St) (H : Heap) (locs : List Loc) (ls : Array Slot), f_X12_layPaid_40 g0 x1 x2 K n x4 S = some o → Dy s D cs B0 α Lv S H locs → lv_has ls 9 [(0, .ref (α 60 g0)), (1, .int x1), (2, .int x2), (4, .int x4)] → W p l e (Rm 2 0 0) s m args below meth c H locs 0 0 (MQ below (Qv D cs B0 α Lv o) args s 0 0 (AB B0)) (F0 m 40 ls []) := by
  intro n
  induction n with
  | zero =>
    intro x4 S H locs ls hf
    rw [f_X12_layPaid_40] at hf
    cases hf
  | succ n ih =>
    intro x4 S H locs ls hf hd hl
    rw [f_X12_layPaid_40] at hf
    refine lv_iload hc.x hc.b dX12_layPaid_40 (lv_at hl 3 rfl) ?_
    refine lv_if_lt (tgt := 160) hc.x hc.b dX12_layPaid_42 (by decide) (fun c_9 => ?_) (fun c_9 => ?_)
    · have hf := br_y c_9 hf
      exact hK S _ _ _ hf hd (lv_sub hl [] rfl)
    · have hf := br_n c_9 hf
      refine lv_iconst (v := 0) hc.x hc.b dX12_layPaid_45 (by decide) ?_
      refine lv_istore (lv' := [(5, .int 0), (0, .ref (α 60 g0)), (1, .int x1), (2, .int x2), (4, .int x4)]) hc.x hc.b dX12_layPaid_46 hl (by decide) rfl (fun ls hl => ?_)
      refine w_X12_layPaid_48 hc hr hL0 ?_ _ _ _ _ _ _ hf hd (lv_sub hl [1, 2, 3, 4, 0] rfl)
      intro S_29 H locs ls hf hd hl
      obtain ⟨x4_30, ex4_30⟩ : ∃ z : Int32, z = x4 + (-1) := ⟨_, rfl⟩
      have hf := bv_n ex4_30 hf
      refine lv_iinc (v := x4_30) (lv' := [(4, .int x4_30), (0, .ref (α 60 g0)), (1, .int x1), (2, .int x2)]) hc.x hc.b dX12_layPaid_154 hl (k := 3) rfl (by rw [ex4_30]; rfl) (by decide) rfl (fun ls hl => ?_)
      refine lv_goto (tgt := 40) hc.x hc.b dX12_layPaid_157 (by decide) ?_
      exact ih x4_30 S_29 _ _ _ hf hd (lv_sub hl [1, 2, 3, 0] rfl)
set_option maxRecDepth 100000 in
set_option maxHeartbeats 4000000 in
theorem b_X12_layPaid (hc : Cx p s m args meth c cX12_layPaid 9 "PumpCrossingModel" D cs B0 kt Lv) (hr : meth.sig.returnType = none)  {o : St}  {S : St} {g0 : Nat} {x1 : Int32} {x2 : Int32} (hL0 : Lv 60 g0) {H : Heap} {locs : List Loc} {ls : Array Slot} (hf : f_X12_layPaid g0 x1 x2 S = some o) (hd : Dy s D cs B0 α Lv S H locs) (hl : lv_has ls 9 [(0, .ref (α 60 g0)), (1, .int x1), (2, .int x2)]) : W p l e (Rm 2 0 0) s m args below meth c H locs 0 0 (MQ below (Qv D cs B0 α Lv o) args s 0 0 (AB B0)) (F0 m 0 ls []) := by
  unfold f_X12_layPaid at hf
  refine lv_aload_n hc.x hc.b dX12_layPaid_0 rfl (lv_at hl 0 rfl) ?_
  refine fg_60_38 hc hd hL0 tw_1347 dX12_layPaid_1 ?_
  refine lv_iload_n hc.x hc.b dX12_layPaid_4 rfl (lv_at hl 1 rfl) ?_
  obtain ⟨hi_1, hf⟩ := ck_s hf
  refine r_iald hc hd (cl_60_tMany hc.cl hL0) rfl hi_1 dX12_layPaid_5 ?_
  refine lv_topi (fun x3_2 ex3_2 => ?_)
  have hf := bv_n ex3_2 hf
  refine lv_istore_n (lv' := [(3, .int x3_2), (0, .ref (α 60 g0)), (1, .int x1), (2, .int x2)]) hc.x hc.b dX12_layPaid_6 rfl hl (by decide) rfl (fun ls hl => ?_)
  refine lv_iconst (v := 0) hc.x hc.b dX12_layPaid_7 (by decide) ?_
  refine lv_istore (lv' := [(4, .int 0), (3, .int x3_2), (0, .ref (α 60 g0)), (1, .int x1), (2, .int x2)]) hc.x hc.b dX12_layPaid_8 hl (by decide) rfl (fun ls hl => ?_)
  refine w_X12_layPaid_10 hc hr hL0 ?_ _ _ _ _ _ _ hf hd (lv_sub hl [2, 3, 4, 1, 0] rfl)
  intro S_7 H locs ls hf hd hl
  refine lv_iload_n hc.x hc.b dX12_layPaid_35 rfl (lv_at hl 3 rfl) ?_
  refine lv_iconst (v := 1) hc.x hc.b dX12_layPaid_36 (by decide) ?_
  refine lv_isub hc.x hc.b dX12_layPaid_37 ?_
  refine lv_topi (fun x4_8 ex4_8 => ?_)
  have hf := bv_n ex4_8 hf
  refine lv_istore (lv' := [(4, .int x4_8), (0, .ref (α 60 g0)), (1, .int x1), (2, .int x2), (3, .int x3_2)]) hc.x hc.b dX12_layPaid_38 hl (by decide) rfl (fun ls hl => ?_)
  refine w_X12_layPaid_40 hc hr hL0 ?_ _ _ _ _ _ _ hf hd (lv_sub hl [1, 2, 3, 0] rfl)
  intro S_31 H locs ls hf hd hl
  cases hf
  exact r_vret hc hd hr dX12_layPaid_160
theorem c_X12_layPaid (l : Launch) (D : va_G) (cs : Nat → ClassId) (B0 : Nat) (kt : (Nat → Nat) × (Nat → Nat)) (α : Nat → Nat → Nat) (Lv : Nat → Nat → Prop) (S : St) (g0 : Nat) (x1 : Int32) (x2 : Int32) (hcl : Cl Lv) (hL0 : Lv 60 g0) {o : St} (hf : f_X12_layPaid g0 x1 x2 S = some o) : Met l yX12_layPaid (wz yX12_layPaid cX12_layPaid 9 none) (Rm 2 0 0) (Pz D cs B0 kt α Lv S [.ref (α 60 g0), .int x1, .int x2]) (Qv D cs B0 α Lv o) 0 0 (AB B0) := met_of (by decide) rfl hcl (Nat.le_of_ble_eq_true rfl) (fun p e s m below meth c hc hr hd ls hl => b_X12_layPaid hc hr hL0 hf hd hl)
theorem my_X12_layPaid : MyV yX12_layPaid "PumpCrossingModel" cX12_layPaid 9 none 2 := ⟨tw_1848, (in_sel 90 (by decide +kernel) (by decide +kernel)), tw_11, tw_1849, by decide +kernel⟩
def f_X12_fill_75 (g0 : Nat) (x1 : Int32) (x2 : Int32) (x3 : Int32) (x4 : Int32) (K : St → Option (Int32 × St)) : Nat → Int32 → St → Option (Int32 × St)
  | 0, _, _ => none
  | n + 1, x5, S => ck (inb x1 4 = true) (br ((gi S 79 g0 (nn x1)) ≤ x5) (K S) (ck (inb ((28 * x1) + x5) 112 = true) (on (f_X12_within (gl S 80 g0 (nn ((28 * x1) + x5))) 0 99 S) (fun r_24 => br (r_24 = 0) (on2 (f_X12_fails g0 3 S) (fun r_29 S_28 => some (r_29, S_28))) (bv (x5 + 1) (fun x5_26 => f_X12_fill_75 g0 x1 x2 x3 x4 K n x5_26 S))))))
def f_X12_fill_174 (g0 : Nat) (x1 : Int32) (x4 : Int32) (x5 : Int32) (x6 : Int32) (K : Int32 → St → Option (Int32 × St)) : Nat → Int32 → St → Option (Int32 × St)
  | 0, _, _ => none
  | n + 1, x7, S => ck (inb ((28 * x1) + x6) 112 = true) (ck (inb (((13 * (x6 + 1)) + x7) - 1) 377 = true) (ck (inb ((13 * x6) + x5) 377 = true) (br ((((x7 - x5) * (Int64.toInt32 (gl S 80 g0 (nn ((28 * x1) + x6))))) + (gi S 77 g0 (nn (((13 * (x6 + 1)) + x7) - 1)))) = (gi S 77 g0 (nn ((13 * x6) + x5)))) (K x7 S) (bv (x7 + 1) (fun x7_43 => f_X12_fill_174 g0 x1 x4 x5 x6 K n x7_43 S)))))
def f_X12_fill_166 (g0 : Nat) (x1 : Int32) (x4 : Int32) : Nat → Int32 → Int32 → St → Option (Int32 × St)
  | 0, _, _, _ => none
  | n + 1, x5, x6, S => bv (mxI 1 x5) (fun q_38 => f_X12_fill_174 g0 x1 x4 x5 x6 (fun (x7_44 : Int32) (S_45 : St) => br (x6 = x4) (some (x7_44 - x5, S_45)) (bv (x7_44 - 1) (fun x5_47 => bv (x6 + 1) (fun x6_48 => f_X12_fill_166 g0 x1 x4 n x5_47 x6_48 S_45)))) FU q_38 S)
def f_X12_fill (g0 : Nat) (x1 : Int32) (x2 : Int32) (x3 : Int32) (x4 : Int32) (S : St) : Option (Int32 × St) := bv (si S 60 g0 5 0) (fun S_1 => on (f_X12_isTray x1 S_1) (fun r_3 => br (r_3 = 0) (on2 (f_X12_fails g0 1 S_1) (fun r_55 S_54 => some (r_55, S_54))) (ck (inb x1 4 = true) (br ((gi S_1 78 g0 (nn x1)) = ((-1))) (on2 (f_X12_fails g0 2 S_1) (fun r_52 S_51 => some (r_52, S_51))) (on (f_X12_within (Int32.toInt64 x2) 1 12 S_1) (fun r_8 => bv (fun  (S_9 : St) => on2 (f_X12_fails g0 3 S_9) (fun r_13 S_12 => some (r_13, S_12))) (fun J_10 => br (r_8 = 0) (J_10 S_1) (on (f_X12_within (Int32.toInt64 x3) 0 (Int32.toInt64 x2) S_1) (fun r_16 => br (r_16 = 0) (J_10 S_1) (ck (inb x1 4 = true) (br ((gi S_1 79 g0 (nn x1)) = 0) (J_10 S_1) (f_X12_fill_75 g0 x1 x2 x3 x4 (fun  (S_30 : St) => on (f_X12_layPaid g0 x1 x2 S_30) (fun S_32 => br (x4 = ((-1))) (ck (inb x3 377 = true) (some (gi S_32 77 g0 (nn x3), S_32))) (ck (inb x1 4 = true) (on (f_X12_within (Int32.toInt64 x4) 0 (Int32.toInt64 ((gi S_32 79 g0 (nn x1)) - 1)) S_32) (fun r_36 => br (r_36 = 0) (some ((-1), S_32)) (f_X12_fill_166 g0 x1 x4 FU x3 0 S_32)))))) FU 0 S_1))))))))))))
set_option maxRecDepth 100000 in
set_option maxHeartbeats 4000000 in
theorem w_X12_fill_75 (hc : Cx p s m args meth c cX12_fill 8 "PumpCrossingModel" D cs B0 kt Lv) (hr : meth.sig.returnType = some .int) {o : Int32 × St}  {g0 : Nat} {x1 : Int32} {x2 : Int32} {x3 : Int32} {x4 : Int32} {K : St → Option (Int32 × St)} (hL0 : Lv 60 g0) (hK : ∀  (S : St) (H : Heap) (locs : List Loc) (ls : Array Slot), K S = some o → Dy s D cs B0 α Lv S H locs → lv_has ls 8 [(0, .ref (α 60 g0)), (1, .int x1), (2, .int x2), (3, .int x3), (4, .int x4)] → W p l e (Rm 3 0 0) s m args below meth c H locs 0 0 (MQ below (Qi D cs B0 α Lv o.1 o.2) args s 0 0 (AB B0)) (F0 m 120 ls [])) : ∀ (n : Nat) (x5 : Int32) (S : St) (H : Heap) (locs : List Loc) (ls : Array Slot), f_X12_fill_75 g0 x1 x2 x3 x4 K n x5 S = some o → Dy s D cs B0 α Lv S H locs → lv_has ls 8 [(0, .ref (α 60 g0)), (1, .int x1), (2, .int x2), (3, .int x3), (4, .int x4), (5, .int x5)] → W p l e (Rm 3 0 0) s m args below meth c H locs 0 0 (MQ below (Qi D cs B0 α Lv o.1 o.2) args s 0 0 (AB B0)) (F0 m 75 ls []) := by
  intro n
  induction n with
  | zero =>
    intro x5 S H locs ls hf
    rw [f_X12_fill_75] at hf
    cases hf
  | succ n ih =>
    intro x5 S H locs ls hf hd hl
    rw [f_X12_fill_75] at hf
    refine lv_iload hc.x hc.b dX12_fill_75 (lv_at hl 5 rfl) ?_
    refine lv_aload_n hc.x hc.b dX12_fill_77 rfl (lv_at hl 0 rfl) ?_
    refine fg_60_38 hc hd hL0 tw_1347 dX12_fill_78 ?_
    refine lv_iload_n hc.x hc.b dX12_fill_81 rfl (lv_at hl 1 rfl) ?_
    obtain ⟨hi_20, hf⟩ := ck_s hf
    refine r_iald hc hd (cl_60_tMany hc.cl hL0) rfl hi_20 dX12_fill_82 ?_
    refine lv_icmp_ge (tgt := 120) hc.x hc.b dX12_fill_83 (by decide) (fun c_21 => ?_) (fun c_21 => ?_)
    · have hf := br_y c_21 hf
      exact hK S _ _ _ hf hd (lv_sub hl [0, 1, 2, 3, 4] rfl)
    · have hf := br_n c_21 hf
      refine lv_aload_n hc.x hc.b dX12_fill_86 rfl (lv_at hl 0 rfl) ?_
      refine fg_60_39 hc hd hL0 tw_1348 dX12_fill_87 ?_
      refine lv_bipush (v := 28) hc.x hc.b dX12_fill_90 (by decide) ?_
      refine lv_iload_n hc.x hc.b dX12_fill_92 rfl (lv_at hl 1 rfl) ?_
      refine lv_imul hc.x hc.b dX12_fill_93 ?_
      refine lv_iload hc.x hc.b dX12_fill_94 (lv_at hl 5 rfl) ?_
      refine lv_iadd hc.x hc.b dX12_fill_96 ?_
      obtain ⟨hi_22, hf⟩ := ck_s hf
      refine r_lald hc hd (cl_60_numbers hc.cl hL0) rfl hi_22 dX12_fill_97 ?_
      refine lv_lconst (v := 0) hc.x hc.b dX12_fill_98 (by decide) ?_
      refine lv_ldc2 (v := 99) hc.x hc.b hc.ow (hc.ts tw_1443) dX12_fill_99 ?_
      obtain ⟨r_24, hq_23, hf⟩ := on_s hf
      refine k_i (k_runS hc hd my_X12_within tw_1444 (c_X12_within l D cs B0 kt α Lv S (gl S 80 g0 (nn ((28 * x1) + x5))) 0 99 hc.cl   hq_23) rfl rfl hl.1 (Nat.le_of_ble_eq_true rfl) ⟨Nat.le_of_ble_eq_true rfl, Nat.le_of_ble_eq_true rfl, Nat.zero_le _, Nat.zero_le _⟩ dX12_fill_102) hd (fun H locs hd => ?_)
      refine lv_if_ne (tgt := 114) hc.x hc.b dX12_fill_105 (by decide) (fun c_25 => ?_) (fun c_25 => ?_)
      · have hf := br_n c_25 hf
        obtain ⟨x5_26, ex5_26⟩ : ∃ z : Int32, z = x5 + 1 := ⟨_, rfl⟩
        have hf := bv_n ex5_26 hf
        refine lv_iinc (v := x5_26) (lv' := [(5, .int x5_26), (0, .ref (α 60 g0)), (1, .int x1), (2, .int x2), (3, .int x3), (4, .int x4)]) hc.x hc.b dX12_fill_114 hl (k := 5) rfl (by rw [ex5_26]; rfl) (by decide) rfl (fun ls hl => ?_)
        refine lv_goto (tgt := 75) hc.x hc.b dX12_fill_117 (by decide) ?_
        exact ih x5_26 S _ _ _ hf hd (lv_sub hl [1, 2, 3, 4, 5, 0] rfl)
      · have hf := br_y c_25 hf
        refine lv_aload_n hc.x hc.b dX12_fill_108 rfl (lv_at hl 0 rfl) ?_
        refine lv_iconst (v := 3) hc.x hc.b dX12_fill_109 (by decide) ?_
        obtain ⟨r_29, S_28, hq_27, hf⟩ := on2_s hf
        refine k_i (k_runV hc hd my_X12_fails tw_1439 hL0 rfl rfl rfl (c_X12_fails l D cs B0 kt α Lv S g0 3 hc.cl hL0  hq_27) rfl rfl hl.1 (Nat.le_of_ble_eq_true rfl) ⟨Nat.le_of_ble_eq_true rfl, Nat.le_of_ble_eq_true rfl, Nat.zero_le _, Nat.zero_le _⟩ dX12_fill_110) hd (fun H locs hd => ?_)
        cases hf
        exact r_iret hc hd hr dX12_fill_113
set_option maxRecDepth 100000 in
set_option maxHeartbeats 4000000 in
theorem w_X12_fill_174 (hc : Cx p s m args meth c cX12_fill 8 "PumpCrossingModel" D cs B0 kt Lv) (hr : meth.sig.returnType = some .int) {o : Int32 × St}  {g0 : Nat} {x1 : Int32} {x4 : Int32} {x5 : Int32} {x6 : Int32} {K : Int32 → St → Option (Int32 × St)} (hL0 : Lv 60 g0) (hK : ∀ (k7 : Int32) (S : St) (H : Heap) (locs : List Loc) (ls : Array Slot), K k7 S = some o → Dy s D cs B0 α Lv S H locs → lv_has ls 8 [(0, .ref (α 60 g0)), (1, .int x1), (4, .int x4), (5, .int x5), (6, .int x6), (7, .int k7)] → W p l e (Rm 3 0 0) s m args below meth c H locs 0 0 (MQ below (Qi D cs B0 α Lv o.1 o.2) args s 0 0 (AB B0)) (F0 m 233 ls [])) : ∀ (n : Nat) (x7 : Int32) (S : St) (H : Heap) (locs : List Loc) (ls : Array Slot), f_X12_fill_174 g0 x1 x4 x5 x6 K n x7 S = some o → Dy s D cs B0 α Lv S H locs → lv_has ls 8 [(0, .ref (α 60 g0)), (1, .int x1), (4, .int x4), (5, .int x5), (6, .int x6), (7, .int x7)] → W p l e (Rm 3 0 0) s m args below meth c H locs 0 0 (MQ below (Qi D cs B0 α Lv o.1 o.2) args s 0 0 (AB B0)) (F0 m 174 ls []) := by
  intro n
  induction n with
  | zero =>
    intro x7 S H locs ls hf
    rw [f_X12_fill_174] at hf
    cases hf
  | succ n ih =>
    intro x7 S H locs ls hf hd hl
    rw [f_X12_fill_174] at hf
    refine lv_iload hc.x hc.b dX12_fill_174 (lv_at hl 5 rfl) ?_
    refine lv_iload hc.x hc.b dX12_fill_176 (lv_at hl 3 rfl) ?_
    refine lv_isub hc.x hc.b dX12_fill_178 ?_
    refine lv_aload_n hc.x hc.b dX12_fill_179 rfl (lv_at hl 0 rfl) ?_
    refine fg_60_39 hc hd hL0 tw_1348 dX12_fill_180 ?_
    refine lv_bipush (v := 28) hc.x hc.b dX12_fill_183 (by decide) ?_
    refine lv_iload_n hc.x hc.b dX12_fill_185 rfl (lv_at hl 1 rfl) ?_
    refine lv_imul hc.x hc.b dX12_fill_186 ?_
    refine lv_iload hc.x hc.b dX12_fill_187 (lv_at hl 4 rfl) ?_
    refine lv_iadd hc.x hc.b dX12_fill_189 ?_
    obtain ⟨hi_39, hf⟩ := ck_s hf
    refine r_lald hc hd (cl_60_numbers hc.cl hL0) rfl hi_39 dX12_fill_190 ?_
    refine lv_l2i (v := Int64.toInt32 (gl S 80 g0 (nn ((28 * x1) + x6)))) hc.x hc.b dX12_fill_191 rfl ?_
    refine lv_imul hc.x hc.b dX12_fill_192 ?_
    refine lv_aload_n hc.x hc.b dX12_fill_193 rfl (lv_at hl 0 rfl) ?_
    refine fg_60_36 hc hd hL0 tw_1345 dX12_fill_194 ?_
    refine lv_bipush (v := 13) hc.x hc.b dX12_fill_197 (by decide) ?_
    refine lv_iload hc.x hc.b dX12_fill_199 (lv_at hl 4 rfl) ?_
    refine lv_iconst (v := 1) hc.x hc.b dX12_fill_201 (by decide) ?_
    refine lv_iadd hc.x hc.b dX12_fill_202 ?_
    refine lv_imul hc.x hc.b dX12_fill_203 ?_
    refine lv_iload hc.x hc.b dX12_fill_204 (lv_at hl 5 rfl) ?_
    refine lv_iadd hc.x hc.b dX12_fill_206 ?_
    refine lv_iconst (v := 1) hc.x hc.b dX12_fill_207 (by decide) ?_
    refine lv_isub hc.x hc.b dX12_fill_208 ?_
    obtain ⟨hi_40, hf⟩ := ck_s hf
    refine r_iald hc hd (cl_60_paid hc.cl hL0) rfl hi_40 dX12_fill_209 ?_
    refine lv_iadd hc.x hc.b dX12_fill_210 ?_
    refine lv_aload_n hc.x hc.b dX12_fill_211 rfl (lv_at hl 0 rfl) ?_
    refine fg_60_36 hc hd hL0 tw_1345 dX12_fill_212 ?_
    refine lv_bipush (v := 13) hc.x hc.b dX12_fill_215 (by decide) ?_
    refine lv_iload hc.x hc.b dX12_fill_217 (lv_at hl 4 rfl) ?_
    refine lv_imul hc.x hc.b dX12_fill_219 ?_
    refine lv_iload hc.x hc.b dX12_fill_220 (lv_at hl 3 rfl) ?_
    refine lv_iadd hc.x hc.b dX12_fill_222 ?_
    obtain ⟨hi_41, hf⟩ := ck_s hf
    refine r_iald hc hd (cl_60_paid hc.cl hL0) rfl hi_41 dX12_fill_223 ?_
    refine lv_icmp_eq (tgt := 233) hc.x hc.b dX12_fill_224 (by decide) (fun c_42 => ?_) (fun c_42 => ?_)
    · have hf := br_y c_42 hf
      exact hK x7 S _ _ _ hf hd (lv_sub hl [0, 1, 2, 3, 4, 5] rfl)
    · have hf := br_n c_42 hf
      obtain ⟨x7_43, ex7_43⟩ : ∃ z : Int32, z = x7 + 1 := ⟨_, rfl⟩
      have hf := bv_n ex7_43 hf
      refine lv_iinc (v := x7_43) (lv' := [(7, .int x7_43), (0, .ref (α 60 g0)), (1, .int x1), (4, .int x4), (5, .int x5), (6, .int x6)]) hc.x hc.b dX12_fill_227 hl (k := 5) rfl (by rw [ex7_43]; rfl) (by decide) rfl (fun ls hl => ?_)
      refine lv_goto (tgt := 174) hc.x hc.b dX12_fill_230 (by decide) ?_
      exact ih x7_43 S _ _ _ hf hd (lv_sub hl [1, 2, 3, 4, 5, 0] rfl)
set_option maxRecDepth 100000 in
set_option maxHeartbeats 4000000 in
theorem w_X12_fill_166 (hc : Cx p s m args meth c cX12_fill 8 "PumpCrossingModel" D cs B0 kt Lv) (hr : meth.sig.returnType = some .int) {o : Int32 × St}  {g0 : Nat} {x1 : Int32} {x4 : Int32} (hL0 : Lv 60 g0) : ∀ (n : Nat) (x5 : Int32) (x6 : Int32) (S : St) (H : Heap) (locs : List Loc) (ls : Array Slot), f_X12_fill_166 g0 x1 x4 n x5 x6 S = some o → Dy s D cs B0 α Lv S H locs → lv_has ls 8 [(0, .ref (α 60 g0)), (1, .int x1), (4, .int x4), (5, .int x5), (6, .int x6)] → W p l e (Rm 3 0 0) s m args below meth c H locs 0 0 (MQ below (Qi D cs B0 α Lv o.1 o.2) args s 0 0 (AB B0)) (F0 m 166 ls []) := by
  intro n
  induction n with
  | zero =>
    intro x5 x6 S H locs ls hf
    rw [f_X12_fill_166] at hf
    cases hf
  | succ n ih =>
    intro x5 x6 S H locs ls hf hd hl
    rw [f_X12_fill_166] at hf
    refine lv_iconst (v := 1) hc.x hc.b dX12_fill_166 (by decide) ?_
    refine lv_iload hc.x hc.b dX12_fill_167 (lv_at hl 3 rfl) ?_
    refine r_max hc hl.1 tw_1609 (Nat.le_of_ble_eq_true rfl) (Nat.le_of_ble_eq_true rfl) (Nat.zero_le _) (Nat.zero_le _) dX12_fill_169 ?_
    refine lv_topi (fun q_38 eq_38 => ?_)
    have hf := bv_n eq_38 hf
    refine lv_istore (lv' := [(7, .int q_38), (0, .ref (α 60 g0)), (1, .int x1), (4, .int x4), (5, .int x5), (6, .int x6)]) hc.x hc.b dX12_fill_172 hl (by decide) rfl (fun ls hl => ?_)
    refine w_X12_fill_174 hc hr hL0 ?_ _ _ _ _ _ _ hf hd (lv_sub hl [1, 2, 3, 4, 5, 0] rfl)
    intro x7_44 S_45 H locs ls hf hd hl
    refine lv_iload hc.x hc.b dX12_fill_233 (lv_at hl 4 rfl) ?_
    refine lv_iload hc.x hc.b dX12_fill_235 (lv_at hl 2 rfl) ?_
    refine lv_icmp_ne (tgt := 246) hc.x hc.b dX12_fill_237 (by decide) (fun c_46 => ?_) (fun c_46 => ?_)
    · have hf := br_n c_46 hf
      refine lv_iload hc.x hc.b dX12_fill_246 (lv_at hl 5 rfl) ?_
      refine lv_iconst (v := 1) hc.x hc.b dX12_fill_248 (by decide) ?_
      refine lv_isub hc.x hc.b dX12_fill_249 ?_
      refine lv_topi (fun x5_47 ex5_47 => ?_)
      have hf := bv_n ex5_47 hf
      refine lv_istore (lv' := [(5, .int x5_47), (0, .ref (α 60 g0)), (1, .int x1), (4, .int x4), (6, .int x6), (7, .int x7_44)]) hc.x hc.b dX12_fill_250 hl (by decide) rfl (fun ls hl => ?_)
      obtain ⟨x6_48, ex6_48⟩ : ∃ z : Int32, z = x6 + 1 := ⟨_, rfl⟩
      have hf := bv_n ex6_48 hf
      refine lv_iinc (v := x6_48) (lv' := [(6, .int x6_48), (5, .int x5_47), (0, .ref (α 60 g0)), (1, .int x1), (4, .int x4), (7, .int x7_44)]) hc.x hc.b dX12_fill_252 hl (k := 4) rfl (by rw [ex6_48]; rfl) (by decide) rfl (fun ls hl => ?_)
      refine lv_goto (tgt := 166) hc.x hc.b dX12_fill_255 (by decide) ?_
      exact ih x5_47 x6_48 S_45 _ _ _ hf hd (lv_sub hl [2, 3, 4, 1, 0] rfl)
    · have hf := br_y c_46 hf
      refine lv_iload hc.x hc.b dX12_fill_240 (lv_at hl 5 rfl) ?_
      refine lv_iload hc.x hc.b dX12_fill_242 (lv_at hl 3 rfl) ?_
      refine lv_isub hc.x hc.b dX12_fill_244 ?_
      cases hf
      exact r_iret hc hd hr dX12_fill_245
set_option maxRecDepth 100000 in
set_option maxHeartbeats 4000000 in
theorem b_X12_fill (hc : Cx p s m args meth c cX12_fill 8 "PumpCrossingModel" D cs B0 kt Lv) (hr : meth.sig.returnType = some .int)  {o : Int32 × St}  {S : St} {g0 : Nat} {x1 : Int32} {x2 : Int32} {x3 : Int32} {x4 : Int32} (hL0 : Lv 60 g0) {H : Heap} {locs : List Loc} {ls : Array Slot} (hf : f_X12_fill g0 x1 x2 x3 x4 S = some o) (hd : Dy s D cs B0 α Lv S H locs) (hl : lv_has ls 8 [(0, .ref (α 60 g0)), (1, .int x1), (2, .int x2), (3, .int x3), (4, .int x4)]) : W p l e (Rm 3 0 0) s m args below meth c H locs 0 0 (MQ below (Qi D cs B0 α Lv o.1 o.2) args s 0 0 (AB B0)) (F0 m 0 ls []) := by
  unfold f_X12_fill at hf
  refine lv_aload_n hc.x hc.b dX12_fill_0 rfl (lv_at hl 0 rfl) ?_
  refine lv_iconst (v := 0) hc.x hc.b dX12_fill_1 (by decide) ?_
  refine fp_60_5 hc hd hL0 tw_1314 dX12_fill_2 (fun H locs hd => ?_)
  obtain ⟨S_1, hd, hf⟩ := nmD hd hf
  refine lv_iload_n hc.x hc.b dX12_fill_5 rfl (lv_at hl 1 rfl) ?_
  obtain ⟨r_3, hq_2, hf⟩ := on_s hf
  refine k_i (k_runS hc hd my_X12_isTray tw_1826 (c_X12_isTray l D cs B0 kt α Lv S_1 x1 hc.cl   hq_2) rfl rfl hl.1 (Nat.le_of_ble_eq_true rfl) ⟨Nat.le_of_ble_eq_true rfl, Nat.le_of_ble_eq_true rfl, Nat.zero_le _, Nat.zero_le _⟩ dX12_fill_6) hd (fun H locs hd => ?_)
  refine lv_if_ne (tgt := 18) hc.x hc.b dX12_fill_9 (by decide) (fun c_4 => ?_) (fun c_4 => ?_)
  · have hf := br_n c_4 hf
    refine lv_aload_n hc.x hc.b dX12_fill_18 rfl (lv_at hl 0 rfl) ?_
    refine fg_60_37 hc hd hL0 tw_1346 dX12_fill_19 ?_
    refine lv_iload_n hc.x hc.b dX12_fill_22 rfl (lv_at hl 1 rfl) ?_
    obtain ⟨hi_5, hf⟩ := ck_s hf
    refine r_iald hc hd (cl_60_tSort hc.cl hL0) rfl hi_5 dX12_fill_23 ?_
    refine lv_iconst (v := (-1)) hc.x hc.b dX12_fill_24 (by decide) ?_
    refine lv_icmp_ne (tgt := 34) hc.x hc.b dX12_fill_25 (by decide) (fun c_6 => ?_) (fun c_6 => ?_)
    · have hf := br_n c_6 hf
      refine lv_iload_n hc.x hc.b dX12_fill_34 rfl (lv_at hl 2 rfl) ?_
      refine lv_i2l (v := Int32.toInt64 x2) hc.x hc.b dX12_fill_35 rfl ?_
      refine lv_lconst (v := 1) hc.x hc.b dX12_fill_36 (by decide) ?_
      refine lv_ldc2 (v := 12) hc.x hc.b hc.ow (hc.ts tw_1845) dX12_fill_37 ?_
      obtain ⟨r_8, hq_7, hf⟩ := on_s hf
      refine k_i (k_runS hc hd my_X12_within tw_1444 (c_X12_within l D cs B0 kt α Lv S_1 (Int32.toInt64 x2) 1 12 hc.cl   hq_7) rfl rfl hl.1 (Nat.le_of_ble_eq_true rfl) ⟨Nat.le_of_ble_eq_true rfl, Nat.le_of_ble_eq_true rfl, Nat.zero_le _, Nat.zero_le _⟩ dX12_fill_40) hd (fun H locs hd => ?_)
      refine jn_s (P := fun J_10 => ∀  (S_9 : St) (H : Heap) (locs : List Loc) (ls : Array Slot), J_10 S_9 = some o → Dy s D cs B0 α Lv S_9 H locs → lv_has ls 8 [(0, .ref (α 60 g0))] → W p l e (Rm 3 0 0) s m args below meth c H locs 0 0 (MQ below (Qi D cs B0 α Lv o.1 o.2) args s 0 0 (AB B0)) (F0 m 66 ls [])) hf ?_ (fun J_10 hJ_10 hf => ?_)
      · intro S_9 H locs ls hf hd hl
        refine lv_aload_n hc.x hc.b dX12_fill_66 rfl (lv_at hl 0 rfl) ?_
        refine lv_iconst (v := 3) hc.x hc.b dX12_fill_67 (by decide) ?_
        obtain ⟨r_13, S_12, hq_11, hf⟩ := on2_s hf
        refine k_i (k_runV hc hd my_X12_fails tw_1439 hL0 rfl rfl rfl (c_X12_fails l D cs B0 kt α Lv S_9 g0 3 hc.cl hL0  hq_11) rfl rfl hl.1 (Nat.le_of_ble_eq_true rfl) ⟨Nat.le_of_ble_eq_true rfl, Nat.le_of_ble_eq_true rfl, Nat.zero_le _, Nat.zero_le _⟩ dX12_fill_68) hd (fun H locs hd => ?_)
        cases hf
        exact r_iret hc hd hr dX12_fill_71
      refine lv_if_eq (tgt := 66) hc.x hc.b dX12_fill_43 (by decide) (fun c_14 => ?_) (fun c_14 => ?_)
      · have hf := br_y c_14 hf
        exact hJ_10 S_1 _ _ _ hf hd (lv_sub hl [0] rfl)
      · have hf := br_n c_14 hf
        refine lv_iload_n hc.x hc.b dX12_fill_46 rfl (lv_at hl 3 rfl) ?_
        refine lv_i2l (v := Int32.toInt64 x3) hc.x hc.b dX12_fill_47 rfl ?_
        refine lv_lconst (v := 0) hc.x hc.b dX12_fill_48 (by decide) ?_
        refine lv_iload_n hc.x hc.b dX12_fill_49 rfl (lv_at hl 2 rfl) ?_
        refine lv_i2l (v := Int32.toInt64 x2) hc.x hc.b dX12_fill_50 rfl ?_
        obtain ⟨r_16, hq_15, hf⟩ := on_s hf
        refine k_i (k_runS hc hd my_X12_within tw_1444 (c_X12_within l D cs B0 kt α Lv S_1 (Int32.toInt64 x3) 0 (Int32.toInt64 x2) hc.cl   hq_15) rfl rfl hl.1 (Nat.le_of_ble_eq_true rfl) ⟨Nat.le_of_ble_eq_true rfl, Nat.le_of_ble_eq_true rfl, Nat.zero_le _, Nat.zero_le _⟩ dX12_fill_51) hd (fun H locs hd => ?_)
        refine lv_if_eq (tgt := 66) hc.x hc.b dX12_fill_54 (by decide) (fun c_17 => ?_) (fun c_17 => ?_)
        · have hf := br_y c_17 hf
          exact hJ_10 S_1 _ _ _ hf hd (lv_sub hl [0] rfl)
        · have hf := br_n c_17 hf
          refine lv_aload_n hc.x hc.b dX12_fill_57 rfl (lv_at hl 0 rfl) ?_
          refine fg_60_38 hc hd hL0 tw_1347 dX12_fill_58 ?_
          refine lv_iload_n hc.x hc.b dX12_fill_61 rfl (lv_at hl 1 rfl) ?_
          obtain ⟨hi_18, hf⟩ := ck_s hf
          refine r_iald hc hd (cl_60_tMany hc.cl hL0) rfl hi_18 dX12_fill_62 ?_
          refine lv_if_ne (tgt := 72) hc.x hc.b dX12_fill_63 (by decide) (fun c_19 => ?_) (fun c_19 => ?_)
          · have hf := br_n c_19 hf
            refine lv_iconst (v := 0) hc.x hc.b dX12_fill_72 (by decide) ?_
            refine lv_istore (lv' := [(5, .int 0), (0, .ref (α 60 g0)), (1, .int x1), (2, .int x2), (3, .int x3), (4, .int x4)]) hc.x hc.b dX12_fill_73 hl (by decide) rfl (fun ls hl => ?_)
            refine w_X12_fill_75 hc hr hL0 ?_ _ _ _ _ _ _ hf hd (lv_sub hl [1, 2, 3, 4, 5, 0] rfl)
            intro S_30 H locs ls hf hd hl
            refine lv_aload_n hc.x hc.b dX12_fill_120 rfl (lv_at hl 0 rfl) ?_
            refine lv_iload_n hc.x hc.b dX12_fill_121 rfl (lv_at hl 1 rfl) ?_
            refine lv_iload_n hc.x hc.b dX12_fill_122 rfl (lv_at hl 2 rfl) ?_
            obtain ⟨S_32, hq_31, hf⟩ := on_s hf
            refine k_v (k_runV hc hd my_X12_layPaid tw_1846 hL0 rfl rfl rfl (c_X12_layPaid l D cs B0 kt α Lv S_30 g0 x1 x2 hc.cl hL0  hq_31) rfl rfl hl.1 (Nat.le_of_ble_eq_true rfl) ⟨Nat.le_of_ble_eq_true rfl, Nat.le_of_ble_eq_true rfl, Nat.zero_le _, Nat.zero_le _⟩ dX12_fill_123) hd (fun H locs hd => ?_)
            refine lv_iload hc.x hc.b dX12_fill_126 (lv_at hl 4 rfl) ?_
            refine lv_iconst (v := (-1)) hc.x hc.b dX12_fill_128 (by decide) ?_
            refine lv_icmp_ne (tgt := 139) hc.x hc.b dX12_fill_129 (by decide) (fun c_33 => ?_) (fun c_33 => ?_)
            · have hf := br_n c_33 hf
              refine lv_iload hc.x hc.b dX12_fill_139 (lv_at hl 4 rfl) ?_
              refine lv_i2l (v := Int32.toInt64 x4) hc.x hc.b dX12_fill_141 rfl ?_
              refine lv_lconst (v := 0) hc.x hc.b dX12_fill_142 (by decide) ?_
              refine lv_aload_n hc.x hc.b dX12_fill_143 rfl (lv_at hl 0 rfl) ?_
              refine fg_60_38 hc hd hL0 tw_1347 dX12_fill_144 ?_
              refine lv_iload_n hc.x hc.b dX12_fill_147 rfl (lv_at hl 1 rfl) ?_
              obtain ⟨hi_34, hf⟩ := ck_s hf
              refine r_iald hc hd (cl_60_tMany hc.cl hL0) rfl hi_34 dX12_fill_148 ?_
              refine lv_iconst (v := 1) hc.x hc.b dX12_fill_149 (by decide) ?_
              refine lv_isub hc.x hc.b dX12_fill_150 ?_
              refine lv_i2l (v := Int32.toInt64 ((gi S_32 79 g0 (nn x1)) - 1)) hc.x hc.b dX12_fill_151 rfl ?_
              obtain ⟨r_36, hq_35, hf⟩ := on_s hf
              refine k_i (k_runS hc hd my_X12_within tw_1444 (c_X12_within l D cs B0 kt α Lv S_32 (Int32.toInt64 x4) 0 (Int32.toInt64 ((gi S_32 79 g0 (nn x1)) - 1)) hc.cl   hq_35) rfl rfl hl.1 (Nat.le_of_ble_eq_true rfl) ⟨Nat.le_of_ble_eq_true rfl, Nat.le_of_ble_eq_true rfl, Nat.zero_le _, Nat.zero_le _⟩ dX12_fill_152) hd (fun H locs hd => ?_)
              refine lv_if_ne (tgt := 160) hc.x hc.b dX12_fill_155 (by decide) (fun c_37 => ?_) (fun c_37 => ?_)
              · have hf := br_n c_37 hf
                refine lv_iload_n hc.x hc.b dX12_fill_160 rfl (lv_at hl 3 rfl) ?_
                refine lv_istore (lv' := [(5, .int x3), (0, .ref (α 60 g0)), (1, .int x1), (2, .int x2), (3, .int x3), (4, .int x4)]) hc.x hc.b dX12_fill_161 hl (by decide) rfl (fun ls hl => ?_)
                refine lv_iconst (v := 0) hc.x hc.b dX12_fill_163 (by decide) ?_
                refine lv_istore (lv' := [(6, .int 0), (5, .int x3), (0, .ref (α 60 g0)), (1, .int x1), (2, .int x2), (3, .int x3), (4, .int x4)]) hc.x hc.b dX12_fill_164 hl (by decide) rfl (fun ls hl => ?_)
                exact w_X12_fill_166 hc hr hL0 _ _ _ _ _ _ _ hf hd (lv_sub hl [2, 3, 6, 1, 0] rfl)
              · have hf := br_y c_37 hf
                refine lv_iconst (v := (-1)) hc.x hc.b dX12_fill_158 (by decide) ?_
                cases hf
                exact r_iret hc hd hr dX12_fill_159
            · have hf := br_y c_33 hf
              refine lv_aload_n hc.x hc.b dX12_fill_132 rfl (lv_at hl 0 rfl) ?_
              refine fg_60_36 hc hd hL0 tw_1345 dX12_fill_133 ?_
              refine lv_iload_n hc.x hc.b dX12_fill_136 rfl (lv_at hl 3 rfl) ?_
              obtain ⟨hi_49, hf⟩ := ck_s hf
              refine r_iald hc hd (cl_60_paid hc.cl hL0) rfl hi_49 dX12_fill_137 ?_
              cases hf
              exact r_iret hc hd hr dX12_fill_138
          · have hf := br_y c_19 hf
            exact hJ_10 S_1 _ _ _ hf hd (lv_sub hl [0] rfl)
    · have hf := br_y c_6 hf
      refine lv_aload_n hc.x hc.b dX12_fill_28 rfl (lv_at hl 0 rfl) ?_
      refine lv_iconst (v := 2) hc.x hc.b dX12_fill_29 (by decide) ?_
      obtain ⟨r_52, S_51, hq_50, hf⟩ := on2_s hf
      refine k_i (k_runV hc hd my_X12_fails tw_1439 hL0 rfl rfl rfl (c_X12_fails l D cs B0 kt α Lv S_1 g0 2 hc.cl hL0  hq_50) rfl rfl hl.1 (Nat.le_of_ble_eq_true rfl) ⟨Nat.le_of_ble_eq_true rfl, Nat.le_of_ble_eq_true rfl, Nat.zero_le _, Nat.zero_le _⟩ dX12_fill_30) hd (fun H locs hd => ?_)
      cases hf
      exact r_iret hc hd hr dX12_fill_33
  · have hf := br_y c_4 hf
    refine lv_aload_n hc.x hc.b dX12_fill_12 rfl (lv_at hl 0 rfl) ?_
    refine lv_iconst (v := 1) hc.x hc.b dX12_fill_13 (by decide) ?_
    obtain ⟨r_55, S_54, hq_53, hf⟩ := on2_s hf
    refine k_i (k_runV hc hd my_X12_fails tw_1439 hL0 rfl rfl rfl (c_X12_fails l D cs B0 kt α Lv S_1 g0 1 hc.cl hL0  hq_53) rfl rfl hl.1 (Nat.le_of_ble_eq_true rfl) ⟨Nat.le_of_ble_eq_true rfl, Nat.le_of_ble_eq_true rfl, Nat.zero_le _, Nat.zero_le _⟩ dX12_fill_14) hd (fun H locs hd => ?_)
    cases hf
    exact r_iret hc hd hr dX12_fill_17
theorem c_X12_fill (l : Launch) (D : va_G) (cs : Nat → ClassId) (B0 : Nat) (kt : (Nat → Nat) × (Nat → Nat)) (α : Nat → Nat → Nat) (Lv : Nat → Nat → Prop) (S : St) (g0 : Nat) (x1 : Int32) (x2 : Int32) (x3 : Int32) (x4 : Int32) (hcl : Cl Lv) (hL0 : Lv 60 g0) {o : Int32 × St} (hf : f_X12_fill g0 x1 x2 x3 x4 S = some o) : Met l yX12_fill (wz yX12_fill cX12_fill 8 (some .int)) (Rm 3 0 0) (Pz D cs B0 kt α Lv S [.ref (α 60 g0), .int x1, .int x2, .int x3, .int x4]) (Qi D cs B0 α Lv o.1 o.2) 0 0 (AB B0) := met_of (by decide) rfl hcl (Nat.le_of_ble_eq_true rfl) (fun p e s m below meth c hc hr hd ls hl => b_X12_fill hc hr hL0 hf hd hl)
theorem my_X12_fill : MyV yX12_fill "PumpCrossingModel" cX12_fill 8 (some .int) 4 := ⟨tw_1842, tw_1843, tw_11, tw_1844, by decide +kernel⟩
def f_X12_fills (g0 : Nat) (x1 : Int32) (S : St) : Option (Int32 × St) := bv (si S 60 g0 5 0) (fun S_1 => ck (inb 1 3179 = true) (on (f_X12_within (Int32.toInt64 x1) 0 (Int32.toInt64 ((gi S_1 61 g0 (nn 1)) - 1)) S_1) (fun r_4 => br (r_4 = 0) (on2 (f_X12_fails g0 1 S_1) (fun r_12 S_11 => some (r_12, S_11))) (on (f_X12_present g0 S_1) (fun S_7 => on (f_X12_where g0 x1 S_7) (fun r_9 => some (r_9, S_7)))))))
set_option maxRecDepth 100000 in
set_option maxHeartbeats 4000000 in
theorem b_X12_fills (hc : Cx p s m args meth c cX12_fills 2 "PumpCrossingModel" D cs B0 kt Lv) (hr : meth.sig.returnType = some .int)  {o : Int32 × St}  {S : St} {g0 : Nat} {x1 : Int32} (hL0 : Lv 60 g0) {H : Heap} {locs : List Loc} {ls : Array Slot} (hf : f_X12_fills g0 x1 S = some o) (hd : Dy s D cs B0 α Lv S H locs) (hl : lv_has ls 2 [(0, .ref (α 60 g0)), (1, .int x1)]) : W p l e (Rm 1 0 0) s m args below meth c H locs 0 0 (MQ below (Qi D cs B0 α Lv o.1 o.2) args s 0 0 (AB B0)) (F0 m 0 ls []) := by
  unfold f_X12_fills at hf
  refine lv_aload_n hc.x hc.b dX12_fills_0 rfl (lv_at hl 0 rfl) ?_
  refine lv_iconst (v := 0) hc.x hc.b dX12_fills_1 (by decide) ?_
  refine fp_60_5 hc hd hL0 tw_1314 dX12_fills_2 (fun H locs hd => ?_)
  obtain ⟨S_1, hd, hf⟩ := nmD hd hf
  refine lv_iload_n hc.x hc.b dX12_fills_5 rfl (lv_at hl 1 rfl) ?_
  refine lv_i2l (v := Int32.toInt64 x1) hc.x hc.b dX12_fills_6 rfl ?_
  refine lv_lconst (v := 0) hc.x hc.b dX12_fills_7 (by decide) ?_
  refine lv_aload_n hc.x hc.b dX12_fills_8 rfl (lv_at hl 0 rfl) ?_
  refine fg_60_0 hc hd hL0 tw_1309 dX12_fills_9 ?_
  refine lv_iconst (v := 1) hc.x hc.b dX12_fills_12 (by decide) ?_
  obtain ⟨hi_2, hf⟩ := ck_s hf
  refine r_iald hc hd (cl_60_told hc.cl hL0) rfl hi_2 dX12_fills_13 ?_
  refine lv_iconst (v := 1) hc.x hc.b dX12_fills_14 (by decide) ?_
  refine lv_isub hc.x hc.b dX12_fills_15 ?_
  refine lv_i2l (v := Int32.toInt64 ((gi S_1 61 g0 (nn 1)) - 1)) hc.x hc.b dX12_fills_16 rfl ?_
  obtain ⟨r_4, hq_3, hf⟩ := on_s hf
  refine k_i (k_runS hc hd my_X12_within tw_1444 (c_X12_within l D cs B0 kt α Lv S_1 (Int32.toInt64 x1) 0 (Int32.toInt64 ((gi S_1 61 g0 (nn 1)) - 1)) hc.cl   hq_3) rfl rfl hl.1 (Nat.le_of_ble_eq_true rfl) ⟨Nat.le_of_ble_eq_true rfl, Nat.le_of_ble_eq_true rfl, Nat.zero_le _, Nat.zero_le _⟩ dX12_fills_17) hd (fun H locs hd => ?_)
  refine lv_if_ne (tgt := 29) hc.x hc.b dX12_fills_20 (by decide) (fun c_5 => ?_) (fun c_5 => ?_)
  · have hf := br_n c_5 hf
    refine lv_aload_n hc.x hc.b dX12_fills_29 rfl (lv_at hl 0 rfl) ?_
    obtain ⟨S_7, hq_6, hf⟩ := on_s hf
    refine k_v (k_runV hc hd my_X12_present tw_1637 hL0 rfl rfl rfl (c_X12_present l D cs B0 kt α Lv S_1 g0 hc.cl hL0  hq_6) rfl rfl hl.1 (Nat.le_of_ble_eq_true rfl) ⟨Nat.le_of_ble_eq_true rfl, Nat.le_of_ble_eq_true rfl, Nat.zero_le _, Nat.zero_le _⟩ dX12_fills_30) hd (fun H locs hd => ?_)
    refine lv_aload_n hc.x hc.b dX12_fills_33 rfl (lv_at hl 0 rfl) ?_
    refine lv_iload_n hc.x hc.b dX12_fills_34 rfl (lv_at hl 1 rfl) ?_
    obtain ⟨r_9, hq_8, hf⟩ := on_s hf
    refine k_i (k_runV hc hd my_X12_where tw_1641 hL0 rfl rfl rfl (c_X12_where l D cs B0 kt α Lv S_7 g0 x1 hc.cl hL0  hq_8) rfl rfl hl.1 (Nat.le_of_ble_eq_true rfl) ⟨Nat.le_of_ble_eq_true rfl, Nat.le_of_ble_eq_true rfl, Nat.zero_le _, Nat.zero_le _⟩ dX12_fills_35) hd (fun H locs hd => ?_)
    cases hf
    exact r_iret hc hd hr dX12_fills_38
  · have hf := br_y c_5 hf
    refine lv_aload_n hc.x hc.b dX12_fills_23 rfl (lv_at hl 0 rfl) ?_
    refine lv_iconst (v := 1) hc.x hc.b dX12_fills_24 (by decide) ?_
    obtain ⟨r_12, S_11, hq_10, hf⟩ := on2_s hf
    refine k_i (k_runV hc hd my_X12_fails tw_1439 hL0 rfl rfl rfl (c_X12_fails l D cs B0 kt α Lv S_1 g0 1 hc.cl hL0  hq_10) rfl rfl hl.1 (Nat.le_of_ble_eq_true rfl) ⟨Nat.le_of_ble_eq_true rfl, Nat.le_of_ble_eq_true rfl, Nat.zero_le _, Nat.zero_le _⟩ dX12_fills_25) hd (fun H locs hd => ?_)
    cases hf
    exact r_iret hc hd hr dX12_fills_28
theorem c_X12_fills (l : Launch) (D : va_G) (cs : Nat → ClassId) (B0 : Nat) (kt : (Nat → Nat) × (Nat → Nat)) (α : Nat → Nat → Nat) (Lv : Nat → Nat → Prop) (S : St) (g0 : Nat) (x1 : Int32) (hcl : Cl Lv) (hL0 : Lv 60 g0) {o : Int32 × St} (hf : f_X12_fills g0 x1 S = some o) : Met l yX12_fills (wz yX12_fills cX12_fills 2 (some .int)) (Rm 1 0 0) (Pz D cs B0 kt α Lv S [.ref (α 60 g0), .int x1]) (Qi D cs B0 α Lv o.1 o.2) 0 0 (AB B0) := met_of (by decide) rfl hcl (Nat.le_of_ble_eq_true rfl) (fun p e s m below meth c hc hr hd ls hl => b_X12_fills hc hr hL0 hf hd hl)
theorem my_X12_fills : MyV yX12_fills "PumpCrossingModel" cX12_fills 2 (some .int) 1 := ⟨tw_1671, tw_1672, tw_11, tw_1673, by decide +kernel⟩
def f_X12_seen (g0 : Nat) (x1 : Int32) (x2 : Int32) (S : St) : Option (Int32) := br ((gi S 60 g0 23) = 0) (bv (fun (v_2 : Int32) => some v_2) (fun J_3 => br (0 ≤ x2) (bv (rmI x2 256) (fun q_5 => ck (inb ((1885 + (4 * q_5)) + x1) 3179 = true) (J_3 (gi S 61 g0 (nn ((1885 + (4 * q_5)) + x1)))))) (ck (inb (20 + x1) 3179 = true) (J_3 (gi S 61 g0 (nn (20 + x1))))))) (bv (mxI 0 x2) (fun q_8 => ck (inb ((2909 + (4 * q_8)) + x1) 3179 = true) (some (gi S 61 g0 (nn ((2909 + (4 * q_8)) + x1))))))
set_option maxRecDepth 100000 in
set_option maxHeartbeats 4000000 in
theorem b_X12_seen (hc : Cx p s m args meth c cX12_seen 3 "PumpCrossingModel" D cs B0 kt Lv) (hr : meth.sig.returnType = some .int)  {o : Int32}  {S : St} {g0 : Nat} {x1 : Int32} {x2 : Int32} (hL0 : Lv 60 g0) {H : Heap} {locs : List Loc} {ls : Array Slot} (hf : f_X12_seen g0 x1 x2 S = some o) (hd : Dy s D cs B0 α Lv S H locs) (hl : lv_has ls 3 [(0, .ref (α 60 g0)), (1, .int x1), (2, .int x2)]) : W p l e (Rm 2 0 0) s m args below meth c H locs 0 0 (MQ below (Qi D cs B0 α Lv o S) args s 0 0 (AB B0)) (F0 m 0 ls []) := by
  unfold f_X12_seen at hf
  refine lv_aload_n hc.x hc.b dX12_seen_0 rfl (lv_at hl 0 rfl) ?_
  refine fg_60_23 hc hd hL0 tw_1332 dX12_seen_1 ?_
  refine lv_if_eq (tgt := 26) hc.x hc.b dX12_seen_4 (by decide) (fun c_1 => ?_) (fun c_1 => ?_)
  · have hf := br_y c_1 hf
    refine lv_iload_n hc.x hc.b dX12_seen_26 rfl (lv_at hl 2 rfl) ?_
    refine jn_s (P := fun J_3 => ∀ (v_2 : Int32) (H : Heap) (locs : List Loc) (ls : Array Slot), J_3 v_2 = some o → Dy s D cs B0 α Lv S H locs → lv_has ls 3 [] → W p l e (Rm 2 0 0) s m args below meth c H locs 0 0 (MQ below (Qi D cs B0 α Lv o S) args s 0 0 (AB B0)) (F0 m 60 ls [.int v_2])) hf ?_ (fun J_3 hJ_3 hf => ?_)
    · intro v_2 H locs ls hf hd hl
      cases hf
      exact r_iret hc hd hr dX12_seen_60
    refine lv_if_ge (tgt := 42) hc.x hc.b dX12_seen_27 (by decide) (fun c_4 => ?_) (fun c_4 => ?_)
    · have hf := br_y c_4 hf
      refine lv_aload_n hc.x hc.b dX12_seen_42 rfl (lv_at hl 0 rfl) ?_
      refine fg_60_0 hc hd hL0 tw_1309 dX12_seen_43 ?_
      refine lv_sipush (v := 1885) hc.x hc.b dX12_seen_46 (by decide) ?_
      refine lv_iconst (v := 4) hc.x hc.b dX12_seen_49 (by decide) ?_
      refine lv_iload_n hc.x hc.b dX12_seen_50 rfl (lv_at hl 2 rfl) ?_
      refine lv_sipush (v := 256) hc.x hc.b dX12_seen_51 (by decide) ?_
      refine lv_irem hc.x hc.b dX12_seen_54 (by decide) ?_
      refine lv_topi (fun q_5 eq_5 => ?_)
      have hf := bv_n eq_5 hf
      refine lv_imul hc.x hc.b dX12_seen_55 ?_
      refine lv_iadd hc.x hc.b dX12_seen_56 ?_
      refine lv_iload_n hc.x hc.b dX12_seen_57 rfl (lv_at hl 1 rfl) ?_
      refine lv_iadd hc.x hc.b dX12_seen_58 ?_
      obtain ⟨hi_6, hf⟩ := ck_s hf
      refine r_iald hc hd (cl_60_told hc.cl hL0) rfl hi_6 dX12_seen_59 ?_
      exact hJ_3 (gi S 61 g0 (nn ((1885 + (4 * q_5)) + x1))) _ _ _ hf hd (lv_sub hl [] rfl)
    · have hf := br_n c_4 hf
      refine lv_aload_n hc.x hc.b dX12_seen_30 rfl (lv_at hl 0 rfl) ?_
      refine fg_60_0 hc hd hL0 tw_1309 dX12_seen_31 ?_
      refine lv_bipush (v := 20) hc.x hc.b dX12_seen_34 (by decide) ?_
      refine lv_iload_n hc.x hc.b dX12_seen_36 rfl (lv_at hl 1 rfl) ?_
      refine lv_iadd hc.x hc.b dX12_seen_37 ?_
      obtain ⟨hi_7, hf⟩ := ck_s hf
      refine r_iald hc hd (cl_60_told hc.cl hL0) rfl hi_7 dX12_seen_38 ?_
      refine lv_goto (tgt := 60) hc.x hc.b dX12_seen_39 (by decide) ?_
      exact hJ_3 (gi S 61 g0 (nn (20 + x1))) _ _ _ hf hd (lv_sub hl [] rfl)
  · have hf := br_n c_1 hf
    refine lv_aload_n hc.x hc.b dX12_seen_7 rfl (lv_at hl 0 rfl) ?_
    refine fg_60_0 hc hd hL0 tw_1309 dX12_seen_8 ?_
    refine lv_sipush (v := 2909) hc.x hc.b dX12_seen_11 (by decide) ?_
    refine lv_iconst (v := 4) hc.x hc.b dX12_seen_14 (by decide) ?_
    refine lv_iconst (v := 0) hc.x hc.b dX12_seen_15 (by decide) ?_
    refine lv_iload_n hc.x hc.b dX12_seen_16 rfl (lv_at hl 2 rfl) ?_
    refine r_max hc hl.1 tw_1609 (Nat.le_of_ble_eq_true rfl) (Nat.le_of_ble_eq_true rfl) (Nat.zero_le _) (Nat.zero_le _) dX12_seen_17 ?_
    refine lv_topi (fun q_8 eq_8 => ?_)
    have hf := bv_n eq_8 hf
    refine lv_imul hc.x hc.b dX12_seen_20 ?_
    refine lv_iadd hc.x hc.b dX12_seen_21 ?_
    refine lv_iload_n hc.x hc.b dX12_seen_22 rfl (lv_at hl 1 rfl) ?_
    refine lv_iadd hc.x hc.b dX12_seen_23 ?_
    obtain ⟨hi_9, hf⟩ := ck_s hf
    refine r_iald hc hd (cl_60_told hc.cl hL0) rfl hi_9 dX12_seen_24 ?_
    cases hf
    exact r_iret hc hd hr dX12_seen_25
theorem c_X12_seen (l : Launch) (D : va_G) (cs : Nat → ClassId) (B0 : Nat) (kt : (Nat → Nat) × (Nat → Nat)) (α : Nat → Nat → Nat) (Lv : Nat → Nat → Prop) (S : St) (g0 : Nat) (x1 : Int32) (x2 : Int32) (hcl : Cl Lv) (hL0 : Lv 60 g0) {o : Int32} (hf : f_X12_seen g0 x1 x2 S = some o) : Met l yX12_seen (wz yX12_seen cX12_seen 3 (some .int)) (Rm 2 0 0) (Pz D cs B0 kt α Lv S [.ref (α 60 g0), .int x1, .int x2]) (Qi D cs B0 α Lv o S) 0 0 (AB B0) := met_of (by decide) rfl hcl (Nat.le_of_ble_eq_true rfl) (fun p e s m below meth c hc hr hd ls hl => b_X12_seen hc hr hL0 hf hd hl)
theorem my_X12_seen : MyV yX12_seen "PumpCrossingModel" cX12_seen 3 (some .int) 2 := ⟨tw_1607, (in_sel 58 (by decide +kernel) (by decide +kernel)), tw_11, tw_1608, by decide +kernel⟩
def f_X12_sinceAt_24 (g0 : Nat) (x1 : Int32) (x2 : Int32) (S : St) (K : Int32 → Option (Int32)) : Nat → Int32 → Int32 → Option (Int32)
  | 0, _, _ => none
  | n + 1, x3, x4 => br (x2 ≤ x4) (K x3) (br ((gi S 60 g0 23) = 0) (K x3) (on (f_X12_seen g0 x1 x4 S) (fun r_6 => on (f_X12_seen g0 x1 (x4 - 1) S) (fun r_8 => bv (fun (x3_9 : Int32) => bv (x4 + 1) (fun x4_11 => f_X12_sinceAt_24 g0 x1 x2 S K n x3_9 x4_11)) (fun J_10 => br (r_6 = r_8) (J_10 x3) (J_10 x4))))))
def f_X12_sinceAt (g0 : Nat) (x1 : Int32) (x2 : Int32) (S : St) : Option (Int32) := bv (fun (v_1 : Int32) => f_X12_sinceAt_24 g0 x1 x2 S (fun (x3_13 : Int32) => bv (fun (v_14 : Int32) => bv (mnI 99 v_14) (fun q_16 => some q_16)) (fun J_15 => br (x3_13 = ((-1))) (J_15 (x2 + 1)) (J_15 (x2 - x3_13)))) FU v_1 1) (fun J_2 => br ((gi S 60 g0 23) = 0) (ck (inb (24 + x1) 3179 = true) (J_2 (gi S 61 g0 (nn (24 + x1))))) (J_2 ((-1))))
set_option maxRecDepth 100000 in
set_option maxHeartbeats 4000000 in
theorem w_X12_sinceAt_24 (hc : Cx p s m args meth c cX12_sinceAt 5 "PumpCrossingModel" D cs B0 kt Lv) (hr : meth.sig.returnType = some .int) {o : Int32}  {g0 : Nat} {x1 : Int32} {x2 : Int32} {S : St} {K : Int32 → Option (Int32)} (hL0 : Lv 60 g0) (hK : ∀ (k3 : Int32) (H : Heap) (locs : List Loc) (ls : Array Slot), K k3 = some o → Dy s D cs B0 α Lv S H locs → lv_has ls 5 [(2, .int x2), (3, .int k3)] → W p l e (Rm 3 0 0) s m args below meth c H locs 0 0 (MQ below (Qi D cs B0 α Lv o S) args s 0 0 (AB B0)) (F0 m 65 ls [])) : ∀ (n : Nat) (x3 : Int32) (x4 : Int32) (H : Heap) (locs : List Loc) (ls : Array Slot), f_X12_sinceAt_24 g0 x1 x2 S K n x3 x4 = some o → Dy s D cs B0 α Lv S H locs → lv_has ls 5 [(0, .ref (α 60 g0)), (1, .int x1), (2, .int x2), (3, .int x3), (4, .int x4)] → W p l e (Rm 3 0 0) s m args below meth c H locs 0 0 (MQ below (Qi D cs B0 α Lv o S) args s 0 0 (AB B0)) (F0 m 24 ls []) := by
  intro n
  induction n with
  | zero =>
    intro x3 x4 H locs ls hf
    rw [f_X12_sinceAt_24] at hf
    cases hf
  | succ n ih =>
    intro x3 x4 H locs ls hf hd hl
    rw [f_X12_sinceAt_24] at hf
    refine lv_iload hc.x hc.b dX12_sinceAt_24 (lv_at hl 4 rfl) ?_
    refine lv_iload_n hc.x hc.b dX12_sinceAt_26 rfl (lv_at hl 2 rfl) ?_
    refine lv_icmp_ge (tgt := 65) hc.x hc.b dX12_sinceAt_27 (by decide) (fun c_3 => ?_) (fun c_3 => ?_)
    · have hf := br_y c_3 hf
      exact hK x3 _ _ _ hf hd (lv_sub hl [2, 3] rfl)
    · have hf := br_n c_3 hf
      refine lv_aload_n hc.x hc.b dX12_sinceAt_30 rfl (lv_at hl 0 rfl) ?_
      refine fg_60_23 hc hd hL0 tw_1332 dX12_sinceAt_31 ?_
      refine lv_if_eq (tgt := 65) hc.x hc.b dX12_sinceAt_34 (by decide) (fun c_4 => ?_) (fun c_4 => ?_)
      · have hf := br_y c_4 hf
        exact hK x3 _ _ _ hf hd (lv_sub hl [2, 3] rfl)
      · have hf := br_n c_4 hf
        refine lv_aload_n hc.x hc.b dX12_sinceAt_37 rfl (lv_at hl 0 rfl) ?_
        refine lv_iload_n hc.x hc.b dX12_sinceAt_38 rfl (lv_at hl 1 rfl) ?_
        refine lv_iload hc.x hc.b dX12_sinceAt_39 (lv_at hl 4 rfl) ?_
        obtain ⟨r_6, hq_5, hf⟩ := on_s hf
        refine k_i (k_runV hc hd my_X12_seen tw_1605 hL0 rfl rfl rfl (c_X12_seen l D cs B0 kt α Lv S g0 x1 x4 hc.cl hL0  hq_5) rfl rfl hl.1 (Nat.le_of_ble_eq_true rfl) ⟨Nat.le_of_ble_eq_true rfl, Nat.le_of_ble_eq_true rfl, Nat.zero_le _, Nat.zero_le _⟩ dX12_sinceAt_41) hd (fun H locs hd => ?_)
        refine lv_aload_n hc.x hc.b dX12_sinceAt_44 rfl (lv_at hl 0 rfl) ?_
        refine lv_iload_n hc.x hc.b dX12_sinceAt_45 rfl (lv_at hl 1 rfl) ?_
        refine lv_iload hc.x hc.b dX12_sinceAt_46 (lv_at hl 4 rfl) ?_
        refine lv_iconst (v := 1) hc.x hc.b dX12_sinceAt_48 (by decide) ?_
        refine lv_isub hc.x hc.b dX12_sinceAt_49 ?_
        obtain ⟨r_8, hq_7, hf⟩ := on_s hf
        refine k_i (k_runV hc hd my_X12_seen tw_1605 hL0 rfl rfl rfl (c_X12_seen l D cs B0 kt α Lv S g0 x1 (x4 - 1) hc.cl hL0  hq_7) rfl rfl hl.1 (Nat.le_of_ble_eq_true rfl) ⟨Nat.le_of_ble_eq_true rfl, Nat.le_of_ble_eq_true rfl, Nat.zero_le _, Nat.zero_le _⟩ dX12_sinceAt_50) hd (fun H locs hd => ?_)
        refine jn_s (P := fun J_10 => ∀ (x3_9 : Int32) (H : Heap) (locs : List Loc) (ls : Array Slot), J_10 x3_9 = some o → Dy s D cs B0 α Lv S H locs → lv_has ls 5 [(0, .ref (α 60 g0)), (1, .int x1), (2, .int x2), (3, .int x3_9), (4, .int x4)] → W p l e (Rm 3 0 0) s m args below meth c H locs 0 0 (MQ below (Qi D cs B0 α Lv o S) args s 0 0 (AB B0)) (F0 m 59 ls [])) hf ?_ (fun J_10 hJ_10 hf => ?_)
        · intro x3_9 H locs ls hf hd hl
          obtain ⟨x4_11, ex4_11⟩ : ∃ z : Int32, z = x4 + 1 := ⟨_, rfl⟩
          have hf := bv_n ex4_11 hf
          refine lv_iinc (v := x4_11) (lv' := [(4, .int x4_11), (0, .ref (α 60 g0)), (1, .int x1), (2, .int x2), (3, .int x3_9)]) hc.x hc.b dX12_sinceAt_59 hl (k := 4) rfl (by rw [ex4_11]; rfl) (by decide) rfl (fun ls hl => ?_)
          refine lv_goto (tgt := 24) hc.x hc.b dX12_sinceAt_62 (by decide) ?_
          exact ih x3_9 x4_11 _ _ _ hf hd (lv_sub hl [1, 2, 3, 4, 0] rfl)
        refine lv_icmp_eq (tgt := 59) hc.x hc.b dX12_sinceAt_53 (by decide) (fun c_12 => ?_) (fun c_12 => ?_)
        · have hf := br_y c_12 hf
          exact hJ_10 x3 _ _ _ hf hd (lv_sub hl [0, 1, 2, 3, 4] rfl)
        · have hf := br_n c_12 hf
          refine lv_iload hc.x hc.b dX12_sinceAt_56 (lv_at hl 4 rfl) ?_
          refine lv_istore_n (lv' := [(3, .int x4), (0, .ref (α 60 g0)), (1, .int x1), (2, .int x2), (4, .int x4)]) hc.x hc.b dX12_sinceAt_58 rfl hl (by decide) rfl (fun ls hl => ?_)
          exact hJ_10 x4 _ _ _ hf hd (lv_sub hl [1, 2, 3, 0, 4] rfl)
set_option maxRecDepth 100000 in
set_option maxHeartbeats 4000000 in
theorem b_X12_sinceAt (hc : Cx p s m args meth c cX12_sinceAt 5 "PumpCrossingModel" D cs B0 kt Lv) (hr : meth.sig.returnType = some .int)  {o : Int32}  {S : St} {g0 : Nat} {x1 : Int32} {x2 : Int32} (hL0 : Lv 60 g0) {H : Heap} {locs : List Loc} {ls : Array Slot} (hf : f_X12_sinceAt g0 x1 x2 S = some o) (hd : Dy s D cs B0 α Lv S H locs) (hl : lv_has ls 5 [(0, .ref (α 60 g0)), (1, .int x1), (2, .int x2)]) : W p l e (Rm 3 0 0) s m args below meth c H locs 0 0 (MQ below (Qi D cs B0 α Lv o S) args s 0 0 (AB B0)) (F0 m 0 ls []) := by
  unfold f_X12_sinceAt at hf
  refine lv_aload_n hc.x hc.b dX12_sinceAt_0 rfl (lv_at hl 0 rfl) ?_
  refine fg_60_23 hc hd hL0 tw_1332 dX12_sinceAt_1 ?_
  refine jn_s (P := fun J_2 => ∀ (v_1 : Int32) (H : Heap) (locs : List Loc) (ls : Array Slot), J_2 v_1 = some o → Dy s D cs B0 α Lv S H locs → lv_has ls 5 [(0, .ref (α 60 g0)), (1, .int x1), (2, .int x2)] → W p l e (Rm 3 0 0) s m args below meth c H locs 0 0 (MQ below (Qi D cs B0 α Lv o S) args s 0 0 (AB B0)) (F0 m 20 ls [.int v_1])) hf ?_ (fun J_2 hJ_2 hf => ?_)
  · intro v_1 H locs ls hf hd hl
    refine lv_istore_n (lv' := [(3, .int v_1), (0, .ref (α 60 g0)), (1, .int x1), (2, .int x2)]) hc.x hc.b dX12_sinceAt_20 rfl hl (by decide) rfl (fun ls hl => ?_)
    refine lv_iconst (v := 1) hc.x hc.b dX12_sinceAt_21 (by decide) ?_
    refine lv_istore (lv' := [(4, .int 1), (3, .int v_1), (0, .ref (α 60 g0)), (1, .int x1), (2, .int x2)]) hc.x hc.b dX12_sinceAt_22 hl (by decide) rfl (fun ls hl => ?_)
    refine w_X12_sinceAt_24 hc hr hL0 ?_ _ _ _ _ _ _ hf hd (lv_sub hl [2, 3, 4, 1, 0] rfl)
    intro x3_13 H locs ls hf hd hl
    refine lv_bipush (v := 99) hc.x hc.b dX12_sinceAt_65 (by decide) ?_
    refine lv_iload_n hc.x hc.b dX12_sinceAt_67 rfl (lv_at hl 1 rfl) ?_
    refine lv_iconst (v := (-1)) hc.x hc.b dX12_sinceAt_68 (by decide) ?_
    refine jn_s (P := fun J_15 => ∀ (v_14 : Int32) (H : Heap) (locs : List Loc) (ls : Array Slot), J_15 v_14 = some o → Dy s D cs B0 α Lv S H locs → lv_has ls 5 [] → W p l e (Rm 3 0 0) s m args below meth c H locs 0 0 (MQ below (Qi D cs B0 α Lv o S) args s 0 0 (AB B0)) (F0 m 81 ls [.int v_14, .int 99])) hf ?_ (fun J_15 hJ_15 hf => ?_)
    · intro v_14 H locs ls hf hd hl
      refine r_min hc hl.1 tw_1596 (Nat.le_of_ble_eq_true rfl) (Nat.le_of_ble_eq_true rfl) (Nat.zero_le _) (Nat.zero_le _) dX12_sinceAt_81 ?_
      refine lv_topi (fun q_16 eq_16 => ?_)
      have hf := bv_n eq_16 hf
      cases hf
      exact r_iret hc hd hr dX12_sinceAt_84
    refine lv_icmp_ne (tgt := 78) hc.x hc.b dX12_sinceAt_69 (by decide) (fun c_17 => ?_) (fun c_17 => ?_)
    · have hf := br_n c_17 hf
      refine lv_iload_n hc.x hc.b dX12_sinceAt_78 rfl (lv_at hl 0 rfl) ?_
      refine lv_iload_n hc.x hc.b dX12_sinceAt_79 rfl (lv_at hl 1 rfl) ?_
      refine lv_isub hc.x hc.b dX12_sinceAt_80 ?_
      exact hJ_15 (x2 - x3_13) _ _ _ hf hd (lv_sub hl [] rfl)
    · have hf := br_y c_17 hf
      refine lv_iload_n hc.x hc.b dX12_sinceAt_72 rfl (lv_at hl 0 rfl) ?_
      refine lv_iconst (v := 1) hc.x hc.b dX12_sinceAt_73 (by decide) ?_
      refine lv_iadd hc.x hc.b dX12_sinceAt_74 ?_
      refine lv_goto (tgt := 81) hc.x hc.b dX12_sinceAt_75 (by decide) ?_
      exact hJ_15 (x2 + 1) _ _ _ hf hd (lv_sub hl [] rfl)
  refine lv_if_eq (tgt := 11) hc.x hc.b dX12_sinceAt_4 (by decide) (fun c_18 => ?_) (fun c_18 => ?_)
  · have hf := br_y c_18 hf
    refine lv_aload_n hc.x hc.b dX12_sinceAt_11 rfl (lv_at hl 0 rfl) ?_
    refine fg_60_0 hc hd hL0 tw_1309 dX12_sinceAt_12 ?_
    refine lv_bipush (v := 24) hc.x hc.b dX12_sinceAt_15 (by decide) ?_
    refine lv_iload_n hc.x hc.b dX12_sinceAt_17 rfl (lv_at hl 1 rfl) ?_
    refine lv_iadd hc.x hc.b dX12_sinceAt_18 ?_
    obtain ⟨hi_19, hf⟩ := ck_s hf
    refine r_iald hc hd (cl_60_told hc.cl hL0) rfl hi_19 dX12_sinceAt_19 ?_
    exact hJ_2 (gi S 61 g0 (nn (24 + x1))) _ _ _ hf hd (lv_sub hl [0, 1, 2] rfl)
  · have hf := br_n c_18 hf
    refine lv_iconst (v := (-1)) hc.x hc.b dX12_sinceAt_7 (by decide) ?_
    refine lv_goto (tgt := 20) hc.x hc.b dX12_sinceAt_8 (by decide) ?_
    exact hJ_2 ((-1)) _ _ _ hf hd (lv_sub hl [0, 1, 2] rfl)
theorem c_X12_sinceAt (l : Launch) (D : va_G) (cs : Nat → ClassId) (B0 : Nat) (kt : (Nat → Nat) × (Nat → Nat)) (α : Nat → Nat → Nat) (Lv : Nat → Nat → Prop) (S : St) (g0 : Nat) (x1 : Int32) (x2 : Int32) (hcl : Cl Lv) (hL0 : Lv 60 g0) {o : Int32} (hf : f_X12_sinceAt g0 x1 x2 S = some o) : Met l yX12_sinceAt (wz yX12_sinceAt cX12_sinceAt 5 (some .int)) (Rm 3 0 0) (Pz D cs B0 kt α Lv S [.ref (α 60 g0), .int x1, .int x2]) (Qi D cs B0 α Lv o S) 0 0 (AB B0) := met_of (by decide) rfl hcl (Nat.le_of_ble_eq_true rfl) (fun p e s m below meth c hc hr hd ls hl => b_X12_sinceAt hc hr hL0 hf hd hl)
theorem my_X12_sinceAt : MyV yX12_sinceAt "PumpCrossingModel" cX12_sinceAt 5 (some .int) 2 := ⟨tw_1628, (in_sel 63 (by decide +kernel) (by decide +kernel)), tw_11, tw_1629, by decide +kernel⟩
def f_X12_least_6 (g0 : Nat) (x1 : Int32) (x2 : Int32) (x3 : Int32) (S : St) (K : Int32 → Option (Int32)) : Nat → Int32 → Int32 → Option (Int32)
  | 0, _, _ => none
  | n + 1, x4, x5 => ck (inb 0 3179 = true) (br ((gi S 61 g0 (nn 0)) ≤ x5) (K x4) (bv (fun (x4_3 : Int32) => bv (x5 + 1) (fun x5_5 => f_X12_least_6 g0 x1 x2 x3 S K n x4_3 x5_5)) (fun J_4 => br (x5 = x1) (J_4 x4) (ck (inb (16 + x1) 3179 = true) (on (f_X12_seen g0 x5 ((x2 - 1) - (gi S 61 g0 (nn (16 + x1)))) S) (fun r_9 => bv (fun (_u : Unit) => J_4 r_9) (fun J_10 => br (x4 = ((-1))) (J_10 ()) (br (x3 = 0) (br (x4 ≤ r_9) (J_4 x4) (J_10 ())) (br (r_9 ≤ x4) (J_4 x4) (J_10 ()))))))))))
def f_X12_least (g0 : Nat) (x1 : Int32) (x2 : Int32) (x3 : Int32) (S : St) : Option (Int32) := f_X12_least_6 g0 x1 x2 x3 S (fun (x4_15 : Int32) => bv (fun (v_16 : Int32) => some v_16) (fun J_17 => br (x4_15 = ((-1))) (on (f_X12_seen g0 x1 (x2 - 1) S) (fun r_20 => J_17 r_20)) (J_17 x4_15))) FU ((-1)) 0
set_option maxRecDepth 100000 in
set_option maxHeartbeats 4000000 in
theorem w_X12_least_6 (hc : Cx p s m args meth c cX12_least 7 "PumpCrossingModel" D cs B0 kt Lv) (hr : meth.sig.returnType = some .int) {o : Int32}  {g0 : Nat} {x1 : Int32} {x2 : Int32} {x3 : Int32} {S : St} {K : Int32 → Option (Int32)} (hL0 : Lv 60 g0) (hK : ∀ (k4 : Int32) (H : Heap) (locs : List Loc) (ls : Array Slot), K k4 = some o → Dy s D cs B0 α Lv S H locs → lv_has ls 7 [(0, .ref (α 60 g0)), (1, .int x1), (2, .int x2), (4, .int k4)] → W p l e (Rm 3 0 0) s m args below meth c H locs 0 0 (MQ below (Qi D cs B0 α Lv o S) args s 0 0 (AB B0)) (F0 m 84 ls [])) : ∀ (n : Nat) (x4 : Int32) (x5 : Int32) (H : Heap) (locs : List Loc) (ls : Array Slot), f_X12_least_6 g0 x1 x2 x3 S K n x4 x5 = some o → Dy s D cs B0 α Lv S H locs → lv_has ls 7 [(0, .ref (α 60 g0)), (1, .int x1), (2, .int x2), (3, .int x3), (4, .int x4), (5, .int x5)] → W p l e (Rm 3 0 0) s m args below meth c H locs 0 0 (MQ below (Qi D cs B0 α Lv o S) args s 0 0 (AB B0)) (F0 m 6 ls []) := by
  intro n
  induction n with
  | zero =>
    intro x4 x5 H locs ls hf
    rw [f_X12_least_6] at hf
    cases hf
  | succ n ih =>
    intro x4 x5 H locs ls hf hd hl
    rw [f_X12_least_6] at hf
    refine lv_iload hc.x hc.b dX12_least_6 (lv_at hl 5 rfl) ?_
    refine lv_aload_n hc.x hc.b dX12_least_8 rfl (lv_at hl 0 rfl) ?_
    refine fg_60_0 hc hd hL0 tw_1309 dX12_least_9 ?_
    refine lv_iconst (v := 0) hc.x hc.b dX12_least_12 (by decide) ?_
    obtain ⟨hi_1, hf⟩ := ck_s hf
    refine r_iald hc hd (cl_60_told hc.cl hL0) rfl hi_1 dX12_least_13 ?_
    refine lv_icmp_ge (tgt := 84) hc.x hc.b dX12_least_14 (by decide) (fun c_2 => ?_) (fun c_2 => ?_)
    · have hf := br_y c_2 hf
      exact hK x4 _ _ _ hf hd (lv_sub hl [0, 1, 2, 4] rfl)
    · have hf := br_n c_2 hf
      refine lv_iload hc.x hc.b dX12_least_17 (lv_at hl 5 rfl) ?_
      refine lv_iload_n hc.x hc.b dX12_least_19 rfl (lv_at hl 1 rfl) ?_
      refine jn_s (P := fun J_4 => ∀ (x4_3 : Int32) (H : Heap) (locs : List Loc) (ls : Array Slot), J_4 x4_3 = some o → Dy s D cs B0 α Lv S H locs → lv_has ls 7 [(0, .ref (α 60 g0)), (1, .int x1), (2, .int x2), (3, .int x3), (4, .int x4_3), (5, .int x5)] → W p l e (Rm 3 0 0) s m args below meth c H locs 0 0 (MQ below (Qi D cs B0 α Lv o S) args s 0 0 (AB B0)) (F0 m 78 ls [])) hf ?_ (fun J_4 hJ_4 hf => ?_)
      · intro x4_3 H locs ls hf hd hl
        obtain ⟨x5_5, ex5_5⟩ : ∃ z : Int32, z = x5 + 1 := ⟨_, rfl⟩
        have hf := bv_n ex5_5 hf
        refine lv_iinc (v := x5_5) (lv' := [(5, .int x5_5), (0, .ref (α 60 g0)), (1, .int x1), (2, .int x2), (3, .int x3), (4, .int x4_3)]) hc.x hc.b dX12_least_78 hl (k := 5) rfl (by rw [ex5_5]; rfl) (by decide) rfl (fun ls hl => ?_)
        refine lv_goto (tgt := 6) hc.x hc.b dX12_least_81 (by decide) ?_
        exact ih x4_3 x5_5 _ _ _ hf hd (lv_sub hl [1, 2, 3, 4, 5, 0] rfl)
      refine lv_icmp_ne (tgt := 26) hc.x hc.b dX12_least_20 (by decide) (fun c_6 => ?_) (fun c_6 => ?_)
      · have hf := br_n c_6 hf
        refine lv_aload_n hc.x hc.b dX12_least_26 rfl (lv_at hl 0 rfl) ?_
        refine lv_iload hc.x hc.b dX12_least_27 (lv_at hl 5 rfl) ?_
        refine lv_iload_n hc.x hc.b dX12_least_29 rfl (lv_at hl 2 rfl) ?_
        refine lv_iconst (v := 1) hc.x hc.b dX12_least_30 (by decide) ?_
        refine lv_isub hc.x hc.b dX12_least_31 ?_
        refine lv_aload_n hc.x hc.b dX12_least_32 rfl (lv_at hl 0 rfl) ?_
        refine fg_60_0 hc hd hL0 tw_1309 dX12_least_33 ?_
        refine lv_bipush (v := 16) hc.x hc.b dX12_least_36 (by decide) ?_
        refine lv_iload_n hc.x hc.b dX12_least_38 rfl (lv_at hl 1 rfl) ?_
        refine lv_iadd hc.x hc.b dX12_least_39 ?_
        obtain ⟨hi_7, hf⟩ := ck_s hf
        refine r_iald hc hd (cl_60_told hc.cl hL0) rfl hi_7 dX12_least_40 ?_
        refine lv_isub hc.x hc.b dX12_least_41 ?_
        obtain ⟨r_9, hq_8, hf⟩ := on_s hf
        refine k_i (k_runV hc hd my_X12_seen tw_1605 hL0 rfl rfl rfl (c_X12_seen l D cs B0 kt α Lv S g0 x5 ((x2 - 1) - (gi S 61 g0 (nn (16 + x1)))) hc.cl hL0  hq_8) rfl rfl hl.1 (Nat.le_of_ble_eq_true rfl) ⟨Nat.le_of_ble_eq_true rfl, Nat.le_of_ble_eq_true rfl, Nat.zero_le _, Nat.zero_le _⟩ dX12_least_42) hd (fun H locs hd => ?_)
        refine lv_istore (lv' := [(6, .int r_9), (0, .ref (α 60 g0)), (1, .int x1), (2, .int x2), (3, .int x3), (4, .int x4), (5, .int x5)]) hc.x hc.b dX12_least_45 hl (by decide) rfl (fun ls hl => ?_)
        refine lv_iload hc.x hc.b dX12_least_47 (lv_at hl 5 rfl) ?_
        refine lv_iconst (v := (-1)) hc.x hc.b dX12_least_49 (by decide) ?_
        refine jn_s (P := fun J_10 => ∀ (_u : Unit) (H : Heap) (locs : List Loc) (ls : Array Slot), J_10 _u = some o → Dy s D cs B0 α Lv S H locs → lv_has ls 7 [(0, .ref (α 60 g0)), (1, .int x1), (2, .int x2), (3, .int x3), (5, .int x5), (6, .int r_9)] → W p l e (Rm 3 0 0) s m args below meth c H locs 0 0 (MQ below (Qi D cs B0 α Lv o S) args s 0 0 (AB B0)) (F0 m 74 ls [])) hf ?_ (fun J_10 hJ_10 hf => ?_)
        · intro _u H locs ls hf hd hl
          refine lv_iload hc.x hc.b dX12_least_74 (lv_at hl 5 rfl) ?_
          refine lv_istore (lv' := [(4, .int r_9), (0, .ref (α 60 g0)), (1, .int x1), (2, .int x2), (3, .int x3), (5, .int x5), (6, .int r_9)]) hc.x hc.b dX12_least_76 hl (by decide) rfl (fun ls hl => ?_)
          exact hJ_4 r_9 _ _ _ hf hd (lv_sub hl [1, 2, 3, 4, 0, 5] rfl)
        refine lv_icmp_eq (tgt := 74) hc.x hc.b dX12_least_50 (by decide) (fun c_11 => ?_) (fun c_11 => ?_)
        · have hf := br_y c_11 hf
          exact hJ_10 ()  _ _ _ hf hd (lv_sub hl [1, 2, 3, 4, 6, 0] rfl)
        · have hf := br_n c_11 hf
          refine lv_iload_n hc.x hc.b dX12_least_53 rfl (lv_at hl 4 rfl) ?_
          refine lv_if_eq (tgt := 67) hc.x hc.b dX12_least_54 (by decide) (fun c_12 => ?_) (fun c_12 => ?_)
          · have hf := br_y c_12 hf
            refine lv_iload hc.x hc.b dX12_least_67 (lv_at hl 0 rfl) ?_
            refine lv_iload hc.x hc.b dX12_least_69 (lv_at hl 5 rfl) ?_
            refine lv_icmp_ge (tgt := 78) hc.x hc.b dX12_least_71 (by decide) (fun c_13 => ?_) (fun c_13 => ?_)
            · have hf := br_y c_13 hf
              exact hJ_4 x4 _ _ _ hf hd (lv_sub hl [1, 2, 3, 4, 5, 6] rfl)
            · have hf := br_n c_13 hf
              exact hJ_10 ()  _ _ _ hf hd (lv_sub hl [1, 2, 3, 4, 6, 0] rfl)
          · have hf := br_n c_12 hf
            refine lv_iload hc.x hc.b dX12_least_57 (lv_at hl 0 rfl) ?_
            refine lv_iload hc.x hc.b dX12_least_59 (lv_at hl 5 rfl) ?_
            refine lv_icmp_le (tgt := 78) hc.x hc.b dX12_least_61 (by decide) (fun c_14 => ?_) (fun c_14 => ?_)
            · have hf := br_y c_14 hf
              exact hJ_4 x4 _ _ _ hf hd (lv_sub hl [1, 2, 3, 4, 5, 6] rfl)
            · have hf := br_n c_14 hf
              refine lv_goto (tgt := 74) hc.x hc.b dX12_least_64 (by decide) ?_
              exact hJ_10 ()  _ _ _ hf hd (lv_sub hl [1, 2, 3, 4, 6, 0] rfl)
      · have hf := br_y c_6 hf
        refine lv_goto (tgt := 78) hc.x hc.b dX12_least_23 (by decide) ?_
        exact hJ_4 x4 _ _ _ hf hd (lv_sub hl [0, 1, 2, 3, 4, 5] rfl)
set_option maxRecDepth 100000 in
set_option maxHeartbeats 4000000 in
theorem b_X12_least (hc : Cx p s m args meth c cX12_least 7 "PumpCrossingModel" D cs B0 kt Lv) (hr : meth.sig.returnType = some .int)  {o : Int32}  {S : St} {g0 : Nat} {x1 : Int32} {x2 : Int32} {x3 : Int32} (hL0 : Lv 60 g0) {H : Heap} {locs : List Loc} {ls : Array Slot} (hf : f_X12_least g0 x1 x2 x3 S = some o) (hd : Dy s D cs B0 α Lv S H locs) (hl : lv_has ls 7 [(0, .ref (α 60 g0)), (1, .int x1), (2, .int x2), (3, .int x3)]) : W p l e (Rm 3 0 0) s m args below meth c H locs 0 0 (MQ below (Qi D cs B0 α Lv o S) args s 0 0 (AB B0)) (F0 m 0 ls []) := by
  unfold f_X12_least at hf
  refine lv_iconst (v := (-1)) hc.x hc.b dX12_least_0 (by decide) ?_
  refine lv_istore (lv' := [(4, .int ((-1))), (0, .ref (α 60 g0)), (1, .int x1), (2, .int x2), (3, .int x3)]) hc.x hc.b dX12_least_1 hl (by decide) rfl (fun ls hl => ?_)
  refine lv_iconst (v := 0) hc.x hc.b dX12_least_3 (by decide) ?_
  refine lv_istore (lv' := [(5, .int 0), (4, .int ((-1))), (0, .ref (α 60 g0)), (1, .int x1), (2, .int x2), (3, .int x3)]) hc.x hc.b dX12_least_4 hl (by decide) rfl (fun ls hl => ?_)
  refine w_X12_least_6 hc hr hL0 ?_ _ _ _ _ _ _ hf hd (lv_sub hl [2, 3, 4, 5, 1, 0] rfl)
  intro x4_15 H locs ls hf hd hl
  refine lv_iload hc.x hc.b dX12_least_84 (lv_at hl 3 rfl) ?_
  refine lv_iconst (v := (-1)) hc.x hc.b dX12_least_86 (by decide) ?_
  refine jn_s (P := fun J_17 => ∀ (v_16 : Int32) (H : Heap) (locs : List Loc) (ls : Array Slot), J_17 v_16 = some o → Dy s D cs B0 α Lv S H locs → lv_has ls 7 [] → W p l e (Rm 3 0 0) s m args below meth c H locs 0 0 (MQ below (Qi D cs B0 α Lv o S) args s 0 0 (AB B0)) (F0 m 103 ls [.int v_16])) hf ?_ (fun J_17 hJ_17 hf => ?_)
  · intro v_16 H locs ls hf hd hl
    cases hf
    exact r_iret hc hd hr dX12_least_103
  refine lv_icmp_ne (tgt := 101) hc.x hc.b dX12_least_87 (by decide) (fun c_18 => ?_) (fun c_18 => ?_)
  · have hf := br_n c_18 hf
    refine lv_iload hc.x hc.b dX12_least_101 (lv_at hl 3 rfl) ?_
    exact hJ_17 x4_15 _ _ _ hf hd (lv_sub hl [] rfl)
  · have hf := br_y c_18 hf
    refine lv_aload_n hc.x hc.b dX12_least_90 rfl (lv_at hl 0 rfl) ?_
    refine lv_iload_n hc.x hc.b dX12_least_91 rfl (lv_at hl 1 rfl) ?_
    refine lv_iload_n hc.x hc.b dX12_least_92 rfl (lv_at hl 2 rfl) ?_
    refine lv_iconst (v := 1) hc.x hc.b dX12_least_93 (by decide) ?_
    refine lv_isub hc.x hc.b dX12_least_94 ?_
    obtain ⟨r_20, hq_19, hf⟩ := on_s hf
    refine k_i (k_runV hc hd my_X12_seen tw_1605 hL0 rfl rfl rfl (c_X12_seen l D cs B0 kt α Lv S g0 x1 (x2 - 1) hc.cl hL0  hq_19) rfl rfl hl.1 (Nat.le_of_ble_eq_true rfl) ⟨Nat.le_of_ble_eq_true rfl, Nat.le_of_ble_eq_true rfl, Nat.zero_le _, Nat.zero_le _⟩ dX12_least_95) hd (fun H locs hd => ?_)
    refine lv_goto (tgt := 103) hc.x hc.b dX12_least_98 (by decide) ?_
    exact hJ_17 r_20 _ _ _ hf hd (lv_sub hl [] rfl)
theorem c_X12_least (l : Launch) (D : va_G) (cs : Nat → ClassId) (B0 : Nat) (kt : (Nat → Nat) × (Nat → Nat)) (α : Nat → Nat → Nat) (Lv : Nat → Nat → Prop) (S : St) (g0 : Nat) (x1 : Int32) (x2 : Int32) (x3 : Int32) (hcl : Cl Lv) (hL0 : Lv 60 g0) {o : Int32} (hf : f_X12_least g0 x1 x2 x3 S = some o) : Met l yX12_least (wz yX12_least cX12_least 7 (some .int)) (Rm 3 0 0) (Pz D cs B0 kt α Lv S [.ref (α 60 g0), .int x1, .int x2, .int x3]) (Qi D cs B0 α Lv o S) 0 0 (AB B0) := met_of (by decide) rfl hcl (Nat.le_of_ble_eq_true rfl) (fun p e s m below meth c hc hr hd ls hl => b_X12_least hc hr hL0 hf hd hl)
theorem my_X12_least : MyV yX12_least "PumpCrossingModel" cX12_least 7 (some .int) 3 := ⟨tw_1624, (in_sel 62 (by decide +kernel) (by decide +kernel)), tw_11, tw_1625, by decide +kernel⟩
def f_X12_moved_21 (g0 : Nat) (x1 : Int32) (x3 : Int32) (x5 : Int32) (S : St) (K : Int32 → Option (Int32)) : Nat → Int32 → Int32 → Option (Int32)
  | 0, _, _ => none
  | n + 1, x4, x6 => ck (inb 0 3179 = true) (br ((gi S 61 g0 (nn 0)) ≤ x6) (K x4) (bv (fun (x4_5 : Int32) => bv (x6 + 1) (fun x6_7 => f_X12_moved_21 g0 x1 x3 x5 S K n x4_5 x6_7)) (fun J_6 => br (x6 = x1) (J_6 x4) (bv (fun (_u : Unit) => bv (x4 + 1) (fun x4_10 => J_6 x4_10)) (fun J_9 => br (x3 = 0) (on (f_X12_seen g0 x6 x5 S) (fun r_13 => on (f_X12_seen g0 x6 (x5 - 1) S) (fun r_15 => br (r_15 ≤ r_13) (J_6 x4) (J_9 ())))) (on (f_X12_seen g0 x6 x5 S) (fun r_18 => on (f_X12_seen g0 x6 (x5 - 1) S) (fun r_20 => br (r_18 ≤ r_20) (J_6 x4) (J_9 ())))))))))
def f_X12_moved (g0 : Nat) (x1 : Int32) (x2 : Int32) (x3 : Int32) (S : St) : Option (Int32) := ck (inb (16 + x1) 3179 = true) (bv ((x2 - 1) - (gi S 61 g0 (nn (16 + x1)))) (fun x5_2 => f_X12_moved_21 g0 x1 x3 x5_2 S (fun (x4_22 : Int32) => some x4_22) FU 0 0))
set_option maxRecDepth 100000 in
set_option maxHeartbeats 4000000 in
theorem w_X12_moved_21 (hc : Cx p s m args meth c cX12_moved 7 "PumpCrossingModel" D cs B0 kt Lv) (hr : meth.sig.returnType = some .int) {o : Int32}  {g0 : Nat} {x1 : Int32} {x3 : Int32} {x5 : Int32} {S : St} {K : Int32 → Option (Int32)} (hL0 : Lv 60 g0) (hK : ∀ (k4 : Int32) (H : Heap) (locs : List Loc) (ls : Array Slot), K k4 = some o → Dy s D cs B0 α Lv S H locs → lv_has ls 7 [(4, .int k4)] → W p l e (Rm 3 0 0) s m args below meth c H locs 0 0 (MQ below (Qi D cs B0 α Lv o S) args s 0 0 (AB B0)) (F0 m 96 ls [])) : ∀ (n : Nat) (x4 : Int32) (x6 : Int32) (H : Heap) (locs : List Loc) (ls : Array Slot), f_X12_moved_21 g0 x1 x3 x5 S K n x4 x6 = some o → Dy s D cs B0 α Lv S H locs → lv_has ls 7 [(0, .ref (α 60 g0)), (1, .int x1), (3, .int x3), (5, .int x5), (4, .int x4), (6, .int x6)] → W p l e (Rm 3 0 0) s m args below meth c H locs 0 0 (MQ below (Qi D cs B0 α Lv o S) args s 0 0 (AB B0)) (F0 m 21 ls []) := by
  intro n
  induction n with
  | zero =>
    intro x4 x6 H locs ls hf
    rw [f_X12_moved_21] at hf
    cases hf
  | succ n ih =>
    intro x4 x6 H locs ls hf hd hl
    rw [f_X12_moved_21] at hf
    refine lv_iload hc.x hc.b dX12_moved_21 (lv_at hl 5 rfl) ?_
    refine lv_aload_n hc.x hc.b dX12_moved_23 rfl (lv_at hl 0 rfl) ?_
    refine fg_60_0 hc hd hL0 tw_1309 dX12_moved_24 ?_
    refine lv_iconst (v := 0) hc.x hc.b dX12_moved_27 (by decide) ?_
    obtain ⟨hi_3, hf⟩ := ck_s hf
    refine r_iald hc hd (cl_60_told hc.cl hL0) rfl hi_3 dX12_moved_28 ?_
    refine lv_icmp_ge (tgt := 96) hc.x hc.b dX12_moved_29 (by decide) (fun c_4 => ?_) (fun c_4 => ?_)
    · have hf := br_y c_4 hf
      exact hK x4 _ _ _ hf hd (lv_sub hl [4] rfl)
    · have hf := br_n c_4 hf
      refine lv_iload hc.x hc.b dX12_moved_32 (lv_at hl 5 rfl) ?_
      refine lv_iload_n hc.x hc.b dX12_moved_34 rfl (lv_at hl 1 rfl) ?_
      refine jn_s (P := fun J_6 => ∀ (x4_5 : Int32) (H : Heap) (locs : List Loc) (ls : Array Slot), J_6 x4_5 = some o → Dy s D cs B0 α Lv S H locs → lv_has ls 7 [(0, .ref (α 60 g0)), (1, .int x1), (3, .int x3), (4, .int x4_5), (5, .int x5), (6, .int x6)] → W p l e (Rm 3 0 0) s m args below meth c H locs 0 0 (MQ below (Qi D cs B0 α Lv o S) args s 0 0 (AB B0)) (F0 m 90 ls [])) hf ?_ (fun J_6 hJ_6 hf => ?_)
      · intro x4_5 H locs ls hf hd hl
        obtain ⟨x6_7, ex6_7⟩ : ∃ z : Int32, z = x6 + 1 := ⟨_, rfl⟩
        have hf := bv_n ex6_7 hf
        refine lv_iinc (v := x6_7) (lv' := [(6, .int x6_7), (0, .ref (α 60 g0)), (1, .int x1), (3, .int x3), (4, .int x4_5), (5, .int x5)]) hc.x hc.b dX12_moved_90 hl (k := 5) rfl (by rw [ex6_7]; rfl) (by decide) rfl (fun ls hl => ?_)
        refine lv_goto (tgt := 21) hc.x hc.b dX12_moved_93 (by decide) ?_
        exact ih x4_5 x6_7 _ _ _ hf hd (lv_sub hl [1, 2, 3, 5, 4, 0] rfl)
      refine lv_icmp_eq (tgt := 90) hc.x hc.b dX12_moved_35 (by decide) (fun c_8 => ?_) (fun c_8 => ?_)
      · have hf := br_y c_8 hf
        exact hJ_6 x4 _ _ _ hf hd (lv_sub hl [0, 1, 2, 4, 3, 5] rfl)
      · have hf := br_n c_8 hf
        refine lv_iload_n hc.x hc.b dX12_moved_38 rfl (lv_at hl 2 rfl) ?_
        refine jn_s (P := fun J_9 => ∀ (_u : Unit) (H : Heap) (locs : List Loc) (ls : Array Slot), J_9 _u = some o → Dy s D cs B0 α Lv S H locs → lv_has ls 7 [(0, .ref (α 60 g0)), (1, .int x1), (3, .int x3), (4, .int x4), (5, .int x5), (6, .int x6)] → W p l e (Rm 3 0 0) s m args below meth c H locs 0 0 (MQ below (Qi D cs B0 α Lv o S) args s 0 0 (AB B0)) (F0 m 87 ls [])) hf ?_ (fun J_9 hJ_9 hf => ?_)
        · intro _u H locs ls hf hd hl
          obtain ⟨x4_10, ex4_10⟩ : ∃ z : Int32, z = x4 + 1 := ⟨_, rfl⟩
          have hf := bv_n ex4_10 hf
          refine lv_iinc (v := x4_10) (lv' := [(4, .int x4_10), (0, .ref (α 60 g0)), (1, .int x1), (3, .int x3), (5, .int x5), (6, .int x6)]) hc.x hc.b dX12_moved_87 hl (k := 3) rfl (by rw [ex4_10]; rfl) (by decide) rfl (fun ls hl => ?_)
          exact hJ_6 x4_10 _ _ _ hf hd (lv_sub hl [1, 2, 3, 0, 4, 5] rfl)
        refine lv_if_eq (tgt := 66) hc.x hc.b dX12_moved_39 (by decide) (fun c_11 => ?_) (fun c_11 => ?_)
        · have hf := br_y c_11 hf
          refine lv_aload_n hc.x hc.b dX12_moved_66 rfl (lv_at hl 0 rfl) ?_
          refine lv_iload hc.x hc.b dX12_moved_67 (lv_at hl 5 rfl) ?_
          refine lv_iload hc.x hc.b dX12_moved_69 (lv_at hl 3 rfl) ?_
          obtain ⟨r_13, hq_12, hf⟩ := on_s hf
          refine k_i (k_runV hc hd my_X12_seen tw_1605 hL0 rfl rfl rfl (c_X12_seen l D cs B0 kt α Lv S g0 x6 x5 hc.cl hL0  hq_12) rfl rfl hl.1 (Nat.le_of_ble_eq_true rfl) ⟨Nat.le_of_ble_eq_true rfl, Nat.le_of_ble_eq_true rfl, Nat.zero_le _, Nat.zero_le _⟩ dX12_moved_71) hd (fun H locs hd => ?_)
          refine lv_aload_n hc.x hc.b dX12_moved_74 rfl (lv_at hl 0 rfl) ?_
          refine lv_iload hc.x hc.b dX12_moved_75 (lv_at hl 5 rfl) ?_
          refine lv_iload hc.x hc.b dX12_moved_77 (lv_at hl 3 rfl) ?_
          refine lv_iconst (v := 1) hc.x hc.b dX12_moved_79 (by decide) ?_
          refine lv_isub hc.x hc.b dX12_moved_80 ?_
          obtain ⟨r_15, hq_14, hf⟩ := on_s hf
          refine k_i (k_runV hc hd my_X12_seen tw_1605 hL0 rfl rfl rfl (c_X12_seen l D cs B0 kt α Lv S g0 x6 (x5 - 1) hc.cl hL0  hq_14) rfl rfl hl.1 (Nat.le_of_ble_eq_true rfl) ⟨Nat.le_of_ble_eq_true rfl, Nat.le_of_ble_eq_true rfl, Nat.zero_le _, Nat.zero_le _⟩ dX12_moved_81) hd (fun H locs hd => ?_)
          refine lv_icmp_ge (tgt := 90) hc.x hc.b dX12_moved_84 (by decide) (fun c_16 => ?_) (fun c_16 => ?_)
          · have hf := br_y c_16 hf
            exact hJ_6 x4 _ _ _ hf hd (lv_sub hl [0, 1, 2, 4, 3, 5] rfl)
          · have hf := br_n c_16 hf
            exact hJ_9 ()  _ _ _ hf hd (lv_sub hl [0, 1, 2, 4, 3, 5] rfl)
        · have hf := br_n c_11 hf
          refine lv_aload_n hc.x hc.b dX12_moved_42 rfl (lv_at hl 0 rfl) ?_
          refine lv_iload hc.x hc.b dX12_moved_43 (lv_at hl 5 rfl) ?_
          refine lv_iload hc.x hc.b dX12_moved_45 (lv_at hl 3 rfl) ?_
          obtain ⟨r_18, hq_17, hf⟩ := on_s hf
          refine k_i (k_runV hc hd my_X12_seen tw_1605 hL0 rfl rfl rfl (c_X12_seen l D cs B0 kt α Lv S g0 x6 x5 hc.cl hL0  hq_17) rfl rfl hl.1 (Nat.le_of_ble_eq_true rfl) ⟨Nat.le_of_ble_eq_true rfl, Nat.le_of_ble_eq_true rfl, Nat.zero_le _, Nat.zero_le _⟩ dX12_moved_47) hd (fun H locs hd => ?_)
          refine lv_aload_n hc.x hc.b dX12_moved_50 rfl (lv_at hl 0 rfl) ?_
          refine lv_iload hc.x hc.b dX12_moved_51 (lv_at hl 5 rfl) ?_
          refine lv_iload hc.x hc.b dX12_moved_53 (lv_at hl 3 rfl) ?_
          refine lv_iconst (v := 1) hc.x hc.b dX12_moved_55 (by decide) ?_
          refine lv_isub hc.x hc.b dX12_moved_56 ?_
          obtain ⟨r_20, hq_19, hf⟩ := on_s hf
          refine k_i (k_runV hc hd my_X12_seen tw_1605 hL0 rfl rfl rfl (c_X12_seen l D cs B0 kt α Lv S g0 x6 (x5 - 1) hc.cl hL0  hq_19) rfl rfl hl.1 (Nat.le_of_ble_eq_true rfl) ⟨Nat.le_of_ble_eq_true rfl, Nat.le_of_ble_eq_true rfl, Nat.zero_le _, Nat.zero_le _⟩ dX12_moved_57) hd (fun H locs hd => ?_)
          refine lv_icmp_le (tgt := 90) hc.x hc.b dX12_moved_60 (by decide) (fun c_21 => ?_) (fun c_21 => ?_)
          · have hf := br_y c_21 hf
            exact hJ_6 x4 _ _ _ hf hd (lv_sub hl [0, 1, 2, 4, 3, 5] rfl)
          · have hf := br_n c_21 hf
            refine lv_goto (tgt := 87) hc.x hc.b dX12_moved_63 (by decide) ?_
            exact hJ_9 ()  _ _ _ hf hd (lv_sub hl [0, 1, 2, 4, 3, 5] rfl)
set_option maxRecDepth 100000 in
set_option maxHeartbeats 4000000 in
theorem b_X12_moved (hc : Cx p s m args meth c cX12_moved 7 "PumpCrossingModel" D cs B0 kt Lv) (hr : meth.sig.returnType = some .int)  {o : Int32}  {S : St} {g0 : Nat} {x1 : Int32} {x2 : Int32} {x3 : Int32} (hL0 : Lv 60 g0) {H : Heap} {locs : List Loc} {ls : Array Slot} (hf : f_X12_moved g0 x1 x2 x3 S = some o) (hd : Dy s D cs B0 α Lv S H locs) (hl : lv_has ls 7 [(0, .ref (α 60 g0)), (1, .int x1), (2, .int x2), (3, .int x3)]) : W p l e (Rm 3 0 0) s m args below meth c H locs 0 0 (MQ below (Qi D cs B0 α Lv o S) args s 0 0 (AB B0)) (F0 m 0 ls []) := by
  unfold f_X12_moved at hf
  refine lv_iconst (v := 0) hc.x hc.b dX12_moved_0 (by decide) ?_
  refine lv_istore (lv' := [(4, .int 0), (0, .ref (α 60 g0)), (1, .int x1), (2, .int x2), (3, .int x3)]) hc.x hc.b dX12_moved_1 hl (by decide) rfl (fun ls hl => ?_)
  refine lv_iload_n hc.x hc.b dX12_moved_3 rfl (lv_at hl 3 rfl) ?_
  refine lv_iconst (v := 1) hc.x hc.b dX12_moved_4 (by decide) ?_
  refine lv_isub hc.x hc.b dX12_moved_5 ?_
  refine lv_aload_n hc.x hc.b dX12_moved_6 rfl (lv_at hl 1 rfl) ?_
  refine fg_60_0 hc hd hL0 tw_1309 dX12_moved_7 ?_
  refine lv_bipush (v := 16) hc.x hc.b dX12_moved_10 (by decide) ?_
  refine lv_iload_n hc.x hc.b dX12_moved_12 rfl (lv_at hl 2 rfl) ?_
  refine lv_iadd hc.x hc.b dX12_moved_13 ?_
  obtain ⟨hi_1, hf⟩ := ck_s hf
  refine r_iald hc hd (cl_60_told hc.cl hL0) rfl hi_1 dX12_moved_14 ?_
  refine lv_isub hc.x hc.b dX12_moved_15 ?_
  refine lv_topi (fun x5_2 ex5_2 => ?_)
  have hf := bv_n ex5_2 hf
  refine lv_istore (lv' := [(5, .int x5_2), (4, .int 0), (0, .ref (α 60 g0)), (1, .int x1), (2, .int x2), (3, .int x3)]) hc.x hc.b dX12_moved_16 hl (by decide) rfl (fun ls hl => ?_)
  refine lv_iconst (v := 0) hc.x hc.b dX12_moved_18 (by decide) ?_
  refine lv_istore (lv' := [(6, .int 0), (5, .int x5_2), (4, .int 0), (0, .ref (α 60 g0)), (1, .int x1), (2, .int x2), (3, .int x3)]) hc.x hc.b dX12_moved_19 hl (by decide) rfl (fun ls hl => ?_)
  refine w_X12_moved_21 hc hr hL0 ?_ _ _ _ _ _ _ hf hd (lv_sub hl [3, 4, 6, 1, 2, 0] rfl)
  intro x4_22 H locs ls hf hd hl
  refine lv_iload hc.x hc.b dX12_moved_96 (lv_at hl 0 rfl) ?_
  cases hf
  exact r_iret hc hd hr dX12_moved_98
theorem c_X12_moved (l : Launch) (D : va_G) (cs : Nat → ClassId) (B0 : Nat) (kt : (Nat → Nat) × (Nat → Nat)) (α : Nat → Nat → Nat) (Lv : Nat → Nat → Prop) (S : St) (g0 : Nat) (x1 : Int32) (x2 : Int32) (x3 : Int32) (hcl : Cl Lv) (hL0 : Lv 60 g0) {o : Int32} (hf : f_X12_moved g0 x1 x2 x3 S = some o) : Met l yX12_moved (wz yX12_moved cX12_moved 7 (some .int)) (Rm 3 0 0) (Pz D cs B0 kt α Lv S [.ref (α 60 g0), .int x1, .int x2, .int x3]) (Qi D cs B0 α Lv o S) 0 0 (AB B0) := met_of (by decide) rfl hcl (Nat.le_of_ble_eq_true rfl) (fun p e s m below meth c hc hr hd ls hl => b_X12_moved hc hr hL0 hf hd hl)
theorem my_X12_moved : MyV yX12_moved "PumpCrossingModel" cX12_moved 7 (some .int) 3 := ⟨tw_1632, (in_sel 64 (by decide +kernel) (by decide +kernel)), tw_11, tw_1633, by decide +kernel⟩
def f_X12_worth (g0 : Nat) (x1 : Int32) (x2 : Int32) (x3 : Int32) (S : St) : Option (Int32) := br (x1 = 100) (on (f_X12_seen g0 x2 (x3 - 1) S) (fun r_3 => some r_3)) (br (x1 = 101) (on (f_X12_least g0 x2 x3 0 S) (fun r_5 => some r_5)) (br (x1 = 102) (on (f_X12_least g0 x2 x3 1 S) (fun r_7 => some r_7)) (br (x1 = 103) (ck (inb (8 + x2) 3179 = true) (some (gi S 61 g0 (nn (8 + x2))))) (br (x1 = 104) (bv (rmI x3 24) (fun q_9 => some q_9)) (br (x1 = 105) (bv (dvI x3 24) (fun q_10 => bv (rmI q_10 7) (fun q_11 => some q_11))) (br (x1 = 106) (on (f_X12_sinceAt g0 x2 x3 S) (fun r_13 => some r_13)) (br (x1 = 107) (on (f_X12_moved g0 x2 x3 1 S) (fun r_15 => some r_15)) (br (x1 = 108) (on (f_X12_moved g0 x2 x3 0 S) (fun r_17 => some r_17)) (some x1)))))))))
set_option maxRecDepth 100000 in
set_option maxHeartbeats 4000000 in
theorem b_X12_worth (hc : Cx p s m args meth c cX12_worth 4 "PumpCrossingModel" D cs B0 kt Lv) (hr : meth.sig.returnType = some .int)  {o : Int32}  {S : St} {g0 : Nat} {x1 : Int32} {x2 : Int32} {x3 : Int32} (hL0 : Lv 60 g0) {H : Heap} {locs : List Loc} {ls : Array Slot} (hf : f_X12_worth g0 x1 x2 x3 S = some o) (hd : Dy s D cs B0 α Lv S H locs) (hl : lv_has ls 4 [(0, .ref (α 60 g0)), (1, .int x1), (2, .int x2), (3, .int x3)]) : W p l e (Rm 4 0 0) s m args below meth c H locs 0 0 (MQ below (Qi D cs B0 α Lv o S) args s 0 0 (AB B0)) (F0 m 0 ls []) := by
  unfold f_X12_worth at hf
  refine lv_iload_n hc.x hc.b dX12_worth_0 rfl (lv_at hl 1 rfl) ?_
  by_cases c_1_0 : x1 = 100
  · have hf := br_y c_1_0 hf
    refine lv_tableIn (off := 51) (tgt := 52) hc.x hc.b dX12_worth_1 (by rw [c_1_0]; decide) (by rw [c_1_0]; decide) (by rw [c_1_0]; decide) (by decide) ?_
    refine lv_aload_n hc.x hc.b dX12_worth_52 rfl (lv_at hl 0 rfl) ?_
    refine lv_iload_n hc.x hc.b dX12_worth_53 rfl (lv_at hl 2 rfl) ?_
    refine lv_iload_n hc.x hc.b dX12_worth_54 rfl (lv_at hl 3 rfl) ?_
    refine lv_iconst (v := 1) hc.x hc.b dX12_worth_55 (by decide) ?_
    refine lv_isub hc.x hc.b dX12_worth_56 ?_
    obtain ⟨r_3, hq_2, hf⟩ := on_s hf
    refine k_i (k_runV hc hd my_X12_seen tw_1605 hL0 rfl rfl rfl (c_X12_seen l D cs B0 kt α Lv S g0 x2 (x3 - 1) hc.cl hL0  hq_2) rfl rfl hl.1 (Nat.le_of_ble_eq_true rfl) ⟨Nat.le_of_ble_eq_true rfl, Nat.le_of_ble_eq_true rfl, Nat.zero_le _, Nat.zero_le _⟩ dX12_worth_57) hd (fun H locs hd => ?_)
    cases hf
    exact r_iret hc hd hr dX12_worth_60
  · have hf := br_n c_1_0 hf
    by_cases c_1_1 : x1 = 101
    · have hf := br_y c_1_1 hf
      refine lv_tableIn (off := 60) (tgt := 61) hc.x hc.b dX12_worth_1 (by rw [c_1_1]; decide) (by rw [c_1_1]; decide) (by rw [c_1_1]; decide) (by decide) ?_
      refine lv_aload_n hc.x hc.b dX12_worth_61 rfl (lv_at hl 0 rfl) ?_
      refine lv_iload_n hc.x hc.b dX12_worth_62 rfl (lv_at hl 2 rfl) ?_
      refine lv_iload_n hc.x hc.b dX12_worth_63 rfl (lv_at hl 3 rfl) ?_
      refine lv_iconst (v := 0) hc.x hc.b dX12_worth_64 (by decide) ?_
      obtain ⟨r_5, hq_4, hf⟩ := on_s hf
      refine k_i (k_runV hc hd my_X12_least tw_1622 hL0 rfl rfl rfl (c_X12_least l D cs B0 kt α Lv S g0 x2 x3 0 hc.cl hL0  hq_4) rfl rfl hl.1 (Nat.le_of_ble_eq_true rfl) ⟨Nat.le_of_ble_eq_true rfl, Nat.le_of_ble_eq_true rfl, Nat.zero_le _, Nat.zero_le _⟩ dX12_worth_65) hd (fun H locs hd => ?_)
      cases hf
      exact r_iret hc hd hr dX12_worth_68
    · have hf := br_n c_1_1 hf
      by_cases c_1_2 : x1 = 102
      · have hf := br_y c_1_2 hf
        refine lv_tableIn (off := 68) (tgt := 69) hc.x hc.b dX12_worth_1 (by rw [c_1_2]; decide) (by rw [c_1_2]; decide) (by rw [c_1_2]; decide) (by decide) ?_
        refine lv_aload_n hc.x hc.b dX12_worth_69 rfl (lv_at hl 0 rfl) ?_
        refine lv_iload_n hc.x hc.b dX12_worth_70 rfl (lv_at hl 2 rfl) ?_
        refine lv_iload_n hc.x hc.b dX12_worth_71 rfl (lv_at hl 3 rfl) ?_
        refine lv_iconst (v := 1) hc.x hc.b dX12_worth_72 (by decide) ?_
        obtain ⟨r_7, hq_6, hf⟩ := on_s hf
        refine k_i (k_runV hc hd my_X12_least tw_1622 hL0 rfl rfl rfl (c_X12_least l D cs B0 kt α Lv S g0 x2 x3 1 hc.cl hL0  hq_6) rfl rfl hl.1 (Nat.le_of_ble_eq_true rfl) ⟨Nat.le_of_ble_eq_true rfl, Nat.le_of_ble_eq_true rfl, Nat.zero_le _, Nat.zero_le _⟩ dX12_worth_73) hd (fun H locs hd => ?_)
        cases hf
        exact r_iret hc hd hr dX12_worth_76
      · have hf := br_n c_1_2 hf
        by_cases c_1_3 : x1 = 103
        · have hf := br_y c_1_3 hf
          refine lv_tableIn (off := 76) (tgt := 77) hc.x hc.b dX12_worth_1 (by rw [c_1_3]; decide) (by rw [c_1_3]; decide) (by rw [c_1_3]; decide) (by decide) ?_
          refine lv_aload_n hc.x hc.b dX12_worth_77 rfl (lv_at hl 0 rfl) ?_
          refine fg_60_0 hc hd hL0 tw_1309 dX12_worth_78 ?_
          refine lv_bipush (v := 8) hc.x hc.b dX12_worth_81 (by decide) ?_
          refine lv_iload_n hc.x hc.b dX12_worth_83 rfl (lv_at hl 2 rfl) ?_
          refine lv_iadd hc.x hc.b dX12_worth_84 ?_
          obtain ⟨hi_8, hf⟩ := ck_s hf
          refine r_iald hc hd (cl_60_told hc.cl hL0) rfl hi_8 dX12_worth_85 ?_
          cases hf
          exact r_iret hc hd hr dX12_worth_86
        · have hf := br_n c_1_3 hf
          by_cases c_1_4 : x1 = 104
          · have hf := br_y c_1_4 hf
            refine lv_tableIn (off := 86) (tgt := 87) hc.x hc.b dX12_worth_1 (by rw [c_1_4]; decide) (by rw [c_1_4]; decide) (by rw [c_1_4]; decide) (by decide) ?_
            refine lv_iload_n hc.x hc.b dX12_worth_87 rfl (lv_at hl 3 rfl) ?_
            refine lv_bipush (v := 24) hc.x hc.b dX12_worth_88 (by decide) ?_
            refine lv_irem hc.x hc.b dX12_worth_90 (by decide) ?_
            refine lv_topi (fun q_9 eq_9 => ?_)
            have hf := bv_n eq_9 hf
            cases hf
            exact r_iret hc hd hr dX12_worth_91
          · have hf := br_n c_1_4 hf
            by_cases c_1_5 : x1 = 105
            · have hf := br_y c_1_5 hf
              refine lv_tableIn (off := 91) (tgt := 92) hc.x hc.b dX12_worth_1 (by rw [c_1_5]; decide) (by rw [c_1_5]; decide) (by rw [c_1_5]; decide) (by decide) ?_
              refine lv_iload_n hc.x hc.b dX12_worth_92 rfl (lv_at hl 3 rfl) ?_
              refine lv_bipush (v := 24) hc.x hc.b dX12_worth_93 (by decide) ?_
              refine lv_idiv hc.x hc.b dX12_worth_95 (by decide) ?_
              refine lv_topi (fun q_10 eq_10 => ?_)
              have hf := bv_n eq_10 hf
              refine lv_bipush (v := 7) hc.x hc.b dX12_worth_96 (by decide) ?_
              refine lv_irem hc.x hc.b dX12_worth_98 (by decide) ?_
              refine lv_topi (fun q_11 eq_11 => ?_)
              have hf := bv_n eq_11 hf
              cases hf
              exact r_iret hc hd hr dX12_worth_99
            · have hf := br_n c_1_5 hf
              by_cases c_1_6 : x1 = 106
              · have hf := br_y c_1_6 hf
                refine lv_tableIn (off := 99) (tgt := 100) hc.x hc.b dX12_worth_1 (by rw [c_1_6]; decide) (by rw [c_1_6]; decide) (by rw [c_1_6]; decide) (by decide) ?_
                refine lv_aload_n hc.x hc.b dX12_worth_100 rfl (lv_at hl 0 rfl) ?_
                refine lv_iload_n hc.x hc.b dX12_worth_101 rfl (lv_at hl 2 rfl) ?_
                refine lv_iload_n hc.x hc.b dX12_worth_102 rfl (lv_at hl 3 rfl) ?_
                obtain ⟨r_13, hq_12, hf⟩ := on_s hf
                refine k_i (k_runV hc hd my_X12_sinceAt tw_1626 hL0 rfl rfl rfl (c_X12_sinceAt l D cs B0 kt α Lv S g0 x2 x3 hc.cl hL0  hq_12) rfl rfl hl.1 (Nat.le_of_ble_eq_true rfl) ⟨Nat.le_of_ble_eq_true rfl, Nat.le_of_ble_eq_true rfl, Nat.zero_le _, Nat.zero_le _⟩ dX12_worth_103) hd (fun H locs hd => ?_)
                cases hf
                exact r_iret hc hd hr dX12_worth_106
              · have hf := br_n c_1_6 hf
                by_cases c_1_7 : x1 = 107
                · have hf := br_y c_1_7 hf
                  refine lv_tableIn (off := 106) (tgt := 107) hc.x hc.b dX12_worth_1 (by rw [c_1_7]; decide) (by rw [c_1_7]; decide) (by rw [c_1_7]; decide) (by decide) ?_
                  refine lv_aload_n hc.x hc.b dX12_worth_107 rfl (lv_at hl 0 rfl) ?_
                  refine lv_iload_n hc.x hc.b dX12_worth_108 rfl (lv_at hl 2 rfl) ?_
                  refine lv_iload_n hc.x hc.b dX12_worth_109 rfl (lv_at hl 3 rfl) ?_
                  refine lv_iconst (v := 1) hc.x hc.b dX12_worth_110 (by decide) ?_
                  obtain ⟨r_15, hq_14, hf⟩ := on_s hf
                  refine k_i (k_runV hc hd my_X12_moved tw_1630 hL0 rfl rfl rfl (c_X12_moved l D cs B0 kt α Lv S g0 x2 x3 1 hc.cl hL0  hq_14) rfl rfl hl.1 (Nat.le_of_ble_eq_true rfl) ⟨Nat.le_of_ble_eq_true rfl, Nat.le_of_ble_eq_true rfl, Nat.zero_le _, Nat.zero_le _⟩ dX12_worth_111) hd (fun H locs hd => ?_)
                  cases hf
                  exact r_iret hc hd hr dX12_worth_114
                · have hf := br_n c_1_7 hf
                  by_cases c_1_8 : x1 = 108
                  · have hf := br_y c_1_8 hf
                    refine lv_tableIn (off := 114) (tgt := 115) hc.x hc.b dX12_worth_1 (by rw [c_1_8]; decide) (by rw [c_1_8]; decide) (by rw [c_1_8]; decide) (by decide) ?_
                    refine lv_aload_n hc.x hc.b dX12_worth_115 rfl (lv_at hl 0 rfl) ?_
                    refine lv_iload_n hc.x hc.b dX12_worth_116 rfl (lv_at hl 2 rfl) ?_
                    refine lv_iload_n hc.x hc.b dX12_worth_117 rfl (lv_at hl 3 rfl) ?_
                    refine lv_iconst (v := 0) hc.x hc.b dX12_worth_118 (by decide) ?_
                    obtain ⟨r_17, hq_16, hf⟩ := on_s hf
                    refine k_i (k_runV hc hd my_X12_moved tw_1630 hL0 rfl rfl rfl (c_X12_moved l D cs B0 kt α Lv S g0 x2 x3 0 hc.cl hL0  hq_16) rfl rfl hl.1 (Nat.le_of_ble_eq_true rfl) ⟨Nat.le_of_ble_eq_true rfl, Nat.le_of_ble_eq_true rfl, Nat.zero_le _, Nat.zero_le _⟩ dX12_worth_119) hd (fun H locs hd => ?_)
                    cases hf
                    exact r_iret hc hd hr dX12_worth_122
                  · have hf := br_n c_1_8 hf
                    refine lv_tableOut (tgt := 123) hc.x hc.b dX12_worth_1 (sw_out (fun z h1 h2 => by
                      rcases (show z = 100 ∨ z = 101 ∨ z = 102 ∨ z = 103 ∨ z = 104 ∨ z = 105 ∨ z = 106 ∨ z = 107 ∨ z = 108 by omega) with rfl | rfl | rfl | rfl | rfl | rfl | rfl | rfl | rfl
                      · exact c_1_0
                      · exact c_1_1
                      · exact c_1_2
                      · exact c_1_3
                      · exact c_1_4
                      · exact c_1_5
                      · exact c_1_6
                      · exact c_1_7
                      · exact c_1_8)) (by decide) ?_
                    refine lv_iload_n hc.x hc.b dX12_worth_123 rfl (lv_at hl 1 rfl) ?_
                    cases hf
                    exact r_iret hc hd hr dX12_worth_124
theorem c_X12_worth (l : Launch) (D : va_G) (cs : Nat → ClassId) (B0 : Nat) (kt : (Nat → Nat) × (Nat → Nat)) (α : Nat → Nat → Nat) (Lv : Nat → Nat → Prop) (S : St) (g0 : Nat) (x1 : Int32) (x2 : Int32) (x3 : Int32) (hcl : Cl Lv) (hL0 : Lv 60 g0) {o : Int32} (hf : f_X12_worth g0 x1 x2 x3 S = some o) : Met l yX12_worth (wz yX12_worth cX12_worth 4 (some .int)) (Rm 4 0 0) (Pz D cs B0 kt α Lv S [.ref (α 60 g0), .int x1, .int x2, .int x3]) (Qi D cs B0 α Lv o S) 0 0 (AB B0) := met_of (by decide) rfl hcl (Nat.le_of_ble_eq_true rfl) (fun p e s m below meth c hc hr hd ls hl => b_X12_worth hc hr hL0 hf hd hl)
theorem my_X12_worth : MyV yX12_worth "PumpCrossingModel" cX12_worth 4 (some .int) 3 := ⟨tw_1620, (in_sel 61 (by decide +kernel) (by decide +kernel)), tw_11, tw_1621, by decide +kernel⟩
def f_X12_isSo_6 (g0 : Nat) (x1 : Int32) (x2 : Int32) (x3 : Int32) (x4 : Int32) (K : St → Option (Int32 × St)) : Nat → Int32 → Int32 → St → Option (Int32 × St)
  | 0, _, _, _ => none
  | n + 1, x5, x6, S => br ((x1 + x2) ≤ x6) (K S) (ck (inb x6 3179 = true) (bv (gi S 61 g0 (nn x6)) (fun x7_3 => bv (fun (x5_4 : Int32) (S_5 : St) => bv (x6 + 1) (fun x6_7 => f_X12_isSo_6 g0 x1 x2 x3 x4 K n x5_4 x6_7 S_5)) (fun J_6 => br (x7_3 = 115) (ck (inb (x5 - 1) 440 = true) (ck (inb (x5 - 1) 440 = true) (bv (si S 69 g0 (nn (x5 - 1)) (1 - (gi S 69 g0 (nn (x5 - 1))))) (fun S_24 => J_6 x5 S_24)))) (br (110 ≤ x7_3) (bv (x5 + (-1)) (fun x5_10 => ck (inb (x5_10 - 1) 440 = true) (ck (inb x5_10 440 = true) (on (f_X12_both x7_3 (gi S 69 g0 (nn (x5_10 - 1))) (gi S 69 g0 (nn x5_10)) S) (fun r_14 => ck (inb (x5_10 - 1) 440 = true) (bv (si S 69 g0 (nn (x5_10 - 1)) r_14) (fun S_16 => J_6 x5_10 S_16))))))) (on (f_X12_worth g0 x7_3 x3 x4 S) (fun r_18 => ck (inb x5 440 = true) (bv (si S 69 g0 (nn x5) r_18) (fun S_20 => bv (x5 + 1) (fun x5_21 => J_6 x5_21 S_20))))))))))
def f_X12_isSo (g0 : Nat) (x1 : Int32) (x2 : Int32) (x3 : Int32) (x4 : Int32) (S : St) : Option (Int32 × St) := f_X12_isSo_6 g0 x1 x2 x3 x4 (fun  (S_25 : St) => bv (fun (v_26 : Int32) (S_27 : St) => ck (v_26 = 0 ∨ v_26 = 1) (some (v_26, S_27))) (fun J_28 => bv (fun  (S_29 : St) => J_28 1 S_29) (fun J_30 => br (x2 = 0) (J_30 S_25) (ck (inb 0 440 = true) (br ((gi S_25 69 g0 (nn 0)) = 1) (J_30 S_25) (J_28 0 S_25)))))) FU 0 x1 S
set_option maxRecDepth 100000 in
set_option maxHeartbeats 4000000 in
theorem w_X12_isSo_6 (hc : Cx p s m args meth c cX12_isSo 8 "PumpCrossingModel" D cs B0 kt Lv) (hr : meth.sig.returnType = some .boolean) {o : Int32 × St}  {g0 : Nat} {x1 : Int32} {x2 : Int32} {x3 : Int32} {x4 : Int32} {K : St → Option (Int32 × St)} (hL0 : Lv 60 g0) (hK : ∀  (S : St) (H : Heap) (locs : List Loc) (ls : Array Slot), K S = some o → Dy s D cs B0 α Lv S H locs → lv_has ls 8 [(0, .ref (α 60 g0)), (2, .int x2)] → W p l e (Rm 5 0 0) s m args below meth c H locs 0 0 (MQ below (Qi D cs B0 α Lv o.1 o.2) args s 0 0 (AB B0)) (F0 m 121 ls [])) : ∀ (n : Nat) (x5 : Int32) (x6 : Int32) (S : St) (H : Heap) (locs : List Loc) (ls : Array Slot), f_X12_isSo_6 g0 x1 x2 x3 x4 K n x5 x6 S = some o → Dy s D cs B0 α Lv S H locs → lv_has ls 8 [(0, .ref (α 60 g0)), (1, .int x1), (2, .int x2), (3, .int x3), (4, .int x4), (5, .int x5), (6, .int x6)] → W p l e (Rm 5 0 0) s m args below meth c H locs 0 0 (MQ below (Qi D cs B0 α Lv o.1 o.2) args s 0 0 (AB B0)) (F0 m 6 ls []) := by
  intro n
  induction n with
  | zero =>
    intro x5 x6 S H locs ls hf
    rw [f_X12_isSo_6] at hf
    cases hf
  | succ n ih =>
    intro x5 x6 S H locs ls hf hd hl
    rw [f_X12_isSo_6] at hf
    refine lv_iload hc.x hc.b dX12_isSo_6 (lv_at hl 6 rfl) ?_
    refine lv_iload_n hc.x hc.b dX12_isSo_8 rfl (lv_at hl 1 rfl) ?_
    refine lv_iload_n hc.x hc.b dX12_isSo_9 rfl (lv_at hl 2 rfl) ?_
    refine lv_iadd hc.x hc.b dX12_isSo_10 ?_
    refine lv_icmp_ge (tgt := 121) hc.x hc.b dX12_isSo_11 (by decide) (fun c_1 => ?_) (fun c_1 => ?_)
    · have hf := br_y c_1 hf
      exact hK S _ _ _ hf hd (lv_sub hl [0, 2] rfl)
    · have hf := br_n c_1 hf
      refine lv_aload_n hc.x hc.b dX12_isSo_14 rfl (lv_at hl 0 rfl) ?_
      refine fg_60_0 hc hd hL0 tw_1309 dX12_isSo_15 ?_
      refine lv_iload hc.x hc.b dX12_isSo_18 (lv_at hl 6 rfl) ?_
      obtain ⟨hi_2, hf⟩ := ck_s hf
      refine r_iald hc hd (cl_60_told hc.cl hL0) rfl hi_2 dX12_isSo_20 ?_
      refine lv_topi (fun x7_3 ex7_3 => ?_)
      have hf := bv_n ex7_3 hf
      refine lv_istore (lv' := [(7, .int x7_3), (0, .ref (α 60 g0)), (1, .int x1), (2, .int x2), (3, .int x3), (4, .int x4), (5, .int x5), (6, .int x6)]) hc.x hc.b dX12_isSo_21 hl (by decide) rfl (fun ls hl => ?_)
      refine lv_iload hc.x hc.b dX12_isSo_23 (lv_at hl 0 rfl) ?_
      refine lv_bipush (v := 115) hc.x hc.b dX12_isSo_25 (by decide) ?_
      refine jn_s (P := fun J_6 => ∀ (x5_4 : Int32) (S_5 : St) (H : Heap) (locs : List Loc) (ls : Array Slot), J_6 x5_4 S_5 = some o → Dy s D cs B0 α Lv S_5 H locs → lv_has ls 8 [(0, .ref (α 60 g0)), (1, .int x1), (2, .int x2), (3, .int x3), (4, .int x4), (5, .int x5_4), (6, .int x6)] → W p l e (Rm 5 0 0) s m args below meth c H locs 0 0 (MQ below (Qi D cs B0 α Lv o.1 o.2) args s 0 0 (AB B0)) (F0 m 115 ls [])) hf ?_ (fun J_6 hJ_6 hf => ?_)
      · intro x5_4 S_5 H locs ls hf hd hl
        obtain ⟨x6_7, ex6_7⟩ : ∃ z : Int32, z = x6 + 1 := ⟨_, rfl⟩
        have hf := bv_n ex6_7 hf
        refine lv_iinc (v := x6_7) (lv' := [(6, .int x6_7), (0, .ref (α 60 g0)), (1, .int x1), (2, .int x2), (3, .int x3), (4, .int x4), (5, .int x5_4)]) hc.x hc.b dX12_isSo_115 hl (k := 6) rfl (by rw [ex6_7]; rfl) (by decide) rfl (fun ls hl => ?_)
        refine lv_goto (tgt := 6) hc.x hc.b dX12_isSo_118 (by decide) ?_
        exact ih x5_4 x6_7 S_5 _ _ _ hf hd (lv_sub hl [1, 2, 3, 4, 5, 6, 0] rfl)
      refine lv_icmp_ne (tgt := 53) hc.x hc.b dX12_isSo_27 (by decide) (fun c_8 => ?_) (fun c_8 => ?_)
      · have hf := br_n c_8 hf
        refine lv_iload hc.x hc.b dX12_isSo_53 (lv_at hl 0 rfl) ?_
        refine lv_bipush (v := 110) hc.x hc.b dX12_isSo_55 (by decide) ?_
        refine lv_icmp_ge (tgt := 82) hc.x hc.b dX12_isSo_57 (by decide) (fun c_9 => ?_) (fun c_9 => ?_)
        · have hf := br_y c_9 hf
          obtain ⟨x5_10, ex5_10⟩ : ∃ z : Int32, z = x5 + (-1) := ⟨_, rfl⟩
          have hf := bv_n ex5_10 hf
          refine lv_iinc (v := x5_10) (lv' := [(5, .int x5_10), (7, .int x7_3), (0, .ref (α 60 g0)), (1, .int x1), (2, .int x2), (3, .int x3), (4, .int x4), (6, .int x6)]) hc.x hc.b dX12_isSo_82 hl (k := 6) rfl (by rw [ex5_10]; rfl) (by decide) rfl (fun ls hl => ?_)
          refine lv_aload_n hc.x hc.b dX12_isSo_85 rfl (lv_at hl 2 rfl) ?_
          refine fg_60_22 hc hd hL0 tw_1331 dX12_isSo_86 ?_
          refine lv_iload hc.x hc.b dX12_isSo_89 (lv_at hl 0 rfl) ?_
          refine lv_iconst (v := 1) hc.x hc.b dX12_isSo_91 (by decide) ?_
          refine lv_isub hc.x hc.b dX12_isSo_92 ?_
          refine lv_iload hc.x hc.b dX12_isSo_93 (lv_at hl 1 rfl) ?_
          refine lv_aload_n hc.x hc.b dX12_isSo_95 rfl (lv_at hl 2 rfl) ?_
          refine fg_60_22 hc hd hL0 tw_1331 dX12_isSo_96 ?_
          refine lv_iload hc.x hc.b dX12_isSo_99 (lv_at hl 0 rfl) ?_
          refine lv_iconst (v := 1) hc.x hc.b dX12_isSo_101 (by decide) ?_
          refine lv_isub hc.x hc.b dX12_isSo_102 ?_
          obtain ⟨hi_11, hf⟩ := ck_s hf
          refine r_iald hc hd (cl_60_pile hc.cl hL0) rfl hi_11 dX12_isSo_103 ?_
          refine lv_aload_n hc.x hc.b dX12_isSo_104 rfl (lv_at hl 2 rfl) ?_
          refine fg_60_22 hc hd hL0 tw_1331 dX12_isSo_105 ?_
          refine lv_iload hc.x hc.b dX12_isSo_108 (lv_at hl 0 rfl) ?_
          obtain ⟨hi_12, hf⟩ := ck_s hf
          refine r_iald hc hd (cl_60_pile hc.cl hL0) rfl hi_12 dX12_isSo_110 ?_
          obtain ⟨r_14, hq_13, hf⟩ := on_s hf
          refine k_i (k_runS hc hd my_X12_both tw_1634 (c_X12_both l D cs B0 kt α Lv S x7_3 (gi S 69 g0 (nn (x5_10 - 1))) (gi S 69 g0 (nn x5_10)) hc.cl   hq_13) rfl rfl hl.1 (Nat.le_of_ble_eq_true rfl) ⟨Nat.le_of_ble_eq_true rfl, Nat.le_of_ble_eq_true rfl, Nat.zero_le _, Nat.zero_le _⟩ dX12_isSo_111) hd (fun H locs hd => ?_)
          obtain ⟨hi_15, hf⟩ := ck_s hf
          refine r_iast hc hd (cl_60_pile hc.cl hL0) (fun _ => rfl) hi_15 dX12_isSo_114 (fun H locs hd => ?_)
          obtain ⟨S_16, hd, hf⟩ := nmD hd hf
          exact hJ_6 x5_10 S_16 _ _ _ hf hd (lv_sub hl [2, 3, 4, 5, 6, 0, 7] rfl)
        · have hf := br_n c_9 hf
          refine lv_aload_n hc.x hc.b dX12_isSo_60 rfl (lv_at hl 1 rfl) ?_
          refine fg_60_22 hc hd hL0 tw_1331 dX12_isSo_61 ?_
          refine lv_iload hc.x hc.b dX12_isSo_64 (lv_at hl 6 rfl) ?_
          refine lv_aload_n hc.x hc.b dX12_isSo_66 rfl (lv_at hl 1 rfl) ?_
          refine lv_iload hc.x hc.b dX12_isSo_67 (lv_at hl 0 rfl) ?_
          refine lv_iload_n hc.x hc.b dX12_isSo_69 rfl (lv_at hl 4 rfl) ?_
          refine lv_iload hc.x hc.b dX12_isSo_70 (lv_at hl 5 rfl) ?_
          obtain ⟨r_18, hq_17, hf⟩ := on_s hf
          refine k_i (k_runV hc hd my_X12_worth tw_1618 hL0 rfl rfl rfl (c_X12_worth l D cs B0 kt α Lv S g0 x7_3 x3 x4 hc.cl hL0  hq_17) rfl rfl hl.1 (Nat.le_of_ble_eq_true rfl) ⟨Nat.le_of_ble_eq_true rfl, Nat.le_of_ble_eq_true rfl, Nat.zero_le _, Nat.zero_le _⟩ dX12_isSo_72) hd (fun H locs hd => ?_)
          obtain ⟨hi_19, hf⟩ := ck_s hf
          refine r_iast hc hd (cl_60_pile hc.cl hL0) (fun _ => rfl) hi_19 dX12_isSo_75 (fun H locs hd => ?_)
          obtain ⟨S_20, hd, hf⟩ := nmD hd hf
          obtain ⟨x5_21, ex5_21⟩ : ∃ z : Int32, z = x5 + 1 := ⟨_, rfl⟩
          have hf := bv_n ex5_21 hf
          refine lv_iinc (v := x5_21) (lv' := [(5, .int x5_21), (7, .int x7_3), (0, .ref (α 60 g0)), (1, .int x1), (2, .int x2), (3, .int x3), (4, .int x4), (6, .int x6)]) hc.x hc.b dX12_isSo_76 hl (k := 6) rfl (by rw [ex5_21]; rfl) (by decide) rfl (fun ls hl => ?_)
          refine lv_goto (tgt := 115) hc.x hc.b dX12_isSo_79 (by decide) ?_
          exact hJ_6 x5_21 S_20 _ _ _ hf hd (lv_sub hl [2, 3, 4, 5, 6, 0, 7] rfl)
      · have hf := br_y c_8 hf
        refine lv_aload_n hc.x hc.b dX12_isSo_30 rfl (lv_at hl 1 rfl) ?_
        refine fg_60_22 hc hd hL0 tw_1331 dX12_isSo_31 ?_
        refine lv_iload hc.x hc.b dX12_isSo_34 (lv_at hl 6 rfl) ?_
        refine lv_iconst (v := 1) hc.x hc.b dX12_isSo_36 (by decide) ?_
        refine lv_isub hc.x hc.b dX12_isSo_37 ?_
        refine lv_iconst (v := 1) hc.x hc.b dX12_isSo_38 (by decide) ?_
        refine lv_aload_n hc.x hc.b dX12_isSo_39 rfl (lv_at hl 1 rfl) ?_
        refine fg_60_22 hc hd hL0 tw_1331 dX12_isSo_40 ?_
        refine lv_iload hc.x hc.b dX12_isSo_43 (lv_at hl 6 rfl) ?_
        refine lv_iconst (v := 1) hc.x hc.b dX12_isSo_45 (by decide) ?_
        refine lv_isub hc.x hc.b dX12_isSo_46 ?_
        obtain ⟨hi_22, hf⟩ := ck_s hf
        refine r_iald hc hd (cl_60_pile hc.cl hL0) rfl hi_22 dX12_isSo_47 ?_
        refine lv_isub hc.x hc.b dX12_isSo_48 ?_
        obtain ⟨hi_23, hf⟩ := ck_s hf
        refine r_iast hc hd (cl_60_pile hc.cl hL0) (fun _ => rfl) hi_23 dX12_isSo_49 (fun H locs hd => ?_)
        obtain ⟨S_24, hd, hf⟩ := nmD hd hf
        refine lv_goto (tgt := 115) hc.x hc.b dX12_isSo_50 (by decide) ?_
        exact hJ_6 x5 S_24 _ _ _ hf hd (lv_sub hl [1, 2, 3, 4, 5, 6, 7] rfl)
set_option maxRecDepth 100000 in
set_option maxHeartbeats 4000000 in
theorem b_X12_isSo (hc : Cx p s m args meth c cX12_isSo 8 "PumpCrossingModel" D cs B0 kt Lv) (hr : meth.sig.returnType = some .boolean)  {o : Int32 × St}  {S : St} {g0 : Nat} {x1 : Int32} {x2 : Int32} {x3 : Int32} {x4 : Int32} (hL0 : Lv 60 g0) {H : Heap} {locs : List Loc} {ls : Array Slot} (hf : f_X12_isSo g0 x1 x2 x3 x4 S = some o) (hd : Dy s D cs B0 α Lv S H locs) (hl : lv_has ls 8 [(0, .ref (α 60 g0)), (1, .int x1), (2, .int x2), (3, .int x3), (4, .int x4)]) : W p l e (Rm 5 0 0) s m args below meth c H locs 0 0 (MQ below (Qi D cs B0 α Lv o.1 o.2) args s 0 0 (AB B0)) (F0 m 0 ls []) := by
  unfold f_X12_isSo at hf
  refine lv_iconst (v := 0) hc.x hc.b dX12_isSo_0 (by decide) ?_
  refine lv_istore (lv' := [(5, .int 0), (0, .ref (α 60 g0)), (1, .int x1), (2, .int x2), (3, .int x3), (4, .int x4)]) hc.x hc.b dX12_isSo_1 hl (by decide) rfl (fun ls hl => ?_)
  refine lv_iload_n hc.x hc.b dX12_isSo_3 rfl (lv_at hl 2 rfl) ?_
  refine lv_istore (lv' := [(6, .int x1), (5, .int 0), (0, .ref (α 60 g0)), (1, .int x1), (2, .int x2), (3, .int x3), (4, .int x4)]) hc.x hc.b dX12_isSo_4 hl (by decide) rfl (fun ls hl => ?_)
  refine w_X12_isSo_6 hc hr hL0 ?_ _ _ _ _ _ _ _ hf hd (lv_sub hl [2, 3, 4, 5, 6, 1, 0] rfl)
  intro S_25 H locs ls hf hd hl
  refine lv_iload_n hc.x hc.b dX12_isSo_121 rfl (lv_at hl 1 rfl) ?_
  refine jn_s (P := fun J_28 => ∀ (v_26 : Int32) (S_27 : St) (H : Heap) (locs : List Loc) (ls : Array Slot), J_28 v_26 S_27 = some o → Dy s D cs B0 α Lv S_27 H locs → lv_has ls 8 [] → W p l e (Rm 5 0 0) s m args below meth c H locs 0 0 (MQ below (Qi D cs B0 α Lv o.1 o.2) args s 0 0 (AB B0)) (F0 m 140 ls [.int v_26])) hf ?_ (fun J_28 hJ_28 hf => ?_)
  · intro v_26 S_27 H locs ls hf hd hl
    obtain ⟨hz, hf⟩ := ck_s hf
    cases hf
    exact r_zret hc hd hr hz dX12_isSo_140
  refine jn_s (P := fun J_30 => ∀  (S_29 : St) (H : Heap) (locs : List Loc) (ls : Array Slot), J_30 S_29 = some o → Dy s D cs B0 α Lv S_29 H locs → lv_has ls 8 [] → W p l e (Rm 5 0 0) s m args below meth c H locs 0 0 (MQ below (Qi D cs B0 α Lv o.1 o.2) args s 0 0 (AB B0)) (F0 m 135 ls [])) hf ?_ (fun J_30 hJ_30 hf => ?_)
  · intro S_29 H locs ls hf hd hl
    refine lv_iconst (v := 1) hc.x hc.b dX12_isSo_135 (by decide) ?_
    refine lv_goto (tgt := 140) hc.x hc.b dX12_isSo_136 (by decide) ?_
    exact hJ_28 1 S_29 _ _ _ hf hd (lv_sub hl [] rfl)
  refine lv_if_eq (tgt := 135) hc.x hc.b dX12_isSo_122 (by decide) (fun c_31 => ?_) (fun c_31 => ?_)
  · have hf := br_y c_31 hf
    exact hJ_30 S_25 _ _ _ hf hd (lv_sub hl [] rfl)
  · have hf := br_n c_31 hf
    refine lv_aload_n hc.x hc.b dX12_isSo_125 rfl (lv_at hl 0 rfl) ?_
    refine fg_60_22 hc hd hL0 tw_1331 dX12_isSo_126 ?_
    refine lv_iconst (v := 0) hc.x hc.b dX12_isSo_129 (by decide) ?_
    obtain ⟨hi_32, hf⟩ := ck_s hf
    refine r_iald hc hd (cl_60_pile hc.cl hL0) rfl hi_32 dX12_isSo_130 ?_
    refine lv_iconst (v := 1) hc.x hc.b dX12_isSo_131 (by decide) ?_
    refine lv_icmp_ne (tgt := 139) hc.x hc.b dX12_isSo_132 (by decide) (fun c_33 => ?_) (fun c_33 => ?_)
    · have hf := br_n c_33 hf
      refine lv_iconst (v := 0) hc.x hc.b dX12_isSo_139 (by decide) ?_
      exact hJ_28 0 S_25 _ _ _ hf hd (lv_sub hl [] rfl)
    · have hf := br_y c_33 hf
      exact hJ_30 S_25 _ _ _ hf hd (lv_sub hl [] rfl)
theorem c_X12_isSo (l : Launch) (D : va_G) (cs : Nat → ClassId) (B0 : Nat) (kt : (Nat → Nat) × (Nat → Nat)) (α : Nat → Nat → Nat) (Lv : Nat → Nat → Prop) (S : St) (g0 : Nat) (x1 : Int32) (x2 : Int32) (x3 : Int32) (x4 : Int32) (hcl : Cl Lv) (hL0 : Lv 60 g0) {o : Int32 × St} (hf : f_X12_isSo g0 x1 x2 x3 x4 S = some o) : Met l yX12_isSo (wz yX12_isSo cX12_isSo 8 (some .boolean)) (Rm 5 0 0) (Pz D cs B0 kt α Lv S [.ref (α 60 g0), .int x1, .int x2, .int x3, .int x4]) (Qi D cs B0 α Lv o.1 o.2) 0 0 (AB B0) := met_of (by decide) rfl hcl (Nat.le_of_ble_eq_true rfl) (fun p e s m below meth c hc hr hd ls hl => b_X12_isSo hc hr hL0 hf hd hl)
theorem my_X12_isSo : MyV yX12_isSo "PumpCrossingModel" cX12_isSo 8 (some .boolean) 4 := ⟨tw_1616, (in_sel 60 (by decide +kernel) (by decide +kernel)), tw_11, tw_1617, by decide +kernel⟩
def f_X12_wish_24 (g0 : Nat) (x1 : Int32) (x2 : Int32) (x3 : Int32) (K : St → Option (Int32 × St)) : Nat → Int32 → Int32 → St → Option (Int32 × St)
  | 0, _, _, _ => none
  | n + 1, x4, x5, S => ck (inb (125 + (440 * x1)) 3179 = true) (br ((gi S 61 g0 (nn (125 + (440 * x1)))) ≤ x5) (K S) (ck (inb (x4 + 2) 3179 = true) (bv (gi S 61 g0 (nn (x4 + 2))) (fun x6_7 => on2 (f_X12_isSo g0 (x4 + 3) x6_7 x1 x2 S) (fun r_10 S_9 => br (r_10 = 0) (bv (x4 + (3 + x6_7)) (fun x4_12 => bv (x5 + 1) (fun x5_13 => f_X12_wish_24 g0 x1 x2 x3 K n x4_12 x5_13 S_9))) (ck (inb (x4 + 1) 3179 = true) (bv (gi S_9 61 g0 (nn (x4 + 1))) (fun x7_15 => ck (inb x4 3179 = true) (bv (gi S_9 61 g0 (nn x4)) (fun q_17 => br (q_17 = 0) (some (x3 + x7_15, S_9)) (br (q_17 = 1) (some (x3 - x7_15, S_9)) (br (q_17 = 2) (some (x7_15, S_9)) (br (q_17 = 3) (on (f_X12_least g0 x1 x2 0 S_9) (fun r_20 => some (r_20 - x7_15, S_9))) (br (q_17 = 4) (on (f_X12_least g0 x1 x2 0 S_9) (fun r_22 => some (r_22, S_9))) (some (x3, S_9))))))))))))))))
def f_X12_wish (g0 : Nat) (x1 : Int32) (x2 : Int32) (S : St) : Option (Int32 × St) := on (f_X12_seen g0 x1 (x2 - 1) S) (fun r_2 => bv ((125 + (440 * x1)) + 1) (fun x4_3 => f_X12_wish_24 g0 x1 x2 r_2 (fun  (S_23 : St) => some (r_2, S_23)) FU x4_3 0 S))
set_option maxRecDepth 100000 in
set_option maxHeartbeats 4000000 in
theorem w_X12_wish_24 (hc : Cx p s m args meth c cX12_wish 8 "PumpCrossingModel" D cs B0 kt Lv) (hr : meth.sig.returnType = some .int) {o : Int32 × St}  {g0 : Nat} {x1 : Int32} {x2 : Int32} {x3 : Int32} {K : St → Option (Int32 × St)} (hL0 : Lv 60 g0) (hK : ∀  (S : St) (H : Heap) (locs : List Loc) (ls : Array Slot), K S = some o → Dy s D cs B0 α Lv S H locs → lv_has ls 8 [(3, .int x3)] → W p l e (Rm 6 0 0) s m args below meth c H locs 0 0 (MQ below (Qi D cs B0 α Lv o.1 o.2) args s 0 0 (AB B0)) (F0 m 169 ls [])) : ∀ (n : Nat) (x4 : Int32) (x5 : Int32) (S : St) (H : Heap) (locs : List Loc) (ls : Array Slot), f_X12_wish_24 g0 x1 x2 x3 K n x4 x5 S = some o → Dy s D cs B0 α Lv S H locs → lv_has ls 8 [(0, .ref (α 60 g0)), (1, .int x1), (2, .int x2), (3, .int x3), (4, .int x4), (5, .int x5)] → W p l e (Rm 6 0 0) s m args below meth c H locs 0 0 (MQ below (Qi D cs B0 α Lv o.1 o.2) args s 0 0 (AB B0)) (F0 m 24 ls []) := by
  intro n
  induction n with
  | zero =>
    intro x4 x5 S H locs ls hf
    rw [f_X12_wish_24] at hf
    cases hf
  | succ n ih =>
    intro x4 x5 S H locs ls hf hd hl
    rw [f_X12_wish_24] at hf
    refine lv_iload hc.x hc.b dX12_wish_24 (lv_at hl 5 rfl) ?_
    refine lv_aload_n hc.x hc.b dX12_wish_26 rfl (lv_at hl 0 rfl) ?_
    refine fg_60_0 hc hd hL0 tw_1309 dX12_wish_27 ?_
    refine lv_bipush (v := 125) hc.x hc.b dX12_wish_30 (by decide) ?_
    refine lv_sipush (v := 440) hc.x hc.b dX12_wish_32 (by decide) ?_
    refine lv_iload_n hc.x hc.b dX12_wish_35 rfl (lv_at hl 1 rfl) ?_
    refine lv_imul hc.x hc.b dX12_wish_36 ?_
    refine lv_iadd hc.x hc.b dX12_wish_37 ?_
    obtain ⟨hi_4, hf⟩ := ck_s hf
    refine r_iald hc hd (cl_60_told hc.cl hL0) rfl hi_4 dX12_wish_38 ?_
    refine lv_icmp_ge (tgt := 169) hc.x hc.b dX12_wish_39 (by decide) (fun c_5 => ?_) (fun c_5 => ?_)
    · have hf := br_y c_5 hf
      exact hK S _ _ _ hf hd (lv_sub hl [3] rfl)
    · have hf := br_n c_5 hf
      refine lv_aload_n hc.x hc.b dX12_wish_42 rfl (lv_at hl 0 rfl) ?_
      refine fg_60_0 hc hd hL0 tw_1309 dX12_wish_43 ?_
      refine lv_iload hc.x hc.b dX12_wish_46 (lv_at hl 4 rfl) ?_
      refine lv_iconst (v := 2) hc.x hc.b dX12_wish_48 (by decide) ?_
      refine lv_iadd hc.x hc.b dX12_wish_49 ?_
      obtain ⟨hi_6, hf⟩ := ck_s hf
      refine r_iald hc hd (cl_60_told hc.cl hL0) rfl hi_6 dX12_wish_50 ?_
      refine lv_topi (fun x6_7 ex6_7 => ?_)
      have hf := bv_n ex6_7 hf
      refine lv_istore (lv' := [(6, .int x6_7), (0, .ref (α 60 g0)), (1, .int x1), (2, .int x2), (3, .int x3), (4, .int x4), (5, .int x5)]) hc.x hc.b dX12_wish_51 hl (by decide) rfl (fun ls hl => ?_)
      refine lv_aload_n hc.x hc.b dX12_wish_53 rfl (lv_at hl 1 rfl) ?_
      refine lv_iload hc.x hc.b dX12_wish_54 (lv_at hl 5 rfl) ?_
      refine lv_iconst (v := 3) hc.x hc.b dX12_wish_56 (by decide) ?_
      refine lv_iadd hc.x hc.b dX12_wish_57 ?_
      refine lv_iload hc.x hc.b dX12_wish_58 (lv_at hl 0 rfl) ?_
      refine lv_iload_n hc.x hc.b dX12_wish_60 rfl (lv_at hl 2 rfl) ?_
      refine lv_iload_n hc.x hc.b dX12_wish_61 rfl (lv_at hl 3 rfl) ?_
      obtain ⟨r_10, S_9, hq_8, hf⟩ := on2_s hf
      refine k_i (k_runV hc hd my_X12_isSo tw_1614 hL0 rfl rfl rfl (c_X12_isSo l D cs B0 kt α Lv S g0 (x4 + 3) x6_7 x1 x2 hc.cl hL0  hq_8) rfl rfl hl.1 (Nat.le_of_ble_eq_true rfl) ⟨Nat.le_of_ble_eq_true rfl, Nat.le_of_ble_eq_true rfl, Nat.zero_le _, Nat.zero_le _⟩ dX12_wish_62) hd (fun H locs hd => ?_)
      refine lv_if_eq (tgt := 154) hc.x hc.b dX12_wish_65 (by decide) (fun c_11 => ?_) (fun c_11 => ?_)
      · have hf := br_y c_11 hf
        refine lv_iload hc.x hc.b dX12_wish_154 (lv_at hl 5 rfl) ?_
        refine lv_iconst (v := 3) hc.x hc.b dX12_wish_156 (by decide) ?_
        refine lv_iload hc.x hc.b dX12_wish_157 (lv_at hl 0 rfl) ?_
        refine lv_iadd hc.x hc.b dX12_wish_159 ?_
        refine lv_iadd hc.x hc.b dX12_wish_160 ?_
        refine lv_topi (fun x4_12 ex4_12 => ?_)
        have hf := bv_n ex4_12 hf
        refine lv_istore (lv' := [(4, .int x4_12), (6, .int x6_7), (0, .ref (α 60 g0)), (1, .int x1), (2, .int x2), (3, .int x3), (5, .int x5)]) hc.x hc.b dX12_wish_161 hl (by decide) rfl (fun ls hl => ?_)
        obtain ⟨x5_13, ex5_13⟩ : ∃ z : Int32, z = x5 + 1 := ⟨_, rfl⟩
        have hf := bv_n ex5_13 hf
        refine lv_iinc (v := x5_13) (lv' := [(5, .int x5_13), (4, .int x4_12), (6, .int x6_7), (0, .ref (α 60 g0)), (1, .int x1), (2, .int x2), (3, .int x3)]) hc.x hc.b dX12_wish_163 hl (k := 6) rfl (by rw [ex5_13]; rfl) (by decide) rfl (fun ls hl => ?_)
        refine lv_goto (tgt := 24) hc.x hc.b dX12_wish_166 (by decide) ?_
        exact ih x4_12 x5_13 S_9 _ _ _ hf hd (lv_sub hl [3, 4, 5, 6, 1, 0] rfl)
      · have hf := br_n c_11 hf
        refine lv_aload_n hc.x hc.b dX12_wish_68 rfl (lv_at hl 1 rfl) ?_
        refine fg_60_0 hc hd hL0 tw_1309 dX12_wish_69 ?_
        refine lv_iload hc.x hc.b dX12_wish_72 (lv_at hl 5 rfl) ?_
        refine lv_iconst (v := 1) hc.x hc.b dX12_wish_74 (by decide) ?_
        refine lv_iadd hc.x hc.b dX12_wish_75 ?_
        obtain ⟨hi_14, hf⟩ := ck_s hf
        refine r_iald hc hd (cl_60_told hc.cl hL0) rfl hi_14 dX12_wish_76 ?_
        refine lv_topi (fun x7_15 ex7_15 => ?_)
        have hf := bv_n ex7_15 hf
        refine lv_istore (lv' := [(7, .int x7_15), (6, .int x6_7), (0, .ref (α 60 g0)), (1, .int x1), (2, .int x2), (3, .int x3), (4, .int x4), (5, .int x5)]) hc.x hc.b dX12_wish_77 hl (by decide) rfl (fun ls hl => ?_)
        refine lv_aload_n hc.x hc.b dX12_wish_79 rfl (lv_at hl 2 rfl) ?_
        refine fg_60_0 hc hd hL0 tw_1309 dX12_wish_80 ?_
        refine lv_iload hc.x hc.b dX12_wish_83 (lv_at hl 6 rfl) ?_
        obtain ⟨hi_16, hf⟩ := ck_s hf
        refine r_iald hc hd (cl_60_told hc.cl hL0) rfl hi_16 dX12_wish_85 ?_
        refine lv_topi (fun q_17 eq_17 => ?_)
        have hf := bv_n eq_17 hf
        by_cases c_18_0 : q_17 = 0
        · have hf := br_y c_18_0 hf
          refine lv_tableIn (off := 34) (tgt := 120) hc.x hc.b dX12_wish_86 (by rw [c_18_0]; decide) (by rw [c_18_0]; decide) (by rw [c_18_0]; decide) (by decide) ?_
          refine lv_iload_n hc.x hc.b dX12_wish_120 rfl (lv_at hl 5 rfl) ?_
          refine lv_iload hc.x hc.b dX12_wish_121 (lv_at hl 0 rfl) ?_
          refine lv_iadd hc.x hc.b dX12_wish_123 ?_
          cases hf
          exact r_iret hc hd hr dX12_wish_124
        · have hf := br_n c_18_0 hf
          by_cases c_18_1 : q_17 = 1
          · have hf := br_y c_18_1 hf
            refine lv_tableIn (off := 39) (tgt := 125) hc.x hc.b dX12_wish_86 (by rw [c_18_1]; decide) (by rw [c_18_1]; decide) (by rw [c_18_1]; decide) (by decide) ?_
            refine lv_iload_n hc.x hc.b dX12_wish_125 rfl (lv_at hl 5 rfl) ?_
            refine lv_iload hc.x hc.b dX12_wish_126 (lv_at hl 0 rfl) ?_
            refine lv_isub hc.x hc.b dX12_wish_128 ?_
            cases hf
            exact r_iret hc hd hr dX12_wish_129
          · have hf := br_n c_18_1 hf
            by_cases c_18_2 : q_17 = 2
            · have hf := br_y c_18_2 hf
              refine lv_tableIn (off := 44) (tgt := 130) hc.x hc.b dX12_wish_86 (by rw [c_18_2]; decide) (by rw [c_18_2]; decide) (by rw [c_18_2]; decide) (by decide) ?_
              refine lv_iload hc.x hc.b dX12_wish_130 (lv_at hl 0 rfl) ?_
              cases hf
              exact r_iret hc hd hr dX12_wish_132
            · have hf := br_n c_18_2 hf
              by_cases c_18_3 : q_17 = 3
              · have hf := br_y c_18_3 hf
                refine lv_tableIn (off := 47) (tgt := 133) hc.x hc.b dX12_wish_86 (by rw [c_18_3]; decide) (by rw [c_18_3]; decide) (by rw [c_18_3]; decide) (by decide) ?_
                refine lv_aload_n hc.x hc.b dX12_wish_133 rfl (lv_at hl 2 rfl) ?_
                refine lv_iload_n hc.x hc.b dX12_wish_134 rfl (lv_at hl 3 rfl) ?_
                refine lv_iload_n hc.x hc.b dX12_wish_135 rfl (lv_at hl 4 rfl) ?_
                refine lv_iconst (v := 0) hc.x hc.b dX12_wish_136 (by decide) ?_
                obtain ⟨r_20, hq_19, hf⟩ := on_s hf
                refine k_i (k_runV hc hd my_X12_least tw_1622 hL0 rfl rfl rfl (c_X12_least l D cs B0 kt α Lv S_9 g0 x1 x2 0 hc.cl hL0  hq_19) rfl rfl hl.1 (Nat.le_of_ble_eq_true rfl) ⟨Nat.le_of_ble_eq_true rfl, Nat.le_of_ble_eq_true rfl, Nat.zero_le _, Nat.zero_le _⟩ dX12_wish_137) hd (fun H locs hd => ?_)
                refine lv_iload hc.x hc.b dX12_wish_140 (lv_at hl 0 rfl) ?_
                refine lv_isub hc.x hc.b dX12_wish_142 ?_
                cases hf
                exact r_iret hc hd hr dX12_wish_143
              · have hf := br_n c_18_3 hf
                by_cases c_18_4 : q_17 = 4
                · have hf := br_y c_18_4 hf
                  refine lv_tableIn (off := 58) (tgt := 144) hc.x hc.b dX12_wish_86 (by rw [c_18_4]; decide) (by rw [c_18_4]; decide) (by rw [c_18_4]; decide) (by decide) ?_
                  refine lv_aload_n hc.x hc.b dX12_wish_144 rfl (lv_at hl 2 rfl) ?_
                  refine lv_iload_n hc.x hc.b dX12_wish_145 rfl (lv_at hl 3 rfl) ?_
                  refine lv_iload_n hc.x hc.b dX12_wish_146 rfl (lv_at hl 4 rfl) ?_
                  refine lv_iconst (v := 0) hc.x hc.b dX12_wish_147 (by decide) ?_
                  obtain ⟨r_22, hq_21, hf⟩ := on_s hf
                  refine k_i (k_runV hc hd my_X12_least tw_1622 hL0 rfl rfl rfl (c_X12_least l D cs B0 kt α Lv S_9 g0 x1 x2 0 hc.cl hL0  hq_21) rfl rfl hl.1 (Nat.le_of_ble_eq_true rfl) ⟨Nat.le_of_ble_eq_true rfl, Nat.le_of_ble_eq_true rfl, Nat.zero_le _, Nat.zero_le _⟩ dX12_wish_148) hd (fun H locs hd => ?_)
                  cases hf
                  exact r_iret hc hd hr dX12_wish_151
                · have hf := br_n c_18_4 hf
                  refine lv_tableOut (tgt := 152) hc.x hc.b dX12_wish_86 (sw_out (fun z h1 h2 => by
                    rcases (show z = 0 ∨ z = 1 ∨ z = 2 ∨ z = 3 ∨ z = 4 by omega) with rfl | rfl | rfl | rfl | rfl
                    · exact c_18_0
                    · exact c_18_1
                    · exact c_18_2
                    · exact c_18_3
                    · exact c_18_4)) (by decide) ?_
                  refine lv_iload_n hc.x hc.b dX12_wish_152 rfl (lv_at hl 5 rfl) ?_
                  cases hf
                  exact r_iret hc hd hr dX12_wish_153
set_option maxRecDepth 100000 in
set_option maxHeartbeats 4000000 in
theorem b_X12_wish (hc : Cx p s m args meth c cX12_wish 8 "PumpCrossingModel" D cs B0 kt Lv) (hr : meth.sig.returnType = some .int)  {o : Int32 × St}  {S : St} {g0 : Nat} {x1 : Int32} {x2 : Int32} (hL0 : Lv 60 g0) {H : Heap} {locs : List Loc} {ls : Array Slot} (hf : f_X12_wish g0 x1 x2 S = some o) (hd : Dy s D cs B0 α Lv S H locs) (hl : lv_has ls 8 [(0, .ref (α 60 g0)), (1, .int x1), (2, .int x2)]) : W p l e (Rm 6 0 0) s m args below meth c H locs 0 0 (MQ below (Qi D cs B0 α Lv o.1 o.2) args s 0 0 (AB B0)) (F0 m 0 ls []) := by
  unfold f_X12_wish at hf
  refine lv_aload_n hc.x hc.b dX12_wish_0 rfl (lv_at hl 0 rfl) ?_
  refine lv_iload_n hc.x hc.b dX12_wish_1 rfl (lv_at hl 1 rfl) ?_
  refine lv_iload_n hc.x hc.b dX12_wish_2 rfl (lv_at hl 2 rfl) ?_
  refine lv_iconst (v := 1) hc.x hc.b dX12_wish_3 (by decide) ?_
  refine lv_isub hc.x hc.b dX12_wish_4 ?_
  obtain ⟨r_2, hq_1, hf⟩ := on_s hf
  refine k_i (k_runV hc hd my_X12_seen tw_1605 hL0 rfl rfl rfl (c_X12_seen l D cs B0 kt α Lv S g0 x1 (x2 - 1) hc.cl hL0  hq_1) rfl rfl hl.1 (Nat.le_of_ble_eq_true rfl) ⟨Nat.le_of_ble_eq_true rfl, Nat.le_of_ble_eq_true rfl, Nat.zero_le _, Nat.zero_le _⟩ dX12_wish_5) hd (fun H locs hd => ?_)
  refine lv_istore_n (lv' := [(3, .int r_2), (0, .ref (α 60 g0)), (1, .int x1), (2, .int x2)]) hc.x hc.b dX12_wish_8 rfl hl (by decide) rfl (fun ls hl => ?_)
  refine lv_bipush (v := 125) hc.x hc.b dX12_wish_9 (by decide) ?_
  refine lv_sipush (v := 440) hc.x hc.b dX12_wish_11 (by decide) ?_
  refine lv_iload_n hc.x hc.b dX12_wish_14 rfl (lv_at hl 2 rfl) ?_
  refine lv_imul hc.x hc.b dX12_wish_15 ?_
  refine lv_iadd hc.x hc.b dX12_wish_16 ?_
  refine lv_iconst (v := 1) hc.x hc.b dX12_wish_17 (by decide) ?_
  refine lv_iadd hc.x hc.b dX12_wish_18 ?_
  refine lv_topi (fun x4_3 ex4_3 => ?_)
  have hf := bv_n ex4_3 hf
  refine lv_istore (lv' := [(4, .int x4_3), (3, .int r_2), (0, .ref (α 60 g0)), (1, .int x1), (2, .int x2)]) hc.x hc.b dX12_wish_19 hl (by decide) rfl (fun ls hl => ?_)
  refine lv_iconst (v := 0) hc.x hc.b dX12_wish_21 (by decide) ?_
  refine lv_istore (lv' := [(5, .int 0), (4, .int x4_3), (3, .int r_2), (0, .ref (α 60 g0)), (1, .int x1), (2, .int x2)]) hc.x hc.b dX12_wish_22 hl (by decide) rfl (fun ls hl => ?_)
  refine w_X12_wish_24 hc hr hL0 ?_ _ _ _ _ _ _ _ hf hd (lv_sub hl [3, 4, 5, 2, 1, 0] rfl)
  intro S_23 H locs ls hf hd hl
  refine lv_iload_n hc.x hc.b dX12_wish_169 rfl (lv_at hl 0 rfl) ?_
  cases hf
  exact r_iret hc hd hr dX12_wish_170
theorem c_X12_wish (l : Launch) (D : va_G) (cs : Nat → ClassId) (B0 : Nat) (kt : (Nat → Nat) × (Nat → Nat)) (α : Nat → Nat → Nat) (Lv : Nat → Nat → Prop) (S : St) (g0 : Nat) (x1 : Int32) (x2 : Int32) (hcl : Cl Lv) (hL0 : Lv 60 g0) {o : Int32 × St} (hf : f_X12_wish g0 x1 x2 S = some o) : Met l yX12_wish (wz yX12_wish cX12_wish 8 (some .int)) (Rm 6 0 0) (Pz D cs B0 kt α Lv S [.ref (α 60 g0), .int x1, .int x2]) (Qi D cs B0 α Lv o.1 o.2) 0 0 (AB B0) := met_of (by decide) rfl hcl (Nat.le_of_ble_eq_true rfl) (fun p e s m below meth c hc hr hd ls hl => b_X12_wish hc hr hL0 hf hd hl)
theorem my_X12_wish : MyV yX12_wish "PumpCrossingModel" cX12_wish 8 (some .int) 2 := ⟨tw_1612, (in_sel 59 (by decide +kernel) (by decide +kernel)), tw_11, tw_1613, by decide +kernel⟩
def f_X12_makes (g0 : Nat) (x1 : Int32) (x2 : Int32) (S : St) : Option (Int32 × St) := on (f_X12_seen g0 x1 (x2 - 1) S) (fun r_2 => on2 (f_X12_wish g0 x1 x2 S) (fun r_5 S_4 => ck (inb 122 3179 = true) (bv (fun (x4_7 : Int32) (S_8 : St) => ck (inb 124 3179 = true) (bv (fun (x4_11 : Int32) (S_12 : St) => bv (mnI 99 x4_11) (fun q_14 => bv (mxI 0 q_14) (fun q_15 => br (q_15 = r_2) (some (r_2, S_12)) (ck (inb 121 3179 = true) (bv (fun (v_18 : Int32) (S_19 : St) => bv (fun (v_21 : Int32) (S_22 : St) => some (v_21, S_22)) (fun J_23 => br (v_18 = 0) (J_23 r_2 S_19) (J_23 q_15 S_19))) (fun J_20 => bv (fun  (S_25 : St) => J_20 0 S_25) (fun J_26 => bv (fun  (S_27 : St) => ck (inb 120 3179 = true) (bv (fun  (S_30 : St) => J_20 1 S_30) (fun J_31 => br ((gi S_27 61 g0 (nn 120)) = ((-1))) (J_31 S_27) (on (f_X12_sinceAt g0 x1 x2 S_27) (fun r_34 => ck (inb 120 3179 = true) (br (r_34 < (gi S_27 61 g0 (nn 120))) (J_26 S_27) (J_31 S_27))))))) (fun J_28 => br ((gi S_12 61 g0 (nn 121)) = 0) (J_28 S_12) (ck (inb 121 3179 = true) (bv (rmI x2 24) (fun q_39 => br (((((gi S_12 61 g0 (nn 121)) : Int32) >>> (q_39 &&& 31)) &&& 1) = 1) (J_28 S_12) (J_26 S_12)))))))))))) (fun J_13 => br ((gi S_8 61 g0 (nn 124)) = 1) (br (x4_7 = r_2) (J_13 x4_7 S_8) (ck (inb (8 + x1) 3179 = true) (bv (mxI x4_7 (gi S_8 61 g0 (nn (8 + x1)))) (fun q_44 => J_13 q_44 S_8)))) (J_13 x4_7 S_8)))) (fun J_9 => br ((gi S_4 61 g0 (nn 122)) = ((-1))) (J_9 r_5 S_4) (ck (inb 122 3179 = true) (bv (mnI r_5 (r_2 + (gi S_4 61 g0 (nn 122)))) (fun q_47 => J_9 q_47 S_4)))))))
set_option maxRecDepth 100000 in
set_option maxHeartbeats 4000000 in
theorem b_X12_makes (hc : Cx p s m args meth c cX12_makes 6 "PumpCrossingModel" D cs B0 kt Lv) (hr : meth.sig.returnType = some .int)  {o : Int32 × St}  {S : St} {g0 : Nat} {x1 : Int32} {x2 : Int32} (hL0 : Lv 60 g0) {H : Heap} {locs : List Loc} {ls : Array Slot} (hf : f_X12_makes g0 x1 x2 S = some o) (hd : Dy s D cs B0 α Lv S H locs) (hl : lv_has ls 6 [(0, .ref (α 60 g0)), (1, .int x1), (2, .int x2)]) : W p l e (Rm 7 0 0) s m args below meth c H locs 0 0 (MQ below (Qi D cs B0 α Lv o.1 o.2) args s 0 0 (AB B0)) (F0 m 0 ls []) := by
  unfold f_X12_makes at hf
  refine lv_aload_n hc.x hc.b dX12_makes_0 rfl (lv_at hl 0 rfl) ?_
  refine lv_iload_n hc.x hc.b dX12_makes_1 rfl (lv_at hl 1 rfl) ?_
  refine lv_iload_n hc.x hc.b dX12_makes_2 rfl (lv_at hl 2 rfl) ?_
  refine lv_iconst (v := 1) hc.x hc.b dX12_makes_3 (by decide) ?_
  refine lv_isub hc.x hc.b dX12_makes_4 ?_
  obtain ⟨r_2, hq_1, hf⟩ := on_s hf
  refine k_i (k_runV hc hd my_X12_seen tw_1605 hL0 rfl rfl rfl (c_X12_seen l D cs B0 kt α Lv S g0 x1 (x2 - 1) hc.cl hL0  hq_1) rfl rfl hl.1 (Nat.le_of_ble_eq_true rfl) ⟨Nat.le_of_ble_eq_true rfl, Nat.le_of_ble_eq_true rfl, Nat.zero_le _, Nat.zero_le _⟩ dX12_makes_5) hd (fun H locs hd => ?_)
  refine lv_istore_n (lv' := [(3, .int r_2), (0, .ref (α 60 g0)), (1, .int x1), (2, .int x2)]) hc.x hc.b dX12_makes_8 rfl hl (by decide) rfl (fun ls hl => ?_)
  refine lv_aload_n hc.x hc.b dX12_makes_9 rfl (lv_at hl 1 rfl) ?_
  refine lv_iload_n hc.x hc.b dX12_makes_10 rfl (lv_at hl 2 rfl) ?_
  refine lv_iload_n hc.x hc.b dX12_makes_11 rfl (lv_at hl 3 rfl) ?_
  obtain ⟨r_5, S_4, hq_3, hf⟩ := on2_s hf
  refine k_i (k_runV hc hd my_X12_wish tw_1610 hL0 rfl rfl rfl (c_X12_wish l D cs B0 kt α Lv S g0 x1 x2 hc.cl hL0  hq_3) rfl rfl hl.1 (Nat.le_of_ble_eq_true rfl) ⟨Nat.le_of_ble_eq_true rfl, Nat.le_of_ble_eq_true rfl, Nat.zero_le _, Nat.zero_le _⟩ dX12_makes_12) hd (fun H locs hd => ?_)
  refine lv_istore (lv' := [(4, .int r_5), (3, .int r_2), (0, .ref (α 60 g0)), (1, .int x1), (2, .int x2)]) hc.x hc.b dX12_makes_15 hl (by decide) rfl (fun ls hl => ?_)
  refine lv_aload_n hc.x hc.b dX12_makes_17 rfl (lv_at hl 2 rfl) ?_
  refine fg_60_0 hc hd hL0 tw_1309 dX12_makes_18 ?_
  refine lv_bipush (v := 122) hc.x hc.b dX12_makes_21 (by decide) ?_
  obtain ⟨hi_6, hf⟩ := ck_s hf
  refine r_iald hc hd (cl_60_told hc.cl hL0) rfl hi_6 dX12_makes_23 ?_
  refine lv_iconst (v := (-1)) hc.x hc.b dX12_makes_24 (by decide) ?_
  refine jn_s (P := fun J_9 => ∀ (x4_7 : Int32) (S_8 : St) (H : Heap) (locs : List Loc) (ls : Array Slot), J_9 x4_7 S_8 = some o → Dy s D cs B0 α Lv S_8 H locs → lv_has ls 6 [(0, .ref (α 60 g0)), (1, .int x1), (2, .int x2), (3, .int r_2), (4, .int x4_7)] → W p l e (Rm 7 0 0) s m args below meth c H locs 0 0 (MQ below (Qi D cs B0 α Lv o.1 o.2) args s 0 0 (AB B0)) (F0 m 44 ls [])) hf ?_ (fun J_9 hJ_9 hf => ?_)
  · intro x4_7 S_8 H locs ls hf hd hl
    refine lv_aload_n hc.x hc.b dX12_makes_44 rfl (lv_at hl 0 rfl) ?_
    refine fg_60_0 hc hd hL0 tw_1309 dX12_makes_45 ?_
    refine lv_bipush (v := 124) hc.x hc.b dX12_makes_48 (by decide) ?_
    obtain ⟨hi_10, hf⟩ := ck_s hf
    refine r_iald hc hd (cl_60_told hc.cl hL0) rfl hi_10 dX12_makes_50 ?_
    refine lv_iconst (v := 1) hc.x hc.b dX12_makes_51 (by decide) ?_
    refine jn_s (P := fun J_13 => ∀ (x4_11 : Int32) (S_12 : St) (H : Heap) (locs : List Loc) (ls : Array Slot), J_13 x4_11 S_12 = some o → Dy s D cs B0 α Lv S_12 H locs → lv_has ls 6 [(0, .ref (α 60 g0)), (1, .int x1), (2, .int x2), (3, .int r_2), (4, .int x4_11)] → W p l e (Rm 7 0 0) s m args below meth c H locs 0 0 (MQ below (Qi D cs B0 α Lv o.1 o.2) args s 0 0 (AB B0)) (F0 m 77 ls [])) hf ?_ (fun J_13 hJ_13 hf => ?_)
    · intro x4_11 S_12 H locs ls hf hd hl
      refine lv_iconst (v := 0) hc.x hc.b dX12_makes_77 (by decide) ?_
      refine lv_bipush (v := 99) hc.x hc.b dX12_makes_78 (by decide) ?_
      refine lv_iload hc.x hc.b dX12_makes_80 (lv_at hl 4 rfl) ?_
      refine r_min hc hl.1 tw_1596 (Nat.le_of_ble_eq_true rfl) (Nat.le_of_ble_eq_true rfl) (Nat.zero_le _) (Nat.zero_le _) dX12_makes_82 ?_
      refine lv_topi (fun q_14 eq_14 => ?_)
      have hf := bv_n eq_14 hf
      refine r_max hc hl.1 tw_1609 (Nat.le_of_ble_eq_true rfl) (Nat.le_of_ble_eq_true rfl) (Nat.zero_le _) (Nat.zero_le _) dX12_makes_85 ?_
      refine lv_topi (fun q_15 eq_15 => ?_)
      have hf := bv_n eq_15 hf
      refine lv_istore (lv' := [(4, .int q_15), (0, .ref (α 60 g0)), (1, .int x1), (2, .int x2), (3, .int r_2)]) hc.x hc.b dX12_makes_88 hl (by decide) rfl (fun ls hl => ?_)
      refine lv_iload hc.x hc.b dX12_makes_90 (lv_at hl 0 rfl) ?_
      refine lv_iload_n hc.x hc.b dX12_makes_92 rfl (lv_at hl 4 rfl) ?_
      refine lv_icmp_ne (tgt := 98) hc.x hc.b dX12_makes_93 (by decide) (fun c_16 => ?_) (fun c_16 => ?_)
      · have hf := br_n c_16 hf
        refine lv_aload_n hc.x hc.b dX12_makes_98 rfl (lv_at hl 1 rfl) ?_
        refine fg_60_0 hc hd hL0 tw_1309 dX12_makes_99 ?_
        refine lv_bipush (v := 121) hc.x hc.b dX12_makes_102 (by decide) ?_
        obtain ⟨hi_17, hf⟩ := ck_s hf
        refine r_iald hc hd (cl_60_told hc.cl hL0) rfl hi_17 dX12_makes_104 ?_
        refine jn_s (P := fun J_20 => ∀ (v_18 : Int32) (S_19 : St) (H : Heap) (locs : List Loc) (ls : Array Slot), J_20 v_18 S_19 = some o → Dy s D cs B0 α Lv S_19 H locs → lv_has ls 6 [(3, .int r_2), (4, .int q_15)] → W p l e (Rm 7 0 0) s m args below meth c H locs 0 0 (MQ below (Qi D cs B0 α Lv o.1 o.2) args s 0 0 (AB B0)) (F0 m 158 ls [.int v_18])) hf ?_ (fun J_20 hJ_20 hf => ?_)
        · intro v_18 S_19 H locs ls hf hd hl
          refine lv_istore (lv' := [(5, .int v_18), (3, .int r_2), (4, .int q_15)]) hc.x hc.b dX12_makes_158 hl (by decide) rfl (fun ls hl => ?_)
          refine lv_iload hc.x hc.b dX12_makes_160 (lv_at hl 0 rfl) ?_
          refine jn_s (P := fun J_23 => ∀ (v_21 : Int32) (S_22 : St) (H : Heap) (locs : List Loc) (ls : Array Slot), J_23 v_21 S_22 = some o → Dy s D cs B0 α Lv S_22 H locs → lv_has ls 6 [] → W p l e (Rm 7 0 0) s m args below meth c H locs 0 0 (MQ below (Qi D cs B0 α Lv o.1 o.2) args s 0 0 (AB B0)) (F0 m 171 ls [.int v_21])) hf ?_ (fun J_23 hJ_23 hf => ?_)
          · intro v_21 S_22 H locs ls hf hd hl
            cases hf
            exact r_iret hc hd hr dX12_makes_171
          refine lv_if_eq (tgt := 170) hc.x hc.b dX12_makes_162 (by decide) (fun c_24 => ?_) (fun c_24 => ?_)
          · have hf := br_y c_24 hf
            refine lv_iload_n hc.x hc.b dX12_makes_170 rfl (lv_at hl 1 rfl) ?_
            exact hJ_23 r_2 S_19 _ _ _ hf hd (lv_sub hl [] rfl)
          · have hf := br_n c_24 hf
            refine lv_iload hc.x hc.b dX12_makes_165 (lv_at hl 2 rfl) ?_
            refine lv_goto (tgt := 171) hc.x hc.b dX12_makes_167 (by decide) ?_
            exact hJ_23 q_15 S_19 _ _ _ hf hd (lv_sub hl [] rfl)
        refine jn_s (P := fun J_26 => ∀  (S_25 : St) (H : Heap) (locs : List Loc) (ls : Array Slot), J_26 S_25 = some o → Dy s D cs B0 α Lv S_25 H locs → lv_has ls 6 [(3, .int r_2), (4, .int q_15)] → W p l e (Rm 7 0 0) s m args below meth c H locs 0 0 (MQ below (Qi D cs B0 α Lv o.1 o.2) args s 0 0 (AB B0)) (F0 m 157 ls [])) hf ?_ (fun J_26 hJ_26 hf => ?_)
        · intro S_25 H locs ls hf hd hl
          refine lv_iconst (v := 0) hc.x hc.b dX12_makes_157 (by decide) ?_
          exact hJ_20 0 S_25 _ _ _ hf hd (lv_sub hl [0, 1] rfl)
        refine jn_s (P := fun J_28 => ∀  (S_27 : St) (H : Heap) (locs : List Loc) (ls : Array Slot), J_28 S_27 = some o → Dy s D cs B0 α Lv S_27 H locs → lv_has ls 6 [(0, .ref (α 60 g0)), (1, .int x1), (2, .int x2), (3, .int r_2), (4, .int q_15)] → W p l e (Rm 7 0 0) s m args below meth c H locs 0 0 (MQ below (Qi D cs B0 α Lv o.1 o.2) args s 0 0 (AB B0)) (F0 m 126 ls [])) hf ?_ (fun J_28 hJ_28 hf => ?_)
        · intro S_27 H locs ls hf hd hl
          refine lv_aload_n hc.x hc.b dX12_makes_126 rfl (lv_at hl 0 rfl) ?_
          refine fg_60_0 hc hd hL0 tw_1309 dX12_makes_127 ?_
          refine lv_bipush (v := 120) hc.x hc.b dX12_makes_130 (by decide) ?_
          obtain ⟨hi_29, hf⟩ := ck_s hf
          refine r_iald hc hd (cl_60_told hc.cl hL0) rfl hi_29 dX12_makes_132 ?_
          refine lv_iconst (v := (-1)) hc.x hc.b dX12_makes_133 (by decide) ?_
          refine jn_s (P := fun J_31 => ∀  (S_30 : St) (H : Heap) (locs : List Loc) (ls : Array Slot), J_31 S_30 = some o → Dy s D cs B0 α Lv S_30 H locs → lv_has ls 6 [(3, .int r_2), (4, .int q_15)] → W p l e (Rm 7 0 0) s m args below meth c H locs 0 0 (MQ below (Qi D cs B0 α Lv o.1 o.2) args s 0 0 (AB B0)) (F0 m 153 ls [])) hf ?_ (fun J_31 hJ_31 hf => ?_)
          · intro S_30 H locs ls hf hd hl
            refine lv_iconst (v := 1) hc.x hc.b dX12_makes_153 (by decide) ?_
            refine lv_goto (tgt := 158) hc.x hc.b dX12_makes_154 (by decide) ?_
            exact hJ_20 1 S_30 _ _ _ hf hd (lv_sub hl [0, 1] rfl)
          refine lv_icmp_eq (tgt := 153) hc.x hc.b dX12_makes_134 (by decide) (fun c_32 => ?_) (fun c_32 => ?_)
          · have hf := br_y c_32 hf
            exact hJ_31 S_27 _ _ _ hf hd (lv_sub hl [3, 4] rfl)
          · have hf := br_n c_32 hf
            refine lv_aload_n hc.x hc.b dX12_makes_137 rfl (lv_at hl 0 rfl) ?_
            refine lv_iload_n hc.x hc.b dX12_makes_138 rfl (lv_at hl 1 rfl) ?_
            refine lv_iload_n hc.x hc.b dX12_makes_139 rfl (lv_at hl 2 rfl) ?_
            obtain ⟨r_34, hq_33, hf⟩ := on_s hf
            refine k_i (k_runV hc hd my_X12_sinceAt tw_1626 hL0 rfl rfl rfl (c_X12_sinceAt l D cs B0 kt α Lv S_27 g0 x1 x2 hc.cl hL0  hq_33) rfl rfl hl.1 (Nat.le_of_ble_eq_true rfl) ⟨Nat.le_of_ble_eq_true rfl, Nat.le_of_ble_eq_true rfl, Nat.zero_le _, Nat.zero_le _⟩ dX12_makes_140) hd (fun H locs hd => ?_)
            refine lv_aload_n hc.x hc.b dX12_makes_143 rfl (lv_at hl 0 rfl) ?_
            refine fg_60_0 hc hd hL0 tw_1309 dX12_makes_144 ?_
            refine lv_bipush (v := 120) hc.x hc.b dX12_makes_147 (by decide) ?_
            obtain ⟨hi_35, hf⟩ := ck_s hf
            refine r_iald hc hd (cl_60_told hc.cl hL0) rfl hi_35 dX12_makes_149 ?_
            refine lv_icmp_lt (tgt := 157) hc.x hc.b dX12_makes_150 (by decide) (fun c_36 => ?_) (fun c_36 => ?_)
            · have hf := br_y c_36 hf
              exact hJ_26 S_27 _ _ _ hf hd (lv_sub hl [3, 4] rfl)
            · have hf := br_n c_36 hf
              exact hJ_31 S_27 _ _ _ hf hd (lv_sub hl [3, 4] rfl)
        refine lv_if_eq (tgt := 126) hc.x hc.b dX12_makes_105 (by decide) (fun c_37 => ?_) (fun c_37 => ?_)
        · have hf := br_y c_37 hf
          exact hJ_28 S_12 _ _ _ hf hd (lv_sub hl [1, 2, 3, 4, 0] rfl)
        · have hf := br_n c_37 hf
          refine lv_aload_n hc.x hc.b dX12_makes_108 rfl (lv_at hl 1 rfl) ?_
          refine fg_60_0 hc hd hL0 tw_1309 dX12_makes_109 ?_
          refine lv_bipush (v := 121) hc.x hc.b dX12_makes_112 (by decide) ?_
          obtain ⟨hi_38, hf⟩ := ck_s hf
          refine r_iald hc hd (cl_60_told hc.cl hL0) rfl hi_38 dX12_makes_114 ?_
          refine lv_iload_n hc.x hc.b dX12_makes_115 rfl (lv_at hl 3 rfl) ?_
          refine lv_bipush (v := 24) hc.x hc.b dX12_makes_116 (by decide) ?_
          refine lv_irem hc.x hc.b dX12_makes_118 (by decide) ?_
          refine lv_topi (fun q_39 eq_39 => ?_)
          have hf := bv_n eq_39 hf
          refine lv_ishr hc.x hc.b dX12_makes_119 ?_
          refine lv_iconst (v := 1) hc.x hc.b dX12_makes_120 (by decide) ?_
          refine lv_iand hc.x hc.b dX12_makes_121 ?_
          refine lv_iconst (v := 1) hc.x hc.b dX12_makes_122 (by decide) ?_
          refine lv_icmp_ne (tgt := 157) hc.x hc.b dX12_makes_123 (by decide) (fun c_40 => ?_) (fun c_40 => ?_)
          · have hf := br_n c_40 hf
            exact hJ_26 S_12 _ _ _ hf hd (lv_sub hl [4, 0] rfl)
          · have hf := br_y c_40 hf
            exact hJ_28 S_12 _ _ _ hf hd (lv_sub hl [1, 2, 3, 4, 0] rfl)
      · have hf := br_y c_16 hf
        refine lv_iload_n hc.x hc.b dX12_makes_96 rfl (lv_at hl 4 rfl) ?_
        cases hf
        exact r_iret hc hd hr dX12_makes_97
    refine lv_icmp_ne (tgt := 77) hc.x hc.b dX12_makes_52 (by decide) (fun c_41 => ?_) (fun c_41 => ?_)
    · have hf := br_n c_41 hf
      exact hJ_13 x4_7 S_8 _ _ _ hf hd (lv_sub hl [0, 1, 2, 3, 4] rfl)
    · have hf := br_y c_41 hf
      refine lv_iload hc.x hc.b dX12_makes_55 (lv_at hl 4 rfl) ?_
      refine lv_iload_n hc.x hc.b dX12_makes_57 rfl (lv_at hl 3 rfl) ?_
      refine lv_icmp_eq (tgt := 77) hc.x hc.b dX12_makes_58 (by decide) (fun c_42 => ?_) (fun c_42 => ?_)
      · have hf := br_y c_42 hf
        exact hJ_13 x4_7 S_8 _ _ _ hf hd (lv_sub hl [0, 1, 2, 3, 4] rfl)
      · have hf := br_n c_42 hf
        refine lv_iload hc.x hc.b dX12_makes_61 (lv_at hl 4 rfl) ?_
        refine lv_aload_n hc.x hc.b dX12_makes_63 rfl (lv_at hl 0 rfl) ?_
        refine fg_60_0 hc hd hL0 tw_1309 dX12_makes_64 ?_
        refine lv_bipush (v := 8) hc.x hc.b dX12_makes_67 (by decide) ?_
        refine lv_iload_n hc.x hc.b dX12_makes_69 rfl (lv_at hl 1 rfl) ?_
        refine lv_iadd hc.x hc.b dX12_makes_70 ?_
        obtain ⟨hi_43, hf⟩ := ck_s hf
        refine r_iald hc hd (cl_60_told hc.cl hL0) rfl hi_43 dX12_makes_71 ?_
        refine r_max hc hl.1 tw_1609 (Nat.le_of_ble_eq_true rfl) (Nat.le_of_ble_eq_true rfl) (Nat.zero_le _) (Nat.zero_le _) dX12_makes_72 ?_
        refine lv_topi (fun q_44 eq_44 => ?_)
        have hf := bv_n eq_44 hf
        refine lv_istore (lv' := [(4, .int q_44), (0, .ref (α 60 g0)), (1, .int x1), (2, .int x2), (3, .int r_2)]) hc.x hc.b dX12_makes_75 hl (by decide) rfl (fun ls hl => ?_)
        exact hJ_13 q_44 S_8 _ _ _ hf hd (lv_sub hl [1, 2, 3, 4, 0] rfl)
  refine lv_icmp_eq (tgt := 44) hc.x hc.b dX12_makes_25 (by decide) (fun c_45 => ?_) (fun c_45 => ?_)
  · have hf := br_y c_45 hf
    exact hJ_9 r_5 S_4 _ _ _ hf hd (lv_sub hl [2, 3, 4, 1, 0] rfl)
  · have hf := br_n c_45 hf
    refine lv_iload hc.x hc.b dX12_makes_28 (lv_at hl 0 rfl) ?_
    refine lv_iload_n hc.x hc.b dX12_makes_30 rfl (lv_at hl 1 rfl) ?_
    refine lv_aload_n hc.x hc.b dX12_makes_31 rfl (lv_at hl 2 rfl) ?_
    refine fg_60_0 hc hd hL0 tw_1309 dX12_makes_32 ?_
    refine lv_bipush (v := 122) hc.x hc.b dX12_makes_35 (by decide) ?_
    obtain ⟨hi_46, hf⟩ := ck_s hf
    refine r_iald hc hd (cl_60_told hc.cl hL0) rfl hi_46 dX12_makes_37 ?_
    refine lv_iadd hc.x hc.b dX12_makes_38 ?_
    refine r_min hc hl.1 tw_1596 (Nat.le_of_ble_eq_true rfl) (Nat.le_of_ble_eq_true rfl) (Nat.zero_le _) (Nat.zero_le _) dX12_makes_39 ?_
    refine lv_topi (fun q_47 eq_47 => ?_)
    have hf := bv_n eq_47 hf
    refine lv_istore (lv' := [(4, .int q_47), (3, .int r_2), (0, .ref (α 60 g0)), (1, .int x1), (2, .int x2)]) hc.x hc.b dX12_makes_42 hl (by decide) rfl (fun ls hl => ?_)
    exact hJ_9 q_47 S_4 _ _ _ hf hd (lv_sub hl [2, 3, 4, 1, 0] rfl)
theorem c_X12_makes (l : Launch) (D : va_G) (cs : Nat → ClassId) (B0 : Nat) (kt : (Nat → Nat) × (Nat → Nat)) (α : Nat → Nat → Nat) (Lv : Nat → Nat → Prop) (S : St) (g0 : Nat) (x1 : Int32) (x2 : Int32) (hcl : Cl Lv) (hL0 : Lv 60 g0) {o : Int32 × St} (hf : f_X12_makes g0 x1 x2 S = some o) : Met l yX12_makes (wz yX12_makes cX12_makes 6 (some .int)) (Rm 7 0 0) (Pz D cs B0 kt α Lv S [.ref (α 60 g0), .int x1, .int x2]) (Qi D cs B0 α Lv o.1 o.2) 0 0 (AB B0) := met_of (by decide) rfl hcl (Nat.le_of_ble_eq_true rfl) (fun p e s m below meth c hc hr hd ls hl => b_X12_makes hc hr hL0 hf hd hl)
theorem my_X12_makes : MyV yX12_makes "PumpCrossingModel" cX12_makes 6 (some .int) 2 := ⟨tw_1603, (in_sel 57 (by decide +kernel) (by decide +kernel)), tw_11, tw_1604, by decide +kernel⟩
def f_X12_fit_26 (g0 : Nat) (x1 : Int32) (K : St → Option (Int32 × St)) : Nat → Int32 → St → Option (Int32 × St)
  | 0, _, _ => none
  | n + 1, x2, S => ck (inb 5 3179 = true) (br ((gi S 61 g0 (nn 5)) ≤ x2) (K S) (on2 (f_X12_makes g0 x1 x2 S) (fun r_10 S_9 => on (f_X12_seen g0 x1 x2 S_9) (fun r_12 => br (r_10 = r_12) (bv (x2 + 1) (fun x2_14 => f_X12_fit_26 g0 x1 K n x2_14 S_9)) (some (x2, S_9))))))
def f_X12_fit (g0 : Nat) (x1 : Int32) (S : St) : Option (Int32 × St) := bv (si S 60 g0 5 0) (fun S_1 => on (f_X12_isStation g0 x1 S_1) (fun r_3 => br (r_3 = 0) (on2 (f_X12_fails g0 1 S_1) (fun r_18 S_17 => some (r_18, S_17))) (bv (si S_1 60 g0 23 1) (fun S_5 => f_X12_fit_26 g0 x1 (fun  (S_15 : St) => some ((-1), S_15)) FU 1 S_5))))
set_option maxRecDepth 100000 in
set_option maxHeartbeats 4000000 in
theorem w_X12_fit_26 (hc : Cx p s m args meth c cX12_fit 3 "PumpCrossingModel" D cs B0 kt Lv) (hr : meth.sig.returnType = some .int) {o : Int32 × St}  {g0 : Nat} {x1 : Int32} {K : St → Option (Int32 × St)} (hL0 : Lv 60 g0) (hK : ∀  (S : St) (H : Heap) (locs : List Loc) (ls : Array Slot), K S = some o → Dy s D cs B0 α Lv S H locs → lv_has ls 3 [] → W p l e (Rm 8 0 0) s m args below meth c H locs 0 0 (MQ below (Qi D cs B0 α Lv o.1 o.2) args s 0 0 (AB B0)) (F0 m 59 ls [])) : ∀ (n : Nat) (x2 : Int32) (S : St) (H : Heap) (locs : List Loc) (ls : Array Slot), f_X12_fit_26 g0 x1 K n x2 S = some o → Dy s D cs B0 α Lv S H locs → lv_has ls 3 [(0, .ref (α 60 g0)), (1, .int x1), (2, .int x2)] → W p l e (Rm 8 0 0) s m args below meth c H locs 0 0 (MQ below (Qi D cs B0 α Lv o.1 o.2) args s 0 0 (AB B0)) (F0 m 26 ls []) := by
  intro n
  induction n with
  | zero =>
    intro x2 S H locs ls hf
    rw [f_X12_fit_26] at hf
    cases hf
  | succ n ih =>
    intro x2 S H locs ls hf hd hl
    rw [f_X12_fit_26] at hf
    refine lv_iload_n hc.x hc.b dX12_fit_26 rfl (lv_at hl 2 rfl) ?_
    refine lv_aload_n hc.x hc.b dX12_fit_27 rfl (lv_at hl 0 rfl) ?_
    refine fg_60_0 hc hd hL0 tw_1309 dX12_fit_28 ?_
    refine lv_iconst (v := 5) hc.x hc.b dX12_fit_31 (by decide) ?_
    obtain ⟨hi_6, hf⟩ := ck_s hf
    refine r_iald hc hd (cl_60_told hc.cl hL0) rfl hi_6 dX12_fit_32 ?_
    refine lv_icmp_ge (tgt := 59) hc.x hc.b dX12_fit_33 (by decide) (fun c_7 => ?_) (fun c_7 => ?_)
    · have hf := br_y c_7 hf
      exact hK S _ _ _ hf hd (lv_sub hl [] rfl)
    · have hf := br_n c_7 hf
      refine lv_aload_n hc.x hc.b dX12_fit_36 rfl (lv_at hl 0 rfl) ?_
      refine lv_iload_n hc.x hc.b dX12_fit_37 rfl (lv_at hl 1 rfl) ?_
      refine lv_iload_n hc.x hc.b dX12_fit_38 rfl (lv_at hl 2 rfl) ?_
      obtain ⟨r_10, S_9, hq_8, hf⟩ := on2_s hf
      refine k_i (k_runV hc hd my_X12_makes tw_1601 hL0 rfl rfl rfl (c_X12_makes l D cs B0 kt α Lv S g0 x1 x2 hc.cl hL0  hq_8) rfl rfl hl.1 (Nat.le_of_ble_eq_true rfl) ⟨Nat.le_of_ble_eq_true rfl, Nat.le_of_ble_eq_true rfl, Nat.zero_le _, Nat.zero_le _⟩ dX12_fit_39) hd (fun H locs hd => ?_)
      refine lv_aload_n hc.x hc.b dX12_fit_42 rfl (lv_at hl 0 rfl) ?_
      refine lv_iload_n hc.x hc.b dX12_fit_43 rfl (lv_at hl 1 rfl) ?_
      refine lv_iload_n hc.x hc.b dX12_fit_44 rfl (lv_at hl 2 rfl) ?_
      obtain ⟨r_12, hq_11, hf⟩ := on_s hf
      refine k_i (k_runV hc hd my_X12_seen tw_1605 hL0 rfl rfl rfl (c_X12_seen l D cs B0 kt α Lv S_9 g0 x1 x2 hc.cl hL0  hq_11) rfl rfl hl.1 (Nat.le_of_ble_eq_true rfl) ⟨Nat.le_of_ble_eq_true rfl, Nat.le_of_ble_eq_true rfl, Nat.zero_le _, Nat.zero_le _⟩ dX12_fit_45) hd (fun H locs hd => ?_)
      refine lv_icmp_eq (tgt := 53) hc.x hc.b dX12_fit_48 (by decide) (fun c_13 => ?_) (fun c_13 => ?_)
      · have hf := br_y c_13 hf
        obtain ⟨x2_14, ex2_14⟩ : ∃ z : Int32, z = x2 + 1 := ⟨_, rfl⟩
        have hf := bv_n ex2_14 hf
        refine lv_iinc (v := x2_14) (lv' := [(2, .int x2_14), (0, .ref (α 60 g0)), (1, .int x1)]) hc.x hc.b dX12_fit_53 hl (k := 2) rfl (by rw [ex2_14]; rfl) (by decide) rfl (fun ls hl => ?_)
        refine lv_goto (tgt := 26) hc.x hc.b dX12_fit_56 (by decide) ?_
        exact ih x2_14 S_9 _ _ _ hf hd (lv_sub hl [1, 2, 0] rfl)
      · have hf := br_n c_13 hf
        refine lv_iload_n hc.x hc.b dX12_fit_51 rfl (lv_at hl 2 rfl) ?_
        cases hf
        exact r_iret hc hd hr dX12_fit_52
set_option maxRecDepth 100000 in
set_option maxHeartbeats 4000000 in
theorem b_X12_fit (hc : Cx p s m args meth c cX12_fit 3 "PumpCrossingModel" D cs B0 kt Lv) (hr : meth.sig.returnType = some .int)  {o : Int32 × St}  {S : St} {g0 : Nat} {x1 : Int32} (hL0 : Lv 60 g0) {H : Heap} {locs : List Loc} {ls : Array Slot} (hf : f_X12_fit g0 x1 S = some o) (hd : Dy s D cs B0 α Lv S H locs) (hl : lv_has ls 3 [(0, .ref (α 60 g0)), (1, .int x1)]) : W p l e (Rm 8 0 0) s m args below meth c H locs 0 0 (MQ below (Qi D cs B0 α Lv o.1 o.2) args s 0 0 (AB B0)) (F0 m 0 ls []) := by
  unfold f_X12_fit at hf
  refine lv_aload_n hc.x hc.b dX12_fit_0 rfl (lv_at hl 0 rfl) ?_
  refine lv_iconst (v := 0) hc.x hc.b dX12_fit_1 (by decide) ?_
  refine fp_60_5 hc hd hL0 tw_1314 dX12_fit_2 (fun H locs hd => ?_)
  obtain ⟨S_1, hd, hf⟩ := nmD hd hf
  refine lv_aload_n hc.x hc.b dX12_fit_5 rfl (lv_at hl 0 rfl) ?_
  refine lv_iload_n hc.x hc.b dX12_fit_6 rfl (lv_at hl 1 rfl) ?_
  obtain ⟨r_3, hq_2, hf⟩ := on_s hf
  refine k_i (k_runV hc hd my_X12_isStation tw_1452 hL0 rfl rfl rfl (c_X12_isStation l D cs B0 kt α Lv S_1 g0 x1 hc.cl hL0  hq_2) rfl rfl hl.1 (Nat.le_of_ble_eq_true rfl) ⟨Nat.le_of_ble_eq_true rfl, Nat.le_of_ble_eq_true rfl, Nat.zero_le _, Nat.zero_le _⟩ dX12_fit_7) hd (fun H locs hd => ?_)
  refine lv_if_ne (tgt := 19) hc.x hc.b dX12_fit_10 (by decide) (fun c_4 => ?_) (fun c_4 => ?_)
  · have hf := br_n c_4 hf
    refine lv_aload_n hc.x hc.b dX12_fit_19 rfl (lv_at hl 0 rfl) ?_
    refine lv_iconst (v := 1) hc.x hc.b dX12_fit_20 (by decide) ?_
    refine fp_60_23 hc hd hL0 tw_1332 (Or.inr rfl) dX12_fit_21 (fun H locs hd => ?_)
    obtain ⟨S_5, hd, hf⟩ := nmD hd hf
    refine lv_iconst (v := 1) hc.x hc.b dX12_fit_24 (by decide) ?_
    refine lv_istore_n (lv' := [(2, .int 1), (0, .ref (α 60 g0)), (1, .int x1)]) hc.x hc.b dX12_fit_25 rfl hl (by decide) rfl (fun ls hl => ?_)
    refine w_X12_fit_26 hc hr hL0 ?_ _ _ _ _ _ _ hf hd (lv_sub hl [1, 2, 0] rfl)
    intro S_15 H locs ls hf hd hl
    refine lv_iconst (v := (-1)) hc.x hc.b dX12_fit_59 (by decide) ?_
    cases hf
    exact r_iret hc hd hr dX12_fit_60
  · have hf := br_y c_4 hf
    refine lv_aload_n hc.x hc.b dX12_fit_13 rfl (lv_at hl 0 rfl) ?_
    refine lv_iconst (v := 1) hc.x hc.b dX12_fit_14 (by decide) ?_
    obtain ⟨r_18, S_17, hq_16, hf⟩ := on2_s hf
    refine k_i (k_runV hc hd my_X12_fails tw_1439 hL0 rfl rfl rfl (c_X12_fails l D cs B0 kt α Lv S_1 g0 1 hc.cl hL0  hq_16) rfl rfl hl.1 (Nat.le_of_ble_eq_true rfl) ⟨Nat.le_of_ble_eq_true rfl, Nat.le_of_ble_eq_true rfl, Nat.zero_le _, Nat.zero_le _⟩ dX12_fit_15) hd (fun H locs hd => ?_)
    cases hf
    exact r_iret hc hd hr dX12_fit_18
theorem c_X12_fit (l : Launch) (D : va_G) (cs : Nat → ClassId) (B0 : Nat) (kt : (Nat → Nat) × (Nat → Nat)) (α : Nat → Nat → Nat) (Lv : Nat → Nat → Prop) (S : St) (g0 : Nat) (x1 : Int32) (hcl : Cl Lv) (hL0 : Lv 60 g0) {o : Int32 × St} (hf : f_X12_fit g0 x1 S = some o) : Met l yX12_fit (wz yX12_fit cX12_fit 3 (some .int)) (Rm 8 0 0) (Pz D cs B0 kt α Lv S [.ref (α 60 g0), .int x1]) (Qi D cs B0 α Lv o.1 o.2) 0 0 (AB B0) := met_of (by decide) rfl hcl (Nat.le_of_ble_eq_true rfl) (fun p e s m below meth c hc hr hd ls hl => b_X12_fit hc hr hL0 hf hd hl)
theorem my_X12_fit : MyV yX12_fit "PumpCrossingModel" cX12_fit 3 (some .int) 1 := ⟨tw_1855, tw_1856, tw_11, tw_1857, by decide +kernel⟩
def f_X12_fraction_6 (g0 : Nat) (x1 : Int64) (x3 : Int64) (K : Int64 → St → Option (St)) : Nat → Int64 → Int64 → St → Option (St)
  | 0, _, _, _ => none
  | n + 1, x5, x7, S => br ((lg_cmp x7 0) = 0) (K x5 S) (ck (¬ x7 = 0) (bv (rmL x5 x7) (fun q_3 => f_X12_fraction_6 g0 x1 x3 K n x7 q_3 S)))
def f_X12_fraction (g0 : Nat) (x1 : Int64) (x3 : Int64) (S : St) : Option (St) := f_X12_fraction_6 g0 x1 x3 (fun (x5_4 : Int64) (S_5 : St) => bv (fun (v_6 : Int64) (S_7 : St) => bv (sl S_7 60 g0 26 v_6) (fun S_9 => bv (fun (v_10 : Int64) (S_11 : St) => bv (sl S_11 60 g0 27 v_10) (fun S_13 => some S_13)) (fun J_12 => br ((lg_cmp x5_4 0) = 0) (J_12 0 S_9) (ck (¬ x5_4 = 0) (bv (dvL x3 x5_4) (fun q_16 => J_12 q_16 S_9)))))) (fun J_8 => br ((lg_cmp x5_4 0) = 0) (J_8 0 S_5) (ck (¬ x5_4 = 0) (bv (dvL x1 x5_4) (fun q_19 => J_8 q_19 S_5))))) FU x1 x3 S
set_option maxRecDepth 100000 in
set_option maxHeartbeats 4000000 in
theorem w_X12_fraction_6 (hc : Cx p s m args meth c cX12_fraction 11 "PumpCrossingModel" D cs B0 kt Lv) (hr : meth.sig.returnType = none) {o : St}  {g0 : Nat} {x1 : Int64} {x3 : Int64} {K : Int64 → St → Option (St)} (hL0 : Lv 60 g0) (hK : ∀ (k5 : Int64) (S : St) (H : Heap) (locs : List Loc) (ls : Array Slot), K k5 S = some o → Dy s D cs B0 α Lv S H locs → lv_has ls 11 [(0, .ref (α 60 g0)), (1, .long x1), (3, .long x3), (5, .long k5)] → W p l e (Rm 0 0 0) s m args below meth c H locs 0 0 (MQ below (Qv D cs B0 α Lv o) args s 0 0 (AB B0)) (F0 m 31 ls [])) : ∀ (n : Nat) (x5 : Int64) (x7 : Int64) (S : St) (H : Heap) (locs : List Loc) (ls : Array Slot), f_X12_fraction_6 g0 x1 x3 K n x5 x7 S = some o → Dy s D cs B0 α Lv S H locs → lv_has ls 11 [(0, .ref (α 60 g0)), (1, .long x1), (3, .long x3), (5, .long x5), (7, .long x7)] → W p l e (Rm 0 0 0) s m args below meth c H locs 0 0 (MQ below (Qv D cs B0 α Lv o) args s 0 0 (AB B0)) (F0 m 6 ls []) := by
  intro n
  induction n with
  | zero =>
    intro x5 x7 S H locs ls hf
    rw [f_X12_fraction_6] at hf
    cases hf
  | succ n ih =>
    intro x5 x7 S H locs ls hf hd hl
    rw [f_X12_fraction_6] at hf
    refine lv_lload hc.x hc.b dX12_fraction_6 (lv_at hl 4 rfl) ?_
    refine lv_lconst (v := 0) hc.x hc.b dX12_fraction_8 (by decide) ?_
    refine W.lcmp hc.x hc.b dX12_fraction_9 ?_
    refine lv_if_eq (tgt := 31) hc.x hc.b dX12_fraction_10 (by decide) (fun c_1 => ?_) (fun c_1 => ?_)
    · have hf := br_y c_1 hf
      exact hK x5 S _ _ _ hf hd (lv_sub hl [0, 1, 2, 3] rfl)
    · have hf := br_n c_1 hf
      refine lv_lload hc.x hc.b dX12_fraction_13 (lv_at hl 3 rfl) ?_
      refine lv_lload hc.x hc.b dX12_fraction_15 (lv_at hl 4 rfl) ?_
      obtain ⟨hn_2, hf⟩ := ck_s hf
      refine lv_lrem hc.x hc.b dX12_fraction_17 hn_2 ?_
      refine lv_topl (fun q_3 eq_3 => ?_)
      have hf := bv_n eq_3 hf
      refine lv_lstore (lv' := [(9, .long q_3), (0, .ref (α 60 g0)), (1, .long x1), (3, .long x3), (5, .long x5), (7, .long x7)]) hc.x hc.b dX12_fraction_18 hl (by decide) rfl (fun ls hl => ?_)
      refine lv_lload hc.x hc.b dX12_fraction_20 (lv_at hl 5 rfl) ?_
      refine lv_lstore (lv' := [(5, .long x7), (9, .long q_3), (0, .ref (α 60 g0)), (1, .long x1), (3, .long x3), (7, .long x7)]) hc.x hc.b dX12_fraction_22 hl (by decide) rfl (fun ls hl => ?_)
      refine lv_lload hc.x hc.b dX12_fraction_24 (lv_at hl 1 rfl) ?_
      refine lv_lstore (lv' := [(7, .long q_3), (5, .long x7), (9, .long q_3), (0, .ref (α 60 g0)), (1, .long x1), (3, .long x3)]) hc.x hc.b dX12_fraction_26 hl (by decide) rfl (fun ls hl => ?_)
      refine lv_goto (tgt := 6) hc.x hc.b dX12_fraction_28 (by decide) ?_
      exact ih x7 q_3 S _ _ _ hf hd (lv_sub hl [3, 4, 5, 1, 0] rfl)
set_option maxRecDepth 100000 in
set_option maxHeartbeats 4000000 in
theorem b_X12_fraction (hc : Cx p s m args meth c cX12_fraction 11 "PumpCrossingModel" D cs B0 kt Lv) (hr : meth.sig.returnType = none)  {o : St}  {S : St} {g0 : Nat} {x1 : Int64} {x3 : Int64} (hL0 : Lv 60 g0) {H : Heap} {locs : List Loc} {ls : Array Slot} (hf : f_X12_fraction g0 x1 x3 S = some o) (hd : Dy s D cs B0 α Lv S H locs) (hl : lv_has ls 11 [(0, .ref (α 60 g0)), (1, .long x1), (3, .long x3)]) : W p l e (Rm 0 0 0) s m args below meth c H locs 0 0 (MQ below (Qv D cs B0 α Lv o) args s 0 0 (AB B0)) (F0 m 0 ls []) := by
  unfold f_X12_fraction at hf
  refine lv_lload_n hc.x hc.b dX12_fraction_0 rfl (lv_at hl 1 rfl) ?_
  refine lv_lstore (lv' := [(5, .long x1), (0, .ref (α 60 g0)), (1, .long x1), (3, .long x3)]) hc.x hc.b dX12_fraction_1 hl (by decide) rfl (fun ls hl => ?_)
  refine lv_lload_n hc.x hc.b dX12_fraction_3 rfl (lv_at hl 3 rfl) ?_
  refine lv_lstore (lv' := [(7, .long x3), (5, .long x1), (0, .ref (α 60 g0)), (1, .long x1), (3, .long x3)]) hc.x hc.b dX12_fraction_4 hl (by decide) rfl (fun ls hl => ?_)
  refine w_X12_fraction_6 hc hr hL0 ?_ _ _ _ _ _ _ _ hf hd (lv_sub hl [2, 3, 4, 1, 0] rfl)
  intro x5_4 S_5 H locs ls hf hd hl
  refine lv_aload_n hc.x hc.b dX12_fraction_31 rfl (lv_at hl 0 rfl) ?_
  refine lv_lload hc.x hc.b dX12_fraction_32 (lv_at hl 3 rfl) ?_
  refine lv_lconst (v := 0) hc.x hc.b dX12_fraction_34 (by decide) ?_
  refine W.lcmp hc.x hc.b dX12_fraction_35 ?_
  refine jn_s (P := fun J_8 => ∀ (v_6 : Int64) (S_7 : St) (H : Heap) (locs : List Loc) (ls : Array Slot), J_8 v_6 S_7 = some o → Dy s D cs B0 α Lv S_7 H locs → lv_has ls 11 [(0, .ref (α 60 g0)), (3, .long x3), (5, .long x5_4)] → W p l e (Rm 0 0 0) s m args below meth c H locs 0 0 (MQ below (Qv D cs B0 α Lv o) args s 0 0 (AB B0)) (F0 m 47 ls [.long v_6, .ref (α 60 g0)])) hf ?_ (fun J_8 hJ_8 hf => ?_)
  · intro v_6 S_7 H locs ls hf hd hl
    refine fp_60_26 hc hd hL0 tw_1335 dX12_fraction_47 (fun H locs hd => ?_)
    obtain ⟨S_9, hd, hf⟩ := nmD hd hf
    refine lv_aload_n hc.x hc.b dX12_fraction_50 rfl (lv_at hl 0 rfl) ?_
    refine lv_lload hc.x hc.b dX12_fraction_51 (lv_at hl 2 rfl) ?_
    refine lv_lconst (v := 0) hc.x hc.b dX12_fraction_53 (by decide) ?_
    refine W.lcmp hc.x hc.b dX12_fraction_54 ?_
    refine jn_s (P := fun J_12 => ∀ (v_10 : Int64) (S_11 : St) (H : Heap) (locs : List Loc) (ls : Array Slot), J_12 v_10 S_11 = some o → Dy s D cs B0 α Lv S_11 H locs → lv_has ls 11 [] → W p l e (Rm 0 0 0) s m args below meth c H locs 0 0 (MQ below (Qv D cs B0 α Lv o) args s 0 0 (AB B0)) (F0 m 66 ls [.long v_10, .ref (α 60 g0)])) hf ?_ (fun J_12 hJ_12 hf => ?_)
    · intro v_10 S_11 H locs ls hf hd hl
      refine fp_60_27 hc hd hL0 tw_1336 dX12_fraction_66 (fun H locs hd => ?_)
      obtain ⟨S_13, hd, hf⟩ := nmD hd hf
      cases hf
      exact r_vret hc hd hr dX12_fraction_69
    refine lv_if_ne (tgt := 62) hc.x hc.b dX12_fraction_55 (by decide) (fun c_14 => ?_) (fun c_14 => ?_)
    · have hf := br_n c_14 hf
      refine lv_lload_n hc.x hc.b dX12_fraction_62 rfl (lv_at hl 1 rfl) ?_
      refine lv_lload hc.x hc.b dX12_fraction_63 (lv_at hl 2 rfl) ?_
      obtain ⟨hn_15, hf⟩ := ck_s hf
      refine lv_ldiv hc.x hc.b dX12_fraction_65 hn_15 ?_
      refine lv_topl (fun q_16 eq_16 => ?_)
      have hf := bv_n eq_16 hf
      exact hJ_12 q_16 S_9 _ _ _ hf hd (lv_sub hl [] rfl)
    · have hf := br_y c_14 hf
      refine lv_lconst (v := 0) hc.x hc.b dX12_fraction_58 (by decide) ?_
      refine lv_goto (tgt := 66) hc.x hc.b dX12_fraction_59 (by decide) ?_
      exact hJ_12 0 S_9 _ _ _ hf hd (lv_sub hl [] rfl)
  refine lv_if_ne (tgt := 43) hc.x hc.b dX12_fraction_36 (by decide) (fun c_17 => ?_) (fun c_17 => ?_)
  · have hf := br_n c_17 hf
    refine lv_lload_n hc.x hc.b dX12_fraction_43 rfl (lv_at hl 1 rfl) ?_
    refine lv_lload hc.x hc.b dX12_fraction_44 (lv_at hl 3 rfl) ?_
    obtain ⟨hn_18, hf⟩ := ck_s hf
    refine lv_ldiv hc.x hc.b dX12_fraction_46 hn_18 ?_
    refine lv_topl (fun q_19 eq_19 => ?_)
    have hf := bv_n eq_19 hf
    exact hJ_8 q_19 S_5 _ _ _ hf hd (lv_sub hl [0, 2, 3] rfl)
  · have hf := br_y c_17 hf
    refine lv_lconst (v := 0) hc.x hc.b dX12_fraction_39 (by decide) ?_
    refine lv_goto (tgt := 47) hc.x hc.b dX12_fraction_40 (by decide) ?_
    exact hJ_8 0 S_5 _ _ _ hf hd (lv_sub hl [0, 2, 3] rfl)
theorem c_X12_fraction (l : Launch) (D : va_G) (cs : Nat → ClassId) (B0 : Nat) (kt : (Nat → Nat) × (Nat → Nat)) (α : Nat → Nat → Nat) (Lv : Nat → Nat → Prop) (S : St) (g0 : Nat) (x1 : Int64) (x3 : Int64) (hcl : Cl Lv) (hL0 : Lv 60 g0) {o : St} (hf : f_X12_fraction g0 x1 x3 S = some o) : Met l yX12_fraction (wz yX12_fraction cX12_fraction 11 none) (Rm 0 0 0) (Pz D cs B0 kt α Lv S [.ref (α 60 g0), .long x1, .long x3]) (Qv D cs B0 α Lv o) 0 0 (AB B0) := met_of (by decide) rfl hcl (Nat.le_of_ble_eq_true rfl) (fun p e s m below meth c hc hr hd ls hl => b_X12_fraction hc hr hL0 hf hd hl)
theorem my_X12_fraction : MyV yX12_fraction "PumpCrossingModel" cX12_fraction 11 none 2 := ⟨tw_1714, (in_sel 73 (by decide +kernel) (by decide +kernel)), tw_11, tw_1715, by decide +kernel⟩
def f_X12_isLevel (g0 : Nat) (x1 : Int32) (S : St) : Option (Int32) := ck (inb 3 3179 = true) (on (f_X12_within (Int32.toInt64 x1) 0 (Int32.toInt64 ((gi S 61 g0 (nn 3)) - 1)) S) (fun r_3 => ck (r_3 = 0 ∨ r_3 = 1) (some r_3)))
set_option maxRecDepth 100000 in
set_option maxHeartbeats 4000000 in
theorem b_X12_isLevel (hc : Cx p s m args meth c cX12_isLevel 2 "PumpCrossingModel" D cs B0 kt Lv) (hr : meth.sig.returnType = some .boolean)  {o : Int32}  {S : St} {g0 : Nat} {x1 : Int32} (hL0 : Lv 60 g0) {H : Heap} {locs : List Loc} {ls : Array Slot} (hf : f_X12_isLevel g0 x1 S = some o) (hd : Dy s D cs B0 α Lv S H locs) (hl : lv_has ls 2 [(0, .ref (α 60 g0)), (1, .int x1)]) : W p l e (Rm 1 0 0) s m args below meth c H locs 0 0 (MQ below (Qi D cs B0 α Lv o S) args s 0 0 (AB B0)) (F0 m 0 ls []) := by
  unfold f_X12_isLevel at hf
  refine lv_iload_n hc.x hc.b dX12_isLevel_0 rfl (lv_at hl 1 rfl) ?_
  refine lv_i2l (v := Int32.toInt64 x1) hc.x hc.b dX12_isLevel_1 rfl ?_
  refine lv_lconst (v := 0) hc.x hc.b dX12_isLevel_2 (by decide) ?_
  refine lv_aload_n hc.x hc.b dX12_isLevel_3 rfl (lv_at hl 0 rfl) ?_
  refine fg_60_0 hc hd hL0 tw_1309 dX12_isLevel_4 ?_
  refine lv_iconst (v := 3) hc.x hc.b dX12_isLevel_7 (by decide) ?_
  obtain ⟨hi_1, hf⟩ := ck_s hf
  refine r_iald hc hd (cl_60_told hc.cl hL0) rfl hi_1 dX12_isLevel_8 ?_
  refine lv_iconst (v := 1) hc.x hc.b dX12_isLevel_9 (by decide) ?_
  refine lv_isub hc.x hc.b dX12_isLevel_10 ?_
  refine lv_i2l (v := Int32.toInt64 ((gi S 61 g0 (nn 3)) - 1)) hc.x hc.b dX12_isLevel_11 rfl ?_
  obtain ⟨r_3, hq_2, hf⟩ := on_s hf
  refine k_i (k_runS hc hd my_X12_within tw_1444 (c_X12_within l D cs B0 kt α Lv S (Int32.toInt64 x1) 0 (Int32.toInt64 ((gi S 61 g0 (nn 3)) - 1)) hc.cl   hq_2) rfl rfl hl.1 (Nat.le_of_ble_eq_true rfl) ⟨Nat.le_of_ble_eq_true rfl, Nat.le_of_ble_eq_true rfl, Nat.zero_le _, Nat.zero_le _⟩ dX12_isLevel_12) hd (fun H locs hd => ?_)
  obtain ⟨hz, hf⟩ := ck_s hf
  cases hf
  exact r_zret hc hd hr hz dX12_isLevel_15
theorem c_X12_isLevel (l : Launch) (D : va_G) (cs : Nat → ClassId) (B0 : Nat) (kt : (Nat → Nat) × (Nat → Nat)) (α : Nat → Nat → Nat) (Lv : Nat → Nat → Prop) (S : St) (g0 : Nat) (x1 : Int32) (hcl : Cl Lv) (hL0 : Lv 60 g0) {o : Int32} (hf : f_X12_isLevel g0 x1 S = some o) : Met l yX12_isLevel (wz yX12_isLevel cX12_isLevel 2 (some .boolean)) (Rm 1 0 0) (Pz D cs B0 kt α Lv S [.ref (α 60 g0), .int x1]) (Qi D cs B0 α Lv o S) 0 0 (AB B0) := met_of (by decide) rfl hcl (Nat.le_of_ble_eq_true rfl) (fun p e s m below meth c hc hr hd ls hl => b_X12_isLevel hc hr hL0 hf hd hl)
theorem my_X12_isLevel : MyV yX12_isLevel "PumpCrossingModel" cX12_isLevel 2 (some .boolean) 1 := ⟨tw_1730, (in_sel 75 (by decide +kernel) (by decide +kernel)), tw_11, tw_1731, by decide +kernel⟩
def f_X12_gain (g0 : Nat) (x1 : Int32) (x2 : Int32) (x3 : Int32) (x4 : Int32) (x5 : Int32) (S : St) : Option (Int32 × St) := on (f_X12_pairFault g0 x1 x2 S) (fun r_2 => bv (si S 60 g0 5 r_2) (fun S_3 => br ((gi S_3 60 g0 5) ≤ 0) (on (f_X12_isLevel g0 x3 S_3) (fun r_6 => bv (fun  (S_7 : St) => on2 (f_X12_fails g0 3 S_7) (fun r_11 S_10 => some (r_11, S_10))) (fun J_8 => br (r_6 = 0) (J_8 S_3) (on (f_X12_isLevel g0 x4 S_3) (fun r_14 => br (r_14 = 0) (J_8 S_3) (on (f_X12_layGains g0 x1 x2 S_3) (fun S_17 => on (f_X12_gainOf g0 x3 x4 x5 S_17) (fun r_19 => some (r_19, S_17))))))))) (some (0, S_3))))
set_option maxRecDepth 100000 in
set_option maxHeartbeats 4000000 in
theorem b_X12_gain (hc : Cx p s m args meth c cX12_gain 6 "PumpCrossingModel" D cs B0 kt Lv) (hr : meth.sig.returnType = some .int)  {o : Int32 × St}  {S : St} {g0 : Nat} {x1 : Int32} {x2 : Int32} {x3 : Int32} {x4 : Int32} {x5 : Int32} (hL0 : Lv 60 g0) {H : Heap} {locs : List Loc} {ls : Array Slot} (hf : f_X12_gain g0 x1 x2 x3 x4 x5 S = some o) (hd : Dy s D cs B0 α Lv S H locs) (hl : lv_has ls 6 [(0, .ref (α 60 g0)), (1, .int x1), (2, .int x2), (3, .int x3), (4, .int x4), (5, .int x5)]) : W p l e (Rm 3 0 0) s m args below meth c H locs 0 0 (MQ below (Qi D cs B0 α Lv o.1 o.2) args s 0 0 (AB B0)) (F0 m 0 ls []) := by
  unfold f_X12_gain at hf
  refine lv_aload_n hc.x hc.b dX12_gain_0 rfl (lv_at hl 0 rfl) ?_
  refine lv_aload_n hc.x hc.b dX12_gain_1 rfl (lv_at hl 0 rfl) ?_
  refine lv_iload_n hc.x hc.b dX12_gain_2 rfl (lv_at hl 1 rfl) ?_
  refine lv_iload_n hc.x hc.b dX12_gain_3 rfl (lv_at hl 2 rfl) ?_
  obtain ⟨r_2, hq_1, hf⟩ := on_s hf
  refine k_i (k_runV hc hd my_X12_pairFault tw_1724 hL0 rfl rfl rfl (c_X12_pairFault l D cs B0 kt α Lv S g0 x1 x2 hc.cl hL0  hq_1) rfl rfl hl.1 (Nat.le_of_ble_eq_true rfl) ⟨Nat.le_of_ble_eq_true rfl, Nat.le_of_ble_eq_true rfl, Nat.zero_le _, Nat.zero_le _⟩ dX12_gain_4) hd (fun H locs hd => ?_)
  refine fp_60_5 hc hd hL0 tw_1314 dX12_gain_7 (fun H locs hd => ?_)
  obtain ⟨S_3, hd, hf⟩ := nmD hd hf
  refine lv_aload_n hc.x hc.b dX12_gain_10 rfl (lv_at hl 0 rfl) ?_
  refine fg_60_5 hc hd hL0 tw_1314 dX12_gain_11 ?_
  refine lv_if_le (tgt := 19) hc.x hc.b dX12_gain_14 (by decide) (fun c_4 => ?_) (fun c_4 => ?_)
  · have hf := br_y c_4 hf
    refine lv_aload_n hc.x hc.b dX12_gain_19 rfl (lv_at hl 0 rfl) ?_
    refine lv_iload_n hc.x hc.b dX12_gain_20 rfl (lv_at hl 3 rfl) ?_
    obtain ⟨r_6, hq_5, hf⟩ := on_s hf
    refine k_i (k_runV hc hd my_X12_isLevel tw_1728 hL0 rfl rfl rfl (c_X12_isLevel l D cs B0 kt α Lv S_3 g0 x3 hc.cl hL0  hq_5) rfl rfl hl.1 (Nat.le_of_ble_eq_true rfl) ⟨Nat.le_of_ble_eq_true rfl, Nat.le_of_ble_eq_true rfl, Nat.zero_le _, Nat.zero_le _⟩ dX12_gain_21) hd (fun H locs hd => ?_)
    refine jn_s (P := fun J_8 => ∀  (S_7 : St) (H : Heap) (locs : List Loc) (ls : Array Slot), J_8 S_7 = some o → Dy s D cs B0 α Lv S_7 H locs → lv_has ls 6 [(0, .ref (α 60 g0))] → W p l e (Rm 3 0 0) s m args below meth c H locs 0 0 (MQ below (Qi D cs B0 α Lv o.1 o.2) args s 0 0 (AB B0)) (F0 m 36 ls [])) hf ?_ (fun J_8 hJ_8 hf => ?_)
    · intro S_7 H locs ls hf hd hl
      refine lv_aload_n hc.x hc.b dX12_gain_36 rfl (lv_at hl 0 rfl) ?_
      refine lv_iconst (v := 3) hc.x hc.b dX12_gain_37 (by decide) ?_
      obtain ⟨r_11, S_10, hq_9, hf⟩ := on2_s hf
      refine k_i (k_runV hc hd my_X12_fails tw_1439 hL0 rfl rfl rfl (c_X12_fails l D cs B0 kt α Lv S_7 g0 3 hc.cl hL0  hq_9) rfl rfl hl.1 (Nat.le_of_ble_eq_true rfl) ⟨Nat.le_of_ble_eq_true rfl, Nat.le_of_ble_eq_true rfl, Nat.zero_le _, Nat.zero_le _⟩ dX12_gain_38) hd (fun H locs hd => ?_)
      cases hf
      exact r_iret hc hd hr dX12_gain_41
    refine lv_if_eq (tgt := 36) hc.x hc.b dX12_gain_24 (by decide) (fun c_12 => ?_) (fun c_12 => ?_)
    · have hf := br_y c_12 hf
      exact hJ_8 S_3 _ _ _ hf hd (lv_sub hl [0] rfl)
    · have hf := br_n c_12 hf
      refine lv_aload_n hc.x hc.b dX12_gain_27 rfl (lv_at hl 0 rfl) ?_
      refine lv_iload hc.x hc.b dX12_gain_28 (lv_at hl 4 rfl) ?_
      obtain ⟨r_14, hq_13, hf⟩ := on_s hf
      refine k_i (k_runV hc hd my_X12_isLevel tw_1728 hL0 rfl rfl rfl (c_X12_isLevel l D cs B0 kt α Lv S_3 g0 x4 hc.cl hL0  hq_13) rfl rfl hl.1 (Nat.le_of_ble_eq_true rfl) ⟨Nat.le_of_ble_eq_true rfl, Nat.le_of_ble_eq_true rfl, Nat.zero_le _, Nat.zero_le _⟩ dX12_gain_30) hd (fun H locs hd => ?_)
      refine lv_if_ne (tgt := 42) hc.x hc.b dX12_gain_33 (by decide) (fun c_15 => ?_) (fun c_15 => ?_)
      · have hf := br_n c_15 hf
        refine lv_aload_n hc.x hc.b dX12_gain_42 rfl (lv_at hl 0 rfl) ?_
        refine lv_iload_n hc.x hc.b dX12_gain_43 rfl (lv_at hl 1 rfl) ?_
        refine lv_iload_n hc.x hc.b dX12_gain_44 rfl (lv_at hl 2 rfl) ?_
        obtain ⟨S_17, hq_16, hf⟩ := on_s hf
        refine k_v (k_runV hc hd my_X12_layGains tw_1732 hL0 rfl rfl rfl (c_X12_layGains l D cs B0 kt α Lv S_3 g0 x1 x2 hc.cl hL0  hq_16) rfl rfl hl.1 (Nat.le_of_ble_eq_true rfl) ⟨Nat.le_of_ble_eq_true rfl, Nat.le_of_ble_eq_true rfl, Nat.zero_le _, Nat.zero_le _⟩ dX12_gain_45) hd (fun H locs hd => ?_)
        refine lv_aload_n hc.x hc.b dX12_gain_48 rfl (lv_at hl 0 rfl) ?_
        refine lv_iload_n hc.x hc.b dX12_gain_49 rfl (lv_at hl 3 rfl) ?_
        refine lv_iload hc.x hc.b dX12_gain_50 (lv_at hl 4 rfl) ?_
        refine lv_iload hc.x hc.b dX12_gain_52 (lv_at hl 5 rfl) ?_
        obtain ⟨r_19, hq_18, hf⟩ := on_s hf
        refine k_i (k_runV hc hd my_X12_gainOf tw_1740 hL0 rfl rfl rfl (c_X12_gainOf l D cs B0 kt α Lv S_17 g0 x3 x4 x5 hc.cl hL0  hq_18) rfl rfl hl.1 (Nat.le_of_ble_eq_true rfl) ⟨Nat.le_of_ble_eq_true rfl, Nat.le_of_ble_eq_true rfl, Nat.zero_le _, Nat.zero_le _⟩ dX12_gain_54) hd (fun H locs hd => ?_)
        cases hf
        exact r_iret hc hd hr dX12_gain_57
      · have hf := br_y c_15 hf
        exact hJ_8 S_3 _ _ _ hf hd (lv_sub hl [0] rfl)
  · have hf := br_n c_4 hf
    refine lv_iconst (v := 0) hc.x hc.b dX12_gain_17 (by decide) ?_
    cases hf
    exact r_iret hc hd hr dX12_gain_18
theorem c_X12_gain (l : Launch) (D : va_G) (cs : Nat → ClassId) (B0 : Nat) (kt : (Nat → Nat) × (Nat → Nat)) (α : Nat → Nat → Nat) (Lv : Nat → Nat → Prop) (S : St) (g0 : Nat) (x1 : Int32) (x2 : Int32) (x3 : Int32) (x4 : Int32) (x5 : Int32) (hcl : Cl Lv) (hL0 : Lv 60 g0) {o : Int32 × St} (hf : f_X12_gain g0 x1 x2 x3 x4 x5 S = some o) : Met l yX12_gain (wz yX12_gain cX12_gain 6 (some .int)) (Rm 3 0 0) (Pz D cs B0 kt α Lv S [.ref (α 60 g0), .int x1, .int x2, .int x3, .int x4, .int x5]) (Qi D cs B0 α Lv o.1 o.2) 0 0 (AB B0) := met_of (by decide) rfl hcl (Nat.le_of_ble_eq_true rfl) (fun p e s m below meth c hc hr hd ls hl => b_X12_gain hc hr hL0 hf hd hl)
theorem my_X12_gain : MyV yX12_gain "PumpCrossingModel" cX12_gain 6 (some .int) 5 := ⟨tw_1721, tw_1722, tw_11, tw_1723, by decide +kernel⟩
def f_X12_layTurns_9 (g0 : Nat) (x3 : Int32) (K : St → Option (St)) : Nat → Int32 → St → Option (St)
  | 0, _, _ => none
  | n + 1, x4, S => br (8 ≤ x4) (K S) (ck (inb ((8 * x3) + x4) 328 = true) (bv (sl S 74 g0 (nn ((8 * x3) + x4)) 0) (fun S_5 => ck (inb ((8 * x3) + x4) 328 = true) (bv (sl S_5 75 g0 (nn ((8 * x3) + x4)) 0) (fun S_7 => bv (x4 + 1) (fun x4_8 => f_X12_layTurns_9 g0 x3 K n x4_8 S_7))))))
def f_X12_layTurns_99 (g0 : Nat) (x4 : Int32) (x5 : Int32) (x6 : Int32) (x7 : Int32) (K : St → Option (St)) : Nat → Int32 → St → Option (St)
  | 0, _, _ => none
  | n + 1, x8, S => ck (inb 3 3179 = true) (br ((gi S 61 g0 (nn 3)) ≤ x8) (K S) (bv (fun (v_21 : Int32) (S_22 : St) => bv (fun (v_24 : Int32) (S_25 : St) => on (f_X12_gainOf g0 v_21 v_24 0 S_25) (fun r_28 => ck (inb ((8 * (x4 + 1)) + x8) 328 = true) (bv ((Int32.toInt64 r_28) + (gl S_25 74 g0 (nn ((8 * (x4 + 1)) + x8)))) (fun x9_30 => bv (fun (v_31 : Int32) (S_32 : St) => bv (fun (v_34 : Int32) (S_35 : St) => on (f_X12_gainOf g0 v_31 v_34 1 S_35) (fun r_38 => ck (inb ((8 * (x4 + 1)) + x8) 328 = true) (bv ((Int32.toInt64 r_38) + (gl S_35 75 g0 (nn ((8 * (x4 + 1)) + x8)))) (fun x11_40 => bv (fun  (S_41 : St) => bv (x8 + 1) (fun x8_43 => f_X12_layTurns_99 g0 x4 x5 x6 x7 K n x8_43 S_41)) (fun J_42 => bv (fun  (S_44 : St) => ck (inb x6 328 = true) (bv (si S_44 73 g0 (nn x6) x8) (fun S_47 => ck (inb x6 328 = true) (bv (sl S_47 74 g0 (nn x6) x9_30) (fun S_49 => ck (inb x6 328 = true) (bv (sl S_49 75 g0 (nn x6) x11_40) (fun S_51 => J_42 S_51))))))) (fun J_45 => br (x8 ≤ 0) (J_45 S_35) (br (x7 = 0) (ck (inb x6 328 = true) (br (0 < (lg_cmp x11_40 (gl S_35 75 g0 (nn x6)))) (J_45 S_35) (J_42 S_35))) (ck (inb x6 328 = true) (br (0 < (lg_cmp x9_30 (gl S_35 74 g0 (nn x6)))) (J_45 S_35) (J_42 S_35)))))))))) (fun J_36 => br (x7 = 0) (J_36 x8 S_32) (J_36 x5 S_32))) (fun J_33 => br (x7 = 0) (J_33 x5 S_25) (J_33 x8 S_25)))))) (fun J_26 => br (x7 = 0) (J_26 x8 S_22) (J_26 x5 S_22))) (fun J_23 => br (x7 = 0) (J_23 x5 S) (J_23 x8 S))))
def f_X12_layTurns_61 (g0 : Nat) (x4 : Int32) (K : St → Option (St)) : Nat → Int32 → St → Option (St)
  | 0, _, _ => none
  | n + 1, x5, S => ck (inb 3 3179 = true) (br ((gi S 61 g0 (nn 3)) ≤ x5) (K S) (bv ((8 * x4) + x5) (fun x6_14 => bv (rmI x4 2) (fun q_15 => bv (fun (v_16 : Int32) (S_17 : St) => f_X12_layTurns_99 g0 x4 x5 x6_14 v_16 (fun  (S_62 : St) => bv (x5 + 1) (fun x5_63 => f_X12_layTurns_61 g0 x4 K n x5_63 S_62)) FU 0 S_17) (fun J_18 => br (q_15 = 0) (J_18 1 S) (J_18 0 S))))))
def f_X12_layTurns_53 (g0 : Nat) (K : St → Option (St)) : Nat → Int32 → St → Option (St)
  | 0, _, _ => none
  | n + 1, x4, S => br (x4 < 0) (K S) (f_X12_layTurns_61 g0 x4 (fun  (S_65 : St) => bv (x4 + (-1)) (fun x4_66 => f_X12_layTurns_53 g0 K n x4_66 S_65)) FU 0 S)
def f_X12_layTurns (g0 : Nat) (x1 : Int32) (x2 : Int32) (x3 : Int32) (S : St) : Option (St) := on (f_X12_layGains g0 x1 x2 S) (fun S_2 => f_X12_layTurns_9 g0 x3 (fun  (S_9 : St) => bv (x3 - 1) (fun x4_10 => f_X12_layTurns_53 g0 (fun  (S_67 : St) => some S_67) FU x4_10 S_9)) FU 0 S_2)
set_option maxRecDepth 100000 in
set_option maxHeartbeats 4000000 in
theorem w_X12_layTurns_9 (hc : Cx p s m args meth c cX12_layTurns 13 "PumpCrossingModel" D cs B0 kt Lv) (hr : meth.sig.returnType = none) {o : St}  {g0 : Nat} {x3 : Int32} {K : St → Option (St)} (hL0 : Lv 60 g0) (hK : ∀  (S : St) (H : Heap) (locs : List Loc) (ls : Array Slot), K S = some o → Dy s D cs B0 α Lv S H locs → lv_has ls 13 [(0, .ref (α 60 g0)), (3, .int x3)] → W p l e (Rm 3 0 0) s m args below meth c H locs 0 0 (MQ below (Qv D cs B0 α Lv o) args s 0 0 (AB B0)) (F0 m 48 ls [])) : ∀ (n : Nat) (x4 : Int32) (S : St) (H : Heap) (locs : List Loc) (ls : Array Slot), f_X12_layTurns_9 g0 x3 K n x4 S = some o → Dy s D cs B0 α Lv S H locs → lv_has ls 13 [(0, .ref (α 60 g0)), (3, .int x3), (4, .int x4)] → W p l e (Rm 3 0 0) s m args below meth c H locs 0 0 (MQ below (Qv D cs B0 α Lv o) args s 0 0 (AB B0)) (F0 m 9 ls []) := by
  intro n
  induction n with
  | zero =>
    intro x4 S H locs ls hf
    rw [f_X12_layTurns_9] at hf
    cases hf
  | succ n ih =>
    intro x4 S H locs ls hf hd hl
    rw [f_X12_layTurns_9] at hf
    refine lv_iload hc.x hc.b dX12_layTurns_9 (lv_at hl 2 rfl) ?_
    refine lv_bipush (v := 8) hc.x hc.b dX12_layTurns_11 (by decide) ?_
    refine lv_icmp_ge (tgt := 48) hc.x hc.b dX12_layTurns_13 (by decide) (fun c_3 => ?_) (fun c_3 => ?_)
    · have hf := br_y c_3 hf
      exact hK S _ _ _ hf hd (lv_sub hl [0, 1] rfl)
    · have hf := br_n c_3 hf
      refine lv_aload_n hc.x hc.b dX12_layTurns_16 rfl (lv_at hl 0 rfl) ?_
      refine fg_60_30 hc hd hL0 tw_1339 dX12_layTurns_17 ?_
      refine lv_bipush (v := 8) hc.x hc.b dX12_layTurns_20 (by decide) ?_
      refine lv_iload_n hc.x hc.b dX12_layTurns_22 rfl (lv_at hl 1 rfl) ?_
      refine lv_imul hc.x hc.b dX12_layTurns_23 ?_
      refine lv_iload hc.x hc.b dX12_layTurns_24 (lv_at hl 2 rfl) ?_
      refine lv_iadd hc.x hc.b dX12_layTurns_26 ?_
      refine lv_lconst (v := 0) hc.x hc.b dX12_layTurns_27 (by decide) ?_
      obtain ⟨hi_4, hf⟩ := ck_s hf
      refine r_last hc hd (cl_60_mine hc.cl hL0) (fun _ => rfl) hi_4 dX12_layTurns_28 (fun H locs hd => ?_)
      obtain ⟨S_5, hd, hf⟩ := nmD hd hf
      refine lv_aload_n hc.x hc.b dX12_layTurns_29 rfl (lv_at hl 0 rfl) ?_
      refine fg_60_31 hc hd hL0 tw_1340 dX12_layTurns_30 ?_
      refine lv_bipush (v := 8) hc.x hc.b dX12_layTurns_33 (by decide) ?_
      refine lv_iload_n hc.x hc.b dX12_layTurns_35 rfl (lv_at hl 1 rfl) ?_
      refine lv_imul hc.x hc.b dX12_layTurns_36 ?_
      refine lv_iload hc.x hc.b dX12_layTurns_37 (lv_at hl 2 rfl) ?_
      refine lv_iadd hc.x hc.b dX12_layTurns_39 ?_
      refine lv_lconst (v := 0) hc.x hc.b dX12_layTurns_40 (by decide) ?_
      obtain ⟨hi_6, hf⟩ := ck_s hf
      refine r_last hc hd (cl_60_its hc.cl hL0) (fun _ => rfl) hi_6 dX12_layTurns_41 (fun H locs hd => ?_)
      obtain ⟨S_7, hd, hf⟩ := nmD hd hf
      obtain ⟨x4_8, ex4_8⟩ : ∃ z : Int32, z = x4 + 1 := ⟨_, rfl⟩
      have hf := bv_n ex4_8 hf
      refine lv_iinc (v := x4_8) (lv' := [(4, .int x4_8), (0, .ref (α 60 g0)), (3, .int x3)]) hc.x hc.b dX12_layTurns_42 hl (k := 2) rfl (by rw [ex4_8]; rfl) (by decide) rfl (fun ls hl => ?_)
      refine lv_goto (tgt := 9) hc.x hc.b dX12_layTurns_45 (by decide) ?_
      exact ih x4_8 S_7 _ _ _ hf hd (lv_sub hl [1, 2, 0] rfl)
set_option maxRecDepth 100000 in
set_option maxHeartbeats 4000000 in
theorem w_X12_layTurns_99 (hc : Cx p s m args meth c cX12_layTurns 13 "PumpCrossingModel" D cs B0 kt Lv) (hr : meth.sig.returnType = none) {o : St}  {g0 : Nat} {x4 : Int32} {x5 : Int32} {x6 : Int32} {x7 : Int32} {K : St → Option (St)} (hL0 : Lv 60 g0) (hK : ∀  (S : St) (H : Heap) (locs : List Loc) (ls : Array Slot), K S = some o → Dy s D cs B0 α Lv S H locs → lv_has ls 13 [(0, .ref (α 60 g0)), (4, .int x4), (5, .int x5)] → W p l e (Rm 3 0 0) s m args below meth c H locs 0 0 (MQ below (Qv D cs B0 α Lv o) args s 0 0 (AB B0)) (F0 m 281 ls [])) : ∀ (n : Nat) (x8 : Int32) (S : St) (H : Heap) (locs : List Loc) (ls : Array Slot), f_X12_layTurns_99 g0 x4 x5 x6 x7 K n x8 S = some o → Dy s D cs B0 α Lv S H locs → lv_has ls 13 [(0, .ref (α 60 g0)), (4, .int x4), (5, .int x5), (6, .int x6), (7, .int x7), (8, .int x8)] → W p l e (Rm 3 0 0) s m args below meth c H locs 0 0 (MQ below (Qv D cs B0 α Lv o) args s 0 0 (AB B0)) (F0 m 99 ls []) := by
  intro n
  induction n with
  | zero =>
    intro x8 S H locs ls hf
    rw [f_X12_layTurns_99] at hf
    cases hf
  | succ n ih =>
    intro x8 S H locs ls hf hd hl
    rw [f_X12_layTurns_99] at hf
    refine lv_iload hc.x hc.b dX12_layTurns_99 (lv_at hl 5 rfl) ?_
    refine lv_aload_n hc.x hc.b dX12_layTurns_101 rfl (lv_at hl 0 rfl) ?_
    refine fg_60_0 hc hd hL0 tw_1309 dX12_layTurns_102 ?_
    refine lv_iconst (v := 3) hc.x hc.b dX12_layTurns_105 (by decide) ?_
    obtain ⟨hi_19, hf⟩ := ck_s hf
    refine r_iald hc hd (cl_60_told hc.cl hL0) rfl hi_19 dX12_layTurns_106 ?_
    refine lv_icmp_ge (tgt := 281) hc.x hc.b dX12_layTurns_107 (by decide) (fun c_20 => ?_) (fun c_20 => ?_)
    · have hf := br_y c_20 hf
      exact hK S _ _ _ hf hd (lv_sub hl [0, 1, 2] rfl)
    · have hf := br_n c_20 hf
      refine lv_aload_n hc.x hc.b dX12_layTurns_110 rfl (lv_at hl 0 rfl) ?_
      refine lv_iload hc.x hc.b dX12_layTurns_111 (lv_at hl 4 rfl) ?_
      refine jn_s (P := fun J_23 => ∀ (v_21 : Int32) (S_22 : St) (H : Heap) (locs : List Loc) (ls : Array Slot), J_23 v_21 S_22 = some o → Dy s D cs B0 α Lv S_22 H locs → lv_has ls 13 [(0, .ref (α 60 g0)), (4, .int x4), (5, .int x5), (6, .int x6), (7, .int x7), (8, .int x8)] → W p l e (Rm 3 0 0) s m args below meth c H locs 0 0 (MQ below (Qv D cs B0 α Lv o) args s 0 0 (AB B0)) (F0 m 123 ls [.int v_21, .ref (α 60 g0)])) hf ?_ (fun J_23 hJ_23 hf => ?_)
      · intro v_21 S_22 H locs ls hf hd hl
        refine lv_iload hc.x hc.b dX12_layTurns_123 (lv_at hl 4 rfl) ?_
        refine jn_s (P := fun J_26 => ∀ (v_24 : Int32) (S_25 : St) (H : Heap) (locs : List Loc) (ls : Array Slot), J_26 v_24 S_25 = some o → Dy s D cs B0 α Lv S_25 H locs → lv_has ls 13 [(0, .ref (α 60 g0)), (4, .int x4), (5, .int x5), (6, .int x6), (7, .int x7), (8, .int x8)] → W p l e (Rm 3 0 0) s m args below meth c H locs 0 0 (MQ below (Qv D cs B0 α Lv o) args s 0 0 (AB B0)) (F0 m 135 ls [.int v_24, .int v_21, .ref (α 60 g0)])) hf ?_ (fun J_26 hJ_26 hf => ?_)
        · intro v_24 S_25 H locs ls hf hd hl
          refine lv_iconst (v := 0) hc.x hc.b dX12_layTurns_135 (by decide) ?_
          obtain ⟨r_28, hq_27, hf⟩ := on_s hf
          refine k_i (k_runV hc hd my_X12_gainOf tw_1740 hL0 rfl rfl rfl (c_X12_gainOf l D cs B0 kt α Lv S_25 g0 v_21 v_24 0 hc.cl hL0  hq_27) rfl rfl hl.1 (Nat.le_of_ble_eq_true rfl) ⟨Nat.le_of_ble_eq_true rfl, Nat.le_of_ble_eq_true rfl, Nat.zero_le _, Nat.zero_le _⟩ dX12_layTurns_136) hd (fun H locs hd => ?_)
          refine lv_i2l (v := Int32.toInt64 r_28) hc.x hc.b dX12_layTurns_139 rfl ?_
          refine lv_aload_n hc.x hc.b dX12_layTurns_140 rfl (lv_at hl 0 rfl) ?_
          refine fg_60_30 hc hd hL0 tw_1339 dX12_layTurns_141 ?_
          refine lv_bipush (v := 8) hc.x hc.b dX12_layTurns_144 (by decide) ?_
          refine lv_iload hc.x hc.b dX12_layTurns_146 (lv_at hl 1 rfl) ?_
          refine lv_iconst (v := 1) hc.x hc.b dX12_layTurns_148 (by decide) ?_
          refine lv_iadd hc.x hc.b dX12_layTurns_149 ?_
          refine lv_imul hc.x hc.b dX12_layTurns_150 ?_
          refine lv_iload hc.x hc.b dX12_layTurns_151 (lv_at hl 5 rfl) ?_
          refine lv_iadd hc.x hc.b dX12_layTurns_153 ?_
          obtain ⟨hi_29, hf⟩ := ck_s hf
          refine r_lald hc hd (cl_60_mine hc.cl hL0) rfl hi_29 dX12_layTurns_154 ?_
          refine lv_ladd hc.x hc.b dX12_layTurns_155 ?_
          refine lv_topl (fun x9_30 ex9_30 => ?_)
          have hf := bv_n ex9_30 hf
          refine lv_lstore (lv' := [(9, .long x9_30), (0, .ref (α 60 g0)), (4, .int x4), (5, .int x5), (6, .int x6), (7, .int x7), (8, .int x8)]) hc.x hc.b dX12_layTurns_156 hl (by decide) rfl (fun ls hl => ?_)
          refine lv_aload_n hc.x hc.b dX12_layTurns_158 rfl (lv_at hl 1 rfl) ?_
          refine lv_iload hc.x hc.b dX12_layTurns_159 (lv_at hl 5 rfl) ?_
          refine jn_s (P := fun J_33 => ∀ (v_31 : Int32) (S_32 : St) (H : Heap) (locs : List Loc) (ls : Array Slot), J_33 v_31 S_32 = some o → Dy s D cs B0 α Lv S_32 H locs → lv_has ls 13 [(0, .ref (α 60 g0)), (4, .int x4), (5, .int x5), (6, .int x6), (7, .int x7), (8, .int x8), (9, .long x9_30)] → W p l e (Rm 3 0 0) s m args below meth c H locs 0 0 (MQ below (Qv D cs B0 α Lv o) args s 0 0 (AB B0)) (F0 m 171 ls [.int v_31, .ref (α 60 g0)])) hf ?_ (fun J_33 hJ_33 hf => ?_)
          · intro v_31 S_32 H locs ls hf hd hl
            refine lv_iload hc.x hc.b dX12_layTurns_171 (lv_at hl 4 rfl) ?_
            refine jn_s (P := fun J_36 => ∀ (v_34 : Int32) (S_35 : St) (H : Heap) (locs : List Loc) (ls : Array Slot), J_36 v_34 S_35 = some o → Dy s D cs B0 α Lv S_35 H locs → lv_has ls 13 [(0, .ref (α 60 g0)), (4, .int x4), (5, .int x5), (6, .int x6), (7, .int x7), (8, .int x8), (9, .long x9_30)] → W p l e (Rm 3 0 0) s m args below meth c H locs 0 0 (MQ below (Qv D cs B0 α Lv o) args s 0 0 (AB B0)) (F0 m 183 ls [.int v_34, .int v_31, .ref (α 60 g0)])) hf ?_ (fun J_36 hJ_36 hf => ?_)
            · intro v_34 S_35 H locs ls hf hd hl
              refine lv_iconst (v := 1) hc.x hc.b dX12_layTurns_183 (by decide) ?_
              obtain ⟨r_38, hq_37, hf⟩ := on_s hf
              refine k_i (k_runV hc hd my_X12_gainOf tw_1740 hL0 rfl rfl rfl (c_X12_gainOf l D cs B0 kt α Lv S_35 g0 v_31 v_34 1 hc.cl hL0  hq_37) rfl rfl hl.1 (Nat.le_of_ble_eq_true rfl) ⟨Nat.le_of_ble_eq_true rfl, Nat.le_of_ble_eq_true rfl, Nat.zero_le _, Nat.zero_le _⟩ dX12_layTurns_184) hd (fun H locs hd => ?_)
              refine lv_i2l (v := Int32.toInt64 r_38) hc.x hc.b dX12_layTurns_187 rfl ?_
              refine lv_aload_n hc.x hc.b dX12_layTurns_188 rfl (lv_at hl 0 rfl) ?_
              refine fg_60_31 hc hd hL0 tw_1340 dX12_layTurns_189 ?_
              refine lv_bipush (v := 8) hc.x hc.b dX12_layTurns_192 (by decide) ?_
              refine lv_iload hc.x hc.b dX12_layTurns_194 (lv_at hl 1 rfl) ?_
              refine lv_iconst (v := 1) hc.x hc.b dX12_layTurns_196 (by decide) ?_
              refine lv_iadd hc.x hc.b dX12_layTurns_197 ?_
              refine lv_imul hc.x hc.b dX12_layTurns_198 ?_
              refine lv_iload hc.x hc.b dX12_layTurns_199 (lv_at hl 5 rfl) ?_
              refine lv_iadd hc.x hc.b dX12_layTurns_201 ?_
              obtain ⟨hi_39, hf⟩ := ck_s hf
              refine r_lald hc hd (cl_60_its hc.cl hL0) rfl hi_39 dX12_layTurns_202 ?_
              refine lv_ladd hc.x hc.b dX12_layTurns_203 ?_
              refine lv_topl (fun x11_40 ex11_40 => ?_)
              have hf := bv_n ex11_40 hf
              refine lv_lstore (lv' := [(11, .long x11_40), (0, .ref (α 60 g0)), (4, .int x4), (5, .int x5), (6, .int x6), (7, .int x7), (8, .int x8), (9, .long x9_30)]) hc.x hc.b dX12_layTurns_204 hl (by decide) rfl (fun ls hl => ?_)
              refine lv_iload hc.x hc.b dX12_layTurns_206 (lv_at hl 6 rfl) ?_
              refine jn_s (P := fun J_42 => ∀  (S_41 : St) (H : Heap) (locs : List Loc) (ls : Array Slot), J_42 S_41 = some o → Dy s D cs B0 α Lv S_41 H locs → lv_has ls 13 [(0, .ref (α 60 g0)), (4, .int x4), (5, .int x5), (6, .int x6), (7, .int x7), (8, .int x8)] → W p l e (Rm 3 0 0) s m args below meth c H locs 0 0 (MQ below (Qv D cs B0 α Lv o) args s 0 0 (AB B0)) (F0 m 275 ls [])) hf ?_ (fun J_42 hJ_42 hf => ?_)
              · intro S_41 H locs ls hf hd hl
                obtain ⟨x8_43, ex8_43⟩ : ∃ z : Int32, z = x8 + 1 := ⟨_, rfl⟩
                have hf := bv_n ex8_43 hf
                refine lv_iinc (v := x8_43) (lv' := [(8, .int x8_43), (0, .ref (α 60 g0)), (4, .int x4), (5, .int x5), (6, .int x6), (7, .int x7)]) hc.x hc.b dX12_layTurns_275 hl (k := 5) rfl (by rw [ex8_43]; rfl) (by decide) rfl (fun ls hl => ?_)
                refine lv_goto (tgt := 99) hc.x hc.b dX12_layTurns_278 (by decide) ?_
                exact ih x8_43 S_41 _ _ _ hf hd (lv_sub hl [1, 2, 3, 4, 5, 0] rfl)
              refine jn_s (P := fun J_45 => ∀  (S_44 : St) (H : Heap) (locs : List Loc) (ls : Array Slot), J_45 S_44 = some o → Dy s D cs B0 α Lv S_44 H locs → lv_has ls 13 [(0, .ref (α 60 g0)), (4, .int x4), (5, .int x5), (6, .int x6), (7, .int x7), (8, .int x8), (9, .long x9_30), (11, .long x11_40)] → W p l e (Rm 3 0 0) s m args below meth c H locs 0 0 (MQ below (Qv D cs B0 α Lv o) args s 0 0 (AB B0)) (F0 m 248 ls [])) hf ?_ (fun J_45 hJ_45 hf => ?_)
              · intro S_44 H locs ls hf hd hl
                refine lv_aload_n hc.x hc.b dX12_layTurns_248 rfl (lv_at hl 0 rfl) ?_
                refine fg_60_29 hc hd hL0 tw_1338 dX12_layTurns_249 ?_
                refine lv_iload hc.x hc.b dX12_layTurns_252 (lv_at hl 3 rfl) ?_
                refine lv_iload hc.x hc.b dX12_layTurns_254 (lv_at hl 5 rfl) ?_
                obtain ⟨hi_46, hf⟩ := ck_s hf
                refine r_iast hc hd (cl_60_sets hc.cl hL0) (fun _ => rfl) hi_46 dX12_layTurns_256 (fun H locs hd => ?_)
                obtain ⟨S_47, hd, hf⟩ := nmD hd hf
                refine lv_aload_n hc.x hc.b dX12_layTurns_257 rfl (lv_at hl 0 rfl) ?_
                refine fg_60_30 hc hd hL0 tw_1339 dX12_layTurns_258 ?_
                refine lv_iload hc.x hc.b dX12_layTurns_261 (lv_at hl 3 rfl) ?_
                refine lv_lload hc.x hc.b dX12_layTurns_263 (lv_at hl 6 rfl) ?_
                obtain ⟨hi_48, hf⟩ := ck_s hf
                refine r_last hc hd (cl_60_mine hc.cl hL0) (fun _ => rfl) hi_48 dX12_layTurns_265 (fun H locs hd => ?_)
                obtain ⟨S_49, hd, hf⟩ := nmD hd hf
                refine lv_aload_n hc.x hc.b dX12_layTurns_266 rfl (lv_at hl 0 rfl) ?_
                refine fg_60_31 hc hd hL0 tw_1340 dX12_layTurns_267 ?_
                refine lv_iload hc.x hc.b dX12_layTurns_270 (lv_at hl 3 rfl) ?_
                refine lv_lload hc.x hc.b dX12_layTurns_272 (lv_at hl 7 rfl) ?_
                obtain ⟨hi_50, hf⟩ := ck_s hf
                refine r_last hc hd (cl_60_its hc.cl hL0) (fun _ => rfl) hi_50 dX12_layTurns_274 (fun H locs hd => ?_)
                obtain ⟨S_51, hd, hf⟩ := nmD hd hf
                exact hJ_42 S_51 _ _ _ hf hd (lv_sub hl [0, 1, 2, 3, 4, 5] rfl)
              refine lv_if_le (tgt := 248) hc.x hc.b dX12_layTurns_208 (by decide) (fun c_52 => ?_) (fun c_52 => ?_)
              · have hf := br_y c_52 hf
                exact hJ_45 S_35 _ _ _ hf hd (lv_sub hl [1, 2, 3, 4, 5, 6, 7, 0] rfl)
              · have hf := br_n c_52 hf
                refine lv_iload hc.x hc.b dX12_layTurns_211 (lv_at hl 5 rfl) ?_
                refine lv_if_eq (tgt := 232) hc.x hc.b dX12_layTurns_213 (by decide) (fun c_53 => ?_) (fun c_53 => ?_)
                · have hf := br_y c_53 hf
                  refine lv_lload hc.x hc.b dX12_layTurns_232 (lv_at hl 0 rfl) ?_
                  refine lv_aload_n hc.x hc.b dX12_layTurns_234 rfl (lv_at hl 1 rfl) ?_
                  refine fg_60_31 hc hd hL0 tw_1340 dX12_layTurns_235 ?_
                  refine lv_iload hc.x hc.b dX12_layTurns_238 (lv_at hl 4 rfl) ?_
                  obtain ⟨hi_54, hf⟩ := ck_s hf
                  refine r_lald hc hd (cl_60_its hc.cl hL0) rfl hi_54 dX12_layTurns_240 ?_
                  refine W.lcmp hc.x hc.b dX12_layTurns_241 ?_
                  refine lv_if_gt (tgt := 248) hc.x hc.b dX12_layTurns_242 (by decide) (fun c_55 => ?_) (fun c_55 => ?_)
                  · have hf := br_y c_55 hf
                    exact hJ_45 S_35 _ _ _ hf hd (lv_sub hl [1, 2, 3, 4, 5, 6, 7, 0] rfl)
                  · have hf := br_n c_55 hf
                    refine lv_goto (tgt := 275) hc.x hc.b dX12_layTurns_245 (by decide) ?_
                    exact hJ_42 S_35 _ _ _ hf hd (lv_sub hl [1, 2, 3, 4, 5, 6] rfl)
                · have hf := br_n c_53 hf
                  refine lv_lload hc.x hc.b dX12_layTurns_216 (lv_at hl 7 rfl) ?_
                  refine lv_aload_n hc.x hc.b dX12_layTurns_218 rfl (lv_at hl 1 rfl) ?_
                  refine fg_60_30 hc hd hL0 tw_1339 dX12_layTurns_219 ?_
                  refine lv_iload hc.x hc.b dX12_layTurns_222 (lv_at hl 4 rfl) ?_
                  obtain ⟨hi_56, hf⟩ := ck_s hf
                  refine r_lald hc hd (cl_60_mine hc.cl hL0) rfl hi_56 dX12_layTurns_224 ?_
                  refine W.lcmp hc.x hc.b dX12_layTurns_225 ?_
                  refine lv_if_gt (tgt := 248) hc.x hc.b dX12_layTurns_226 (by decide) (fun c_57 => ?_) (fun c_57 => ?_)
                  · have hf := br_y c_57 hf
                    exact hJ_45 S_35 _ _ _ hf hd (lv_sub hl [1, 2, 3, 4, 5, 6, 7, 0] rfl)
                  · have hf := br_n c_57 hf
                    refine lv_goto (tgt := 275) hc.x hc.b dX12_layTurns_229 (by decide) ?_
                    exact hJ_42 S_35 _ _ _ hf hd (lv_sub hl [1, 2, 3, 4, 5, 6] rfl)
            refine lv_if_eq (tgt := 181) hc.x hc.b dX12_layTurns_173 (by decide) (fun c_58 => ?_) (fun c_58 => ?_)
            · have hf := br_y c_58 hf
              refine lv_iload hc.x hc.b dX12_layTurns_181 (lv_at hl 5 rfl) ?_
              exact hJ_36 x8 S_32 _ _ _ hf hd (lv_sub hl [0, 1, 2, 3, 4, 5, 6] rfl)
            · have hf := br_n c_58 hf
              refine lv_iload hc.x hc.b dX12_layTurns_176 (lv_at hl 2 rfl) ?_
              refine lv_goto (tgt := 183) hc.x hc.b dX12_layTurns_178 (by decide) ?_
              exact hJ_36 x5 S_32 _ _ _ hf hd (lv_sub hl [0, 1, 2, 3, 4, 5, 6] rfl)
          refine lv_if_eq (tgt := 169) hc.x hc.b dX12_layTurns_161 (by decide) (fun c_59 => ?_) (fun c_59 => ?_)
          · have hf := br_y c_59 hf
            refine lv_iload hc.x hc.b dX12_layTurns_169 (lv_at hl 3 rfl) ?_
            exact hJ_33 x5 S_25 _ _ _ hf hd (lv_sub hl [1, 2, 3, 4, 5, 6, 0] rfl)
          · have hf := br_n c_59 hf
            refine lv_iload hc.x hc.b dX12_layTurns_164 (lv_at hl 6 rfl) ?_
            refine lv_goto (tgt := 171) hc.x hc.b dX12_layTurns_166 (by decide) ?_
            exact hJ_33 x8 S_25 _ _ _ hf hd (lv_sub hl [1, 2, 3, 4, 5, 6, 0] rfl)
        refine lv_if_eq (tgt := 133) hc.x hc.b dX12_layTurns_125 (by decide) (fun c_60 => ?_) (fun c_60 => ?_)
        · have hf := br_y c_60 hf
          refine lv_iload hc.x hc.b dX12_layTurns_133 (lv_at hl 5 rfl) ?_
          exact hJ_26 x8 S_22 _ _ _ hf hd (lv_sub hl [0, 1, 2, 3, 4, 5] rfl)
        · have hf := br_n c_60 hf
          refine lv_iload hc.x hc.b dX12_layTurns_128 (lv_at hl 2 rfl) ?_
          refine lv_goto (tgt := 135) hc.x hc.b dX12_layTurns_130 (by decide) ?_
          exact hJ_26 x5 S_22 _ _ _ hf hd (lv_sub hl [0, 1, 2, 3, 4, 5] rfl)
      refine lv_if_eq (tgt := 121) hc.x hc.b dX12_layTurns_113 (by decide) (fun c_61 => ?_) (fun c_61 => ?_)
      · have hf := br_y c_61 hf
        refine lv_iload hc.x hc.b dX12_layTurns_121 (lv_at hl 2 rfl) ?_
        exact hJ_23 x5 S _ _ _ hf hd (lv_sub hl [0, 1, 2, 3, 4, 5] rfl)
      · have hf := br_n c_61 hf
        refine lv_iload hc.x hc.b dX12_layTurns_116 (lv_at hl 5 rfl) ?_
        refine lv_goto (tgt := 123) hc.x hc.b dX12_layTurns_118 (by decide) ?_
        exact hJ_23 x8 S _ _ _ hf hd (lv_sub hl [0, 1, 2, 3, 4, 5] rfl)
set_option maxRecDepth 100000 in
set_option maxHeartbeats 4000000 in
theorem w_X12_layTurns_61 (hc : Cx p s m args meth c cX12_layTurns 13 "PumpCrossingModel" D cs B0 kt Lv) (hr : meth.sig.returnType = none) {o : St}  {g0 : Nat} {x4 : Int32} {K : St → Option (St)} (hL0 : Lv 60 g0) (hK : ∀  (S : St) (H : Heap) (locs : List Loc) (ls : Array Slot), K S = some o → Dy s D cs B0 α Lv S H locs → lv_has ls 13 [(0, .ref (α 60 g0)), (4, .int x4)] → W p l e (Rm 3 0 0) s m args below meth c H locs 0 0 (MQ below (Qv D cs B0 α Lv o) args s 0 0 (AB B0)) (F0 m 287 ls [])) : ∀ (n : Nat) (x5 : Int32) (S : St) (H : Heap) (locs : List Loc) (ls : Array Slot), f_X12_layTurns_61 g0 x4 K n x5 S = some o → Dy s D cs B0 α Lv S H locs → lv_has ls 13 [(0, .ref (α 60 g0)), (4, .int x4), (5, .int x5)] → W p l e (Rm 3 0 0) s m args below meth c H locs 0 0 (MQ below (Qv D cs B0 α Lv o) args s 0 0 (AB B0)) (F0 m 61 ls []) := by
  intro n
  induction n with
  | zero =>
    intro x5 S H locs ls hf
    rw [f_X12_layTurns_61] at hf
    cases hf
  | succ n ih =>
    intro x5 S H locs ls hf hd hl
    rw [f_X12_layTurns_61] at hf
    refine lv_iload hc.x hc.b dX12_layTurns_61 (lv_at hl 2 rfl) ?_
    refine lv_aload_n hc.x hc.b dX12_layTurns_63 rfl (lv_at hl 0 rfl) ?_
    refine fg_60_0 hc hd hL0 tw_1309 dX12_layTurns_64 ?_
    refine lv_iconst (v := 3) hc.x hc.b dX12_layTurns_67 (by decide) ?_
    obtain ⟨hi_12, hf⟩ := ck_s hf
    refine r_iald hc hd (cl_60_told hc.cl hL0) rfl hi_12 dX12_layTurns_68 ?_
    refine lv_icmp_ge (tgt := 287) hc.x hc.b dX12_layTurns_69 (by decide) (fun c_13 => ?_) (fun c_13 => ?_)
    · have hf := br_y c_13 hf
      exact hK S _ _ _ hf hd (lv_sub hl [0, 1] rfl)
    · have hf := br_n c_13 hf
      refine lv_bipush (v := 8) hc.x hc.b dX12_layTurns_72 (by decide) ?_
      refine lv_iload hc.x hc.b dX12_layTurns_74 (lv_at hl 1 rfl) ?_
      refine lv_imul hc.x hc.b dX12_layTurns_76 ?_
      refine lv_iload hc.x hc.b dX12_layTurns_77 (lv_at hl 2 rfl) ?_
      refine lv_iadd hc.x hc.b dX12_layTurns_79 ?_
      refine lv_topi (fun x6_14 ex6_14 => ?_)
      have hf := bv_n ex6_14 hf
      refine lv_istore (lv' := [(6, .int x6_14), (0, .ref (α 60 g0)), (4, .int x4), (5, .int x5)]) hc.x hc.b dX12_layTurns_80 hl (by decide) rfl (fun ls hl => ?_)
      refine lv_iload hc.x hc.b dX12_layTurns_82 (lv_at hl 2 rfl) ?_
      refine lv_iconst (v := 2) hc.x hc.b dX12_layTurns_84 (by decide) ?_
      refine lv_irem hc.x hc.b dX12_layTurns_85 (by decide) ?_
      refine lv_topi (fun q_15 eq_15 => ?_)
      have hf := bv_n eq_15 hf
      refine jn_s (P := fun J_18 => ∀ (v_16 : Int32) (S_17 : St) (H : Heap) (locs : List Loc) (ls : Array Slot), J_18 v_16 S_17 = some o → Dy s D cs B0 α Lv S_17 H locs → lv_has ls 13 [(0, .ref (α 60 g0)), (4, .int x4), (5, .int x5), (6, .int x6_14)] → W p l e (Rm 3 0 0) s m args below meth c H locs 0 0 (MQ below (Qv D cs B0 α Lv o) args s 0 0 (AB B0)) (F0 m 94 ls [.int v_16])) hf ?_ (fun J_18 hJ_18 hf => ?_)
      · intro v_16 S_17 H locs ls hf hd hl
        refine lv_istore (lv' := [(7, .int v_16), (0, .ref (α 60 g0)), (4, .int x4), (5, .int x5), (6, .int x6_14)]) hc.x hc.b dX12_layTurns_94 hl (by decide) rfl (fun ls hl => ?_)
        refine lv_iconst (v := 0) hc.x hc.b dX12_layTurns_96 (by decide) ?_
        refine lv_istore (lv' := [(8, .int 0), (7, .int v_16), (0, .ref (α 60 g0)), (4, .int x4), (5, .int x5), (6, .int x6_14)]) hc.x hc.b dX12_layTurns_97 hl (by decide) rfl (fun ls hl => ?_)
        refine w_X12_layTurns_99 hc hr hL0 ?_ _ _ _ _ _ _ hf hd (lv_sub hl [2, 3, 4, 5, 1, 0] rfl)
        intro S_62 H locs ls hf hd hl
        obtain ⟨x5_63, ex5_63⟩ : ∃ z : Int32, z = x5 + 1 := ⟨_, rfl⟩
        have hf := bv_n ex5_63 hf
        refine lv_iinc (v := x5_63) (lv' := [(5, .int x5_63), (0, .ref (α 60 g0)), (4, .int x4)]) hc.x hc.b dX12_layTurns_281 hl (k := 2) rfl (by rw [ex5_63]; rfl) (by decide) rfl (fun ls hl => ?_)
        refine lv_goto (tgt := 61) hc.x hc.b dX12_layTurns_284 (by decide) ?_
        exact ih x5_63 S_62 _ _ _ hf hd (lv_sub hl [1, 2, 0] rfl)
      refine lv_if_ne (tgt := 93) hc.x hc.b dX12_layTurns_86 (by decide) (fun c_64 => ?_) (fun c_64 => ?_)
      · have hf := br_n c_64 hf
        refine lv_iconst (v := 0) hc.x hc.b dX12_layTurns_93 (by decide) ?_
        exact hJ_18 0 S _ _ _ hf hd (lv_sub hl [1, 2, 3, 0] rfl)
      · have hf := br_y c_64 hf
        refine lv_iconst (v := 1) hc.x hc.b dX12_layTurns_89 (by decide) ?_
        refine lv_goto (tgt := 94) hc.x hc.b dX12_layTurns_90 (by decide) ?_
        exact hJ_18 1 S _ _ _ hf hd (lv_sub hl [1, 2, 3, 0] rfl)
set_option maxRecDepth 100000 in
set_option maxHeartbeats 4000000 in
theorem w_X12_layTurns_53 (hc : Cx p s m args meth c cX12_layTurns 13 "PumpCrossingModel" D cs B0 kt Lv) (hr : meth.sig.returnType = none) {o : St}  {g0 : Nat} {K : St → Option (St)} (hL0 : Lv 60 g0) (hK : ∀  (S : St) (H : Heap) (locs : List Loc) (ls : Array Slot), K S = some o → Dy s D cs B0 α Lv S H locs → lv_has ls 13 [] → W p l e (Rm 3 0 0) s m args below meth c H locs 0 0 (MQ below (Qv D cs B0 α Lv o) args s 0 0 (AB B0)) (F0 m 293 ls [])) : ∀ (n : Nat) (x4 : Int32) (S : St) (H : Heap) (locs : List Loc) (ls : Array Slot), f_X12_layTurns_53 g0 K n x4 S = some o → Dy s D cs B0 α Lv S H locs → lv_has ls 13 [(0, .ref (α 60 g0)), (4, .int x4)] → W p l e (Rm 3 0 0) s m args below meth c H locs 0 0 (MQ below (Qv D cs B0 α Lv o) args s 0 0 (AB B0)) (F0 m 53 ls []) := by
  intro n
  induction n with
  | zero =>
    intro x4 S H locs ls hf
    rw [f_X12_layTurns_53] at hf
    cases hf
  | succ n ih =>
    intro x4 S H locs ls hf hd hl
    rw [f_X12_layTurns_53] at hf
    refine lv_iload hc.x hc.b dX12_layTurns_53 (lv_at hl 1 rfl) ?_
    refine lv_if_lt (tgt := 293) hc.x hc.b dX12_layTurns_55 (by decide) (fun c_11 => ?_) (fun c_11 => ?_)
    · have hf := br_y c_11 hf
      exact hK S _ _ _ hf hd (lv_sub hl [] rfl)
    · have hf := br_n c_11 hf
      refine lv_iconst (v := 0) hc.x hc.b dX12_layTurns_58 (by decide) ?_
      refine lv_istore (lv' := [(5, .int 0), (0, .ref (α 60 g0)), (4, .int x4)]) hc.x hc.b dX12_layTurns_59 hl (by decide) rfl (fun ls hl => ?_)
      refine w_X12_layTurns_61 hc hr hL0 ?_ _ _ _ _ _ _ hf hd (lv_sub hl [1, 2, 0] rfl)
      intro S_65 H locs ls hf hd hl
      obtain ⟨x4_66, ex4_66⟩ : ∃ z : Int32, z = x4 + (-1) := ⟨_, rfl⟩
      have hf := bv_n ex4_66 hf
      refine lv_iinc (v := x4_66) (lv' := [(4, .int x4_66), (0, .ref (α 60 g0))]) hc.x hc.b dX12_layTurns_287 hl (k := 1) rfl (by rw [ex4_66]; rfl) (by decide) rfl (fun ls hl => ?_)
      refine lv_goto (tgt := 53) hc.x hc.b dX12_layTurns_290 (by decide) ?_
      exact ih x4_66 S_65 _ _ _ hf hd (lv_sub hl [1, 0] rfl)
set_option maxRecDepth 100000 in
set_option maxHeartbeats 4000000 in
theorem b_X12_layTurns (hc : Cx p s m args meth c cX12_layTurns 13 "PumpCrossingModel" D cs B0 kt Lv) (hr : meth.sig.returnType = none)  {o : St}  {S : St} {g0 : Nat} {x1 : Int32} {x2 : Int32} {x3 : Int32} (hL0 : Lv 60 g0) {H : Heap} {locs : List Loc} {ls : Array Slot} (hf : f_X12_layTurns g0 x1 x2 x3 S = some o) (hd : Dy s D cs B0 α Lv S H locs) (hl : lv_has ls 13 [(0, .ref (α 60 g0)), (1, .int x1), (2, .int x2), (3, .int x3)]) : W p l e (Rm 3 0 0) s m args below meth c H locs 0 0 (MQ below (Qv D cs B0 α Lv o) args s 0 0 (AB B0)) (F0 m 0 ls []) := by
  unfold f_X12_layTurns at hf
  refine lv_aload_n hc.x hc.b dX12_layTurns_0 rfl (lv_at hl 0 rfl) ?_
  refine lv_iload_n hc.x hc.b dX12_layTurns_1 rfl (lv_at hl 1 rfl) ?_
  refine lv_iload_n hc.x hc.b dX12_layTurns_2 rfl (lv_at hl 2 rfl) ?_
  obtain ⟨S_2, hq_1, hf⟩ := on_s hf
  refine k_v (k_runV hc hd my_X12_layGains tw_1732 hL0 rfl rfl rfl (c_X12_layGains l D cs B0 kt α Lv S g0 x1 x2 hc.cl hL0  hq_1) rfl rfl hl.1 (Nat.le_of_ble_eq_true rfl) ⟨Nat.le_of_ble_eq_true rfl, Nat.le_of_ble_eq_true rfl, Nat.zero_le _, Nat.zero_le _⟩ dX12_layTurns_3) hd (fun H locs hd => ?_)
  refine lv_iconst (v := 0) hc.x hc.b dX12_layTurns_6 (by decide) ?_
  refine lv_istore (lv' := [(4, .int 0), (0, .ref (α 60 g0)), (1, .int x1), (2, .int x2), (3, .int x3)]) hc.x hc.b dX12_layTurns_7 hl (by decide) rfl (fun ls hl => ?_)
  refine w_X12_layTurns_9 hc hr hL0 ?_ _ _ _ _ _ _ hf hd (lv_sub hl [1, 4, 0] rfl)
  intro S_9 H locs ls hf hd hl
  refine lv_iload_n hc.x hc.b dX12_layTurns_48 rfl (lv_at hl 1 rfl) ?_
  refine lv_iconst (v := 1) hc.x hc.b dX12_layTurns_49 (by decide) ?_
  refine lv_isub hc.x hc.b dX12_layTurns_50 ?_
  refine lv_topi (fun x4_10 ex4_10 => ?_)
  have hf := bv_n ex4_10 hf
  refine lv_istore (lv' := [(4, .int x4_10), (0, .ref (α 60 g0)), (3, .int x3)]) hc.x hc.b dX12_layTurns_51 hl (by decide) rfl (fun ls hl => ?_)
  refine w_X12_layTurns_53 hc hr hL0 ?_ _ _ _ _ _ _ hf hd (lv_sub hl [1, 0] rfl)
  intro S_67 H locs ls hf hd hl
  cases hf
  exact r_vret hc hd hr dX12_layTurns_293
theorem c_X12_layTurns (l : Launch) (D : va_G) (cs : Nat → ClassId) (B0 : Nat) (kt : (Nat → Nat) × (Nat → Nat)) (α : Nat → Nat → Nat) (Lv : Nat → Nat → Prop) (S : St) (g0 : Nat) (x1 : Int32) (x2 : Int32) (x3 : Int32) (hcl : Cl Lv) (hL0 : Lv 60 g0) {o : St} (hf : f_X12_layTurns g0 x1 x2 x3 S = some o) : Met l yX12_layTurns (wz yX12_layTurns cX12_layTurns 13 none) (Rm 3 0 0) (Pz D cs B0 kt α Lv S [.ref (α 60 g0), .int x1, .int x2, .int x3]) (Qv D cs B0 α Lv o) 0 0 (AB B0) := met_of (by decide) rfl hcl (Nat.le_of_ble_eq_true rfl) (fun p e s m below meth c hc hr hd ls hl => b_X12_layTurns hc hr hL0 hf hd hl)
theorem my_X12_layTurns : MyV yX12_layTurns "PumpCrossingModel" cX12_layTurns 13 none 3 := ⟨tw_1779, (in_sel 83 (by decide +kernel) (by decide +kernel)), tw_11, tw_1780, by decide +kernel⟩
def f_X12_turnFault (g0 : Nat) (x1 : Int32) (x2 : Int32) (x3 : Int32) (x4 : Int32) (S : St) : Option (Int32) := on (f_X12_pairFault g0 x1 x2 S) (fun r_2 => bv (fun (v_3 : Int32) => some v_3) (fun J_4 => br (r_2 ≤ 0) (on (f_X12_within (Int32.toInt64 x4) 1 40 S) (fun r_7 => br (r_7 = 0) (J_4 2) (on (f_X12_isLevel g0 x3 S) (fun r_10 => br (r_10 = 0) (J_4 3) (J_4 0))))) (on (f_X12_pairFault g0 x1 x2 S) (fun r_13 => J_4 r_13))))
set_option maxRecDepth 100000 in
set_option maxHeartbeats 4000000 in
theorem b_X12_turnFault (hc : Cx p s m args meth c cX12_turnFault 5 "PumpCrossingModel" D cs B0 kt Lv) (hr : meth.sig.returnType = some .int)  {o : Int32}  {S : St} {g0 : Nat} {x1 : Int32} {x2 : Int32} {x3 : Int32} {x4 : Int32} (hL0 : Lv 60 g0) {H : Heap} {locs : List Loc} {ls : Array Slot} (hf : f_X12_turnFault g0 x1 x2 x3 x4 S = some o) (hd : Dy s D cs B0 α Lv S H locs) (hl : lv_has ls 5 [(0, .ref (α 60 g0)), (1, .int x1), (2, .int x2), (3, .int x3), (4, .int x4)]) : W p l e (Rm 3 0 0) s m args below meth c H locs 0 0 (MQ below (Qi D cs B0 α Lv o S) args s 0 0 (AB B0)) (F0 m 0 ls []) := by
  unfold f_X12_turnFault at hf
  refine lv_aload_n hc.x hc.b dX12_turnFault_0 rfl (lv_at hl 0 rfl) ?_
  refine lv_iload_n hc.x hc.b dX12_turnFault_1 rfl (lv_at hl 1 rfl) ?_
  refine lv_iload_n hc.x hc.b dX12_turnFault_2 rfl (lv_at hl 2 rfl) ?_
  obtain ⟨r_2, hq_1, hf⟩ := on_s hf
  refine k_i (k_runV hc hd my_X12_pairFault tw_1724 hL0 rfl rfl rfl (c_X12_pairFault l D cs B0 kt α Lv S g0 x1 x2 hc.cl hL0  hq_1) rfl rfl hl.1 (Nat.le_of_ble_eq_true rfl) ⟨Nat.le_of_ble_eq_true rfl, Nat.le_of_ble_eq_true rfl, Nat.zero_le _, Nat.zero_le _⟩ dX12_turnFault_3) hd (fun H locs hd => ?_)
  refine jn_s (P := fun J_4 => ∀ (v_3 : Int32) (H : Heap) (locs : List Loc) (ls : Array Slot), J_4 v_3 = some o → Dy s D cs B0 α Lv S H locs → lv_has ls 5 [] → W p l e (Rm 3 0 0) s m args below meth c H locs 0 0 (MQ below (Qi D cs B0 α Lv o S) args s 0 0 (AB B0)) (F0 m 48 ls [.int v_3])) hf ?_ (fun J_4 hJ_4 hf => ?_)
  · intro v_3 H locs ls hf hd hl
    cases hf
    exact r_iret hc hd hr dX12_turnFault_48
  refine lv_if_le (tgt := 18) hc.x hc.b dX12_turnFault_6 (by decide) (fun c_5 => ?_) (fun c_5 => ?_)
  · have hf := br_y c_5 hf
    refine lv_iload hc.x hc.b dX12_turnFault_18 (lv_at hl 4 rfl) ?_
    refine lv_i2l (v := Int32.toInt64 x4) hc.x hc.b dX12_turnFault_20 rfl ?_
    refine lv_lconst (v := 1) hc.x hc.b dX12_turnFault_21 (by decide) ?_
    refine lv_ldc2 (v := 40) hc.x hc.b hc.ow (hc.ts tw_1776) dX12_turnFault_22 ?_
    obtain ⟨r_7, hq_6, hf⟩ := on_s hf
    refine k_i (k_runS hc hd my_X12_within tw_1444 (c_X12_within l D cs B0 kt α Lv S (Int32.toInt64 x4) 1 40 hc.cl   hq_6) rfl rfl hl.1 (Nat.le_of_ble_eq_true rfl) ⟨Nat.le_of_ble_eq_true rfl, Nat.le_of_ble_eq_true rfl, Nat.zero_le _, Nat.zero_le _⟩ dX12_turnFault_25) hd (fun H locs hd => ?_)
    refine lv_if_ne (tgt := 35) hc.x hc.b dX12_turnFault_28 (by decide) (fun c_8 => ?_) (fun c_8 => ?_)
    · have hf := br_n c_8 hf
      refine lv_aload_n hc.x hc.b dX12_turnFault_35 rfl (lv_at hl 0 rfl) ?_
      refine lv_iload_n hc.x hc.b dX12_turnFault_36 rfl (lv_at hl 3 rfl) ?_
      obtain ⟨r_10, hq_9, hf⟩ := on_s hf
      refine k_i (k_runV hc hd my_X12_isLevel tw_1728 hL0 rfl rfl rfl (c_X12_isLevel l D cs B0 kt α Lv S g0 x3 hc.cl hL0  hq_9) rfl rfl hl.1 (Nat.le_of_ble_eq_true rfl) ⟨Nat.le_of_ble_eq_true rfl, Nat.le_of_ble_eq_true rfl, Nat.zero_le _, Nat.zero_le _⟩ dX12_turnFault_37) hd (fun H locs hd => ?_)
      refine lv_if_eq (tgt := 47) hc.x hc.b dX12_turnFault_40 (by decide) (fun c_11 => ?_) (fun c_11 => ?_)
      · have hf := br_y c_11 hf
        refine lv_iconst (v := 3) hc.x hc.b dX12_turnFault_47 (by decide) ?_
        exact hJ_4 3 _ _ _ hf hd (lv_sub hl [] rfl)
      · have hf := br_n c_11 hf
        refine lv_iconst (v := 0) hc.x hc.b dX12_turnFault_43 (by decide) ?_
        refine lv_goto (tgt := 48) hc.x hc.b dX12_turnFault_44 (by decide) ?_
        exact hJ_4 0 _ _ _ hf hd (lv_sub hl [] rfl)
    · have hf := br_y c_8 hf
      refine lv_iconst (v := 2) hc.x hc.b dX12_turnFault_31 (by decide) ?_
      refine lv_goto (tgt := 48) hc.x hc.b dX12_turnFault_32 (by decide) ?_
      exact hJ_4 2 _ _ _ hf hd (lv_sub hl [] rfl)
  · have hf := br_n c_5 hf
    refine lv_aload_n hc.x hc.b dX12_turnFault_9 rfl (lv_at hl 0 rfl) ?_
    refine lv_iload_n hc.x hc.b dX12_turnFault_10 rfl (lv_at hl 1 rfl) ?_
    refine lv_iload_n hc.x hc.b dX12_turnFault_11 rfl (lv_at hl 2 rfl) ?_
    obtain ⟨r_13, hq_12, hf⟩ := on_s hf
    refine k_i (k_runV hc hd my_X12_pairFault tw_1724 hL0 rfl rfl rfl (c_X12_pairFault l D cs B0 kt α Lv S g0 x1 x2 hc.cl hL0  hq_12) rfl rfl hl.1 (Nat.le_of_ble_eq_true rfl) ⟨Nat.le_of_ble_eq_true rfl, Nat.le_of_ble_eq_true rfl, Nat.zero_le _, Nat.zero_le _⟩ dX12_turnFault_12) hd (fun H locs hd => ?_)
    refine lv_goto (tgt := 48) hc.x hc.b dX12_turnFault_15 (by decide) ?_
    exact hJ_4 r_13 _ _ _ hf hd (lv_sub hl [] rfl)
theorem c_X12_turnFault (l : Launch) (D : va_G) (cs : Nat → ClassId) (B0 : Nat) (kt : (Nat → Nat) × (Nat → Nat)) (α : Nat → Nat → Nat) (Lv : Nat → Nat → Prop) (S : St) (g0 : Nat) (x1 : Int32) (x2 : Int32) (x3 : Int32) (x4 : Int32) (hcl : Cl Lv) (hL0 : Lv 60 g0) {o : Int32} (hf : f_X12_turnFault g0 x1 x2 x3 x4 S = some o) : Met l yX12_turnFault (wz yX12_turnFault cX12_turnFault 5 (some .int)) (Rm 3 0 0) (Pz D cs B0 kt α Lv S [.ref (α 60 g0), .int x1, .int x2, .int x3, .int x4]) (Qi D cs B0 α Lv o S) 0 0 (AB B0) := met_of (by decide) rfl hcl (Nat.le_of_ble_eq_true rfl) (fun p e s m below meth c hc hr hd ls hl => b_X12_turnFault hc hr hL0 hf hd hl)
theorem my_X12_turnFault : MyV yX12_turnFault "PumpCrossingModel" cX12_turnFault 5 (some .int) 4 := ⟨tw_1774, (in_sel 82 (by decide +kernel) (by decide +kernel)), tw_11, tw_1775, by decide +kernel⟩
def f_X12_gains (g0 : Nat) (x1 : Int32) (x2 : Int32) (x3 : Int32) (x4 : Int32) (x5 : Int32) (S : St) : Option (Int64 × St) := on (f_X12_turnFault g0 x1 x2 x3 x4 S) (fun r_2 => bv (si S 60 g0 5 r_2) (fun S_3 => br ((gi S_3 60 g0 5) ≤ 0) (on (f_X12_layTurns g0 x1 x2 x4 S_3) (fun S_6 => bv (fun (v_7 : Int64) (S_8 : St) => some (v_7, S_8)) (fun J_9 => br (x5 = 0) (ck (inb x3 328 = true) (J_9 (gl S_6 74 g0 (nn x3)) S_6)) (ck (inb x3 328 = true) (J_9 (gl S_6 75 g0 (nn x3)) S_6))))) (some (0, S_3))))
set_option maxRecDepth 100000 in
set_option maxHeartbeats 4000000 in
theorem b_X12_gains (hc : Cx p s m args meth c cX12_gains 6 "PumpCrossingModel" D cs B0 kt Lv) (hr : meth.sig.returnType = some .long)  {o : Int64 × St}  {S : St} {g0 : Nat} {x1 : Int32} {x2 : Int32} {x3 : Int32} {x4 : Int32} {x5 : Int32} (hL0 : Lv 60 g0) {H : Heap} {locs : List Loc} {ls : Array Slot} (hf : f_X12_gains g0 x1 x2 x3 x4 x5 S = some o) (hd : Dy s D cs B0 α Lv S H locs) (hl : lv_has ls 6 [(0, .ref (α 60 g0)), (1, .int x1), (2, .int x2), (3, .int x3), (4, .int x4), (5, .int x5)]) : W p l e (Rm 4 0 0) s m args below meth c H locs 0 0 (MQ below (Ql D cs B0 α Lv o.1 o.2) args s 0 0 (AB B0)) (F0 m 0 ls []) := by
  unfold f_X12_gains at hf
  refine lv_aload_n hc.x hc.b dX12_gains_0 rfl (lv_at hl 0 rfl) ?_
  refine lv_aload_n hc.x hc.b dX12_gains_1 rfl (lv_at hl 0 rfl) ?_
  refine lv_iload_n hc.x hc.b dX12_gains_2 rfl (lv_at hl 1 rfl) ?_
  refine lv_iload_n hc.x hc.b dX12_gains_3 rfl (lv_at hl 2 rfl) ?_
  refine lv_iload_n hc.x hc.b dX12_gains_4 rfl (lv_at hl 3 rfl) ?_
  refine lv_iload hc.x hc.b dX12_gains_5 (lv_at hl 4 rfl) ?_
  obtain ⟨r_2, hq_1, hf⟩ := on_s hf
  refine k_i (k_runV hc hd my_X12_turnFault tw_1772 hL0 rfl rfl rfl (c_X12_turnFault l D cs B0 kt α Lv S g0 x1 x2 x3 x4 hc.cl hL0  hq_1) rfl rfl hl.1 (Nat.le_of_ble_eq_true rfl) ⟨Nat.le_of_ble_eq_true rfl, Nat.le_of_ble_eq_true rfl, Nat.zero_le _, Nat.zero_le _⟩ dX12_gains_7) hd (fun H locs hd => ?_)
  refine fp_60_5 hc hd hL0 tw_1314 dX12_gains_10 (fun H locs hd => ?_)
  obtain ⟨S_3, hd, hf⟩ := nmD hd hf
  refine lv_aload_n hc.x hc.b dX12_gains_13 rfl (lv_at hl 0 rfl) ?_
  refine fg_60_5 hc hd hL0 tw_1314 dX12_gains_14 ?_
  refine lv_if_le (tgt := 22) hc.x hc.b dX12_gains_17 (by decide) (fun c_4 => ?_) (fun c_4 => ?_)
  · have hf := br_y c_4 hf
    refine lv_aload_n hc.x hc.b dX12_gains_22 rfl (lv_at hl 0 rfl) ?_
    refine lv_iload_n hc.x hc.b dX12_gains_23 rfl (lv_at hl 1 rfl) ?_
    refine lv_iload_n hc.x hc.b dX12_gains_24 rfl (lv_at hl 2 rfl) ?_
    refine lv_iload hc.x hc.b dX12_gains_25 (lv_at hl 4 rfl) ?_
    obtain ⟨S_6, hq_5, hf⟩ := on_s hf
    refine k_v (k_runV hc hd my_X12_layTurns tw_1777 hL0 rfl rfl rfl (c_X12_layTurns l D cs B0 kt α Lv S_3 g0 x1 x2 x4 hc.cl hL0  hq_5) rfl rfl hl.1 (Nat.le_of_ble_eq_true rfl) ⟨Nat.le_of_ble_eq_true rfl, Nat.le_of_ble_eq_true rfl, Nat.zero_le _, Nat.zero_le _⟩ dX12_gains_27) hd (fun H locs hd => ?_)
    refine lv_iload hc.x hc.b dX12_gains_30 (lv_at hl 5 rfl) ?_
    refine jn_s (P := fun J_9 => ∀ (v_7 : Int64) (S_8 : St) (H : Heap) (locs : List Loc) (ls : Array Slot), J_9 v_7 S_8 = some o → Dy s D cs B0 α Lv S_8 H locs → lv_has ls 6 [] → W p l e (Rm 4 0 0) s m args below meth c H locs 0 0 (MQ below (Ql D cs B0 α Lv o.1 o.2) args s 0 0 (AB B0)) (F0 m 50 ls [.long v_7])) hf ?_ (fun J_9 hJ_9 hf => ?_)
    · intro v_7 S_8 H locs ls hf hd hl
      cases hf
      exact r_lret hc hd hr dX12_gains_50
    refine lv_if_eq (tgt := 44) hc.x hc.b dX12_gains_32 (by decide) (fun c_10 => ?_) (fun c_10 => ?_)
    · have hf := br_y c_10 hf
      refine lv_aload_n hc.x hc.b dX12_gains_44 rfl (lv_at hl 0 rfl) ?_
      refine fg_60_30 hc hd hL0 tw_1339 dX12_gains_45 ?_
      refine lv_iload_n hc.x hc.b dX12_gains_48 rfl (lv_at hl 3 rfl) ?_
      obtain ⟨hi_11, hf⟩ := ck_s hf
      refine r_lald hc hd (cl_60_mine hc.cl hL0) rfl hi_11 dX12_gains_49 ?_
      exact hJ_9 (gl S_6 74 g0 (nn x3)) S_6 _ _ _ hf hd (lv_sub hl [] rfl)
    · have hf := br_n c_10 hf
      refine lv_aload_n hc.x hc.b dX12_gains_35 rfl (lv_at hl 0 rfl) ?_
      refine fg_60_31 hc hd hL0 tw_1340 dX12_gains_36 ?_
      refine lv_iload_n hc.x hc.b dX12_gains_39 rfl (lv_at hl 3 rfl) ?_
      obtain ⟨hi_12, hf⟩ := ck_s hf
      refine r_lald hc hd (cl_60_its hc.cl hL0) rfl hi_12 dX12_gains_40 ?_
      refine lv_goto (tgt := 50) hc.x hc.b dX12_gains_41 (by decide) ?_
      exact hJ_9 (gl S_6 75 g0 (nn x3)) S_6 _ _ _ hf hd (lv_sub hl [] rfl)
  · have hf := br_n c_4 hf
    refine lv_lconst (v := 0) hc.x hc.b dX12_gains_20 (by decide) ?_
    cases hf
    exact r_lret hc hd hr dX12_gains_21
theorem c_X12_gains (l : Launch) (D : va_G) (cs : Nat → ClassId) (B0 : Nat) (kt : (Nat → Nat) × (Nat → Nat)) (α : Nat → Nat → Nat) (Lv : Nat → Nat → Prop) (S : St) (g0 : Nat) (x1 : Int32) (x2 : Int32) (x3 : Int32) (x4 : Int32) (x5 : Int32) (hcl : Cl Lv) (hL0 : Lv 60 g0) {o : Int64 × St} (hf : f_X12_gains g0 x1 x2 x3 x4 x5 S = some o) : Met l yX12_gains (wz yX12_gains cX12_gains 6 (some .long)) (Rm 4 0 0) (Pz D cs B0 kt α Lv S [.ref (α 60 g0), .int x1, .int x2, .int x3, .int x4, .int x5]) (Ql D cs B0 α Lv o.1 o.2) 0 0 (AB B0) := met_of (by decide) rfl hcl (Nat.le_of_ble_eq_true rfl) (fun p e s m below meth c hc hr hd ls hl => b_X12_gains hc hr hL0 hf hd hl)
theorem my_X12_gains : MyV yX12_gains "PumpCrossingModel" cX12_gains 6 (some .long) 5 := ⟨tw_1782, tw_1783, tw_11, tw_1784, by decide +kernel⟩
def f_X12_hour_14 (g0 : Nat) (x1 : Int32) (K : St → Option (St)) : Nat → Int32 → St → Option (St)
  | 0, _, _ => none
  | n + 1, x2, S => ck (inb 0 3179 = true) (br ((gi S 61 g0 (nn 0)) ≤ x2) (K S) (on2 (f_X12_makes g0 x2 x1 S) (fun r_8 S_7 => ck (inb x2 4 = true) (bv (si S_7 71 g0 (nn x2) r_8) (fun S_10 => bv (x2 + 1) (fun x2_11 => f_X12_hour_14 g0 x1 K n x2_11 S_10))))))
def f_X12_hour_44 (g0 : Nat) (x1 : Int32) (K : St → Option (St)) : Nat → Int32 → St → Option (St)
  | 0, _, _ => none
  | n + 1, x2, S => ck (inb 0 3179 = true) (br ((gi S 61 g0 (nn 0)) ≤ x2) (K S) (ck (inb x2 4 = true) (ck (inb (12 + x2) 3179 = true) (bv (fun  (S_17 : St) => ck (inb x2 4 = true) (ck (inb (12 + x2) 3179 = true) (bv (si S_17 61 g0 (nn (12 + x2)) (gi S_17 71 g0 (nn x2))) (fun S_21 => bv (rmI x1 256) (fun q_22 => ck (inb x2 4 = true) (ck (inb ((1885 + (4 * q_22)) + x2) 3179 = true) (bv (si S_21 61 g0 (nn ((1885 + (4 * q_22)) + x2)) (gi S_21 71 g0 (nn x2))) (fun S_25 => bv (x2 + 1) (fun x2_26 => f_X12_hour_44 g0 x1 K n x2_26 S_25))))))))) (fun J_18 => br ((gi S 71 g0 (nn x2)) = (gi S 61 g0 (nn (12 + x2)))) (J_18 S) (ck (inb (24 + x2) 3179 = true) (bv (si S 61 g0 (nn (24 + x2)) x1) (fun S_29 => J_18 S_29))))))))
def f_X12_hour_133 (g0 : Nat) (K : St → Option (St)) : Nat → Int32 → St → Option (St)
  | 0, _, _ => none
  | n + 1, x2, S => ck (inb 1 3179 = true) (br ((gi S 61 g0 (nn 1)) ≤ x2) (K S) (on (f_X12_where g0 x2 S) (fun r_36 => ck (inb (28 + (4 * x2)) 3179 = true) (bv (gi S 61 g0 (nn (28 + (4 * x2)))) (fun x4_38 => ck (inb r_36 9 = true) (ck (inb r_36 4 = true) (ck (inb (8 + r_36) 3179 = true) (ck (inb r_36 9 = true) (bv (sl S 63 g0 (nn r_36) ((gl S 63 g0 (nn r_36)) + (Int32.toInt64 (x4_38 * ((gi S 70 g0 (nn r_36)) - (gi S 61 g0 (nn (8 + r_36)))))))) (fun S_43 => bv (4 + r_36) (fun q_44 => ck (inb q_44 9 = true) (ck (inb q_44 9 = true) (bv (sl S_43 63 g0 (nn q_44) ((gl S_43 63 g0 (nn q_44)) + (Int32.toInt64 x4_38))) (fun S_47 => ck (inb 8 9 = true) (ck (inb r_36 4 = true) (ck (inb 8 9 = true) (bv (sl S_47 63 g0 (nn 8) ((gl S_47 63 g0 (nn 8)) + (Int32.toInt64 (x4_38 * (gi S_47 70 g0 (nn r_36)))))) (fun S_51 => bv (x2 + 1) (fun x2_52 => f_X12_hour_133 g0 K n x2_52 S_51)))))))))))))))))))
def f_X12_hour (g0 : Nat) (S : St) : Option (St) := ck (inb 2 3179 = true) (bv (gi S 61 g0 (nn 2)) (fun x1_2 => bv (si S 60 g0 23 0) (fun S_3 => f_X12_hour_14 g0 x1_2 (fun  (S_12 : St) => f_X12_hour_44 g0 x1_2 (fun  (S_30 : St) => on (f_X12_present g0 S_30) (fun S_32 => f_X12_hour_133 g0 (fun  (S_53 : St) => ck (inb 2 3179 = true) (ck (inb 2 3179 = true) (bv (si S_53 61 g0 (nn 2) ((gi S_53 61 g0 (nn 2)) + 1)) (fun S_56 => some S_56)))) FU 0 S_32)) FU 0 S_12) FU 0 S_3)))
set_option maxRecDepth 100000 in
set_option maxHeartbeats 4000000 in
theorem w_X12_hour_14 (hc : Cx p s m args meth c cX12_hour 5 "PumpCrossingModel" D cs B0 kt Lv) (hr : meth.sig.returnType = none) {o : St}  {g0 : Nat} {x1 : Int32} {K : St → Option (St)} (hL0 : Lv 60 g0) (hK : ∀  (S : St) (H : Heap) (locs : List Loc) (ls : Array Slot), K S = some o → Dy s D cs B0 α Lv S H locs → lv_has ls 5 [(0, .ref (α 60 g0)), (1, .int x1)] → W p l e (Rm 8 0 0) s m args below meth c H locs 0 0 (MQ below (Qv D cs B0 α Lv o) args s 0 0 (AB B0)) (F0 m 42 ls [])) : ∀ (n : Nat) (x2 : Int32) (S : St) (H : Heap) (locs : List Loc) (ls : Array Slot), f_X12_hour_14 g0 x1 K n x2 S = some o → Dy s D cs B0 α Lv S H locs → lv_has ls 5 [(0, .ref (α 60 g0)), (1, .int x1), (2, .int x2)] → W p l e (Rm 8 0 0) s m args below meth c H locs 0 0 (MQ below (Qv D cs B0 α Lv o) args s 0 0 (AB B0)) (F0 m 14 ls []) := by
  intro n
  induction n with
  | zero =>
    intro x2 S H locs ls hf
    rw [f_X12_hour_14] at hf
    cases hf
  | succ n ih =>
    intro x2 S H locs ls hf hd hl
    rw [f_X12_hour_14] at hf
    refine lv_iload_n hc.x hc.b dX12_hour_14 rfl (lv_at hl 2 rfl) ?_
    refine lv_aload_n hc.x hc.b dX12_hour_15 rfl (lv_at hl 0 rfl) ?_
    refine fg_60_0 hc hd hL0 tw_1309 dX12_hour_16 ?_
    refine lv_iconst (v := 0) hc.x hc.b dX12_hour_19 (by decide) ?_
    obtain ⟨hi_4, hf⟩ := ck_s hf
    refine r_iald hc hd (cl_60_told hc.cl hL0) rfl hi_4 dX12_hour_20 ?_
    refine lv_icmp_ge (tgt := 42) hc.x hc.b dX12_hour_21 (by decide) (fun c_5 => ?_) (fun c_5 => ?_)
    · have hf := br_y c_5 hf
      exact hK S _ _ _ hf hd (lv_sub hl [0, 1] rfl)
    · have hf := br_n c_5 hf
      refine lv_aload_n hc.x hc.b dX12_hour_24 rfl (lv_at hl 0 rfl) ?_
      refine fg_60_25 hc hd hL0 tw_1334 dX12_hour_25 ?_
      refine lv_iload_n hc.x hc.b dX12_hour_28 rfl (lv_at hl 2 rfl) ?_
      refine lv_aload_n hc.x hc.b dX12_hour_29 rfl (lv_at hl 0 rfl) ?_
      refine lv_iload_n hc.x hc.b dX12_hour_30 rfl (lv_at hl 2 rfl) ?_
      refine lv_iload_n hc.x hc.b dX12_hour_31 rfl (lv_at hl 1 rfl) ?_
      obtain ⟨r_8, S_7, hq_6, hf⟩ := on2_s hf
      refine k_i (k_runV hc hd my_X12_makes tw_1601 hL0 rfl rfl rfl (c_X12_makes l D cs B0 kt α Lv S g0 x2 x1 hc.cl hL0  hq_6) rfl rfl hl.1 (Nat.le_of_ble_eq_true rfl) ⟨Nat.le_of_ble_eq_true rfl, Nat.le_of_ble_eq_true rfl, Nat.zero_le _, Nat.zero_le _⟩ dX12_hour_32) hd (fun H locs hd => ?_)
      obtain ⟨hi_9, hf⟩ := ck_s hf
      refine r_iast hc hd (cl_60_nextPrice hc.cl hL0) (fun _ => rfl) hi_9 dX12_hour_35 (fun H locs hd => ?_)
      obtain ⟨S_10, hd, hf⟩ := nmD hd hf
      obtain ⟨x2_11, ex2_11⟩ : ∃ z : Int32, z = x2 + 1 := ⟨_, rfl⟩
      have hf := bv_n ex2_11 hf
      refine lv_iinc (v := x2_11) (lv' := [(2, .int x2_11), (0, .ref (α 60 g0)), (1, .int x1)]) hc.x hc.b dX12_hour_36 hl (k := 2) rfl (by rw [ex2_11]; rfl) (by decide) rfl (fun ls hl => ?_)
      refine lv_goto (tgt := 14) hc.x hc.b dX12_hour_39 (by decide) ?_
      exact ih x2_11 S_10 _ _ _ hf hd (lv_sub hl [1, 2, 0] rfl)
set_option maxRecDepth 100000 in
set_option maxHeartbeats 4000000 in
theorem w_X12_hour_44 (hc : Cx p s m args meth c cX12_hour 5 "PumpCrossingModel" D cs B0 kt Lv) (hr : meth.sig.returnType = none) {o : St}  {g0 : Nat} {x1 : Int32} {K : St → Option (St)} (hL0 : Lv 60 g0) (hK : ∀  (S : St) (H : Heap) (locs : List Loc) (ls : Array Slot), K S = some o → Dy s D cs B0 α Lv S H locs → lv_has ls 5 [(0, .ref (α 60 g0))] → W p l e (Rm 8 0 0) s m args below meth c H locs 0 0 (MQ below (Qv D cs B0 α Lv o) args s 0 0 (AB B0)) (F0 m 127 ls [])) : ∀ (n : Nat) (x2 : Int32) (S : St) (H : Heap) (locs : List Loc) (ls : Array Slot), f_X12_hour_44 g0 x1 K n x2 S = some o → Dy s D cs B0 α Lv S H locs → lv_has ls 5 [(0, .ref (α 60 g0)), (1, .int x1), (2, .int x2)] → W p l e (Rm 8 0 0) s m args below meth c H locs 0 0 (MQ below (Qv D cs B0 α Lv o) args s 0 0 (AB B0)) (F0 m 44 ls []) := by
  intro n
  induction n with
  | zero =>
    intro x2 S H locs ls hf
    rw [f_X12_hour_44] at hf
    cases hf
  | succ n ih =>
    intro x2 S H locs ls hf hd hl
    rw [f_X12_hour_44] at hf
    refine lv_iload_n hc.x hc.b dX12_hour_44 rfl (lv_at hl 2 rfl) ?_
    refine lv_aload_n hc.x hc.b dX12_hour_45 rfl (lv_at hl 0 rfl) ?_
    refine fg_60_0 hc hd hL0 tw_1309 dX12_hour_46 ?_
    refine lv_iconst (v := 0) hc.x hc.b dX12_hour_49 (by decide) ?_
    obtain ⟨hi_13, hf⟩ := ck_s hf
    refine r_iald hc hd (cl_60_told hc.cl hL0) rfl hi_13 dX12_hour_50 ?_
    refine lv_icmp_ge (tgt := 127) hc.x hc.b dX12_hour_51 (by decide) (fun c_14 => ?_) (fun c_14 => ?_)
    · have hf := br_y c_14 hf
      exact hK S _ _ _ hf hd (lv_sub hl [0] rfl)
    · have hf := br_n c_14 hf
      refine lv_aload_n hc.x hc.b dX12_hour_54 rfl (lv_at hl 0 rfl) ?_
      refine fg_60_25 hc hd hL0 tw_1334 dX12_hour_55 ?_
      refine lv_iload_n hc.x hc.b dX12_hour_58 rfl (lv_at hl 2 rfl) ?_
      obtain ⟨hi_15, hf⟩ := ck_s hf
      refine r_iald hc hd (cl_60_nextPrice hc.cl hL0) rfl hi_15 dX12_hour_59 ?_
      refine lv_aload_n hc.x hc.b dX12_hour_60 rfl (lv_at hl 0 rfl) ?_
      refine fg_60_0 hc hd hL0 tw_1309 dX12_hour_61 ?_
      refine lv_bipush (v := 12) hc.x hc.b dX12_hour_64 (by decide) ?_
      refine lv_iload_n hc.x hc.b dX12_hour_66 rfl (lv_at hl 2 rfl) ?_
      refine lv_iadd hc.x hc.b dX12_hour_67 ?_
      obtain ⟨hi_16, hf⟩ := ck_s hf
      refine r_iald hc hd (cl_60_told hc.cl hL0) rfl hi_16 dX12_hour_68 ?_
      refine jn_s (P := fun J_18 => ∀  (S_17 : St) (H : Heap) (locs : List Loc) (ls : Array Slot), J_18 S_17 = some o → Dy s D cs B0 α Lv S_17 H locs → lv_has ls 5 [(0, .ref (α 60 g0)), (1, .int x1), (2, .int x2)] → W p l e (Rm 8 0 0) s m args below meth c H locs 0 0 (MQ below (Qv D cs B0 α Lv o) args s 0 0 (AB B0)) (F0 m 82 ls [])) hf ?_ (fun J_18 hJ_18 hf => ?_)
      · intro S_17 H locs ls hf hd hl
        refine lv_aload_n hc.x hc.b dX12_hour_82 rfl (lv_at hl 0 rfl) ?_
        refine fg_60_0 hc hd hL0 tw_1309 dX12_hour_83 ?_
        refine lv_bipush (v := 12) hc.x hc.b dX12_hour_86 (by decide) ?_
        refine lv_iload_n hc.x hc.b dX12_hour_88 rfl (lv_at hl 2 rfl) ?_
        refine lv_iadd hc.x hc.b dX12_hour_89 ?_
        refine lv_aload_n hc.x hc.b dX12_hour_90 rfl (lv_at hl 0 rfl) ?_
        refine fg_60_25 hc hd hL0 tw_1334 dX12_hour_91 ?_
        refine lv_iload_n hc.x hc.b dX12_hour_94 rfl (lv_at hl 2 rfl) ?_
        obtain ⟨hi_19, hf⟩ := ck_s hf
        refine r_iald hc hd (cl_60_nextPrice hc.cl hL0) rfl hi_19 dX12_hour_95 ?_
        obtain ⟨hi_20, hf⟩ := ck_s hf
        refine r_iast hc hd (cl_60_told hc.cl hL0) (fun _ => rfl) hi_20 dX12_hour_96 (fun H locs hd => ?_)
        obtain ⟨S_21, hd, hf⟩ := nmD hd hf
        refine lv_aload_n hc.x hc.b dX12_hour_97 rfl (lv_at hl 0 rfl) ?_
        refine fg_60_0 hc hd hL0 tw_1309 dX12_hour_98 ?_
        refine lv_sipush (v := 1885) hc.x hc.b dX12_hour_101 (by decide) ?_
        refine lv_iconst (v := 4) hc.x hc.b dX12_hour_104 (by decide) ?_
        refine lv_iload_n hc.x hc.b dX12_hour_105 rfl (lv_at hl 1 rfl) ?_
        refine lv_sipush (v := 256) hc.x hc.b dX12_hour_106 (by decide) ?_
        refine lv_irem hc.x hc.b dX12_hour_109 (by decide) ?_
        refine lv_topi (fun q_22 eq_22 => ?_)
        have hf := bv_n eq_22 hf
        refine lv_imul hc.x hc.b dX12_hour_110 ?_
        refine lv_iadd hc.x hc.b dX12_hour_111 ?_
        refine lv_iload_n hc.x hc.b dX12_hour_112 rfl (lv_at hl 2 rfl) ?_
        refine lv_iadd hc.x hc.b dX12_hour_113 ?_
        refine lv_aload_n hc.x hc.b dX12_hour_114 rfl (lv_at hl 0 rfl) ?_
        refine fg_60_25 hc hd hL0 tw_1334 dX12_hour_115 ?_
        refine lv_iload_n hc.x hc.b dX12_hour_118 rfl (lv_at hl 2 rfl) ?_
        obtain ⟨hi_23, hf⟩ := ck_s hf
        refine r_iald hc hd (cl_60_nextPrice hc.cl hL0) rfl hi_23 dX12_hour_119 ?_
        obtain ⟨hi_24, hf⟩ := ck_s hf
        refine r_iast hc hd (cl_60_told hc.cl hL0) (fun _ => rfl) hi_24 dX12_hour_120 (fun H locs hd => ?_)
        obtain ⟨S_25, hd, hf⟩ := nmD hd hf
        obtain ⟨x2_26, ex2_26⟩ : ∃ z : Int32, z = x2 + 1 := ⟨_, rfl⟩
        have hf := bv_n ex2_26 hf
        refine lv_iinc (v := x2_26) (lv' := [(2, .int x2_26), (0, .ref (α 60 g0)), (1, .int x1)]) hc.x hc.b dX12_hour_121 hl (k := 2) rfl (by rw [ex2_26]; rfl) (by decide) rfl (fun ls hl => ?_)
        refine lv_goto (tgt := 44) hc.x hc.b dX12_hour_124 (by decide) ?_
        exact ih x2_26 S_25 _ _ _ hf hd (lv_sub hl [1, 2, 0] rfl)
      refine lv_icmp_eq (tgt := 82) hc.x hc.b dX12_hour_69 (by decide) (fun c_27 => ?_) (fun c_27 => ?_)
      · have hf := br_y c_27 hf
        exact hJ_18 S _ _ _ hf hd (lv_sub hl [0, 1, 2] rfl)
      · have hf := br_n c_27 hf
        refine lv_aload_n hc.x hc.b dX12_hour_72 rfl (lv_at hl 0 rfl) ?_
        refine fg_60_0 hc hd hL0 tw_1309 dX12_hour_73 ?_
        refine lv_bipush (v := 24) hc.x hc.b dX12_hour_76 (by decide) ?_
        refine lv_iload_n hc.x hc.b dX12_hour_78 rfl (lv_at hl 2 rfl) ?_
        refine lv_iadd hc.x hc.b dX12_hour_79 ?_
        refine lv_iload_n hc.x hc.b dX12_hour_80 rfl (lv_at hl 1 rfl) ?_
        obtain ⟨hi_28, hf⟩ := ck_s hf
        refine r_iast hc hd (cl_60_told hc.cl hL0) (fun _ => rfl) hi_28 dX12_hour_81 (fun H locs hd => ?_)
        obtain ⟨S_29, hd, hf⟩ := nmD hd hf
        exact hJ_18 S_29 _ _ _ hf hd (lv_sub hl [0, 1, 2] rfl)
set_option maxRecDepth 100000 in
set_option maxHeartbeats 4000000 in
theorem w_X12_hour_133 (hc : Cx p s m args meth c cX12_hour 5 "PumpCrossingModel" D cs B0 kt Lv) (hr : meth.sig.returnType = none) {o : St}  {g0 : Nat} {K : St → Option (St)} (hL0 : Lv 60 g0) (hK : ∀  (S : St) (H : Heap) (locs : List Loc) (ls : Array Slot), K S = some o → Dy s D cs B0 α Lv S H locs → lv_has ls 5 [(0, .ref (α 60 g0))] → W p l e (Rm 8 0 0) s m args below meth c H locs 0 0 (MQ below (Qv D cs B0 α Lv o) args s 0 0 (AB B0)) (F0 m 231 ls [])) : ∀ (n : Nat) (x2 : Int32) (S : St) (H : Heap) (locs : List Loc) (ls : Array Slot), f_X12_hour_133 g0 K n x2 S = some o → Dy s D cs B0 α Lv S H locs → lv_has ls 5 [(0, .ref (α 60 g0)), (2, .int x2)] → W p l e (Rm 8 0 0) s m args below meth c H locs 0 0 (MQ below (Qv D cs B0 α Lv o) args s 0 0 (AB B0)) (F0 m 133 ls []) := by
  intro n
  induction n with
  | zero =>
    intro x2 S H locs ls hf
    rw [f_X12_hour_133] at hf
    cases hf
  | succ n ih =>
    intro x2 S H locs ls hf hd hl
    rw [f_X12_hour_133] at hf
    refine lv_iload_n hc.x hc.b dX12_hour_133 rfl (lv_at hl 1 rfl) ?_
    refine lv_aload_n hc.x hc.b dX12_hour_134 rfl (lv_at hl 0 rfl) ?_
    refine fg_60_0 hc hd hL0 tw_1309 dX12_hour_135 ?_
    refine lv_iconst (v := 1) hc.x hc.b dX12_hour_138 (by decide) ?_
    obtain ⟨hi_33, hf⟩ := ck_s hf
    refine r_iald hc hd (cl_60_told hc.cl hL0) rfl hi_33 dX12_hour_139 ?_
    refine lv_icmp_ge (tgt := 231) hc.x hc.b dX12_hour_140 (by decide) (fun c_34 => ?_) (fun c_34 => ?_)
    · have hf := br_y c_34 hf
      exact hK S _ _ _ hf hd (lv_sub hl [0] rfl)
    · have hf := br_n c_34 hf
      refine lv_aload_n hc.x hc.b dX12_hour_143 rfl (lv_at hl 0 rfl) ?_
      refine lv_iload_n hc.x hc.b dX12_hour_144 rfl (lv_at hl 1 rfl) ?_
      obtain ⟨r_36, hq_35, hf⟩ := on_s hf
      refine k_i (k_runV hc hd my_X12_where tw_1641 hL0 rfl rfl rfl (c_X12_where l D cs B0 kt α Lv S g0 x2 hc.cl hL0  hq_35) rfl rfl hl.1 (Nat.le_of_ble_eq_true rfl) ⟨Nat.le_of_ble_eq_true rfl, Nat.le_of_ble_eq_true rfl, Nat.zero_le _, Nat.zero_le _⟩ dX12_hour_145) hd (fun H locs hd => ?_)
      refine lv_istore_n (lv' := [(3, .int r_36), (0, .ref (α 60 g0)), (2, .int x2)]) hc.x hc.b dX12_hour_148 rfl hl (by decide) rfl (fun ls hl => ?_)
      refine lv_aload_n hc.x hc.b dX12_hour_149 rfl (lv_at hl 1 rfl) ?_
      refine fg_60_0 hc hd hL0 tw_1309 dX12_hour_150 ?_
      refine lv_bipush (v := 28) hc.x hc.b dX12_hour_153 (by decide) ?_
      refine lv_iconst (v := 4) hc.x hc.b dX12_hour_155 (by decide) ?_
      refine lv_iload_n hc.x hc.b dX12_hour_156 rfl (lv_at hl 2 rfl) ?_
      refine lv_imul hc.x hc.b dX12_hour_157 ?_
      refine lv_iadd hc.x hc.b dX12_hour_158 ?_
      obtain ⟨hi_37, hf⟩ := ck_s hf
      refine r_iald hc hd (cl_60_told hc.cl hL0) rfl hi_37 dX12_hour_159 ?_
      refine lv_topi (fun x4_38 ex4_38 => ?_)
      have hf := bv_n ex4_38 hf
      refine lv_istore (lv' := [(4, .int x4_38), (3, .int r_36), (0, .ref (α 60 g0)), (2, .int x2)]) hc.x hc.b dX12_hour_160 hl (by decide) rfl (fun ls hl => ?_)
      refine lv_aload_n hc.x hc.b dX12_hour_162 rfl (lv_at hl 2 rfl) ?_
      refine fg_60_2 hc hd hL0 tw_1311 dX12_hour_163 ?_
      refine lv_iload_n hc.x hc.b dX12_hour_166 rfl (lv_at hl 1 rfl) ?_
      refine lv_dup2_11 hc.x hc.b dX12_hour_167 rfl rfl ?_
      obtain ⟨hi_39, hf⟩ := ck_s hf
      refine r_lald hc hd (cl_60_sums hc.cl hL0) rfl hi_39 dX12_hour_168 ?_
      refine lv_iload hc.x hc.b dX12_hour_169 (lv_at hl 0 rfl) ?_
      refine lv_aload_n hc.x hc.b dX12_hour_171 rfl (lv_at hl 2 rfl) ?_
      refine fg_60_24 hc hd hL0 tw_1333 dX12_hour_172 ?_
      refine lv_iload_n hc.x hc.b dX12_hour_175 rfl (lv_at hl 1 rfl) ?_
      obtain ⟨hi_40, hf⟩ := ck_s hf
      refine r_iald hc hd (cl_60_now hc.cl hL0) rfl hi_40 dX12_hour_176 ?_
      refine lv_aload_n hc.x hc.b dX12_hour_177 rfl (lv_at hl 2 rfl) ?_
      refine fg_60_0 hc hd hL0 tw_1309 dX12_hour_178 ?_
      refine lv_bipush (v := 8) hc.x hc.b dX12_hour_181 (by decide) ?_
      refine lv_iload_n hc.x hc.b dX12_hour_183 rfl (lv_at hl 1 rfl) ?_
      refine lv_iadd hc.x hc.b dX12_hour_184 ?_
      obtain ⟨hi_41, hf⟩ := ck_s hf
      refine r_iald hc hd (cl_60_told hc.cl hL0) rfl hi_41 dX12_hour_185 ?_
      refine lv_isub hc.x hc.b dX12_hour_186 ?_
      refine lv_imul hc.x hc.b dX12_hour_187 ?_
      refine lv_i2l (v := Int32.toInt64 (x4_38 * ((gi S 70 g0 (nn r_36)) - (gi S 61 g0 (nn (8 + r_36)))))) hc.x hc.b dX12_hour_188 rfl ?_
      refine lv_ladd hc.x hc.b dX12_hour_189 ?_
      obtain ⟨hi_42, hf⟩ := ck_s hf
      refine r_last hc hd (cl_60_sums hc.cl hL0) (fun _ => rfl) hi_42 dX12_hour_190 (fun H locs hd => ?_)
      obtain ⟨S_43, hd, hf⟩ := nmD hd hf
      refine lv_aload_n hc.x hc.b dX12_hour_191 rfl (lv_at hl 2 rfl) ?_
      refine fg_60_2 hc hd hL0 tw_1311 dX12_hour_192 ?_
      refine lv_iconst (v := 4) hc.x hc.b dX12_hour_195 (by decide) ?_
      refine lv_iload_n hc.x hc.b dX12_hour_196 rfl (lv_at hl 1 rfl) ?_
      refine lv_iadd hc.x hc.b dX12_hour_197 ?_
      refine lv_topi (fun q_44 eq_44 => ?_)
      have hf := bv_n eq_44 hf
      refine lv_dup2_11 hc.x hc.b dX12_hour_198 rfl rfl ?_
      obtain ⟨hi_45, hf⟩ := ck_s hf
      refine r_lald hc hd (cl_60_sums hc.cl hL0) rfl hi_45 dX12_hour_199 ?_
      refine lv_iload hc.x hc.b dX12_hour_200 (lv_at hl 0 rfl) ?_
      refine lv_i2l (v := Int32.toInt64 x4_38) hc.x hc.b dX12_hour_202 rfl ?_
      refine lv_ladd hc.x hc.b dX12_hour_203 ?_
      obtain ⟨hi_46, hf⟩ := ck_s hf
      refine r_last hc hd (cl_60_sums hc.cl hL0) (fun _ => rfl) hi_46 dX12_hour_204 (fun H locs hd => ?_)
      obtain ⟨S_47, hd, hf⟩ := nmD hd hf
      refine lv_aload_n hc.x hc.b dX12_hour_205 rfl (lv_at hl 2 rfl) ?_
      refine fg_60_2 hc hd hL0 tw_1311 dX12_hour_206 ?_
      refine lv_bipush (v := 8) hc.x hc.b dX12_hour_209 (by decide) ?_
      refine lv_dup2_11 hc.x hc.b dX12_hour_211 rfl rfl ?_
      obtain ⟨hi_48, hf⟩ := ck_s hf
      refine r_lald hc hd (cl_60_sums hc.cl hL0) rfl hi_48 dX12_hour_212 ?_
      refine lv_iload hc.x hc.b dX12_hour_213 (lv_at hl 0 rfl) ?_
      refine lv_aload_n hc.x hc.b dX12_hour_215 rfl (lv_at hl 2 rfl) ?_
      refine fg_60_24 hc hd hL0 tw_1333 dX12_hour_216 ?_
      refine lv_iload_n hc.x hc.b dX12_hour_219 rfl (lv_at hl 1 rfl) ?_
      obtain ⟨hi_49, hf⟩ := ck_s hf
      refine r_iald hc hd (cl_60_now hc.cl hL0) rfl hi_49 dX12_hour_220 ?_
      refine lv_imul hc.x hc.b dX12_hour_221 ?_
      refine lv_i2l (v := Int32.toInt64 (x4_38 * (gi S_47 70 g0 (nn r_36)))) hc.x hc.b dX12_hour_222 rfl ?_
      refine lv_ladd hc.x hc.b dX12_hour_223 ?_
      obtain ⟨hi_50, hf⟩ := ck_s hf
      refine r_last hc hd (cl_60_sums hc.cl hL0) (fun _ => rfl) hi_50 dX12_hour_224 (fun H locs hd => ?_)
      obtain ⟨S_51, hd, hf⟩ := nmD hd hf
      obtain ⟨x2_52, ex2_52⟩ : ∃ z : Int32, z = x2 + 1 := ⟨_, rfl⟩
      have hf := bv_n ex2_52 hf
      refine lv_iinc (v := x2_52) (lv' := [(2, .int x2_52), (4, .int x4_38), (3, .int r_36), (0, .ref (α 60 g0))]) hc.x hc.b dX12_hour_225 hl (k := 3) rfl (by rw [ex2_52]; rfl) (by decide) rfl (fun ls hl => ?_)
      refine lv_goto (tgt := 133) hc.x hc.b dX12_hour_228 (by decide) ?_
      exact ih x2_52 S_51 _ _ _ hf hd (lv_sub hl [3, 0] rfl)
set_option maxRecDepth 100000 in
set_option maxHeartbeats 4000000 in
theorem b_X12_hour (hc : Cx p s m args meth c cX12_hour 5 "PumpCrossingModel" D cs B0 kt Lv) (hr : meth.sig.returnType = none)  {o : St}  {S : St} {g0 : Nat} (hL0 : Lv 60 g0) {H : Heap} {locs : List Loc} {ls : Array Slot} (hf : f_X12_hour g0 S = some o) (hd : Dy s D cs B0 α Lv S H locs) (hl : lv_has ls 5 [(0, .ref (α 60 g0))]) : W p l e (Rm 8 0 0) s m args below meth c H locs 0 0 (MQ below (Qv D cs B0 α Lv o) args s 0 0 (AB B0)) (F0 m 0 ls []) := by
  unfold f_X12_hour at hf
  refine lv_aload_n hc.x hc.b dX12_hour_0 rfl (lv_at hl 0 rfl) ?_
  refine fg_60_0 hc hd hL0 tw_1309 dX12_hour_1 ?_
  refine lv_iconst (v := 2) hc.x hc.b dX12_hour_4 (by decide) ?_
  obtain ⟨hi_1, hf⟩ := ck_s hf
  refine r_iald hc hd (cl_60_told hc.cl hL0) rfl hi_1 dX12_hour_5 ?_
  refine lv_topi (fun x1_2 ex1_2 => ?_)
  have hf := bv_n ex1_2 hf
  refine lv_istore_n (lv' := [(1, .int x1_2), (0, .ref (α 60 g0))]) hc.x hc.b dX12_hour_6 rfl hl (by decide) rfl (fun ls hl => ?_)
  refine lv_aload_n hc.x hc.b dX12_hour_7 rfl (lv_at hl 1 rfl) ?_
  refine lv_iconst (v := 0) hc.x hc.b dX12_hour_8 (by decide) ?_
  refine fp_60_23 hc hd hL0 tw_1332 (Or.inl rfl) dX12_hour_9 (fun H locs hd => ?_)
  obtain ⟨S_3, hd, hf⟩ := nmD hd hf
  refine lv_iconst (v := 0) hc.x hc.b dX12_hour_12 (by decide) ?_
  refine lv_istore_n (lv' := [(2, .int 0), (1, .int x1_2), (0, .ref (α 60 g0))]) hc.x hc.b dX12_hour_13 rfl hl (by decide) rfl (fun ls hl => ?_)
  refine w_X12_hour_14 hc hr hL0 ?_ _ _ _ _ _ _ hf hd (lv_sub hl [2, 1, 0] rfl)
  intro S_12 H locs ls hf hd hl
  refine lv_iconst (v := 0) hc.x hc.b dX12_hour_42 (by decide) ?_
  refine lv_istore_n (lv' := [(2, .int 0), (0, .ref (α 60 g0)), (1, .int x1_2)]) hc.x hc.b dX12_hour_43 rfl hl (by decide) rfl (fun ls hl => ?_)
  refine w_X12_hour_44 hc hr hL0 ?_ _ _ _ _ _ _ hf hd (lv_sub hl [1, 2, 0] rfl)
  intro S_30 H locs ls hf hd hl
  refine lv_aload_n hc.x hc.b dX12_hour_127 rfl (lv_at hl 0 rfl) ?_
  obtain ⟨S_32, hq_31, hf⟩ := on_s hf
  refine k_v (k_runV hc hd my_X12_present tw_1637 hL0 rfl rfl rfl (c_X12_present l D cs B0 kt α Lv S_30 g0 hc.cl hL0  hq_31) rfl rfl hl.1 (Nat.le_of_ble_eq_true rfl) ⟨Nat.le_of_ble_eq_true rfl, Nat.le_of_ble_eq_true rfl, Nat.zero_le _, Nat.zero_le _⟩ dX12_hour_128) hd (fun H locs hd => ?_)
  refine lv_iconst (v := 0) hc.x hc.b dX12_hour_131 (by decide) ?_
  refine lv_istore_n (lv' := [(2, .int 0), (0, .ref (α 60 g0))]) hc.x hc.b dX12_hour_132 rfl hl (by decide) rfl (fun ls hl => ?_)
  refine w_X12_hour_133 hc hr hL0 ?_ _ _ _ _ _ _ hf hd (lv_sub hl [1, 0] rfl)
  intro S_53 H locs ls hf hd hl
  refine lv_aload_n hc.x hc.b dX12_hour_231 rfl (lv_at hl 0 rfl) ?_
  refine fg_60_0 hc hd hL0 tw_1309 dX12_hour_232 ?_
  refine lv_iconst (v := 2) hc.x hc.b dX12_hour_235 (by decide) ?_
  refine lv_dup2_11 hc.x hc.b dX12_hour_236 rfl rfl ?_
  obtain ⟨hi_54, hf⟩ := ck_s hf
  refine r_iald hc hd (cl_60_told hc.cl hL0) rfl hi_54 dX12_hour_237 ?_
  refine lv_iconst (v := 1) hc.x hc.b dX12_hour_238 (by decide) ?_
  refine lv_iadd hc.x hc.b dX12_hour_239 ?_
  obtain ⟨hi_55, hf⟩ := ck_s hf
  refine r_iast hc hd (cl_60_told hc.cl hL0) (fun _ => rfl) hi_55 dX12_hour_240 (fun H locs hd => ?_)
  obtain ⟨S_56, hd, hf⟩ := nmD hd hf
  cases hf
  exact r_vret hc hd hr dX12_hour_241
theorem c_X12_hour (l : Launch) (D : va_G) (cs : Nat → ClassId) (B0 : Nat) (kt : (Nat → Nat) × (Nat → Nat)) (α : Nat → Nat → Nat) (Lv : Nat → Nat → Prop) (S : St) (g0 : Nat) (hcl : Cl Lv) (hL0 : Lv 60 g0) {o : St} (hf : f_X12_hour g0 S = some o) : Met l yX12_hour (wz yX12_hour cX12_hour 5 none) (Rm 8 0 0) (Pz D cs B0 kt α Lv S [.ref (α 60 g0)]) (Qv D cs B0 α Lv o) 0 0 (AB B0) := met_of (by decide) rfl hcl (Nat.le_of_ble_eq_true rfl) (fun p e s m below meth c hc hr hd ls hl => b_X12_hour hc hr hL0 hf hd hl)
theorem my_X12_hour : MyV yX12_hour "PumpCrossingModel" cX12_hour 5 none 0 := ⟨tw_1599, (in_sel 56 (by decide +kernel) (by decide +kernel)), tw_11, tw_1600, by decide +kernel⟩
def f_X12_image_38 (g0 : Nat) (x1 : Int32) (K : St → Option (St)) : Nat → Int32 → St → Option (St)
  | 0, _, _ => none
  | n + 1, x2, S => br (3179 ≤ x2) (K S) (ck (inb x2 3179 = true) (ck (inb ((3179 * x1) + x2) 9537 = true) (bv (si S 62 g0 (nn ((3179 * x1) + x2)) (gi S 61 g0 (nn x2))) (fun S_13 => bv (x2 + 1) (fun x2_14 => f_X12_image_38 g0 x1 K n x2_14 S_13)))))
def f_X12_image_71 (g0 : Nat) (x1 : Int32) (K : St → Option (St)) : Nat → Int32 → St → Option (St)
  | 0, _, _ => none
  | n + 1, x2, S => br (9 ≤ x2) (K S) (ck (inb x2 9 = true) (ck (inb ((9 * x1) + x2) 27 = true) (bv (sl S 64 g0 (nn ((9 * x1) + x2)) (gl S 63 g0 (nn x2))) (fun S_19 => bv (x2 + 1) (fun x2_20 => f_X12_image_71 g0 x1 K n x2_20 S_19)))))
def f_X12_image (g0 : Nat) (x1 : Int32) (S : St) : Option (St) := on (f_X12_within (Int32.toInt64 x1) 0 2 S) (fun r_2 => bv (fun (v_3 : Int32) (S_4 : St) => bv (si S_4 60 g0 5 v_3) (fun S_6 => br ((gi S_6 60 g0 5) ≤ 0) (ck (inb x1 3 = true) (bv (si S_6 65 g0 (nn x1) (vp_nar .boolean 1)) (fun S_9 => f_X12_image_38 g0 x1 (fun  (S_15 : St) => f_X12_image_71 g0 x1 (fun  (S_21 : St) => some S_21) FU 0 S_15) FU 0 S_9))) (some S_6))) (fun J_5 => br (r_2 = 0) (J_5 1 S) (J_5 0 S)))
set_option maxRecDepth 100000 in
set_option maxHeartbeats 4000000 in
theorem w_X12_image_38 (hc : Cx p s m args meth c cX12_image 3 "PumpCrossingModel" D cs B0 kt Lv) (hr : meth.sig.returnType = none) {o : St}  {g0 : Nat} {x1 : Int32} {K : St → Option (St)} (hL0 : Lv 60 g0) (hK : ∀  (S : St) (H : Heap) (locs : List Loc) (ls : Array Slot), K S = some o → Dy s D cs B0 α Lv S H locs → lv_has ls 3 [(0, .ref (α 60 g0)), (1, .int x1)] → W p l e (Rm 1 0 0) s m args below meth c H locs 0 0 (MQ below (Qv D cs B0 α Lv o) args s 0 0 (AB B0)) (F0 m 69 ls [])) : ∀ (n : Nat) (x2 : Int32) (S : St) (H : Heap) (locs : List Loc) (ls : Array Slot), f_X12_image_38 g0 x1 K n x2 S = some o → Dy s D cs B0 α Lv S H locs → lv_has ls 3 [(0, .ref (α 60 g0)), (1, .int x1), (2, .int x2)] → W p l e (Rm 1 0 0) s m args below meth c H locs 0 0 (MQ below (Qv D cs B0 α Lv o) args s 0 0 (AB B0)) (F0 m 38 ls []) := by
  intro n
  induction n with
  | zero =>
    intro x2 S H locs ls hf
    rw [f_X12_image_38] at hf
    cases hf
  | succ n ih =>
    intro x2 S H locs ls hf hd hl
    rw [f_X12_image_38] at hf
    refine lv_iload_n hc.x hc.b dX12_image_38 rfl (lv_at hl 2 rfl) ?_
    refine lv_sipush (v := 3179) hc.x hc.b dX12_image_39 (by decide) ?_
    refine lv_icmp_ge (tgt := 69) hc.x hc.b dX12_image_42 (by decide) (fun c_10 => ?_) (fun c_10 => ?_)
    · have hf := br_y c_10 hf
      exact hK S _ _ _ hf hd (lv_sub hl [0, 1] rfl)
    · have hf := br_n c_10 hf
      refine lv_aload_n hc.x hc.b dX12_image_45 rfl (lv_at hl 0 rfl) ?_
      refine fg_60_1 hc hd hL0 tw_1310 dX12_image_46 ?_
      refine lv_sipush (v := 3179) hc.x hc.b dX12_image_49 (by decide) ?_
      refine lv_iload_n hc.x hc.b dX12_image_52 rfl (lv_at hl 1 rfl) ?_
      refine lv_imul hc.x hc.b dX12_image_53 ?_
      refine lv_iload_n hc.x hc.b dX12_image_54 rfl (lv_at hl 2 rfl) ?_
      refine lv_iadd hc.x hc.b dX12_image_55 ?_
      refine lv_aload_n hc.x hc.b dX12_image_56 rfl (lv_at hl 0 rfl) ?_
      refine fg_60_0 hc hd hL0 tw_1309 dX12_image_57 ?_
      refine lv_iload_n hc.x hc.b dX12_image_60 rfl (lv_at hl 2 rfl) ?_
      obtain ⟨hi_11, hf⟩ := ck_s hf
      refine r_iald hc hd (cl_60_told hc.cl hL0) rfl hi_11 dX12_image_61 ?_
      obtain ⟨hi_12, hf⟩ := ck_s hf
      refine r_iast hc hd (cl_60_images hc.cl hL0) (fun _ => rfl) hi_12 dX12_image_62 (fun H locs hd => ?_)
      obtain ⟨S_13, hd, hf⟩ := nmD hd hf
      obtain ⟨x2_14, ex2_14⟩ : ∃ z : Int32, z = x2 + 1 := ⟨_, rfl⟩
      have hf := bv_n ex2_14 hf
      refine lv_iinc (v := x2_14) (lv' := [(2, .int x2_14), (0, .ref (α 60 g0)), (1, .int x1)]) hc.x hc.b dX12_image_63 hl (k := 2) rfl (by rw [ex2_14]; rfl) (by decide) rfl (fun ls hl => ?_)
      refine lv_goto (tgt := 38) hc.x hc.b dX12_image_66 (by decide) ?_
      exact ih x2_14 S_13 _ _ _ hf hd (lv_sub hl [1, 2, 0] rfl)
set_option maxRecDepth 100000 in
set_option maxHeartbeats 4000000 in
theorem w_X12_image_71 (hc : Cx p s m args meth c cX12_image 3 "PumpCrossingModel" D cs B0 kt Lv) (hr : meth.sig.returnType = none) {o : St}  {g0 : Nat} {x1 : Int32} {K : St → Option (St)} (hL0 : Lv 60 g0) (hK : ∀  (S : St) (H : Heap) (locs : List Loc) (ls : Array Slot), K S = some o → Dy s D cs B0 α Lv S H locs → lv_has ls 3 [] → W p l e (Rm 1 0 0) s m args below meth c H locs 0 0 (MQ below (Qv D cs B0 α Lv o) args s 0 0 (AB B0)) (F0 m 100 ls [])) : ∀ (n : Nat) (x2 : Int32) (S : St) (H : Heap) (locs : List Loc) (ls : Array Slot), f_X12_image_71 g0 x1 K n x2 S = some o → Dy s D cs B0 α Lv S H locs → lv_has ls 3 [(0, .ref (α 60 g0)), (1, .int x1), (2, .int x2)] → W p l e (Rm 1 0 0) s m args below meth c H locs 0 0 (MQ below (Qv D cs B0 α Lv o) args s 0 0 (AB B0)) (F0 m 71 ls []) := by
  intro n
  induction n with
  | zero =>
    intro x2 S H locs ls hf
    rw [f_X12_image_71] at hf
    cases hf
  | succ n ih =>
    intro x2 S H locs ls hf hd hl
    rw [f_X12_image_71] at hf
    refine lv_iload_n hc.x hc.b dX12_image_71 rfl (lv_at hl 2 rfl) ?_
    refine lv_bipush (v := 9) hc.x hc.b dX12_image_72 (by decide) ?_
    refine lv_icmp_ge (tgt := 100) hc.x hc.b dX12_image_74 (by decide) (fun c_16 => ?_) (fun c_16 => ?_)
    · have hf := br_y c_16 hf
      exact hK S _ _ _ hf hd (lv_sub hl [] rfl)
    · have hf := br_n c_16 hf
      refine lv_aload_n hc.x hc.b dX12_image_77 rfl (lv_at hl 0 rfl) ?_
      refine fg_60_3 hc hd hL0 tw_1312 dX12_image_78 ?_
      refine lv_bipush (v := 9) hc.x hc.b dX12_image_81 (by decide) ?_
      refine lv_iload_n hc.x hc.b dX12_image_83 rfl (lv_at hl 1 rfl) ?_
      refine lv_imul hc.x hc.b dX12_image_84 ?_
      refine lv_iload_n hc.x hc.b dX12_image_85 rfl (lv_at hl 2 rfl) ?_
      refine lv_iadd hc.x hc.b dX12_image_86 ?_
      refine lv_aload_n hc.x hc.b dX12_image_87 rfl (lv_at hl 0 rfl) ?_
      refine fg_60_2 hc hd hL0 tw_1311 dX12_image_88 ?_
      refine lv_iload_n hc.x hc.b dX12_image_91 rfl (lv_at hl 2 rfl) ?_
      obtain ⟨hi_17, hf⟩ := ck_s hf
      refine r_lald hc hd (cl_60_sums hc.cl hL0) rfl hi_17 dX12_image_92 ?_
      obtain ⟨hi_18, hf⟩ := ck_s hf
      refine r_last hc hd (cl_60_imageSums hc.cl hL0) (fun _ => rfl) hi_18 dX12_image_93 (fun H locs hd => ?_)
      obtain ⟨S_19, hd, hf⟩ := nmD hd hf
      obtain ⟨x2_20, ex2_20⟩ : ∃ z : Int32, z = x2 + 1 := ⟨_, rfl⟩
      have hf := bv_n ex2_20 hf
      refine lv_iinc (v := x2_20) (lv' := [(2, .int x2_20), (0, .ref (α 60 g0)), (1, .int x1)]) hc.x hc.b dX12_image_94 hl (k := 2) rfl (by rw [ex2_20]; rfl) (by decide) rfl (fun ls hl => ?_)
      refine lv_goto (tgt := 71) hc.x hc.b dX12_image_97 (by decide) ?_
      exact ih x2_20 S_19 _ _ _ hf hd (lv_sub hl [1, 2, 0] rfl)
set_option maxRecDepth 100000 in
set_option maxHeartbeats 4000000 in
theorem b_X12_image (hc : Cx p s m args meth c cX12_image 3 "PumpCrossingModel" D cs B0 kt Lv) (hr : meth.sig.returnType = none)  {o : St}  {S : St} {g0 : Nat} {x1 : Int32} (hL0 : Lv 60 g0) {H : Heap} {locs : List Loc} {ls : Array Slot} (hf : f_X12_image g0 x1 S = some o) (hd : Dy s D cs B0 α Lv S H locs) (hl : lv_has ls 3 [(0, .ref (α 60 g0)), (1, .int x1)]) : W p l e (Rm 1 0 0) s m args below meth c H locs 0 0 (MQ below (Qv D cs B0 α Lv o) args s 0 0 (AB B0)) (F0 m 0 ls []) := by
  unfold f_X12_image at hf
  refine lv_aload_n hc.x hc.b dX12_image_0 rfl (lv_at hl 0 rfl) ?_
  refine lv_iload_n hc.x hc.b dX12_image_1 rfl (lv_at hl 1 rfl) ?_
  refine lv_i2l (v := Int32.toInt64 x1) hc.x hc.b dX12_image_2 rfl ?_
  refine lv_lconst (v := 0) hc.x hc.b dX12_image_3 (by decide) ?_
  refine lv_ldc2 (v := 2) hc.x hc.b hc.ow (hc.ts tw_1669) dX12_image_4 ?_
  obtain ⟨r_2, hq_1, hf⟩ := on_s hf
  refine k_i (k_runS hc hd my_X12_within tw_1444 (c_X12_within l D cs B0 kt α Lv S (Int32.toInt64 x1) 0 2 hc.cl   hq_1) rfl rfl hl.1 (Nat.le_of_ble_eq_true rfl) ⟨Nat.le_of_ble_eq_true rfl, Nat.le_of_ble_eq_true rfl, Nat.zero_le _, Nat.zero_le _⟩ dX12_image_7) hd (fun H locs hd => ?_)
  refine jn_s (P := fun J_5 => ∀ (v_3 : Int32) (S_4 : St) (H : Heap) (locs : List Loc) (ls : Array Slot), J_5 v_3 S_4 = some o → Dy s D cs B0 α Lv S_4 H locs → lv_has ls 3 [(0, .ref (α 60 g0)), (1, .int x1)] → W p l e (Rm 1 0 0) s m args below meth c H locs 0 0 (MQ below (Qv D cs B0 α Lv o) args s 0 0 (AB B0)) (F0 m 18 ls [.int v_3, .ref (α 60 g0)])) hf ?_ (fun J_5 hJ_5 hf => ?_)
  · intro v_3 S_4 H locs ls hf hd hl
    refine fp_60_5 hc hd hL0 tw_1314 dX12_image_18 (fun H locs hd => ?_)
    obtain ⟨S_6, hd, hf⟩ := nmD hd hf
    refine lv_aload_n hc.x hc.b dX12_image_21 rfl (lv_at hl 0 rfl) ?_
    refine fg_60_5 hc hd hL0 tw_1314 dX12_image_22 ?_
    refine lv_if_le (tgt := 29) hc.x hc.b dX12_image_25 (by decide) (fun c_7 => ?_) (fun c_7 => ?_)
    · have hf := br_y c_7 hf
      refine lv_aload_n hc.x hc.b dX12_image_29 rfl (lv_at hl 0 rfl) ?_
      refine fg_60_4 hc hd hL0 tw_1313 dX12_image_30 ?_
      refine lv_iload_n hc.x hc.b dX12_image_33 rfl (lv_at hl 1 rfl) ?_
      refine lv_iconst (v := 1) hc.x hc.b dX12_image_34 (by decide) ?_
      obtain ⟨hi_8, hf⟩ := ck_s hf
      refine r_zast hc hd (cl_60_isImage hc.cl hL0) (fun _ => rfl) hi_8 dX12_image_35 (fun H locs hd => ?_)
      obtain ⟨S_9, hd, hf⟩ := nmD hd hf
      refine lv_iconst (v := 0) hc.x hc.b dX12_image_36 (by decide) ?_
      refine lv_istore_n (lv' := [(2, .int 0), (0, .ref (α 60 g0)), (1, .int x1)]) hc.x hc.b dX12_image_37 rfl hl (by decide) rfl (fun ls hl => ?_)
      refine w_X12_image_38 hc hr hL0 ?_ _ _ _ _ _ _ hf hd (lv_sub hl [1, 2, 0] rfl)
      intro S_15 H locs ls hf hd hl
      refine lv_iconst (v := 0) hc.x hc.b dX12_image_69 (by decide) ?_
      refine lv_istore_n (lv' := [(2, .int 0), (0, .ref (α 60 g0)), (1, .int x1)]) hc.x hc.b dX12_image_70 rfl hl (by decide) rfl (fun ls hl => ?_)
      refine w_X12_image_71 hc hr hL0 ?_ _ _ _ _ _ _ hf hd (lv_sub hl [1, 2, 0] rfl)
      intro S_21 H locs ls hf hd hl
      cases hf
      exact r_vret hc hd hr dX12_image_100
    · have hf := br_n c_7 hf
      cases hf
      exact r_vret hc hd hr dX12_image_28
  refine lv_if_eq (tgt := 17) hc.x hc.b dX12_image_10 (by decide) (fun c_22 => ?_) (fun c_22 => ?_)
  · have hf := br_y c_22 hf
    refine lv_iconst (v := 1) hc.x hc.b dX12_image_17 (by decide) ?_
    exact hJ_5 1 S _ _ _ hf hd (lv_sub hl [0, 1] rfl)
  · have hf := br_n c_22 hf
    refine lv_iconst (v := 0) hc.x hc.b dX12_image_13 (by decide) ?_
    refine lv_goto (tgt := 18) hc.x hc.b dX12_image_14 (by decide) ?_
    exact hJ_5 0 S _ _ _ hf hd (lv_sub hl [0, 1] rfl)
theorem c_X12_image (l : Launch) (D : va_G) (cs : Nat → ClassId) (B0 : Nat) (kt : (Nat → Nat) × (Nat → Nat)) (α : Nat → Nat → Nat) (Lv : Nat → Nat → Prop) (S : St) (g0 : Nat) (x1 : Int32) (hcl : Cl Lv) (hL0 : Lv 60 g0) {o : St} (hf : f_X12_image g0 x1 S = some o) : Met l yX12_image (wz yX12_image cX12_image 3 none) (Rm 1 0 0) (Pz D cs B0 kt α Lv S [.ref (α 60 g0), .int x1]) (Qv D cs B0 α Lv o) 0 0 (AB B0) := met_of (by decide) rfl hcl (Nat.le_of_ble_eq_true rfl) (fun p e s m below meth c hc hr hd ls hl => b_X12_image hc hr hL0 hf hd hl)
theorem my_X12_image : MyV yX12_image "PumpCrossingModel" cX12_image 3 none 1 := ⟨tw_1868, tw_1869, tw_11, tw_1870, by decide +kernel⟩
def f_X12_isAlike_2 (g0 : Nat) (x1 : Int32) (x2 : Int32) (S : St) (K : Unit → Option (Int32)) : Nat → Int32 → Option (Int32)
  | 0, _ => none
  | n + 1, x3 => ck (inb 0 3179 = true) (br ((gi S 61 g0 (nn 0)) ≤ x3) (K ()) (on (f_X12_boardOf g0 x3 x1 S) (fun r_4 => on (f_X12_boardOf g0 x3 x2 S) (fun r_6 => br (r_4 = r_6) (bv (x3 + 1) (fun x3_8 => f_X12_isAlike_2 g0 x1 x2 S K n x3_8)) (some 0)))))
def f_X12_isAlike (g0 : Nat) (x1 : Int32) (x2 : Int32) (S : St) : Option (Int32) := f_X12_isAlike_2 g0 x1 x2 S (fun (_u : Unit) => some 1) FU 0
set_option maxRecDepth 100000 in
set_option maxHeartbeats 4000000 in
theorem w_X12_isAlike_2 (hc : Cx p s m args meth c cX12_isAlike 4 "PumpCrossingModel" D cs B0 kt Lv) (hr : meth.sig.returnType = some .boolean) {o : Int32}  {g0 : Nat} {x1 : Int32} {x2 : Int32} {S : St} {K : Unit → Option (Int32)} (hL0 : Lv 60 g0) (hK : ∀ (_u : Unit) (H : Heap) (locs : List Loc) (ls : Array Slot), K _u = some o → Dy s D cs B0 α Lv S H locs → lv_has ls 4 [] → W p l e (Rm 1 0 0) s m args below meth c H locs 0 0 (MQ below (Qi D cs B0 α Lv o S) args s 0 0 (AB B0)) (F0 m 35 ls [])) : ∀ (n : Nat) (x3 : Int32) (H : Heap) (locs : List Loc) (ls : Array Slot), f_X12_isAlike_2 g0 x1 x2 S K n x3 = some o → Dy s D cs B0 α Lv S H locs → lv_has ls 4 [(0, .ref (α 60 g0)), (1, .int x1), (2, .int x2), (3, .int x3)] → W p l e (Rm 1 0 0) s m args below meth c H locs 0 0 (MQ below (Qi D cs B0 α Lv o S) args s 0 0 (AB B0)) (F0 m 2 ls []) := by
  intro n
  induction n with
  | zero =>
    intro x3 H locs ls hf
    rw [f_X12_isAlike_2] at hf
    cases hf
  | succ n ih =>
    intro x3 H locs ls hf hd hl
    rw [f_X12_isAlike_2] at hf
    refine lv_iload_n hc.x hc.b dX12_isAlike_2 rfl (lv_at hl 3 rfl) ?_
    refine lv_aload_n hc.x hc.b dX12_isAlike_3 rfl (lv_at hl 0 rfl) ?_
    refine fg_60_0 hc hd hL0 tw_1309 dX12_isAlike_4 ?_
    refine lv_iconst (v := 0) hc.x hc.b dX12_isAlike_7 (by decide) ?_
    obtain ⟨hi_1, hf⟩ := ck_s hf
    refine r_iald hc hd (cl_60_told hc.cl hL0) rfl hi_1 dX12_isAlike_8 ?_
    refine lv_icmp_ge (tgt := 35) hc.x hc.b dX12_isAlike_9 (by decide) (fun c_2 => ?_) (fun c_2 => ?_)
    · have hf := br_y c_2 hf
      exact hK ()  _ _ _ hf hd (lv_sub hl [] rfl)
    · have hf := br_n c_2 hf
      refine lv_aload_n hc.x hc.b dX12_isAlike_12 rfl (lv_at hl 0 rfl) ?_
      refine lv_iload_n hc.x hc.b dX12_isAlike_13 rfl (lv_at hl 3 rfl) ?_
      refine lv_iload_n hc.x hc.b dX12_isAlike_14 rfl (lv_at hl 1 rfl) ?_
      obtain ⟨r_4, hq_3, hf⟩ := on_s hf
      refine k_i (k_runV hc hd my_X12_boardOf tw_1657 hL0 rfl rfl rfl (c_X12_boardOf l D cs B0 kt α Lv S g0 x3 x1 hc.cl hL0  hq_3) rfl rfl hl.1 (Nat.le_of_ble_eq_true rfl) ⟨Nat.le_of_ble_eq_true rfl, Nat.le_of_ble_eq_true rfl, Nat.zero_le _, Nat.zero_le _⟩ dX12_isAlike_15) hd (fun H locs hd => ?_)
      refine lv_aload_n hc.x hc.b dX12_isAlike_18 rfl (lv_at hl 0 rfl) ?_
      refine lv_iload_n hc.x hc.b dX12_isAlike_19 rfl (lv_at hl 3 rfl) ?_
      refine lv_iload_n hc.x hc.b dX12_isAlike_20 rfl (lv_at hl 2 rfl) ?_
      obtain ⟨r_6, hq_5, hf⟩ := on_s hf
      refine k_i (k_runV hc hd my_X12_boardOf tw_1657 hL0 rfl rfl rfl (c_X12_boardOf l D cs B0 kt α Lv S g0 x3 x2 hc.cl hL0  hq_5) rfl rfl hl.1 (Nat.le_of_ble_eq_true rfl) ⟨Nat.le_of_ble_eq_true rfl, Nat.le_of_ble_eq_true rfl, Nat.zero_le _, Nat.zero_le _⟩ dX12_isAlike_21) hd (fun H locs hd => ?_)
      refine lv_icmp_eq (tgt := 29) hc.x hc.b dX12_isAlike_24 (by decide) (fun c_7 => ?_) (fun c_7 => ?_)
      · have hf := br_y c_7 hf
        obtain ⟨x3_8, ex3_8⟩ : ∃ z : Int32, z = x3 + 1 := ⟨_, rfl⟩
        have hf := bv_n ex3_8 hf
        refine lv_iinc (v := x3_8) (lv' := [(3, .int x3_8), (0, .ref (α 60 g0)), (1, .int x1), (2, .int x2)]) hc.x hc.b dX12_isAlike_29 hl (k := 3) rfl (by rw [ex3_8]; rfl) (by decide) rfl (fun ls hl => ?_)
        refine lv_goto (tgt := 2) hc.x hc.b dX12_isAlike_32 (by decide) ?_
        exact ih x3_8 _ _ _ hf hd (lv_sub hl [1, 2, 3, 0] rfl)
      · have hf := br_n c_7 hf
        refine lv_iconst (v := 0) hc.x hc.b dX12_isAlike_27 (by decide) ?_
        cases hf
        exact r_zret hc hd hr (Or.inl rfl) dX12_isAlike_28
set_option maxRecDepth 100000 in
set_option maxHeartbeats 4000000 in
theorem b_X12_isAlike (hc : Cx p s m args meth c cX12_isAlike 4 "PumpCrossingModel" D cs B0 kt Lv) (hr : meth.sig.returnType = some .boolean)  {o : Int32}  {S : St} {g0 : Nat} {x1 : Int32} {x2 : Int32} (hL0 : Lv 60 g0) {H : Heap} {locs : List Loc} {ls : Array Slot} (hf : f_X12_isAlike g0 x1 x2 S = some o) (hd : Dy s D cs B0 α Lv S H locs) (hl : lv_has ls 4 [(0, .ref (α 60 g0)), (1, .int x1), (2, .int x2)]) : W p l e (Rm 1 0 0) s m args below meth c H locs 0 0 (MQ below (Qi D cs B0 α Lv o S) args s 0 0 (AB B0)) (F0 m 0 ls []) := by
  unfold f_X12_isAlike at hf
  refine lv_iconst (v := 0) hc.x hc.b dX12_isAlike_0 (by decide) ?_
  refine lv_istore_n (lv' := [(3, .int 0), (0, .ref (α 60 g0)), (1, .int x1), (2, .int x2)]) hc.x hc.b dX12_isAlike_1 rfl hl (by decide) rfl (fun ls hl => ?_)
  refine w_X12_isAlike_2 hc hr hL0 ?_ _ _ _ _ _ hf hd (lv_sub hl [1, 2, 3, 0] rfl)
  intro _u H locs ls hf hd hl
  refine lv_iconst (v := 1) hc.x hc.b dX12_isAlike_35 (by decide) ?_
  cases hf
  exact r_zret hc hd hr (Or.inr rfl) dX12_isAlike_36
theorem c_X12_isAlike (l : Launch) (D : va_G) (cs : Nat → ClassId) (B0 : Nat) (kt : (Nat → Nat) × (Nat → Nat)) (α : Nat → Nat → Nat) (Lv : Nat → Nat → Prop) (S : St) (g0 : Nat) (x1 : Int32) (x2 : Int32) (hcl : Cl Lv) (hL0 : Lv 60 g0) {o : Int32} (hf : f_X12_isAlike g0 x1 x2 S = some o) : Met l yX12_isAlike (wz yX12_isAlike cX12_isAlike 4 (some .boolean)) (Rm 1 0 0) (Pz D cs B0 kt α Lv S [.ref (α 60 g0), .int x1, .int x2]) (Qi D cs B0 α Lv o S) 0 0 (AB B0) := met_of (by decide) rfl hcl (Nat.le_of_ble_eq_true rfl) (fun p e s m below meth c hc hr hd ls hl => b_X12_isAlike hc hr hL0 hf hd hl)
theorem my_X12_isAlike : MyV yX12_isAlike "PumpCrossingModel" cX12_isAlike 4 (some .boolean) 2 := ⟨tw_1680, (in_sel 69 (by decide +kernel) (by decide +kernel)), tw_11, tw_1681, by decide +kernel⟩
def f_X12_isDigit (x0 : Int32) (S : St) : Option (Int32) := bv (fun (v_1 : Int32) => ck (v_1 = 0 ∨ v_1 = 1) (some v_1)) (fun J_2 => bv (fun (_u : Unit) => J_2 0) (fun J_3 => br (x0 < 48) (J_3 ()) (br (57 < x0) (J_3 ()) (J_2 1))))
set_option maxRecDepth 100000 in
set_option maxHeartbeats 4000000 in
theorem b_X12_isDigit (hc : Cx p s m args meth c cX12_isDigit 1 "PumpCrossingModel" D cs B0 kt Lv) (hr : meth.sig.returnType = some .boolean)  {o : Int32}  {S : St} {x0 : Int32}  {H : Heap} {locs : List Loc} {ls : Array Slot} (hf : f_X12_isDigit x0 S = some o) (hd : Dy s D cs B0 α Lv S H locs) (hl : lv_has ls 1 [(0, .int x0)]) : W p l e (Rm 0 0 0) s m args below meth c H locs 0 0 (MQ below (Qi D cs B0 α Lv o S) args s 0 0 (AB B0)) (F0 m 0 ls []) := by
  unfold f_X12_isDigit at hf
  refine lv_iload_n hc.x hc.b dX12_isDigit_0 rfl (lv_at hl 0 rfl) ?_
  refine lv_bipush (v := 48) hc.x hc.b dX12_isDigit_1 (by decide) ?_
  refine jn_s (P := fun J_2 => ∀ (v_1 : Int32) (H : Heap) (locs : List Loc) (ls : Array Slot), J_2 v_1 = some o → Dy s D cs B0 α Lv S H locs → lv_has ls 1 [] → W p l e (Rm 0 0 0) s m args below meth c H locs 0 0 (MQ below (Qi D cs B0 α Lv o S) args s 0 0 (AB B0)) (F0 m 17 ls [.int v_1])) hf ?_ (fun J_2 hJ_2 hf => ?_)
  · intro v_1 H locs ls hf hd hl
    obtain ⟨hz, hf⟩ := ck_s hf
    cases hf
    exact r_zret hc hd hr hz dX12_isDigit_17
  refine jn_s (P := fun J_3 => ∀ (_u : Unit) (H : Heap) (locs : List Loc) (ls : Array Slot), J_3 _u = some o → Dy s D cs B0 α Lv S H locs → lv_has ls 1 [] → W p l e (Rm 0 0 0) s m args below meth c H locs 0 0 (MQ below (Qi D cs B0 α Lv o S) args s 0 0 (AB B0)) (F0 m 16 ls [])) hf ?_ (fun J_3 hJ_3 hf => ?_)
  · intro _u H locs ls hf hd hl
    refine lv_iconst (v := 0) hc.x hc.b dX12_isDigit_16 (by decide) ?_
    exact hJ_2 0 _ _ _ hf hd (lv_sub hl [] rfl)
  refine lv_icmp_lt (tgt := 16) hc.x hc.b dX12_isDigit_3 (by decide) (fun c_4 => ?_) (fun c_4 => ?_)
  · have hf := br_y c_4 hf
    exact hJ_3 ()  _ _ _ hf hd (lv_sub hl [] rfl)
  · have hf := br_n c_4 hf
    refine lv_iload_n hc.x hc.b dX12_isDigit_6 rfl (lv_at hl 0 rfl) ?_
    refine lv_bipush (v := 57) hc.x hc.b dX12_isDigit_7 (by decide) ?_
    refine lv_icmp_gt (tgt := 16) hc.x hc.b dX12_isDigit_9 (by decide) (fun c_5 => ?_) (fun c_5 => ?_)
    · have hf := br_y c_5 hf
      exact hJ_3 ()  _ _ _ hf hd (lv_sub hl [] rfl)
    · have hf := br_n c_5 hf
      refine lv_iconst (v := 1) hc.x hc.b dX12_isDigit_12 (by decide) ?_
      refine lv_goto (tgt := 17) hc.x hc.b dX12_isDigit_13 (by decide) ?_
      exact hJ_2 1 _ _ _ hf hd (lv_sub hl [] rfl)
theorem c_X12_isDigit (l : Launch) (D : va_G) (cs : Nat → ClassId) (B0 : Nat) (kt : (Nat → Nat) × (Nat → Nat)) (α : Nat → Nat → Nat) (Lv : Nat → Nat → Prop) (S : St) (x0 : Int32) (hcl : Cl Lv)  {o : Int32} (hf : f_X12_isDigit x0 S = some o) : Met l yX12_isDigit (wz yX12_isDigit cX12_isDigit 1 (some .boolean)) (Rm 0 0 0) (Pz D cs B0 kt α Lv S [.int x0]) (Qi D cs B0 α Lv o S) 0 0 (AB B0) := met_of (by decide) rfl hcl (Nat.le_of_ble_eq_true rfl) (fun p e s m below meth c hc hr hd ls hl => b_X12_isDigit hc hr  hf hd hl)
theorem my_X12_isDigit : MyS yX12_isDigit cX12_isDigit 1 (some .boolean) 1 := ⟨tw_1493, tw_11, tw_1494, by decide +kernel⟩
def f_X12_rose (g0 : Nat) (x1 : Int32) (x2 : Int32) (S : St) : Option (Int32) := on (f_X12_boardOf g0 x1 x2 S) (fun r_2 => on (f_X12_boardOf g0 x1 (x2 - 1) S) (fun r_4 => bv (fun (v_5 : Int32) => ck (v_5 = 0 ∨ v_5 = 1) (some v_5)) (fun J_6 => br (r_2 ≤ r_4) (J_6 0) (J_6 1))))
set_option maxRecDepth 100000 in
set_option maxHeartbeats 4000000 in
theorem b_X12_rose (hc : Cx p s m args meth c cX12_rose 3 "PumpCrossingModel" D cs B0 kt Lv) (hr : meth.sig.returnType = some .boolean)  {o : Int32}  {S : St} {g0 : Nat} {x1 : Int32} {x2 : Int32} (hL0 : Lv 60 g0) {H : Heap} {locs : List Loc} {ls : Array Slot} (hf : f_X12_rose g0 x1 x2 S = some o) (hd : Dy s D cs B0 α Lv S H locs) (hl : lv_has ls 3 [(0, .ref (α 60 g0)), (1, .int x1), (2, .int x2)]) : W p l e (Rm 1 0 0) s m args below meth c H locs 0 0 (MQ below (Qi D cs B0 α Lv o S) args s 0 0 (AB B0)) (F0 m 0 ls []) := by
  unfold f_X12_rose at hf
  refine lv_aload_n hc.x hc.b dX12_rose_0 rfl (lv_at hl 0 rfl) ?_
  refine lv_iload_n hc.x hc.b dX12_rose_1 rfl (lv_at hl 1 rfl) ?_
  refine lv_iload_n hc.x hc.b dX12_rose_2 rfl (lv_at hl 2 rfl) ?_
  obtain ⟨r_2, hq_1, hf⟩ := on_s hf
  refine k_i (k_runV hc hd my_X12_boardOf tw_1657 hL0 rfl rfl rfl (c_X12_boardOf l D cs B0 kt α Lv S g0 x1 x2 hc.cl hL0  hq_1) rfl rfl hl.1 (Nat.le_of_ble_eq_true rfl) ⟨Nat.le_of_ble_eq_true rfl, Nat.le_of_ble_eq_true rfl, Nat.zero_le _, Nat.zero_le _⟩ dX12_rose_3) hd (fun H locs hd => ?_)
  refine lv_aload_n hc.x hc.b dX12_rose_6 rfl (lv_at hl 0 rfl) ?_
  refine lv_iload_n hc.x hc.b dX12_rose_7 rfl (lv_at hl 1 rfl) ?_
  refine lv_iload_n hc.x hc.b dX12_rose_8 rfl (lv_at hl 2 rfl) ?_
  refine lv_iconst (v := 1) hc.x hc.b dX12_rose_9 (by decide) ?_
  refine lv_isub hc.x hc.b dX12_rose_10 ?_
  obtain ⟨r_4, hq_3, hf⟩ := on_s hf
  refine k_i (k_runV hc hd my_X12_boardOf tw_1657 hL0 rfl rfl rfl (c_X12_boardOf l D cs B0 kt α Lv S g0 x1 (x2 - 1) hc.cl hL0  hq_3) rfl rfl hl.1 (Nat.le_of_ble_eq_true rfl) ⟨Nat.le_of_ble_eq_true rfl, Nat.le_of_ble_eq_true rfl, Nat.zero_le _, Nat.zero_le _⟩ dX12_rose_11) hd (fun H locs hd => ?_)
  refine jn_s (P := fun J_6 => ∀ (v_5 : Int32) (H : Heap) (locs : List Loc) (ls : Array Slot), J_6 v_5 = some o → Dy s D cs B0 α Lv S H locs → lv_has ls 3 [] → W p l e (Rm 1 0 0) s m args below meth c H locs 0 0 (MQ below (Qi D cs B0 α Lv o S) args s 0 0 (AB B0)) (F0 m 22 ls [.int v_5])) hf ?_ (fun J_6 hJ_6 hf => ?_)
  · intro v_5 H locs ls hf hd hl
    obtain ⟨hz, hf⟩ := ck_s hf
    cases hf
    exact r_zret hc hd hr hz dX12_rose_22
  refine lv_icmp_le (tgt := 21) hc.x hc.b dX12_rose_14 (by decide) (fun c_7 => ?_) (fun c_7 => ?_)
  · have hf := br_y c_7 hf
    refine lv_iconst (v := 0) hc.x hc.b dX12_rose_21 (by decide) ?_
    exact hJ_6 0 _ _ _ hf hd (lv_sub hl [] rfl)
  · have hf := br_n c_7 hf
    refine lv_iconst (v := 1) hc.x hc.b dX12_rose_17 (by decide) ?_
    refine lv_goto (tgt := 22) hc.x hc.b dX12_rose_18 (by decide) ?_
    exact hJ_6 1 _ _ _ hf hd (lv_sub hl [] rfl)
theorem c_X12_rose (l : Launch) (D : va_G) (cs : Nat → ClassId) (B0 : Nat) (kt : (Nat → Nat) × (Nat → Nat)) (α : Nat → Nat → Nat) (Lv : Nat → Nat → Prop) (S : St) (g0 : Nat) (x1 : Int32) (x2 : Int32) (hcl : Cl Lv) (hL0 : Lv 60 g0) {o : Int32} (hf : f_X12_rose g0 x1 x2 S = some o) : Met l yX12_rose (wz yX12_rose cX12_rose 3 (some .boolean)) (Rm 1 0 0) (Pz D cs B0 kt α Lv S [.ref (α 60 g0), .int x1, .int x2]) (Qi D cs B0 α Lv o S) 0 0 (AB B0) := met_of (by decide) rfl hcl (Nat.le_of_ble_eq_true rfl) (fun p e s m below meth c hc hr hd ls hl => b_X12_rose hc hr hL0 hf hd hl)
theorem my_X12_rose : MyV yX12_rose "PumpCrossingModel" cX12_rose 3 (some .boolean) 2 := ⟨tw_1692, (in_sel 71 (by decide +kernel) (by decide +kernel)), tw_11, tw_1693, by decide +kernel⟩
def f_X12_isFollowed_40 (g0 : Nat) (x1 : Int32) (x2 : Int32) (x3 : Int32) (S : St) (K : Int32 → Option (Int32)) : Nat → Int32 → Int32 → Option (Int32)
  | 0, _, _ => none
  | n + 1, x4, x5 => br (6 < x5) (K x4) (bv (fun (v_9 : Int32) => bv (x5 + 1) (fun x5_11 => f_X12_isFollowed_40 g0 x1 x2 x3 S K n v_9 x5_11)) (fun J_10 => bv (fun (_u : Unit) => J_10 1) (fun J_12 => br (x4 = 0) (on (f_X12_rose g0 x3 (x2 + x5) S) (fun r_15 => br (r_15 = 0) (J_10 0) (J_12 ()))) (J_12 ()))))
def f_X12_isFollowed_15 (g0 : Nat) (x1 : Int32) (x2 : Int32) (S : St) (K : Unit → Option (Int32)) : Nat → Int32 → Option (Int32)
  | 0, _ => none
  | n + 1, x3 => ck (inb 0 3179 = true) (br ((gi S 61 g0 (nn 0)) ≤ x3) (K ()) (bv (fun (v_6 : Int32) => f_X12_isFollowed_40 g0 x1 x2 x3 S (fun (x4_17 : Int32) => br (x4_17 = 0) (some 0) (bv (x3 + 1) (fun x3_19 => f_X12_isFollowed_15 g0 x1 x2 S K n x3_19))) FU v_6 1) (fun J_7 => br (x3 = x1) (J_7 1) (J_7 0))))
def f_X12_isFollowed (g0 : Nat) (x1 : Int32) (x2 : Int32) (S : St) : Option (Int32) := on (f_X12_isBoard g0 (x2 + 6) S) (fun r_2 => br (r_2 = 0) (some 0) (f_X12_isFollowed_15 g0 x1 x2 S (fun (_u : Unit) => some 1) FU 0))
set_option maxRecDepth 100000 in
set_option maxHeartbeats 4000000 in
theorem w_X12_isFollowed_40 (hc : Cx p s m args meth c cX12_isFollowed 6 "PumpCrossingModel" D cs B0 kt Lv) (hr : meth.sig.returnType = some .boolean) {o : Int32}  {g0 : Nat} {x1 : Int32} {x2 : Int32} {x3 : Int32} {S : St} {K : Int32 → Option (Int32)} (hL0 : Lv 60 g0) (hK : ∀ (k4 : Int32) (H : Heap) (locs : List Loc) (ls : Array Slot), K k4 = some o → Dy s D cs B0 α Lv S H locs → lv_has ls 6 [(0, .ref (α 60 g0)), (1, .int x1), (2, .int x2), (3, .int x3), (4, .int k4)] → W p l e (Rm 3 0 0) s m args below meth c H locs 0 0 (MQ below (Qi D cs B0 α Lv o S) args s 0 0 (AB B0)) (F0 m 77 ls [])) : ∀ (n : Nat) (x4 : Int32) (x5 : Int32) (H : Heap) (locs : List Loc) (ls : Array Slot), f_X12_isFollowed_40 g0 x1 x2 x3 S K n x4 x5 = some o → Dy s D cs B0 α Lv S H locs → lv_has ls 6 [(0, .ref (α 60 g0)), (1, .int x1), (2, .int x2), (3, .int x3), (4, .int x4), (5, .int x5)] → W p l e (Rm 3 0 0) s m args below meth c H locs 0 0 (MQ below (Qi D cs B0 α Lv o S) args s 0 0 (AB B0)) (F0 m 40 ls []) := by
  intro n
  induction n with
  | zero =>
    intro x4 x5 H locs ls hf
    rw [f_X12_isFollowed_40] at hf
    cases hf
  | succ n ih =>
    intro x4 x5 H locs ls hf hd hl
    rw [f_X12_isFollowed_40] at hf
    refine lv_iload hc.x hc.b dX12_isFollowed_40 (lv_at hl 5 rfl) ?_
    refine lv_bipush (v := 6) hc.x hc.b dX12_isFollowed_42 (by decide) ?_
    refine lv_icmp_gt (tgt := 77) hc.x hc.b dX12_isFollowed_44 (by decide) (fun c_8 => ?_) (fun c_8 => ?_)
    · have hf := br_y c_8 hf
      exact hK x4 _ _ _ hf hd (lv_sub hl [0, 1, 2, 3, 4] rfl)
    · have hf := br_n c_8 hf
      refine lv_iload hc.x hc.b dX12_isFollowed_47 (lv_at hl 4 rfl) ?_
      refine jn_s (P := fun J_10 => ∀ (v_9 : Int32) (H : Heap) (locs : List Loc) (ls : Array Slot), J_10 v_9 = some o → Dy s D cs B0 α Lv S H locs → lv_has ls 6 [(0, .ref (α 60 g0)), (1, .int x1), (2, .int x2), (3, .int x3), (5, .int x5)] → W p l e (Rm 3 0 0) s m args below meth c H locs 0 0 (MQ below (Qi D cs B0 α Lv o S) args s 0 0 (AB B0)) (F0 m 69 ls [.int v_9])) hf ?_ (fun J_10 hJ_10 hf => ?_)
      · intro v_9 H locs ls hf hd hl
        refine lv_istore (lv' := [(4, .int v_9), (0, .ref (α 60 g0)), (1, .int x1), (2, .int x2), (3, .int x3), (5, .int x5)]) hc.x hc.b dX12_isFollowed_69 hl (by decide) rfl (fun ls hl => ?_)
        obtain ⟨x5_11, ex5_11⟩ : ∃ z : Int32, z = x5 + 1 := ⟨_, rfl⟩
        have hf := bv_n ex5_11 hf
        refine lv_iinc (v := x5_11) (lv' := [(5, .int x5_11), (4, .int v_9), (0, .ref (α 60 g0)), (1, .int x1), (2, .int x2), (3, .int x3)]) hc.x hc.b dX12_isFollowed_71 hl (k := 5) rfl (by rw [ex5_11]; rfl) (by decide) rfl (fun ls hl => ?_)
        refine lv_goto (tgt := 40) hc.x hc.b dX12_isFollowed_74 (by decide) ?_
        exact ih v_9 x5_11 _ _ _ hf hd (lv_sub hl [2, 3, 4, 5, 1, 0] rfl)
      refine jn_s (P := fun J_12 => ∀ (_u : Unit) (H : Heap) (locs : List Loc) (ls : Array Slot), J_12 _u = some o → Dy s D cs B0 α Lv S H locs → lv_has ls 6 [(0, .ref (α 60 g0)), (1, .int x1), (2, .int x2), (3, .int x3), (5, .int x5)] → W p l e (Rm 3 0 0) s m args below meth c H locs 0 0 (MQ below (Qi D cs B0 α Lv o S) args s 0 0 (AB B0)) (F0 m 64 ls [])) hf ?_ (fun J_12 hJ_12 hf => ?_)
      · intro _u H locs ls hf hd hl
        refine lv_iconst (v := 1) hc.x hc.b dX12_isFollowed_64 (by decide) ?_
        refine lv_goto (tgt := 69) hc.x hc.b dX12_isFollowed_65 (by decide) ?_
        exact hJ_10 1 _ _ _ hf hd (lv_sub hl [0, 1, 2, 3, 4] rfl)
      refine lv_if_ne (tgt := 64) hc.x hc.b dX12_isFollowed_49 (by decide) (fun c_13 => ?_) (fun c_13 => ?_)
      · have hf := br_n c_13 hf
        exact hJ_12 ()  _ _ _ hf hd (lv_sub hl [0, 1, 2, 3, 5] rfl)
      · have hf := br_y c_13 hf
        refine lv_aload_n hc.x hc.b dX12_isFollowed_52 rfl (lv_at hl 0 rfl) ?_
        refine lv_iload_n hc.x hc.b dX12_isFollowed_53 rfl (lv_at hl 3 rfl) ?_
        refine lv_iload_n hc.x hc.b dX12_isFollowed_54 rfl (lv_at hl 2 rfl) ?_
        refine lv_iload hc.x hc.b dX12_isFollowed_55 (lv_at hl 5 rfl) ?_
        refine lv_iadd hc.x hc.b dX12_isFollowed_57 ?_
        obtain ⟨r_15, hq_14, hf⟩ := on_s hf
        refine k_i (k_runV hc hd my_X12_rose tw_1690 hL0 rfl rfl rfl (c_X12_rose l D cs B0 kt α Lv S g0 x3 (x2 + x5) hc.cl hL0  hq_14) rfl rfl hl.1 (Nat.le_of_ble_eq_true rfl) ⟨Nat.le_of_ble_eq_true rfl, Nat.le_of_ble_eq_true rfl, Nat.zero_le _, Nat.zero_le _⟩ dX12_isFollowed_58) hd (fun H locs hd => ?_)
        refine lv_if_eq (tgt := 68) hc.x hc.b dX12_isFollowed_61 (by decide) (fun c_16 => ?_) (fun c_16 => ?_)
        · have hf := br_y c_16 hf
          refine lv_iconst (v := 0) hc.x hc.b dX12_isFollowed_68 (by decide) ?_
          exact hJ_10 0 _ _ _ hf hd (lv_sub hl [0, 1, 2, 3, 5] rfl)
        · have hf := br_n c_16 hf
          exact hJ_12 ()  _ _ _ hf hd (lv_sub hl [0, 1, 2, 3, 5] rfl)
set_option maxRecDepth 100000 in
set_option maxHeartbeats 4000000 in
theorem w_X12_isFollowed_15 (hc : Cx p s m args meth c cX12_isFollowed 6 "PumpCrossingModel" D cs B0 kt Lv) (hr : meth.sig.returnType = some .boolean) {o : Int32}  {g0 : Nat} {x1 : Int32} {x2 : Int32} {S : St} {K : Unit → Option (Int32)} (hL0 : Lv 60 g0) (hK : ∀ (_u : Unit) (H : Heap) (locs : List Loc) (ls : Array Slot), K _u = some o → Dy s D cs B0 α Lv S H locs → lv_has ls 6 [] → W p l e (Rm 3 0 0) s m args below meth c H locs 0 0 (MQ below (Qi D cs B0 α Lv o S) args s 0 0 (AB B0)) (F0 m 90 ls [])) : ∀ (n : Nat) (x3 : Int32) (H : Heap) (locs : List Loc) (ls : Array Slot), f_X12_isFollowed_15 g0 x1 x2 S K n x3 = some o → Dy s D cs B0 α Lv S H locs → lv_has ls 6 [(0, .ref (α 60 g0)), (1, .int x1), (2, .int x2), (3, .int x3)] → W p l e (Rm 3 0 0) s m args below meth c H locs 0 0 (MQ below (Qi D cs B0 α Lv o S) args s 0 0 (AB B0)) (F0 m 15 ls []) := by
  intro n
  induction n with
  | zero =>
    intro x3 H locs ls hf
    rw [f_X12_isFollowed_15] at hf
    cases hf
  | succ n ih =>
    intro x3 H locs ls hf hd hl
    rw [f_X12_isFollowed_15] at hf
    refine lv_iload_n hc.x hc.b dX12_isFollowed_15 rfl (lv_at hl 3 rfl) ?_
    refine lv_aload_n hc.x hc.b dX12_isFollowed_16 rfl (lv_at hl 0 rfl) ?_
    refine fg_60_0 hc hd hL0 tw_1309 dX12_isFollowed_17 ?_
    refine lv_iconst (v := 0) hc.x hc.b dX12_isFollowed_20 (by decide) ?_
    obtain ⟨hi_4, hf⟩ := ck_s hf
    refine r_iald hc hd (cl_60_told hc.cl hL0) rfl hi_4 dX12_isFollowed_21 ?_
    refine lv_icmp_ge (tgt := 90) hc.x hc.b dX12_isFollowed_22 (by decide) (fun c_5 => ?_) (fun c_5 => ?_)
    · have hf := br_y c_5 hf
      exact hK ()  _ _ _ hf hd (lv_sub hl [] rfl)
    · have hf := br_n c_5 hf
      refine lv_iload_n hc.x hc.b dX12_isFollowed_25 rfl (lv_at hl 3 rfl) ?_
      refine lv_iload_n hc.x hc.b dX12_isFollowed_26 rfl (lv_at hl 1 rfl) ?_
      refine jn_s (P := fun J_7 => ∀ (v_6 : Int32) (H : Heap) (locs : List Loc) (ls : Array Slot), J_7 v_6 = some o → Dy s D cs B0 α Lv S H locs → lv_has ls 6 [(0, .ref (α 60 g0)), (1, .int x1), (2, .int x2), (3, .int x3)] → W p l e (Rm 3 0 0) s m args below meth c H locs 0 0 (MQ below (Qi D cs B0 α Lv o S) args s 0 0 (AB B0)) (F0 m 35 ls [.int v_6])) hf ?_ (fun J_7 hJ_7 hf => ?_)
      · intro v_6 H locs ls hf hd hl
        refine lv_istore (lv' := [(4, .int v_6), (0, .ref (α 60 g0)), (1, .int x1), (2, .int x2), (3, .int x3)]) hc.x hc.b dX12_isFollowed_35 hl (by decide) rfl (fun ls hl => ?_)
        refine lv_iconst (v := 1) hc.x hc.b dX12_isFollowed_37 (by decide) ?_
        refine lv_istore (lv' := [(5, .int 1), (4, .int v_6), (0, .ref (α 60 g0)), (1, .int x1), (2, .int x2), (3, .int x3)]) hc.x hc.b dX12_isFollowed_38 hl (by decide) rfl (fun ls hl => ?_)
        refine w_X12_isFollowed_40 hc hr hL0 ?_ _ _ _ _ _ _ hf hd (lv_sub hl [2, 3, 4, 5, 1, 0] rfl)
        intro x4_17 H locs ls hf hd hl
        refine lv_iload hc.x hc.b dX12_isFollowed_77 (lv_at hl 4 rfl) ?_
        refine lv_if_ne (tgt := 84) hc.x hc.b dX12_isFollowed_79 (by decide) (fun c_18 => ?_) (fun c_18 => ?_)
        · have hf := br_n c_18 hf
          obtain ⟨x3_19, ex3_19⟩ : ∃ z : Int32, z = x3 + 1 := ⟨_, rfl⟩
          have hf := bv_n ex3_19 hf
          refine lv_iinc (v := x3_19) (lv' := [(3, .int x3_19), (0, .ref (α 60 g0)), (1, .int x1), (2, .int x2), (4, .int x4_17)]) hc.x hc.b dX12_isFollowed_84 hl (k := 3) rfl (by rw [ex3_19]; rfl) (by decide) rfl (fun ls hl => ?_)
          refine lv_goto (tgt := 15) hc.x hc.b dX12_isFollowed_87 (by decide) ?_
          exact ih x3_19 _ _ _ hf hd (lv_sub hl [1, 2, 3, 0] rfl)
        · have hf := br_y c_18 hf
          refine lv_iconst (v := 0) hc.x hc.b dX12_isFollowed_82 (by decide) ?_
          cases hf
          exact r_zret hc hd hr (Or.inl rfl) dX12_isFollowed_83
      refine lv_icmp_ne (tgt := 34) hc.x hc.b dX12_isFollowed_27 (by decide) (fun c_20 => ?_) (fun c_20 => ?_)
      · have hf := br_n c_20 hf
        refine lv_iconst (v := 0) hc.x hc.b dX12_isFollowed_34 (by decide) ?_
        exact hJ_7 0 _ _ _ hf hd (lv_sub hl [0, 1, 2, 3] rfl)
      · have hf := br_y c_20 hf
        refine lv_iconst (v := 1) hc.x hc.b dX12_isFollowed_30 (by decide) ?_
        refine lv_goto (tgt := 35) hc.x hc.b dX12_isFollowed_31 (by decide) ?_
        exact hJ_7 1 _ _ _ hf hd (lv_sub hl [0, 1, 2, 3] rfl)
set_option maxRecDepth 100000 in
set_option maxHeartbeats 4000000 in
theorem b_X12_isFollowed (hc : Cx p s m args meth c cX12_isFollowed 6 "PumpCrossingModel" D cs B0 kt Lv) (hr : meth.sig.returnType = some .boolean)  {o : Int32}  {S : St} {g0 : Nat} {x1 : Int32} {x2 : Int32} (hL0 : Lv 60 g0) {H : Heap} {locs : List Loc} {ls : Array Slot} (hf : f_X12_isFollowed g0 x1 x2 S = some o) (hd : Dy s D cs B0 α Lv S H locs) (hl : lv_has ls 6 [(0, .ref (α 60 g0)), (1, .int x1), (2, .int x2)]) : W p l e (Rm 3 0 0) s m args below meth c H locs 0 0 (MQ below (Qi D cs B0 α Lv o S) args s 0 0 (AB B0)) (F0 m 0 ls []) := by
  unfold f_X12_isFollowed at hf
  refine lv_aload_n hc.x hc.b dX12_isFollowed_0 rfl (lv_at hl 0 rfl) ?_
  refine lv_iload_n hc.x hc.b dX12_isFollowed_1 rfl (lv_at hl 2 rfl) ?_
  refine lv_bipush (v := 6) hc.x hc.b dX12_isFollowed_2 (by decide) ?_
  refine lv_iadd hc.x hc.b dX12_isFollowed_4 ?_
  obtain ⟨r_2, hq_1, hf⟩ := on_s hf
  refine k_i (k_runV hc hd my_X12_isBoard tw_1653 hL0 rfl rfl rfl (c_X12_isBoard l D cs B0 kt α Lv S g0 (x2 + 6) hc.cl hL0  hq_1) rfl rfl hl.1 (Nat.le_of_ble_eq_true rfl) ⟨Nat.le_of_ble_eq_true rfl, Nat.le_of_ble_eq_true rfl, Nat.zero_le _, Nat.zero_le _⟩ dX12_isFollowed_5) hd (fun H locs hd => ?_)
  refine lv_if_ne (tgt := 13) hc.x hc.b dX12_isFollowed_8 (by decide) (fun c_3 => ?_) (fun c_3 => ?_)
  · have hf := br_n c_3 hf
    refine lv_iconst (v := 0) hc.x hc.b dX12_isFollowed_13 (by decide) ?_
    refine lv_istore_n (lv' := [(3, .int 0), (0, .ref (α 60 g0)), (1, .int x1), (2, .int x2)]) hc.x hc.b dX12_isFollowed_14 rfl hl (by decide) rfl (fun ls hl => ?_)
    refine w_X12_isFollowed_15 hc hr hL0 ?_ _ _ _ _ _ hf hd (lv_sub hl [1, 2, 3, 0] rfl)
    intro _u H locs ls hf hd hl
    refine lv_iconst (v := 1) hc.x hc.b dX12_isFollowed_90 (by decide) ?_
    cases hf
    exact r_zret hc hd hr (Or.inr rfl) dX12_isFollowed_91
  · have hf := br_y c_3 hf
    refine lv_iconst (v := 0) hc.x hc.b dX12_isFollowed_11 (by decide) ?_
    cases hf
    exact r_zret hc hd hr (Or.inl rfl) dX12_isFollowed_12
theorem c_X12_isFollowed (l : Launch) (D : va_G) (cs : Nat → ClassId) (B0 : Nat) (kt : (Nat → Nat) × (Nat → Nat)) (α : Nat → Nat → Nat) (Lv : Nat → Nat → Prop) (S : St) (g0 : Nat) (x1 : Int32) (x2 : Int32) (hcl : Cl Lv) (hL0 : Lv 60 g0) {o : Int32} (hf : f_X12_isFollowed g0 x1 x2 S = some o) : Met l yX12_isFollowed (wz yX12_isFollowed cX12_isFollowed 6 (some .boolean)) (Rm 3 0 0) (Pz D cs B0 kt α Lv S [.ref (α 60 g0), .int x1, .int x2]) (Qi D cs B0 α Lv o S) 0 0 (AB B0) := met_of (by decide) rfl hcl (Nat.le_of_ble_eq_true rfl) (fun p e s m below meth c hc hr hd ls hl => b_X12_isFollowed hc hr hL0 hf hd hl)
theorem my_X12_isFollowed : MyV yX12_isFollowed "PumpCrossingModel" cX12_isFollowed 6 (some .boolean) 2 := ⟨tw_1696, (in_sel 72 (by decide +kernel) (by decide +kernel)), tw_11, tw_1697, by decide +kernel⟩
def f_X12_isLag (x0 : Int32) (S : St) : Option (Int32) := on (f_X12_within (Int32.toInt64 x0) 0 20 S) (fun r_2 => ck (r_2 = 0 ∨ r_2 = 1) (some r_2))
set_option maxRecDepth 100000 in
set_option maxHeartbeats 4000000 in
theorem b_X12_isLag (hc : Cx p s m args meth c cX12_isLag 1 "PumpCrossingModel" D cs B0 kt Lv) (hr : meth.sig.returnType = some .boolean)  {o : Int32}  {S : St} {x0 : Int32}  {H : Heap} {locs : List Loc} {ls : Array Slot} (hf : f_X12_isLag x0 S = some o) (hd : Dy s D cs B0 α Lv S H locs) (hl : lv_has ls 1 [(0, .int x0)]) : W p l e (Rm 1 0 0) s m args below meth c H locs 0 0 (MQ below (Qi D cs B0 α Lv o S) args s 0 0 (AB B0)) (F0 m 0 ls []) := by
  unfold f_X12_isLag at hf
  refine lv_iload_n hc.x hc.b dX12_isLag_0 rfl (lv_at hl 0 rfl) ?_
  refine lv_i2l (v := Int32.toInt64 x0) hc.x hc.b dX12_isLag_1 rfl ?_
  refine lv_lconst (v := 0) hc.x hc.b dX12_isLag_2 (by decide) ?_
  refine lv_ldc2 (v := 20) hc.x hc.b hc.ow (hc.ts tw_1456) dX12_isLag_3 ?_
  obtain ⟨r_2, hq_1, hf⟩ := on_s hf
  refine k_i (k_runS hc hd my_X12_within tw_1444 (c_X12_within l D cs B0 kt α Lv S (Int32.toInt64 x0) 0 20 hc.cl   hq_1) rfl rfl hl.1 (Nat.le_of_ble_eq_true rfl) ⟨Nat.le_of_ble_eq_true rfl, Nat.le_of_ble_eq_true rfl, Nat.zero_le _, Nat.zero_le _⟩ dX12_isLag_6) hd (fun H locs hd => ?_)
  obtain ⟨hz, hf⟩ := ck_s hf
  cases hf
  exact r_zret hc hd hr hz dX12_isLag_9
theorem c_X12_isLag (l : Launch) (D : va_G) (cs : Nat → ClassId) (B0 : Nat) (kt : (Nat → Nat) × (Nat → Nat)) (α : Nat → Nat → Nat) (Lv : Nat → Nat → Prop) (S : St) (x0 : Int32) (hcl : Cl Lv)  {o : Int32} (hf : f_X12_isLag x0 S = some o) : Met l yX12_isLag (wz yX12_isLag cX12_isLag 1 (some .boolean)) (Rm 1 0 0) (Pz D cs B0 kt α Lv S [.int x0]) (Qi D cs B0 α Lv o S) 0 0 (AB B0) := met_of (by decide) rfl hcl (Nat.le_of_ble_eq_true rfl) (fun p e s m below meth c hc hr hd ls hl => b_X12_isLag hc hr  hf hd hl)
theorem my_X12_isLag : MyS yX12_isLag cX12_isLag 1 (some .boolean) 1 := ⟨tw_1835, tw_11, tw_1836, by decide +kernel⟩
def f_X12_isLead_28 (g0 : Nat) (x1 : Int32) (x2 : Int32) (S : St) (K : Int32 → Option (Int32)) : Nat → Int32 → Int32 → Option (Int32)
  | 0, _, _ => none
  | n + 1, x3, x4 => ck (inb 0 3179 = true) (br ((gi S 61 g0 (nn 0)) ≤ x4) (K x3) (br (x3 = 0) (K x3) (on (f_X12_rose g0 x4 (x2 - 1) S) (fun r_9 => bv (fun (v_10 : Int32) => bv (x4 + 1) (fun x4_12 => f_X12_isLead_28 g0 x1 x2 S K n v_10 x4_12)) (fun J_11 => bv (fun (_u : Unit) => J_11 0) (fun J_13 => br (r_9 = 0) (bv (fun (_u : Unit) => J_11 1) (fun J_15 => br (x4 = x1) (J_15 ()) (on (f_X12_rose g0 x4 x2 S) (fun r_18 => br (r_18 = 0) (J_15 ()) (J_13 ()))))) (J_13 ())))))))
def f_X12_isLead (g0 : Nat) (x1 : Int32) (x2 : Int32) (S : St) : Option (Int32) := on (f_X12_isBoard g0 (x2 - 2) S) (fun r_2 => bv (fun (v_3 : Int32) => f_X12_isLead_28 g0 x1 x2 S (fun (x3_20 : Int32) => ck (x3_20 = 0 ∨ x3_20 = 1) (some x3_20)) FU v_3 0) (fun J_4 => bv (fun (_u : Unit) => J_4 0) (fun J_21 => br (r_2 = 0) (J_21 ()) (on (f_X12_rose g0 x1 x2 S) (fun r_24 => br (r_24 = 0) (J_21 ()) (J_4 1))))))
set_option maxRecDepth 100000 in
set_option maxHeartbeats 4000000 in
theorem w_X12_isLead_28 (hc : Cx p s m args meth c cX12_isLead 5 "PumpCrossingModel" D cs B0 kt Lv) (hr : meth.sig.returnType = some .boolean) {o : Int32}  {g0 : Nat} {x1 : Int32} {x2 : Int32} {S : St} {K : Int32 → Option (Int32)} (hL0 : Lv 60 g0) (hK : ∀ (k3 : Int32) (H : Heap) (locs : List Loc) (ls : Array Slot), K k3 = some o → Dy s D cs B0 α Lv S H locs → lv_has ls 5 [(3, .int k3)] → W p l e (Rm 3 0 0) s m args below meth c H locs 0 0 (MQ below (Qi D cs B0 α Lv o S) args s 0 0 (AB B0)) (F0 m 83 ls [])) : ∀ (n : Nat) (x3 : Int32) (x4 : Int32) (H : Heap) (locs : List Loc) (ls : Array Slot), f_X12_isLead_28 g0 x1 x2 S K n x3 x4 = some o → Dy s D cs B0 α Lv S H locs → lv_has ls 5 [(0, .ref (α 60 g0)), (1, .int x1), (2, .int x2), (3, .int x3), (4, .int x4)] → W p l e (Rm 3 0 0) s m args below meth c H locs 0 0 (MQ below (Qi D cs B0 α Lv o S) args s 0 0 (AB B0)) (F0 m 28 ls []) := by
  intro n
  induction n with
  | zero =>
    intro x3 x4 H locs ls hf
    rw [f_X12_isLead_28] at hf
    cases hf
  | succ n ih =>
    intro x3 x4 H locs ls hf hd hl
    rw [f_X12_isLead_28] at hf
    refine lv_iload hc.x hc.b dX12_isLead_28 (lv_at hl 4 rfl) ?_
    refine lv_aload_n hc.x hc.b dX12_isLead_30 rfl (lv_at hl 0 rfl) ?_
    refine fg_60_0 hc hd hL0 tw_1309 dX12_isLead_31 ?_
    refine lv_iconst (v := 0) hc.x hc.b dX12_isLead_34 (by decide) ?_
    obtain ⟨hi_5, hf⟩ := ck_s hf
    refine r_iald hc hd (cl_60_told hc.cl hL0) rfl hi_5 dX12_isLead_35 ?_
    refine lv_icmp_ge (tgt := 83) hc.x hc.b dX12_isLead_36 (by decide) (fun c_6 => ?_) (fun c_6 => ?_)
    · have hf := br_y c_6 hf
      exact hK x3 _ _ _ hf hd (lv_sub hl [3] rfl)
    · have hf := br_n c_6 hf
      refine lv_iload_n hc.x hc.b dX12_isLead_39 rfl (lv_at hl 3 rfl) ?_
      refine lv_if_eq (tgt := 83) hc.x hc.b dX12_isLead_40 (by decide) (fun c_7 => ?_) (fun c_7 => ?_)
      · have hf := br_y c_7 hf
        exact hK x3 _ _ _ hf hd (lv_sub hl [3] rfl)
      · have hf := br_n c_7 hf
        refine lv_aload_n hc.x hc.b dX12_isLead_43 rfl (lv_at hl 0 rfl) ?_
        refine lv_iload hc.x hc.b dX12_isLead_44 (lv_at hl 4 rfl) ?_
        refine lv_iload_n hc.x hc.b dX12_isLead_46 rfl (lv_at hl 2 rfl) ?_
        refine lv_iconst (v := 1) hc.x hc.b dX12_isLead_47 (by decide) ?_
        refine lv_isub hc.x hc.b dX12_isLead_48 ?_
        obtain ⟨r_9, hq_8, hf⟩ := on_s hf
        refine k_i (k_runV hc hd my_X12_rose tw_1690 hL0 rfl rfl rfl (c_X12_rose l D cs B0 kt α Lv S g0 x4 (x2 - 1) hc.cl hL0  hq_8) rfl rfl hl.1 (Nat.le_of_ble_eq_true rfl) ⟨Nat.le_of_ble_eq_true rfl, Nat.le_of_ble_eq_true rfl, Nat.zero_le _, Nat.zero_le _⟩ dX12_isLead_49) hd (fun H locs hd => ?_)
        refine jn_s (P := fun J_11 => ∀ (v_10 : Int32) (H : Heap) (locs : List Loc) (ls : Array Slot), J_11 v_10 = some o → Dy s D cs B0 α Lv S H locs → lv_has ls 5 [(0, .ref (α 60 g0)), (1, .int x1), (2, .int x2), (4, .int x4)] → W p l e (Rm 3 0 0) s m args below meth c H locs 0 0 (MQ below (Qi D cs B0 α Lv o S) args s 0 0 (AB B0)) (F0 m 76 ls [.int v_10])) hf ?_ (fun J_11 hJ_11 hf => ?_)
        · intro v_10 H locs ls hf hd hl
          refine lv_istore_n (lv' := [(3, .int v_10), (0, .ref (α 60 g0)), (1, .int x1), (2, .int x2), (4, .int x4)]) hc.x hc.b dX12_isLead_76 rfl hl (by decide) rfl (fun ls hl => ?_)
          obtain ⟨x4_12, ex4_12⟩ : ∃ z : Int32, z = x4 + 1 := ⟨_, rfl⟩
          have hf := bv_n ex4_12 hf
          refine lv_iinc (v := x4_12) (lv' := [(4, .int x4_12), (3, .int v_10), (0, .ref (α 60 g0)), (1, .int x1), (2, .int x2)]) hc.x hc.b dX12_isLead_77 hl (k := 4) rfl (by rw [ex4_12]; rfl) (by decide) rfl (fun ls hl => ?_)
          refine lv_goto (tgt := 28) hc.x hc.b dX12_isLead_80 (by decide) ?_
          exact ih v_10 x4_12 _ _ _ hf hd (lv_sub hl [2, 3, 4, 1, 0] rfl)
        refine jn_s (P := fun J_13 => ∀ (_u : Unit) (H : Heap) (locs : List Loc) (ls : Array Slot), J_13 _u = some o → Dy s D cs B0 α Lv S H locs → lv_has ls 5 [(0, .ref (α 60 g0)), (1, .int x1), (2, .int x2), (4, .int x4)] → W p l e (Rm 3 0 0) s m args below meth c H locs 0 0 (MQ below (Qi D cs B0 α Lv o S) args s 0 0 (AB B0)) (F0 m 75 ls [])) hf ?_ (fun J_13 hJ_13 hf => ?_)
        · intro _u H locs ls hf hd hl
          refine lv_iconst (v := 0) hc.x hc.b dX12_isLead_75 (by decide) ?_
          exact hJ_11 0 _ _ _ hf hd (lv_sub hl [0, 1, 2, 3] rfl)
        refine lv_if_ne (tgt := 75) hc.x hc.b dX12_isLead_52 (by decide) (fun c_14 => ?_) (fun c_14 => ?_)
        · have hf := br_n c_14 hf
          exact hJ_13 ()  _ _ _ hf hd (lv_sub hl [0, 1, 2, 4] rfl)
        · have hf := br_y c_14 hf
          refine lv_iload hc.x hc.b dX12_isLead_55 (lv_at hl 4 rfl) ?_
          refine lv_iload_n hc.x hc.b dX12_isLead_57 rfl (lv_at hl 1 rfl) ?_
          refine jn_s (P := fun J_15 => ∀ (_u : Unit) (H : Heap) (locs : List Loc) (ls : Array Slot), J_15 _u = some o → Dy s D cs B0 α Lv S H locs → lv_has ls 5 [(0, .ref (α 60 g0)), (1, .int x1), (2, .int x2), (4, .int x4)] → W p l e (Rm 3 0 0) s m args below meth c H locs 0 0 (MQ below (Qi D cs B0 α Lv o S) args s 0 0 (AB B0)) (F0 m 71 ls [])) hf ?_ (fun J_15 hJ_15 hf => ?_)
          · intro _u H locs ls hf hd hl
            refine lv_iconst (v := 1) hc.x hc.b dX12_isLead_71 (by decide) ?_
            refine lv_goto (tgt := 76) hc.x hc.b dX12_isLead_72 (by decide) ?_
            exact hJ_11 1 _ _ _ hf hd (lv_sub hl [0, 1, 2, 3] rfl)
          refine lv_icmp_eq (tgt := 71) hc.x hc.b dX12_isLead_58 (by decide) (fun c_16 => ?_) (fun c_16 => ?_)
          · have hf := br_y c_16 hf
            exact hJ_15 ()  _ _ _ hf hd (lv_sub hl [0, 1, 2, 4] rfl)
          · have hf := br_n c_16 hf
            refine lv_aload_n hc.x hc.b dX12_isLead_61 rfl (lv_at hl 0 rfl) ?_
            refine lv_iload hc.x hc.b dX12_isLead_62 (lv_at hl 4 rfl) ?_
            refine lv_iload_n hc.x hc.b dX12_isLead_64 rfl (lv_at hl 2 rfl) ?_
            obtain ⟨r_18, hq_17, hf⟩ := on_s hf
            refine k_i (k_runV hc hd my_X12_rose tw_1690 hL0 rfl rfl rfl (c_X12_rose l D cs B0 kt α Lv S g0 x4 x2 hc.cl hL0  hq_17) rfl rfl hl.1 (Nat.le_of_ble_eq_true rfl) ⟨Nat.le_of_ble_eq_true rfl, Nat.le_of_ble_eq_true rfl, Nat.zero_le _, Nat.zero_le _⟩ dX12_isLead_65) hd (fun H locs hd => ?_)
            refine lv_if_ne (tgt := 75) hc.x hc.b dX12_isLead_68 (by decide) (fun c_19 => ?_) (fun c_19 => ?_)
            · have hf := br_n c_19 hf
              exact hJ_13 ()  _ _ _ hf hd (lv_sub hl [0, 1, 2, 4] rfl)
            · have hf := br_y c_19 hf
              exact hJ_15 ()  _ _ _ hf hd (lv_sub hl [0, 1, 2, 4] rfl)
set_option maxRecDepth 100000 in
set_option maxHeartbeats 4000000 in
theorem b_X12_isLead (hc : Cx p s m args meth c cX12_isLead 5 "PumpCrossingModel" D cs B0 kt Lv) (hr : meth.sig.returnType = some .boolean)  {o : Int32}  {S : St} {g0 : Nat} {x1 : Int32} {x2 : Int32} (hL0 : Lv 60 g0) {H : Heap} {locs : List Loc} {ls : Array Slot} (hf : f_X12_isLead g0 x1 x2 S = some o) (hd : Dy s D cs B0 α Lv S H locs) (hl : lv_has ls 5 [(0, .ref (α 60 g0)), (1, .int x1), (2, .int x2)]) : W p l e (Rm 3 0 0) s m args below meth c H locs 0 0 (MQ below (Qi D cs B0 α Lv o S) args s 0 0 (AB B0)) (F0 m 0 ls []) := by
  unfold f_X12_isLead at hf
  refine lv_aload_n hc.x hc.b dX12_isLead_0 rfl (lv_at hl 0 rfl) ?_
  refine lv_iload_n hc.x hc.b dX12_isLead_1 rfl (lv_at hl 2 rfl) ?_
  refine lv_iconst (v := 2) hc.x hc.b dX12_isLead_2 (by decide) ?_
  refine lv_isub hc.x hc.b dX12_isLead_3 ?_
  obtain ⟨r_2, hq_1, hf⟩ := on_s hf
  refine k_i (k_runV hc hd my_X12_isBoard tw_1653 hL0 rfl rfl rfl (c_X12_isBoard l D cs B0 kt α Lv S g0 (x2 - 2) hc.cl hL0  hq_1) rfl rfl hl.1 (Nat.le_of_ble_eq_true rfl) ⟨Nat.le_of_ble_eq_true rfl, Nat.le_of_ble_eq_true rfl, Nat.zero_le _, Nat.zero_le _⟩ dX12_isLead_4) hd (fun H locs hd => ?_)
  refine jn_s (P := fun J_4 => ∀ (v_3 : Int32) (H : Heap) (locs : List Loc) (ls : Array Slot), J_4 v_3 = some o → Dy s D cs B0 α Lv S H locs → lv_has ls 5 [(0, .ref (α 60 g0)), (1, .int x1), (2, .int x2)] → W p l e (Rm 3 0 0) s m args below meth c H locs 0 0 (MQ below (Qi D cs B0 α Lv o S) args s 0 0 (AB B0)) (F0 m 24 ls [.int v_3])) hf ?_ (fun J_4 hJ_4 hf => ?_)
  · intro v_3 H locs ls hf hd hl
    refine lv_istore_n (lv' := [(3, .int v_3), (0, .ref (α 60 g0)), (1, .int x1), (2, .int x2)]) hc.x hc.b dX12_isLead_24 rfl hl (by decide) rfl (fun ls hl => ?_)
    refine lv_iconst (v := 0) hc.x hc.b dX12_isLead_25 (by decide) ?_
    refine lv_istore (lv' := [(4, .int 0), (3, .int v_3), (0, .ref (α 60 g0)), (1, .int x1), (2, .int x2)]) hc.x hc.b dX12_isLead_26 hl (by decide) rfl (fun ls hl => ?_)
    refine w_X12_isLead_28 hc hr hL0 ?_ _ _ _ _ _ _ hf hd (lv_sub hl [2, 3, 4, 1, 0] rfl)
    intro x3_20 H locs ls hf hd hl
    refine lv_iload_n hc.x hc.b dX12_isLead_83 rfl (lv_at hl 0 rfl) ?_
    obtain ⟨hz, hf⟩ := ck_s hf
    cases hf
    exact r_zret hc hd hr hz dX12_isLead_84
  refine jn_s (P := fun J_21 => ∀ (_u : Unit) (H : Heap) (locs : List Loc) (ls : Array Slot), J_21 _u = some o → Dy s D cs B0 α Lv S H locs → lv_has ls 5 [(0, .ref (α 60 g0)), (1, .int x1), (2, .int x2)] → W p l e (Rm 3 0 0) s m args below meth c H locs 0 0 (MQ below (Qi D cs B0 α Lv o S) args s 0 0 (AB B0)) (F0 m 23 ls [])) hf ?_ (fun J_21 hJ_21 hf => ?_)
  · intro _u H locs ls hf hd hl
    refine lv_iconst (v := 0) hc.x hc.b dX12_isLead_23 (by decide) ?_
    exact hJ_4 0 _ _ _ hf hd (lv_sub hl [0, 1, 2] rfl)
  refine lv_if_eq (tgt := 23) hc.x hc.b dX12_isLead_7 (by decide) (fun c_22 => ?_) (fun c_22 => ?_)
  · have hf := br_y c_22 hf
    exact hJ_21 ()  _ _ _ hf hd (lv_sub hl [0, 1, 2] rfl)
  · have hf := br_n c_22 hf
    refine lv_aload_n hc.x hc.b dX12_isLead_10 rfl (lv_at hl 0 rfl) ?_
    refine lv_iload_n hc.x hc.b dX12_isLead_11 rfl (lv_at hl 1 rfl) ?_
    refine lv_iload_n hc.x hc.b dX12_isLead_12 rfl (lv_at hl 2 rfl) ?_
    obtain ⟨r_24, hq_23, hf⟩ := on_s hf
    refine k_i (k_runV hc hd my_X12_rose tw_1690 hL0 rfl rfl rfl (c_X12_rose l D cs B0 kt α Lv S g0 x1 x2 hc.cl hL0  hq_23) rfl rfl hl.1 (Nat.le_of_ble_eq_true rfl) ⟨Nat.le_of_ble_eq_true rfl, Nat.le_of_ble_eq_true rfl, Nat.zero_le _, Nat.zero_le _⟩ dX12_isLead_13) hd (fun H locs hd => ?_)
    refine lv_if_eq (tgt := 23) hc.x hc.b dX12_isLead_16 (by decide) (fun c_25 => ?_) (fun c_25 => ?_)
    · have hf := br_y c_25 hf
      exact hJ_21 ()  _ _ _ hf hd (lv_sub hl [0, 1, 2] rfl)
    · have hf := br_n c_25 hf
      refine lv_iconst (v := 1) hc.x hc.b dX12_isLead_19 (by decide) ?_
      refine lv_goto (tgt := 24) hc.x hc.b dX12_isLead_20 (by decide) ?_
      exact hJ_4 1 _ _ _ hf hd (lv_sub hl [0, 1, 2] rfl)
theorem c_X12_isLead (l : Launch) (D : va_G) (cs : Nat → ClassId) (B0 : Nat) (kt : (Nat → Nat) × (Nat → Nat)) (α : Nat → Nat → Nat) (Lv : Nat → Nat → Prop) (S : St) (g0 : Nat) (x1 : Int32) (x2 : Int32) (hcl : Cl Lv) (hL0 : Lv 60 g0) {o : Int32} (hf : f_X12_isLead g0 x1 x2 S = some o) : Met l yX12_isLead (wz yX12_isLead cX12_isLead 5 (some .boolean)) (Rm 3 0 0) (Pz D cs B0 kt α Lv S [.ref (α 60 g0), .int x1, .int x2]) (Qi D cs B0 α Lv o S) 0 0 (AB B0) := met_of (by decide) rfl hcl (Nat.le_of_ble_eq_true rfl) (fun p e s m below meth c hc hr hd ls hl => b_X12_isLead hc hr hL0 hf hd hl)
theorem my_X12_isLead : MyV yX12_isLead "PumpCrossingModel" cX12_isLead 5 (some .boolean) 2 := ⟨tw_1688, (in_sel 70 (by decide +kernel) (by decide +kernel)), tw_11, tw_1689, by decide +kernel⟩
def f_X12_isLetter (x0 : Int32) (S : St) : Option (Int32) := bv (fun (v_1 : Int32) => ck (v_1 = 0 ∨ v_1 = 1) (some v_1)) (fun J_2 => bv (fun (_u : Unit) => J_2 0) (fun J_3 => br (x0 < 97) (J_3 ()) (br (122 < x0) (J_3 ()) (J_2 1))))
set_option maxRecDepth 100000 in
set_option maxHeartbeats 4000000 in
theorem b_X12_isLetter (hc : Cx p s m args meth c cX12_isLetter 1 "PumpCrossingModel" D cs B0 kt Lv) (hr : meth.sig.returnType = some .boolean)  {o : Int32}  {S : St} {x0 : Int32}  {H : Heap} {locs : List Loc} {ls : Array Slot} (hf : f_X12_isLetter x0 S = some o) (hd : Dy s D cs B0 α Lv S H locs) (hl : lv_has ls 1 [(0, .int x0)]) : W p l e (Rm 0 0 0) s m args below meth c H locs 0 0 (MQ below (Qi D cs B0 α Lv o S) args s 0 0 (AB B0)) (F0 m 0 ls []) := by
  unfold f_X12_isLetter at hf
  refine lv_iload_n hc.x hc.b dX12_isLetter_0 rfl (lv_at hl 0 rfl) ?_
  refine lv_bipush (v := 97) hc.x hc.b dX12_isLetter_1 (by decide) ?_
  refine jn_s (P := fun J_2 => ∀ (v_1 : Int32) (H : Heap) (locs : List Loc) (ls : Array Slot), J_2 v_1 = some o → Dy s D cs B0 α Lv S H locs → lv_has ls 1 [] → W p l e (Rm 0 0 0) s m args below meth c H locs 0 0 (MQ below (Qi D cs B0 α Lv o S) args s 0 0 (AB B0)) (F0 m 17 ls [.int v_1])) hf ?_ (fun J_2 hJ_2 hf => ?_)
  · intro v_1 H locs ls hf hd hl
    obtain ⟨hz, hf⟩ := ck_s hf
    cases hf
    exact r_zret hc hd hr hz dX12_isLetter_17
  refine jn_s (P := fun J_3 => ∀ (_u : Unit) (H : Heap) (locs : List Loc) (ls : Array Slot), J_3 _u = some o → Dy s D cs B0 α Lv S H locs → lv_has ls 1 [] → W p l e (Rm 0 0 0) s m args below meth c H locs 0 0 (MQ below (Qi D cs B0 α Lv o S) args s 0 0 (AB B0)) (F0 m 16 ls [])) hf ?_ (fun J_3 hJ_3 hf => ?_)
  · intro _u H locs ls hf hd hl
    refine lv_iconst (v := 0) hc.x hc.b dX12_isLetter_16 (by decide) ?_
    exact hJ_2 0 _ _ _ hf hd (lv_sub hl [] rfl)
  refine lv_icmp_lt (tgt := 16) hc.x hc.b dX12_isLetter_3 (by decide) (fun c_4 => ?_) (fun c_4 => ?_)
  · have hf := br_y c_4 hf
    exact hJ_3 ()  _ _ _ hf hd (lv_sub hl [] rfl)
  · have hf := br_n c_4 hf
    refine lv_iload_n hc.x hc.b dX12_isLetter_6 rfl (lv_at hl 0 rfl) ?_
    refine lv_bipush (v := 122) hc.x hc.b dX12_isLetter_7 (by decide) ?_
    refine lv_icmp_gt (tgt := 16) hc.x hc.b dX12_isLetter_9 (by decide) (fun c_5 => ?_) (fun c_5 => ?_)
    · have hf := br_y c_5 hf
      exact hJ_3 ()  _ _ _ hf hd (lv_sub hl [] rfl)
    · have hf := br_n c_5 hf
      refine lv_iconst (v := 1) hc.x hc.b dX12_isLetter_12 (by decide) ?_
      refine lv_goto (tgt := 17) hc.x hc.b dX12_isLetter_13 (by decide) ?_
      exact hJ_2 1 _ _ _ hf hd (lv_sub hl [] rfl)
theorem c_X12_isLetter (l : Launch) (D : va_G) (cs : Nat → ClassId) (B0 : Nat) (kt : (Nat → Nat) × (Nat → Nat)) (α : Nat → Nat → Nat) (Lv : Nat → Nat → Prop) (S : St) (x0 : Int32) (hcl : Cl Lv)  {o : Int32} (hf : f_X12_isLetter x0 S = some o) : Met l yX12_isLetter (wz yX12_isLetter cX12_isLetter 1 (some .boolean)) (Rm 0 0 0) (Pz D cs B0 kt α Lv S [.int x0]) (Qi D cs B0 α Lv o S) 0 0 (AB B0) := met_of (by decide) rfl hcl (Nat.le_of_ble_eq_true rfl) (fun p e s m below meth c hc hr hd ls hl => b_X12_isLetter hc hr  hf hd hl)
theorem my_X12_isLetter : MyS yX12_isLetter cX12_isLetter 1 (some .boolean) 1 := ⟨tw_1486, tw_11, tw_1487, by decide +kernel⟩
def f_X12_isSign (x0 : Int32) (S : St) : Option (Int32) := bv (fun (v_1 : Int32) => ck (v_1 = 0 ∨ v_1 = 1) (some v_1)) (fun J_2 => bv (fun (_u : Unit) => J_2 1) (fun J_3 => br (x0 = 59) (J_3 ()) (br (x0 = 60) (J_3 ()) (br (x0 = 61) (J_3 ()) (br (x0 = 62) (J_3 ()) (br (x0 = 43) (J_3 ()) (br (x0 = 45) (J_3 ()) (J_2 0))))))))
set_option maxRecDepth 100000 in
set_option maxHeartbeats 4000000 in
theorem b_X12_isSign (hc : Cx p s m args meth c cX12_isSign 1 "PumpCrossingModel" D cs B0 kt Lv) (hr : meth.sig.returnType = some .boolean)  {o : Int32}  {S : St} {x0 : Int32}  {H : Heap} {locs : List Loc} {ls : Array Slot} (hf : f_X12_isSign x0 S = some o) (hd : Dy s D cs B0 α Lv S H locs) (hl : lv_has ls 1 [(0, .int x0)]) : W p l e (Rm 0 0 0) s m args below meth c H locs 0 0 (MQ below (Qi D cs B0 α Lv o S) args s 0 0 (AB B0)) (F0 m 0 ls []) := by
  unfold f_X12_isSign at hf
  refine lv_iload_n hc.x hc.b dX12_isSign_0 rfl (lv_at hl 0 rfl) ?_
  refine lv_bipush (v := 59) hc.x hc.b dX12_isSign_1 (by decide) ?_
  refine jn_s (P := fun J_2 => ∀ (v_1 : Int32) (H : Heap) (locs : List Loc) (ls : Array Slot), J_2 v_1 = some o → Dy s D cs B0 α Lv S H locs → lv_has ls 1 [] → W p l e (Rm 0 0 0) s m args below meth c H locs 0 0 (MQ below (Qi D cs B0 α Lv o S) args s 0 0 (AB B0)) (F0 m 41 ls [.int v_1])) hf ?_ (fun J_2 hJ_2 hf => ?_)
  · intro v_1 H locs ls hf hd hl
    obtain ⟨hz, hf⟩ := ck_s hf
    cases hf
    exact r_zret hc hd hr hz dX12_isSign_41
  refine jn_s (P := fun J_3 => ∀ (_u : Unit) (H : Heap) (locs : List Loc) (ls : Array Slot), J_3 _u = some o → Dy s D cs B0 α Lv S H locs → lv_has ls 1 [] → W p l e (Rm 0 0 0) s m args below meth c H locs 0 0 (MQ below (Qi D cs B0 α Lv o S) args s 0 0 (AB B0)) (F0 m 36 ls [])) hf ?_ (fun J_3 hJ_3 hf => ?_)
  · intro _u H locs ls hf hd hl
    refine lv_iconst (v := 1) hc.x hc.b dX12_isSign_36 (by decide) ?_
    refine lv_goto (tgt := 41) hc.x hc.b dX12_isSign_37 (by decide) ?_
    exact hJ_2 1 _ _ _ hf hd (lv_sub hl [] rfl)
  refine lv_icmp_eq (tgt := 36) hc.x hc.b dX12_isSign_3 (by decide) (fun c_4 => ?_) (fun c_4 => ?_)
  · have hf := br_y c_4 hf
    exact hJ_3 ()  _ _ _ hf hd (lv_sub hl [] rfl)
  · have hf := br_n c_4 hf
    refine lv_iload_n hc.x hc.b dX12_isSign_6 rfl (lv_at hl 0 rfl) ?_
    refine lv_bipush (v := 60) hc.x hc.b dX12_isSign_7 (by decide) ?_
    refine lv_icmp_eq (tgt := 36) hc.x hc.b dX12_isSign_9 (by decide) (fun c_5 => ?_) (fun c_5 => ?_)
    · have hf := br_y c_5 hf
      exact hJ_3 ()  _ _ _ hf hd (lv_sub hl [] rfl)
    · have hf := br_n c_5 hf
      refine lv_iload_n hc.x hc.b dX12_isSign_12 rfl (lv_at hl 0 rfl) ?_
      refine lv_bipush (v := 61) hc.x hc.b dX12_isSign_13 (by decide) ?_
      refine lv_icmp_eq (tgt := 36) hc.x hc.b dX12_isSign_15 (by decide) (fun c_6 => ?_) (fun c_6 => ?_)
      · have hf := br_y c_6 hf
        exact hJ_3 ()  _ _ _ hf hd (lv_sub hl [] rfl)
      · have hf := br_n c_6 hf
        refine lv_iload_n hc.x hc.b dX12_isSign_18 rfl (lv_at hl 0 rfl) ?_
        refine lv_bipush (v := 62) hc.x hc.b dX12_isSign_19 (by decide) ?_
        refine lv_icmp_eq (tgt := 36) hc.x hc.b dX12_isSign_21 (by decide) (fun c_7 => ?_) (fun c_7 => ?_)
        · have hf := br_y c_7 hf
          exact hJ_3 ()  _ _ _ hf hd (lv_sub hl [] rfl)
        · have hf := br_n c_7 hf
          refine lv_iload_n hc.x hc.b dX12_isSign_24 rfl (lv_at hl 0 rfl) ?_
          refine lv_bipush (v := 43) hc.x hc.b dX12_isSign_25 (by decide) ?_
          refine lv_icmp_eq (tgt := 36) hc.x hc.b dX12_isSign_27 (by decide) (fun c_8 => ?_) (fun c_8 => ?_)
          · have hf := br_y c_8 hf
            exact hJ_3 ()  _ _ _ hf hd (lv_sub hl [] rfl)
          · have hf := br_n c_8 hf
            refine lv_iload_n hc.x hc.b dX12_isSign_30 rfl (lv_at hl 0 rfl) ?_
            refine lv_bipush (v := 45) hc.x hc.b dX12_isSign_31 (by decide) ?_
            refine lv_icmp_ne (tgt := 40) hc.x hc.b dX12_isSign_33 (by decide) (fun c_9 => ?_) (fun c_9 => ?_)
            · have hf := br_n c_9 hf
              refine lv_iconst (v := 0) hc.x hc.b dX12_isSign_40 (by decide) ?_
              exact hJ_2 0 _ _ _ hf hd (lv_sub hl [] rfl)
            · have hf := br_y c_9 hf
              exact hJ_3 ()  _ _ _ hf hd (lv_sub hl [] rfl)
theorem c_X12_isSign (l : Launch) (D : va_G) (cs : Nat → ClassId) (B0 : Nat) (kt : (Nat → Nat) × (Nat → Nat)) (α : Nat → Nat → Nat) (Lv : Nat → Nat → Prop) (S : St) (x0 : Int32) (hcl : Cl Lv)  {o : Int32} (hf : f_X12_isSign x0 S = some o) : Met l yX12_isSign (wz yX12_isSign cX12_isSign 1 (some .boolean)) (Rm 0 0 0) (Pz D cs B0 kt α Lv S [.int x0]) (Qi D cs B0 α Lv o S) 0 0 (AB B0) := met_of (by decide) rfl hcl (Nat.le_of_ble_eq_true rfl) (fun p e s m below meth c hc hr hd ls hl => b_X12_isSign hc hr  hf hd hl)
theorem my_X12_isSign : MyS yX12_isSign cX12_isSign 1 (some .boolean) 1 := ⟨tw_1496, tw_11, tw_1497, by decide +kernel⟩
def f_X12_joint_44 (g0 : Nat) (x4 : Int32) (K : Int32 → St → Option (Int32 × St)) : Nat → Int32 → Int32 → St → Option (Int32 × St)
  | 0, _, _, _ => none
  | n + 1, x3, x5, S => ck (inb 3 3179 = true) (br ((gi S 61 g0 (nn 3)) ≤ x5) (K x3 S) (bv (fun (x3_11 : Int32) (S_12 : St) => bv (x5 + 1) (fun x5_14 => f_X12_joint_44 g0 x4 K n x3_11 x5_14 S_12)) (fun J_13 => bv (fun  (S_15 : St) => bv ((10 * x4) + x5) (fun x3_17 => J_13 x3_17 S_15)) (fun J_16 => br (x3 = ((-1))) (J_16 S) (on (f_X12_together g0 x4 x5 S) (fun r_20 => bv (dvI x3 10) (fun q_21 => bv (rmI x3 10) (fun q_22 => on (f_X12_together g0 q_21 q_22 S) (fun r_24 => br (r_20 ≤ r_24) (J_13 x3 S) (J_16 S))))))))))
def f_X12_joint_30 (g0 : Nat) (K : Int32 → St → Option (Int32 × St)) : Nat → Int32 → Int32 → St → Option (Int32 × St)
  | 0, _, _, _ => none
  | n + 1, x3, x4, S => ck (inb 3 3179 = true) (br ((gi S 61 g0 (nn 3)) ≤ x4) (K x3 S) (f_X12_joint_44 g0 x4 (fun (x3_26 : Int32) (S_27 : St) => bv (x4 + 1) (fun x4_28 => f_X12_joint_30 g0 K n x3_26 x4_28 S_27)) FU x3 0 S))
def f_X12_joint (g0 : Nat) (x1 : Int32) (x2 : Int32) (S : St) : Option (Int32 × St) := on (f_X12_pairFault g0 x1 x2 S) (fun r_2 => bv (si S 60 g0 5 r_2) (fun S_3 => br ((gi S_3 60 g0 5) ≤ 0) (on (f_X12_layGains g0 x1 x2 S_3) (fun S_6 => f_X12_joint_30 g0 (fun (x3_29 : Int32) (S_30 : St) => some (x3_29, S_30)) FU ((-1)) 0 S_6)) (some (0, S_3))))
set_option maxRecDepth 100000 in
set_option maxHeartbeats 4000000 in
theorem w_X12_joint_44 (hc : Cx p s m args meth c cX12_joint 6 "PumpCrossingModel" D cs B0 kt Lv) (hr : meth.sig.returnType = some .int) {o : Int32 × St}  {g0 : Nat} {x4 : Int32} {K : Int32 → St → Option (Int32 × St)} (hL0 : Lv 60 g0) (hK : ∀ (k3 : Int32) (S : St) (H : Heap) (locs : List Loc) (ls : Array Slot), K k3 S = some o → Dy s D cs B0 α Lv S H locs → lv_has ls 6 [(0, .ref (α 60 g0)), (3, .int k3), (4, .int x4)] → W p l e (Rm 3 0 0) s m args below meth c H locs 0 0 (MQ below (Qi D cs B0 α Lv o.1 o.2) args s 0 0 (AB B0)) (F0 m 98 ls [])) : ∀ (n : Nat) (x3 : Int32) (x5 : Int32) (S : St) (H : Heap) (locs : List Loc) (ls : Array Slot), f_X12_joint_44 g0 x4 K n x3 x5 S = some o → Dy s D cs B0 α Lv S H locs → lv_has ls 6 [(0, .ref (α 60 g0)), (4, .int x4), (3, .int x3), (5, .int x5)] → W p l e (Rm 3 0 0) s m args below meth c H locs 0 0 (MQ below (Qi D cs B0 α Lv o.1 o.2) args s 0 0 (AB B0)) (F0 m 44 ls []) := by
  intro n
  induction n with
  | zero =>
    intro x3 x5 S H locs ls hf
    rw [f_X12_joint_44] at hf
    cases hf
  | succ n ih =>
    intro x3 x5 S H locs ls hf hd hl
    rw [f_X12_joint_44] at hf
    refine lv_iload hc.x hc.b dX12_joint_44 (lv_at hl 3 rfl) ?_
    refine lv_aload_n hc.x hc.b dX12_joint_46 rfl (lv_at hl 0 rfl) ?_
    refine fg_60_0 hc hd hL0 tw_1309 dX12_joint_47 ?_
    refine lv_iconst (v := 3) hc.x hc.b dX12_joint_50 (by decide) ?_
    obtain ⟨hi_9, hf⟩ := ck_s hf
    refine r_iald hc hd (cl_60_told hc.cl hL0) rfl hi_9 dX12_joint_51 ?_
    refine lv_icmp_ge (tgt := 98) hc.x hc.b dX12_joint_52 (by decide) (fun c_10 => ?_) (fun c_10 => ?_)
    · have hf := br_y c_10 hf
      exact hK x3 S _ _ _ hf hd (lv_sub hl [0, 2, 1] rfl)
    · have hf := br_n c_10 hf
      refine lv_iload_n hc.x hc.b dX12_joint_55 rfl (lv_at hl 2 rfl) ?_
      refine lv_iconst (v := (-1)) hc.x hc.b dX12_joint_56 (by decide) ?_
      refine jn_s (P := fun J_13 => ∀ (x3_11 : Int32) (S_12 : St) (H : Heap) (locs : List Loc) (ls : Array Slot), J_13 x3_11 S_12 = some o → Dy s D cs B0 α Lv S_12 H locs → lv_has ls 6 [(0, .ref (α 60 g0)), (3, .int x3_11), (4, .int x4), (5, .int x5)] → W p l e (Rm 3 0 0) s m args below meth c H locs 0 0 (MQ below (Qi D cs B0 α Lv o.1 o.2) args s 0 0 (AB B0)) (F0 m 92 ls [])) hf ?_ (fun J_13 hJ_13 hf => ?_)
      · intro x3_11 S_12 H locs ls hf hd hl
        obtain ⟨x5_14, ex5_14⟩ : ∃ z : Int32, z = x5 + 1 := ⟨_, rfl⟩
        have hf := bv_n ex5_14 hf
        refine lv_iinc (v := x5_14) (lv' := [(5, .int x5_14), (0, .ref (α 60 g0)), (3, .int x3_11), (4, .int x4)]) hc.x hc.b dX12_joint_92 hl (k := 3) rfl (by rw [ex5_14]; rfl) (by decide) rfl (fun ls hl => ?_)
        refine lv_goto (tgt := 44) hc.x hc.b dX12_joint_95 (by decide) ?_
        exact ih x3_11 x5_14 S_12 _ _ _ hf hd (lv_sub hl [1, 3, 2, 0] rfl)
      refine jn_s (P := fun J_16 => ∀  (S_15 : St) (H : Heap) (locs : List Loc) (ls : Array Slot), J_16 S_15 = some o → Dy s D cs B0 α Lv S_15 H locs → lv_has ls 6 [(0, .ref (α 60 g0)), (4, .int x4), (5, .int x5)] → W p l e (Rm 3 0 0) s m args below meth c H locs 0 0 (MQ below (Qi D cs B0 α Lv o.1 o.2) args s 0 0 (AB B0)) (F0 m 83 ls [])) hf ?_ (fun J_16 hJ_16 hf => ?_)
      · intro S_15 H locs ls hf hd hl
        refine lv_bipush (v := 10) hc.x hc.b dX12_joint_83 (by decide) ?_
        refine lv_iload hc.x hc.b dX12_joint_85 (lv_at hl 1 rfl) ?_
        refine lv_imul hc.x hc.b dX12_joint_87 ?_
        refine lv_iload hc.x hc.b dX12_joint_88 (lv_at hl 2 rfl) ?_
        refine lv_iadd hc.x hc.b dX12_joint_90 ?_
        refine lv_topi (fun x3_17 ex3_17 => ?_)
        have hf := bv_n ex3_17 hf
        refine lv_istore_n (lv' := [(3, .int x3_17), (0, .ref (α 60 g0)), (4, .int x4), (5, .int x5)]) hc.x hc.b dX12_joint_91 rfl hl (by decide) rfl (fun ls hl => ?_)
        exact hJ_13 x3_17 S_15 _ _ _ hf hd (lv_sub hl [1, 0, 2, 3] rfl)
      refine lv_icmp_eq (tgt := 83) hc.x hc.b dX12_joint_57 (by decide) (fun c_18 => ?_) (fun c_18 => ?_)
      · have hf := br_y c_18 hf
        exact hJ_16 S _ _ _ hf hd (lv_sub hl [0, 1, 3] rfl)
      · have hf := br_n c_18 hf
        refine lv_aload_n hc.x hc.b dX12_joint_60 rfl (lv_at hl 0 rfl) ?_
        refine lv_iload hc.x hc.b dX12_joint_61 (lv_at hl 1 rfl) ?_
        refine lv_iload hc.x hc.b dX12_joint_63 (lv_at hl 3 rfl) ?_
        obtain ⟨r_20, hq_19, hf⟩ := on_s hf
        refine k_i (k_runV hc hd my_X12_together tw_1764 hL0 rfl rfl rfl (c_X12_together l D cs B0 kt α Lv S g0 x4 x5 hc.cl hL0  hq_19) rfl rfl hl.1 (Nat.le_of_ble_eq_true rfl) ⟨Nat.le_of_ble_eq_true rfl, Nat.le_of_ble_eq_true rfl, Nat.zero_le _, Nat.zero_le _⟩ dX12_joint_65) hd (fun H locs hd => ?_)
        refine lv_aload_n hc.x hc.b dX12_joint_68 rfl (lv_at hl 0 rfl) ?_
        refine lv_iload_n hc.x hc.b dX12_joint_69 rfl (lv_at hl 2 rfl) ?_
        refine lv_bipush (v := 10) hc.x hc.b dX12_joint_70 (by decide) ?_
        refine lv_idiv hc.x hc.b dX12_joint_72 (by decide) ?_
        refine lv_topi (fun q_21 eq_21 => ?_)
        have hf := bv_n eq_21 hf
        refine lv_iload_n hc.x hc.b dX12_joint_73 rfl (lv_at hl 2 rfl) ?_
        refine lv_bipush (v := 10) hc.x hc.b dX12_joint_74 (by decide) ?_
        refine lv_irem hc.x hc.b dX12_joint_76 (by decide) ?_
        refine lv_topi (fun q_22 eq_22 => ?_)
        have hf := bv_n eq_22 hf
        obtain ⟨r_24, hq_23, hf⟩ := on_s hf
        refine k_i (k_runV hc hd my_X12_together tw_1764 hL0 rfl rfl rfl (c_X12_together l D cs B0 kt α Lv S g0 q_21 q_22 hc.cl hL0  hq_23) rfl rfl hl.1 (Nat.le_of_ble_eq_true rfl) ⟨Nat.le_of_ble_eq_true rfl, Nat.le_of_ble_eq_true rfl, Nat.zero_le _, Nat.zero_le _⟩ dX12_joint_77) hd (fun H locs hd => ?_)
        refine lv_icmp_le (tgt := 92) hc.x hc.b dX12_joint_80 (by decide) (fun c_25 => ?_) (fun c_25 => ?_)
        · have hf := br_y c_25 hf
          exact hJ_13 x3 S _ _ _ hf hd (lv_sub hl [0, 2, 1, 3] rfl)
        · have hf := br_n c_25 hf
          exact hJ_16 S _ _ _ hf hd (lv_sub hl [0, 1, 3] rfl)
set_option maxRecDepth 100000 in
set_option maxHeartbeats 4000000 in
theorem w_X12_joint_30 (hc : Cx p s m args meth c cX12_joint 6 "PumpCrossingModel" D cs B0 kt Lv) (hr : meth.sig.returnType = some .int) {o : Int32 × St}  {g0 : Nat} {K : Int32 → St → Option (Int32 × St)} (hL0 : Lv 60 g0) (hK : ∀ (k3 : Int32) (S : St) (H : Heap) (locs : List Loc) (ls : Array Slot), K k3 S = some o → Dy s D cs B0 α Lv S H locs → lv_has ls 6 [(3, .int k3)] → W p l e (Rm 3 0 0) s m args below meth c H locs 0 0 (MQ below (Qi D cs B0 α Lv o.1 o.2) args s 0 0 (AB B0)) (F0 m 104 ls [])) : ∀ (n : Nat) (x3 : Int32) (x4 : Int32) (S : St) (H : Heap) (locs : List Loc) (ls : Array Slot), f_X12_joint_30 g0 K n x3 x4 S = some o → Dy s D cs B0 α Lv S H locs → lv_has ls 6 [(0, .ref (α 60 g0)), (3, .int x3), (4, .int x4)] → W p l e (Rm 3 0 0) s m args below meth c H locs 0 0 (MQ below (Qi D cs B0 α Lv o.1 o.2) args s 0 0 (AB B0)) (F0 m 30 ls []) := by
  intro n
  induction n with
  | zero =>
    intro x3 x4 S H locs ls hf
    rw [f_X12_joint_30] at hf
    cases hf
  | succ n ih =>
    intro x3 x4 S H locs ls hf hd hl
    rw [f_X12_joint_30] at hf
    refine lv_iload hc.x hc.b dX12_joint_30 (lv_at hl 2 rfl) ?_
    refine lv_aload_n hc.x hc.b dX12_joint_32 rfl (lv_at hl 0 rfl) ?_
    refine fg_60_0 hc hd hL0 tw_1309 dX12_joint_33 ?_
    refine lv_iconst (v := 3) hc.x hc.b dX12_joint_36 (by decide) ?_
    obtain ⟨hi_7, hf⟩ := ck_s hf
    refine r_iald hc hd (cl_60_told hc.cl hL0) rfl hi_7 dX12_joint_37 ?_
    refine lv_icmp_ge (tgt := 104) hc.x hc.b dX12_joint_38 (by decide) (fun c_8 => ?_) (fun c_8 => ?_)
    · have hf := br_y c_8 hf
      exact hK x3 S _ _ _ hf hd (lv_sub hl [1] rfl)
    · have hf := br_n c_8 hf
      refine lv_iconst (v := 0) hc.x hc.b dX12_joint_41 (by decide) ?_
      refine lv_istore (lv' := [(5, .int 0), (0, .ref (α 60 g0)), (3, .int x3), (4, .int x4)]) hc.x hc.b dX12_joint_42 hl (by decide) rfl (fun ls hl => ?_)
      refine w_X12_joint_44 hc hr hL0 ?_ _ _ _ _ _ _ _ hf hd (lv_sub hl [1, 3, 2, 0] rfl)
      intro x3_26 S_27 H locs ls hf hd hl
      obtain ⟨x4_28, ex4_28⟩ : ∃ z : Int32, z = x4 + 1 := ⟨_, rfl⟩
      have hf := bv_n ex4_28 hf
      refine lv_iinc (v := x4_28) (lv' := [(4, .int x4_28), (0, .ref (α 60 g0)), (3, .int x3_26)]) hc.x hc.b dX12_joint_98 hl (k := 2) rfl (by rw [ex4_28]; rfl) (by decide) rfl (fun ls hl => ?_)
      refine lv_goto (tgt := 30) hc.x hc.b dX12_joint_101 (by decide) ?_
      exact ih x3_26 x4_28 S_27 _ _ _ hf hd (lv_sub hl [1, 2, 0] rfl)
set_option maxRecDepth 100000 in
set_option maxHeartbeats 4000000 in
theorem b_X12_joint (hc : Cx p s m args meth c cX12_joint 6 "PumpCrossingModel" D cs B0 kt Lv) (hr : meth.sig.returnType = some .int)  {o : Int32 × St}  {S : St} {g0 : Nat} {x1 : Int32} {x2 : Int32} (hL0 : Lv 60 g0) {H : Heap} {locs : List Loc} {ls : Array Slot} (hf : f_X12_joint g0 x1 x2 S = some o) (hd : Dy s D cs B0 α Lv S H locs) (hl : lv_has ls 6 [(0, .ref (α 60 g0)), (1, .int x1), (2, .int x2)]) : W p l e (Rm 3 0 0) s m args below meth c H locs 0 0 (MQ below (Qi D cs B0 α Lv o.1 o.2) args s 0 0 (AB B0)) (F0 m 0 ls []) := by
  unfold f_X12_joint at hf
  refine lv_aload_n hc.x hc.b dX12_joint_0 rfl (lv_at hl 0 rfl) ?_
  refine lv_aload_n hc.x hc.b dX12_joint_1 rfl (lv_at hl 0 rfl) ?_
  refine lv_iload_n hc.x hc.b dX12_joint_2 rfl (lv_at hl 1 rfl) ?_
  refine lv_iload_n hc.x hc.b dX12_joint_3 rfl (lv_at hl 2 rfl) ?_
  obtain ⟨r_2, hq_1, hf⟩ := on_s hf
  refine k_i (k_runV hc hd my_X12_pairFault tw_1724 hL0 rfl rfl rfl (c_X12_pairFault l D cs B0 kt α Lv S g0 x1 x2 hc.cl hL0  hq_1) rfl rfl hl.1 (Nat.le_of_ble_eq_true rfl) ⟨Nat.le_of_ble_eq_true rfl, Nat.le_of_ble_eq_true rfl, Nat.zero_le _, Nat.zero_le _⟩ dX12_joint_4) hd (fun H locs hd => ?_)
  refine fp_60_5 hc hd hL0 tw_1314 dX12_joint_7 (fun H locs hd => ?_)
  obtain ⟨S_3, hd, hf⟩ := nmD hd hf
  refine lv_aload_n hc.x hc.b dX12_joint_10 rfl (lv_at hl 0 rfl) ?_
  refine fg_60_5 hc hd hL0 tw_1314 dX12_joint_11 ?_
  refine lv_if_le (tgt := 19) hc.x hc.b dX12_joint_14 (by decide) (fun c_4 => ?_) (fun c_4 => ?_)
  · have hf := br_y c_4 hf
    refine lv_aload_n hc.x hc.b dX12_joint_19 rfl (lv_at hl 0 rfl) ?_
    refine lv_iload_n hc.x hc.b dX12_joint_20 rfl (lv_at hl 1 rfl) ?_
    refine lv_iload_n hc.x hc.b dX12_joint_21 rfl (lv_at hl 2 rfl) ?_
    obtain ⟨S_6, hq_5, hf⟩ := on_s hf
    refine k_v (k_runV hc hd my_X12_layGains tw_1732 hL0 rfl rfl rfl (c_X12_layGains l D cs B0 kt α Lv S_3 g0 x1 x2 hc.cl hL0  hq_5) rfl rfl hl.1 (Nat.le_of_ble_eq_true rfl) ⟨Nat.le_of_ble_eq_true rfl, Nat.le_of_ble_eq_true rfl, Nat.zero_le _, Nat.zero_le _⟩ dX12_joint_22) hd (fun H locs hd => ?_)
    refine lv_iconst (v := (-1)) hc.x hc.b dX12_joint_25 (by decide) ?_
    refine lv_istore_n (lv' := [(3, .int ((-1))), (0, .ref (α 60 g0)), (1, .int x1), (2, .int x2)]) hc.x hc.b dX12_joint_26 rfl hl (by decide) rfl (fun ls hl => ?_)
    refine lv_iconst (v := 0) hc.x hc.b dX12_joint_27 (by decide) ?_
    refine lv_istore (lv' := [(4, .int 0), (3, .int ((-1))), (0, .ref (α 60 g0)), (1, .int x1), (2, .int x2)]) hc.x hc.b dX12_joint_28 hl (by decide) rfl (fun ls hl => ?_)
    refine w_X12_joint_30 hc hr hL0 ?_ _ _ _ _ _ _ _ hf hd (lv_sub hl [2, 1, 0] rfl)
    intro x3_29 S_30 H locs ls hf hd hl
    refine lv_iload_n hc.x hc.b dX12_joint_104 rfl (lv_at hl 0 rfl) ?_
    cases hf
    exact r_iret hc hd hr dX12_joint_105
  · have hf := br_n c_4 hf
    refine lv_iconst (v := 0) hc.x hc.b dX12_joint_17 (by decide) ?_
    cases hf
    exact r_iret hc hd hr dX12_joint_18
theorem c_X12_joint (l : Launch) (D : va_G) (cs : Nat → ClassId) (B0 : Nat) (kt : (Nat → Nat) × (Nat → Nat)) (α : Nat → Nat → Nat) (Lv : Nat → Nat → Prop) (S : St) (g0 : Nat) (x1 : Int32) (x2 : Int32) (hcl : Cl Lv) (hL0 : Lv 60 g0) {o : Int32 × St} (hf : f_X12_joint g0 x1 x2 S = some o) : Met l yX12_joint (wz yX12_joint cX12_joint 6 (some .int)) (Rm 3 0 0) (Pz D cs B0 kt α Lv S [.ref (α 60 g0), .int x1, .int x2]) (Qi D cs B0 α Lv o.1 o.2) 0 0 (AB B0) := met_of (by decide) rfl hcl (Nat.le_of_ble_eq_true rfl) (fun p e s m below meth c hc hr hd ls hl => b_X12_joint hc hr hL0 hf hd hl)
theorem my_X12_joint : MyV yX12_joint "PumpCrossingModel" cX12_joint 6 (some .int) 2 := ⟨tw_1761, tw_1762, tw_11, tw_1763, by decide +kernel⟩
def f_X12_late (g0 : Nat) (x1 : Int32) (x2 : Int32) (S : St) : Option (Int32 × St) := bv (si S 60 g0 5 0) (fun S_1 => on (f_X12_isStation g0 x1 S_1) (fun r_3 => br (r_3 = 0) (on2 (f_X12_fails g0 1 S_1) (fun r_17 S_16 => some (r_17, S_16))) (on (f_X12_within (Int32.toInt64 x2) 0 3 S_1) (fun r_6 => br (r_6 = 0) (on2 (f_X12_fails g0 2 S_1) (fun r_14 S_13 => some (r_14, S_13))) (ck (inb (16 + x1) 3179 = true) (bv (gi S_1 61 g0 (nn (16 + x1))) (fun x3_9 => ck (inb (16 + x1) 3179 = true) (bv (si S_1 61 g0 (nn (16 + x1)) x2) (fun S_11 => some (x3_9, S_11))))))))))
set_option maxRecDepth 100000 in
set_option maxHeartbeats 4000000 in
theorem b_X12_late (hc : Cx p s m args meth c cX12_late 4 "PumpCrossingModel" D cs B0 kt Lv) (hr : meth.sig.returnType = some .int)  {o : Int32 × St}  {S : St} {g0 : Nat} {x1 : Int32} {x2 : Int32} (hL0 : Lv 60 g0) {H : Heap} {locs : List Loc} {ls : Array Slot} (hf : f_X12_late g0 x1 x2 S = some o) (hd : Dy s D cs B0 α Lv S H locs) (hl : lv_has ls 4 [(0, .ref (α 60 g0)), (1, .int x1), (2, .int x2)]) : W p l e (Rm 2 0 0) s m args below meth c H locs 0 0 (MQ below (Qi D cs B0 α Lv o.1 o.2) args s 0 0 (AB B0)) (F0 m 0 ls []) := by
  unfold f_X12_late at hf
  refine lv_aload_n hc.x hc.b dX12_late_0 rfl (lv_at hl 0 rfl) ?_
  refine lv_iconst (v := 0) hc.x hc.b dX12_late_1 (by decide) ?_
  refine fp_60_5 hc hd hL0 tw_1314 dX12_late_2 (fun H locs hd => ?_)
  obtain ⟨S_1, hd, hf⟩ := nmD hd hf
  refine lv_aload_n hc.x hc.b dX12_late_5 rfl (lv_at hl 0 rfl) ?_
  refine lv_iload_n hc.x hc.b dX12_late_6 rfl (lv_at hl 1 rfl) ?_
  obtain ⟨r_3, hq_2, hf⟩ := on_s hf
  refine k_i (k_runV hc hd my_X12_isStation tw_1452 hL0 rfl rfl rfl (c_X12_isStation l D cs B0 kt α Lv S_1 g0 x1 hc.cl hL0  hq_2) rfl rfl hl.1 (Nat.le_of_ble_eq_true rfl) ⟨Nat.le_of_ble_eq_true rfl, Nat.le_of_ble_eq_true rfl, Nat.zero_le _, Nat.zero_le _⟩ dX12_late_7) hd (fun H locs hd => ?_)
  refine lv_if_ne (tgt := 19) hc.x hc.b dX12_late_10 (by decide) (fun c_4 => ?_) (fun c_4 => ?_)
  · have hf := br_n c_4 hf
    refine lv_iload_n hc.x hc.b dX12_late_19 rfl (lv_at hl 2 rfl) ?_
    refine lv_i2l (v := Int32.toInt64 x2) hc.x hc.b dX12_late_20 rfl ?_
    refine lv_lconst (v := 0) hc.x hc.b dX12_late_21 (by decide) ?_
    refine lv_ldc2 (v := 3) hc.x hc.b hc.ow (hc.ts tw_1447) dX12_late_22 ?_
    obtain ⟨r_6, hq_5, hf⟩ := on_s hf
    refine k_i (k_runS hc hd my_X12_within tw_1444 (c_X12_within l D cs B0 kt α Lv S_1 (Int32.toInt64 x2) 0 3 hc.cl   hq_5) rfl rfl hl.1 (Nat.le_of_ble_eq_true rfl) ⟨Nat.le_of_ble_eq_true rfl, Nat.le_of_ble_eq_true rfl, Nat.zero_le _, Nat.zero_le _⟩ dX12_late_25) hd (fun H locs hd => ?_)
    refine lv_if_ne (tgt := 37) hc.x hc.b dX12_late_28 (by decide) (fun c_7 => ?_) (fun c_7 => ?_)
    · have hf := br_n c_7 hf
      refine lv_aload_n hc.x hc.b dX12_late_37 rfl (lv_at hl 0 rfl) ?_
      refine fg_60_0 hc hd hL0 tw_1309 dX12_late_38 ?_
      refine lv_bipush (v := 16) hc.x hc.b dX12_late_41 (by decide) ?_
      refine lv_iload_n hc.x hc.b dX12_late_43 rfl (lv_at hl 1 rfl) ?_
      refine lv_iadd hc.x hc.b dX12_late_44 ?_
      obtain ⟨hi_8, hf⟩ := ck_s hf
      refine r_iald hc hd (cl_60_told hc.cl hL0) rfl hi_8 dX12_late_45 ?_
      refine lv_topi (fun x3_9 ex3_9 => ?_)
      have hf := bv_n ex3_9 hf
      refine lv_istore_n (lv' := [(3, .int x3_9), (0, .ref (α 60 g0)), (1, .int x1), (2, .int x2)]) hc.x hc.b dX12_late_46 rfl hl (by decide) rfl (fun ls hl => ?_)
      refine lv_aload_n hc.x hc.b dX12_late_47 rfl (lv_at hl 1 rfl) ?_
      refine fg_60_0 hc hd hL0 tw_1309 dX12_late_48 ?_
      refine lv_bipush (v := 16) hc.x hc.b dX12_late_51 (by decide) ?_
      refine lv_iload_n hc.x hc.b dX12_late_53 rfl (lv_at hl 2 rfl) ?_
      refine lv_iadd hc.x hc.b dX12_late_54 ?_
      refine lv_iload_n hc.x hc.b dX12_late_55 rfl (lv_at hl 3 rfl) ?_
      obtain ⟨hi_10, hf⟩ := ck_s hf
      refine r_iast hc hd (cl_60_told hc.cl hL0) (fun _ => rfl) hi_10 dX12_late_56 (fun H locs hd => ?_)
      obtain ⟨S_11, hd, hf⟩ := nmD hd hf
      refine lv_iload_n hc.x hc.b dX12_late_57 rfl (lv_at hl 0 rfl) ?_
      cases hf
      exact r_iret hc hd hr dX12_late_58
    · have hf := br_y c_7 hf
      refine lv_aload_n hc.x hc.b dX12_late_31 rfl (lv_at hl 0 rfl) ?_
      refine lv_iconst (v := 2) hc.x hc.b dX12_late_32 (by decide) ?_
      obtain ⟨r_14, S_13, hq_12, hf⟩ := on2_s hf
      refine k_i (k_runV hc hd my_X12_fails tw_1439 hL0 rfl rfl rfl (c_X12_fails l D cs B0 kt α Lv S_1 g0 2 hc.cl hL0  hq_12) rfl rfl hl.1 (Nat.le_of_ble_eq_true rfl) ⟨Nat.le_of_ble_eq_true rfl, Nat.le_of_ble_eq_true rfl, Nat.zero_le _, Nat.zero_le _⟩ dX12_late_33) hd (fun H locs hd => ?_)
      cases hf
      exact r_iret hc hd hr dX12_late_36
  · have hf := br_y c_4 hf
    refine lv_aload_n hc.x hc.b dX12_late_13 rfl (lv_at hl 0 rfl) ?_
    refine lv_iconst (v := 1) hc.x hc.b dX12_late_14 (by decide) ?_
    obtain ⟨r_17, S_16, hq_15, hf⟩ := on2_s hf
    refine k_i (k_runV hc hd my_X12_fails tw_1439 hL0 rfl rfl rfl (c_X12_fails l D cs B0 kt α Lv S_1 g0 1 hc.cl hL0  hq_15) rfl rfl hl.1 (Nat.le_of_ble_eq_true rfl) ⟨Nat.le_of_ble_eq_true rfl, Nat.le_of_ble_eq_true rfl, Nat.zero_le _, Nat.zero_le _⟩ dX12_late_15) hd (fun H locs hd => ?_)
    cases hf
    exact r_iret hc hd hr dX12_late_18
theorem c_X12_late (l : Launch) (D : va_G) (cs : Nat → ClassId) (B0 : Nat) (kt : (Nat → Nat) × (Nat → Nat)) (α : Nat → Nat → Nat) (Lv : Nat → Nat → Prop) (S : St) (g0 : Nat) (x1 : Int32) (x2 : Int32) (hcl : Cl Lv) (hL0 : Lv 60 g0) {o : Int32 × St} (hf : f_X12_late g0 x1 x2 S = some o) : Met l yX12_late (wz yX12_late cX12_late 4 (some .int)) (Rm 2 0 0) (Pz D cs B0 kt α Lv S [.ref (α 60 g0), .int x1, .int x2]) (Qi D cs B0 α Lv o.1 o.2) 0 0 (AB B0) := met_of (by decide) rfl hcl (Nat.le_of_ble_eq_true rfl) (fun p e s m below meth c hc hr hd ls hl => b_X12_late hc hr hL0 hf hd hl)
theorem my_X12_late : MyV yX12_late "PumpCrossingModel" cX12_late 4 (some .int) 2 := ⟨tw_1466, tw_1467, tw_11, tw_1468, by decide +kernel⟩
def f_X12_leads_39 (g0 : Nat) (x1 : Int32) (x2 : Int32) (K : Int32 → St → Option (Int32 × St)) : Nat → Int32 → Int32 → St → Option (Int32 × St)
  | 0, _, _, _ => none
  | n + 1, x3, x4, S => ck (inb 2 3179 = true) (br ((gi S 61 g0 (nn 2)) ≤ x4) (K x3 S) (on (f_X12_isLead g0 x1 x4 S) (fun r_10 => bv (fun (x3_11 : Int32) (S_12 : St) => bv (x4 + 1) (fun x4_14 => f_X12_leads_39 g0 x1 x2 K n x3_11 x4_14 S_12)) (fun J_13 => br (r_10 = 0) (J_13 x3 S) (bv (fun  (S_16 : St) => bv (x3 + 1) (fun x3_18 => J_13 x3_18 S_16)) (fun J_17 => br (x2 = 0) (J_17 S) (on (f_X12_isFollowed g0 x1 x4 S) (fun r_21 => br (r_21 = 0) (J_13 x3 S) (J_17 S)))))))))
def f_X12_leads (g0 : Nat) (x1 : Int32) (x2 : Int32) (S : St) : Option (Int32 × St) := bv (si S 60 g0 5 0) (fun S_1 => on (f_X12_isStation g0 x1 S_1) (fun r_3 => br (r_3 = 0) (on2 (f_X12_fails g0 1 S_1) (fun r_27 S_26 => some (r_27, S_26))) (ck (inb 2 3179 = true) (bv (mxI 2 (((gi S_1 61 g0 (nn 2)) - 256) + 2)) (fun q_6 => f_X12_leads_39 g0 x1 x2 (fun (x3_23 : Int32) (S_24 : St) => some (x3_23, S_24)) FU 0 q_6 S_1)))))
set_option maxRecDepth 100000 in
set_option maxHeartbeats 4000000 in
theorem w_X12_leads_39 (hc : Cx p s m args meth c cX12_leads 5 "PumpCrossingModel" D cs B0 kt Lv) (hr : meth.sig.returnType = some .int) {o : Int32 × St}  {g0 : Nat} {x1 : Int32} {x2 : Int32} {K : Int32 → St → Option (Int32 × St)} (hL0 : Lv 60 g0) (hK : ∀ (k3 : Int32) (S : St) (H : Heap) (locs : List Loc) (ls : Array Slot), K k3 S = some o → Dy s D cs B0 α Lv S H locs → lv_has ls 5 [(3, .int k3)] → W p l e (Rm 4 0 0) s m args below meth c H locs 0 0 (MQ below (Qi D cs B0 α Lv o.1 o.2) args s 0 0 (AB B0)) (F0 m 83 ls [])) : ∀ (n : Nat) (x3 : Int32) (x4 : Int32) (S : St) (H : Heap) (locs : List Loc) (ls : Array Slot), f_X12_leads_39 g0 x1 x2 K n x3 x4 S = some o → Dy s D cs B0 α Lv S H locs → lv_has ls 5 [(0, .ref (α 60 g0)), (1, .int x1), (2, .int x2), (3, .int x3), (4, .int x4)] → W p l e (Rm 4 0 0) s m args below meth c H locs 0 0 (MQ below (Qi D cs B0 α Lv o.1 o.2) args s 0 0 (AB B0)) (F0 m 39 ls []) := by
  intro n
  induction n with
  | zero =>
    intro x3 x4 S H locs ls hf
    rw [f_X12_leads_39] at hf
    cases hf
  | succ n ih =>
    intro x3 x4 S H locs ls hf hd hl
    rw [f_X12_leads_39] at hf
    refine lv_iload hc.x hc.b dX12_leads_39 (lv_at hl 4 rfl) ?_
    refine lv_aload_n hc.x hc.b dX12_leads_41 rfl (lv_at hl 0 rfl) ?_
    refine fg_60_0 hc hd hL0 tw_1309 dX12_leads_42 ?_
    refine lv_iconst (v := 2) hc.x hc.b dX12_leads_45 (by decide) ?_
    obtain ⟨hi_7, hf⟩ := ck_s hf
    refine r_iald hc hd (cl_60_told hc.cl hL0) rfl hi_7 dX12_leads_46 ?_
    refine lv_icmp_ge (tgt := 83) hc.x hc.b dX12_leads_47 (by decide) (fun c_8 => ?_) (fun c_8 => ?_)
    · have hf := br_y c_8 hf
      exact hK x3 S _ _ _ hf hd (lv_sub hl [3] rfl)
    · have hf := br_n c_8 hf
      refine lv_aload_n hc.x hc.b dX12_leads_50 rfl (lv_at hl 0 rfl) ?_
      refine lv_iload_n hc.x hc.b dX12_leads_51 rfl (lv_at hl 1 rfl) ?_
      refine lv_iload hc.x hc.b dX12_leads_52 (lv_at hl 4 rfl) ?_
      obtain ⟨r_10, hq_9, hf⟩ := on_s hf
      refine k_i (k_runV hc hd my_X12_isLead tw_1686 hL0 rfl rfl rfl (c_X12_isLead l D cs B0 kt α Lv S g0 x1 x4 hc.cl hL0  hq_9) rfl rfl hl.1 (Nat.le_of_ble_eq_true rfl) ⟨Nat.le_of_ble_eq_true rfl, Nat.le_of_ble_eq_true rfl, Nat.zero_le _, Nat.zero_le _⟩ dX12_leads_54) hd (fun H locs hd => ?_)
      refine jn_s (P := fun J_13 => ∀ (x3_11 : Int32) (S_12 : St) (H : Heap) (locs : List Loc) (ls : Array Slot), J_13 x3_11 S_12 = some o → Dy s D cs B0 α Lv S_12 H locs → lv_has ls 5 [(0, .ref (α 60 g0)), (1, .int x1), (2, .int x2), (3, .int x3_11), (4, .int x4)] → W p l e (Rm 4 0 0) s m args below meth c H locs 0 0 (MQ below (Qi D cs B0 α Lv o.1 o.2) args s 0 0 (AB B0)) (F0 m 77 ls [])) hf ?_ (fun J_13 hJ_13 hf => ?_)
      · intro x3_11 S_12 H locs ls hf hd hl
        obtain ⟨x4_14, ex4_14⟩ : ∃ z : Int32, z = x4 + 1 := ⟨_, rfl⟩
        have hf := bv_n ex4_14 hf
        refine lv_iinc (v := x4_14) (lv' := [(4, .int x4_14), (0, .ref (α 60 g0)), (1, .int x1), (2, .int x2), (3, .int x3_11)]) hc.x hc.b dX12_leads_77 hl (k := 4) rfl (by rw [ex4_14]; rfl) (by decide) rfl (fun ls hl => ?_)
        refine lv_goto (tgt := 39) hc.x hc.b dX12_leads_80 (by decide) ?_
        exact ih x3_11 x4_14 S_12 _ _ _ hf hd (lv_sub hl [1, 2, 3, 4, 0] rfl)
      refine lv_if_eq (tgt := 77) hc.x hc.b dX12_leads_57 (by decide) (fun c_15 => ?_) (fun c_15 => ?_)
      · have hf := br_y c_15 hf
        exact hJ_13 x3 S _ _ _ hf hd (lv_sub hl [0, 1, 2, 3, 4] rfl)
      · have hf := br_n c_15 hf
        refine lv_iload_n hc.x hc.b dX12_leads_60 rfl (lv_at hl 2 rfl) ?_
        refine jn_s (P := fun J_17 => ∀  (S_16 : St) (H : Heap) (locs : List Loc) (ls : Array Slot), J_17 S_16 = some o → Dy s D cs B0 α Lv S_16 H locs → lv_has ls 5 [(0, .ref (α 60 g0)), (1, .int x1), (2, .int x2), (3, .int x3), (4, .int x4)] → W p l e (Rm 4 0 0) s m args below meth c H locs 0 0 (MQ below (Qi D cs B0 α Lv o.1 o.2) args s 0 0 (AB B0)) (F0 m 74 ls [])) hf ?_ (fun J_17 hJ_17 hf => ?_)
        · intro S_16 H locs ls hf hd hl
          obtain ⟨x3_18, ex3_18⟩ : ∃ z : Int32, z = x3 + 1 := ⟨_, rfl⟩
          have hf := bv_n ex3_18 hf
          refine lv_iinc (v := x3_18) (lv' := [(3, .int x3_18), (0, .ref (α 60 g0)), (1, .int x1), (2, .int x2), (4, .int x4)]) hc.x hc.b dX12_leads_74 hl (k := 3) rfl (by rw [ex3_18]; rfl) (by decide) rfl (fun ls hl => ?_)
          exact hJ_13 x3_18 S_16 _ _ _ hf hd (lv_sub hl [1, 2, 3, 0, 4] rfl)
        refine lv_if_eq (tgt := 74) hc.x hc.b dX12_leads_61 (by decide) (fun c_19 => ?_) (fun c_19 => ?_)
        · have hf := br_y c_19 hf
          exact hJ_17 S _ _ _ hf hd (lv_sub hl [0, 1, 2, 3, 4] rfl)
        · have hf := br_n c_19 hf
          refine lv_aload_n hc.x hc.b dX12_leads_64 rfl (lv_at hl 0 rfl) ?_
          refine lv_iload_n hc.x hc.b dX12_leads_65 rfl (lv_at hl 1 rfl) ?_
          refine lv_iload hc.x hc.b dX12_leads_66 (lv_at hl 4 rfl) ?_
          obtain ⟨r_21, hq_20, hf⟩ := on_s hf
          refine k_i (k_runV hc hd my_X12_isFollowed tw_1694 hL0 rfl rfl rfl (c_X12_isFollowed l D cs B0 kt α Lv S g0 x1 x4 hc.cl hL0  hq_20) rfl rfl hl.1 (Nat.le_of_ble_eq_true rfl) ⟨Nat.le_of_ble_eq_true rfl, Nat.le_of_ble_eq_true rfl, Nat.zero_le _, Nat.zero_le _⟩ dX12_leads_68) hd (fun H locs hd => ?_)
          refine lv_if_eq (tgt := 77) hc.x hc.b dX12_leads_71 (by decide) (fun c_22 => ?_) (fun c_22 => ?_)
          · have hf := br_y c_22 hf
            exact hJ_13 x3 S _ _ _ hf hd (lv_sub hl [0, 1, 2, 3, 4] rfl)
          · have hf := br_n c_22 hf
            exact hJ_17 S _ _ _ hf hd (lv_sub hl [0, 1, 2, 3, 4] rfl)
set_option maxRecDepth 100000 in
set_option maxHeartbeats 4000000 in
theorem b_X12_leads (hc : Cx p s m args meth c cX12_leads 5 "PumpCrossingModel" D cs B0 kt Lv) (hr : meth.sig.returnType = some .int)  {o : Int32 × St}  {S : St} {g0 : Nat} {x1 : Int32} {x2 : Int32} (hL0 : Lv 60 g0) {H : Heap} {locs : List Loc} {ls : Array Slot} (hf : f_X12_leads g0 x1 x2 S = some o) (hd : Dy s D cs B0 α Lv S H locs) (hl : lv_has ls 5 [(0, .ref (α 60 g0)), (1, .int x1), (2, .int x2)]) : W p l e (Rm 4 0 0) s m args below meth c H locs 0 0 (MQ below (Qi D cs B0 α Lv o.1 o.2) args s 0 0 (AB B0)) (F0 m 0 ls []) := by
  unfold f_X12_leads at hf
  refine lv_aload_n hc.x hc.b dX12_leads_0 rfl (lv_at hl 0 rfl) ?_
  refine lv_iconst (v := 0) hc.x hc.b dX12_leads_1 (by decide) ?_
  refine fp_60_5 hc hd hL0 tw_1314 dX12_leads_2 (fun H locs hd => ?_)
  obtain ⟨S_1, hd, hf⟩ := nmD hd hf
  refine lv_aload_n hc.x hc.b dX12_leads_5 rfl (lv_at hl 0 rfl) ?_
  refine lv_iload_n hc.x hc.b dX12_leads_6 rfl (lv_at hl 1 rfl) ?_
  obtain ⟨r_3, hq_2, hf⟩ := on_s hf
  refine k_i (k_runV hc hd my_X12_isStation tw_1452 hL0 rfl rfl rfl (c_X12_isStation l D cs B0 kt α Lv S_1 g0 x1 hc.cl hL0  hq_2) rfl rfl hl.1 (Nat.le_of_ble_eq_true rfl) ⟨Nat.le_of_ble_eq_true rfl, Nat.le_of_ble_eq_true rfl, Nat.zero_le _, Nat.zero_le _⟩ dX12_leads_7) hd (fun H locs hd => ?_)
  refine lv_if_ne (tgt := 19) hc.x hc.b dX12_leads_10 (by decide) (fun c_4 => ?_) (fun c_4 => ?_)
  · have hf := br_n c_4 hf
    refine lv_iconst (v := 0) hc.x hc.b dX12_leads_19 (by decide) ?_
    refine lv_istore_n (lv' := [(3, .int 0), (0, .ref (α 60 g0)), (1, .int x1), (2, .int x2)]) hc.x hc.b dX12_leads_20 rfl hl (by decide) rfl (fun ls hl => ?_)
    refine lv_iconst (v := 2) hc.x hc.b dX12_leads_21 (by decide) ?_
    refine lv_aload_n hc.x hc.b dX12_leads_22 rfl (lv_at hl 1 rfl) ?_
    refine fg_60_0 hc hd hL0 tw_1309 dX12_leads_23 ?_
    refine lv_iconst (v := 2) hc.x hc.b dX12_leads_26 (by decide) ?_
    obtain ⟨hi_5, hf⟩ := ck_s hf
    refine r_iald hc hd (cl_60_told hc.cl hL0) rfl hi_5 dX12_leads_27 ?_
    refine lv_sipush (v := 256) hc.x hc.b dX12_leads_28 (by decide) ?_
    refine lv_isub hc.x hc.b dX12_leads_31 ?_
    refine lv_iconst (v := 2) hc.x hc.b dX12_leads_32 (by decide) ?_
    refine lv_iadd hc.x hc.b dX12_leads_33 ?_
    refine r_max hc hl.1 tw_1609 (Nat.le_of_ble_eq_true rfl) (Nat.le_of_ble_eq_true rfl) (Nat.zero_le _) (Nat.zero_le _) dX12_leads_34 ?_
    refine lv_topi (fun q_6 eq_6 => ?_)
    have hf := bv_n eq_6 hf
    refine lv_istore (lv' := [(4, .int q_6), (3, .int 0), (0, .ref (α 60 g0)), (1, .int x1), (2, .int x2)]) hc.x hc.b dX12_leads_37 hl (by decide) rfl (fun ls hl => ?_)
    refine w_X12_leads_39 hc hr hL0 ?_ _ _ _ _ _ _ _ hf hd (lv_sub hl [2, 3, 4, 1, 0] rfl)
    intro x3_23 S_24 H locs ls hf hd hl
    refine lv_iload_n hc.x hc.b dX12_leads_83 rfl (lv_at hl 0 rfl) ?_
    cases hf
    exact r_iret hc hd hr dX12_leads_84
  · have hf := br_y c_4 hf
    refine lv_aload_n hc.x hc.b dX12_leads_13 rfl (lv_at hl 0 rfl) ?_
    refine lv_iconst (v := 1) hc.x hc.b dX12_leads_14 (by decide) ?_
    obtain ⟨r_27, S_26, hq_25, hf⟩ := on2_s hf
    refine k_i (k_runV hc hd my_X12_fails tw_1439 hL0 rfl rfl rfl (c_X12_fails l D cs B0 kt α Lv S_1 g0 1 hc.cl hL0  hq_25) rfl rfl hl.1 (Nat.le_of_ble_eq_true rfl) ⟨Nat.le_of_ble_eq_true rfl, Nat.le_of_ble_eq_true rfl, Nat.zero_le _, Nat.zero_le _⟩ dX12_leads_15) hd (fun H locs hd => ?_)
    cases hf
    exact r_iret hc hd hr dX12_leads_18
theorem c_X12_leads (l : Launch) (D : va_G) (cs : Nat → ClassId) (B0 : Nat) (kt : (Nat → Nat) × (Nat → Nat)) (α : Nat → Nat → Nat) (Lv : Nat → Nat → Prop) (S : St) (g0 : Nat) (x1 : Int32) (x2 : Int32) (hcl : Cl Lv) (hL0 : Lv 60 g0) {o : Int32 × St} (hf : f_X12_leads g0 x1 x2 S = some o) : Met l yX12_leads (wz yX12_leads cX12_leads 5 (some .int)) (Rm 4 0 0) (Pz D cs B0 kt α Lv S [.ref (α 60 g0), .int x1, .int x2]) (Qi D cs B0 α Lv o.1 o.2) 0 0 (AB B0) := met_of (by decide) rfl hcl (Nat.le_of_ble_eq_true rfl) (fun p e s m below meth c hc hr hd ls hl => b_X12_leads hc hr hL0 hf hd hl)
theorem my_X12_leads : MyV yX12_leads "PumpCrossingModel" cX12_leads 5 (some .int) 2 := ⟨tw_1683, tw_1684, tw_11, tw_1685, by decide +kernel⟩
def f_X12_learn (g0 : Nat) (x1 : Int32) (x2 : Int32) (x3 : Int32) (x4 : Int32) (S : St) : Option (Int32 × St) := on (f_X12_learnFault g0 x1 x2 x3 2000 S) (fun r_2 => bv (si S 60 g0 5 r_2) (fun S_3 => br ((gi S_3 60 g0 5) ≤ 0) (ck (inb 3 3179 = true) (br ((gi S_3 61 g0 (nn 3)) = 0) (some ((-1), S_3)) (on (f_X12_layGains g0 x1 x2 S_3) (fun S_8 => on (f_X12_learns g0 x3 x4 S_8) (fun S_10 => some ((10 * (gi S_10 60 g0 34)) + (gi S_10 60 g0 35), S_10)))))) (some (0, S_3))))
set_option maxRecDepth 100000 in
set_option maxHeartbeats 4000000 in
theorem b_X12_learn (hc : Cx p s m args meth c cX12_learn 5 "PumpCrossingModel" D cs B0 kt Lv) (hr : meth.sig.returnType = some .int)  {o : Int32 × St}  {S : St} {g0 : Nat} {x1 : Int32} {x2 : Int32} {x3 : Int32} {x4 : Int32} (hL0 : Lv 60 g0) {H : Heap} {locs : List Loc} {ls : Array Slot} (hf : f_X12_learn g0 x1 x2 x3 x4 S = some o) (hd : Dy s D cs B0 α Lv S H locs) (hl : lv_has ls 5 [(0, .ref (α 60 g0)), (1, .int x1), (2, .int x2), (3, .int x3), (4, .int x4)]) : W p l e (Rm 4 0 0) s m args below meth c H locs 0 0 (MQ below (Qi D cs B0 α Lv o.1 o.2) args s 0 0 (AB B0)) (F0 m 0 ls []) := by
  unfold f_X12_learn at hf
  refine lv_aload_n hc.x hc.b dX12_learn_0 rfl (lv_at hl 0 rfl) ?_
  refine lv_aload_n hc.x hc.b dX12_learn_1 rfl (lv_at hl 0 rfl) ?_
  refine lv_iload_n hc.x hc.b dX12_learn_2 rfl (lv_at hl 1 rfl) ?_
  refine lv_iload_n hc.x hc.b dX12_learn_3 rfl (lv_at hl 2 rfl) ?_
  refine lv_iload_n hc.x hc.b dX12_learn_4 rfl (lv_at hl 3 rfl) ?_
  refine lv_sipush (v := 2000) hc.x hc.b dX12_learn_5 (by decide) ?_
  obtain ⟨r_2, hq_1, hf⟩ := on_s hf
  refine k_i (k_runV hc hd my_X12_learnFault tw_1789 hL0 rfl rfl rfl (c_X12_learnFault l D cs B0 kt α Lv S g0 x1 x2 x3 2000 hc.cl hL0  hq_1) rfl rfl hl.1 (Nat.le_of_ble_eq_true rfl) ⟨Nat.le_of_ble_eq_true rfl, Nat.le_of_ble_eq_true rfl, Nat.zero_le _, Nat.zero_le _⟩ dX12_learn_8) hd (fun H locs hd => ?_)
  refine fp_60_5 hc hd hL0 tw_1314 dX12_learn_11 (fun H locs hd => ?_)
  obtain ⟨S_3, hd, hf⟩ := nmD hd hf
  refine lv_aload_n hc.x hc.b dX12_learn_14 rfl (lv_at hl 0 rfl) ?_
  refine fg_60_5 hc hd hL0 tw_1314 dX12_learn_15 ?_
  refine lv_if_le (tgt := 23) hc.x hc.b dX12_learn_18 (by decide) (fun c_4 => ?_) (fun c_4 => ?_)
  · have hf := br_y c_4 hf
    refine lv_aload_n hc.x hc.b dX12_learn_23 rfl (lv_at hl 0 rfl) ?_
    refine fg_60_0 hc hd hL0 tw_1309 dX12_learn_24 ?_
    refine lv_iconst (v := 3) hc.x hc.b dX12_learn_27 (by decide) ?_
    obtain ⟨hi_5, hf⟩ := ck_s hf
    refine r_iald hc hd (cl_60_told hc.cl hL0) rfl hi_5 dX12_learn_28 ?_
    refine lv_if_ne (tgt := 34) hc.x hc.b dX12_learn_29 (by decide) (fun c_6 => ?_) (fun c_6 => ?_)
    · have hf := br_n c_6 hf
      refine lv_aload_n hc.x hc.b dX12_learn_34 rfl (lv_at hl 0 rfl) ?_
      refine lv_iload_n hc.x hc.b dX12_learn_35 rfl (lv_at hl 1 rfl) ?_
      refine lv_iload_n hc.x hc.b dX12_learn_36 rfl (lv_at hl 2 rfl) ?_
      obtain ⟨S_8, hq_7, hf⟩ := on_s hf
      refine k_v (k_runV hc hd my_X12_layGains tw_1732 hL0 rfl rfl rfl (c_X12_layGains l D cs B0 kt α Lv S_3 g0 x1 x2 hc.cl hL0  hq_7) rfl rfl hl.1 (Nat.le_of_ble_eq_true rfl) ⟨Nat.le_of_ble_eq_true rfl, Nat.le_of_ble_eq_true rfl, Nat.zero_le _, Nat.zero_le _⟩ dX12_learn_37) hd (fun H locs hd => ?_)
      refine lv_aload_n hc.x hc.b dX12_learn_40 rfl (lv_at hl 0 rfl) ?_
      refine lv_iload_n hc.x hc.b dX12_learn_41 rfl (lv_at hl 3 rfl) ?_
      refine lv_iload hc.x hc.b dX12_learn_42 (lv_at hl 4 rfl) ?_
      obtain ⟨S_10, hq_9, hf⟩ := on_s hf
      refine k_v (k_runV hc hd my_X12_learns tw_1793 hL0 rfl rfl rfl (c_X12_learns l D cs B0 kt α Lv S_8 g0 x3 x4 hc.cl hL0  hq_9) rfl rfl hl.1 (Nat.le_of_ble_eq_true rfl) ⟨Nat.le_of_ble_eq_true rfl, Nat.le_of_ble_eq_true rfl, Nat.zero_le _, Nat.zero_le _⟩ dX12_learn_44) hd (fun H locs hd => ?_)
      refine lv_bipush (v := 10) hc.x hc.b dX12_learn_47 (by decide) ?_
      refine lv_aload_n hc.x hc.b dX12_learn_49 rfl (lv_at hl 0 rfl) ?_
      refine fg_60_34 hc hd hL0 tw_1343 dX12_learn_50 ?_
      refine lv_imul hc.x hc.b dX12_learn_53 ?_
      refine lv_aload_n hc.x hc.b dX12_learn_54 rfl (lv_at hl 0 rfl) ?_
      refine fg_60_35 hc hd hL0 tw_1344 dX12_learn_55 ?_
      refine lv_iadd hc.x hc.b dX12_learn_58 ?_
      cases hf
      exact r_iret hc hd hr dX12_learn_59
    · have hf := br_y c_6 hf
      refine lv_iconst (v := (-1)) hc.x hc.b dX12_learn_32 (by decide) ?_
      cases hf
      exact r_iret hc hd hr dX12_learn_33
  · have hf := br_n c_4 hf
    refine lv_iconst (v := 0) hc.x hc.b dX12_learn_21 (by decide) ?_
    cases hf
    exact r_iret hc hd hr dX12_learn_22
theorem c_X12_learn (l : Launch) (D : va_G) (cs : Nat → ClassId) (B0 : Nat) (kt : (Nat → Nat) × (Nat → Nat)) (α : Nat → Nat → Nat) (Lv : Nat → Nat → Prop) (S : St) (g0 : Nat) (x1 : Int32) (x2 : Int32) (x3 : Int32) (x4 : Int32) (hcl : Cl Lv) (hL0 : Lv 60 g0) {o : Int32 × St} (hf : f_X12_learn g0 x1 x2 x3 x4 S = some o) : Met l yX12_learn (wz yX12_learn cX12_learn 5 (some .int)) (Rm 4 0 0) (Pz D cs B0 kt α Lv S [.ref (α 60 g0), .int x1, .int x2, .int x3, .int x4]) (Qi D cs B0 α Lv o.1 o.2) 0 0 (AB B0) := met_of (by decide) rfl hcl (Nat.le_of_ble_eq_true rfl) (fun p e s m below meth c hc hr hd ls hl => b_X12_learn hc hr hL0 hf hd hl)
theorem my_X12_learn : MyV yX12_learn "PumpCrossingModel" cX12_learn 5 (some .int) 4 := ⟨tw_1786, tw_1787, tw_11, tw_1788, by decide +kernel⟩
def f_X12_level (g0 : Nat) (x1 : Int32) (S : St) : Option (Int32 × St) := bv (si S 60 g0 5 0) (fun S_1 => ck (inb 3 3179 = true) (bv (gi S_1 61 g0 (nn 3)) (fun x2_3 => bv (fun (v_4 : Int64) (S_5 : St) => on (f_X12_within (Int32.toInt64 x1) v_4 99 S_5) (fun r_8 => br (r_8 = 0) (on2 (f_X12_fails g0 1 S_5) (fun r_18 S_17 => some (r_18, S_17))) (br (x2_3 = 8) (some ((-1), S_5)) (ck (inb (52 + x2_3) 3179 = true) (bv (si S_5 61 g0 (nn (52 + x2_3)) x1) (fun S_12 => ck (inb 3 3179 = true) (ck (inb 3 3179 = true) (bv (si S_12 61 g0 (nn 3) ((gi S_12 61 g0 (nn 3)) + 1)) (fun S_15 => some (x2_3, S_15)))))))))) (fun J_6 => br (x2_3 = 0) (J_6 0 S_1) (ck (inb ((52 + x2_3) - 1) 3179 = true) (J_6 (Int32.toInt64 ((gi S_1 61 g0 (nn ((52 + x2_3) - 1))) + 1)) S_1))))))
set_option maxRecDepth 100000 in
set_option maxHeartbeats 4000000 in
theorem b_X12_level (hc : Cx p s m args meth c cX12_level 3 "PumpCrossingModel" D cs B0 kt Lv) (hr : meth.sig.returnType = some .int)  {o : Int32 × St}  {S : St} {g0 : Nat} {x1 : Int32} (hL0 : Lv 60 g0) {H : Heap} {locs : List Loc} {ls : Array Slot} (hf : f_X12_level g0 x1 S = some o) (hd : Dy s D cs B0 α Lv S H locs) (hl : lv_has ls 3 [(0, .ref (α 60 g0)), (1, .int x1)]) : W p l e (Rm 1 0 0) s m args below meth c H locs 0 0 (MQ below (Qi D cs B0 α Lv o.1 o.2) args s 0 0 (AB B0)) (F0 m 0 ls []) := by
  unfold f_X12_level at hf
  refine lv_aload_n hc.x hc.b dX12_level_0 rfl (lv_at hl 0 rfl) ?_
  refine lv_iconst (v := 0) hc.x hc.b dX12_level_1 (by decide) ?_
  refine fp_60_5 hc hd hL0 tw_1314 dX12_level_2 (fun H locs hd => ?_)
  obtain ⟨S_1, hd, hf⟩ := nmD hd hf
  refine lv_aload_n hc.x hc.b dX12_level_5 rfl (lv_at hl 0 rfl) ?_
  refine fg_60_0 hc hd hL0 tw_1309 dX12_level_6 ?_
  refine lv_iconst (v := 3) hc.x hc.b dX12_level_9 (by decide) ?_
  obtain ⟨hi_2, hf⟩ := ck_s hf
  refine r_iald hc hd (cl_60_told hc.cl hL0) rfl hi_2 dX12_level_10 ?_
  refine lv_topi (fun x2_3 ex2_3 => ?_)
  have hf := bv_n ex2_3 hf
  refine lv_istore_n (lv' := [(2, .int x2_3), (0, .ref (α 60 g0)), (1, .int x1)]) hc.x hc.b dX12_level_11 rfl hl (by decide) rfl (fun ls hl => ?_)
  refine lv_iload_n hc.x hc.b dX12_level_12 rfl (lv_at hl 2 rfl) ?_
  refine lv_i2l (v := Int32.toInt64 x1) hc.x hc.b dX12_level_13 rfl ?_
  refine lv_iload_n hc.x hc.b dX12_level_14 rfl (lv_at hl 0 rfl) ?_
  refine jn_s (P := fun J_6 => ∀ (v_4 : Int64) (S_5 : St) (H : Heap) (locs : List Loc) (ls : Array Slot), J_6 v_4 S_5 = some o → Dy s D cs B0 α Lv S_5 H locs → lv_has ls 3 [(0, .ref (α 60 g0)), (1, .int x1), (2, .int x2_3)] → W p l e (Rm 1 0 0) s m args below meth c H locs 0 0 (MQ below (Qi D cs B0 α Lv o.1 o.2) args s 0 0 (AB B0)) (F0 m 36 ls [.long v_4, .long (Int32.toInt64 x1)])) hf ?_ (fun J_6 hJ_6 hf => ?_)
  · intro v_4 S_5 H locs ls hf hd hl
    refine lv_ldc2 (v := 99) hc.x hc.b hc.ow (hc.ts tw_1443) dX12_level_36 ?_
    obtain ⟨r_8, hq_7, hf⟩ := on_s hf
    refine k_i (k_runS hc hd my_X12_within tw_1444 (c_X12_within l D cs B0 kt α Lv S_5 (Int32.toInt64 x1) v_4 99 hc.cl   hq_7) rfl rfl hl.1 (Nat.le_of_ble_eq_true rfl) ⟨Nat.le_of_ble_eq_true rfl, Nat.le_of_ble_eq_true rfl, Nat.zero_le _, Nat.zero_le _⟩ dX12_level_39) hd (fun H locs hd => ?_)
    refine lv_if_ne (tgt := 51) hc.x hc.b dX12_level_42 (by decide) (fun c_9 => ?_) (fun c_9 => ?_)
    · have hf := br_n c_9 hf
      refine lv_iload_n hc.x hc.b dX12_level_51 rfl (lv_at hl 2 rfl) ?_
      refine lv_bipush (v := 8) hc.x hc.b dX12_level_52 (by decide) ?_
      refine lv_icmp_ne (tgt := 59) hc.x hc.b dX12_level_54 (by decide) (fun c_10 => ?_) (fun c_10 => ?_)
      · have hf := br_n c_10 hf
        refine lv_aload_n hc.x hc.b dX12_level_59 rfl (lv_at hl 0 rfl) ?_
        refine fg_60_0 hc hd hL0 tw_1309 dX12_level_60 ?_
        refine lv_bipush (v := 52) hc.x hc.b dX12_level_63 (by decide) ?_
        refine lv_iload_n hc.x hc.b dX12_level_65 rfl (lv_at hl 2 rfl) ?_
        refine lv_iadd hc.x hc.b dX12_level_66 ?_
        refine lv_iload_n hc.x hc.b dX12_level_67 rfl (lv_at hl 1 rfl) ?_
        obtain ⟨hi_11, hf⟩ := ck_s hf
        refine r_iast hc hd (cl_60_told hc.cl hL0) (fun _ => rfl) hi_11 dX12_level_68 (fun H locs hd => ?_)
        obtain ⟨S_12, hd, hf⟩ := nmD hd hf
        refine lv_aload_n hc.x hc.b dX12_level_69 rfl (lv_at hl 0 rfl) ?_
        refine fg_60_0 hc hd hL0 tw_1309 dX12_level_70 ?_
        refine lv_iconst (v := 3) hc.x hc.b dX12_level_73 (by decide) ?_
        refine lv_dup2_11 hc.x hc.b dX12_level_74 rfl rfl ?_
        obtain ⟨hi_13, hf⟩ := ck_s hf
        refine r_iald hc hd (cl_60_told hc.cl hL0) rfl hi_13 dX12_level_75 ?_
        refine lv_iconst (v := 1) hc.x hc.b dX12_level_76 (by decide) ?_
        refine lv_iadd hc.x hc.b dX12_level_77 ?_
        obtain ⟨hi_14, hf⟩ := ck_s hf
        refine r_iast hc hd (cl_60_told hc.cl hL0) (fun _ => rfl) hi_14 dX12_level_78 (fun H locs hd => ?_)
        obtain ⟨S_15, hd, hf⟩ := nmD hd hf
        refine lv_iload_n hc.x hc.b dX12_level_79 rfl (lv_at hl 2 rfl) ?_
        cases hf
        exact r_iret hc hd hr dX12_level_80
      · have hf := br_y c_10 hf
        refine lv_iconst (v := (-1)) hc.x hc.b dX12_level_57 (by decide) ?_
        cases hf
        exact r_iret hc hd hr dX12_level_58
    · have hf := br_y c_9 hf
      refine lv_aload_n hc.x hc.b dX12_level_45 rfl (lv_at hl 0 rfl) ?_
      refine lv_iconst (v := 1) hc.x hc.b dX12_level_46 (by decide) ?_
      obtain ⟨r_18, S_17, hq_16, hf⟩ := on2_s hf
      refine k_i (k_runV hc hd my_X12_fails tw_1439 hL0 rfl rfl rfl (c_X12_fails l D cs B0 kt α Lv S_5 g0 1 hc.cl hL0  hq_16) rfl rfl hl.1 (Nat.le_of_ble_eq_true rfl) ⟨Nat.le_of_ble_eq_true rfl, Nat.le_of_ble_eq_true rfl, Nat.zero_le _, Nat.zero_le _⟩ dX12_level_47) hd (fun H locs hd => ?_)
      cases hf
      exact r_iret hc hd hr dX12_level_50
  refine lv_if_ne (tgt := 22) hc.x hc.b dX12_level_15 (by decide) (fun c_19 => ?_) (fun c_19 => ?_)
  · have hf := br_n c_19 hf
    refine lv_aload_n hc.x hc.b dX12_level_22 rfl (lv_at hl 1 rfl) ?_
    refine fg_60_0 hc hd hL0 tw_1309 dX12_level_23 ?_
    refine lv_bipush (v := 52) hc.x hc.b dX12_level_26 (by decide) ?_
    refine lv_iload_n hc.x hc.b dX12_level_28 rfl (lv_at hl 0 rfl) ?_
    refine lv_iadd hc.x hc.b dX12_level_29 ?_
    refine lv_iconst (v := 1) hc.x hc.b dX12_level_30 (by decide) ?_
    refine lv_isub hc.x hc.b dX12_level_31 ?_
    obtain ⟨hi_20, hf⟩ := ck_s hf
    refine r_iald hc hd (cl_60_told hc.cl hL0) rfl hi_20 dX12_level_32 ?_
    refine lv_iconst (v := 1) hc.x hc.b dX12_level_33 (by decide) ?_
    refine lv_iadd hc.x hc.b dX12_level_34 ?_
    refine lv_i2l (v := Int32.toInt64 ((gi S_1 61 g0 (nn ((52 + x2_3) - 1))) + 1)) hc.x hc.b dX12_level_35 rfl ?_
    exact hJ_6 (Int32.toInt64 ((gi S_1 61 g0 (nn ((52 + x2_3) - 1))) + 1)) S_1 _ _ _ hf hd (lv_sub hl [1, 2, 0] rfl)
  · have hf := br_y c_19 hf
    refine lv_lconst (v := 0) hc.x hc.b dX12_level_18 (by decide) ?_
    refine lv_goto (tgt := 36) hc.x hc.b dX12_level_19 (by decide) ?_
    exact hJ_6 0 S_1 _ _ _ hf hd (lv_sub hl [1, 2, 0] rfl)
theorem c_X12_level (l : Launch) (D : va_G) (cs : Nat → ClassId) (B0 : Nat) (kt : (Nat → Nat) × (Nat → Nat)) (α : Nat → Nat → Nat) (Lv : Nat → Nat → Prop) (S : St) (g0 : Nat) (x1 : Int32) (hcl : Cl Lv) (hL0 : Lv 60 g0) {o : Int32 × St} (hf : f_X12_level g0 x1 S = some o) : Met l yX12_level (wz yX12_level cX12_level 3 (some .int)) (Rm 1 0 0) (Pz D cs B0 kt α Lv S [.ref (α 60 g0), .int x1]) (Qi D cs B0 α Lv o.1 o.2) 0 0 (AB B0) := met_of (by decide) rfl hcl (Nat.le_of_ble_eq_true rfl) (fun p e s m below meth c hc hr hd ls hl => b_X12_level hc hr hL0 hf hd hl)
theorem my_X12_level : MyV yX12_level "PumpCrossingModel" cX12_level 3 (some .int) 1 := ⟨tw_1717, tw_1718, tw_11, tw_1719, by decide +kernel⟩
def f_X12_lower (g0 : Nat) (S : St) : Option (Int64 × St) := bv (si S 60 g0 5 0) (fun S_1 => some (gl S_1 60 g0 27, S_1))
set_option maxRecDepth 100000 in
set_option maxHeartbeats 4000000 in
theorem b_X12_lower (hc : Cx p s m args meth c cX12_lower 1 "PumpCrossingModel" D cs B0 kt Lv) (hr : meth.sig.returnType = some .long)  {o : Int64 × St}  {S : St} {g0 : Nat} (hL0 : Lv 60 g0) {H : Heap} {locs : List Loc} {ls : Array Slot} (hf : f_X12_lower g0 S = some o) (hd : Dy s D cs B0 α Lv S H locs) (hl : lv_has ls 1 [(0, .ref (α 60 g0))]) : W p l e (Rm 0 0 0) s m args below meth c H locs 0 0 (MQ below (Ql D cs B0 α Lv o.1 o.2) args s 0 0 (AB B0)) (F0 m 0 ls []) := by
  unfold f_X12_lower at hf
  refine lv_aload_n hc.x hc.b dX12_lower_0 rfl (lv_at hl 0 rfl) ?_
  refine lv_iconst (v := 0) hc.x hc.b dX12_lower_1 (by decide) ?_
  refine fp_60_5 hc hd hL0 tw_1314 dX12_lower_2 (fun H locs hd => ?_)
  obtain ⟨S_1, hd, hf⟩ := nmD hd hf
  refine lv_aload_n hc.x hc.b dX12_lower_5 rfl (lv_at hl 0 rfl) ?_
  refine fg_60_27 hc hd hL0 tw_1336 dX12_lower_6 ?_
  cases hf
  exact r_lret hc hd hr dX12_lower_9
theorem c_X12_lower (l : Launch) (D : va_G) (cs : Nat → ClassId) (B0 : Nat) (kt : (Nat → Nat) × (Nat → Nat)) (α : Nat → Nat → Nat) (Lv : Nat → Nat → Prop) (S : St) (g0 : Nat) (hcl : Cl Lv) (hL0 : Lv 60 g0) {o : Int64 × St} (hf : f_X12_lower g0 S = some o) : Met l yX12_lower (wz yX12_lower cX12_lower 1 (some .long)) (Rm 0 0 0) (Pz D cs B0 kt α Lv S [.ref (α 60 g0)]) (Ql D cs B0 α Lv o.1 o.2) 0 0 (AB B0) := met_of (by decide) rfl hcl (Nat.le_of_ble_eq_true rfl) (fun p e s m below meth c hc hr hd ls hl => b_X12_lower hc hr hL0 hf hd hl)
theorem my_X12_lower : MyV yX12_lower "PumpCrossingModel" cX12_lower 1 (some .long) 0 := ⟨tw_1703, tw_1704, tw_11, tw_1705, by decide +kernel⟩
def f_X12_see (g0 : Nat) (x1 : Int32) (S : St) : Option (Int32) := bv (fun (v_1 : Int32) => some v_1) (fun J_2 => br ((gi S 60 g0 10) ≤ x1) (J_2 0) (ck (inb x1 400 = true) (J_2 (gi S 66 g0 (nn x1)))))
set_option maxRecDepth 100000 in
set_option maxHeartbeats 4000000 in
theorem b_X12_see (hc : Cx p s m args meth c cX12_see 2 "PumpCrossingModel" D cs B0 kt Lv) (hr : meth.sig.returnType = some .int)  {o : Int32}  {S : St} {g0 : Nat} {x1 : Int32} (hL0 : Lv 60 g0) {H : Heap} {locs : List Loc} {ls : Array Slot} (hf : f_X12_see g0 x1 S = some o) (hd : Dy s D cs B0 α Lv S H locs) (hl : lv_has ls 2 [(0, .ref (α 60 g0)), (1, .int x1)]) : W p l e (Rm 0 0 0) s m args below meth c H locs 0 0 (MQ below (Qi D cs B0 α Lv o S) args s 0 0 (AB B0)) (F0 m 0 ls []) := by
  unfold f_X12_see at hf
  refine lv_iload_n hc.x hc.b dX12_see_0 rfl (lv_at hl 1 rfl) ?_
  refine lv_aload_n hc.x hc.b dX12_see_1 rfl (lv_at hl 0 rfl) ?_
  refine fg_60_10 hc hd hL0 tw_1319 dX12_see_2 ?_
  refine jn_s (P := fun J_2 => ∀ (v_1 : Int32) (H : Heap) (locs : List Loc) (ls : Array Slot), J_2 v_1 = some o → Dy s D cs B0 α Lv S H locs → lv_has ls 2 [] → W p l e (Rm 0 0 0) s m args below meth c H locs 0 0 (MQ below (Qi D cs B0 α Lv o S) args s 0 0 (AB B0)) (F0 m 18 ls [.int v_1])) hf ?_ (fun J_2 hJ_2 hf => ?_)
  · intro v_1 H locs ls hf hd hl
    cases hf
    exact r_iret hc hd hr dX12_see_18
  refine lv_icmp_ge (tgt := 17) hc.x hc.b dX12_see_5 (by decide) (fun c_3 => ?_) (fun c_3 => ?_)
  · have hf := br_y c_3 hf
    refine lv_iconst (v := 0) hc.x hc.b dX12_see_17 (by decide) ?_
    exact hJ_2 0 _ _ _ hf hd (lv_sub hl [] rfl)
  · have hf := br_n c_3 hf
    refine lv_aload_n hc.x hc.b dX12_see_8 rfl (lv_at hl 0 rfl) ?_
    refine fg_60_6 hc hd hL0 tw_1315 dX12_see_9 ?_
    refine lv_iload_n hc.x hc.b dX12_see_12 rfl (lv_at hl 1 rfl) ?_
    obtain ⟨hi_4, hf⟩ := ck_s hf
    refine r_iald hc hd (cl_60_tape hc.cl hL0) rfl hi_4 dX12_see_13 ?_
    refine lv_goto (tgt := 18) hc.x hc.b dX12_see_14 (by decide) ?_
    exact hJ_2 (gi S 66 g0 (nn x1)) _ _ _ hf hd (lv_sub hl [] rfl)
theorem c_X12_see (l : Launch) (D : va_G) (cs : Nat → ClassId) (B0 : Nat) (kt : (Nat → Nat) × (Nat → Nat)) (α : Nat → Nat → Nat) (Lv : Nat → Nat → Prop) (S : St) (g0 : Nat) (x1 : Int32) (hcl : Cl Lv) (hL0 : Lv 60 g0) {o : Int32} (hf : f_X12_see g0 x1 S = some o) : Met l yX12_see (wz yX12_see cX12_see 2 (some .int)) (Rm 0 0 0) (Pz D cs B0 kt α Lv S [.ref (α 60 g0), .int x1]) (Qi D cs B0 α Lv o S) 0 0 (AB B0) := met_of (by decide) rfl hcl (Nat.le_of_ble_eq_true rfl) (fun p e s m below meth c hc hr hd ls hl => b_X12_see hc hr hL0 hf hd hl)
theorem my_X12_see : MyV yX12_see "PumpCrossingModel" cX12_see 2 (some .int) 1 := ⟨tw_1490, (in_sel 40 (by decide +kernel) (by decide +kernel)), tw_11, tw_1491, by decide +kernel⟩
def f_X12_next_0 (g0 : Nat) (K : St → Option (St)) : Nat → St → Option (St)
  | 0, _ => none
  | n + 1, S => br ((gi S 60 g0 10) ≤ (gi S 60 g0 11)) (K S) (ck (inb (gi S 60 g0 11) 400 = true) (bv (fun  (S_3 : St) => bv (si S_3 60 g0 11 ((gi S_3 60 g0 11) + 1)) (fun S_5 => f_X12_next_0 g0 K n S_5)) (fun J_4 => br ((gi S 66 g0 (nn (gi S 60 g0 11))) = 32) (J_4 S) (ck (inb (gi S 60 g0 11) 400 = true) (br ((gi S 66 g0 (nn (gi S 60 g0 11))) = 10) (J_4 S) (K S))))))
def f_X12_next_146 (g0 : Nat) (K : St → Option (St)) : Nat → St → Option (St)
  | 0, _ => none
  | n + 1, S => on (f_X12_see g0 (gi S 60 g0 11) S) (fun r_38 => on (f_X12_isDigit r_38 S) (fun r_40 => br (r_40 = 0) (K S) (bv (fun (v_42 : Int32) (S_43 : St) => bv (si S_43 60 g0 14 v_42) (fun S_45 => bv (si S_45 60 g0 11 ((gi S_45 60 g0 11) + 1)) (fun S_46 => f_X12_next_146 g0 K n S_46))) (fun J_44 => br (2 ≤ ((gi S 60 g0 11) - (gi S 60 g0 12))) (J_44 (gi S 60 g0 14) S) (ck (inb (gi S 60 g0 11) 400 = true) (J_44 (((10 * (gi S 60 g0 14)) + (gi S 66 g0 (nn (gi S 60 g0 11)))) - 48) S))))))
def f_X12_next_99 (g0 : Nat) (K : St → Option (St)) : Nat → St → Option (St)
  | 0, _ => none
  | n + 1, S => on (f_X12_see g0 (gi S 60 g0 11) S) (fun r_56 => on (f_X12_isLetter r_56 S) (fun r_58 => br (r_58 = 0) (K S) (bv (si S 60 g0 11 ((gi S 60 g0 11) + 1)) (fun S_60 => f_X12_next_99 g0 K n S_60))))
def f_X12_next (g0 : Nat) (S : St) : Option (St) := f_X12_next_0 g0 (fun  (S_9 : St) => bv (si S_9 60 g0 12 (gi S_9 60 g0 11)) (fun S_10 => bv (si S_10 60 g0 15 0) (fun S_11 => br ((gi S_11 60 g0 11) < (gi S_11 60 g0 10)) (ck (inb (gi S_11 60 g0 11) 400 = true) (bv (gi S_11 66 g0 (nn (gi S_11 60 g0 11))) (fun x1_14 => on (f_X12_isLetter x1_14 S_11) (fun r_16 => bv (fun  (S_17 : St) => some S_17) (fun J_18 => br (r_16 = 0) (on (f_X12_isDigit x1_14 S_11) (fun r_21 => br (r_21 = 0) (on (f_X12_isSign x1_14 S_11) (fun r_24 => bv (fun (v_25 : Int32) (S_26 : St) => bv (si S_26 60 g0 13 v_25) (fun S_28 => bv (fun (v_29 : Int32) (S_30 : St) => bv (si S_30 60 g0 15 v_29) (fun S_32 => bv (si S_32 60 g0 11 ((gi S_32 60 g0 11) + 1)) (fun S_33 => J_18 S_33))) (fun J_31 => br ((gi S_28 60 g0 13) = 3) (J_31 x1_14 S_28) (J_31 0 S_28)))) (fun J_27 => br (r_24 = 0) (J_27 4 S_11) (J_27 3 S_11)))) (bv (si S_11 60 g0 14 0) (fun S_36 => f_X12_next_146 g0 (fun  (S_49 : St) => bv (fun (v_50 : Int32) (S_51 : St) => bv (si S_51 60 g0 13 v_50) (fun S_53 => J_18 S_53)) (fun J_52 => br (((gi S_49 60 g0 11) - (gi S_49 60 g0 12)) ≤ 2) (J_52 2 S_49) (J_52 4 S_49))) FU  S_36)))) (f_X12_next_99 g0 (fun  (S_61 : St) => bv (si S_61 60 g0 13 1) (fun S_62 => J_18 S_62)) FU  S_11)))))) (bv (si S_11 60 g0 13 0) (fun S_63 => some S_63))))) FU  S
set_option maxRecDepth 100000 in
set_option maxHeartbeats 4000000 in
theorem w_X12_next_0 (hc : Cx p s m args meth c cX12_next 2 "PumpCrossingModel" D cs B0 kt Lv) (hr : meth.sig.returnType = none) {o : St}  {g0 : Nat} {K : St → Option (St)} (hL0 : Lv 60 g0) (hK : ∀  (S : St) (H : Heap) (locs : List Loc) (ls : Array Slot), K S = some o → Dy s D cs B0 α Lv S H locs → lv_has ls 2 [(0, .ref (α 60 g0))] → W p l e (Rm 1 0 0) s m args below meth c H locs 0 0 (MQ below (Qv D cs B0 α Lv o) args s 0 0 (AB B0)) (F0 m 52 ls [])) : ∀ (n : Nat)  (S : St) (H : Heap) (locs : List Loc) (ls : Array Slot), f_X12_next_0 g0 K n S = some o → Dy s D cs B0 α Lv S H locs → lv_has ls 2 [(0, .ref (α 60 g0))] → W p l e (Rm 1 0 0) s m args below meth c H locs 0 0 (MQ below (Qv D cs B0 α Lv o) args s 0 0 (AB B0)) (F0 m 0 ls []) := by
  intro n
  induction n with
  | zero =>
    intro S H locs ls hf
    rw [f_X12_next_0] at hf
    cases hf
  | succ n ih =>
    intro S H locs ls hf hd hl
    rw [f_X12_next_0] at hf
    refine lv_aload_n hc.x hc.b dX12_next_0 rfl (lv_at hl 0 rfl) ?_
    refine fg_60_11 hc hd hL0 tw_1320 dX12_next_1 ?_
    refine lv_aload_n hc.x hc.b dX12_next_4 rfl (lv_at hl 0 rfl) ?_
    refine fg_60_10 hc hd hL0 tw_1319 dX12_next_5 ?_
    refine lv_icmp_ge (tgt := 52) hc.x hc.b dX12_next_8 (by decide) (fun c_1 => ?_) (fun c_1 => ?_)
    · have hf := br_y c_1 hf
      exact hK S _ _ _ hf hd (lv_sub hl [0] rfl)
    · have hf := br_n c_1 hf
      refine lv_aload_n hc.x hc.b dX12_next_11 rfl (lv_at hl 0 rfl) ?_
      refine fg_60_6 hc hd hL0 tw_1315 dX12_next_12 ?_
      refine lv_aload_n hc.x hc.b dX12_next_15 rfl (lv_at hl 0 rfl) ?_
      refine fg_60_11 hc hd hL0 tw_1320 dX12_next_16 ?_
      obtain ⟨hi_2, hf⟩ := ck_s hf
      refine r_iald hc hd (cl_60_tape hc.cl hL0) rfl hi_2 dX12_next_19 ?_
      refine lv_bipush (v := 32) hc.x hc.b dX12_next_20 (by decide) ?_
      refine jn_s (P := fun J_4 => ∀  (S_3 : St) (H : Heap) (locs : List Loc) (ls : Array Slot), J_4 S_3 = some o → Dy s D cs B0 α Lv S_3 H locs → lv_has ls 2 [(0, .ref (α 60 g0))] → W p l e (Rm 1 0 0) s m args below meth c H locs 0 0 (MQ below (Qv D cs B0 α Lv o) args s 0 0 (AB B0)) (F0 m 39 ls [])) hf ?_ (fun J_4 hJ_4 hf => ?_)
      · intro S_3 H locs ls hf hd hl
        refine lv_aload_n hc.x hc.b dX12_next_39 rfl (lv_at hl 0 rfl) ?_
        refine lv_dup hc.x hc.b dX12_next_40 rfl ?_
        refine fg_60_11 hc hd hL0 tw_1320 dX12_next_41 ?_
        refine lv_iconst (v := 1) hc.x hc.b dX12_next_44 (by decide) ?_
        refine lv_iadd hc.x hc.b dX12_next_45 ?_
        refine fp_60_11 hc hd hL0 tw_1320 dX12_next_46 (fun H locs hd => ?_)
        obtain ⟨S_5, hd, hf⟩ := nmD hd hf
        refine lv_goto (tgt := 0) hc.x hc.b dX12_next_49 (by decide) ?_
        exact ih S_5 _ _ _ hf hd (lv_sub hl [0] rfl)
      refine lv_icmp_eq (tgt := 39) hc.x hc.b dX12_next_22 (by decide) (fun c_6 => ?_) (fun c_6 => ?_)
      · have hf := br_y c_6 hf
        exact hJ_4 S _ _ _ hf hd (lv_sub hl [0] rfl)
      · have hf := br_n c_6 hf
        refine lv_aload_n hc.x hc.b dX12_next_25 rfl (lv_at hl 0 rfl) ?_
        refine fg_60_6 hc hd hL0 tw_1315 dX12_next_26 ?_
        refine lv_aload_n hc.x hc.b dX12_next_29 rfl (lv_at hl 0 rfl) ?_
        refine fg_60_11 hc hd hL0 tw_1320 dX12_next_30 ?_
        obtain ⟨hi_7, hf⟩ := ck_s hf
        refine r_iald hc hd (cl_60_tape hc.cl hL0) rfl hi_7 dX12_next_33 ?_
        refine lv_bipush (v := 10) hc.x hc.b dX12_next_34 (by decide) ?_
        refine lv_icmp_ne (tgt := 52) hc.x hc.b dX12_next_36 (by decide) (fun c_8 => ?_) (fun c_8 => ?_)
        · have hf := br_n c_8 hf
          exact hK S _ _ _ hf hd (lv_sub hl [0] rfl)
        · have hf := br_y c_8 hf
          exact hJ_4 S _ _ _ hf hd (lv_sub hl [0] rfl)
set_option maxRecDepth 100000 in
set_option maxHeartbeats 4000000 in
theorem w_X12_next_146 (hc : Cx p s m args meth c cX12_next 2 "PumpCrossingModel" D cs B0 kt Lv) (hr : meth.sig.returnType = none) {o : St}  {g0 : Nat} {K : St → Option (St)} (hL0 : Lv 60 g0) (hK : ∀  (S : St) (H : Heap) (locs : List Loc) (ls : Array Slot), K S = some o → Dy s D cs B0 α Lv S H locs → lv_has ls 2 [(0, .ref (α 60 g0))] → W p l e (Rm 1 0 0) s m args below meth c H locs 0 0 (MQ below (Qv D cs B0 α Lv o) args s 0 0 (AB B0)) (F0 m 217 ls [])) : ∀ (n : Nat)  (S : St) (H : Heap) (locs : List Loc) (ls : Array Slot), f_X12_next_146 g0 K n S = some o → Dy s D cs B0 α Lv S H locs → lv_has ls 2 [(0, .ref (α 60 g0))] → W p l e (Rm 1 0 0) s m args below meth c H locs 0 0 (MQ below (Qv D cs B0 α Lv o) args s 0 0 (AB B0)) (F0 m 146 ls []) := by
  intro n
  induction n with
  | zero =>
    intro S H locs ls hf
    rw [f_X12_next_146] at hf
    cases hf
  | succ n ih =>
    intro S H locs ls hf hd hl
    rw [f_X12_next_146] at hf
    refine lv_aload_n hc.x hc.b dX12_next_146 rfl (lv_at hl 0 rfl) ?_
    refine lv_aload_n hc.x hc.b dX12_next_147 rfl (lv_at hl 0 rfl) ?_
    refine fg_60_11 hc hd hL0 tw_1320 dX12_next_148 ?_
    obtain ⟨r_38, hq_37, hf⟩ := on_s hf
    refine k_i (k_runV hc hd my_X12_see tw_1488 hL0 rfl rfl rfl (c_X12_see l D cs B0 kt α Lv S g0 (gi S 60 g0 11) hc.cl hL0  hq_37) rfl rfl hl.1 (Nat.le_of_ble_eq_true rfl) ⟨Nat.le_of_ble_eq_true rfl, Nat.le_of_ble_eq_true rfl, Nat.zero_le _, Nat.zero_le _⟩ dX12_next_151) hd (fun H locs hd => ?_)
    obtain ⟨r_40, hq_39, hf⟩ := on_s hf
    refine k_i (k_runS hc hd my_X12_isDigit tw_1492 (c_X12_isDigit l D cs B0 kt α Lv S r_38 hc.cl   hq_39) rfl rfl hl.1 (Nat.le_of_ble_eq_true rfl) ⟨Nat.le_of_ble_eq_true rfl, Nat.le_of_ble_eq_true rfl, Nat.zero_le _, Nat.zero_le _⟩ dX12_next_154) hd (fun H locs hd => ?_)
    refine lv_if_eq (tgt := 217) hc.x hc.b dX12_next_157 (by decide) (fun c_41 => ?_) (fun c_41 => ?_)
    · have hf := br_y c_41 hf
      exact hK S _ _ _ hf hd (lv_sub hl [0] rfl)
    · have hf := br_n c_41 hf
      refine lv_aload_n hc.x hc.b dX12_next_160 rfl (lv_at hl 0 rfl) ?_
      refine lv_aload_n hc.x hc.b dX12_next_161 rfl (lv_at hl 0 rfl) ?_
      refine fg_60_11 hc hd hL0 tw_1320 dX12_next_162 ?_
      refine lv_aload_n hc.x hc.b dX12_next_165 rfl (lv_at hl 0 rfl) ?_
      refine fg_60_12 hc hd hL0 tw_1321 dX12_next_166 ?_
      refine lv_isub hc.x hc.b dX12_next_169 ?_
      refine lv_iconst (v := 2) hc.x hc.b dX12_next_170 (by decide) ?_
      refine jn_s (P := fun J_44 => ∀ (v_42 : Int32) (S_43 : St) (H : Heap) (locs : List Loc) (ls : Array Slot), J_44 v_42 S_43 = some o → Dy s D cs B0 α Lv S_43 H locs → lv_has ls 2 [(0, .ref (α 60 g0))] → W p l e (Rm 1 0 0) s m args below meth c H locs 0 0 (MQ below (Qv D cs B0 α Lv o) args s 0 0 (AB B0)) (F0 m 201 ls [.int v_42, .ref (α 60 g0)])) hf ?_ (fun J_44 hJ_44 hf => ?_)
      · intro v_42 S_43 H locs ls hf hd hl
        refine fp_60_14 hc hd hL0 tw_1323 dX12_next_201 (fun H locs hd => ?_)
        obtain ⟨S_45, hd, hf⟩ := nmD hd hf
        refine lv_aload_n hc.x hc.b dX12_next_204 rfl (lv_at hl 0 rfl) ?_
        refine lv_dup hc.x hc.b dX12_next_205 rfl ?_
        refine fg_60_11 hc hd hL0 tw_1320 dX12_next_206 ?_
        refine lv_iconst (v := 1) hc.x hc.b dX12_next_209 (by decide) ?_
        refine lv_iadd hc.x hc.b dX12_next_210 ?_
        refine fp_60_11 hc hd hL0 tw_1320 dX12_next_211 (fun H locs hd => ?_)
        obtain ⟨S_46, hd, hf⟩ := nmD hd hf
        refine lv_goto (tgt := 146) hc.x hc.b dX12_next_214 (by decide) ?_
        exact ih S_46 _ _ _ hf hd (lv_sub hl [0] rfl)
      refine lv_icmp_ge (tgt := 197) hc.x hc.b dX12_next_171 (by decide) (fun c_47 => ?_) (fun c_47 => ?_)
      · have hf := br_y c_47 hf
        refine lv_aload_n hc.x hc.b dX12_next_197 rfl (lv_at hl 0 rfl) ?_
        refine fg_60_14 hc hd hL0 tw_1323 dX12_next_198 ?_
        exact hJ_44 (gi S 60 g0 14) S _ _ _ hf hd (lv_sub hl [0] rfl)
      · have hf := br_n c_47 hf
        refine lv_bipush (v := 10) hc.x hc.b dX12_next_174 (by decide) ?_
        refine lv_aload_n hc.x hc.b dX12_next_176 rfl (lv_at hl 0 rfl) ?_
        refine fg_60_14 hc hd hL0 tw_1323 dX12_next_177 ?_
        refine lv_imul hc.x hc.b dX12_next_180 ?_
        refine lv_aload_n hc.x hc.b dX12_next_181 rfl (lv_at hl 0 rfl) ?_
        refine fg_60_6 hc hd hL0 tw_1315 dX12_next_182 ?_
        refine lv_aload_n hc.x hc.b dX12_next_185 rfl (lv_at hl 0 rfl) ?_
        refine fg_60_11 hc hd hL0 tw_1320 dX12_next_186 ?_
        obtain ⟨hi_48, hf⟩ := ck_s hf
        refine r_iald hc hd (cl_60_tape hc.cl hL0) rfl hi_48 dX12_next_189 ?_
        refine lv_iadd hc.x hc.b dX12_next_190 ?_
        refine lv_bipush (v := 48) hc.x hc.b dX12_next_191 (by decide) ?_
        refine lv_isub hc.x hc.b dX12_next_193 ?_
        refine lv_goto (tgt := 201) hc.x hc.b dX12_next_194 (by decide) ?_
        exact hJ_44 (((10 * (gi S 60 g0 14)) + (gi S 66 g0 (nn (gi S 60 g0 11)))) - 48) S _ _ _ hf hd (lv_sub hl [0] rfl)
set_option maxRecDepth 100000 in
set_option maxHeartbeats 4000000 in
theorem w_X12_next_99 (hc : Cx p s m args meth c cX12_next 2 "PumpCrossingModel" D cs B0 kt Lv) (hr : meth.sig.returnType = none) {o : St}  {g0 : Nat} {K : St → Option (St)} (hL0 : Lv 60 g0) (hK : ∀  (S : St) (H : Heap) (locs : List Loc) (ls : Array Slot), K S = some o → Dy s D cs B0 α Lv S H locs → lv_has ls 2 [(0, .ref (α 60 g0))] → W p l e (Rm 1 0 0) s m args below meth c H locs 0 0 (MQ below (Qv D cs B0 α Lv o) args s 0 0 (AB B0)) (F0 m 126 ls [])) : ∀ (n : Nat)  (S : St) (H : Heap) (locs : List Loc) (ls : Array Slot), f_X12_next_99 g0 K n S = some o → Dy s D cs B0 α Lv S H locs → lv_has ls 2 [(0, .ref (α 60 g0))] → W p l e (Rm 1 0 0) s m args below meth c H locs 0 0 (MQ below (Qv D cs B0 α Lv o) args s 0 0 (AB B0)) (F0 m 99 ls []) := by
  intro n
  induction n with
  | zero =>
    intro S H locs ls hf
    rw [f_X12_next_99] at hf
    cases hf
  | succ n ih =>
    intro S H locs ls hf hd hl
    rw [f_X12_next_99] at hf
    refine lv_aload_n hc.x hc.b dX12_next_99 rfl (lv_at hl 0 rfl) ?_
    refine lv_aload_n hc.x hc.b dX12_next_100 rfl (lv_at hl 0 rfl) ?_
    refine fg_60_11 hc hd hL0 tw_1320 dX12_next_101 ?_
    obtain ⟨r_56, hq_55, hf⟩ := on_s hf
    refine k_i (k_runV hc hd my_X12_see tw_1488 hL0 rfl rfl rfl (c_X12_see l D cs B0 kt α Lv S g0 (gi S 60 g0 11) hc.cl hL0  hq_55) rfl rfl hl.1 (Nat.le_of_ble_eq_true rfl) ⟨Nat.le_of_ble_eq_true rfl, Nat.le_of_ble_eq_true rfl, Nat.zero_le _, Nat.zero_le _⟩ dX12_next_104) hd (fun H locs hd => ?_)
    obtain ⟨r_58, hq_57, hf⟩ := on_s hf
    refine k_i (k_runS hc hd my_X12_isLetter tw_1485 (c_X12_isLetter l D cs B0 kt α Lv S r_56 hc.cl   hq_57) rfl rfl hl.1 (Nat.le_of_ble_eq_true rfl) ⟨Nat.le_of_ble_eq_true rfl, Nat.le_of_ble_eq_true rfl, Nat.zero_le _, Nat.zero_le _⟩ dX12_next_107) hd (fun H locs hd => ?_)
    refine lv_if_eq (tgt := 126) hc.x hc.b dX12_next_110 (by decide) (fun c_59 => ?_) (fun c_59 => ?_)
    · have hf := br_y c_59 hf
      exact hK S _ _ _ hf hd (lv_sub hl [0] rfl)
    · have hf := br_n c_59 hf
      refine lv_aload_n hc.x hc.b dX12_next_113 rfl (lv_at hl 0 rfl) ?_
      refine lv_dup hc.x hc.b dX12_next_114 rfl ?_
      refine fg_60_11 hc hd hL0 tw_1320 dX12_next_115 ?_
      refine lv_iconst (v := 1) hc.x hc.b dX12_next_118 (by decide) ?_
      refine lv_iadd hc.x hc.b dX12_next_119 ?_
      refine fp_60_11 hc hd hL0 tw_1320 dX12_next_120 (fun H locs hd => ?_)
      obtain ⟨S_60, hd, hf⟩ := nmD hd hf
      refine lv_goto (tgt := 99) hc.x hc.b dX12_next_123 (by decide) ?_
      exact ih S_60 _ _ _ hf hd (lv_sub hl [0] rfl)
set_option maxRecDepth 100000 in
set_option maxHeartbeats 4000000 in
theorem b_X12_next (hc : Cx p s m args meth c cX12_next 2 "PumpCrossingModel" D cs B0 kt Lv) (hr : meth.sig.returnType = none)  {o : St}  {S : St} {g0 : Nat} (hL0 : Lv 60 g0) {H : Heap} {locs : List Loc} {ls : Array Slot} (hf : f_X12_next g0 S = some o) (hd : Dy s D cs B0 α Lv S H locs) (hl : lv_has ls 2 [(0, .ref (α 60 g0))]) : W p l e (Rm 1 0 0) s m args below meth c H locs 0 0 (MQ below (Qv D cs B0 α Lv o) args s 0 0 (AB B0)) (F0 m 0 ls []) := by
  unfold f_X12_next at hf
  refine w_X12_next_0 hc hr hL0 ?_ _ _ _ _ _ hf hd (lv_sub hl [0] rfl)
  intro S_9 H locs ls hf hd hl
  refine lv_aload_n hc.x hc.b dX12_next_52 rfl (lv_at hl 0 rfl) ?_
  refine lv_aload_n hc.x hc.b dX12_next_53 rfl (lv_at hl 0 rfl) ?_
  refine fg_60_11 hc hd hL0 tw_1320 dX12_next_54 ?_
  refine fp_60_12 hc hd hL0 tw_1321 dX12_next_57 (fun H locs hd => ?_)
  obtain ⟨S_10, hd, hf⟩ := nmD hd hf
  refine lv_aload_n hc.x hc.b dX12_next_60 rfl (lv_at hl 0 rfl) ?_
  refine lv_iconst (v := 0) hc.x hc.b dX12_next_61 (by decide) ?_
  refine fp_60_15 hc hd hL0 tw_1324 dX12_next_62 (fun H locs hd => ?_)
  obtain ⟨S_11, hd, hf⟩ := nmD hd hf
  refine lv_aload_n hc.x hc.b dX12_next_65 rfl (lv_at hl 0 rfl) ?_
  refine fg_60_11 hc hd hL0 tw_1320 dX12_next_66 ?_
  refine lv_aload_n hc.x hc.b dX12_next_69 rfl (lv_at hl 0 rfl) ?_
  refine fg_60_10 hc hd hL0 tw_1319 dX12_next_70 ?_
  refine lv_icmp_lt (tgt := 82) hc.x hc.b dX12_next_73 (by decide) (fun c_12 => ?_) (fun c_12 => ?_)
  · have hf := br_y c_12 hf
    refine lv_aload_n hc.x hc.b dX12_next_82 rfl (lv_at hl 0 rfl) ?_
    refine fg_60_6 hc hd hL0 tw_1315 dX12_next_83 ?_
    refine lv_aload_n hc.x hc.b dX12_next_86 rfl (lv_at hl 0 rfl) ?_
    refine fg_60_11 hc hd hL0 tw_1320 dX12_next_87 ?_
    obtain ⟨hi_13, hf⟩ := ck_s hf
    refine r_iald hc hd (cl_60_tape hc.cl hL0) rfl hi_13 dX12_next_90 ?_
    refine lv_topi (fun x1_14 ex1_14 => ?_)
    have hf := bv_n ex1_14 hf
    refine lv_istore_n (lv' := [(1, .int x1_14), (0, .ref (α 60 g0))]) hc.x hc.b dX12_next_91 rfl hl (by decide) rfl (fun ls hl => ?_)
    refine lv_iload_n hc.x hc.b dX12_next_92 rfl (lv_at hl 0 rfl) ?_
    obtain ⟨r_16, hq_15, hf⟩ := on_s hf
    refine k_i (k_runS hc hd my_X12_isLetter tw_1485 (c_X12_isLetter l D cs B0 kt α Lv S_11 x1_14 hc.cl   hq_15) rfl rfl hl.1 (Nat.le_of_ble_eq_true rfl) ⟨Nat.le_of_ble_eq_true rfl, Nat.le_of_ble_eq_true rfl, Nat.zero_le _, Nat.zero_le _⟩ dX12_next_93) hd (fun H locs hd => ?_)
    refine jn_s (P := fun J_18 => ∀  (S_17 : St) (H : Heap) (locs : List Loc) (ls : Array Slot), J_18 S_17 = some o → Dy s D cs B0 α Lv S_17 H locs → lv_has ls 2 [] → W p l e (Rm 1 0 0) s m args below meth c H locs 0 0 (MQ below (Qv D cs B0 α Lv o) args s 0 0 (AB B0)) (F0 m 285 ls [])) hf ?_ (fun J_18 hJ_18 hf => ?_)
    · intro S_17 H locs ls hf hd hl
      cases hf
      exact r_vret hc hd hr dX12_next_285
    refine lv_if_eq (tgt := 134) hc.x hc.b dX12_next_96 (by decide) (fun c_19 => ?_) (fun c_19 => ?_)
    · have hf := br_y c_19 hf
      refine lv_iload_n hc.x hc.b dX12_next_134 rfl (lv_at hl 0 rfl) ?_
      obtain ⟨r_21, hq_20, hf⟩ := on_s hf
      refine k_i (k_runS hc hd my_X12_isDigit tw_1492 (c_X12_isDigit l D cs B0 kt α Lv S_11 x1_14 hc.cl   hq_20) rfl rfl hl.1 (Nat.le_of_ble_eq_true rfl) ⟨Nat.le_of_ble_eq_true rfl, Nat.le_of_ble_eq_true rfl, Nat.zero_le _, Nat.zero_le _⟩ dX12_next_135) hd (fun H locs hd => ?_)
      refine lv_if_eq (tgt := 242) hc.x hc.b dX12_next_138 (by decide) (fun c_22 => ?_) (fun c_22 => ?_)
      · have hf := br_y c_22 hf
        refine lv_aload_n hc.x hc.b dX12_next_242 rfl (lv_at hl 1 rfl) ?_
        refine lv_iload_n hc.x hc.b dX12_next_243 rfl (lv_at hl 0 rfl) ?_
        obtain ⟨r_24, hq_23, hf⟩ := on_s hf
        refine k_i (k_runS hc hd my_X12_isSign tw_1495 (c_X12_isSign l D cs B0 kt α Lv S_11 x1_14 hc.cl   hq_23) rfl rfl hl.1 (Nat.le_of_ble_eq_true rfl) ⟨Nat.le_of_ble_eq_true rfl, Nat.le_of_ble_eq_true rfl, Nat.zero_le _, Nat.zero_le _⟩ dX12_next_244) hd (fun H locs hd => ?_)
        refine jn_s (P := fun J_27 => ∀ (v_25 : Int32) (S_26 : St) (H : Heap) (locs : List Loc) (ls : Array Slot), J_27 v_25 S_26 = some o → Dy s D cs B0 α Lv S_26 H locs → lv_has ls 2 [(0, .ref (α 60 g0)), (1, .int x1_14)] → W p l e (Rm 1 0 0) s m args below meth c H locs 0 0 (MQ below (Qv D cs B0 α Lv o) args s 0 0 (AB B0)) (F0 m 255 ls [.int v_25, .ref (α 60 g0)])) hf ?_ (fun J_27 hJ_27 hf => ?_)
        · intro v_25 S_26 H locs ls hf hd hl
          refine fp_60_13 hc hd hL0 tw_1322 dX12_next_255 (fun H locs hd => ?_)
          obtain ⟨S_28, hd, hf⟩ := nmD hd hf
          refine lv_aload_n hc.x hc.b dX12_next_258 rfl (lv_at hl 0 rfl) ?_
          refine lv_aload_n hc.x hc.b dX12_next_259 rfl (lv_at hl 0 rfl) ?_
          refine fg_60_13 hc hd hL0 tw_1322 dX12_next_260 ?_
          refine lv_iconst (v := 3) hc.x hc.b dX12_next_263 (by decide) ?_
          refine jn_s (P := fun J_31 => ∀ (v_29 : Int32) (S_30 : St) (H : Heap) (locs : List Loc) (ls : Array Slot), J_31 v_29 S_30 = some o → Dy s D cs B0 α Lv S_30 H locs → lv_has ls 2 [(0, .ref (α 60 g0))] → W p l e (Rm 1 0 0) s m args below meth c H locs 0 0 (MQ below (Qv D cs B0 α Lv o) args s 0 0 (AB B0)) (F0 m 272 ls [.int v_29, .ref (α 60 g0)])) hf ?_ (fun J_31 hJ_31 hf => ?_)
          · intro v_29 S_30 H locs ls hf hd hl
            refine fp_60_15 hc hd hL0 tw_1324 dX12_next_272 (fun H locs hd => ?_)
            obtain ⟨S_32, hd, hf⟩ := nmD hd hf
            refine lv_aload_n hc.x hc.b dX12_next_275 rfl (lv_at hl 0 rfl) ?_
            refine lv_dup hc.x hc.b dX12_next_276 rfl ?_
            refine fg_60_11 hc hd hL0 tw_1320 dX12_next_277 ?_
            refine lv_iconst (v := 1) hc.x hc.b dX12_next_280 (by decide) ?_
            refine lv_iadd hc.x hc.b dX12_next_281 ?_
            refine fp_60_11 hc hd hL0 tw_1320 dX12_next_282 (fun H locs hd => ?_)
            obtain ⟨S_33, hd, hf⟩ := nmD hd hf
            exact hJ_18 S_33 _ _ _ hf hd (lv_sub hl [] rfl)
          refine lv_icmp_ne (tgt := 271) hc.x hc.b dX12_next_264 (by decide) (fun c_34 => ?_) (fun c_34 => ?_)
          · have hf := br_n c_34 hf
            refine lv_iconst (v := 0) hc.x hc.b dX12_next_271 (by decide) ?_
            exact hJ_31 0 S_28 _ _ _ hf hd (lv_sub hl [0] rfl)
          · have hf := br_y c_34 hf
            refine lv_iload_n hc.x hc.b dX12_next_267 rfl (lv_at hl 1 rfl) ?_
            refine lv_goto (tgt := 272) hc.x hc.b dX12_next_268 (by decide) ?_
            exact hJ_31 x1_14 S_28 _ _ _ hf hd (lv_sub hl [0] rfl)
        refine lv_if_eq (tgt := 254) hc.x hc.b dX12_next_247 (by decide) (fun c_35 => ?_) (fun c_35 => ?_)
        · have hf := br_y c_35 hf
          refine lv_iconst (v := 4) hc.x hc.b dX12_next_254 (by decide) ?_
          exact hJ_27 4 S_11 _ _ _ hf hd (lv_sub hl [1, 0] rfl)
        · have hf := br_n c_35 hf
          refine lv_iconst (v := 3) hc.x hc.b dX12_next_250 (by decide) ?_
          refine lv_goto (tgt := 255) hc.x hc.b dX12_next_251 (by decide) ?_
          exact hJ_27 3 S_11 _ _ _ hf hd (lv_sub hl [1, 0] rfl)
      · have hf := br_n c_22 hf
        refine lv_aload_n hc.x hc.b dX12_next_141 rfl (lv_at hl 1 rfl) ?_
        refine lv_iconst (v := 0) hc.x hc.b dX12_next_142 (by decide) ?_
        refine fp_60_14 hc hd hL0 tw_1323 dX12_next_143 (fun H locs hd => ?_)
        obtain ⟨S_36, hd, hf⟩ := nmD hd hf
        refine w_X12_next_146 hc hr hL0 ?_ _ _ _ _ _ hf hd (lv_sub hl [1] rfl)
        intro S_49 H locs ls hf hd hl
        refine lv_aload_n hc.x hc.b dX12_next_217 rfl (lv_at hl 0 rfl) ?_
        refine lv_aload_n hc.x hc.b dX12_next_218 rfl (lv_at hl 0 rfl) ?_
        refine fg_60_11 hc hd hL0 tw_1320 dX12_next_219 ?_
        refine lv_aload_n hc.x hc.b dX12_next_222 rfl (lv_at hl 0 rfl) ?_
        refine fg_60_12 hc hd hL0 tw_1321 dX12_next_223 ?_
        refine lv_isub hc.x hc.b dX12_next_226 ?_
        refine lv_iconst (v := 2) hc.x hc.b dX12_next_227 (by decide) ?_
        refine jn_s (P := fun J_52 => ∀ (v_50 : Int32) (S_51 : St) (H : Heap) (locs : List Loc) (ls : Array Slot), J_52 v_50 S_51 = some o → Dy s D cs B0 α Lv S_51 H locs → lv_has ls 2 [] → W p l e (Rm 1 0 0) s m args below meth c H locs 0 0 (MQ below (Qv D cs B0 α Lv o) args s 0 0 (AB B0)) (F0 m 236 ls [.int v_50, .ref (α 60 g0)])) hf ?_ (fun J_52 hJ_52 hf => ?_)
        · intro v_50 S_51 H locs ls hf hd hl
          refine fp_60_13 hc hd hL0 tw_1322 dX12_next_236 (fun H locs hd => ?_)
          obtain ⟨S_53, hd, hf⟩ := nmD hd hf
          refine lv_goto (tgt := 285) hc.x hc.b dX12_next_239 (by decide) ?_
          exact hJ_18 S_53 _ _ _ hf hd (lv_sub hl [] rfl)
        refine lv_icmp_le (tgt := 235) hc.x hc.b dX12_next_228 (by decide) (fun c_54 => ?_) (fun c_54 => ?_)
        · have hf := br_y c_54 hf
          refine lv_iconst (v := 2) hc.x hc.b dX12_next_235 (by decide) ?_
          exact hJ_52 2 S_49 _ _ _ hf hd (lv_sub hl [] rfl)
        · have hf := br_n c_54 hf
          refine lv_iconst (v := 4) hc.x hc.b dX12_next_231 (by decide) ?_
          refine lv_goto (tgt := 236) hc.x hc.b dX12_next_232 (by decide) ?_
          exact hJ_52 4 S_49 _ _ _ hf hd (lv_sub hl [] rfl)
    · have hf := br_n c_19 hf
      refine w_X12_next_99 hc hr hL0 ?_ _ _ _ _ _ hf hd (lv_sub hl [1] rfl)
      intro S_61 H locs ls hf hd hl
      refine lv_aload_n hc.x hc.b dX12_next_126 rfl (lv_at hl 0 rfl) ?_
      refine lv_iconst (v := 1) hc.x hc.b dX12_next_127 (by decide) ?_
      refine fp_60_13 hc hd hL0 tw_1322 dX12_next_128 (fun H locs hd => ?_)
      obtain ⟨S_62, hd, hf⟩ := nmD hd hf
      refine lv_goto (tgt := 285) hc.x hc.b dX12_next_131 (by decide) ?_
      exact hJ_18 S_62 _ _ _ hf hd (lv_sub hl [] rfl)
  · have hf := br_n c_12 hf
    refine lv_aload_n hc.x hc.b dX12_next_76 rfl (lv_at hl 0 rfl) ?_
    refine lv_iconst (v := 0) hc.x hc.b dX12_next_77 (by decide) ?_
    refine fp_60_13 hc hd hL0 tw_1322 dX12_next_78 (fun H locs hd => ?_)
    obtain ⟨S_63, hd, hf⟩ := nmD hd hf
    cases hf
    exact r_vret hc hd hr dX12_next_81
theorem c_X12_next (l : Launch) (D : va_G) (cs : Nat → ClassId) (B0 : Nat) (kt : (Nat → Nat) × (Nat → Nat)) (α : Nat → Nat → Nat) (Lv : Nat → Nat → Prop) (S : St) (g0 : Nat) (hcl : Cl Lv) (hL0 : Lv 60 g0) {o : St} (hf : f_X12_next g0 S = some o) : Met l yX12_next (wz yX12_next cX12_next 2 none) (Rm 1 0 0) (Pz D cs B0 kt α Lv S [.ref (α 60 g0)]) (Qv D cs B0 α Lv o) 0 0 (AB B0) := met_of (by decide) rfl hcl (Nat.le_of_ble_eq_true rfl) (fun p e s m below meth c hc hr hd ls hl => b_X12_next hc hr hL0 hf hd hl)
theorem my_X12_next : MyV yX12_next "PumpCrossingModel" cX12_next 2 none 0 := ⟨tw_1483, (in_sel 39 (by decide +kernel) (by decide +kernel)), tw_11, tw_1484, by decide +kernel⟩
def f_X12_number (g0 : Nat) (x1 : Int32) (x2 : Int32) (S : St) : Option (Int32 × St) := bv (fun  (S_1 : St) => bv (gi S_1 60 g0 14) (fun x3_3 => bv (fun  (S_4 : St) => some (x3_3, S_4)) (fun J_5 => br ((gi S_1 60 g0 16) = 0) (on (f_X12_next g0 S_1) (fun S_8 => J_5 S_8)) (J_5 S_1)))) (fun J_2 => br ((gi S 60 g0 13) = 2) (on (f_X12_within (Int32.toInt64 (gi S 60 g0 14)) (Int32.toInt64 x1) (Int32.toInt64 x2) S) (fun r_11 => br (r_11 = 0) (on (f_X12_blames g0 3 S) (fun S_14 => J_2 S_14)) (J_2 S))) (on (f_X12_blames g0 2 S) (fun S_16 => J_2 S_16)))
set_option maxRecDepth 100000 in
set_option maxHeartbeats 4000000 in
theorem b_X12_number (hc : Cx p s m args meth c cX12_number 4 "PumpCrossingModel" D cs B0 kt Lv) (hr : meth.sig.returnType = some .int)  {o : Int32 × St}  {S : St} {g0 : Nat} {x1 : Int32} {x2 : Int32} (hL0 : Lv 60 g0) {H : Heap} {locs : List Loc} {ls : Array Slot} (hf : f_X12_number g0 x1 x2 S = some o) (hd : Dy s D cs B0 α Lv S H locs) (hl : lv_has ls 4 [(0, .ref (α 60 g0)), (1, .int x1), (2, .int x2)]) : W p l e (Rm 2 0 0) s m args below meth c H locs 0 0 (MQ below (Qi D cs B0 α Lv o.1 o.2) args s 0 0 (AB B0)) (F0 m 0 ls []) := by
  unfold f_X12_number at hf
  refine lv_aload_n hc.x hc.b dX12_number_0 rfl (lv_at hl 0 rfl) ?_
  refine fg_60_13 hc hd hL0 tw_1322 dX12_number_1 ?_
  refine lv_iconst (v := 2) hc.x hc.b dX12_number_4 (by decide) ?_
  refine jn_s (P := fun J_2 => ∀  (S_1 : St) (H : Heap) (locs : List Loc) (ls : Array Slot), J_2 S_1 = some o → Dy s D cs B0 α Lv S_1 H locs → lv_has ls 4 [(0, .ref (α 60 g0))] → W p l e (Rm 2 0 0) s m args below meth c H locs 0 0 (MQ below (Qi D cs B0 α Lv o.1 o.2) args s 0 0 (AB B0)) (F0 m 36 ls [])) hf ?_ (fun J_2 hJ_2 hf => ?_)
  · intro S_1 H locs ls hf hd hl
    refine lv_aload_n hc.x hc.b dX12_number_36 rfl (lv_at hl 0 rfl) ?_
    refine fg_60_14 hc hd hL0 tw_1323 dX12_number_37 ?_
    refine lv_topi (fun x3_3 ex3_3 => ?_)
    have hf := bv_n ex3_3 hf
    refine lv_istore_n (lv' := [(3, .int x3_3), (0, .ref (α 60 g0))]) hc.x hc.b dX12_number_40 rfl hl (by decide) rfl (fun ls hl => ?_)
    refine lv_aload_n hc.x hc.b dX12_number_41 rfl (lv_at hl 1 rfl) ?_
    refine fg_60_16 hc hd hL0 tw_1325 dX12_number_42 ?_
    refine jn_s (P := fun J_5 => ∀  (S_4 : St) (H : Heap) (locs : List Loc) (ls : Array Slot), J_5 S_4 = some o → Dy s D cs B0 α Lv S_4 H locs → lv_has ls 4 [(3, .int x3_3)] → W p l e (Rm 2 0 0) s m args below meth c H locs 0 0 (MQ below (Qi D cs B0 α Lv o.1 o.2) args s 0 0 (AB B0)) (F0 m 52 ls [])) hf ?_ (fun J_5 hJ_5 hf => ?_)
    · intro S_4 H locs ls hf hd hl
      refine lv_iload_n hc.x hc.b dX12_number_52 rfl (lv_at hl 0 rfl) ?_
      cases hf
      exact r_iret hc hd hr dX12_number_53
    refine lv_if_ne (tgt := 52) hc.x hc.b dX12_number_45 (by decide) (fun c_6 => ?_) (fun c_6 => ?_)
    · have hf := br_n c_6 hf
      exact hJ_5 S_1 _ _ _ hf hd (lv_sub hl [0] rfl)
    · have hf := br_y c_6 hf
      refine lv_aload_n hc.x hc.b dX12_number_48 rfl (lv_at hl 1 rfl) ?_
      obtain ⟨S_8, hq_7, hf⟩ := on_s hf
      refine k_v (k_runV hc hd my_X12_next tw_1481 hL0 rfl rfl rfl (c_X12_next l D cs B0 kt α Lv S_1 g0 hc.cl hL0  hq_7) rfl rfl hl.1 (Nat.le_of_ble_eq_true rfl) ⟨Nat.le_of_ble_eq_true rfl, Nat.le_of_ble_eq_true rfl, Nat.zero_le _, Nat.zero_le _⟩ dX12_number_49) hd (fun H locs hd => ?_)
      exact hJ_5 S_8 _ _ _ hf hd (lv_sub hl [0] rfl)
  refine lv_icmp_eq (tgt := 16) hc.x hc.b dX12_number_5 (by decide) (fun c_9 => ?_) (fun c_9 => ?_)
  · have hf := br_y c_9 hf
    refine lv_aload_n hc.x hc.b dX12_number_16 rfl (lv_at hl 0 rfl) ?_
    refine fg_60_14 hc hd hL0 tw_1323 dX12_number_17 ?_
    refine lv_i2l (v := Int32.toInt64 (gi S 60 g0 14)) hc.x hc.b dX12_number_20 rfl ?_
    refine lv_iload_n hc.x hc.b dX12_number_21 rfl (lv_at hl 1 rfl) ?_
    refine lv_i2l (v := Int32.toInt64 x1) hc.x hc.b dX12_number_22 rfl ?_
    refine lv_iload_n hc.x hc.b dX12_number_23 rfl (lv_at hl 2 rfl) ?_
    refine lv_i2l (v := Int32.toInt64 x2) hc.x hc.b dX12_number_24 rfl ?_
    obtain ⟨r_11, hq_10, hf⟩ := on_s hf
    refine k_i (k_runS hc hd my_X12_within tw_1444 (c_X12_within l D cs B0 kt α Lv S (Int32.toInt64 (gi S 60 g0 14)) (Int32.toInt64 x1) (Int32.toInt64 x2) hc.cl   hq_10) rfl rfl hl.1 (Nat.le_of_ble_eq_true rfl) ⟨Nat.le_of_ble_eq_true rfl, Nat.le_of_ble_eq_true rfl, Nat.zero_le _, Nat.zero_le _⟩ dX12_number_25) hd (fun H locs hd => ?_)
    refine lv_if_ne (tgt := 36) hc.x hc.b dX12_number_28 (by decide) (fun c_12 => ?_) (fun c_12 => ?_)
    · have hf := br_n c_12 hf
      exact hJ_2 S _ _ _ hf hd (lv_sub hl [0] rfl)
    · have hf := br_y c_12 hf
      refine lv_aload_n hc.x hc.b dX12_number_31 rfl (lv_at hl 0 rfl) ?_
      refine lv_iconst (v := 3) hc.x hc.b dX12_number_32 (by decide) ?_
      obtain ⟨S_14, hq_13, hf⟩ := on_s hf
      refine k_v (k_runV hc hd my_X12_blames tw_1518 hL0 rfl rfl rfl (c_X12_blames l D cs B0 kt α Lv S g0 3 hc.cl hL0  hq_13) rfl rfl hl.1 (Nat.le_of_ble_eq_true rfl) ⟨Nat.le_of_ble_eq_true rfl, Nat.le_of_ble_eq_true rfl, Nat.zero_le _, Nat.zero_le _⟩ dX12_number_33) hd (fun H locs hd => ?_)
      exact hJ_2 S_14 _ _ _ hf hd (lv_sub hl [0] rfl)
  · have hf := br_n c_9 hf
    refine lv_aload_n hc.x hc.b dX12_number_8 rfl (lv_at hl 0 rfl) ?_
    refine lv_iconst (v := 2) hc.x hc.b dX12_number_9 (by decide) ?_
    obtain ⟨S_16, hq_15, hf⟩ := on_s hf
    refine k_v (k_runV hc hd my_X12_blames tw_1518 hL0 rfl rfl rfl (c_X12_blames l D cs B0 kt α Lv S g0 2 hc.cl hL0  hq_15) rfl rfl hl.1 (Nat.le_of_ble_eq_true rfl) ⟨Nat.le_of_ble_eq_true rfl, Nat.le_of_ble_eq_true rfl, Nat.zero_le _, Nat.zero_le _⟩ dX12_number_10) hd (fun H locs hd => ?_)
    refine lv_goto (tgt := 36) hc.x hc.b dX12_number_13 (by decide) ?_
    exact hJ_2 S_16 _ _ _ hf hd (lv_sub hl [0] rfl)
theorem c_X12_number (l : Launch) (D : va_G) (cs : Nat → ClassId) (B0 : Nat) (kt : (Nat → Nat) × (Nat → Nat)) (α : Nat → Nat → Nat) (Lv : Nat → Nat → Prop) (S : St) (g0 : Nat) (x1 : Int32) (x2 : Int32) (hcl : Cl Lv) (hL0 : Lv 60 g0) {o : Int32 × St} (hf : f_X12_number g0 x1 x2 S = some o) : Met l yX12_number (wz yX12_number cX12_number 4 (some .int)) (Rm 2 0 0) (Pz D cs B0 kt α Lv S [.ref (α 60 g0), .int x1, .int x2]) (Qi D cs B0 α Lv o.1 o.2) 0 0 (AB B0) := met_of (by decide) rfl hcl (Nat.le_of_ble_eq_true rfl) (fun p e s m below meth c hc hr hd ls hl => b_X12_number hc hr hL0 hf hd hl)
theorem my_X12_number : MyV yX12_number "PumpCrossingModel" cX12_number 4 (some .int) 2 := ⟨tw_1524, (in_sel 45 (by decide +kernel) (by decide +kernel)), tw_11, tw_1525, by decide +kernel⟩
def f_X12_odds_13 (g0 : Nat) (K : Int64 → Int64 → St → Option (St)) : Nat → Int64 → Int64 → Int32 → St → Option (St)
  | 0, _, _, _, _ => none
  | n + 1, x1, x3, x5, S => ck (inb 4 3179 = true) (br ((60 + (3 * (gi S 61 g0 (nn 4)))) ≤ x5) (K x1 x3 S) (ck (inb x5 3179 = true) (bv (fun (x1_5 : Int64) (x3_6 : Int64) (S_7 : St) => bv (x5 + 1) (fun x5_9 => f_X12_odds_13 g0 K n x1_5 x3_6 x5_9 S_7)) (fun J_8 => br ((gi S 61 g0 (nn x5)) = ((-1))) (J_8 x1 x3 S) (ck (inb x5 3179 = true) (ck (inb (78 + (gi S 61 g0 (nn x5))) 3179 = true) (bv (x1 * (Int32.toInt64 (gi S 61 g0 (nn (78 + (gi S 61 g0 (nn x5))))))) (fun x1_13 => ck (inb x5 3179 = true) (ck (inb (99 + (gi S 61 g0 (nn x5))) 3179 = true) (bv (x3 * (Int32.toInt64 (gi S 61 g0 (nn (99 + (gi S 61 g0 (nn x5))))))) (fun x3_16 => J_8 x1_13 x3_16 S)))))))))))
def f_X12_odds (g0 : Nat) (S : St) : Option (St) := bv (si S 60 g0 5 0) (fun S_1 => f_X12_odds_13 g0 (fun (x1_17 : Int64) (x3_18 : Int64) (S_19 : St) => on (f_X12_fraction g0 x1_17 x3_18 S_19) (fun S_21 => some S_21)) FU 1 1 60 S_1)
set_option maxRecDepth 100000 in
set_option maxHeartbeats 4000000 in
theorem w_X12_odds_13 (hc : Cx p s m args meth c cX12_odds 6 "PumpCrossingModel" D cs B0 kt Lv) (hr : meth.sig.returnType = none) {o : St}  {g0 : Nat} {K : Int64 → Int64 → St → Option (St)} (hL0 : Lv 60 g0) (hK : ∀ (k1 : Int64) (k3 : Int64) (S : St) (H : Heap) (locs : List Loc) (ls : Array Slot), K k1 k3 S = some o → Dy s D cs B0 α Lv S H locs → lv_has ls 6 [(0, .ref (α 60 g0)), (1, .long k1), (3, .long k3)] → W p l e (Rm 1 0 0) s m args below meth c H locs 0 0 (MQ below (Qv D cs B0 α Lv o) args s 0 0 (AB B0)) (F0 m 87 ls [])) : ∀ (n : Nat) (x1 : Int64) (x3 : Int64) (x5 : Int32) (S : St) (H : Heap) (locs : List Loc) (ls : Array Slot), f_X12_odds_13 g0 K n x1 x3 x5 S = some o → Dy s D cs B0 α Lv S H locs → lv_has ls 6 [(0, .ref (α 60 g0)), (1, .long x1), (3, .long x3), (5, .int x5)] → W p l e (Rm 1 0 0) s m args below meth c H locs 0 0 (MQ below (Qv D cs B0 α Lv o) args s 0 0 (AB B0)) (F0 m 13 ls []) := by
  intro n
  induction n with
  | zero =>
    intro x1 x3 x5 S H locs ls hf
    rw [f_X12_odds_13] at hf
    cases hf
  | succ n ih =>
    intro x1 x3 x5 S H locs ls hf hd hl
    rw [f_X12_odds_13] at hf
    refine lv_iload hc.x hc.b dX12_odds_13 (lv_at hl 3 rfl) ?_
    refine lv_bipush (v := 60) hc.x hc.b dX12_odds_15 (by decide) ?_
    refine lv_iconst (v := 3) hc.x hc.b dX12_odds_17 (by decide) ?_
    refine lv_aload_n hc.x hc.b dX12_odds_18 rfl (lv_at hl 0 rfl) ?_
    refine fg_60_0 hc hd hL0 tw_1309 dX12_odds_19 ?_
    refine lv_iconst (v := 4) hc.x hc.b dX12_odds_22 (by decide) ?_
    obtain ⟨hi_2, hf⟩ := ck_s hf
    refine r_iald hc hd (cl_60_told hc.cl hL0) rfl hi_2 dX12_odds_23 ?_
    refine lv_imul hc.x hc.b dX12_odds_24 ?_
    refine lv_iadd hc.x hc.b dX12_odds_25 ?_
    refine lv_icmp_ge (tgt := 87) hc.x hc.b dX12_odds_26 (by decide) (fun c_3 => ?_) (fun c_3 => ?_)
    · have hf := br_y c_3 hf
      exact hK x1 x3 S _ _ _ hf hd (lv_sub hl [0, 1, 2] rfl)
    · have hf := br_n c_3 hf
      refine lv_aload_n hc.x hc.b dX12_odds_29 rfl (lv_at hl 0 rfl) ?_
      refine fg_60_0 hc hd hL0 tw_1309 dX12_odds_30 ?_
      refine lv_iload hc.x hc.b dX12_odds_33 (lv_at hl 3 rfl) ?_
      obtain ⟨hi_4, hf⟩ := ck_s hf
      refine r_iald hc hd (cl_60_told hc.cl hL0) rfl hi_4 dX12_odds_35 ?_
      refine lv_iconst (v := (-1)) hc.x hc.b dX12_odds_36 (by decide) ?_
      refine jn_s (P := fun J_8 => ∀ (x1_5 : Int64) (x3_6 : Int64) (S_7 : St) (H : Heap) (locs : List Loc) (ls : Array Slot), J_8 x1_5 x3_6 S_7 = some o → Dy s D cs B0 α Lv S_7 H locs → lv_has ls 6 [(0, .ref (α 60 g0)), (1, .long x1_5), (3, .long x3_6), (5, .int x5)] → W p l e (Rm 1 0 0) s m args below meth c H locs 0 0 (MQ below (Qv D cs B0 α Lv o) args s 0 0 (AB B0)) (F0 m 81 ls [])) hf ?_ (fun J_8 hJ_8 hf => ?_)
      · intro x1_5 x3_6 S_7 H locs ls hf hd hl
        obtain ⟨x5_9, ex5_9⟩ : ∃ z : Int32, z = x5 + 1 := ⟨_, rfl⟩
        have hf := bv_n ex5_9 hf
        refine lv_iinc (v := x5_9) (lv' := [(5, .int x5_9), (0, .ref (α 60 g0)), (1, .long x1_5), (3, .long x3_6)]) hc.x hc.b dX12_odds_81 hl (k := 3) rfl (by rw [ex5_9]; rfl) (by decide) rfl (fun ls hl => ?_)
        refine lv_goto (tgt := 13) hc.x hc.b dX12_odds_84 (by decide) ?_
        exact ih x1_5 x3_6 x5_9 S_7 _ _ _ hf hd (lv_sub hl [1, 2, 3, 0] rfl)
      refine lv_icmp_ne (tgt := 43) hc.x hc.b dX12_odds_37 (by decide) (fun c_10 => ?_) (fun c_10 => ?_)
      · have hf := br_n c_10 hf
        refine lv_lload_n hc.x hc.b dX12_odds_43 rfl (lv_at hl 1 rfl) ?_
        refine lv_aload_n hc.x hc.b dX12_odds_44 rfl (lv_at hl 0 rfl) ?_
        refine fg_60_0 hc hd hL0 tw_1309 dX12_odds_45 ?_
        refine lv_bipush (v := 78) hc.x hc.b dX12_odds_48 (by decide) ?_
        refine lv_aload_n hc.x hc.b dX12_odds_50 rfl (lv_at hl 0 rfl) ?_
        refine fg_60_0 hc hd hL0 tw_1309 dX12_odds_51 ?_
        refine lv_iload hc.x hc.b dX12_odds_54 (lv_at hl 3 rfl) ?_
        obtain ⟨hi_11, hf⟩ := ck_s hf
        refine r_iald hc hd (cl_60_told hc.cl hL0) rfl hi_11 dX12_odds_56 ?_
        refine lv_iadd hc.x hc.b dX12_odds_57 ?_
        obtain ⟨hi_12, hf⟩ := ck_s hf
        refine r_iald hc hd (cl_60_told hc.cl hL0) rfl hi_12 dX12_odds_58 ?_
        refine lv_i2l (v := Int32.toInt64 (gi S 61 g0 (nn (78 + (gi S 61 g0 (nn x5)))))) hc.x hc.b dX12_odds_59 rfl ?_
        refine lv_lmul hc.x hc.b dX12_odds_60 ?_
        refine lv_topl (fun x1_13 ex1_13 => ?_)
        have hf := bv_n ex1_13 hf
        refine lv_lstore_n (lv' := [(1, .long x1_13), (0, .ref (α 60 g0)), (3, .long x3), (5, .int x5)]) hc.x hc.b dX12_odds_61 rfl hl (by decide) rfl (fun ls hl => ?_)
        refine lv_lload_n hc.x hc.b dX12_odds_62 rfl (lv_at hl 2 rfl) ?_
        refine lv_aload_n hc.x hc.b dX12_odds_63 rfl (lv_at hl 1 rfl) ?_
        refine fg_60_0 hc hd hL0 tw_1309 dX12_odds_64 ?_
        refine lv_bipush (v := 99) hc.x hc.b dX12_odds_67 (by decide) ?_
        refine lv_aload_n hc.x hc.b dX12_odds_69 rfl (lv_at hl 1 rfl) ?_
        refine fg_60_0 hc hd hL0 tw_1309 dX12_odds_70 ?_
        refine lv_iload hc.x hc.b dX12_odds_73 (lv_at hl 3 rfl) ?_
        obtain ⟨hi_14, hf⟩ := ck_s hf
        refine r_iald hc hd (cl_60_told hc.cl hL0) rfl hi_14 dX12_odds_75 ?_
        refine lv_iadd hc.x hc.b dX12_odds_76 ?_
        obtain ⟨hi_15, hf⟩ := ck_s hf
        refine r_iald hc hd (cl_60_told hc.cl hL0) rfl hi_15 dX12_odds_77 ?_
        refine lv_i2l (v := Int32.toInt64 (gi S 61 g0 (nn (99 + (gi S 61 g0 (nn x5)))))) hc.x hc.b dX12_odds_78 rfl ?_
        refine lv_lmul hc.x hc.b dX12_odds_79 ?_
        refine lv_topl (fun x3_16 ex3_16 => ?_)
        have hf := bv_n ex3_16 hf
        refine lv_lstore_n (lv' := [(3, .long x3_16), (1, .long x1_13), (0, .ref (α 60 g0)), (5, .int x5)]) hc.x hc.b dX12_odds_80 rfl hl (by decide) rfl (fun ls hl => ?_)
        exact hJ_8 x1_13 x3_16 S _ _ _ hf hd (lv_sub hl [2, 1, 0, 3] rfl)
      · have hf := br_y c_10 hf
        refine lv_goto (tgt := 81) hc.x hc.b dX12_odds_40 (by decide) ?_
        exact hJ_8 x1 x3 S _ _ _ hf hd (lv_sub hl [0, 1, 2, 3] rfl)
set_option maxRecDepth 100000 in
set_option maxHeartbeats 4000000 in
theorem b_X12_odds (hc : Cx p s m args meth c cX12_odds 6 "PumpCrossingModel" D cs B0 kt Lv) (hr : meth.sig.returnType = none)  {o : St}  {S : St} {g0 : Nat} (hL0 : Lv 60 g0) {H : Heap} {locs : List Loc} {ls : Array Slot} (hf : f_X12_odds g0 S = some o) (hd : Dy s D cs B0 α Lv S H locs) (hl : lv_has ls 6 [(0, .ref (α 60 g0))]) : W p l e (Rm 1 0 0) s m args below meth c H locs 0 0 (MQ below (Qv D cs B0 α Lv o) args s 0 0 (AB B0)) (F0 m 0 ls []) := by
  unfold f_X12_odds at hf
  refine lv_aload_n hc.x hc.b dX12_odds_0 rfl (lv_at hl 0 rfl) ?_
  refine lv_iconst (v := 0) hc.x hc.b dX12_odds_1 (by decide) ?_
  refine fp_60_5 hc hd hL0 tw_1314 dX12_odds_2 (fun H locs hd => ?_)
  obtain ⟨S_1, hd, hf⟩ := nmD hd hf
  refine lv_lconst (v := 1) hc.x hc.b dX12_odds_5 (by decide) ?_
  refine lv_lstore_n (lv' := [(1, .long 1), (0, .ref (α 60 g0))]) hc.x hc.b dX12_odds_6 rfl hl (by decide) rfl (fun ls hl => ?_)
  refine lv_lconst (v := 1) hc.x hc.b dX12_odds_7 (by decide) ?_
  refine lv_lstore_n (lv' := [(3, .long 1), (1, .long 1), (0, .ref (α 60 g0))]) hc.x hc.b dX12_odds_8 rfl hl (by decide) rfl (fun ls hl => ?_)
  refine lv_bipush (v := 60) hc.x hc.b dX12_odds_9 (by decide) ?_
  refine lv_istore (lv' := [(5, .int 60), (3, .long 1), (1, .long 1), (0, .ref (α 60 g0))]) hc.x hc.b dX12_odds_11 hl (by decide) rfl (fun ls hl => ?_)
  refine w_X12_odds_13 hc hr hL0 ?_ _ _ _ _ _ _ _ _ hf hd (lv_sub hl [3, 2, 1, 0] rfl)
  intro x1_17 x3_18 S_19 H locs ls hf hd hl
  refine lv_aload_n hc.x hc.b dX12_odds_87 rfl (lv_at hl 0 rfl) ?_
  refine lv_lload_n hc.x hc.b dX12_odds_88 rfl (lv_at hl 1 rfl) ?_
  refine lv_lload_n hc.x hc.b dX12_odds_89 rfl (lv_at hl 2 rfl) ?_
  obtain ⟨S_21, hq_20, hf⟩ := on_s hf
  refine k_v (k_runV hc hd my_X12_fraction tw_1712 hL0 rfl rfl rfl (c_X12_fraction l D cs B0 kt α Lv S_19 g0 x1_17 x3_18 hc.cl hL0  hq_20) rfl rfl hl.1 (Nat.le_of_ble_eq_true rfl) ⟨Nat.le_of_ble_eq_true rfl, Nat.le_of_ble_eq_true rfl, Nat.zero_le _, Nat.zero_le _⟩ dX12_odds_90) hd (fun H locs hd => ?_)
  cases hf
  exact r_vret hc hd hr dX12_odds_93
theorem c_X12_odds (l : Launch) (D : va_G) (cs : Nat → ClassId) (B0 : Nat) (kt : (Nat → Nat) × (Nat → Nat)) (α : Nat → Nat → Nat) (Lv : Nat → Nat → Prop) (S : St) (g0 : Nat) (hcl : Cl Lv) (hL0 : Lv 60 g0) {o : St} (hf : f_X12_odds g0 S = some o) : Met l yX12_odds (wz yX12_odds cX12_odds 6 none) (Rm 1 0 0) (Pz D cs B0 kt α Lv S [.ref (α 60 g0)]) (Qv D cs B0 α Lv o) 0 0 (AB B0) := met_of (by decide) rfl hcl (Nat.le_of_ble_eq_true rfl) (fun p e s m below meth c hc hr hd ls hl => b_X12_odds hc hr hL0 hf hd hl)
theorem my_X12_odds : MyV yX12_odds "PumpCrossingModel" cX12_odds 6 none 0 := ⟨tw_1838, tw_1839, tw_11, tw_1840, by decide +kernel⟩
def f_X12_of (g0 : Nat) (x1 : Int32) (x2 : Int32) (S : St) : Option (Int64 × St) := bv (si S 60 g0 5 0) (fun S_1 => on (f_X12_isStation g0 x1 S_1) (fun r_3 => br (r_3 = 0) (on2 (f_X12_fails g0 1 S_1) (fun r_22 S_21 => some (Int32.toInt64 r_22, S_21))) (on (f_X12_within (Int32.toInt64 x2) 0 2 S_1) (fun r_6 => br (r_6 = 0) (on2 (f_X12_fails g0 2 S_1) (fun r_19 S_18 => some (Int32.toInt64 r_19, S_18))) (bv (si S_1 60 g0 23 0) (fun S_8 => bv (fun (v_9 : Int64) (S_10 : St) => some (v_9, S_10)) (fun J_11 => br (x2 = 2) (ck (inb 2 3179 = true) (on (f_X12_sinceAt g0 x1 (gi S_8 61 g0 (nn 2)) S_8) (fun r_16 => J_11 (Int32.toInt64 r_16) S_8))) (ck (inb ((4 * x2) + x1) 9 = true) (J_11 (gl S_8 63 g0 (nn ((4 * x2) + x1))) S_8)))))))))
set_option maxRecDepth 100000 in
set_option maxHeartbeats 4000000 in
theorem b_X12_of (hc : Cx p s m args meth c cX12_of 3 "PumpCrossingModel" D cs B0 kt Lv) (hr : meth.sig.returnType = some .long)  {o : Int64 × St}  {S : St} {g0 : Nat} {x1 : Int32} {x2 : Int32} (hL0 : Lv 60 g0) {H : Heap} {locs : List Loc} {ls : Array Slot} (hf : f_X12_of g0 x1 x2 S = some o) (hd : Dy s D cs B0 α Lv S H locs) (hl : lv_has ls 3 [(0, .ref (α 60 g0)), (1, .int x1), (2, .int x2)]) : W p l e (Rm 4 0 0) s m args below meth c H locs 0 0 (MQ below (Ql D cs B0 α Lv o.1 o.2) args s 0 0 (AB B0)) (F0 m 0 ls []) := by
  unfold f_X12_of at hf
  refine lv_aload_n hc.x hc.b dX12_of_0 rfl (lv_at hl 0 rfl) ?_
  refine lv_iconst (v := 0) hc.x hc.b dX12_of_1 (by decide) ?_
  refine fp_60_5 hc hd hL0 tw_1314 dX12_of_2 (fun H locs hd => ?_)
  obtain ⟨S_1, hd, hf⟩ := nmD hd hf
  refine lv_aload_n hc.x hc.b dX12_of_5 rfl (lv_at hl 0 rfl) ?_
  refine lv_iload_n hc.x hc.b dX12_of_6 rfl (lv_at hl 1 rfl) ?_
  obtain ⟨r_3, hq_2, hf⟩ := on_s hf
  refine k_i (k_runV hc hd my_X12_isStation tw_1452 hL0 rfl rfl rfl (c_X12_isStation l D cs B0 kt α Lv S_1 g0 x1 hc.cl hL0  hq_2) rfl rfl hl.1 (Nat.le_of_ble_eq_true rfl) ⟨Nat.le_of_ble_eq_true rfl, Nat.le_of_ble_eq_true rfl, Nat.zero_le _, Nat.zero_le _⟩ dX12_of_7) hd (fun H locs hd => ?_)
  refine lv_if_ne (tgt := 20) hc.x hc.b dX12_of_10 (by decide) (fun c_4 => ?_) (fun c_4 => ?_)
  · have hf := br_n c_4 hf
    refine lv_iload_n hc.x hc.b dX12_of_20 rfl (lv_at hl 2 rfl) ?_
    refine lv_i2l (v := Int32.toInt64 x2) hc.x hc.b dX12_of_21 rfl ?_
    refine lv_lconst (v := 0) hc.x hc.b dX12_of_22 (by decide) ?_
    refine lv_ldc2 (v := 2) hc.x hc.b hc.ow (hc.ts tw_1669) dX12_of_23 ?_
    obtain ⟨r_6, hq_5, hf⟩ := on_s hf
    refine k_i (k_runS hc hd my_X12_within tw_1444 (c_X12_within l D cs B0 kt α Lv S_1 (Int32.toInt64 x2) 0 2 hc.cl   hq_5) rfl rfl hl.1 (Nat.le_of_ble_eq_true rfl) ⟨Nat.le_of_ble_eq_true rfl, Nat.le_of_ble_eq_true rfl, Nat.zero_le _, Nat.zero_le _⟩ dX12_of_26) hd (fun H locs hd => ?_)
    refine lv_if_ne (tgt := 39) hc.x hc.b dX12_of_29 (by decide) (fun c_7 => ?_) (fun c_7 => ?_)
    · have hf := br_n c_7 hf
      refine lv_aload_n hc.x hc.b dX12_of_39 rfl (lv_at hl 0 rfl) ?_
      refine lv_iconst (v := 0) hc.x hc.b dX12_of_40 (by decide) ?_
      refine fp_60_23 hc hd hL0 tw_1332 (Or.inl rfl) dX12_of_41 (fun H locs hd => ?_)
      obtain ⟨S_8, hd, hf⟩ := nmD hd hf
      refine lv_iload_n hc.x hc.b dX12_of_44 rfl (lv_at hl 2 rfl) ?_
      refine lv_iconst (v := 2) hc.x hc.b dX12_of_45 (by decide) ?_
      refine jn_s (P := fun J_11 => ∀ (v_9 : Int64) (S_10 : St) (H : Heap) (locs : List Loc) (ls : Array Slot), J_11 v_9 S_10 = some o → Dy s D cs B0 α Lv S_10 H locs → lv_has ls 3 [] → W p l e (Rm 4 0 0) s m args below meth c H locs 0 0 (MQ below (Ql D cs B0 α Lv o.1 o.2) args s 0 0 (AB B0)) (F0 m 74 ls [.long v_9])) hf ?_ (fun J_11 hJ_11 hf => ?_)
      · intro v_9 S_10 H locs ls hf hd hl
        cases hf
        exact r_lret hc hd hr dX12_of_74
      refine lv_icmp_ne (tgt := 64) hc.x hc.b dX12_of_46 (by decide) (fun c_12 => ?_) (fun c_12 => ?_)
      · have hf := br_n c_12 hf
        refine lv_aload_n hc.x hc.b dX12_of_64 rfl (lv_at hl 0 rfl) ?_
        refine fg_60_2 hc hd hL0 tw_1311 dX12_of_65 ?_
        refine lv_iconst (v := 4) hc.x hc.b dX12_of_68 (by decide) ?_
        refine lv_iload_n hc.x hc.b dX12_of_69 rfl (lv_at hl 2 rfl) ?_
        refine lv_imul hc.x hc.b dX12_of_70 ?_
        refine lv_iload_n hc.x hc.b dX12_of_71 rfl (lv_at hl 1 rfl) ?_
        refine lv_iadd hc.x hc.b dX12_of_72 ?_
        obtain ⟨hi_13, hf⟩ := ck_s hf
        refine r_lald hc hd (cl_60_sums hc.cl hL0) rfl hi_13 dX12_of_73 ?_
        exact hJ_11 (gl S_8 63 g0 (nn ((4 * x2) + x1))) S_8 _ _ _ hf hd (lv_sub hl [] rfl)
      · have hf := br_y c_12 hf
        refine lv_aload_n hc.x hc.b dX12_of_49 rfl (lv_at hl 0 rfl) ?_
        refine lv_iload_n hc.x hc.b dX12_of_50 rfl (lv_at hl 1 rfl) ?_
        refine lv_aload_n hc.x hc.b dX12_of_51 rfl (lv_at hl 0 rfl) ?_
        refine fg_60_0 hc hd hL0 tw_1309 dX12_of_52 ?_
        refine lv_iconst (v := 2) hc.x hc.b dX12_of_55 (by decide) ?_
        obtain ⟨hi_14, hf⟩ := ck_s hf
        refine r_iald hc hd (cl_60_told hc.cl hL0) rfl hi_14 dX12_of_56 ?_
        obtain ⟨r_16, hq_15, hf⟩ := on_s hf
        refine k_i (k_runV hc hd my_X12_sinceAt tw_1626 hL0 rfl rfl rfl (c_X12_sinceAt l D cs B0 kt α Lv S_8 g0 x1 (gi S_8 61 g0 (nn 2)) hc.cl hL0  hq_15) rfl rfl hl.1 (Nat.le_of_ble_eq_true rfl) ⟨Nat.le_of_ble_eq_true rfl, Nat.le_of_ble_eq_true rfl, Nat.zero_le _, Nat.zero_le _⟩ dX12_of_57) hd (fun H locs hd => ?_)
        refine lv_i2l (v := Int32.toInt64 r_16) hc.x hc.b dX12_of_60 rfl ?_
        refine lv_goto (tgt := 74) hc.x hc.b dX12_of_61 (by decide) ?_
        exact hJ_11 (Int32.toInt64 r_16) S_8 _ _ _ hf hd (lv_sub hl [] rfl)
    · have hf := br_y c_7 hf
      refine lv_aload_n hc.x hc.b dX12_of_32 rfl (lv_at hl 0 rfl) ?_
      refine lv_iconst (v := 2) hc.x hc.b dX12_of_33 (by decide) ?_
      obtain ⟨r_19, S_18, hq_17, hf⟩ := on2_s hf
      refine k_i (k_runV hc hd my_X12_fails tw_1439 hL0 rfl rfl rfl (c_X12_fails l D cs B0 kt α Lv S_1 g0 2 hc.cl hL0  hq_17) rfl rfl hl.1 (Nat.le_of_ble_eq_true rfl) ⟨Nat.le_of_ble_eq_true rfl, Nat.le_of_ble_eq_true rfl, Nat.zero_le _, Nat.zero_le _⟩ dX12_of_34) hd (fun H locs hd => ?_)
      refine lv_i2l (v := Int32.toInt64 r_19) hc.x hc.b dX12_of_37 rfl ?_
      cases hf
      exact r_lret hc hd hr dX12_of_38
  · have hf := br_y c_4 hf
    refine lv_aload_n hc.x hc.b dX12_of_13 rfl (lv_at hl 0 rfl) ?_
    refine lv_iconst (v := 1) hc.x hc.b dX12_of_14 (by decide) ?_
    obtain ⟨r_22, S_21, hq_20, hf⟩ := on2_s hf
    refine k_i (k_runV hc hd my_X12_fails tw_1439 hL0 rfl rfl rfl (c_X12_fails l D cs B0 kt α Lv S_1 g0 1 hc.cl hL0  hq_20) rfl rfl hl.1 (Nat.le_of_ble_eq_true rfl) ⟨Nat.le_of_ble_eq_true rfl, Nat.le_of_ble_eq_true rfl, Nat.zero_le _, Nat.zero_le _⟩ dX12_of_15) hd (fun H locs hd => ?_)
    refine lv_i2l (v := Int32.toInt64 r_22) hc.x hc.b dX12_of_18 rfl ?_
    cases hf
    exact r_lret hc hd hr dX12_of_19
theorem c_X12_of (l : Launch) (D : va_G) (cs : Nat → ClassId) (B0 : Nat) (kt : (Nat → Nat) × (Nat → Nat)) (α : Nat → Nat → Nat) (Lv : Nat → Nat → Prop) (S : St) (g0 : Nat) (x1 : Int32) (x2 : Int32) (hcl : Cl Lv) (hL0 : Lv 60 g0) {o : Int64 × St} (hf : f_X12_of g0 x1 x2 S = some o) : Met l yX12_of (wz yX12_of cX12_of 3 (some .long)) (Rm 4 0 0) (Pz D cs B0 kt α Lv S [.ref (α 60 g0), .int x1, .int x2]) (Ql D cs B0 α Lv o.1 o.2) 0 0 (AB B0) := met_of (by decide) rfl hcl (Nat.le_of_ble_eq_true rfl) (fun p e s m below meth c hc hr hd ls hl => b_X12_of hc hr hL0 hf hd hl)
theorem my_X12_of : MyV yX12_of "PumpCrossingModel" cX12_of 3 (some .long) 2 := ⟨tw_1666, tw_1667, tw_11, tw_1668, by decide +kernel⟩
def f_X12_passed_53 (g0 : Nat) (x1 : Int32) (x2 : Int32) (x3 : Int32) (K : Int64 → Int64 → St → Option (Int32 × St)) : Nat → Int64 → Int64 → Int32 → St → Option (Int32 × St)
  | 0, _, _, _, _ => none
  | n + 1, x4, x6, x8, S => ck (inb 6 3179 = true) (br ((3149 + (3 * (gi S 61 g0 (nn 6)))) ≤ x8) (K x4 x6 S) (ck (inb (x8 + 1) 3179 = true) (bv (gi S 61 g0 (nn (x8 + 1))) (fun x9_11 => ck (inb x8 3179 = true) (bv (fun (x4_13 : Int64) (x6_14 : Int64) (S_15 : St) => bv (x8 + 3) (fun x8_17 => f_X12_passed_53 g0 x1 x2 x3 K n x4_13 x6_14 x8_17 S_15)) (fun J_16 => br ((gi S 61 g0 (nn x8)) = x1) (ck (inb (x8 + 2) 3179 = true) (bv (fun (v_20 : Int32) (S_21 : St) => br (v_20 = x3) (on (f_X12_isBoard g0 (x9_11 - 1) S_21) (fun r_25 => br (r_25 = 0) (J_16 x4 x6 S_21) (on (f_X12_isBoard g0 ((x9_11 - 1) + x2) S_21) (fun r_28 => br (r_28 = 0) (J_16 x4 x6 S_21) (on (f_X12_boardOf g0 x1 ((x9_11 - 1) + x2) S_21) (fun r_31 => on (f_X12_boardOf g0 x1 (x9_11 - 1) S_21) (fun r_33 => bv (r_31 - r_33) (fun x10_34 => bv (fun (v_35 : Int32) (S_36 : St) => bv (mxI 0 v_35) (fun q_38 => bv (x4 + (Int32.toInt64 q_38)) (fun x4_39 => ck (inb (x8 + 2) 3179 = true) (bv (abI (gi S_36 61 g0 (nn (x8 + 2)))) (fun q_41 => bv (x6 + (Int32.toInt64 q_41)) (fun x6_42 => J_16 x4_39 x6_42 S_36)))))) (fun J_37 => br (x3 = 0) (J_37 (-x10_34) S_21) (J_37 x10_34 S_21)))))))))) (J_16 x4 x6 S_21)) (fun J_22 => br ((gi S 61 g0 (nn (x8 + 2))) ≤ 0) (J_22 0 S) (J_22 1 S)))) (J_16 x4 x6 S)))))))
def f_X12_passed (g0 : Nat) (x1 : Int32) (x2 : Int32) (x3 : Int32) (S : St) : Option (Int32 × St) := on (f_X12_isStation g0 x1 S) (fun r_2 => bv (fun (v_3 : Int32) (S_4 : St) => bv (si S_4 60 g0 5 v_3) (fun S_6 => br ((gi S_6 60 g0 5) ≤ 0) (f_X12_passed_53 g0 x1 x2 x3 (fun (x4_45 : Int64) (x6_46 : Int64) (S_47 : St) => br ((lg_cmp x6_46 0) = 0) (some (0, S_47)) (on (f_X12_fraction g0 x4_45 x6_46 S_47) (fun S_50 => some (1, S_50)))) FU 0 0 3149 S_6) (some (0, S_6)))) (fun J_5 => br (r_2 = 0) (J_5 1 S) (on (f_X12_within (Int32.toInt64 x2) 1 24 S) (fun r_53 => br (r_53 = 0) (J_5 2 S) (J_5 0 S)))))
set_option maxRecDepth 100000 in
set_option maxHeartbeats 4000000 in
theorem w_X12_passed_53 (hc : Cx p s m args meth c cX12_passed 11 "PumpCrossingModel" D cs B0 kt Lv) (hr : meth.sig.returnType = some .boolean) {o : Int32 × St}  {g0 : Nat} {x1 : Int32} {x2 : Int32} {x3 : Int32} {K : Int64 → Int64 → St → Option (Int32 × St)} (hL0 : Lv 60 g0) (hK : ∀ (k4 : Int64) (k6 : Int64) (S : St) (H : Heap) (locs : List Loc) (ls : Array Slot), K k4 k6 S = some o → Dy s D cs B0 α Lv S H locs → lv_has ls 11 [(0, .ref (α 60 g0)), (4, .long k4), (6, .long k6)] → W p l e (Rm 3 0 0) s m args below meth c H locs 0 0 (MQ below (Qi D cs B0 α Lv o.1 o.2) args s 0 0 (AB B0)) (F0 m 210 ls [])) : ∀ (n : Nat) (x4 : Int64) (x6 : Int64) (x8 : Int32) (S : St) (H : Heap) (locs : List Loc) (ls : Array Slot), f_X12_passed_53 g0 x1 x2 x3 K n x4 x6 x8 S = some o → Dy s D cs B0 α Lv S H locs → lv_has ls 11 [(0, .ref (α 60 g0)), (1, .int x1), (2, .int x2), (3, .int x3), (4, .long x4), (6, .long x6), (8, .int x8)] → W p l e (Rm 3 0 0) s m args below meth c H locs 0 0 (MQ below (Qi D cs B0 α Lv o.1 o.2) args s 0 0 (AB B0)) (F0 m 53 ls []) := by
  intro n
  induction n with
  | zero =>
    intro x4 x6 x8 S H locs ls hf
    rw [f_X12_passed_53] at hf
    cases hf
  | succ n ih =>
    intro x4 x6 x8 S H locs ls hf hd hl
    rw [f_X12_passed_53] at hf
    refine lv_iload hc.x hc.b dX12_passed_53 (lv_at hl 6 rfl) ?_
    refine lv_sipush (v := 3149) hc.x hc.b dX12_passed_55 (by decide) ?_
    refine lv_iconst (v := 3) hc.x hc.b dX12_passed_58 (by decide) ?_
    refine lv_aload_n hc.x hc.b dX12_passed_59 rfl (lv_at hl 0 rfl) ?_
    refine fg_60_0 hc hd hL0 tw_1309 dX12_passed_60 ?_
    refine lv_bipush (v := 6) hc.x hc.b dX12_passed_63 (by decide) ?_
    obtain ⟨hi_8, hf⟩ := ck_s hf
    refine r_iald hc hd (cl_60_told hc.cl hL0) rfl hi_8 dX12_passed_65 ?_
    refine lv_imul hc.x hc.b dX12_passed_66 ?_
    refine lv_iadd hc.x hc.b dX12_passed_67 ?_
    refine lv_icmp_ge (tgt := 210) hc.x hc.b dX12_passed_68 (by decide) (fun c_9 => ?_) (fun c_9 => ?_)
    · have hf := br_y c_9 hf
      exact hK x4 x6 S _ _ _ hf hd (lv_sub hl [0, 4, 5] rfl)
    · have hf := br_n c_9 hf
      refine lv_aload_n hc.x hc.b dX12_passed_71 rfl (lv_at hl 0 rfl) ?_
      refine fg_60_0 hc hd hL0 tw_1309 dX12_passed_72 ?_
      refine lv_iload hc.x hc.b dX12_passed_75 (lv_at hl 6 rfl) ?_
      refine lv_iconst (v := 1) hc.x hc.b dX12_passed_77 (by decide) ?_
      refine lv_iadd hc.x hc.b dX12_passed_78 ?_
      obtain ⟨hi_10, hf⟩ := ck_s hf
      refine r_iald hc hd (cl_60_told hc.cl hL0) rfl hi_10 dX12_passed_79 ?_
      refine lv_topi (fun x9_11 ex9_11 => ?_)
      have hf := bv_n ex9_11 hf
      refine lv_istore (lv' := [(9, .int x9_11), (0, .ref (α 60 g0)), (1, .int x1), (2, .int x2), (3, .int x3), (4, .long x4), (6, .long x6), (8, .int x8)]) hc.x hc.b dX12_passed_80 hl (by decide) rfl (fun ls hl => ?_)
      refine lv_aload_n hc.x hc.b dX12_passed_82 rfl (lv_at hl 1 rfl) ?_
      refine fg_60_0 hc hd hL0 tw_1309 dX12_passed_83 ?_
      refine lv_iload hc.x hc.b dX12_passed_86 (lv_at hl 7 rfl) ?_
      obtain ⟨hi_12, hf⟩ := ck_s hf
      refine r_iald hc hd (cl_60_told hc.cl hL0) rfl hi_12 dX12_passed_88 ?_
      refine lv_iload_n hc.x hc.b dX12_passed_89 rfl (lv_at hl 2 rfl) ?_
      refine jn_s (P := fun J_16 => ∀ (x4_13 : Int64) (x6_14 : Int64) (S_15 : St) (H : Heap) (locs : List Loc) (ls : Array Slot), J_16 x4_13 x6_14 S_15 = some o → Dy s D cs B0 α Lv S_15 H locs → lv_has ls 11 [(0, .ref (α 60 g0)), (1, .int x1), (2, .int x2), (3, .int x3), (4, .long x4_13), (6, .long x6_14), (8, .int x8)] → W p l e (Rm 3 0 0) s m args below meth c H locs 0 0 (MQ below (Qi D cs B0 α Lv o.1 o.2) args s 0 0 (AB B0)) (F0 m 204 ls [])) hf ?_ (fun J_16 hJ_16 hf => ?_)
      · intro x4_13 x6_14 S_15 H locs ls hf hd hl
        obtain ⟨x8_17, ex8_17⟩ : ∃ z : Int32, z = x8 + 3 := ⟨_, rfl⟩
        have hf := bv_n ex8_17 hf
        refine lv_iinc (v := x8_17) (lv' := [(8, .int x8_17), (0, .ref (α 60 g0)), (1, .int x1), (2, .int x2), (3, .int x3), (4, .long x4_13), (6, .long x6_14)]) hc.x hc.b dX12_passed_204 hl (k := 6) rfl (by rw [ex8_17]; rfl) (by decide) rfl (fun ls hl => ?_)
        refine lv_goto (tgt := 53) hc.x hc.b dX12_passed_207 (by decide) ?_
        exact ih x4_13 x6_14 x8_17 S_15 _ _ _ hf hd (lv_sub hl [1, 2, 3, 4, 5, 6, 0] rfl)
      refine lv_icmp_ne (tgt := 204) hc.x hc.b dX12_passed_90 (by decide) (fun c_18 => ?_) (fun c_18 => ?_)
      · have hf := br_n c_18 hf
        exact hJ_16 x4 x6 S _ _ _ hf hd (lv_sub hl [1, 2, 3, 4, 5, 6, 7] rfl)
      · have hf := br_y c_18 hf
        refine lv_aload_n hc.x hc.b dX12_passed_93 rfl (lv_at hl 1 rfl) ?_
        refine fg_60_0 hc hd hL0 tw_1309 dX12_passed_94 ?_
        refine lv_iload hc.x hc.b dX12_passed_97 (lv_at hl 7 rfl) ?_
        refine lv_iconst (v := 2) hc.x hc.b dX12_passed_99 (by decide) ?_
        refine lv_iadd hc.x hc.b dX12_passed_100 ?_
        obtain ⟨hi_19, hf⟩ := ck_s hf
        refine r_iald hc hd (cl_60_told hc.cl hL0) rfl hi_19 dX12_passed_101 ?_
        refine jn_s (P := fun J_22 => ∀ (v_20 : Int32) (S_21 : St) (H : Heap) (locs : List Loc) (ls : Array Slot), J_22 v_20 S_21 = some o → Dy s D cs B0 α Lv S_21 H locs → lv_has ls 11 [(0, .ref (α 60 g0)), (1, .int x1), (2, .int x2), (3, .int x3), (4, .long x4), (6, .long x6), (8, .int x8), (9, .int x9_11)] → W p l e (Rm 3 0 0) s m args below meth c H locs 0 0 (MQ below (Qi D cs B0 α Lv o.1 o.2) args s 0 0 (AB B0)) (F0 m 110 ls [.int v_20])) hf ?_ (fun J_22 hJ_22 hf => ?_)
        · intro v_20 S_21 H locs ls hf hd hl
          refine lv_iload_n hc.x hc.b dX12_passed_110 rfl (lv_at hl 3 rfl) ?_
          refine lv_icmp_ne (tgt := 204) hc.x hc.b dX12_passed_111 (by decide) (fun c_23 => ?_) (fun c_23 => ?_)
          · have hf := br_n c_23 hf
            exact hJ_16 x4 x6 S_21 _ _ _ hf hd (lv_sub hl [0, 1, 2, 3, 4, 5, 6] rfl)
          · have hf := br_y c_23 hf
            refine lv_aload_n hc.x hc.b dX12_passed_114 rfl (lv_at hl 0 rfl) ?_
            refine lv_iload hc.x hc.b dX12_passed_115 (lv_at hl 7 rfl) ?_
            refine lv_iconst (v := 1) hc.x hc.b dX12_passed_117 (by decide) ?_
            refine lv_isub hc.x hc.b dX12_passed_118 ?_
            obtain ⟨r_25, hq_24, hf⟩ := on_s hf
            refine k_i (k_runV hc hd my_X12_isBoard tw_1653 hL0 rfl rfl rfl (c_X12_isBoard l D cs B0 kt α Lv S_21 g0 (x9_11 - 1) hc.cl hL0  hq_24) rfl rfl hl.1 (Nat.le_of_ble_eq_true rfl) ⟨Nat.le_of_ble_eq_true rfl, Nat.le_of_ble_eq_true rfl, Nat.zero_le _, Nat.zero_le _⟩ dX12_passed_119) hd (fun H locs hd => ?_)
            refine lv_if_eq (tgt := 204) hc.x hc.b dX12_passed_122 (by decide) (fun c_26 => ?_) (fun c_26 => ?_)
            · have hf := br_y c_26 hf
              exact hJ_16 x4 x6 S_21 _ _ _ hf hd (lv_sub hl [0, 1, 2, 3, 4, 5, 6] rfl)
            · have hf := br_n c_26 hf
              refine lv_aload_n hc.x hc.b dX12_passed_125 rfl (lv_at hl 0 rfl) ?_
              refine lv_iload hc.x hc.b dX12_passed_126 (lv_at hl 7 rfl) ?_
              refine lv_iconst (v := 1) hc.x hc.b dX12_passed_128 (by decide) ?_
              refine lv_isub hc.x hc.b dX12_passed_129 ?_
              refine lv_iload_n hc.x hc.b dX12_passed_130 rfl (lv_at hl 2 rfl) ?_
              refine lv_iadd hc.x hc.b dX12_passed_131 ?_
              obtain ⟨r_28, hq_27, hf⟩ := on_s hf
              refine k_i (k_runV hc hd my_X12_isBoard tw_1653 hL0 rfl rfl rfl (c_X12_isBoard l D cs B0 kt α Lv S_21 g0 ((x9_11 - 1) + x2) hc.cl hL0  hq_27) rfl rfl hl.1 (Nat.le_of_ble_eq_true rfl) ⟨Nat.le_of_ble_eq_true rfl, Nat.le_of_ble_eq_true rfl, Nat.zero_le _, Nat.zero_le _⟩ dX12_passed_132) hd (fun H locs hd => ?_)
              refine lv_if_ne (tgt := 141) hc.x hc.b dX12_passed_135 (by decide) (fun c_29 => ?_) (fun c_29 => ?_)
              · have hf := br_n c_29 hf
                refine lv_aload_n hc.x hc.b dX12_passed_141 rfl (lv_at hl 0 rfl) ?_
                refine lv_iload_n hc.x hc.b dX12_passed_142 rfl (lv_at hl 1 rfl) ?_
                refine lv_iload hc.x hc.b dX12_passed_143 (lv_at hl 7 rfl) ?_
                refine lv_iconst (v := 1) hc.x hc.b dX12_passed_145 (by decide) ?_
                refine lv_isub hc.x hc.b dX12_passed_146 ?_
                refine lv_iload_n hc.x hc.b dX12_passed_147 rfl (lv_at hl 2 rfl) ?_
                refine lv_iadd hc.x hc.b dX12_passed_148 ?_
                obtain ⟨r_31, hq_30, hf⟩ := on_s hf
                refine k_i (k_runV hc hd my_X12_boardOf tw_1657 hL0 rfl rfl rfl (c_X12_boardOf l D cs B0 kt α Lv S_21 g0 x1 ((x9_11 - 1) + x2) hc.cl hL0  hq_30) rfl rfl hl.1 (Nat.le_of_ble_eq_true rfl) ⟨Nat.le_of_ble_eq_true rfl, Nat.le_of_ble_eq_true rfl, Nat.zero_le _, Nat.zero_le _⟩ dX12_passed_149) hd (fun H locs hd => ?_)
                refine lv_aload_n hc.x hc.b dX12_passed_152 rfl (lv_at hl 0 rfl) ?_
                refine lv_iload_n hc.x hc.b dX12_passed_153 rfl (lv_at hl 1 rfl) ?_
                refine lv_iload hc.x hc.b dX12_passed_154 (lv_at hl 7 rfl) ?_
                refine lv_iconst (v := 1) hc.x hc.b dX12_passed_156 (by decide) ?_
                refine lv_isub hc.x hc.b dX12_passed_157 ?_
                obtain ⟨r_33, hq_32, hf⟩ := on_s hf
                refine k_i (k_runV hc hd my_X12_boardOf tw_1657 hL0 rfl rfl rfl (c_X12_boardOf l D cs B0 kt α Lv S_21 g0 x1 (x9_11 - 1) hc.cl hL0  hq_32) rfl rfl hl.1 (Nat.le_of_ble_eq_true rfl) ⟨Nat.le_of_ble_eq_true rfl, Nat.le_of_ble_eq_true rfl, Nat.zero_le _, Nat.zero_le _⟩ dX12_passed_158) hd (fun H locs hd => ?_)
                refine lv_isub hc.x hc.b dX12_passed_161 ?_
                refine lv_topi (fun x10_34 ex10_34 => ?_)
                have hf := bv_n ex10_34 hf
                refine lv_istore (lv' := [(10, .int x10_34), (0, .ref (α 60 g0)), (1, .int x1), (2, .int x2), (3, .int x3), (4, .long x4), (6, .long x6), (8, .int x8), (9, .int x9_11)]) hc.x hc.b dX12_passed_162 hl (by decide) rfl (fun ls hl => ?_)
                refine lv_lload hc.x hc.b dX12_passed_164 (lv_at hl 5 rfl) ?_
                refine lv_iconst (v := 0) hc.x hc.b dX12_passed_166 (by decide) ?_
                refine lv_iload_n hc.x hc.b dX12_passed_167 rfl (lv_at hl 4 rfl) ?_
                refine jn_s (P := fun J_37 => ∀ (v_35 : Int32) (S_36 : St) (H : Heap) (locs : List Loc) (ls : Array Slot), J_37 v_35 S_36 = some o → Dy s D cs B0 α Lv S_36 H locs → lv_has ls 11 [(0, .ref (α 60 g0)), (1, .int x1), (2, .int x2), (3, .int x3), (6, .long x6), (8, .int x8)] → W p l e (Rm 3 0 0) s m args below meth c H locs 0 0 (MQ below (Qi D cs B0 α Lv o.1 o.2) args s 0 0 (AB B0)) (F0 m 179 ls [.int v_35, .int 0, .long x4])) hf ?_ (fun J_37 hJ_37 hf => ?_)
                · intro v_35 S_36 H locs ls hf hd hl
                  refine r_max hc hl.1 tw_1609 (Nat.le_of_ble_eq_true rfl) (Nat.le_of_ble_eq_true rfl) (Nat.zero_le _) (Nat.zero_le _) dX12_passed_179 ?_
                  refine lv_topi (fun q_38 eq_38 => ?_)
                  have hf := bv_n eq_38 hf
                  refine lv_i2l (v := Int32.toInt64 q_38) hc.x hc.b dX12_passed_182 rfl ?_
                  refine lv_ladd hc.x hc.b dX12_passed_183 ?_
                  refine lv_topl (fun x4_39 ex4_39 => ?_)
                  have hf := bv_n ex4_39 hf
                  refine lv_lstore (lv' := [(4, .long x4_39), (0, .ref (α 60 g0)), (1, .int x1), (2, .int x2), (3, .int x3), (6, .long x6), (8, .int x8)]) hc.x hc.b dX12_passed_184 hl (by decide) rfl (fun ls hl => ?_)
                  refine lv_lload hc.x hc.b dX12_passed_186 (lv_at hl 5 rfl) ?_
                  refine lv_aload_n hc.x hc.b dX12_passed_188 rfl (lv_at hl 1 rfl) ?_
                  refine fg_60_0 hc hd hL0 tw_1309 dX12_passed_189 ?_
                  refine lv_iload hc.x hc.b dX12_passed_192 (lv_at hl 6 rfl) ?_
                  refine lv_iconst (v := 2) hc.x hc.b dX12_passed_194 (by decide) ?_
                  refine lv_iadd hc.x hc.b dX12_passed_195 ?_
                  obtain ⟨hi_40, hf⟩ := ck_s hf
                  refine r_iald hc hd (cl_60_told hc.cl hL0) rfl hi_40 dX12_passed_196 ?_
                  refine r_abs hc hl.1 tw_1711 (Nat.le_of_ble_eq_true rfl) (Nat.le_of_ble_eq_true rfl) (Nat.zero_le _) (Nat.zero_le _) dX12_passed_197 ?_
                  refine lv_topi (fun q_41 eq_41 => ?_)
                  have hf := bv_n eq_41 hf
                  refine lv_i2l (v := Int32.toInt64 q_41) hc.x hc.b dX12_passed_200 rfl ?_
                  refine lv_ladd hc.x hc.b dX12_passed_201 ?_
                  refine lv_topl (fun x6_42 ex6_42 => ?_)
                  have hf := bv_n ex6_42 hf
                  refine lv_lstore (lv' := [(6, .long x6_42), (4, .long x4_39), (0, .ref (α 60 g0)), (1, .int x1), (2, .int x2), (3, .int x3), (8, .int x8)]) hc.x hc.b dX12_passed_202 hl (by decide) rfl (fun ls hl => ?_)
                  exact hJ_16 x4_39 x6_42 S_36 _ _ _ hf hd (lv_sub hl [2, 3, 4, 5, 1, 0, 6] rfl)
                refine lv_if_eq (tgt := 176) hc.x hc.b dX12_passed_168 (by decide) (fun c_43 => ?_) (fun c_43 => ?_)
                · have hf := br_y c_43 hf
                  refine lv_iload hc.x hc.b dX12_passed_176 (lv_at hl 0 rfl) ?_
                  refine lv_ineg hc.x hc.b dX12_passed_178 ?_
                  exact hJ_37 (-x10_34) S_21 _ _ _ hf hd (lv_sub hl [1, 2, 3, 4, 6, 7] rfl)
                · have hf := br_n c_43 hf
                  refine lv_iload hc.x hc.b dX12_passed_171 (lv_at hl 0 rfl) ?_
                  refine lv_goto (tgt := 179) hc.x hc.b dX12_passed_173 (by decide) ?_
                  exact hJ_37 x10_34 S_21 _ _ _ hf hd (lv_sub hl [1, 2, 3, 4, 6, 7] rfl)
              · have hf := br_y c_29 hf
                refine lv_goto (tgt := 204) hc.x hc.b dX12_passed_138 (by decide) ?_
                exact hJ_16 x4 x6 S_21 _ _ _ hf hd (lv_sub hl [0, 1, 2, 3, 4, 5, 6] rfl)
        refine lv_if_le (tgt := 109) hc.x hc.b dX12_passed_102 (by decide) (fun c_44 => ?_) (fun c_44 => ?_)
        · have hf := br_y c_44 hf
          refine lv_iconst (v := 0) hc.x hc.b dX12_passed_109 (by decide) ?_
          exact hJ_22 0 S _ _ _ hf hd (lv_sub hl [1, 2, 3, 4, 5, 6, 7, 0] rfl)
        · have hf := br_n c_44 hf
          refine lv_iconst (v := 1) hc.x hc.b dX12_passed_105 (by decide) ?_
          refine lv_goto (tgt := 110) hc.x hc.b dX12_passed_106 (by decide) ?_
          exact hJ_22 1 S _ _ _ hf hd (lv_sub hl [1, 2, 3, 4, 5, 6, 7, 0] rfl)
set_option maxRecDepth 100000 in
set_option maxHeartbeats 4000000 in
theorem b_X12_passed (hc : Cx p s m args meth c cX12_passed 11 "PumpCrossingModel" D cs B0 kt Lv) (hr : meth.sig.returnType = some .boolean)  {o : Int32 × St}  {S : St} {g0 : Nat} {x1 : Int32} {x2 : Int32} {x3 : Int32} (hL0 : Lv 60 g0) {H : Heap} {locs : List Loc} {ls : Array Slot} (hf : f_X12_passed g0 x1 x2 x3 S = some o) (hd : Dy s D cs B0 α Lv S H locs) (hl : lv_has ls 11 [(0, .ref (α 60 g0)), (1, .int x1), (2, .int x2), (3, .int x3)]) : W p l e (Rm 3 0 0) s m args below meth c H locs 0 0 (MQ below (Qi D cs B0 α Lv o.1 o.2) args s 0 0 (AB B0)) (F0 m 0 ls []) := by
  unfold f_X12_passed at hf
  refine lv_aload_n hc.x hc.b dX12_passed_0 rfl (lv_at hl 0 rfl) ?_
  refine lv_aload_n hc.x hc.b dX12_passed_1 rfl (lv_at hl 0 rfl) ?_
  refine lv_iload_n hc.x hc.b dX12_passed_2 rfl (lv_at hl 1 rfl) ?_
  obtain ⟨r_2, hq_1, hf⟩ := on_s hf
  refine k_i (k_runV hc hd my_X12_isStation tw_1452 hL0 rfl rfl rfl (c_X12_isStation l D cs B0 kt α Lv S g0 x1 hc.cl hL0  hq_1) rfl rfl hl.1 (Nat.le_of_ble_eq_true rfl) ⟨Nat.le_of_ble_eq_true rfl, Nat.le_of_ble_eq_true rfl, Nat.zero_le _, Nat.zero_le _⟩ dX12_passed_3) hd (fun H locs hd => ?_)
  refine jn_s (P := fun J_5 => ∀ (v_3 : Int32) (S_4 : St) (H : Heap) (locs : List Loc) (ls : Array Slot), J_5 v_3 S_4 = some o → Dy s D cs B0 α Lv S_4 H locs → lv_has ls 11 [(0, .ref (α 60 g0)), (1, .int x1), (2, .int x2), (3, .int x3)] → W p l e (Rm 3 0 0) s m args below meth c H locs 0 0 (MQ below (Qi D cs B0 α Lv o.1 o.2) args s 0 0 (AB B0)) (F0 m 30 ls [.int v_3, .ref (α 60 g0)])) hf ?_ (fun J_5 hJ_5 hf => ?_)
  · intro v_3 S_4 H locs ls hf hd hl
    refine fp_60_5 hc hd hL0 tw_1314 dX12_passed_30 (fun H locs hd => ?_)
    obtain ⟨S_6, hd, hf⟩ := nmD hd hf
    refine lv_aload_n hc.x hc.b dX12_passed_33 rfl (lv_at hl 0 rfl) ?_
    refine fg_60_5 hc hd hL0 tw_1314 dX12_passed_34 ?_
    refine lv_if_le (tgt := 42) hc.x hc.b dX12_passed_37 (by decide) (fun c_7 => ?_) (fun c_7 => ?_)
    · have hf := br_y c_7 hf
      refine lv_lconst (v := 0) hc.x hc.b dX12_passed_42 (by decide) ?_
      refine lv_lstore (lv' := [(4, .long 0), (0, .ref (α 60 g0)), (1, .int x1), (2, .int x2), (3, .int x3)]) hc.x hc.b dX12_passed_43 hl (by decide) rfl (fun ls hl => ?_)
      refine lv_lconst (v := 0) hc.x hc.b dX12_passed_45 (by decide) ?_
      refine lv_lstore (lv' := [(6, .long 0), (4, .long 0), (0, .ref (α 60 g0)), (1, .int x1), (2, .int x2), (3, .int x3)]) hc.x hc.b dX12_passed_46 hl (by decide) rfl (fun ls hl => ?_)
      refine lv_sipush (v := 3149) hc.x hc.b dX12_passed_48 (by decide) ?_
      refine lv_istore (lv' := [(8, .int 3149), (6, .long 0), (4, .long 0), (0, .ref (α 60 g0)), (1, .int x1), (2, .int x2), (3, .int x3)]) hc.x hc.b dX12_passed_51 hl (by decide) rfl (fun ls hl => ?_)
      refine w_X12_passed_53 hc hr hL0 ?_ _ _ _ _ _ _ _ _ hf hd (lv_sub hl [3, 4, 5, 6, 2, 1, 0] rfl)
      intro x4_45 x6_46 S_47 H locs ls hf hd hl
      refine lv_lload hc.x hc.b dX12_passed_210 (lv_at hl 2 rfl) ?_
      refine lv_lconst (v := 0) hc.x hc.b dX12_passed_212 (by decide) ?_
      refine W.lcmp hc.x hc.b dX12_passed_213 ?_
      refine lv_if_ne (tgt := 219) hc.x hc.b dX12_passed_214 (by decide) (fun c_48 => ?_) (fun c_48 => ?_)
      · have hf := br_n c_48 hf
        refine lv_aload_n hc.x hc.b dX12_passed_219 rfl (lv_at hl 0 rfl) ?_
        refine lv_lload hc.x hc.b dX12_passed_220 (lv_at hl 1 rfl) ?_
        refine lv_lload hc.x hc.b dX12_passed_222 (lv_at hl 2 rfl) ?_
        obtain ⟨S_50, hq_49, hf⟩ := on_s hf
        refine k_v (k_runV hc hd my_X12_fraction tw_1712 hL0 rfl rfl rfl (c_X12_fraction l D cs B0 kt α Lv S_47 g0 x4_45 x6_46 hc.cl hL0  hq_49) rfl rfl hl.1 (Nat.le_of_ble_eq_true rfl) ⟨Nat.le_of_ble_eq_true rfl, Nat.le_of_ble_eq_true rfl, Nat.zero_le _, Nat.zero_le _⟩ dX12_passed_224) hd (fun H locs hd => ?_)
        refine lv_iconst (v := 1) hc.x hc.b dX12_passed_227 (by decide) ?_
        cases hf
        exact r_zret hc hd hr (Or.inr rfl) dX12_passed_228
      · have hf := br_y c_48 hf
        refine lv_iconst (v := 0) hc.x hc.b dX12_passed_217 (by decide) ?_
        cases hf
        exact r_zret hc hd hr (Or.inl rfl) dX12_passed_218
    · have hf := br_n c_7 hf
      refine lv_iconst (v := 0) hc.x hc.b dX12_passed_40 (by decide) ?_
      cases hf
      exact r_zret hc hd hr (Or.inl rfl) dX12_passed_41
  refine lv_if_ne (tgt := 13) hc.x hc.b dX12_passed_6 (by decide) (fun c_51 => ?_) (fun c_51 => ?_)
  · have hf := br_n c_51 hf
    refine lv_iload_n hc.x hc.b dX12_passed_13 rfl (lv_at hl 2 rfl) ?_
    refine lv_i2l (v := Int32.toInt64 x2) hc.x hc.b dX12_passed_14 rfl ?_
    refine lv_lconst (v := 1) hc.x hc.b dX12_passed_15 (by decide) ?_
    refine lv_ldc2 (v := 24) hc.x hc.b hc.ow (hc.ts tw_1710) dX12_passed_16 ?_
    obtain ⟨r_53, hq_52, hf⟩ := on_s hf
    refine k_i (k_runS hc hd my_X12_within tw_1444 (c_X12_within l D cs B0 kt α Lv S (Int32.toInt64 x2) 1 24 hc.cl   hq_52) rfl rfl hl.1 (Nat.le_of_ble_eq_true rfl) ⟨Nat.le_of_ble_eq_true rfl, Nat.le_of_ble_eq_true rfl, Nat.zero_le _, Nat.zero_le _⟩ dX12_passed_19) hd (fun H locs hd => ?_)
    refine lv_if_eq (tgt := 29) hc.x hc.b dX12_passed_22 (by decide) (fun c_54 => ?_) (fun c_54 => ?_)
    · have hf := br_y c_54 hf
      refine lv_iconst (v := 2) hc.x hc.b dX12_passed_29 (by decide) ?_
      exact hJ_5 2 S _ _ _ hf hd (lv_sub hl [0, 1, 2, 3] rfl)
    · have hf := br_n c_54 hf
      refine lv_iconst (v := 0) hc.x hc.b dX12_passed_25 (by decide) ?_
      refine lv_goto (tgt := 30) hc.x hc.b dX12_passed_26 (by decide) ?_
      exact hJ_5 0 S _ _ _ hf hd (lv_sub hl [0, 1, 2, 3] rfl)
  · have hf := br_y c_51 hf
    refine lv_iconst (v := 1) hc.x hc.b dX12_passed_9 (by decide) ?_
    refine lv_goto (tgt := 30) hc.x hc.b dX12_passed_10 (by decide) ?_
    exact hJ_5 1 S _ _ _ hf hd (lv_sub hl [0, 1, 2, 3] rfl)
theorem c_X12_passed (l : Launch) (D : va_G) (cs : Nat → ClassId) (B0 : Nat) (kt : (Nat → Nat) × (Nat → Nat)) (α : Nat → Nat → Nat) (Lv : Nat → Nat → Prop) (S : St) (g0 : Nat) (x1 : Int32) (x2 : Int32) (x3 : Int32) (hcl : Cl Lv) (hL0 : Lv 60 g0) {o : Int32 × St} (hf : f_X12_passed g0 x1 x2 x3 S = some o) : Met l yX12_passed (wz yX12_passed cX12_passed 11 (some .boolean)) (Rm 3 0 0) (Pz D cs B0 kt α Lv S [.ref (α 60 g0), .int x1, .int x2, .int x3]) (Qi D cs B0 α Lv o.1 o.2) 0 0 (AB B0) := met_of (by decide) rfl hcl (Nat.le_of_ble_eq_true rfl) (fun p e s m below meth c hc hr hd ls hl => b_X12_passed hc hr hL0 hf hd hl)
theorem my_X12_passed : MyV yX12_passed "PumpCrossingModel" cX12_passed 11 (some .boolean) 3 := ⟨tw_1707, tw_1708, tw_11, tw_1709, by decide +kernel⟩
def f_X12_price (g0 : Nat) (x1 : Int32) (S : St) : Option (Int32 × St) := bv (si S 60 g0 5 0) (fun S_1 => on (f_X12_isStation g0 x1 S_1) (fun r_3 => bv (fun (v_4 : Int32) (S_5 : St) => some (v_4, S_5)) (fun J_6 => br (r_3 = 0) (on2 (f_X12_fails g0 1 S_1) (fun r_10 S_9 => J_6 r_10 S_9)) (ck (inb (12 + x1) 3179 = true) (J_6 (gi S_1 61 g0 (nn (12 + x1))) S_1)))))
set_option maxRecDepth 100000 in
set_option maxHeartbeats 4000000 in
theorem b_X12_price (hc : Cx p s m args meth c cX12_price 2 "PumpCrossingModel" D cs B0 kt Lv) (hr : meth.sig.returnType = some .int)  {o : Int32 × St}  {S : St} {g0 : Nat} {x1 : Int32} (hL0 : Lv 60 g0) {H : Heap} {locs : List Loc} {ls : Array Slot} (hf : f_X12_price g0 x1 S = some o) (hd : Dy s D cs B0 α Lv S H locs) (hl : lv_has ls 2 [(0, .ref (α 60 g0)), (1, .int x1)]) : W p l e (Rm 2 0 0) s m args below meth c H locs 0 0 (MQ below (Qi D cs B0 α Lv o.1 o.2) args s 0 0 (AB B0)) (F0 m 0 ls []) := by
  unfold f_X12_price at hf
  refine lv_aload_n hc.x hc.b dX12_price_0 rfl (lv_at hl 0 rfl) ?_
  refine lv_iconst (v := 0) hc.x hc.b dX12_price_1 (by decide) ?_
  refine fp_60_5 hc hd hL0 tw_1314 dX12_price_2 (fun H locs hd => ?_)
  obtain ⟨S_1, hd, hf⟩ := nmD hd hf
  refine lv_aload_n hc.x hc.b dX12_price_5 rfl (lv_at hl 0 rfl) ?_
  refine lv_iload_n hc.x hc.b dX12_price_6 rfl (lv_at hl 1 rfl) ?_
  obtain ⟨r_3, hq_2, hf⟩ := on_s hf
  refine k_i (k_runV hc hd my_X12_isStation tw_1452 hL0 rfl rfl rfl (c_X12_isStation l D cs B0 kt α Lv S_1 g0 x1 hc.cl hL0  hq_2) rfl rfl hl.1 (Nat.le_of_ble_eq_true rfl) ⟨Nat.le_of_ble_eq_true rfl, Nat.le_of_ble_eq_true rfl, Nat.zero_le _, Nat.zero_le _⟩ dX12_price_7) hd (fun H locs hd => ?_)
  refine jn_s (P := fun J_6 => ∀ (v_4 : Int32) (S_5 : St) (H : Heap) (locs : List Loc) (ls : Array Slot), J_6 v_4 S_5 = some o → Dy s D cs B0 α Lv S_5 H locs → lv_has ls 2 [] → W p l e (Rm 2 0 0) s m args below meth c H locs 0 0 (MQ below (Qi D cs B0 α Lv o.1 o.2) args s 0 0 (AB B0)) (F0 m 30 ls [.int v_4])) hf ?_ (fun J_6 hJ_6 hf => ?_)
  · intro v_4 S_5 H locs ls hf hd hl
    cases hf
    exact r_iret hc hd hr dX12_price_30
  refine lv_if_eq (tgt := 25) hc.x hc.b dX12_price_10 (by decide) (fun c_7 => ?_) (fun c_7 => ?_)
  · have hf := br_y c_7 hf
    refine lv_aload_n hc.x hc.b dX12_price_25 rfl (lv_at hl 0 rfl) ?_
    refine lv_iconst (v := 1) hc.x hc.b dX12_price_26 (by decide) ?_
    obtain ⟨r_10, S_9, hq_8, hf⟩ := on2_s hf
    refine k_i (k_runV hc hd my_X12_fails tw_1439 hL0 rfl rfl rfl (c_X12_fails l D cs B0 kt α Lv S_1 g0 1 hc.cl hL0  hq_8) rfl rfl hl.1 (Nat.le_of_ble_eq_true rfl) ⟨Nat.le_of_ble_eq_true rfl, Nat.le_of_ble_eq_true rfl, Nat.zero_le _, Nat.zero_le _⟩ dX12_price_27) hd (fun H locs hd => ?_)
    exact hJ_6 r_10 S_9 _ _ _ hf hd (lv_sub hl [] rfl)
  · have hf := br_n c_7 hf
    refine lv_aload_n hc.x hc.b dX12_price_13 rfl (lv_at hl 0 rfl) ?_
    refine fg_60_0 hc hd hL0 tw_1309 dX12_price_14 ?_
    refine lv_bipush (v := 12) hc.x hc.b dX12_price_17 (by decide) ?_
    refine lv_iload_n hc.x hc.b dX12_price_19 rfl (lv_at hl 1 rfl) ?_
    refine lv_iadd hc.x hc.b dX12_price_20 ?_
    obtain ⟨hi_11, hf⟩ := ck_s hf
    refine r_iald hc hd (cl_60_told hc.cl hL0) rfl hi_11 dX12_price_21 ?_
    refine lv_goto (tgt := 30) hc.x hc.b dX12_price_22 (by decide) ?_
    exact hJ_6 (gi S_1 61 g0 (nn (12 + x1))) S_1 _ _ _ hf hd (lv_sub hl [] rfl)
theorem c_X12_price (l : Launch) (D : va_G) (cs : Nat → ClassId) (B0 : Nat) (kt : (Nat → Nat) × (Nat → Nat)) (α : Nat → Nat → Nat) (Lv : Nat → Nat → Prop) (S : St) (g0 : Nat) (x1 : Int32) (hcl : Cl Lv) (hL0 : Lv 60 g0) {o : Int32 × St} (hf : f_X12_price g0 x1 S = some o) : Met l yX12_price (wz yX12_price cX12_price 2 (some .int)) (Rm 2 0 0) (Pz D cs B0 kt α Lv S [.ref (α 60 g0), .int x1]) (Qi D cs B0 α Lv o.1 o.2) 0 0 (AB B0) := met_of (by decide) rfl hcl (Nat.le_of_ble_eq_true rfl) (fun p e s m below meth c hc hr hd ls hl => b_X12_price hc hr hL0 hf hd hl)
theorem my_X12_price : MyV yX12_price "PumpCrossingModel" cX12_price 2 (some .int) 1 := ⟨tw_1646, tw_1647, tw_11, tw_1648, by decide +kernel⟩
def f_X12_punish (g0 : Nat) (x1 : Int32) (x2 : Int32) (x3 : Int32) (x4 : Int32) (x5 : Int32) (S : St) : Option (Int32 × St) := on (f_X12_learnFault g0 x1 x2 x3 2000 S) (fun r_2 => bv (si S 60 g0 5 r_2) (fun S_3 => br ((gi S_3 60 g0 5) ≤ 0) (on (f_X12_isLevel g0 x5 S_3) (fun r_6 => br (r_6 = 0) (on2 (f_X12_fails g0 3 S_3) (fun r_16 S_15 => some (r_16, S_15))) (on (f_X12_layGains g0 x1 x2 S_3) (fun S_9 => on (f_X12_learns g0 x3 x4 S_9) (fun S_11 => on (f_X12_greatest g0 1 x5 S_11) (fun r_13 => some (r_13, S_11))))))) (some (0, S_3))))
set_option maxRecDepth 100000 in
set_option maxHeartbeats 4000000 in
theorem b_X12_punish (hc : Cx p s m args meth c cX12_punish 6 "PumpCrossingModel" D cs B0 kt Lv) (hr : meth.sig.returnType = some .int)  {o : Int32 × St}  {S : St} {g0 : Nat} {x1 : Int32} {x2 : Int32} {x3 : Int32} {x4 : Int32} {x5 : Int32} (hL0 : Lv 60 g0) {H : Heap} {locs : List Loc} {ls : Array Slot} (hf : f_X12_punish g0 x1 x2 x3 x4 x5 S = some o) (hd : Dy s D cs B0 α Lv S H locs) (hl : lv_has ls 6 [(0, .ref (α 60 g0)), (1, .int x1), (2, .int x2), (3, .int x3), (4, .int x4), (5, .int x5)]) : W p l e (Rm 4 0 0) s m args below meth c H locs 0 0 (MQ below (Qi D cs B0 α Lv o.1 o.2) args s 0 0 (AB B0)) (F0 m 0 ls []) := by
  unfold f_X12_punish at hf
  refine lv_aload_n hc.x hc.b dX12_punish_0 rfl (lv_at hl 0 rfl) ?_
  refine lv_aload_n hc.x hc.b dX12_punish_1 rfl (lv_at hl 0 rfl) ?_
  refine lv_iload_n hc.x hc.b dX12_punish_2 rfl (lv_at hl 1 rfl) ?_
  refine lv_iload_n hc.x hc.b dX12_punish_3 rfl (lv_at hl 2 rfl) ?_
  refine lv_iload_n hc.x hc.b dX12_punish_4 rfl (lv_at hl 3 rfl) ?_
  refine lv_sipush (v := 2000) hc.x hc.b dX12_punish_5 (by decide) ?_
  obtain ⟨r_2, hq_1, hf⟩ := on_s hf
  refine k_i (k_runV hc hd my_X12_learnFault tw_1789 hL0 rfl rfl rfl (c_X12_learnFault l D cs B0 kt α Lv S g0 x1 x2 x3 2000 hc.cl hL0  hq_1) rfl rfl hl.1 (Nat.le_of_ble_eq_true rfl) ⟨Nat.le_of_ble_eq_true rfl, Nat.le_of_ble_eq_true rfl, Nat.zero_le _, Nat.zero_le _⟩ dX12_punish_8) hd (fun H locs hd => ?_)
  refine fp_60_5 hc hd hL0 tw_1314 dX12_punish_11 (fun H locs hd => ?_)
  obtain ⟨S_3, hd, hf⟩ := nmD hd hf
  refine lv_aload_n hc.x hc.b dX12_punish_14 rfl (lv_at hl 0 rfl) ?_
  refine fg_60_5 hc hd hL0 tw_1314 dX12_punish_15 ?_
  refine lv_if_le (tgt := 23) hc.x hc.b dX12_punish_18 (by decide) (fun c_4 => ?_) (fun c_4 => ?_)
  · have hf := br_y c_4 hf
    refine lv_aload_n hc.x hc.b dX12_punish_23 rfl (lv_at hl 0 rfl) ?_
    refine lv_iload hc.x hc.b dX12_punish_24 (lv_at hl 5 rfl) ?_
    obtain ⟨r_6, hq_5, hf⟩ := on_s hf
    refine k_i (k_runV hc hd my_X12_isLevel tw_1728 hL0 rfl rfl rfl (c_X12_isLevel l D cs B0 kt α Lv S_3 g0 x5 hc.cl hL0  hq_5) rfl rfl hl.1 (Nat.le_of_ble_eq_true rfl) ⟨Nat.le_of_ble_eq_true rfl, Nat.le_of_ble_eq_true rfl, Nat.zero_le _, Nat.zero_le _⟩ dX12_punish_26) hd (fun H locs hd => ?_)
    refine lv_if_ne (tgt := 38) hc.x hc.b dX12_punish_29 (by decide) (fun c_7 => ?_) (fun c_7 => ?_)
    · have hf := br_n c_7 hf
      refine lv_aload_n hc.x hc.b dX12_punish_38 rfl (lv_at hl 0 rfl) ?_
      refine lv_iload_n hc.x hc.b dX12_punish_39 rfl (lv_at hl 1 rfl) ?_
      refine lv_iload_n hc.x hc.b dX12_punish_40 rfl (lv_at hl 2 rfl) ?_
      obtain ⟨S_9, hq_8, hf⟩ := on_s hf
      refine k_v (k_runV hc hd my_X12_layGains tw_1732 hL0 rfl rfl rfl (c_X12_layGains l D cs B0 kt α Lv S_3 g0 x1 x2 hc.cl hL0  hq_8) rfl rfl hl.1 (Nat.le_of_ble_eq_true rfl) ⟨Nat.le_of_ble_eq_true rfl, Nat.le_of_ble_eq_true rfl, Nat.zero_le _, Nat.zero_le _⟩ dX12_punish_41) hd (fun H locs hd => ?_)
      refine lv_aload_n hc.x hc.b dX12_punish_44 rfl (lv_at hl 0 rfl) ?_
      refine lv_iload_n hc.x hc.b dX12_punish_45 rfl (lv_at hl 3 rfl) ?_
      refine lv_iload hc.x hc.b dX12_punish_46 (lv_at hl 4 rfl) ?_
      obtain ⟨S_11, hq_10, hf⟩ := on_s hf
      refine k_v (k_runV hc hd my_X12_learns tw_1793 hL0 rfl rfl rfl (c_X12_learns l D cs B0 kt α Lv S_9 g0 x3 x4 hc.cl hL0  hq_10) rfl rfl hl.1 (Nat.le_of_ble_eq_true rfl) ⟨Nat.le_of_ble_eq_true rfl, Nat.le_of_ble_eq_true rfl, Nat.zero_le _, Nat.zero_le _⟩ dX12_punish_48) hd (fun H locs hd => ?_)
      refine lv_aload_n hc.x hc.b dX12_punish_51 rfl (lv_at hl 0 rfl) ?_
      refine lv_iconst (v := 1) hc.x hc.b dX12_punish_52 (by decide) ?_
      refine lv_iload hc.x hc.b dX12_punish_53 (lv_at hl 5 rfl) ?_
      obtain ⟨r_13, hq_12, hf⟩ := on_s hf
      refine k_i (k_runV hc hd my_X12_greatest tw_1806 hL0 rfl rfl rfl (c_X12_greatest l D cs B0 kt α Lv S_11 g0 1 x5 hc.cl hL0  hq_12) rfl rfl hl.1 (Nat.le_of_ble_eq_true rfl) ⟨Nat.le_of_ble_eq_true rfl, Nat.le_of_ble_eq_true rfl, Nat.zero_le _, Nat.zero_le _⟩ dX12_punish_55) hd (fun H locs hd => ?_)
      cases hf
      exact r_iret hc hd hr dX12_punish_58
    · have hf := br_y c_7 hf
      refine lv_aload_n hc.x hc.b dX12_punish_32 rfl (lv_at hl 0 rfl) ?_
      refine lv_iconst (v := 3) hc.x hc.b dX12_punish_33 (by decide) ?_
      obtain ⟨r_16, S_15, hq_14, hf⟩ := on2_s hf
      refine k_i (k_runV hc hd my_X12_fails tw_1439 hL0 rfl rfl rfl (c_X12_fails l D cs B0 kt α Lv S_3 g0 3 hc.cl hL0  hq_14) rfl rfl hl.1 (Nat.le_of_ble_eq_true rfl) ⟨Nat.le_of_ble_eq_true rfl, Nat.le_of_ble_eq_true rfl, Nat.zero_le _, Nat.zero_le _⟩ dX12_punish_34) hd (fun H locs hd => ?_)
      cases hf
      exact r_iret hc hd hr dX12_punish_37
  · have hf := br_n c_4 hf
    refine lv_iconst (v := 0) hc.x hc.b dX12_punish_21 (by decide) ?_
    cases hf
    exact r_iret hc hd hr dX12_punish_22
theorem c_X12_punish (l : Launch) (D : va_G) (cs : Nat → ClassId) (B0 : Nat) (kt : (Nat → Nat) × (Nat → Nat)) (α : Nat → Nat → Nat) (Lv : Nat → Nat → Prop) (S : St) (g0 : Nat) (x1 : Int32) (x2 : Int32) (x3 : Int32) (x4 : Int32) (x5 : Int32) (hcl : Cl Lv) (hL0 : Lv 60 g0) {o : Int32 × St} (hf : f_X12_punish g0 x1 x2 x3 x4 x5 S = some o) : Met l yX12_punish (wz yX12_punish cX12_punish 6 (some .int)) (Rm 4 0 0) (Pz D cs B0 kt α Lv S [.ref (α 60 g0), .int x1, .int x2, .int x3, .int x4, .int x5]) (Qi D cs B0 α Lv o.1 o.2) 0 0 (AB B0) := met_of (by decide) rfl hcl (Nat.le_of_ble_eq_true rfl) (fun p e s m below meth c hc hr hd ls hl => b_X12_punish hc hr hL0 hf hd hl)
theorem my_X12_punish : MyV yX12_punish "PumpCrossingModel" cX12_punish 6 (some .int) 5 := ⟨tw_1819, tw_1820, tw_11, tw_1821, by decide +kernel⟩
def f_X12_puts (g0 : Nat) (x1 : Int32) (S : St) : Option (St) := br ((gi S 60 g0 16) = 0) (ck (inb (gi S 60 g0 20) 440 = true) (bv (si S 67 g0 (nn (gi S 60 g0 20)) x1) (fun S_3 => bv (si S_3 60 g0 20 ((gi S_3 60 g0 20) + 1)) (fun S_4 => some S_4)))) (some S)
set_option maxRecDepth 100000 in
set_option maxHeartbeats 4000000 in
theorem b_X12_puts (hc : Cx p s m args meth c cX12_puts 2 "PumpCrossingModel" D cs B0 kt Lv) (hr : meth.sig.returnType = none)  {o : St}  {S : St} {g0 : Nat} {x1 : Int32} (hL0 : Lv 60 g0) {H : Heap} {locs : List Loc} {ls : Array Slot} (hf : f_X12_puts g0 x1 S = some o) (hd : Dy s D cs B0 α Lv S H locs) (hl : lv_has ls 2 [(0, .ref (α 60 g0)), (1, .int x1)]) : W p l e (Rm 0 0 0) s m args below meth c H locs 0 0 (MQ below (Qv D cs B0 α Lv o) args s 0 0 (AB B0)) (F0 m 0 ls []) := by
  unfold f_X12_puts at hf
  refine lv_aload_n hc.x hc.b dX12_puts_0 rfl (lv_at hl 0 rfl) ?_
  refine fg_60_16 hc hd hL0 tw_1325 dX12_puts_1 ?_
  refine lv_if_eq (tgt := 8) hc.x hc.b dX12_puts_4 (by decide) (fun c_1 => ?_) (fun c_1 => ?_)
  · have hf := br_y c_1 hf
    refine lv_aload_n hc.x hc.b dX12_puts_8 rfl (lv_at hl 0 rfl) ?_
    refine fg_60_7 hc hd hL0 tw_1316 dX12_puts_9 ?_
    refine lv_aload_n hc.x hc.b dX12_puts_12 rfl (lv_at hl 0 rfl) ?_
    refine fg_60_20 hc hd hL0 tw_1329 dX12_puts_13 ?_
    refine lv_iload_n hc.x hc.b dX12_puts_16 rfl (lv_at hl 1 rfl) ?_
    obtain ⟨hi_2, hf⟩ := ck_s hf
    refine r_iast hc hd (cl_60_fresh hc.cl hL0) (fun _ => rfl) hi_2 dX12_puts_17 (fun H locs hd => ?_)
    obtain ⟨S_3, hd, hf⟩ := nmD hd hf
    refine lv_aload_n hc.x hc.b dX12_puts_18 rfl (lv_at hl 0 rfl) ?_
    refine lv_dup hc.x hc.b dX12_puts_19 rfl ?_
    refine fg_60_20 hc hd hL0 tw_1329 dX12_puts_20 ?_
    refine lv_iconst (v := 1) hc.x hc.b dX12_puts_23 (by decide) ?_
    refine lv_iadd hc.x hc.b dX12_puts_24 ?_
    refine fp_60_20 hc hd hL0 tw_1329 dX12_puts_25 (fun H locs hd => ?_)
    obtain ⟨S_4, hd, hf⟩ := nmD hd hf
    cases hf
    exact r_vret hc hd hr dX12_puts_28
  · have hf := br_n c_1 hf
    cases hf
    exact r_vret hc hd hr dX12_puts_7
theorem c_X12_puts (l : Launch) (D : va_G) (cs : Nat → ClassId) (B0 : Nat) (kt : (Nat → Nat) × (Nat → Nat)) (α : Nat → Nat → Nat) (Lv : Nat → Nat → Prop) (S : St) (g0 : Nat) (x1 : Int32) (hcl : Cl Lv) (hL0 : Lv 60 g0) {o : St} (hf : f_X12_puts g0 x1 S = some o) : Met l yX12_puts (wz yX12_puts cX12_puts 2 none) (Rm 0 0 0) (Pz D cs B0 kt α Lv S [.ref (α 60 g0), .int x1]) (Qv D cs B0 α Lv o) 0 0 (AB B0) := met_of (by decide) rfl hcl (Nat.le_of_ble_eq_true rfl) (fun p e s m below meth c hc hr hd ls hl => b_X12_puts hc hr hL0 hf hd hl)
theorem my_X12_puts : MyV yX12_puts "PumpCrossingModel" cX12_puts 2 none 1 := ⟨tw_1528, (in_sel 46 (by decide +kernel) (by decide +kernel)), tw_11, tw_1529, by decide +kernel⟩
def f_X12_reply_45 (g0 : Nat) (x3 : Int32) (K : Int32 → St → Option (Int32 × St)) : Nat → Int32 → Int32 → St → Option (Int32 × St)
  | 0, _, _, _ => none
  | n + 1, x4, x5, S => ck (inb 3 3179 = true) (br ((gi S 61 g0 (nn 3)) ≤ x5) (K x4 S) (on (f_X12_gainOf g0 x5 x3 0 S) (fun r_13 => on (f_X12_gainOf g0 x4 x3 0 S) (fun r_15 => bv (fun (x4_16 : Int32) (S_17 : St) => bv (x5 + 1) (fun x5_19 => f_X12_reply_45 g0 x3 K n x4_16 x5_19 S_17)) (fun J_18 => br (r_13 ≤ r_15) (J_18 x4 S) (J_18 x5 S))))))
def f_X12_reply (g0 : Nat) (x1 : Int32) (x2 : Int32) (x3 : Int32) (S : St) : Option (Int32 × St) := on (f_X12_pairFault g0 x1 x2 S) (fun r_2 => bv (si S 60 g0 5 r_2) (fun S_3 => br ((gi S_3 60 g0 5) ≤ 0) (on (f_X12_isLevel g0 x3 S_3) (fun r_6 => br (r_6 = 0) (on2 (f_X12_fails g0 3 S_3) (fun r_25 S_24 => some (r_25, S_24))) (on (f_X12_layGains g0 x1 x2 S_3) (fun S_9 => f_X12_reply_45 g0 x3 (fun (x4_21 : Int32) (S_22 : St) => some (x4_21, S_22)) FU 0 1 S_9)))) (some (0, S_3))))
set_option maxRecDepth 100000 in
set_option maxHeartbeats 4000000 in
theorem w_X12_reply_45 (hc : Cx p s m args meth c cX12_reply 6 "PumpCrossingModel" D cs B0 kt Lv) (hr : meth.sig.returnType = some .int) {o : Int32 × St}  {g0 : Nat} {x3 : Int32} {K : Int32 → St → Option (Int32 × St)} (hL0 : Lv 60 g0) (hK : ∀ (k4 : Int32) (S : St) (H : Heap) (locs : List Loc) (ls : Array Slot), K k4 S = some o → Dy s D cs B0 α Lv S H locs → lv_has ls 6 [(4, .int k4)] → W p l e (Rm 3 0 0) s m args below meth c H locs 0 0 (MQ below (Qi D cs B0 α Lv o.1 o.2) args s 0 0 (AB B0)) (F0 m 85 ls [])) : ∀ (n : Nat) (x4 : Int32) (x5 : Int32) (S : St) (H : Heap) (locs : List Loc) (ls : Array Slot), f_X12_reply_45 g0 x3 K n x4 x5 S = some o → Dy s D cs B0 α Lv S H locs → lv_has ls 6 [(0, .ref (α 60 g0)), (3, .int x3), (4, .int x4), (5, .int x5)] → W p l e (Rm 3 0 0) s m args below meth c H locs 0 0 (MQ below (Qi D cs B0 α Lv o.1 o.2) args s 0 0 (AB B0)) (F0 m 45 ls []) := by
  intro n
  induction n with
  | zero =>
    intro x4 x5 S H locs ls hf
    rw [f_X12_reply_45] at hf
    cases hf
  | succ n ih =>
    intro x4 x5 S H locs ls hf hd hl
    rw [f_X12_reply_45] at hf
    refine lv_iload hc.x hc.b dX12_reply_45 (lv_at hl 3 rfl) ?_
    refine lv_aload_n hc.x hc.b dX12_reply_47 rfl (lv_at hl 0 rfl) ?_
    refine fg_60_0 hc hd hL0 tw_1309 dX12_reply_48 ?_
    refine lv_iconst (v := 3) hc.x hc.b dX12_reply_51 (by decide) ?_
    obtain ⟨hi_10, hf⟩ := ck_s hf
    refine r_iald hc hd (cl_60_told hc.cl hL0) rfl hi_10 dX12_reply_52 ?_
    refine lv_icmp_ge (tgt := 85) hc.x hc.b dX12_reply_53 (by decide) (fun c_11 => ?_) (fun c_11 => ?_)
    · have hf := br_y c_11 hf
      exact hK x4 S _ _ _ hf hd (lv_sub hl [2] rfl)
    · have hf := br_n c_11 hf
      refine lv_aload_n hc.x hc.b dX12_reply_56 rfl (lv_at hl 0 rfl) ?_
      refine lv_iload hc.x hc.b dX12_reply_57 (lv_at hl 3 rfl) ?_
      refine lv_iload_n hc.x hc.b dX12_reply_59 rfl (lv_at hl 1 rfl) ?_
      refine lv_iconst (v := 0) hc.x hc.b dX12_reply_60 (by decide) ?_
      obtain ⟨r_13, hq_12, hf⟩ := on_s hf
      refine k_i (k_runV hc hd my_X12_gainOf tw_1740 hL0 rfl rfl rfl (c_X12_gainOf l D cs B0 kt α Lv S g0 x5 x3 0 hc.cl hL0  hq_12) rfl rfl hl.1 (Nat.le_of_ble_eq_true rfl) ⟨Nat.le_of_ble_eq_true rfl, Nat.le_of_ble_eq_true rfl, Nat.zero_le _, Nat.zero_le _⟩ dX12_reply_61) hd (fun H locs hd => ?_)
      refine lv_aload_n hc.x hc.b dX12_reply_64 rfl (lv_at hl 0 rfl) ?_
      refine lv_iload hc.x hc.b dX12_reply_65 (lv_at hl 2 rfl) ?_
      refine lv_iload_n hc.x hc.b dX12_reply_67 rfl (lv_at hl 1 rfl) ?_
      refine lv_iconst (v := 0) hc.x hc.b dX12_reply_68 (by decide) ?_
      obtain ⟨r_15, hq_14, hf⟩ := on_s hf
      refine k_i (k_runV hc hd my_X12_gainOf tw_1740 hL0 rfl rfl rfl (c_X12_gainOf l D cs B0 kt α Lv S g0 x4 x3 0 hc.cl hL0  hq_14) rfl rfl hl.1 (Nat.le_of_ble_eq_true rfl) ⟨Nat.le_of_ble_eq_true rfl, Nat.le_of_ble_eq_true rfl, Nat.zero_le _, Nat.zero_le _⟩ dX12_reply_69) hd (fun H locs hd => ?_)
      refine jn_s (P := fun J_18 => ∀ (x4_16 : Int32) (S_17 : St) (H : Heap) (locs : List Loc) (ls : Array Slot), J_18 x4_16 S_17 = some o → Dy s D cs B0 α Lv S_17 H locs → lv_has ls 6 [(0, .ref (α 60 g0)), (3, .int x3), (4, .int x4_16), (5, .int x5)] → W p l e (Rm 3 0 0) s m args below meth c H locs 0 0 (MQ below (Qi D cs B0 α Lv o.1 o.2) args s 0 0 (AB B0)) (F0 m 79 ls [])) hf ?_ (fun J_18 hJ_18 hf => ?_)
      · intro x4_16 S_17 H locs ls hf hd hl
        obtain ⟨x5_19, ex5_19⟩ : ∃ z : Int32, z = x5 + 1 := ⟨_, rfl⟩
        have hf := bv_n ex5_19 hf
        refine lv_iinc (v := x5_19) (lv' := [(5, .int x5_19), (0, .ref (α 60 g0)), (3, .int x3), (4, .int x4_16)]) hc.x hc.b dX12_reply_79 hl (k := 3) rfl (by rw [ex5_19]; rfl) (by decide) rfl (fun ls hl => ?_)
        refine lv_goto (tgt := 45) hc.x hc.b dX12_reply_82 (by decide) ?_
        exact ih x4_16 x5_19 S_17 _ _ _ hf hd (lv_sub hl [1, 2, 3, 0] rfl)
      refine lv_icmp_le (tgt := 79) hc.x hc.b dX12_reply_72 (by decide) (fun c_20 => ?_) (fun c_20 => ?_)
      · have hf := br_y c_20 hf
        exact hJ_18 x4 S _ _ _ hf hd (lv_sub hl [0, 1, 2, 3] rfl)
      · have hf := br_n c_20 hf
        refine lv_iload hc.x hc.b dX12_reply_75 (lv_at hl 3 rfl) ?_
        refine lv_istore (lv' := [(4, .int x5), (0, .ref (α 60 g0)), (3, .int x3), (5, .int x5)]) hc.x hc.b dX12_reply_77 hl (by decide) rfl (fun ls hl => ?_)
        exact hJ_18 x5 S _ _ _ hf hd (lv_sub hl [1, 2, 0, 3] rfl)
set_option maxRecDepth 100000 in
set_option maxHeartbeats 4000000 in
theorem b_X12_reply (hc : Cx p s m args meth c cX12_reply 6 "PumpCrossingModel" D cs B0 kt Lv) (hr : meth.sig.returnType = some .int)  {o : Int32 × St}  {S : St} {g0 : Nat} {x1 : Int32} {x2 : Int32} {x3 : Int32} (hL0 : Lv 60 g0) {H : Heap} {locs : List Loc} {ls : Array Slot} (hf : f_X12_reply g0 x1 x2 x3 S = some o) (hd : Dy s D cs B0 α Lv S H locs) (hl : lv_has ls 6 [(0, .ref (α 60 g0)), (1, .int x1), (2, .int x2), (3, .int x3)]) : W p l e (Rm 3 0 0) s m args below meth c H locs 0 0 (MQ below (Qi D cs B0 α Lv o.1 o.2) args s 0 0 (AB B0)) (F0 m 0 ls []) := by
  unfold f_X12_reply at hf
  refine lv_aload_n hc.x hc.b dX12_reply_0 rfl (lv_at hl 0 rfl) ?_
  refine lv_aload_n hc.x hc.b dX12_reply_1 rfl (lv_at hl 0 rfl) ?_
  refine lv_iload_n hc.x hc.b dX12_reply_2 rfl (lv_at hl 1 rfl) ?_
  refine lv_iload_n hc.x hc.b dX12_reply_3 rfl (lv_at hl 2 rfl) ?_
  obtain ⟨r_2, hq_1, hf⟩ := on_s hf
  refine k_i (k_runV hc hd my_X12_pairFault tw_1724 hL0 rfl rfl rfl (c_X12_pairFault l D cs B0 kt α Lv S g0 x1 x2 hc.cl hL0  hq_1) rfl rfl hl.1 (Nat.le_of_ble_eq_true rfl) ⟨Nat.le_of_ble_eq_true rfl, Nat.le_of_ble_eq_true rfl, Nat.zero_le _, Nat.zero_le _⟩ dX12_reply_4) hd (fun H locs hd => ?_)
  refine fp_60_5 hc hd hL0 tw_1314 dX12_reply_7 (fun H locs hd => ?_)
  obtain ⟨S_3, hd, hf⟩ := nmD hd hf
  refine lv_aload_n hc.x hc.b dX12_reply_10 rfl (lv_at hl 0 rfl) ?_
  refine fg_60_5 hc hd hL0 tw_1314 dX12_reply_11 ?_
  refine lv_if_le (tgt := 19) hc.x hc.b dX12_reply_14 (by decide) (fun c_4 => ?_) (fun c_4 => ?_)
  · have hf := br_y c_4 hf
    refine lv_aload_n hc.x hc.b dX12_reply_19 rfl (lv_at hl 0 rfl) ?_
    refine lv_iload_n hc.x hc.b dX12_reply_20 rfl (lv_at hl 3 rfl) ?_
    obtain ⟨r_6, hq_5, hf⟩ := on_s hf
    refine k_i (k_runV hc hd my_X12_isLevel tw_1728 hL0 rfl rfl rfl (c_X12_isLevel l D cs B0 kt α Lv S_3 g0 x3 hc.cl hL0  hq_5) rfl rfl hl.1 (Nat.le_of_ble_eq_true rfl) ⟨Nat.le_of_ble_eq_true rfl, Nat.le_of_ble_eq_true rfl, Nat.zero_le _, Nat.zero_le _⟩ dX12_reply_21) hd (fun H locs hd => ?_)
    refine lv_if_ne (tgt := 33) hc.x hc.b dX12_reply_24 (by decide) (fun c_7 => ?_) (fun c_7 => ?_)
    · have hf := br_n c_7 hf
      refine lv_aload_n hc.x hc.b dX12_reply_33 rfl (lv_at hl 0 rfl) ?_
      refine lv_iload_n hc.x hc.b dX12_reply_34 rfl (lv_at hl 1 rfl) ?_
      refine lv_iload_n hc.x hc.b dX12_reply_35 rfl (lv_at hl 2 rfl) ?_
      obtain ⟨S_9, hq_8, hf⟩ := on_s hf
      refine k_v (k_runV hc hd my_X12_layGains tw_1732 hL0 rfl rfl rfl (c_X12_layGains l D cs B0 kt α Lv S_3 g0 x1 x2 hc.cl hL0  hq_8) rfl rfl hl.1 (Nat.le_of_ble_eq_true rfl) ⟨Nat.le_of_ble_eq_true rfl, Nat.le_of_ble_eq_true rfl, Nat.zero_le _, Nat.zero_le _⟩ dX12_reply_36) hd (fun H locs hd => ?_)
      refine lv_iconst (v := 0) hc.x hc.b dX12_reply_39 (by decide) ?_
      refine lv_istore (lv' := [(4, .int 0), (0, .ref (α 60 g0)), (1, .int x1), (2, .int x2), (3, .int x3)]) hc.x hc.b dX12_reply_40 hl (by decide) rfl (fun ls hl => ?_)
      refine lv_iconst (v := 1) hc.x hc.b dX12_reply_42 (by decide) ?_
      refine lv_istore (lv' := [(5, .int 1), (4, .int 0), (0, .ref (α 60 g0)), (1, .int x1), (2, .int x2), (3, .int x3)]) hc.x hc.b dX12_reply_43 hl (by decide) rfl (fun ls hl => ?_)
      refine w_X12_reply_45 hc hr hL0 ?_ _ _ _ _ _ _ _ hf hd (lv_sub hl [2, 5, 1, 0] rfl)
      intro x4_21 S_22 H locs ls hf hd hl
      refine lv_iload hc.x hc.b dX12_reply_85 (lv_at hl 0 rfl) ?_
      cases hf
      exact r_iret hc hd hr dX12_reply_87
    · have hf := br_y c_7 hf
      refine lv_aload_n hc.x hc.b dX12_reply_27 rfl (lv_at hl 0 rfl) ?_
      refine lv_iconst (v := 3) hc.x hc.b dX12_reply_28 (by decide) ?_
      obtain ⟨r_25, S_24, hq_23, hf⟩ := on2_s hf
      refine k_i (k_runV hc hd my_X12_fails tw_1439 hL0 rfl rfl rfl (c_X12_fails l D cs B0 kt α Lv S_3 g0 3 hc.cl hL0  hq_23) rfl rfl hl.1 (Nat.le_of_ble_eq_true rfl) ⟨Nat.le_of_ble_eq_true rfl, Nat.le_of_ble_eq_true rfl, Nat.zero_le _, Nat.zero_le _⟩ dX12_reply_29) hd (fun H locs hd => ?_)
      cases hf
      exact r_iret hc hd hr dX12_reply_32
  · have hf := br_n c_4 hf
    refine lv_iconst (v := 0) hc.x hc.b dX12_reply_17 (by decide) ?_
    cases hf
    exact r_iret hc hd hr dX12_reply_18
theorem c_X12_reply (l : Launch) (D : va_G) (cs : Nat → ClassId) (B0 : Nat) (kt : (Nat → Nat) × (Nat → Nat)) (α : Nat → Nat → Nat) (Lv : Nat → Nat → Prop) (S : St) (g0 : Nat) (x1 : Int32) (x2 : Int32) (x3 : Int32) (hcl : Cl Lv) (hL0 : Lv 60 g0) {o : Int32 × St} (hf : f_X12_reply g0 x1 x2 x3 S = some o) : Met l yX12_reply (wz yX12_reply cX12_reply 6 (some .int)) (Rm 3 0 0) (Pz D cs B0 kt α Lv S [.ref (α 60 g0), .int x1, .int x2, .int x3]) (Qi D cs B0 α Lv o.1 o.2) 0 0 (AB B0) := met_of (by decide) rfl hcl (Nat.le_of_ble_eq_true rfl) (fun p e s m below meth c hc hr hd ls hl => b_X12_reply hc hr hL0 hf hd hl)
theorem my_X12_reply : MyV yX12_reply "PumpCrossingModel" cX12_reply 6 (some .int) 3 := ⟨tw_1745, tw_1746, tw_11, tw_1747, by decide +kernel⟩
def f_X12_restore_44 (g0 : Nat) (x1 : Int32) (K : St → Option (St)) : Nat → Int32 → St → Option (St)
  | 0, _, _ => none
  | n + 1, x2, S => br (3179 ≤ x2) (K S) (ck (inb ((3179 * x1) + x2) 9537 = true) (ck (inb x2 3179 = true) (bv (si S 61 g0 (nn x2) (gi S 62 g0 (nn ((3179 * x1) + x2)))) (fun S_11 => bv (x2 + 1) (fun x2_12 => f_X12_restore_44 g0 x1 K n x2_12 S_11)))))
def f_X12_restore_77 (g0 : Nat) (x1 : Int32) (K : St → Option (St)) : Nat → Int32 → St → Option (St)
  | 0, _, _ => none
  | n + 1, x2, S => br (9 ≤ x2) (K S) (ck (inb ((9 * x1) + x2) 27 = true) (ck (inb x2 9 = true) (bv (sl S 63 g0 (nn x2) (gl S 64 g0 (nn ((9 * x1) + x2)))) (fun S_17 => bv (x2 + 1) (fun x2_18 => f_X12_restore_77 g0 x1 K n x2_18 S_17)))))
def f_X12_restore (g0 : Nat) (x1 : Int32) (S : St) : Option (St) := on (f_X12_within (Int32.toInt64 x1) 0 2 S) (fun r_2 => bv (fun (v_3 : Int32) (S_4 : St) => bv (si S_4 60 g0 5 v_3) (fun S_6 => br ((gi S_6 60 g0 5) ≤ 0) (f_X12_restore_44 g0 x1 (fun  (S_13 : St) => f_X12_restore_77 g0 x1 (fun  (S_19 : St) => some S_19) FU 0 S_13) FU 0 S_6) (some S_6))) (fun J_5 => br (r_2 = 0) (J_5 1 S) (ck (inb x1 3 = true) (br ((gi S 65 g0 (nn x1)) = 0) (J_5 2 S) (J_5 0 S)))))
set_option maxRecDepth 100000 in
set_option maxHeartbeats 4000000 in
theorem w_X12_restore_44 (hc : Cx p s m args meth c cX12_restore 3 "PumpCrossingModel" D cs B0 kt Lv) (hr : meth.sig.returnType = none) {o : St}  {g0 : Nat} {x1 : Int32} {K : St → Option (St)} (hL0 : Lv 60 g0) (hK : ∀  (S : St) (H : Heap) (locs : List Loc) (ls : Array Slot), K S = some o → Dy s D cs B0 α Lv S H locs → lv_has ls 3 [(0, .ref (α 60 g0)), (1, .int x1)] → W p l e (Rm 1 0 0) s m args below meth c H locs 0 0 (MQ below (Qv D cs B0 α Lv o) args s 0 0 (AB B0)) (F0 m 75 ls [])) : ∀ (n : Nat) (x2 : Int32) (S : St) (H : Heap) (locs : List Loc) (ls : Array Slot), f_X12_restore_44 g0 x1 K n x2 S = some o → Dy s D cs B0 α Lv S H locs → lv_has ls 3 [(0, .ref (α 60 g0)), (1, .int x1), (2, .int x2)] → W p l e (Rm 1 0 0) s m args below meth c H locs 0 0 (MQ below (Qv D cs B0 α Lv o) args s 0 0 (AB B0)) (F0 m 44 ls []) := by
  intro n
  induction n with
  | zero =>
    intro x2 S H locs ls hf
    rw [f_X12_restore_44] at hf
    cases hf
  | succ n ih =>
    intro x2 S H locs ls hf hd hl
    rw [f_X12_restore_44] at hf
    refine lv_iload_n hc.x hc.b dX12_restore_44 rfl (lv_at hl 2 rfl) ?_
    refine lv_sipush (v := 3179) hc.x hc.b dX12_restore_45 (by decide) ?_
    refine lv_icmp_ge (tgt := 75) hc.x hc.b dX12_restore_48 (by decide) (fun c_8 => ?_) (fun c_8 => ?_)
    · have hf := br_y c_8 hf
      exact hK S _ _ _ hf hd (lv_sub hl [0, 1] rfl)
    · have hf := br_n c_8 hf
      refine lv_aload_n hc.x hc.b dX12_restore_51 rfl (lv_at hl 0 rfl) ?_
      refine fg_60_0 hc hd hL0 tw_1309 dX12_restore_52 ?_
      refine lv_iload_n hc.x hc.b dX12_restore_55 rfl (lv_at hl 2 rfl) ?_
      refine lv_aload_n hc.x hc.b dX12_restore_56 rfl (lv_at hl 0 rfl) ?_
      refine fg_60_1 hc hd hL0 tw_1310 dX12_restore_57 ?_
      refine lv_sipush (v := 3179) hc.x hc.b dX12_restore_60 (by decide) ?_
      refine lv_iload_n hc.x hc.b dX12_restore_63 rfl (lv_at hl 1 rfl) ?_
      refine lv_imul hc.x hc.b dX12_restore_64 ?_
      refine lv_iload_n hc.x hc.b dX12_restore_65 rfl (lv_at hl 2 rfl) ?_
      refine lv_iadd hc.x hc.b dX12_restore_66 ?_
      obtain ⟨hi_9, hf⟩ := ck_s hf
      refine r_iald hc hd (cl_60_images hc.cl hL0) rfl hi_9 dX12_restore_67 ?_
      obtain ⟨hi_10, hf⟩ := ck_s hf
      refine r_iast hc hd (cl_60_told hc.cl hL0) (fun _ => rfl) hi_10 dX12_restore_68 (fun H locs hd => ?_)
      obtain ⟨S_11, hd, hf⟩ := nmD hd hf
      obtain ⟨x2_12, ex2_12⟩ : ∃ z : Int32, z = x2 + 1 := ⟨_, rfl⟩
      have hf := bv_n ex2_12 hf
      refine lv_iinc (v := x2_12) (lv' := [(2, .int x2_12), (0, .ref (α 60 g0)), (1, .int x1)]) hc.x hc.b dX12_restore_69 hl (k := 2) rfl (by rw [ex2_12]; rfl) (by decide) rfl (fun ls hl => ?_)
      refine lv_goto (tgt := 44) hc.x hc.b dX12_restore_72 (by decide) ?_
      exact ih x2_12 S_11 _ _ _ hf hd (lv_sub hl [1, 2, 0] rfl)
set_option maxRecDepth 100000 in
set_option maxHeartbeats 4000000 in
theorem w_X12_restore_77 (hc : Cx p s m args meth c cX12_restore 3 "PumpCrossingModel" D cs B0 kt Lv) (hr : meth.sig.returnType = none) {o : St}  {g0 : Nat} {x1 : Int32} {K : St → Option (St)} (hL0 : Lv 60 g0) (hK : ∀  (S : St) (H : Heap) (locs : List Loc) (ls : Array Slot), K S = some o → Dy s D cs B0 α Lv S H locs → lv_has ls 3 [] → W p l e (Rm 1 0 0) s m args below meth c H locs 0 0 (MQ below (Qv D cs B0 α Lv o) args s 0 0 (AB B0)) (F0 m 106 ls [])) : ∀ (n : Nat) (x2 : Int32) (S : St) (H : Heap) (locs : List Loc) (ls : Array Slot), f_X12_restore_77 g0 x1 K n x2 S = some o → Dy s D cs B0 α Lv S H locs → lv_has ls 3 [(0, .ref (α 60 g0)), (1, .int x1), (2, .int x2)] → W p l e (Rm 1 0 0) s m args below meth c H locs 0 0 (MQ below (Qv D cs B0 α Lv o) args s 0 0 (AB B0)) (F0 m 77 ls []) := by
  intro n
  induction n with
  | zero =>
    intro x2 S H locs ls hf
    rw [f_X12_restore_77] at hf
    cases hf
  | succ n ih =>
    intro x2 S H locs ls hf hd hl
    rw [f_X12_restore_77] at hf
    refine lv_iload_n hc.x hc.b dX12_restore_77 rfl (lv_at hl 2 rfl) ?_
    refine lv_bipush (v := 9) hc.x hc.b dX12_restore_78 (by decide) ?_
    refine lv_icmp_ge (tgt := 106) hc.x hc.b dX12_restore_80 (by decide) (fun c_14 => ?_) (fun c_14 => ?_)
    · have hf := br_y c_14 hf
      exact hK S _ _ _ hf hd (lv_sub hl [] rfl)
    · have hf := br_n c_14 hf
      refine lv_aload_n hc.x hc.b dX12_restore_83 rfl (lv_at hl 0 rfl) ?_
      refine fg_60_2 hc hd hL0 tw_1311 dX12_restore_84 ?_
      refine lv_iload_n hc.x hc.b dX12_restore_87 rfl (lv_at hl 2 rfl) ?_
      refine lv_aload_n hc.x hc.b dX12_restore_88 rfl (lv_at hl 0 rfl) ?_
      refine fg_60_3 hc hd hL0 tw_1312 dX12_restore_89 ?_
      refine lv_bipush (v := 9) hc.x hc.b dX12_restore_92 (by decide) ?_
      refine lv_iload_n hc.x hc.b dX12_restore_94 rfl (lv_at hl 1 rfl) ?_
      refine lv_imul hc.x hc.b dX12_restore_95 ?_
      refine lv_iload_n hc.x hc.b dX12_restore_96 rfl (lv_at hl 2 rfl) ?_
      refine lv_iadd hc.x hc.b dX12_restore_97 ?_
      obtain ⟨hi_15, hf⟩ := ck_s hf
      refine r_lald hc hd (cl_60_imageSums hc.cl hL0) rfl hi_15 dX12_restore_98 ?_
      obtain ⟨hi_16, hf⟩ := ck_s hf
      refine r_last hc hd (cl_60_sums hc.cl hL0) (fun _ => rfl) hi_16 dX12_restore_99 (fun H locs hd => ?_)
      obtain ⟨S_17, hd, hf⟩ := nmD hd hf
      obtain ⟨x2_18, ex2_18⟩ : ∃ z : Int32, z = x2 + 1 := ⟨_, rfl⟩
      have hf := bv_n ex2_18 hf
      refine lv_iinc (v := x2_18) (lv' := [(2, .int x2_18), (0, .ref (α 60 g0)), (1, .int x1)]) hc.x hc.b dX12_restore_100 hl (k := 2) rfl (by rw [ex2_18]; rfl) (by decide) rfl (fun ls hl => ?_)
      refine lv_goto (tgt := 77) hc.x hc.b dX12_restore_103 (by decide) ?_
      exact ih x2_18 S_17 _ _ _ hf hd (lv_sub hl [1, 2, 0] rfl)
set_option maxRecDepth 100000 in
set_option maxHeartbeats 4000000 in
theorem b_X12_restore (hc : Cx p s m args meth c cX12_restore 3 "PumpCrossingModel" D cs B0 kt Lv) (hr : meth.sig.returnType = none)  {o : St}  {S : St} {g0 : Nat} {x1 : Int32} (hL0 : Lv 60 g0) {H : Heap} {locs : List Loc} {ls : Array Slot} (hf : f_X12_restore g0 x1 S = some o) (hd : Dy s D cs B0 α Lv S H locs) (hl : lv_has ls 3 [(0, .ref (α 60 g0)), (1, .int x1)]) : W p l e (Rm 1 0 0) s m args below meth c H locs 0 0 (MQ below (Qv D cs B0 α Lv o) args s 0 0 (AB B0)) (F0 m 0 ls []) := by
  unfold f_X12_restore at hf
  refine lv_aload_n hc.x hc.b dX12_restore_0 rfl (lv_at hl 0 rfl) ?_
  refine lv_iload_n hc.x hc.b dX12_restore_1 rfl (lv_at hl 1 rfl) ?_
  refine lv_i2l (v := Int32.toInt64 x1) hc.x hc.b dX12_restore_2 rfl ?_
  refine lv_lconst (v := 0) hc.x hc.b dX12_restore_3 (by decide) ?_
  refine lv_ldc2 (v := 2) hc.x hc.b hc.ow (hc.ts tw_1669) dX12_restore_4 ?_
  obtain ⟨r_2, hq_1, hf⟩ := on_s hf
  refine k_i (k_runS hc hd my_X12_within tw_1444 (c_X12_within l D cs B0 kt α Lv S (Int32.toInt64 x1) 0 2 hc.cl   hq_1) rfl rfl hl.1 (Nat.le_of_ble_eq_true rfl) ⟨Nat.le_of_ble_eq_true rfl, Nat.le_of_ble_eq_true rfl, Nat.zero_le _, Nat.zero_le _⟩ dX12_restore_7) hd (fun H locs hd => ?_)
  refine jn_s (P := fun J_5 => ∀ (v_3 : Int32) (S_4 : St) (H : Heap) (locs : List Loc) (ls : Array Slot), J_5 v_3 S_4 = some o → Dy s D cs B0 α Lv S_4 H locs → lv_has ls 3 [(0, .ref (α 60 g0)), (1, .int x1)] → W p l e (Rm 1 0 0) s m args below meth c H locs 0 0 (MQ below (Qv D cs B0 α Lv o) args s 0 0 (AB B0)) (F0 m 31 ls [.int v_3, .ref (α 60 g0)])) hf ?_ (fun J_5 hJ_5 hf => ?_)
  · intro v_3 S_4 H locs ls hf hd hl
    refine fp_60_5 hc hd hL0 tw_1314 dX12_restore_31 (fun H locs hd => ?_)
    obtain ⟨S_6, hd, hf⟩ := nmD hd hf
    refine lv_aload_n hc.x hc.b dX12_restore_34 rfl (lv_at hl 0 rfl) ?_
    refine fg_60_5 hc hd hL0 tw_1314 dX12_restore_35 ?_
    refine lv_if_le (tgt := 42) hc.x hc.b dX12_restore_38 (by decide) (fun c_7 => ?_) (fun c_7 => ?_)
    · have hf := br_y c_7 hf
      refine lv_iconst (v := 0) hc.x hc.b dX12_restore_42 (by decide) ?_
      refine lv_istore_n (lv' := [(2, .int 0), (0, .ref (α 60 g0)), (1, .int x1)]) hc.x hc.b dX12_restore_43 rfl hl (by decide) rfl (fun ls hl => ?_)
      refine w_X12_restore_44 hc hr hL0 ?_ _ _ _ _ _ _ hf hd (lv_sub hl [1, 2, 0] rfl)
      intro S_13 H locs ls hf hd hl
      refine lv_iconst (v := 0) hc.x hc.b dX12_restore_75 (by decide) ?_
      refine lv_istore_n (lv' := [(2, .int 0), (0, .ref (α 60 g0)), (1, .int x1)]) hc.x hc.b dX12_restore_76 rfl hl (by decide) rfl (fun ls hl => ?_)
      refine w_X12_restore_77 hc hr hL0 ?_ _ _ _ _ _ _ hf hd (lv_sub hl [1, 2, 0] rfl)
      intro S_19 H locs ls hf hd hl
      cases hf
      exact r_vret hc hd hr dX12_restore_106
    · have hf := br_n c_7 hf
      cases hf
      exact r_vret hc hd hr dX12_restore_41
  refine lv_if_ne (tgt := 17) hc.x hc.b dX12_restore_10 (by decide) (fun c_20 => ?_) (fun c_20 => ?_)
  · have hf := br_n c_20 hf
    refine lv_aload_n hc.x hc.b dX12_restore_17 rfl (lv_at hl 0 rfl) ?_
    refine fg_60_4 hc hd hL0 tw_1313 dX12_restore_18 ?_
    refine lv_iload_n hc.x hc.b dX12_restore_21 rfl (lv_at hl 1 rfl) ?_
    obtain ⟨hi_21, hf⟩ := ck_s hf
    refine r_zald hc hd (cl_60_isImage hc.cl hL0) rfl hi_21 dX12_restore_22 ?_
    refine lv_if_ne (tgt := 30) hc.x hc.b dX12_restore_23 (by decide) (fun c_22 => ?_) (fun c_22 => ?_)
    · have hf := br_n c_22 hf
      refine lv_iconst (v := 0) hc.x hc.b dX12_restore_30 (by decide) ?_
      exact hJ_5 0 S _ _ _ hf hd (lv_sub hl [0, 1] rfl)
    · have hf := br_y c_22 hf
      refine lv_iconst (v := 2) hc.x hc.b dX12_restore_26 (by decide) ?_
      refine lv_goto (tgt := 31) hc.x hc.b dX12_restore_27 (by decide) ?_
      exact hJ_5 2 S _ _ _ hf hd (lv_sub hl [0, 1] rfl)
  · have hf := br_y c_20 hf
    refine lv_iconst (v := 1) hc.x hc.b dX12_restore_13 (by decide) ?_
    refine lv_goto (tgt := 31) hc.x hc.b dX12_restore_14 (by decide) ?_
    exact hJ_5 1 S _ _ _ hf hd (lv_sub hl [0, 1] rfl)
theorem c_X12_restore (l : Launch) (D : va_G) (cs : Nat → ClassId) (B0 : Nat) (kt : (Nat → Nat) × (Nat → Nat)) (α : Nat → Nat → Nat) (Lv : Nat → Nat → Prop) (S : St) (g0 : Nat) (x1 : Int32) (hcl : Cl Lv) (hL0 : Lv 60 g0) {o : St} (hf : f_X12_restore g0 x1 S = some o) : Met l yX12_restore (wz yX12_restore cX12_restore 3 none) (Rm 1 0 0) (Pz D cs B0 kt α Lv S [.ref (α 60 g0), .int x1]) (Qv D cs B0 α Lv o) 0 0 (AB B0) := met_of (by decide) rfl hcl (Nat.le_of_ble_eq_true rfl) (fun p e s m below meth c hc hr hd ls hl => b_X12_restore hc hr hL0 hf hd hl)
theorem my_X12_restore : MyV yX12_restore "PumpCrossingModel" cX12_restore 3 none 1 := ⟨tw_1872, tw_1873, tw_11, tw_1874, by decide +kernel⟩
def f_X12_rise (g0 : Nat) (x1 : Int32) (x2 : Int32) (x3 : Int32) (S : St) : Option (Int32 × St) := bv (si S 60 g0 5 0) (fun S_1 => bv (fun (v_2 : Int32) (S_3 : St) => on (f_X12_isLag x1 S_3) (fun r_6 => bv (fun  (S_7 : St) => on2 (f_X12_fails g0 1 S_7) (fun r_11 S_10 => some (r_11, S_10))) (fun J_8 => br (r_6 = 0) (J_8 S_3) (bv (fun  (S_13 : St) => bv (fun  (S_15 : St) => ck (inb 4 3179 = true) (br ((gi S_15 61 g0 (nn 4)) = 6) (some ((-1), S_15)) (ck (inb 4 3179 = true) (bv (60 + (3 * (gi S_15 61 g0 (nn 4)))) (fun x5_20 => ck (inb x5_20 3179 = true) (bv (si S_15 61 g0 (nn x5_20) x1) (fun S_22 => ck (inb (x5_20 + 1) 3179 = true) (bv (si S_22 61 g0 (nn (x5_20 + 1)) x2) (fun S_24 => ck (inb (x5_20 + 2) 3179 = true) (bv (si S_24 61 g0 (nn (x5_20 + 2)) v_2) (fun S_26 => ck (inb 4 3179 = true) (ck (inb 4 3179 = true) (bv (si S_26 61 g0 (nn 4) ((gi S_26 61 g0 (nn 4)) + 1)) (fun S_29 => ck (inb 4 3179 = true) (some ((gi S_29 61 g0 (nn 4)) - 1, S_29)))))))))))))))) (fun J_16 => br (v_2 = ((-1))) (J_16 S_13) (on (f_X12_isLag v_2 S_13) (fun r_33 => br (r_33 = 0) (J_8 S_13) (J_16 S_13))))) (fun J_14 => br (x2 = ((-1))) (J_14 S_3) (on (f_X12_isLag x2 S_3) (fun r_37 => br (r_37 = 0) (J_8 S_3) (J_14 S_3)))))))) (fun J_4 => br (x2 = ((-1))) (J_4 ((-1)) S_1) (J_4 x3 S_1)))
set_option maxRecDepth 100000 in
set_option maxHeartbeats 4000000 in
theorem b_X12_rise (hc : Cx p s m args meth c cX12_rise 6 "PumpCrossingModel" D cs B0 kt Lv) (hr : meth.sig.returnType = some .int)  {o : Int32 × St}  {S : St} {g0 : Nat} {x1 : Int32} {x2 : Int32} {x3 : Int32} (hL0 : Lv 60 g0) {H : Heap} {locs : List Loc} {ls : Array Slot} (hf : f_X12_rise g0 x1 x2 x3 S = some o) (hd : Dy s D cs B0 α Lv S H locs) (hl : lv_has ls 6 [(0, .ref (α 60 g0)), (1, .int x1), (2, .int x2), (3, .int x3)]) : W p l e (Rm 2 0 0) s m args below meth c H locs 0 0 (MQ below (Qi D cs B0 α Lv o.1 o.2) args s 0 0 (AB B0)) (F0 m 0 ls []) := by
  unfold f_X12_rise at hf
  refine lv_aload_n hc.x hc.b dX12_rise_0 rfl (lv_at hl 0 rfl) ?_
  refine lv_iconst (v := 0) hc.x hc.b dX12_rise_1 (by decide) ?_
  refine fp_60_5 hc hd hL0 tw_1314 dX12_rise_2 (fun H locs hd => ?_)
  obtain ⟨S_1, hd, hf⟩ := nmD hd hf
  refine lv_iload_n hc.x hc.b dX12_rise_5 rfl (lv_at hl 2 rfl) ?_
  refine lv_iconst (v := (-1)) hc.x hc.b dX12_rise_6 (by decide) ?_
  refine jn_s (P := fun J_4 => ∀ (v_2 : Int32) (S_3 : St) (H : Heap) (locs : List Loc) (ls : Array Slot), J_4 v_2 S_3 = some o → Dy s D cs B0 α Lv S_3 H locs → lv_has ls 6 [(0, .ref (α 60 g0)), (1, .int x1), (2, .int x2)] → W p l e (Rm 2 0 0) s m args below meth c H locs 0 0 (MQ below (Qi D cs B0 α Lv o.1 o.2) args s 0 0 (AB B0)) (F0 m 15 ls [.int v_2])) hf ?_ (fun J_4 hJ_4 hf => ?_)
  · intro v_2 S_3 H locs ls hf hd hl
    refine lv_istore (lv' := [(4, .int v_2), (0, .ref (α 60 g0)), (1, .int x1), (2, .int x2)]) hc.x hc.b dX12_rise_15 hl (by decide) rfl (fun ls hl => ?_)
    refine lv_iload_n hc.x hc.b dX12_rise_17 rfl (lv_at hl 2 rfl) ?_
    obtain ⟨r_6, hq_5, hf⟩ := on_s hf
    refine k_i (k_runS hc hd my_X12_isLag tw_1834 (c_X12_isLag l D cs B0 kt α Lv S_3 x1 hc.cl   hq_5) rfl rfl hl.1 (Nat.le_of_ble_eq_true rfl) ⟨Nat.le_of_ble_eq_true rfl, Nat.le_of_ble_eq_true rfl, Nat.zero_le _, Nat.zero_le _⟩ dX12_rise_18) hd (fun H locs hd => ?_)
    refine jn_s (P := fun J_8 => ∀  (S_7 : St) (H : Heap) (locs : List Loc) (ls : Array Slot), J_8 S_7 = some o → Dy s D cs B0 α Lv S_7 H locs → lv_has ls 6 [(0, .ref (α 60 g0))] → W p l e (Rm 2 0 0) s m args below meth c H locs 0 0 (MQ below (Qi D cs B0 α Lv o.1 o.2) args s 0 0 (AB B0)) (F0 m 50 ls [])) hf ?_ (fun J_8 hJ_8 hf => ?_)
    · intro S_7 H locs ls hf hd hl
      refine lv_aload_n hc.x hc.b dX12_rise_50 rfl (lv_at hl 0 rfl) ?_
      refine lv_iconst (v := 1) hc.x hc.b dX12_rise_51 (by decide) ?_
      obtain ⟨r_11, S_10, hq_9, hf⟩ := on2_s hf
      refine k_i (k_runV hc hd my_X12_fails tw_1439 hL0 rfl rfl rfl (c_X12_fails l D cs B0 kt α Lv S_7 g0 1 hc.cl hL0  hq_9) rfl rfl hl.1 (Nat.le_of_ble_eq_true rfl) ⟨Nat.le_of_ble_eq_true rfl, Nat.le_of_ble_eq_true rfl, Nat.zero_le _, Nat.zero_le _⟩ dX12_rise_52) hd (fun H locs hd => ?_)
      cases hf
      exact r_iret hc hd hr dX12_rise_55
    refine lv_if_eq (tgt := 50) hc.x hc.b dX12_rise_21 (by decide) (fun c_12 => ?_) (fun c_12 => ?_)
    · have hf := br_y c_12 hf
      exact hJ_8 S_3 _ _ _ hf hd (lv_sub hl [1] rfl)
    · have hf := br_n c_12 hf
      refine lv_iload_n hc.x hc.b dX12_rise_24 rfl (lv_at hl 3 rfl) ?_
      refine lv_iconst (v := (-1)) hc.x hc.b dX12_rise_25 (by decide) ?_
      refine jn_s (P := fun J_14 => ∀  (S_13 : St) (H : Heap) (locs : List Loc) (ls : Array Slot), J_14 S_13 = some o → Dy s D cs B0 α Lv S_13 H locs → lv_has ls 6 [(0, .ref (α 60 g0)), (1, .int x1), (2, .int x2), (4, .int v_2)] → W p l e (Rm 2 0 0) s m args below meth c H locs 0 0 (MQ below (Qi D cs B0 α Lv o.1 o.2) args s 0 0 (AB B0)) (F0 m 36 ls [])) hf ?_ (fun J_14 hJ_14 hf => ?_)
      · intro S_13 H locs ls hf hd hl
        refine lv_iload hc.x hc.b dX12_rise_36 (lv_at hl 3 rfl) ?_
        refine lv_iconst (v := (-1)) hc.x hc.b dX12_rise_38 (by decide) ?_
        refine jn_s (P := fun J_16 => ∀  (S_15 : St) (H : Heap) (locs : List Loc) (ls : Array Slot), J_16 S_15 = some o → Dy s D cs B0 α Lv S_15 H locs → lv_has ls 6 [(0, .ref (α 60 g0)), (1, .int x1), (2, .int x2), (4, .int v_2)] → W p l e (Rm 2 0 0) s m args below meth c H locs 0 0 (MQ below (Qi D cs B0 α Lv o.1 o.2) args s 0 0 (AB B0)) (F0 m 56 ls [])) hf ?_ (fun J_16 hJ_16 hf => ?_)
        · intro S_15 H locs ls hf hd hl
          refine lv_aload_n hc.x hc.b dX12_rise_56 rfl (lv_at hl 0 rfl) ?_
          refine fg_60_0 hc hd hL0 tw_1309 dX12_rise_57 ?_
          refine lv_iconst (v := 4) hc.x hc.b dX12_rise_60 (by decide) ?_
          obtain ⟨hi_17, hf⟩ := ck_s hf
          refine r_iald hc hd (cl_60_told hc.cl hL0) rfl hi_17 dX12_rise_61 ?_
          refine lv_bipush (v := 6) hc.x hc.b dX12_rise_62 (by decide) ?_
          refine lv_icmp_ne (tgt := 69) hc.x hc.b dX12_rise_64 (by decide) (fun c_18 => ?_) (fun c_18 => ?_)
          · have hf := br_n c_18 hf
            refine lv_bipush (v := 60) hc.x hc.b dX12_rise_69 (by decide) ?_
            refine lv_iconst (v := 3) hc.x hc.b dX12_rise_71 (by decide) ?_
            refine lv_aload_n hc.x hc.b dX12_rise_72 rfl (lv_at hl 0 rfl) ?_
            refine fg_60_0 hc hd hL0 tw_1309 dX12_rise_73 ?_
            refine lv_iconst (v := 4) hc.x hc.b dX12_rise_76 (by decide) ?_
            obtain ⟨hi_19, hf⟩ := ck_s hf
            refine r_iald hc hd (cl_60_told hc.cl hL0) rfl hi_19 dX12_rise_77 ?_
            refine lv_imul hc.x hc.b dX12_rise_78 ?_
            refine lv_iadd hc.x hc.b dX12_rise_79 ?_
            refine lv_topi (fun x5_20 ex5_20 => ?_)
            have hf := bv_n ex5_20 hf
            refine lv_istore (lv' := [(5, .int x5_20), (0, .ref (α 60 g0)), (1, .int x1), (2, .int x2), (4, .int v_2)]) hc.x hc.b dX12_rise_80 hl (by decide) rfl (fun ls hl => ?_)
            refine lv_aload_n hc.x hc.b dX12_rise_82 rfl (lv_at hl 1 rfl) ?_
            refine fg_60_0 hc hd hL0 tw_1309 dX12_rise_83 ?_
            refine lv_iload hc.x hc.b dX12_rise_86 (lv_at hl 0 rfl) ?_
            refine lv_iload_n hc.x hc.b dX12_rise_88 rfl (lv_at hl 2 rfl) ?_
            obtain ⟨hi_21, hf⟩ := ck_s hf
            refine r_iast hc hd (cl_60_told hc.cl hL0) (fun _ => rfl) hi_21 dX12_rise_89 (fun H locs hd => ?_)
            obtain ⟨S_22, hd, hf⟩ := nmD hd hf
            refine lv_aload_n hc.x hc.b dX12_rise_90 rfl (lv_at hl 1 rfl) ?_
            refine fg_60_0 hc hd hL0 tw_1309 dX12_rise_91 ?_
            refine lv_iload hc.x hc.b dX12_rise_94 (lv_at hl 0 rfl) ?_
            refine lv_iconst (v := 1) hc.x hc.b dX12_rise_96 (by decide) ?_
            refine lv_iadd hc.x hc.b dX12_rise_97 ?_
            refine lv_iload_n hc.x hc.b dX12_rise_98 rfl (lv_at hl 3 rfl) ?_
            obtain ⟨hi_23, hf⟩ := ck_s hf
            refine r_iast hc hd (cl_60_told hc.cl hL0) (fun _ => rfl) hi_23 dX12_rise_99 (fun H locs hd => ?_)
            obtain ⟨S_24, hd, hf⟩ := nmD hd hf
            refine lv_aload_n hc.x hc.b dX12_rise_100 rfl (lv_at hl 1 rfl) ?_
            refine fg_60_0 hc hd hL0 tw_1309 dX12_rise_101 ?_
            refine lv_iload hc.x hc.b dX12_rise_104 (lv_at hl 0 rfl) ?_
            refine lv_iconst (v := 2) hc.x hc.b dX12_rise_106 (by decide) ?_
            refine lv_iadd hc.x hc.b dX12_rise_107 ?_
            refine lv_iload hc.x hc.b dX12_rise_108 (lv_at hl 4 rfl) ?_
            obtain ⟨hi_25, hf⟩ := ck_s hf
            refine r_iast hc hd (cl_60_told hc.cl hL0) (fun _ => rfl) hi_25 dX12_rise_110 (fun H locs hd => ?_)
            obtain ⟨S_26, hd, hf⟩ := nmD hd hf
            refine lv_aload_n hc.x hc.b dX12_rise_111 rfl (lv_at hl 1 rfl) ?_
            refine fg_60_0 hc hd hL0 tw_1309 dX12_rise_112 ?_
            refine lv_iconst (v := 4) hc.x hc.b dX12_rise_115 (by decide) ?_
            refine lv_dup2_11 hc.x hc.b dX12_rise_116 rfl rfl ?_
            obtain ⟨hi_27, hf⟩ := ck_s hf
            refine r_iald hc hd (cl_60_told hc.cl hL0) rfl hi_27 dX12_rise_117 ?_
            refine lv_iconst (v := 1) hc.x hc.b dX12_rise_118 (by decide) ?_
            refine lv_iadd hc.x hc.b dX12_rise_119 ?_
            obtain ⟨hi_28, hf⟩ := ck_s hf
            refine r_iast hc hd (cl_60_told hc.cl hL0) (fun _ => rfl) hi_28 dX12_rise_120 (fun H locs hd => ?_)
            obtain ⟨S_29, hd, hf⟩ := nmD hd hf
            refine lv_aload_n hc.x hc.b dX12_rise_121 rfl (lv_at hl 1 rfl) ?_
            refine fg_60_0 hc hd hL0 tw_1309 dX12_rise_122 ?_
            refine lv_iconst (v := 4) hc.x hc.b dX12_rise_125 (by decide) ?_
            obtain ⟨hi_30, hf⟩ := ck_s hf
            refine r_iald hc hd (cl_60_told hc.cl hL0) rfl hi_30 dX12_rise_126 ?_
            refine lv_iconst (v := 1) hc.x hc.b dX12_rise_127 (by decide) ?_
            refine lv_isub hc.x hc.b dX12_rise_128 ?_
            cases hf
            exact r_iret hc hd hr dX12_rise_129
          · have hf := br_y c_18 hf
            refine lv_iconst (v := (-1)) hc.x hc.b dX12_rise_67 (by decide) ?_
            cases hf
            exact r_iret hc hd hr dX12_rise_68
        refine lv_icmp_eq (tgt := 56) hc.x hc.b dX12_rise_39 (by decide) (fun c_31 => ?_) (fun c_31 => ?_)
        · have hf := br_y c_31 hf
          exact hJ_16 S_13 _ _ _ hf hd (lv_sub hl [0, 1, 2, 3] rfl)
        · have hf := br_n c_31 hf
          refine lv_iload hc.x hc.b dX12_rise_42 (lv_at hl 3 rfl) ?_
          obtain ⟨r_33, hq_32, hf⟩ := on_s hf
          refine k_i (k_runS hc hd my_X12_isLag tw_1834 (c_X12_isLag l D cs B0 kt α Lv S_13 v_2 hc.cl   hq_32) rfl rfl hl.1 (Nat.le_of_ble_eq_true rfl) ⟨Nat.le_of_ble_eq_true rfl, Nat.le_of_ble_eq_true rfl, Nat.zero_le _, Nat.zero_le _⟩ dX12_rise_44) hd (fun H locs hd => ?_)
          refine lv_if_ne (tgt := 56) hc.x hc.b dX12_rise_47 (by decide) (fun c_34 => ?_) (fun c_34 => ?_)
          · have hf := br_n c_34 hf
            exact hJ_16 S_13 _ _ _ hf hd (lv_sub hl [0, 1, 2, 3] rfl)
          · have hf := br_y c_34 hf
            exact hJ_8 S_13 _ _ _ hf hd (lv_sub hl [0] rfl)
      refine lv_icmp_eq (tgt := 36) hc.x hc.b dX12_rise_26 (by decide) (fun c_35 => ?_) (fun c_35 => ?_)
      · have hf := br_y c_35 hf
        exact hJ_14 S_3 _ _ _ hf hd (lv_sub hl [1, 2, 3, 0] rfl)
      · have hf := br_n c_35 hf
        refine lv_iload_n hc.x hc.b dX12_rise_29 rfl (lv_at hl 3 rfl) ?_
        obtain ⟨r_37, hq_36, hf⟩ := on_s hf
        refine k_i (k_runS hc hd my_X12_isLag tw_1834 (c_X12_isLag l D cs B0 kt α Lv S_3 x2 hc.cl   hq_36) rfl rfl hl.1 (Nat.le_of_ble_eq_true rfl) ⟨Nat.le_of_ble_eq_true rfl, Nat.le_of_ble_eq_true rfl, Nat.zero_le _, Nat.zero_le _⟩ dX12_rise_30) hd (fun H locs hd => ?_)
        refine lv_if_eq (tgt := 50) hc.x hc.b dX12_rise_33 (by decide) (fun c_38 => ?_) (fun c_38 => ?_)
        · have hf := br_y c_38 hf
          exact hJ_8 S_3 _ _ _ hf hd (lv_sub hl [1] rfl)
        · have hf := br_n c_38 hf
          exact hJ_14 S_3 _ _ _ hf hd (lv_sub hl [1, 2, 3, 0] rfl)
  refine lv_icmp_ne (tgt := 14) hc.x hc.b dX12_rise_7 (by decide) (fun c_39 => ?_) (fun c_39 => ?_)
  · have hf := br_n c_39 hf
    refine lv_iload_n hc.x hc.b dX12_rise_14 rfl (lv_at hl 3 rfl) ?_
    exact hJ_4 x3 S_1 _ _ _ hf hd (lv_sub hl [0, 1, 2] rfl)
  · have hf := br_y c_39 hf
    refine lv_iconst (v := (-1)) hc.x hc.b dX12_rise_10 (by decide) ?_
    refine lv_goto (tgt := 15) hc.x hc.b dX12_rise_11 (by decide) ?_
    exact hJ_4 ((-1)) S_1 _ _ _ hf hd (lv_sub hl [0, 1, 2] rfl)
theorem c_X12_rise (l : Launch) (D : va_G) (cs : Nat → ClassId) (B0 : Nat) (kt : (Nat → Nat) × (Nat → Nat)) (α : Nat → Nat → Nat) (Lv : Nat → Nat → Prop) (S : St) (g0 : Nat) (x1 : Int32) (x2 : Int32) (x3 : Int32) (hcl : Cl Lv) (hL0 : Lv 60 g0) {o : Int32 × St} (hf : f_X12_rise g0 x1 x2 x3 S = some o) : Met l yX12_rise (wz yX12_rise cX12_rise 6 (some .int)) (Rm 2 0 0) (Pz D cs B0 kt α Lv S [.ref (α 60 g0), .int x1, .int x2, .int x3]) (Qi D cs B0 α Lv o.1 o.2) 0 0 (AB B0) := met_of (by decide) rfl hcl (Nat.le_of_ble_eq_true rfl) (fun p e s m below meth c hc hr hd ls hl => b_X12_rise hc hr hL0 hf hd hl)
theorem my_X12_rise : MyV yX12_rise "PumpCrossingModel" cX12_rise 6 (some .int) 3 := ⟨tw_1831, tw_1832, tw_11, tw_1833, by decide +kernel⟩
def f_X12_round_37 (g0 : Nat) (x1 : Int32) (x2 : Int32) (K : Int32 → St → Option (Int32 × St)) : Nat → Int32 → Int32 → St → Option (Int32 × St)
  | 0, _, _, _ => none
  | n + 1, x3, x4, S => br (x2 ≤ x4) (K x3 S) (br (x3 = 0) (K x3 S) (on (f_X12_isAlike g0 (x1 - x4) ((x1 - x4) - x2) S) (fun r_10 => bv (x4 + 1) (fun x4_11 => f_X12_round_37 g0 x1 x2 K n r_10 x4_11 S))))
def f_X12_round_16 (g0 : Nat) (x1 : Int32) (K : St → Option (Int32 × St)) : Nat → Int32 → St → Option (Int32 × St)
  | 0, _, _ => none
  | n + 1, x2, S => br (100 < x2) (K S) (on (f_X12_isBoard g0 ((x1 - (2 * x2)) + 1) S) (fun r_6 => f_X12_round_37 g0 x1 x2 (fun (x3_12 : Int32) (S_13 : St) => br (x3_12 = 0) (bv (x2 + 1) (fun x2_15 => f_X12_round_16 g0 x1 K n x2_15 S_13)) (some (x2, S_13))) FU r_6 0 S))
def f_X12_round (g0 : Nat) (S : St) : Option (Int32 × St) := bv (si S 60 g0 5 0) (fun S_1 => ck (inb 2 3179 = true) (bv ((gi S_1 61 g0 (nn 2)) - 1) (fun x1_3 => f_X12_round_16 g0 x1_3 (fun  (S_16 : St) => some ((-1), S_16)) FU 1 S_1)))
set_option maxRecDepth 100000 in
set_option maxHeartbeats 4000000 in
theorem w_X12_round_37 (hc : Cx p s m args meth c cX12_round 5 "PumpCrossingModel" D cs B0 kt Lv) (hr : meth.sig.returnType = some .int) {o : Int32 × St}  {g0 : Nat} {x1 : Int32} {x2 : Int32} {K : Int32 → St → Option (Int32 × St)} (hL0 : Lv 60 g0) (hK : ∀ (k3 : Int32) (S : St) (H : Heap) (locs : List Loc) (ls : Array Slot), K k3 S = some o → Dy s D cs B0 α Lv S H locs → lv_has ls 5 [(0, .ref (α 60 g0)), (1, .int x1), (2, .int x2), (3, .int k3)] → W p l e (Rm 3 0 0) s m args below meth c H locs 0 0 (MQ below (Qi D cs B0 α Lv o.1 o.2) args s 0 0 (AB B0)) (F0 m 68 ls [])) : ∀ (n : Nat) (x3 : Int32) (x4 : Int32) (S : St) (H : Heap) (locs : List Loc) (ls : Array Slot), f_X12_round_37 g0 x1 x2 K n x3 x4 S = some o → Dy s D cs B0 α Lv S H locs → lv_has ls 5 [(0, .ref (α 60 g0)), (1, .int x1), (2, .int x2), (3, .int x3), (4, .int x4)] → W p l e (Rm 3 0 0) s m args below meth c H locs 0 0 (MQ below (Qi D cs B0 α Lv o.1 o.2) args s 0 0 (AB B0)) (F0 m 37 ls []) := by
  intro n
  induction n with
  | zero =>
    intro x3 x4 S H locs ls hf
    rw [f_X12_round_37] at hf
    cases hf
  | succ n ih =>
    intro x3 x4 S H locs ls hf hd hl
    rw [f_X12_round_37] at hf
    refine lv_iload hc.x hc.b dX12_round_37 (lv_at hl 4 rfl) ?_
    refine lv_iload_n hc.x hc.b dX12_round_39 rfl (lv_at hl 2 rfl) ?_
    refine lv_icmp_ge (tgt := 68) hc.x hc.b dX12_round_40 (by decide) (fun c_7 => ?_) (fun c_7 => ?_)
    · have hf := br_y c_7 hf
      exact hK x3 S _ _ _ hf hd (lv_sub hl [0, 1, 2, 3] rfl)
    · have hf := br_n c_7 hf
      refine lv_iload_n hc.x hc.b dX12_round_43 rfl (lv_at hl 3 rfl) ?_
      refine lv_if_eq (tgt := 68) hc.x hc.b dX12_round_44 (by decide) (fun c_8 => ?_) (fun c_8 => ?_)
      · have hf := br_y c_8 hf
        exact hK x3 S _ _ _ hf hd (lv_sub hl [0, 1, 2, 3] rfl)
      · have hf := br_n c_8 hf
        refine lv_aload_n hc.x hc.b dX12_round_47 rfl (lv_at hl 0 rfl) ?_
        refine lv_iload_n hc.x hc.b dX12_round_48 rfl (lv_at hl 1 rfl) ?_
        refine lv_iload hc.x hc.b dX12_round_49 (lv_at hl 4 rfl) ?_
        refine lv_isub hc.x hc.b dX12_round_51 ?_
        refine lv_iload_n hc.x hc.b dX12_round_52 rfl (lv_at hl 1 rfl) ?_
        refine lv_iload hc.x hc.b dX12_round_53 (lv_at hl 4 rfl) ?_
        refine lv_isub hc.x hc.b dX12_round_55 ?_
        refine lv_iload_n hc.x hc.b dX12_round_56 rfl (lv_at hl 2 rfl) ?_
        refine lv_isub hc.x hc.b dX12_round_57 ?_
        obtain ⟨r_10, hq_9, hf⟩ := on_s hf
        refine k_i (k_runV hc hd my_X12_isAlike tw_1678 hL0 rfl rfl rfl (c_X12_isAlike l D cs B0 kt α Lv S g0 (x1 - x4) ((x1 - x4) - x2) hc.cl hL0  hq_9) rfl rfl hl.1 (Nat.le_of_ble_eq_true rfl) ⟨Nat.le_of_ble_eq_true rfl, Nat.le_of_ble_eq_true rfl, Nat.zero_le _, Nat.zero_le _⟩ dX12_round_58) hd (fun H locs hd => ?_)
        refine lv_istore_n (lv' := [(3, .int r_10), (0, .ref (α 60 g0)), (1, .int x1), (2, .int x2), (4, .int x4)]) hc.x hc.b dX12_round_61 rfl hl (by decide) rfl (fun ls hl => ?_)
        obtain ⟨x4_11, ex4_11⟩ : ∃ z : Int32, z = x4 + 1 := ⟨_, rfl⟩
        have hf := bv_n ex4_11 hf
        refine lv_iinc (v := x4_11) (lv' := [(4, .int x4_11), (3, .int r_10), (0, .ref (α 60 g0)), (1, .int x1), (2, .int x2)]) hc.x hc.b dX12_round_62 hl (k := 4) rfl (by rw [ex4_11]; rfl) (by decide) rfl (fun ls hl => ?_)
        refine lv_goto (tgt := 37) hc.x hc.b dX12_round_65 (by decide) ?_
        exact ih r_10 x4_11 S _ _ _ hf hd (lv_sub hl [2, 3, 4, 1, 0] rfl)
set_option maxRecDepth 100000 in
set_option maxHeartbeats 4000000 in
theorem w_X12_round_16 (hc : Cx p s m args meth c cX12_round 5 "PumpCrossingModel" D cs B0 kt Lv) (hr : meth.sig.returnType = some .int) {o : Int32 × St}  {g0 : Nat} {x1 : Int32} {K : St → Option (Int32 × St)} (hL0 : Lv 60 g0) (hK : ∀  (S : St) (H : Heap) (locs : List Loc) (ls : Array Slot), K S = some o → Dy s D cs B0 α Lv S H locs → lv_has ls 5 [] → W p l e (Rm 3 0 0) s m args below meth c H locs 0 0 (MQ below (Qi D cs B0 α Lv o.1 o.2) args s 0 0 (AB B0)) (F0 m 80 ls [])) : ∀ (n : Nat) (x2 : Int32) (S : St) (H : Heap) (locs : List Loc) (ls : Array Slot), f_X12_round_16 g0 x1 K n x2 S = some o → Dy s D cs B0 α Lv S H locs → lv_has ls 5 [(0, .ref (α 60 g0)), (1, .int x1), (2, .int x2)] → W p l e (Rm 3 0 0) s m args below meth c H locs 0 0 (MQ below (Qi D cs B0 α Lv o.1 o.2) args s 0 0 (AB B0)) (F0 m 16 ls []) := by
  intro n
  induction n with
  | zero =>
    intro x2 S H locs ls hf
    rw [f_X12_round_16] at hf
    cases hf
  | succ n ih =>
    intro x2 S H locs ls hf hd hl
    rw [f_X12_round_16] at hf
    refine lv_iload_n hc.x hc.b dX12_round_16 rfl (lv_at hl 2 rfl) ?_
    refine lv_bipush (v := 100) hc.x hc.b dX12_round_17 (by decide) ?_
    refine lv_icmp_gt (tgt := 80) hc.x hc.b dX12_round_19 (by decide) (fun c_4 => ?_) (fun c_4 => ?_)
    · have hf := br_y c_4 hf
      exact hK S _ _ _ hf hd (lv_sub hl [] rfl)
    · have hf := br_n c_4 hf
      refine lv_aload_n hc.x hc.b dX12_round_22 rfl (lv_at hl 0 rfl) ?_
      refine lv_iload_n hc.x hc.b dX12_round_23 rfl (lv_at hl 1 rfl) ?_
      refine lv_iconst (v := 2) hc.x hc.b dX12_round_24 (by decide) ?_
      refine lv_iload_n hc.x hc.b dX12_round_25 rfl (lv_at hl 2 rfl) ?_
      refine lv_imul hc.x hc.b dX12_round_26 ?_
      refine lv_isub hc.x hc.b dX12_round_27 ?_
      refine lv_iconst (v := 1) hc.x hc.b dX12_round_28 (by decide) ?_
      refine lv_iadd hc.x hc.b dX12_round_29 ?_
      obtain ⟨r_6, hq_5, hf⟩ := on_s hf
      refine k_i (k_runV hc hd my_X12_isBoard tw_1653 hL0 rfl rfl rfl (c_X12_isBoard l D cs B0 kt α Lv S g0 ((x1 - (2 * x2)) + 1) hc.cl hL0  hq_5) rfl rfl hl.1 (Nat.le_of_ble_eq_true rfl) ⟨Nat.le_of_ble_eq_true rfl, Nat.le_of_ble_eq_true rfl, Nat.zero_le _, Nat.zero_le _⟩ dX12_round_30) hd (fun H locs hd => ?_)
      refine lv_istore_n (lv' := [(3, .int r_6), (0, .ref (α 60 g0)), (1, .int x1), (2, .int x2)]) hc.x hc.b dX12_round_33 rfl hl (by decide) rfl (fun ls hl => ?_)
      refine lv_iconst (v := 0) hc.x hc.b dX12_round_34 (by decide) ?_
      refine lv_istore (lv' := [(4, .int 0), (3, .int r_6), (0, .ref (α 60 g0)), (1, .int x1), (2, .int x2)]) hc.x hc.b dX12_round_35 hl (by decide) rfl (fun ls hl => ?_)
      refine w_X12_round_37 hc hr hL0 ?_ _ _ _ _ _ _ _ hf hd (lv_sub hl [2, 3, 4, 1, 0] rfl)
      intro x3_12 S_13 H locs ls hf hd hl
      refine lv_iload_n hc.x hc.b dX12_round_68 rfl (lv_at hl 3 rfl) ?_
      refine lv_if_eq (tgt := 74) hc.x hc.b dX12_round_69 (by decide) (fun c_14 => ?_) (fun c_14 => ?_)
      · have hf := br_y c_14 hf
        obtain ⟨x2_15, ex2_15⟩ : ∃ z : Int32, z = x2 + 1 := ⟨_, rfl⟩
        have hf := bv_n ex2_15 hf
        refine lv_iinc (v := x2_15) (lv' := [(2, .int x2_15), (0, .ref (α 60 g0)), (1, .int x1), (3, .int x3_12)]) hc.x hc.b dX12_round_74 hl (k := 2) rfl (by rw [ex2_15]; rfl) (by decide) rfl (fun ls hl => ?_)
        refine lv_goto (tgt := 16) hc.x hc.b dX12_round_77 (by decide) ?_
        exact ih x2_15 S_13 _ _ _ hf hd (lv_sub hl [1, 2, 0] rfl)
      · have hf := br_n c_14 hf
        refine lv_iload_n hc.x hc.b dX12_round_72 rfl (lv_at hl 2 rfl) ?_
        cases hf
        exact r_iret hc hd hr dX12_round_73
set_option maxRecDepth 100000 in
set_option maxHeartbeats 4000000 in
theorem b_X12_round (hc : Cx p s m args meth c cX12_round 5 "PumpCrossingModel" D cs B0 kt Lv) (hr : meth.sig.returnType = some .int)  {o : Int32 × St}  {S : St} {g0 : Nat} (hL0 : Lv 60 g0) {H : Heap} {locs : List Loc} {ls : Array Slot} (hf : f_X12_round g0 S = some o) (hd : Dy s D cs B0 α Lv S H locs) (hl : lv_has ls 5 [(0, .ref (α 60 g0))]) : W p l e (Rm 3 0 0) s m args below meth c H locs 0 0 (MQ below (Qi D cs B0 α Lv o.1 o.2) args s 0 0 (AB B0)) (F0 m 0 ls []) := by
  unfold f_X12_round at hf
  refine lv_aload_n hc.x hc.b dX12_round_0 rfl (lv_at hl 0 rfl) ?_
  refine lv_iconst (v := 0) hc.x hc.b dX12_round_1 (by decide) ?_
  refine fp_60_5 hc hd hL0 tw_1314 dX12_round_2 (fun H locs hd => ?_)
  obtain ⟨S_1, hd, hf⟩ := nmD hd hf
  refine lv_aload_n hc.x hc.b dX12_round_5 rfl (lv_at hl 0 rfl) ?_
  refine fg_60_0 hc hd hL0 tw_1309 dX12_round_6 ?_
  refine lv_iconst (v := 2) hc.x hc.b dX12_round_9 (by decide) ?_
  obtain ⟨hi_2, hf⟩ := ck_s hf
  refine r_iald hc hd (cl_60_told hc.cl hL0) rfl hi_2 dX12_round_10 ?_
  refine lv_iconst (v := 1) hc.x hc.b dX12_round_11 (by decide) ?_
  refine lv_isub hc.x hc.b dX12_round_12 ?_
  refine lv_topi (fun x1_3 ex1_3 => ?_)
  have hf := bv_n ex1_3 hf
  refine lv_istore_n (lv' := [(1, .int x1_3), (0, .ref (α 60 g0))]) hc.x hc.b dX12_round_13 rfl hl (by decide) rfl (fun ls hl => ?_)
  refine lv_iconst (v := 1) hc.x hc.b dX12_round_14 (by decide) ?_
  refine lv_istore_n (lv' := [(2, .int 1), (1, .int x1_3), (0, .ref (α 60 g0))]) hc.x hc.b dX12_round_15 rfl hl (by decide) rfl (fun ls hl => ?_)
  refine w_X12_round_16 hc hr hL0 ?_ _ _ _ _ _ _ hf hd (lv_sub hl [2, 1, 0] rfl)
  intro S_16 H locs ls hf hd hl
  refine lv_iconst (v := (-1)) hc.x hc.b dX12_round_80 (by decide) ?_
  cases hf
  exact r_iret hc hd hr dX12_round_81
theorem c_X12_round (l : Launch) (D : va_G) (cs : Nat → ClassId) (B0 : Nat) (kt : (Nat → Nat) × (Nat → Nat)) (α : Nat → Nat → Nat) (Lv : Nat → Nat → Prop) (S : St) (g0 : Nat) (hcl : Cl Lv) (hL0 : Lv 60 g0) {o : Int32 × St} (hf : f_X12_round g0 S = some o) : Met l yX12_round (wz yX12_round cX12_round 5 (some .int)) (Rm 3 0 0) (Pz D cs B0 kt α Lv S [.ref (α 60 g0)]) (Qi D cs B0 α Lv o.1 o.2) 0 0 (AB B0) := met_of (by decide) rfl hcl (Nat.le_of_ble_eq_true rfl) (fun p e s m below meth c hc hr hd ls hl => b_X12_round hc hr hL0 hf hd hl)
theorem my_X12_round : MyV yX12_round "PumpCrossingModel" cX12_round 5 (some .int) 0 := ⟨tw_1675, tw_1676, tw_11, tw_1677, by decide +kernel⟩
def f_X12_run_40 (g0 : Nat) (x2 : Int32) (K : St → Option (Int32 × St)) : Nat → Int32 → St → Option (Int32 × St)
  | 0, _, _ => none
  | n + 1, x3, S => br (x2 ≤ x3) (K S) (on (f_X12_hour g0 S) (fun S_9 => bv (x3 + 1) (fun x3_10 => f_X12_run_40 g0 x2 K n x3_10 S_9)))
def f_X12_run (g0 : Nat) (x1 : Int32) (S : St) : Option (Int32 × St) := bv (si S 60 g0 5 0) (fun S_1 => on (f_X12_within (Int32.toInt64 x1) 0 300 S_1) (fun r_3 => br (r_3 = 0) (on2 (f_X12_fails g0 1 S_1) (fun r_14 S_13 => some (r_14, S_13))) (ck (inb 2 3179 = true) (bv (mnI x1 (3000 - (gi S_1 61 g0 (nn 2)))) (fun q_6 => f_X12_run_40 g0 q_6 (fun  (S_11 : St) => some (q_6, S_11)) FU 0 S_1)))))
set_option maxRecDepth 100000 in
set_option maxHeartbeats 4000000 in
theorem w_X12_run_40 (hc : Cx p s m args meth c cX12_run 4 "PumpCrossingModel" D cs B0 kt Lv) (hr : meth.sig.returnType = some .int) {o : Int32 × St}  {g0 : Nat} {x2 : Int32} {K : St → Option (Int32 × St)} (hL0 : Lv 60 g0) (hK : ∀  (S : St) (H : Heap) (locs : List Loc) (ls : Array Slot), K S = some o → Dy s D cs B0 α Lv S H locs → lv_has ls 4 [(2, .int x2)] → W p l e (Rm 9 0 0) s m args below meth c H locs 0 0 (MQ below (Qi D cs B0 α Lv o.1 o.2) args s 0 0 (AB B0)) (F0 m 55 ls [])) : ∀ (n : Nat) (x3 : Int32) (S : St) (H : Heap) (locs : List Loc) (ls : Array Slot), f_X12_run_40 g0 x2 K n x3 S = some o → Dy s D cs B0 α Lv S H locs → lv_has ls 4 [(0, .ref (α 60 g0)), (2, .int x2), (3, .int x3)] → W p l e (Rm 9 0 0) s m args below meth c H locs 0 0 (MQ below (Qi D cs B0 α Lv o.1 o.2) args s 0 0 (AB B0)) (F0 m 40 ls []) := by
  intro n
  induction n with
  | zero =>
    intro x3 S H locs ls hf
    rw [f_X12_run_40] at hf
    cases hf
  | succ n ih =>
    intro x3 S H locs ls hf hd hl
    rw [f_X12_run_40] at hf
    refine lv_iload_n hc.x hc.b dX12_run_40 rfl (lv_at hl 2 rfl) ?_
    refine lv_iload_n hc.x hc.b dX12_run_41 rfl (lv_at hl 1 rfl) ?_
    refine lv_icmp_ge (tgt := 55) hc.x hc.b dX12_run_42 (by decide) (fun c_7 => ?_) (fun c_7 => ?_)
    · have hf := br_y c_7 hf
      exact hK S _ _ _ hf hd (lv_sub hl [1] rfl)
    · have hf := br_n c_7 hf
      refine lv_aload_n hc.x hc.b dX12_run_45 rfl (lv_at hl 0 rfl) ?_
      obtain ⟨S_9, hq_8, hf⟩ := on_s hf
      refine k_v (k_runV hc hd my_X12_hour tw_1597 hL0 rfl rfl rfl (c_X12_hour l D cs B0 kt α Lv S g0 hc.cl hL0  hq_8) rfl rfl hl.1 (Nat.le_of_ble_eq_true rfl) ⟨Nat.le_of_ble_eq_true rfl, Nat.le_of_ble_eq_true rfl, Nat.zero_le _, Nat.zero_le _⟩ dX12_run_46) hd (fun H locs hd => ?_)
      obtain ⟨x3_10, ex3_10⟩ : ∃ z : Int32, z = x3 + 1 := ⟨_, rfl⟩
      have hf := bv_n ex3_10 hf
      refine lv_iinc (v := x3_10) (lv' := [(3, .int x3_10), (0, .ref (α 60 g0)), (2, .int x2)]) hc.x hc.b dX12_run_49 hl (k := 2) rfl (by rw [ex3_10]; rfl) (by decide) rfl (fun ls hl => ?_)
      refine lv_goto (tgt := 40) hc.x hc.b dX12_run_52 (by decide) ?_
      exact ih x3_10 S_9 _ _ _ hf hd (lv_sub hl [1, 2, 0] rfl)
set_option maxRecDepth 100000 in
set_option maxHeartbeats 4000000 in
theorem b_X12_run (hc : Cx p s m args meth c cX12_run 4 "PumpCrossingModel" D cs B0 kt Lv) (hr : meth.sig.returnType = some .int)  {o : Int32 × St}  {S : St} {g0 : Nat} {x1 : Int32} (hL0 : Lv 60 g0) {H : Heap} {locs : List Loc} {ls : Array Slot} (hf : f_X12_run g0 x1 S = some o) (hd : Dy s D cs B0 α Lv S H locs) (hl : lv_has ls 4 [(0, .ref (α 60 g0)), (1, .int x1)]) : W p l e (Rm 9 0 0) s m args below meth c H locs 0 0 (MQ below (Qi D cs B0 α Lv o.1 o.2) args s 0 0 (AB B0)) (F0 m 0 ls []) := by
  unfold f_X12_run at hf
  refine lv_aload_n hc.x hc.b dX12_run_0 rfl (lv_at hl 0 rfl) ?_
  refine lv_iconst (v := 0) hc.x hc.b dX12_run_1 (by decide) ?_
  refine fp_60_5 hc hd hL0 tw_1314 dX12_run_2 (fun H locs hd => ?_)
  obtain ⟨S_1, hd, hf⟩ := nmD hd hf
  refine lv_iload_n hc.x hc.b dX12_run_5 rfl (lv_at hl 1 rfl) ?_
  refine lv_i2l (v := Int32.toInt64 x1) hc.x hc.b dX12_run_6 rfl ?_
  refine lv_lconst (v := 0) hc.x hc.b dX12_run_7 (by decide) ?_
  refine lv_ldc2 (v := 300) hc.x hc.b hc.ow (hc.ts tw_1595) dX12_run_8 ?_
  obtain ⟨r_3, hq_2, hf⟩ := on_s hf
  refine k_i (k_runS hc hd my_X12_within tw_1444 (c_X12_within l D cs B0 kt α Lv S_1 (Int32.toInt64 x1) 0 300 hc.cl   hq_2) rfl rfl hl.1 (Nat.le_of_ble_eq_true rfl) ⟨Nat.le_of_ble_eq_true rfl, Nat.le_of_ble_eq_true rfl, Nat.zero_le _, Nat.zero_le _⟩ dX12_run_11) hd (fun H locs hd => ?_)
  refine lv_if_ne (tgt := 23) hc.x hc.b dX12_run_14 (by decide) (fun c_4 => ?_) (fun c_4 => ?_)
  · have hf := br_n c_4 hf
    refine lv_iload_n hc.x hc.b dX12_run_23 rfl (lv_at hl 1 rfl) ?_
    refine lv_sipush (v := 3000) hc.x hc.b dX12_run_24 (by decide) ?_
    refine lv_aload_n hc.x hc.b dX12_run_27 rfl (lv_at hl 0 rfl) ?_
    refine fg_60_0 hc hd hL0 tw_1309 dX12_run_28 ?_
    refine lv_iconst (v := 2) hc.x hc.b dX12_run_31 (by decide) ?_
    obtain ⟨hi_5, hf⟩ := ck_s hf
    refine r_iald hc hd (cl_60_told hc.cl hL0) rfl hi_5 dX12_run_32 ?_
    refine lv_isub hc.x hc.b dX12_run_33 ?_
    refine r_min hc hl.1 tw_1596 (Nat.le_of_ble_eq_true rfl) (Nat.le_of_ble_eq_true rfl) (Nat.zero_le _) (Nat.zero_le _) dX12_run_34 ?_
    refine lv_topi (fun q_6 eq_6 => ?_)
    have hf := bv_n eq_6 hf
    refine lv_istore_n (lv' := [(2, .int q_6), (0, .ref (α 60 g0)), (1, .int x1)]) hc.x hc.b dX12_run_37 rfl hl (by decide) rfl (fun ls hl => ?_)
    refine lv_iconst (v := 0) hc.x hc.b dX12_run_38 (by decide) ?_
    refine lv_istore_n (lv' := [(3, .int 0), (2, .int q_6), (0, .ref (α 60 g0)), (1, .int x1)]) hc.x hc.b dX12_run_39 rfl hl (by decide) rfl (fun ls hl => ?_)
    refine w_X12_run_40 hc hr hL0 ?_ _ _ _ _ _ _ hf hd (lv_sub hl [2, 1, 0] rfl)
    intro S_11 H locs ls hf hd hl
    refine lv_iload_n hc.x hc.b dX12_run_55 rfl (lv_at hl 0 rfl) ?_
    cases hf
    exact r_iret hc hd hr dX12_run_56
  · have hf := br_y c_4 hf
    refine lv_aload_n hc.x hc.b dX12_run_17 rfl (lv_at hl 0 rfl) ?_
    refine lv_iconst (v := 1) hc.x hc.b dX12_run_18 (by decide) ?_
    obtain ⟨r_14, S_13, hq_12, hf⟩ := on2_s hf
    refine k_i (k_runV hc hd my_X12_fails tw_1439 hL0 rfl rfl rfl (c_X12_fails l D cs B0 kt α Lv S_1 g0 1 hc.cl hL0  hq_12) rfl rfl hl.1 (Nat.le_of_ble_eq_true rfl) ⟨Nat.le_of_ble_eq_true rfl, Nat.le_of_ble_eq_true rfl, Nat.zero_le _, Nat.zero_le _⟩ dX12_run_19) hd (fun H locs hd => ?_)
    cases hf
    exact r_iret hc hd hr dX12_run_22
theorem c_X12_run (l : Launch) (D : va_G) (cs : Nat → ClassId) (B0 : Nat) (kt : (Nat → Nat) × (Nat → Nat)) (α : Nat → Nat → Nat) (Lv : Nat → Nat → Prop) (S : St) (g0 : Nat) (x1 : Int32) (hcl : Cl Lv) (hL0 : Lv 60 g0) {o : Int32 × St} (hf : f_X12_run g0 x1 S = some o) : Met l yX12_run (wz yX12_run cX12_run 4 (some .int)) (Rm 9 0 0) (Pz D cs B0 kt α Lv S [.ref (α 60 g0), .int x1]) (Qi D cs B0 α Lv o.1 o.2) 0 0 (AB B0) := met_of (by decide) rfl hcl (Nat.le_of_ble_eq_true rfl) (fun p e s m below meth c hc hr hd ls hl => b_X12_run hc hr hL0 hf hd hl)
theorem my_X12_run : MyV yX12_run "PumpCrossingModel" cX12_run 4 (some .int) 1 := ⟨tw_1592, tw_1593, tw_11, tw_1594, by decide +kernel⟩
def f_X12_starts (g0 : Nat) (x1 : Int32) (S : St) : Option (St) := bv (si S 60 g0 10 x1) (fun S_1 => bv (si S_1 60 g0 9 0) (fun S_2 => bv (si S_2 60 g0 11 0) (fun S_3 => bv (si S_3 60 g0 16 0) (fun S_4 => on (f_X12_next g0 S_4) (fun S_6 => some S_6)))))
set_option maxRecDepth 100000 in
set_option maxHeartbeats 4000000 in
theorem b_X12_starts (hc : Cx p s m args meth c cX12_starts 2 "PumpCrossingModel" D cs B0 kt Lv) (hr : meth.sig.returnType = none)  {o : St}  {S : St} {g0 : Nat} {x1 : Int32} (hL0 : Lv 60 g0) {H : Heap} {locs : List Loc} {ls : Array Slot} (hf : f_X12_starts g0 x1 S = some o) (hd : Dy s D cs B0 α Lv S H locs) (hl : lv_has ls 2 [(0, .ref (α 60 g0)), (1, .int x1)]) : W p l e (Rm 2 0 0) s m args below meth c H locs 0 0 (MQ below (Qv D cs B0 α Lv o) args s 0 0 (AB B0)) (F0 m 0 ls []) := by
  unfold f_X12_starts at hf
  refine lv_aload_n hc.x hc.b dX12_starts_0 rfl (lv_at hl 0 rfl) ?_
  refine lv_iload_n hc.x hc.b dX12_starts_1 rfl (lv_at hl 1 rfl) ?_
  refine fp_60_10 hc hd hL0 tw_1319 dX12_starts_2 (fun H locs hd => ?_)
  obtain ⟨S_1, hd, hf⟩ := nmD hd hf
  refine lv_aload_n hc.x hc.b dX12_starts_5 rfl (lv_at hl 0 rfl) ?_
  refine lv_iconst (v := 0) hc.x hc.b dX12_starts_6 (by decide) ?_
  refine fp_60_9 hc hd hL0 tw_1318 dX12_starts_7 (fun H locs hd => ?_)
  obtain ⟨S_2, hd, hf⟩ := nmD hd hf
  refine lv_aload_n hc.x hc.b dX12_starts_10 rfl (lv_at hl 0 rfl) ?_
  refine lv_iconst (v := 0) hc.x hc.b dX12_starts_11 (by decide) ?_
  refine fp_60_11 hc hd hL0 tw_1320 dX12_starts_12 (fun H locs hd => ?_)
  obtain ⟨S_3, hd, hf⟩ := nmD hd hf
  refine lv_aload_n hc.x hc.b dX12_starts_15 rfl (lv_at hl 0 rfl) ?_
  refine lv_iconst (v := 0) hc.x hc.b dX12_starts_16 (by decide) ?_
  refine fp_60_16 hc hd hL0 tw_1325 dX12_starts_17 (fun H locs hd => ?_)
  obtain ⟨S_4, hd, hf⟩ := nmD hd hf
  refine lv_aload_n hc.x hc.b dX12_starts_20 rfl (lv_at hl 0 rfl) ?_
  obtain ⟨S_6, hq_5, hf⟩ := on_s hf
  refine k_v (k_runV hc hd my_X12_next tw_1481 hL0 rfl rfl rfl (c_X12_next l D cs B0 kt α Lv S_4 g0 hc.cl hL0  hq_5) rfl rfl hl.1 (Nat.le_of_ble_eq_true rfl) ⟨Nat.le_of_ble_eq_true rfl, Nat.le_of_ble_eq_true rfl, Nat.zero_le _, Nat.zero_le _⟩ dX12_starts_21) hd (fun H locs hd => ?_)
  cases hf
  exact r_vret hc hd hr dX12_starts_24
theorem c_X12_starts (l : Launch) (D : va_G) (cs : Nat → ClassId) (B0 : Nat) (kt : (Nat → Nat) × (Nat → Nat)) (α : Nat → Nat → Nat) (Lv : Nat → Nat → Prop) (S : St) (g0 : Nat) (x1 : Int32) (hcl : Cl Lv) (hL0 : Lv 60 g0) {o : St} (hf : f_X12_starts g0 x1 S = some o) : Met l yX12_starts (wz yX12_starts cX12_starts 2 none) (Rm 2 0 0) (Pz D cs B0 kt α Lv S [.ref (α 60 g0), .int x1]) (Qv D cs B0 α Lv o) 0 0 (AB B0) := met_of (by decide) rfl hcl (Nat.le_of_ble_eq_true rfl) (fun p e s m below meth c hc hr hd ls hl => b_X12_starts hc hr hL0 hf hd hl)
theorem my_X12_starts : MyV yX12_starts "PumpCrossingModel" cX12_starts 2 none 1 := ⟨tw_1479, (in_sel 38 (by decide +kernel) (by decide +kernel)), tw_11, tw_1480, by decide +kernel⟩
def f_X12_station (g0 : Nat) (x1 : Int32) (x2 : Int32) (x3 : Int32) (S : St) : Option (Int32 × St) := bv (si S 60 g0 5 0) (fun S_1 => ck (inb 2 3179 = true) (bv (fun  (S_3 : St) => on2 (f_X12_fails g0 1 S_3) (fun r_7 S_6 => some (r_7, S_6))) (fun J_4 => br (0 < (gi S_1 61 g0 (nn 2))) (J_4 S_1) (ck (inb 5 3179 = true) (br ((gi S_1 61 g0 (nn 5)) ≤ 0) (on (f_X12_within (Int32.toInt64 x1) 0 99 S_1) (fun r_12 => bv (fun  (S_13 : St) => on2 (f_X12_fails g0 2 S_13) (fun r_17 S_16 => some (r_17, S_16))) (fun J_14 => br (r_12 = 0) (J_14 S_1) (on (f_X12_within (Int32.toInt64 x2) 0 99 S_1) (fun r_20 => br (r_20 = 0) (J_14 S_1) (on (f_X12_within (Int32.toInt64 x3) 0 3 S_1) (fun r_23 => br (r_23 = 0) (J_14 S_1) (ck (inb 0 3179 = true) (br ((gi S_1 61 g0 (nn 0)) = 4) (some ((-1), S_1)) (ck (inb 0 3179 = true) (bv (gi S_1 61 g0 (nn 0)) (fun x4_28 => ck (inb (8 + x4_28) 3179 = true) (bv (si S_1 61 g0 (nn (8 + x4_28)) x1) (fun S_30 => ck (inb (12 + x4_28) 3179 = true) (bv (si S_30 61 g0 (nn (12 + x4_28)) x2) (fun S_32 => ck (inb (16 + x4_28) 3179 = true) (bv (si S_32 61 g0 (nn (16 + x4_28)) x3) (fun S_34 => ck (inb (20 + x4_28) 3179 = true) (bv (si S_34 61 g0 (nn (20 + x4_28)) x2) (fun S_36 => ck (inb (24 + x4_28) 3179 = true) (bv (si S_36 61 g0 (nn (24 + x4_28)) ((-1))) (fun S_38 => ck (inb (125 + (440 * x4_28)) 3179 = true) (bv (si S_38 61 g0 (nn (125 + (440 * x4_28))) 0) (fun S_40 => ck (inb 0 3179 = true) (ck (inb 0 3179 = true) (bv (si S_40 61 g0 (nn 0) ((gi S_40 61 g0 (nn 0)) + 1)) (fun S_43 => some (x4_28, S_43)))))))))))))))))))))))))))) (J_4 S_1))))))
set_option maxRecDepth 100000 in
set_option maxHeartbeats 4000000 in
theorem b_X12_station (hc : Cx p s m args meth c cX12_station 5 "PumpCrossingModel" D cs B0 kt Lv) (hr : meth.sig.returnType = some .int)  {o : Int32 × St}  {S : St} {g0 : Nat} {x1 : Int32} {x2 : Int32} {x3 : Int32} (hL0 : Lv 60 g0) {H : Heap} {locs : List Loc} {ls : Array Slot} (hf : f_X12_station g0 x1 x2 x3 S = some o) (hd : Dy s D cs B0 α Lv S H locs) (hl : lv_has ls 5 [(0, .ref (α 60 g0)), (1, .int x1), (2, .int x2), (3, .int x3)]) : W p l e (Rm 1 0 0) s m args below meth c H locs 0 0 (MQ below (Qi D cs B0 α Lv o.1 o.2) args s 0 0 (AB B0)) (F0 m 0 ls []) := by
  unfold f_X12_station at hf
  refine lv_aload_n hc.x hc.b dX12_station_0 rfl (lv_at hl 0 rfl) ?_
  refine lv_iconst (v := 0) hc.x hc.b dX12_station_1 (by decide) ?_
  refine fp_60_5 hc hd hL0 tw_1314 dX12_station_2 (fun H locs hd => ?_)
  obtain ⟨S_1, hd, hf⟩ := nmD hd hf
  refine lv_aload_n hc.x hc.b dX12_station_5 rfl (lv_at hl 0 rfl) ?_
  refine fg_60_0 hc hd hL0 tw_1309 dX12_station_6 ?_
  refine lv_iconst (v := 2) hc.x hc.b dX12_station_9 (by decide) ?_
  obtain ⟨hi_2, hf⟩ := ck_s hf
  refine r_iald hc hd (cl_60_told hc.cl hL0) rfl hi_2 dX12_station_10 ?_
  refine jn_s (P := fun J_4 => ∀  (S_3 : St) (H : Heap) (locs : List Loc) (ls : Array Slot), J_4 S_3 = some o → Dy s D cs B0 α Lv S_3 H locs → lv_has ls 5 [(0, .ref (α 60 g0))] → W p l e (Rm 1 0 0) s m args below meth c H locs 0 0 (MQ below (Qi D cs B0 α Lv o.1 o.2) args s 0 0 (AB B0)) (F0 m 23 ls [])) hf ?_ (fun J_4 hJ_4 hf => ?_)
  · intro S_3 H locs ls hf hd hl
    refine lv_aload_n hc.x hc.b dX12_station_23 rfl (lv_at hl 0 rfl) ?_
    refine lv_iconst (v := 1) hc.x hc.b dX12_station_24 (by decide) ?_
    obtain ⟨r_7, S_6, hq_5, hf⟩ := on2_s hf
    refine k_i (k_runV hc hd my_X12_fails tw_1439 hL0 rfl rfl rfl (c_X12_fails l D cs B0 kt α Lv S_3 g0 1 hc.cl hL0  hq_5) rfl rfl hl.1 (Nat.le_of_ble_eq_true rfl) ⟨Nat.le_of_ble_eq_true rfl, Nat.le_of_ble_eq_true rfl, Nat.zero_le _, Nat.zero_le _⟩ dX12_station_25) hd (fun H locs hd => ?_)
    cases hf
    exact r_iret hc hd hr dX12_station_28
  refine lv_if_gt (tgt := 23) hc.x hc.b dX12_station_11 (by decide) (fun c_8 => ?_) (fun c_8 => ?_)
  · have hf := br_y c_8 hf
    exact hJ_4 S_1 _ _ _ hf hd (lv_sub hl [0] rfl)
  · have hf := br_n c_8 hf
    refine lv_aload_n hc.x hc.b dX12_station_14 rfl (lv_at hl 0 rfl) ?_
    refine fg_60_0 hc hd hL0 tw_1309 dX12_station_15 ?_
    refine lv_iconst (v := 5) hc.x hc.b dX12_station_18 (by decide) ?_
    obtain ⟨hi_9, hf⟩ := ck_s hf
    refine r_iald hc hd (cl_60_told hc.cl hL0) rfl hi_9 dX12_station_19 ?_
    refine lv_if_le (tgt := 29) hc.x hc.b dX12_station_20 (by decide) (fun c_10 => ?_) (fun c_10 => ?_)
    · have hf := br_y c_10 hf
      refine lv_iload_n hc.x hc.b dX12_station_29 rfl (lv_at hl 1 rfl) ?_
      refine lv_i2l (v := Int32.toInt64 x1) hc.x hc.b dX12_station_30 rfl ?_
      refine lv_lconst (v := 0) hc.x hc.b dX12_station_31 (by decide) ?_
      refine lv_ldc2 (v := 99) hc.x hc.b hc.ow (hc.ts tw_1443) dX12_station_32 ?_
      obtain ⟨r_12, hq_11, hf⟩ := on_s hf
      refine k_i (k_runS hc hd my_X12_within tw_1444 (c_X12_within l D cs B0 kt α Lv S_1 (Int32.toInt64 x1) 0 99 hc.cl   hq_11) rfl rfl hl.1 (Nat.le_of_ble_eq_true rfl) ⟨Nat.le_of_ble_eq_true rfl, Nat.le_of_ble_eq_true rfl, Nat.zero_le _, Nat.zero_le _⟩ dX12_station_35) hd (fun H locs hd => ?_)
      refine jn_s (P := fun J_14 => ∀  (S_13 : St) (H : Heap) (locs : List Loc) (ls : Array Slot), J_14 S_13 = some o → Dy s D cs B0 α Lv S_13 H locs → lv_has ls 5 [(0, .ref (α 60 g0))] → W p l e (Rm 1 0 0) s m args below meth c H locs 0 0 (MQ below (Qi D cs B0 α Lv o.1 o.2) args s 0 0 (AB B0)) (F0 m 65 ls [])) hf ?_ (fun J_14 hJ_14 hf => ?_)
      · intro S_13 H locs ls hf hd hl
        refine lv_aload_n hc.x hc.b dX12_station_65 rfl (lv_at hl 0 rfl) ?_
        refine lv_iconst (v := 2) hc.x hc.b dX12_station_66 (by decide) ?_
        obtain ⟨r_17, S_16, hq_15, hf⟩ := on2_s hf
        refine k_i (k_runV hc hd my_X12_fails tw_1439 hL0 rfl rfl rfl (c_X12_fails l D cs B0 kt α Lv S_13 g0 2 hc.cl hL0  hq_15) rfl rfl hl.1 (Nat.le_of_ble_eq_true rfl) ⟨Nat.le_of_ble_eq_true rfl, Nat.le_of_ble_eq_true rfl, Nat.zero_le _, Nat.zero_le _⟩ dX12_station_67) hd (fun H locs hd => ?_)
        cases hf
        exact r_iret hc hd hr dX12_station_70
      refine lv_if_eq (tgt := 65) hc.x hc.b dX12_station_38 (by decide) (fun c_18 => ?_) (fun c_18 => ?_)
      · have hf := br_y c_18 hf
        exact hJ_14 S_1 _ _ _ hf hd (lv_sub hl [0] rfl)
      · have hf := br_n c_18 hf
        refine lv_iload_n hc.x hc.b dX12_station_41 rfl (lv_at hl 2 rfl) ?_
        refine lv_i2l (v := Int32.toInt64 x2) hc.x hc.b dX12_station_42 rfl ?_
        refine lv_lconst (v := 0) hc.x hc.b dX12_station_43 (by decide) ?_
        refine lv_ldc2 (v := 99) hc.x hc.b hc.ow (hc.ts tw_1443) dX12_station_44 ?_
        obtain ⟨r_20, hq_19, hf⟩ := on_s hf
        refine k_i (k_runS hc hd my_X12_within tw_1444 (c_X12_within l D cs B0 kt α Lv S_1 (Int32.toInt64 x2) 0 99 hc.cl   hq_19) rfl rfl hl.1 (Nat.le_of_ble_eq_true rfl) ⟨Nat.le_of_ble_eq_true rfl, Nat.le_of_ble_eq_true rfl, Nat.zero_le _, Nat.zero_le _⟩ dX12_station_47) hd (fun H locs hd => ?_)
        refine lv_if_eq (tgt := 65) hc.x hc.b dX12_station_50 (by decide) (fun c_21 => ?_) (fun c_21 => ?_)
        · have hf := br_y c_21 hf
          exact hJ_14 S_1 _ _ _ hf hd (lv_sub hl [0] rfl)
        · have hf := br_n c_21 hf
          refine lv_iload_n hc.x hc.b dX12_station_53 rfl (lv_at hl 3 rfl) ?_
          refine lv_i2l (v := Int32.toInt64 x3) hc.x hc.b dX12_station_54 rfl ?_
          refine lv_lconst (v := 0) hc.x hc.b dX12_station_55 (by decide) ?_
          refine lv_ldc2 (v := 3) hc.x hc.b hc.ow (hc.ts tw_1447) dX12_station_56 ?_
          obtain ⟨r_23, hq_22, hf⟩ := on_s hf
          refine k_i (k_runS hc hd my_X12_within tw_1444 (c_X12_within l D cs B0 kt α Lv S_1 (Int32.toInt64 x3) 0 3 hc.cl   hq_22) rfl rfl hl.1 (Nat.le_of_ble_eq_true rfl) ⟨Nat.le_of_ble_eq_true rfl, Nat.le_of_ble_eq_true rfl, Nat.zero_le _, Nat.zero_le _⟩ dX12_station_59) hd (fun H locs hd => ?_)
          refine lv_if_ne (tgt := 71) hc.x hc.b dX12_station_62 (by decide) (fun c_24 => ?_) (fun c_24 => ?_)
          · have hf := br_n c_24 hf
            refine lv_aload_n hc.x hc.b dX12_station_71 rfl (lv_at hl 0 rfl) ?_
            refine fg_60_0 hc hd hL0 tw_1309 dX12_station_72 ?_
            refine lv_iconst (v := 0) hc.x hc.b dX12_station_75 (by decide) ?_
            obtain ⟨hi_25, hf⟩ := ck_s hf
            refine r_iald hc hd (cl_60_told hc.cl hL0) rfl hi_25 dX12_station_76 ?_
            refine lv_iconst (v := 4) hc.x hc.b dX12_station_77 (by decide) ?_
            refine lv_icmp_ne (tgt := 83) hc.x hc.b dX12_station_78 (by decide) (fun c_26 => ?_) (fun c_26 => ?_)
            · have hf := br_n c_26 hf
              refine lv_aload_n hc.x hc.b dX12_station_83 rfl (lv_at hl 0 rfl) ?_
              refine fg_60_0 hc hd hL0 tw_1309 dX12_station_84 ?_
              refine lv_iconst (v := 0) hc.x hc.b dX12_station_87 (by decide) ?_
              obtain ⟨hi_27, hf⟩ := ck_s hf
              refine r_iald hc hd (cl_60_told hc.cl hL0) rfl hi_27 dX12_station_88 ?_
              refine lv_topi (fun x4_28 ex4_28 => ?_)
              have hf := bv_n ex4_28 hf
              refine lv_istore (lv' := [(4, .int x4_28), (0, .ref (α 60 g0)), (1, .int x1), (2, .int x2), (3, .int x3)]) hc.x hc.b dX12_station_89 hl (by decide) rfl (fun ls hl => ?_)
              refine lv_aload_n hc.x hc.b dX12_station_91 rfl (lv_at hl 1 rfl) ?_
              refine fg_60_0 hc hd hL0 tw_1309 dX12_station_92 ?_
              refine lv_bipush (v := 8) hc.x hc.b dX12_station_95 (by decide) ?_
              refine lv_iload hc.x hc.b dX12_station_97 (lv_at hl 0 rfl) ?_
              refine lv_iadd hc.x hc.b dX12_station_99 ?_
              refine lv_iload_n hc.x hc.b dX12_station_100 rfl (lv_at hl 2 rfl) ?_
              obtain ⟨hi_29, hf⟩ := ck_s hf
              refine r_iast hc hd (cl_60_told hc.cl hL0) (fun _ => rfl) hi_29 dX12_station_101 (fun H locs hd => ?_)
              obtain ⟨S_30, hd, hf⟩ := nmD hd hf
              refine lv_aload_n hc.x hc.b dX12_station_102 rfl (lv_at hl 1 rfl) ?_
              refine fg_60_0 hc hd hL0 tw_1309 dX12_station_103 ?_
              refine lv_bipush (v := 12) hc.x hc.b dX12_station_106 (by decide) ?_
              refine lv_iload hc.x hc.b dX12_station_108 (lv_at hl 0 rfl) ?_
              refine lv_iadd hc.x hc.b dX12_station_110 ?_
              refine lv_iload_n hc.x hc.b dX12_station_111 rfl (lv_at hl 3 rfl) ?_
              obtain ⟨hi_31, hf⟩ := ck_s hf
              refine r_iast hc hd (cl_60_told hc.cl hL0) (fun _ => rfl) hi_31 dX12_station_112 (fun H locs hd => ?_)
              obtain ⟨S_32, hd, hf⟩ := nmD hd hf
              refine lv_aload_n hc.x hc.b dX12_station_113 rfl (lv_at hl 1 rfl) ?_
              refine fg_60_0 hc hd hL0 tw_1309 dX12_station_114 ?_
              refine lv_bipush (v := 16) hc.x hc.b dX12_station_117 (by decide) ?_
              refine lv_iload hc.x hc.b dX12_station_119 (lv_at hl 0 rfl) ?_
              refine lv_iadd hc.x hc.b dX12_station_121 ?_
              refine lv_iload_n hc.x hc.b dX12_station_122 rfl (lv_at hl 4 rfl) ?_
              obtain ⟨hi_33, hf⟩ := ck_s hf
              refine r_iast hc hd (cl_60_told hc.cl hL0) (fun _ => rfl) hi_33 dX12_station_123 (fun H locs hd => ?_)
              obtain ⟨S_34, hd, hf⟩ := nmD hd hf
              refine lv_aload_n hc.x hc.b dX12_station_124 rfl (lv_at hl 1 rfl) ?_
              refine fg_60_0 hc hd hL0 tw_1309 dX12_station_125 ?_
              refine lv_bipush (v := 20) hc.x hc.b dX12_station_128 (by decide) ?_
              refine lv_iload hc.x hc.b dX12_station_130 (lv_at hl 0 rfl) ?_
              refine lv_iadd hc.x hc.b dX12_station_132 ?_
              refine lv_iload_n hc.x hc.b dX12_station_133 rfl (lv_at hl 3 rfl) ?_
              obtain ⟨hi_35, hf⟩ := ck_s hf
              refine r_iast hc hd (cl_60_told hc.cl hL0) (fun _ => rfl) hi_35 dX12_station_134 (fun H locs hd => ?_)
              obtain ⟨S_36, hd, hf⟩ := nmD hd hf
              refine lv_aload_n hc.x hc.b dX12_station_135 rfl (lv_at hl 1 rfl) ?_
              refine fg_60_0 hc hd hL0 tw_1309 dX12_station_136 ?_
              refine lv_bipush (v := 24) hc.x hc.b dX12_station_139 (by decide) ?_
              refine lv_iload hc.x hc.b dX12_station_141 (lv_at hl 0 rfl) ?_
              refine lv_iadd hc.x hc.b dX12_station_143 ?_
              refine lv_iconst (v := (-1)) hc.x hc.b dX12_station_144 (by decide) ?_
              obtain ⟨hi_37, hf⟩ := ck_s hf
              refine r_iast hc hd (cl_60_told hc.cl hL0) (fun _ => rfl) hi_37 dX12_station_145 (fun H locs hd => ?_)
              obtain ⟨S_38, hd, hf⟩ := nmD hd hf
              refine lv_aload_n hc.x hc.b dX12_station_146 rfl (lv_at hl 1 rfl) ?_
              refine fg_60_0 hc hd hL0 tw_1309 dX12_station_147 ?_
              refine lv_bipush (v := 125) hc.x hc.b dX12_station_150 (by decide) ?_
              refine lv_sipush (v := 440) hc.x hc.b dX12_station_152 (by decide) ?_
              refine lv_iload hc.x hc.b dX12_station_155 (lv_at hl 0 rfl) ?_
              refine lv_imul hc.x hc.b dX12_station_157 ?_
              refine lv_iadd hc.x hc.b dX12_station_158 ?_
              refine lv_iconst (v := 0) hc.x hc.b dX12_station_159 (by decide) ?_
              obtain ⟨hi_39, hf⟩ := ck_s hf
              refine r_iast hc hd (cl_60_told hc.cl hL0) (fun _ => rfl) hi_39 dX12_station_160 (fun H locs hd => ?_)
              obtain ⟨S_40, hd, hf⟩ := nmD hd hf
              refine lv_aload_n hc.x hc.b dX12_station_161 rfl (lv_at hl 1 rfl) ?_
              refine fg_60_0 hc hd hL0 tw_1309 dX12_station_162 ?_
              refine lv_iconst (v := 0) hc.x hc.b dX12_station_165 (by decide) ?_
              refine lv_dup2_11 hc.x hc.b dX12_station_166 rfl rfl ?_
              obtain ⟨hi_41, hf⟩ := ck_s hf
              refine r_iald hc hd (cl_60_told hc.cl hL0) rfl hi_41 dX12_station_167 ?_
              refine lv_iconst (v := 1) hc.x hc.b dX12_station_168 (by decide) ?_
              refine lv_iadd hc.x hc.b dX12_station_169 ?_
              obtain ⟨hi_42, hf⟩ := ck_s hf
              refine r_iast hc hd (cl_60_told hc.cl hL0) (fun _ => rfl) hi_42 dX12_station_170 (fun H locs hd => ?_)
              obtain ⟨S_43, hd, hf⟩ := nmD hd hf
              refine lv_iload hc.x hc.b dX12_station_171 (lv_at hl 0 rfl) ?_
              cases hf
              exact r_iret hc hd hr dX12_station_173
            · have hf := br_y c_26 hf
              refine lv_iconst (v := (-1)) hc.x hc.b dX12_station_81 (by decide) ?_
              cases hf
              exact r_iret hc hd hr dX12_station_82
          · have hf := br_y c_24 hf
            exact hJ_14 S_1 _ _ _ hf hd (lv_sub hl [0] rfl)
    · have hf := br_n c_10 hf
      exact hJ_4 S_1 _ _ _ hf hd (lv_sub hl [0] rfl)
theorem c_X12_station (l : Launch) (D : va_G) (cs : Nat → ClassId) (B0 : Nat) (kt : (Nat → Nat) × (Nat → Nat)) (α : Nat → Nat → Nat) (Lv : Nat → Nat → Prop) (S : St) (g0 : Nat) (x1 : Int32) (x2 : Int32) (x3 : Int32) (hcl : Cl Lv) (hL0 : Lv 60 g0) {o : Int32 × St} (hf : f_X12_station g0 x1 x2 x3 S = some o) : Met l yX12_station (wz yX12_station cX12_station 5 (some .int)) (Rm 1 0 0) (Pz D cs B0 kt α Lv S [.ref (α 60 g0), .int x1, .int x2, .int x3]) (Qi D cs B0 α Lv o.1 o.2) 0 0 (AB B0) := met_of (by decide) rfl hcl (Nat.le_of_ble_eq_true rfl) (fun p e s m below meth c hc hr hd ls hl => b_X12_station hc hr hL0 hf hd hl)
theorem my_X12_station : MyV yX12_station "PumpCrossingModel" cX12_station 5 (some .int) 3 := ⟨tw_1436, tw_1437, tw_11, tw_1438, by decide +kernel⟩
def f_X12_stop (g0 : Nat) (S : St) : Option (St) := bv (fun  (S_1 : St) => bv (fun  (S_3 : St) => some S_3) (fun J_4 => br ((gi S_1 60 g0 16) = 0) (on (f_X12_next g0 S_1) (fun S_7 => J_4 S_7)) (J_4 S_1))) (fun J_2 => br ((gi S 60 g0 16) = 0) (br ((gi S 60 g0 15) = 59) (J_2 S) (on (f_X12_blames g0 2 S) (fun S_11 => J_2 S_11))) (J_2 S))
set_option maxRecDepth 100000 in
set_option maxHeartbeats 4000000 in
theorem b_X12_stop (hc : Cx p s m args meth c cX12_stop 1 "PumpCrossingModel" D cs B0 kt Lv) (hr : meth.sig.returnType = none)  {o : St}  {S : St} {g0 : Nat} (hL0 : Lv 60 g0) {H : Heap} {locs : List Loc} {ls : Array Slot} (hf : f_X12_stop g0 S = some o) (hd : Dy s D cs B0 α Lv S H locs) (hl : lv_has ls 1 [(0, .ref (α 60 g0))]) : W p l e (Rm 2 0 0) s m args below meth c H locs 0 0 (MQ below (Qv D cs B0 α Lv o) args s 0 0 (AB B0)) (F0 m 0 ls []) := by
  unfold f_X12_stop at hf
  refine lv_aload_n hc.x hc.b dX12_stop_0 rfl (lv_at hl 0 rfl) ?_
  refine fg_60_16 hc hd hL0 tw_1325 dX12_stop_1 ?_
  refine jn_s (P := fun J_2 => ∀  (S_1 : St) (H : Heap) (locs : List Loc) (ls : Array Slot), J_2 S_1 = some o → Dy s D cs B0 α Lv S_1 H locs → lv_has ls 1 [(0, .ref (α 60 g0))] → W p l e (Rm 2 0 0) s m args below meth c H locs 0 0 (MQ below (Qv D cs B0 α Lv o) args s 0 0 (AB B0)) (F0 m 21 ls [])) hf ?_ (fun J_2 hJ_2 hf => ?_)
  · intro S_1 H locs ls hf hd hl
    refine lv_aload_n hc.x hc.b dX12_stop_21 rfl (lv_at hl 0 rfl) ?_
    refine fg_60_16 hc hd hL0 tw_1325 dX12_stop_22 ?_
    refine jn_s (P := fun J_4 => ∀  (S_3 : St) (H : Heap) (locs : List Loc) (ls : Array Slot), J_4 S_3 = some o → Dy s D cs B0 α Lv S_3 H locs → lv_has ls 1 [] → W p l e (Rm 2 0 0) s m args below meth c H locs 0 0 (MQ below (Qv D cs B0 α Lv o) args s 0 0 (AB B0)) (F0 m 32 ls [])) hf ?_ (fun J_4 hJ_4 hf => ?_)
    · intro S_3 H locs ls hf hd hl
      cases hf
      exact r_vret hc hd hr dX12_stop_32
    refine lv_if_ne (tgt := 32) hc.x hc.b dX12_stop_25 (by decide) (fun c_5 => ?_) (fun c_5 => ?_)
    · have hf := br_n c_5 hf
      exact hJ_4 S_1 _ _ _ hf hd (lv_sub hl [] rfl)
    · have hf := br_y c_5 hf
      refine lv_aload_n hc.x hc.b dX12_stop_28 rfl (lv_at hl 0 rfl) ?_
      obtain ⟨S_7, hq_6, hf⟩ := on_s hf
      refine k_v (k_runV hc hd my_X12_next tw_1481 hL0 rfl rfl rfl (c_X12_next l D cs B0 kt α Lv S_1 g0 hc.cl hL0  hq_6) rfl rfl hl.1 (Nat.le_of_ble_eq_true rfl) ⟨Nat.le_of_ble_eq_true rfl, Nat.le_of_ble_eq_true rfl, Nat.zero_le _, Nat.zero_le _⟩ dX12_stop_29) hd (fun H locs hd => ?_)
      exact hJ_4 S_7 _ _ _ hf hd (lv_sub hl [] rfl)
  refine lv_if_ne (tgt := 21) hc.x hc.b dX12_stop_4 (by decide) (fun c_8 => ?_) (fun c_8 => ?_)
  · have hf := br_n c_8 hf
    exact hJ_2 S _ _ _ hf hd (lv_sub hl [0] rfl)
  · have hf := br_y c_8 hf
    refine lv_aload_n hc.x hc.b dX12_stop_7 rfl (lv_at hl 0 rfl) ?_
    refine fg_60_15 hc hd hL0 tw_1324 dX12_stop_8 ?_
    refine lv_bipush (v := 59) hc.x hc.b dX12_stop_11 (by decide) ?_
    refine lv_icmp_eq (tgt := 21) hc.x hc.b dX12_stop_13 (by decide) (fun c_9 => ?_) (fun c_9 => ?_)
    · have hf := br_y c_9 hf
      exact hJ_2 S _ _ _ hf hd (lv_sub hl [0] rfl)
    · have hf := br_n c_9 hf
      refine lv_aload_n hc.x hc.b dX12_stop_16 rfl (lv_at hl 0 rfl) ?_
      refine lv_iconst (v := 2) hc.x hc.b dX12_stop_17 (by decide) ?_
      obtain ⟨S_11, hq_10, hf⟩ := on_s hf
      refine k_v (k_runV hc hd my_X12_blames tw_1518 hL0 rfl rfl rfl (c_X12_blames l D cs B0 kt α Lv S g0 2 hc.cl hL0  hq_10) rfl rfl hl.1 (Nat.le_of_ble_eq_true rfl) ⟨Nat.le_of_ble_eq_true rfl, Nat.le_of_ble_eq_true rfl, Nat.zero_le _, Nat.zero_le _⟩ dX12_stop_18) hd (fun H locs hd => ?_)
      exact hJ_2 S_11 _ _ _ hf hd (lv_sub hl [0] rfl)
theorem c_X12_stop (l : Launch) (D : va_G) (cs : Nat → ClassId) (B0 : Nat) (kt : (Nat → Nat) × (Nat → Nat)) (α : Nat → Nat → Nat) (Lv : Nat → Nat → Prop) (S : St) (g0 : Nat) (hcl : Cl Lv) (hL0 : Lv 60 g0) {o : St} (hf : f_X12_stop g0 S = some o) : Met l yX12_stop (wz yX12_stop cX12_stop 1 none) (Rm 2 0 0) (Pz D cs B0 kt α Lv S [.ref (α 60 g0)]) (Qv D cs B0 α Lv o) 0 0 (AB B0) := met_of (by decide) rfl hcl (Nat.le_of_ble_eq_true rfl) (fun p e s m below meth c hc hr hd ls hl => b_X12_stop hc hr hL0 hf hd hl)
theorem my_X12_stop : MyV yX12_stop "PumpCrossingModel" cX12_stop 1 none 0 := ⟨tw_1569, (in_sel 53 (by decide +kernel) (by decide +kernel)), tw_11, tw_1570, by decide +kernel⟩
def f_X12_story_62 (g0 : Nat) (x1 : Int32) (x2 : Int32) (K : St → Option (Int32 × St)) : Nat → Int32 → St → Option (Int32 × St)
  | 0, _, _ => none
  | n + 1, x3, S => br (21 ≤ x3) (K S) (ck (inb ((28 * x2) + x3) 112 = true) (on (f_X12_within (gl S 80 g0 (nn ((28 * x2) + x3))) 0 9 S) (fun r_15 => br (r_15 = 0) (some (0, S)) (bv (x3 + 1) (fun x3_17 => f_X12_story_62 g0 x1 x2 K n x3_17 S)))))
def f_X12_story_99 (g0 : Nat) (x1 : Int32) (x2 : Int32) (K : St → Option (Int32 × St)) : Nat → Int32 → St → Option (Int32 × St)
  | 0, _, _ => none
  | n + 1, x3, S => br (21 ≤ x3) (K S) (ck (inb ((28 * x2) + x3) 112 = true) (ck (inb ((78 + (21 * x1)) + x3) 3179 = true) (bv (si S 61 g0 (nn ((78 + (21 * x1)) + x3)) (Int64.toInt32 (gl S 80 g0 (nn ((28 * x2) + x3))))) (fun S_22 => bv (x3 + 1) (fun x3_23 => f_X12_story_99 g0 x1 x2 K n x3_23 S_22)))))
def f_X12_story (g0 : Nat) (x1 : Int32) (x2 : Int32) (S : St) : Option (Int32 × St) := on (f_X12_within (Int32.toInt64 x1) 0 1 S) (fun r_2 => bv (fun (v_3 : Int32) (S_4 : St) => bv (si S_4 60 g0 5 v_3) (fun S_6 => bv (fun  (S_7 : St) => some (0, S_7)) (fun J_8 => br (0 < (gi S_6 60 g0 5)) (J_8 S_6) (ck (inb x2 4 = true) (br ((gi S_6 79 g0 (nn x2)) = 21) (f_X12_story_62 g0 x1 x2 (fun  (S_18 : St) => f_X12_story_99 g0 x1 x2 (fun  (S_24 : St) => some (1, S_24)) FU 0 S_18) FU 0 S_6) (J_8 S_6)))))) (fun J_5 => bv (fun  (S_25 : St) => J_5 1 S_25) (fun J_26 => br (r_2 = 0) (J_26 S) (on (f_X12_isTray x2 S) (fun r_29 => br (r_29 = 0) (J_26 S) (ck (inb x2 4 = true) (br ((gi S 78 g0 (nn x2)) = ((-1))) (J_5 2 S) (J_5 0 S))))))))
set_option maxRecDepth 100000 in
set_option maxHeartbeats 4000000 in
theorem w_X12_story_62 (hc : Cx p s m args meth c cX12_story 4 "PumpCrossingModel" D cs B0 kt Lv) (hr : meth.sig.returnType = some .boolean) {o : Int32 × St}  {g0 : Nat} {x1 : Int32} {x2 : Int32} {K : St → Option (Int32 × St)} (hL0 : Lv 60 g0) (hK : ∀  (S : St) (H : Heap) (locs : List Loc) (ls : Array Slot), K S = some o → Dy s D cs B0 α Lv S H locs → lv_has ls 4 [(0, .ref (α 60 g0)), (1, .int x1), (2, .int x2)] → W p l e (Rm 2 0 0) s m args below meth c H locs 0 0 (MQ below (Qi D cs B0 α Lv o.1 o.2) args s 0 0 (AB B0)) (F0 m 97 ls [])) : ∀ (n : Nat) (x3 : Int32) (S : St) (H : Heap) (locs : List Loc) (ls : Array Slot), f_X12_story_62 g0 x1 x2 K n x3 S = some o → Dy s D cs B0 α Lv S H locs → lv_has ls 4 [(0, .ref (α 60 g0)), (1, .int x1), (2, .int x2), (3, .int x3)] → W p l e (Rm 2 0 0) s m args below meth c H locs 0 0 (MQ below (Qi D cs B0 α Lv o.1 o.2) args s 0 0 (AB B0)) (F0 m 62 ls []) := by
  intro n
  induction n with
  | zero =>
    intro x3 S H locs ls hf
    rw [f_X12_story_62] at hf
    cases hf
  | succ n ih =>
    intro x3 S H locs ls hf hd hl
    rw [f_X12_story_62] at hf
    refine lv_iload_n hc.x hc.b dX12_story_62 rfl (lv_at hl 3 rfl) ?_
    refine lv_bipush (v := 21) hc.x hc.b dX12_story_63 (by decide) ?_
    refine lv_icmp_ge (tgt := 97) hc.x hc.b dX12_story_65 (by decide) (fun c_12 => ?_) (fun c_12 => ?_)
    · have hf := br_y c_12 hf
      exact hK S _ _ _ hf hd (lv_sub hl [0, 1, 2] rfl)
    · have hf := br_n c_12 hf
      refine lv_aload_n hc.x hc.b dX12_story_68 rfl (lv_at hl 0 rfl) ?_
      refine fg_60_39 hc hd hL0 tw_1348 dX12_story_69 ?_
      refine lv_bipush (v := 28) hc.x hc.b dX12_story_72 (by decide) ?_
      refine lv_iload_n hc.x hc.b dX12_story_74 rfl (lv_at hl 2 rfl) ?_
      refine lv_imul hc.x hc.b dX12_story_75 ?_
      refine lv_iload_n hc.x hc.b dX12_story_76 rfl (lv_at hl 3 rfl) ?_
      refine lv_iadd hc.x hc.b dX12_story_77 ?_
      obtain ⟨hi_13, hf⟩ := ck_s hf
      refine r_lald hc hd (cl_60_numbers hc.cl hL0) rfl hi_13 dX12_story_78 ?_
      refine lv_lconst (v := 0) hc.x hc.b dX12_story_79 (by decide) ?_
      refine lv_ldc2 (v := 9) hc.x hc.b hc.ow (hc.ts tw_1829) dX12_story_80 ?_
      obtain ⟨r_15, hq_14, hf⟩ := on_s hf
      refine k_i (k_runS hc hd my_X12_within tw_1444 (c_X12_within l D cs B0 kt α Lv S (gl S 80 g0 (nn ((28 * x2) + x3))) 0 9 hc.cl   hq_14) rfl rfl hl.1 (Nat.le_of_ble_eq_true rfl) ⟨Nat.le_of_ble_eq_true rfl, Nat.le_of_ble_eq_true rfl, Nat.zero_le _, Nat.zero_le _⟩ dX12_story_83) hd (fun H locs hd => ?_)
      refine lv_if_ne (tgt := 91) hc.x hc.b dX12_story_86 (by decide) (fun c_16 => ?_) (fun c_16 => ?_)
      · have hf := br_n c_16 hf
        obtain ⟨x3_17, ex3_17⟩ : ∃ z : Int32, z = x3 + 1 := ⟨_, rfl⟩
        have hf := bv_n ex3_17 hf
        refine lv_iinc (v := x3_17) (lv' := [(3, .int x3_17), (0, .ref (α 60 g0)), (1, .int x1), (2, .int x2)]) hc.x hc.b dX12_story_91 hl (k := 3) rfl (by rw [ex3_17]; rfl) (by decide) rfl (fun ls hl => ?_)
        refine lv_goto (tgt := 62) hc.x hc.b dX12_story_94 (by decide) ?_
        exact ih x3_17 S _ _ _ hf hd (lv_sub hl [1, 2, 3, 0] rfl)
      · have hf := br_y c_16 hf
        refine lv_iconst (v := 0) hc.x hc.b dX12_story_89 (by decide) ?_
        cases hf
        exact r_zret hc hd hr (Or.inl rfl) dX12_story_90
set_option maxRecDepth 100000 in
set_option maxHeartbeats 4000000 in
theorem w_X12_story_99 (hc : Cx p s m args meth c cX12_story 4 "PumpCrossingModel" D cs B0 kt Lv) (hr : meth.sig.returnType = some .boolean) {o : Int32 × St}  {g0 : Nat} {x1 : Int32} {x2 : Int32} {K : St → Option (Int32 × St)} (hL0 : Lv 60 g0) (hK : ∀  (S : St) (H : Heap) (locs : List Loc) (ls : Array Slot), K S = some o → Dy s D cs B0 α Lv S H locs → lv_has ls 4 [] → W p l e (Rm 2 0 0) s m args below meth c H locs 0 0 (MQ below (Qi D cs B0 α Lv o.1 o.2) args s 0 0 (AB B0)) (F0 m 137 ls [])) : ∀ (n : Nat) (x3 : Int32) (S : St) (H : Heap) (locs : List Loc) (ls : Array Slot), f_X12_story_99 g0 x1 x2 K n x3 S = some o → Dy s D cs B0 α Lv S H locs → lv_has ls 4 [(0, .ref (α 60 g0)), (1, .int x1), (2, .int x2), (3, .int x3)] → W p l e (Rm 2 0 0) s m args below meth c H locs 0 0 (MQ below (Qi D cs B0 α Lv o.1 o.2) args s 0 0 (AB B0)) (F0 m 99 ls []) := by
  intro n
  induction n with
  | zero =>
    intro x3 S H locs ls hf
    rw [f_X12_story_99] at hf
    cases hf
  | succ n ih =>
    intro x3 S H locs ls hf hd hl
    rw [f_X12_story_99] at hf
    refine lv_iload_n hc.x hc.b dX12_story_99 rfl (lv_at hl 3 rfl) ?_
    refine lv_bipush (v := 21) hc.x hc.b dX12_story_100 (by decide) ?_
    refine lv_icmp_ge (tgt := 137) hc.x hc.b dX12_story_102 (by decide) (fun c_19 => ?_) (fun c_19 => ?_)
    · have hf := br_y c_19 hf
      exact hK S _ _ _ hf hd (lv_sub hl [] rfl)
    · have hf := br_n c_19 hf
      refine lv_aload_n hc.x hc.b dX12_story_105 rfl (lv_at hl 0 rfl) ?_
      refine fg_60_0 hc hd hL0 tw_1309 dX12_story_106 ?_
      refine lv_bipush (v := 78) hc.x hc.b dX12_story_109 (by decide) ?_
      refine lv_bipush (v := 21) hc.x hc.b dX12_story_111 (by decide) ?_
      refine lv_iload_n hc.x hc.b dX12_story_113 rfl (lv_at hl 1 rfl) ?_
      refine lv_imul hc.x hc.b dX12_story_114 ?_
      refine lv_iadd hc.x hc.b dX12_story_115 ?_
      refine lv_iload_n hc.x hc.b dX12_story_116 rfl (lv_at hl 3 rfl) ?_
      refine lv_iadd hc.x hc.b dX12_story_117 ?_
      refine lv_aload_n hc.x hc.b dX12_story_118 rfl (lv_at hl 0 rfl) ?_
      refine fg_60_39 hc hd hL0 tw_1348 dX12_story_119 ?_
      refine lv_bipush (v := 28) hc.x hc.b dX12_story_122 (by decide) ?_
      refine lv_iload_n hc.x hc.b dX12_story_124 rfl (lv_at hl 2 rfl) ?_
      refine lv_imul hc.x hc.b dX12_story_125 ?_
      refine lv_iload_n hc.x hc.b dX12_story_126 rfl (lv_at hl 3 rfl) ?_
      refine lv_iadd hc.x hc.b dX12_story_127 ?_
      obtain ⟨hi_20, hf⟩ := ck_s hf
      refine r_lald hc hd (cl_60_numbers hc.cl hL0) rfl hi_20 dX12_story_128 ?_
      refine lv_l2i (v := Int64.toInt32 (gl S 80 g0 (nn ((28 * x2) + x3)))) hc.x hc.b dX12_story_129 rfl ?_
      obtain ⟨hi_21, hf⟩ := ck_s hf
      refine r_iast hc hd (cl_60_told hc.cl hL0) (fun _ => rfl) hi_21 dX12_story_130 (fun H locs hd => ?_)
      obtain ⟨S_22, hd, hf⟩ := nmD hd hf
      obtain ⟨x3_23, ex3_23⟩ : ∃ z : Int32, z = x3 + 1 := ⟨_, rfl⟩
      have hf := bv_n ex3_23 hf
      refine lv_iinc (v := x3_23) (lv' := [(3, .int x3_23), (0, .ref (α 60 g0)), (1, .int x1), (2, .int x2)]) hc.x hc.b dX12_story_131 hl (k := 3) rfl (by rw [ex3_23]; rfl) (by decide) rfl (fun ls hl => ?_)
      refine lv_goto (tgt := 99) hc.x hc.b dX12_story_134 (by decide) ?_
      exact ih x3_23 S_22 _ _ _ hf hd (lv_sub hl [1, 2, 3, 0] rfl)
set_option maxRecDepth 100000 in
set_option maxHeartbeats 4000000 in
theorem b_X12_story (hc : Cx p s m args meth c cX12_story 4 "PumpCrossingModel" D cs B0 kt Lv) (hr : meth.sig.returnType = some .boolean)  {o : Int32 × St}  {S : St} {g0 : Nat} {x1 : Int32} {x2 : Int32} (hL0 : Lv 60 g0) {H : Heap} {locs : List Loc} {ls : Array Slot} (hf : f_X12_story g0 x1 x2 S = some o) (hd : Dy s D cs B0 α Lv S H locs) (hl : lv_has ls 4 [(0, .ref (α 60 g0)), (1, .int x1), (2, .int x2)]) : W p l e (Rm 2 0 0) s m args below meth c H locs 0 0 (MQ below (Qi D cs B0 α Lv o.1 o.2) args s 0 0 (AB B0)) (F0 m 0 ls []) := by
  unfold f_X12_story at hf
  refine lv_aload_n hc.x hc.b dX12_story_0 rfl (lv_at hl 0 rfl) ?_
  refine lv_iload_n hc.x hc.b dX12_story_1 rfl (lv_at hl 1 rfl) ?_
  refine lv_i2l (v := Int32.toInt64 x1) hc.x hc.b dX12_story_2 rfl ?_
  refine lv_lconst (v := 0) hc.x hc.b dX12_story_3 (by decide) ?_
  refine lv_lconst (v := 1) hc.x hc.b dX12_story_4 (by decide) ?_
  obtain ⟨r_2, hq_1, hf⟩ := on_s hf
  refine k_i (k_runS hc hd my_X12_within tw_1444 (c_X12_within l D cs B0 kt α Lv S (Int32.toInt64 x1) 0 1 hc.cl   hq_1) rfl rfl hl.1 (Nat.le_of_ble_eq_true rfl) ⟨Nat.le_of_ble_eq_true rfl, Nat.le_of_ble_eq_true rfl, Nat.zero_le _, Nat.zero_le _⟩ dX12_story_5) hd (fun H locs hd => ?_)
  refine jn_s (P := fun J_5 => ∀ (v_3 : Int32) (S_4 : St) (H : Heap) (locs : List Loc) (ls : Array Slot), J_5 v_3 S_4 = some o → Dy s D cs B0 α Lv S_4 H locs → lv_has ls 4 [(0, .ref (α 60 g0)), (1, .int x1), (2, .int x2)] → W p l e (Rm 2 0 0) s m args below meth c H locs 0 0 (MQ below (Qi D cs B0 α Lv o.1 o.2) args s 0 0 (AB B0)) (F0 m 37 ls [.int v_3, .ref (α 60 g0)])) hf ?_ (fun J_5 hJ_5 hf => ?_)
  · intro v_3 S_4 H locs ls hf hd hl
    refine fp_60_5 hc hd hL0 tw_1314 dX12_story_37 (fun H locs hd => ?_)
    obtain ⟨S_6, hd, hf⟩ := nmD hd hf
    refine lv_aload_n hc.x hc.b dX12_story_40 rfl (lv_at hl 0 rfl) ?_
    refine fg_60_5 hc hd hL0 tw_1314 dX12_story_41 ?_
    refine jn_s (P := fun J_8 => ∀  (S_7 : St) (H : Heap) (locs : List Loc) (ls : Array Slot), J_8 S_7 = some o → Dy s D cs B0 α Lv S_7 H locs → lv_has ls 4 [] → W p l e (Rm 2 0 0) s m args below meth c H locs 0 0 (MQ below (Qi D cs B0 α Lv o.1 o.2) args s 0 0 (AB B0)) (F0 m 58 ls [])) hf ?_ (fun J_8 hJ_8 hf => ?_)
    · intro S_7 H locs ls hf hd hl
      refine lv_iconst (v := 0) hc.x hc.b dX12_story_58 (by decide) ?_
      cases hf
      exact r_zret hc hd hr (Or.inl rfl) dX12_story_59
    refine lv_if_gt (tgt := 58) hc.x hc.b dX12_story_44 (by decide) (fun c_9 => ?_) (fun c_9 => ?_)
    · have hf := br_y c_9 hf
      exact hJ_8 S_6 _ _ _ hf hd (lv_sub hl [] rfl)
    · have hf := br_n c_9 hf
      refine lv_aload_n hc.x hc.b dX12_story_47 rfl (lv_at hl 0 rfl) ?_
      refine fg_60_38 hc hd hL0 tw_1347 dX12_story_48 ?_
      refine lv_iload_n hc.x hc.b dX12_story_51 rfl (lv_at hl 2 rfl) ?_
      obtain ⟨hi_10, hf⟩ := ck_s hf
      refine r_iald hc hd (cl_60_tMany hc.cl hL0) rfl hi_10 dX12_story_52 ?_
      refine lv_bipush (v := 21) hc.x hc.b dX12_story_53 (by decide) ?_
      refine lv_icmp_eq (tgt := 60) hc.x hc.b dX12_story_55 (by decide) (fun c_11 => ?_) (fun c_11 => ?_)
      · have hf := br_y c_11 hf
        refine lv_iconst (v := 0) hc.x hc.b dX12_story_60 (by decide) ?_
        refine lv_istore_n (lv' := [(3, .int 0), (0, .ref (α 60 g0)), (1, .int x1), (2, .int x2)]) hc.x hc.b dX12_story_61 rfl hl (by decide) rfl (fun ls hl => ?_)
        refine w_X12_story_62 hc hr hL0 ?_ _ _ _ _ _ _ hf hd (lv_sub hl [1, 2, 3, 0] rfl)
        intro S_18 H locs ls hf hd hl
        refine lv_iconst (v := 0) hc.x hc.b dX12_story_97 (by decide) ?_
        refine lv_istore_n (lv' := [(3, .int 0), (0, .ref (α 60 g0)), (1, .int x1), (2, .int x2)]) hc.x hc.b dX12_story_98 rfl hl (by decide) rfl (fun ls hl => ?_)
        refine w_X12_story_99 hc hr hL0 ?_ _ _ _ _ _ _ hf hd (lv_sub hl [1, 2, 3, 0] rfl)
        intro S_24 H locs ls hf hd hl
        refine lv_iconst (v := 1) hc.x hc.b dX12_story_137 (by decide) ?_
        cases hf
        exact r_zret hc hd hr (Or.inr rfl) dX12_story_138
      · have hf := br_n c_11 hf
        exact hJ_8 S_6 _ _ _ hf hd (lv_sub hl [] rfl)
  refine jn_s (P := fun J_26 => ∀  (S_25 : St) (H : Heap) (locs : List Loc) (ls : Array Slot), J_26 S_25 = some o → Dy s D cs B0 α Lv S_25 H locs → lv_has ls 4 [(0, .ref (α 60 g0)), (1, .int x1), (2, .int x2)] → W p l e (Rm 2 0 0) s m args below meth c H locs 0 0 (MQ below (Qi D cs B0 α Lv o.1 o.2) args s 0 0 (AB B0)) (F0 m 18 ls [.ref (α 60 g0)])) hf ?_ (fun J_26 hJ_26 hf => ?_)
  · intro S_25 H locs ls hf hd hl
    refine lv_iconst (v := 1) hc.x hc.b dX12_story_18 (by decide) ?_
    refine lv_goto (tgt := 37) hc.x hc.b dX12_story_19 (by decide) ?_
    exact hJ_5 1 S_25 _ _ _ hf hd (lv_sub hl [0, 1, 2] rfl)
  refine lv_if_eq (tgt := 18) hc.x hc.b dX12_story_8 (by decide) (fun c_27 => ?_) (fun c_27 => ?_)
  · have hf := br_y c_27 hf
    exact hJ_26 S _ _ _ hf hd (lv_sub hl [0, 1, 2] rfl)
  · have hf := br_n c_27 hf
    refine lv_iload_n hc.x hc.b dX12_story_11 rfl (lv_at hl 2 rfl) ?_
    obtain ⟨r_29, hq_28, hf⟩ := on_s hf
    refine k_i (k_runS hc hd my_X12_isTray tw_1826 (c_X12_isTray l D cs B0 kt α Lv S x2 hc.cl   hq_28) rfl rfl hl.1 (Nat.le_of_ble_eq_true rfl) ⟨Nat.le_of_ble_eq_true rfl, Nat.le_of_ble_eq_true rfl, Nat.zero_le _, Nat.zero_le _⟩ dX12_story_12) hd (fun H locs hd => ?_)
    refine lv_if_ne (tgt := 22) hc.x hc.b dX12_story_15 (by decide) (fun c_30 => ?_) (fun c_30 => ?_)
    · have hf := br_n c_30 hf
      refine lv_aload_n hc.x hc.b dX12_story_22 rfl (lv_at hl 0 rfl) ?_
      refine fg_60_37 hc hd hL0 tw_1346 dX12_story_23 ?_
      refine lv_iload_n hc.x hc.b dX12_story_26 rfl (lv_at hl 2 rfl) ?_
      obtain ⟨hi_31, hf⟩ := ck_s hf
      refine r_iald hc hd (cl_60_tSort hc.cl hL0) rfl hi_31 dX12_story_27 ?_
      refine lv_iconst (v := (-1)) hc.x hc.b dX12_story_28 (by decide) ?_
      refine lv_icmp_ne (tgt := 36) hc.x hc.b dX12_story_29 (by decide) (fun c_32 => ?_) (fun c_32 => ?_)
      · have hf := br_n c_32 hf
        refine lv_iconst (v := 0) hc.x hc.b dX12_story_36 (by decide) ?_
        exact hJ_5 0 S _ _ _ hf hd (lv_sub hl [0, 1, 2] rfl)
      · have hf := br_y c_32 hf
        refine lv_iconst (v := 2) hc.x hc.b dX12_story_32 (by decide) ?_
        refine lv_goto (tgt := 37) hc.x hc.b dX12_story_33 (by decide) ?_
        exact hJ_5 2 S _ _ _ hf hd (lv_sub hl [0, 1, 2] rfl)
    · have hf := br_y c_30 hf
      exact hJ_26 S _ _ _ hf hd (lv_sub hl [0, 1, 2] rfl)
theorem c_X12_story (l : Launch) (D : va_G) (cs : Nat → ClassId) (B0 : Nat) (kt : (Nat → Nat) × (Nat → Nat)) (α : Nat → Nat → Nat) (Lv : Nat → Nat → Prop) (S : St) (g0 : Nat) (x1 : Int32) (x2 : Int32) (hcl : Cl Lv) (hL0 : Lv 60 g0) {o : Int32 × St} (hf : f_X12_story g0 x1 x2 S = some o) : Met l yX12_story (wz yX12_story cX12_story 4 (some .boolean)) (Rm 2 0 0) (Pz D cs B0 kt α Lv S [.ref (α 60 g0), .int x1, .int x2]) (Qi D cs B0 α Lv o.1 o.2) 0 0 (AB B0) := met_of (by decide) rfl hcl (Nat.le_of_ble_eq_true rfl) (fun p e s m below meth c hc hr hd ls hl => b_X12_story hc hr hL0 hf hd hl)
theorem my_X12_story : MyV yX12_story "PumpCrossingModel" cX12_story 4 (some .boolean) 2 := ⟨tw_1823, tw_1824, tw_11, tw_1825, by decide +kernel⟩
def f_X12_thrown (g0 : Nat) (S : St) : Option (Int32) := some (gi S 60 g0 5)
set_option maxRecDepth 100000 in
set_option maxHeartbeats 4000000 in
theorem b_X12_thrown (hc : Cx p s m args meth c cX12_thrown 1 "PumpCrossingModel" D cs B0 kt Lv) (hr : meth.sig.returnType = some .int)  {o : Int32}  {S : St} {g0 : Nat} (hL0 : Lv 60 g0) {H : Heap} {locs : List Loc} {ls : Array Slot} (hf : f_X12_thrown g0 S = some o) (hd : Dy s D cs B0 α Lv S H locs) (hl : lv_has ls 1 [(0, .ref (α 60 g0))]) : W p l e (Rm 0 0 0) s m args below meth c H locs 0 0 (MQ below (Qi D cs B0 α Lv o S) args s 0 0 (AB B0)) (F0 m 0 ls []) := by
  unfold f_X12_thrown at hf
  refine lv_aload_n hc.x hc.b dX12_thrown_0 rfl (lv_at hl 0 rfl) ?_
  refine fg_60_5 hc hd hL0 tw_1314 dX12_thrown_1 ?_
  cases hf
  exact r_iret hc hd hr dX12_thrown_4
theorem c_X12_thrown (l : Launch) (D : va_G) (cs : Nat → ClassId) (B0 : Nat) (kt : (Nat → Nat) × (Nat → Nat)) (α : Nat → Nat → Nat) (Lv : Nat → Nat → Prop) (S : St) (g0 : Nat) (hcl : Cl Lv) (hL0 : Lv 60 g0) {o : Int32} (hf : f_X12_thrown g0 S = some o) : Met l yX12_thrown (wz yX12_thrown cX12_thrown 1 (some .int)) (Rm 0 0 0) (Pz D cs B0 kt α Lv S [.ref (α 60 g0)]) (Qi D cs B0 α Lv o S) 0 0 (AB B0) := met_of (by decide) rfl hcl (Nat.le_of_ble_eq_true rfl) (fun p e s m below meth c hc hr hd ls hl => b_X12_thrown hc hr hL0 hf hd hl)
theorem my_X12_thrown : MyV yX12_thrown "PumpCrossingModel" cX12_thrown 1 (some .int) 0 := ⟨tw_1432, tw_1433, tw_11, tw_1434, by decide +kernel⟩
def f_X12_told_23 (g0 : Nat) (x1 : Int32) (x2 : Int32) (x3 : Int32) (x4 : Int32) (K : St → Option (Int32 × St)) : Nat → Int32 → St → Option (Int32 × St)
  | 0, _, _ => none
  | n + 1, x5, S => ck (inb 0 3179 = true) (br ((gi S 61 g0 (nn 0)) ≤ x5) (K S) (bv (fun (v_6 : Int64) (S_7 : St) => on (f_X12_within v_6 0 99 S_7) (fun r_10 => br (r_10 = 0) (on2 (f_X12_fails g0 2 S_7) (fun r_15 S_14 => some (r_15, S_14))) (bv (x5 + 1) (fun x5_12 => f_X12_told_23 g0 x1 x2 x3 x4 K n x5_12 S_7)))) (fun J_8 => br (x5 = 0) (J_8 (Int32.toInt64 x1) S) (br (x5 = 1) (J_8 (Int32.toInt64 x2) S) (br (x5 = 2) (J_8 (Int32.toInt64 x3) S) (J_8 (Int32.toInt64 x4) S))))))
def f_X12_told_107 (g0 : Nat) (x1 : Int32) (x2 : Int32) (x3 : Int32) (x4 : Int32) (K : St → Option (Int32 × St)) : Nat → Int32 → St → Option (Int32 × St)
  | 0, _, _ => none
  | n + 1, x5, S => ck (inb 0 3179 = true) (br ((gi S 61 g0 (nn 0)) ≤ x5) (K S) (ck (inb 5 3179 = true) (bv (fun (v_25 : Int32) (S_26 : St) => ck (inb ((2909 + (4 * (gi S 61 g0 (nn 5)))) + x5) 3179 = true) (bv (si S_26 61 g0 (nn ((2909 + (4 * (gi S 61 g0 (nn 5)))) + x5)) v_25) (fun S_29 => bv (x5 + 1) (fun x5_30 => f_X12_told_107 g0 x1 x2 x3 x4 K n x5_30 S_29)))) (fun J_27 => br (x5 = 0) (J_27 x1 S) (br (x5 = 1) (J_27 x2 S) (br (x5 = 2) (J_27 x3 S) (J_27 x4 S)))))))
def f_X12_told (g0 : Nat) (x1 : Int32) (x2 : Int32) (x3 : Int32) (x4 : Int32) (S : St) : Option (Int32 × St) := bv (si S 60 g0 5 0) (fun S_1 => ck (inb 0 3179 = true) (br ((gi S_1 61 g0 (nn 0)) = 0) (on2 (f_X12_fails g0 1 S_1) (fun r_41 S_40 => some (r_41, S_40))) (f_X12_told_23 g0 x1 x2 x3 x4 (fun  (S_19 : St) => ck (inb 5 3179 = true) (br ((gi S_19 61 g0 (nn 5)) = 60) (some ((-1), S_19)) (f_X12_told_107 g0 x1 x2 x3 x4 (fun  (S_34 : St) => ck (inb 5 3179 = true) (ck (inb 5 3179 = true) (bv (si S_34 61 g0 (nn 5) ((gi S_34 61 g0 (nn 5)) + 1)) (fun S_37 => ck (inb 5 3179 = true) (some (gi S_37 61 g0 (nn 5), S_37)))))) FU 0 S_19))) FU 0 S_1)))
set_option maxRecDepth 100000 in
set_option maxHeartbeats 4000000 in
theorem w_X12_told_23 (hc : Cx p s m args meth c cX12_told 6 "PumpCrossingModel" D cs B0 kt Lv) (hr : meth.sig.returnType = some .int) {o : Int32 × St}  {g0 : Nat} {x1 : Int32} {x2 : Int32} {x3 : Int32} {x4 : Int32} {K : St → Option (Int32 × St)} (hL0 : Lv 60 g0) (hK : ∀  (S : St) (H : Heap) (locs : List Loc) (ls : Array Slot), K S = some o → Dy s D cs B0 α Lv S H locs → lv_has ls 6 [(0, .ref (α 60 g0)), (1, .int x1), (2, .int x2), (3, .int x3), (4, .int x4)] → W p l e (Rm 1 0 0) s m args below meth c H locs 0 0 (MQ below (Qi D cs B0 α Lv o.1 o.2) args s 0 0 (AB B0)) (F0 m 91 ls [])) : ∀ (n : Nat) (x5 : Int32) (S : St) (H : Heap) (locs : List Loc) (ls : Array Slot), f_X12_told_23 g0 x1 x2 x3 x4 K n x5 S = some o → Dy s D cs B0 α Lv S H locs → lv_has ls 6 [(0, .ref (α 60 g0)), (1, .int x1), (2, .int x2), (3, .int x3), (4, .int x4), (5, .int x5)] → W p l e (Rm 1 0 0) s m args below meth c H locs 0 0 (MQ below (Qi D cs B0 α Lv o.1 o.2) args s 0 0 (AB B0)) (F0 m 23 ls []) := by
  intro n
  induction n with
  | zero =>
    intro x5 S H locs ls hf
    rw [f_X12_told_23] at hf
    cases hf
  | succ n ih =>
    intro x5 S H locs ls hf hd hl
    rw [f_X12_told_23] at hf
    refine lv_iload hc.x hc.b dX12_told_23 (lv_at hl 5 rfl) ?_
    refine lv_aload_n hc.x hc.b dX12_told_25 rfl (lv_at hl 0 rfl) ?_
    refine fg_60_0 hc hd hL0 tw_1309 dX12_told_26 ?_
    refine lv_iconst (v := 0) hc.x hc.b dX12_told_29 (by decide) ?_
    obtain ⟨hi_4, hf⟩ := ck_s hf
    refine r_iald hc hd (cl_60_told hc.cl hL0) rfl hi_4 dX12_told_30 ?_
    refine lv_icmp_ge (tgt := 91) hc.x hc.b dX12_told_31 (by decide) (fun c_5 => ?_) (fun c_5 => ?_)
    · have hf := br_y c_5 hf
      exact hK S _ _ _ hf hd (lv_sub hl [0, 1, 2, 3, 4] rfl)
    · have hf := br_n c_5 hf
      refine lv_iload hc.x hc.b dX12_told_34 (lv_at hl 5 rfl) ?_
      refine jn_s (P := fun J_8 => ∀ (v_6 : Int64) (S_7 : St) (H : Heap) (locs : List Loc) (ls : Array Slot), J_8 v_6 S_7 = some o → Dy s D cs B0 α Lv S_7 H locs → lv_has ls 6 [(0, .ref (α 60 g0)), (1, .int x1), (2, .int x2), (3, .int x3), (4, .int x4), (5, .int x5)] → W p l e (Rm 1 0 0) s m args below meth c H locs 0 0 (MQ below (Qi D cs B0 α Lv o.1 o.2) args s 0 0 (AB B0)) (F0 m 69 ls [.long v_6])) hf ?_ (fun J_8 hJ_8 hf => ?_)
      · intro v_6 S_7 H locs ls hf hd hl
        refine lv_lconst (v := 0) hc.x hc.b dX12_told_69 (by decide) ?_
        refine lv_ldc2 (v := 99) hc.x hc.b hc.ow (hc.ts tw_1443) dX12_told_70 ?_
        obtain ⟨r_10, hq_9, hf⟩ := on_s hf
        refine k_i (k_runS hc hd my_X12_within tw_1444 (c_X12_within l D cs B0 kt α Lv S_7 v_6 0 99 hc.cl   hq_9) rfl rfl hl.1 (Nat.le_of_ble_eq_true rfl) ⟨Nat.le_of_ble_eq_true rfl, Nat.le_of_ble_eq_true rfl, Nat.zero_le _, Nat.zero_le _⟩ dX12_told_73) hd (fun H locs hd => ?_)
        refine lv_if_ne (tgt := 85) hc.x hc.b dX12_told_76 (by decide) (fun c_11 => ?_) (fun c_11 => ?_)
        · have hf := br_n c_11 hf
          obtain ⟨x5_12, ex5_12⟩ : ∃ z : Int32, z = x5 + 1 := ⟨_, rfl⟩
          have hf := bv_n ex5_12 hf
          refine lv_iinc (v := x5_12) (lv' := [(5, .int x5_12), (0, .ref (α 60 g0)), (1, .int x1), (2, .int x2), (3, .int x3), (4, .int x4)]) hc.x hc.b dX12_told_85 hl (k := 5) rfl (by rw [ex5_12]; rfl) (by decide) rfl (fun ls hl => ?_)
          refine lv_goto (tgt := 23) hc.x hc.b dX12_told_88 (by decide) ?_
          exact ih x5_12 S_7 _ _ _ hf hd (lv_sub hl [1, 2, 3, 4, 5, 0] rfl)
        · have hf := br_y c_11 hf
          refine lv_aload_n hc.x hc.b dX12_told_79 rfl (lv_at hl 0 rfl) ?_
          refine lv_iconst (v := 2) hc.x hc.b dX12_told_80 (by decide) ?_
          obtain ⟨r_15, S_14, hq_13, hf⟩ := on2_s hf
          refine k_i (k_runV hc hd my_X12_fails tw_1439 hL0 rfl rfl rfl (c_X12_fails l D cs B0 kt α Lv S_7 g0 2 hc.cl hL0  hq_13) rfl rfl hl.1 (Nat.le_of_ble_eq_true rfl) ⟨Nat.le_of_ble_eq_true rfl, Nat.le_of_ble_eq_true rfl, Nat.zero_le _, Nat.zero_le _⟩ dX12_told_81) hd (fun H locs hd => ?_)
          cases hf
          exact r_iret hc hd hr dX12_told_84
      refine lv_if_ne (tgt := 44) hc.x hc.b dX12_told_36 (by decide) (fun c_16 => ?_) (fun c_16 => ?_)
      · have hf := br_n c_16 hf
        refine lv_iload hc.x hc.b dX12_told_44 (lv_at hl 5 rfl) ?_
        refine lv_iconst (v := 1) hc.x hc.b dX12_told_46 (by decide) ?_
        refine lv_icmp_ne (tgt := 55) hc.x hc.b dX12_told_47 (by decide) (fun c_17 => ?_) (fun c_17 => ?_)
        · have hf := br_n c_17 hf
          refine lv_iload hc.x hc.b dX12_told_55 (lv_at hl 5 rfl) ?_
          refine lv_iconst (v := 2) hc.x hc.b dX12_told_57 (by decide) ?_
          refine lv_icmp_ne (tgt := 66) hc.x hc.b dX12_told_58 (by decide) (fun c_18 => ?_) (fun c_18 => ?_)
          · have hf := br_n c_18 hf
            refine lv_iload hc.x hc.b dX12_told_66 (lv_at hl 4 rfl) ?_
            refine lv_i2l (v := Int32.toInt64 x4) hc.x hc.b dX12_told_68 rfl ?_
            exact hJ_8 (Int32.toInt64 x4) S _ _ _ hf hd (lv_sub hl [0, 1, 2, 3, 4, 5] rfl)
          · have hf := br_y c_18 hf
            refine lv_iload_n hc.x hc.b dX12_told_61 rfl (lv_at hl 3 rfl) ?_
            refine lv_i2l (v := Int32.toInt64 x3) hc.x hc.b dX12_told_62 rfl ?_
            refine lv_goto (tgt := 69) hc.x hc.b dX12_told_63 (by decide) ?_
            exact hJ_8 (Int32.toInt64 x3) S _ _ _ hf hd (lv_sub hl [0, 1, 2, 3, 4, 5] rfl)
        · have hf := br_y c_17 hf
          refine lv_iload_n hc.x hc.b dX12_told_50 rfl (lv_at hl 2 rfl) ?_
          refine lv_i2l (v := Int32.toInt64 x2) hc.x hc.b dX12_told_51 rfl ?_
          refine lv_goto (tgt := 69) hc.x hc.b dX12_told_52 (by decide) ?_
          exact hJ_8 (Int32.toInt64 x2) S _ _ _ hf hd (lv_sub hl [0, 1, 2, 3, 4, 5] rfl)
      · have hf := br_y c_16 hf
        refine lv_iload_n hc.x hc.b dX12_told_39 rfl (lv_at hl 1 rfl) ?_
        refine lv_i2l (v := Int32.toInt64 x1) hc.x hc.b dX12_told_40 rfl ?_
        refine lv_goto (tgt := 69) hc.x hc.b dX12_told_41 (by decide) ?_
        exact hJ_8 (Int32.toInt64 x1) S _ _ _ hf hd (lv_sub hl [0, 1, 2, 3, 4, 5] rfl)
set_option maxRecDepth 100000 in
set_option maxHeartbeats 4000000 in
theorem w_X12_told_107 (hc : Cx p s m args meth c cX12_told 6 "PumpCrossingModel" D cs B0 kt Lv) (hr : meth.sig.returnType = some .int) {o : Int32 × St}  {g0 : Nat} {x1 : Int32} {x2 : Int32} {x3 : Int32} {x4 : Int32} {K : St → Option (Int32 × St)} (hL0 : Lv 60 g0) (hK : ∀  (S : St) (H : Heap) (locs : List Loc) (ls : Array Slot), K S = some o → Dy s D cs B0 α Lv S H locs → lv_has ls 6 [(0, .ref (α 60 g0))] → W p l e (Rm 1 0 0) s m args below meth c H locs 0 0 (MQ below (Qi D cs B0 α Lv o.1 o.2) args s 0 0 (AB B0)) (F0 m 175 ls [])) : ∀ (n : Nat) (x5 : Int32) (S : St) (H : Heap) (locs : List Loc) (ls : Array Slot), f_X12_told_107 g0 x1 x2 x3 x4 K n x5 S = some o → Dy s D cs B0 α Lv S H locs → lv_has ls 6 [(0, .ref (α 60 g0)), (1, .int x1), (2, .int x2), (3, .int x3), (4, .int x4), (5, .int x5)] → W p l e (Rm 1 0 0) s m args below meth c H locs 0 0 (MQ below (Qi D cs B0 α Lv o.1 o.2) args s 0 0 (AB B0)) (F0 m 107 ls []) := by
  intro n
  induction n with
  | zero =>
    intro x5 S H locs ls hf
    rw [f_X12_told_107] at hf
    cases hf
  | succ n ih =>
    intro x5 S H locs ls hf hd hl
    rw [f_X12_told_107] at hf
    refine lv_iload hc.x hc.b dX12_told_107 (lv_at hl 5 rfl) ?_
    refine lv_aload_n hc.x hc.b dX12_told_109 rfl (lv_at hl 0 rfl) ?_
    refine fg_60_0 hc hd hL0 tw_1309 dX12_told_110 ?_
    refine lv_iconst (v := 0) hc.x hc.b dX12_told_113 (by decide) ?_
    obtain ⟨hi_22, hf⟩ := ck_s hf
    refine r_iald hc hd (cl_60_told hc.cl hL0) rfl hi_22 dX12_told_114 ?_
    refine lv_icmp_ge (tgt := 175) hc.x hc.b dX12_told_115 (by decide) (fun c_23 => ?_) (fun c_23 => ?_)
    · have hf := br_y c_23 hf
      exact hK S _ _ _ hf hd (lv_sub hl [0] rfl)
    · have hf := br_n c_23 hf
      refine lv_aload_n hc.x hc.b dX12_told_118 rfl (lv_at hl 0 rfl) ?_
      refine fg_60_0 hc hd hL0 tw_1309 dX12_told_119 ?_
      refine lv_sipush (v := 2909) hc.x hc.b dX12_told_122 (by decide) ?_
      refine lv_iconst (v := 4) hc.x hc.b dX12_told_125 (by decide) ?_
      refine lv_aload_n hc.x hc.b dX12_told_126 rfl (lv_at hl 0 rfl) ?_
      refine fg_60_0 hc hd hL0 tw_1309 dX12_told_127 ?_
      refine lv_iconst (v := 5) hc.x hc.b dX12_told_130 (by decide) ?_
      obtain ⟨hi_24, hf⟩ := ck_s hf
      refine r_iald hc hd (cl_60_told hc.cl hL0) rfl hi_24 dX12_told_131 ?_
      refine lv_imul hc.x hc.b dX12_told_132 ?_
      refine lv_iadd hc.x hc.b dX12_told_133 ?_
      refine lv_iload hc.x hc.b dX12_told_134 (lv_at hl 5 rfl) ?_
      refine lv_iadd hc.x hc.b dX12_told_136 ?_
      refine lv_iload hc.x hc.b dX12_told_137 (lv_at hl 5 rfl) ?_
      refine jn_s (P := fun J_27 => ∀ (v_25 : Int32) (S_26 : St) (H : Heap) (locs : List Loc) (ls : Array Slot), J_27 v_25 S_26 = some o → Dy s D cs B0 α Lv S_26 H locs → lv_has ls 6 [(0, .ref (α 60 g0)), (1, .int x1), (2, .int x2), (3, .int x3), (4, .int x4), (5, .int x5)] → W p l e (Rm 1 0 0) s m args below meth c H locs 0 0 (MQ below (Qi D cs B0 α Lv o.1 o.2) args s 0 0 (AB B0)) (F0 m 168 ls [.int v_25, .int ((2909 + (4 * (gi S 61 g0 (nn 5)))) + x5), .ref (α 61 g0)])) hf ?_ (fun J_27 hJ_27 hf => ?_)
      · intro v_25 S_26 H locs ls hf hd hl
        obtain ⟨hi_28, hf⟩ := ck_s hf
        refine r_iast hc hd (cl_60_told hc.cl hL0) (fun _ => rfl) hi_28 dX12_told_168 (fun H locs hd => ?_)
        obtain ⟨S_29, hd, hf⟩ := nmD hd hf
        obtain ⟨x5_30, ex5_30⟩ : ∃ z : Int32, z = x5 + 1 := ⟨_, rfl⟩
        have hf := bv_n ex5_30 hf
        refine lv_iinc (v := x5_30) (lv' := [(5, .int x5_30), (0, .ref (α 60 g0)), (1, .int x1), (2, .int x2), (3, .int x3), (4, .int x4)]) hc.x hc.b dX12_told_169 hl (k := 5) rfl (by rw [ex5_30]; rfl) (by decide) rfl (fun ls hl => ?_)
        refine lv_goto (tgt := 107) hc.x hc.b dX12_told_172 (by decide) ?_
        exact ih x5_30 S_29 _ _ _ hf hd (lv_sub hl [1, 2, 3, 4, 5, 0] rfl)
      refine lv_if_ne (tgt := 146) hc.x hc.b dX12_told_139 (by decide) (fun c_31 => ?_) (fun c_31 => ?_)
      · have hf := br_n c_31 hf
        refine lv_iload hc.x hc.b dX12_told_146 (lv_at hl 5 rfl) ?_
        refine lv_iconst (v := 1) hc.x hc.b dX12_told_148 (by decide) ?_
        refine lv_icmp_ne (tgt := 156) hc.x hc.b dX12_told_149 (by decide) (fun c_32 => ?_) (fun c_32 => ?_)
        · have hf := br_n c_32 hf
          refine lv_iload hc.x hc.b dX12_told_156 (lv_at hl 5 rfl) ?_
          refine lv_iconst (v := 2) hc.x hc.b dX12_told_158 (by decide) ?_
          refine lv_icmp_ne (tgt := 166) hc.x hc.b dX12_told_159 (by decide) (fun c_33 => ?_) (fun c_33 => ?_)
          · have hf := br_n c_33 hf
            refine lv_iload hc.x hc.b dX12_told_166 (lv_at hl 4 rfl) ?_
            exact hJ_27 x4 S _ _ _ hf hd (lv_sub hl [0, 1, 2, 3, 4, 5] rfl)
          · have hf := br_y c_33 hf
            refine lv_iload_n hc.x hc.b dX12_told_162 rfl (lv_at hl 3 rfl) ?_
            refine lv_goto (tgt := 168) hc.x hc.b dX12_told_163 (by decide) ?_
            exact hJ_27 x3 S _ _ _ hf hd (lv_sub hl [0, 1, 2, 3, 4, 5] rfl)
        · have hf := br_y c_32 hf
          refine lv_iload_n hc.x hc.b dX12_told_152 rfl (lv_at hl 2 rfl) ?_
          refine lv_goto (tgt := 168) hc.x hc.b dX12_told_153 (by decide) ?_
          exact hJ_27 x2 S _ _ _ hf hd (lv_sub hl [0, 1, 2, 3, 4, 5] rfl)
      · have hf := br_y c_31 hf
        refine lv_iload_n hc.x hc.b dX12_told_142 rfl (lv_at hl 1 rfl) ?_
        refine lv_goto (tgt := 168) hc.x hc.b dX12_told_143 (by decide) ?_
        exact hJ_27 x1 S _ _ _ hf hd (lv_sub hl [0, 1, 2, 3, 4, 5] rfl)
set_option maxRecDepth 100000 in
set_option maxHeartbeats 4000000 in
theorem b_X12_told (hc : Cx p s m args meth c cX12_told 6 "PumpCrossingModel" D cs B0 kt Lv) (hr : meth.sig.returnType = some .int)  {o : Int32 × St}  {S : St} {g0 : Nat} {x1 : Int32} {x2 : Int32} {x3 : Int32} {x4 : Int32} (hL0 : Lv 60 g0) {H : Heap} {locs : List Loc} {ls : Array Slot} (hf : f_X12_told g0 x1 x2 x3 x4 S = some o) (hd : Dy s D cs B0 α Lv S H locs) (hl : lv_has ls 6 [(0, .ref (α 60 g0)), (1, .int x1), (2, .int x2), (3, .int x3), (4, .int x4)]) : W p l e (Rm 1 0 0) s m args below meth c H locs 0 0 (MQ below (Qi D cs B0 α Lv o.1 o.2) args s 0 0 (AB B0)) (F0 m 0 ls []) := by
  unfold f_X12_told at hf
  refine lv_aload_n hc.x hc.b dX12_told_0 rfl (lv_at hl 0 rfl) ?_
  refine lv_iconst (v := 0) hc.x hc.b dX12_told_1 (by decide) ?_
  refine fp_60_5 hc hd hL0 tw_1314 dX12_told_2 (fun H locs hd => ?_)
  obtain ⟨S_1, hd, hf⟩ := nmD hd hf
  refine lv_aload_n hc.x hc.b dX12_told_5 rfl (lv_at hl 0 rfl) ?_
  refine fg_60_0 hc hd hL0 tw_1309 dX12_told_6 ?_
  refine lv_iconst (v := 0) hc.x hc.b dX12_told_9 (by decide) ?_
  obtain ⟨hi_2, hf⟩ := ck_s hf
  refine r_iald hc hd (cl_60_told hc.cl hL0) rfl hi_2 dX12_told_10 ?_
  refine lv_if_ne (tgt := 20) hc.x hc.b dX12_told_11 (by decide) (fun c_3 => ?_) (fun c_3 => ?_)
  · have hf := br_n c_3 hf
    refine lv_iconst (v := 0) hc.x hc.b dX12_told_20 (by decide) ?_
    refine lv_istore (lv' := [(5, .int 0), (0, .ref (α 60 g0)), (1, .int x1), (2, .int x2), (3, .int x3), (4, .int x4)]) hc.x hc.b dX12_told_21 hl (by decide) rfl (fun ls hl => ?_)
    refine w_X12_told_23 hc hr hL0 ?_ _ _ _ _ _ _ hf hd (lv_sub hl [1, 2, 3, 4, 5, 0] rfl)
    intro S_19 H locs ls hf hd hl
    refine lv_aload_n hc.x hc.b dX12_told_91 rfl (lv_at hl 0 rfl) ?_
    refine fg_60_0 hc hd hL0 tw_1309 dX12_told_92 ?_
    refine lv_iconst (v := 5) hc.x hc.b dX12_told_95 (by decide) ?_
    obtain ⟨hi_20, hf⟩ := ck_s hf
    refine r_iald hc hd (cl_60_told hc.cl hL0) rfl hi_20 dX12_told_96 ?_
    refine lv_bipush (v := 60) hc.x hc.b dX12_told_97 (by decide) ?_
    refine lv_icmp_ne (tgt := 104) hc.x hc.b dX12_told_99 (by decide) (fun c_21 => ?_) (fun c_21 => ?_)
    · have hf := br_n c_21 hf
      refine lv_iconst (v := 0) hc.x hc.b dX12_told_104 (by decide) ?_
      refine lv_istore (lv' := [(5, .int 0), (0, .ref (α 60 g0)), (1, .int x1), (2, .int x2), (3, .int x3), (4, .int x4)]) hc.x hc.b dX12_told_105 hl (by decide) rfl (fun ls hl => ?_)
      refine w_X12_told_107 hc hr hL0 ?_ _ _ _ _ _ _ hf hd (lv_sub hl [1, 2, 3, 4, 5, 0] rfl)
      intro S_34 H locs ls hf hd hl
      refine lv_aload_n hc.x hc.b dX12_told_175 rfl (lv_at hl 0 rfl) ?_
      refine fg_60_0 hc hd hL0 tw_1309 dX12_told_176 ?_
      refine lv_iconst (v := 5) hc.x hc.b dX12_told_179 (by decide) ?_
      refine lv_dup2_11 hc.x hc.b dX12_told_180 rfl rfl ?_
      obtain ⟨hi_35, hf⟩ := ck_s hf
      refine r_iald hc hd (cl_60_told hc.cl hL0) rfl hi_35 dX12_told_181 ?_
      refine lv_iconst (v := 1) hc.x hc.b dX12_told_182 (by decide) ?_
      refine lv_iadd hc.x hc.b dX12_told_183 ?_
      obtain ⟨hi_36, hf⟩ := ck_s hf
      refine r_iast hc hd (cl_60_told hc.cl hL0) (fun _ => rfl) hi_36 dX12_told_184 (fun H locs hd => ?_)
      obtain ⟨S_37, hd, hf⟩ := nmD hd hf
      refine lv_aload_n hc.x hc.b dX12_told_185 rfl (lv_at hl 0 rfl) ?_
      refine fg_60_0 hc hd hL0 tw_1309 dX12_told_186 ?_
      refine lv_iconst (v := 5) hc.x hc.b dX12_told_189 (by decide) ?_
      obtain ⟨hi_38, hf⟩ := ck_s hf
      refine r_iald hc hd (cl_60_told hc.cl hL0) rfl hi_38 dX12_told_190 ?_
      cases hf
      exact r_iret hc hd hr dX12_told_191
    · have hf := br_y c_21 hf
      refine lv_iconst (v := (-1)) hc.x hc.b dX12_told_102 (by decide) ?_
      cases hf
      exact r_iret hc hd hr dX12_told_103
  · have hf := br_y c_3 hf
    refine lv_aload_n hc.x hc.b dX12_told_14 rfl (lv_at hl 0 rfl) ?_
    refine lv_iconst (v := 1) hc.x hc.b dX12_told_15 (by decide) ?_
    obtain ⟨r_41, S_40, hq_39, hf⟩ := on2_s hf
    refine k_i (k_runV hc hd my_X12_fails tw_1439 hL0 rfl rfl rfl (c_X12_fails l D cs B0 kt α Lv S_1 g0 1 hc.cl hL0  hq_39) rfl rfl hl.1 (Nat.le_of_ble_eq_true rfl) ⟨Nat.le_of_ble_eq_true rfl, Nat.le_of_ble_eq_true rfl, Nat.zero_le _, Nat.zero_le _⟩ dX12_told_16) hd (fun H locs hd => ?_)
    cases hf
    exact r_iret hc hd hr dX12_told_19
theorem c_X12_told (l : Launch) (D : va_G) (cs : Nat → ClassId) (B0 : Nat) (kt : (Nat → Nat) × (Nat → Nat)) (α : Nat → Nat → Nat) (Lv : Nat → Nat → Prop) (S : St) (g0 : Nat) (x1 : Int32) (x2 : Int32) (x3 : Int32) (x4 : Int32) (hcl : Cl Lv) (hL0 : Lv 60 g0) {o : Int32 × St} (hf : f_X12_told g0 x1 x2 x3 x4 S = some o) : Met l yX12_told (wz yX12_told cX12_told 6 (some .int)) (Rm 1 0 0) (Pz D cs B0 kt α Lv S [.ref (α 60 g0), .int x1, .int x2, .int x3, .int x4]) (Qi D cs B0 α Lv o.1 o.2) 0 0 (AB B0) := met_of (by decide) rfl hcl (Nat.le_of_ble_eq_true rfl) (fun p e s m below meth c hc hr hd ls hl => b_X12_told hc hr hL0 hf hd hl)
theorem my_X12_told : MyV yX12_told "PumpCrossingModel" cX12_told 6 (some .int) 4 := ⟨tw_1851, tw_1852, tw_11, tw_1853, by decide +kernel⟩
def f_X12_tray_69 (g0 : Nat) (x1 : Int32) (K : St → Option (St)) : Nat → Int32 → St → Option (St)
  | 0, _, _ => none
  | n + 1, x4, S => br (28 ≤ x4) (K S) (ck (inb ((28 * x1) + x4) 112 = true) (bv (sl S 80 g0 (nn ((28 * x1) + x4)) 0) (fun S_14 => bv (x4 + 1) (fun x4_15 => f_X12_tray_69 g0 x1 K n x4_15 S_14))))
def f_X12_tray (g0 : Nat) (x1 : Int32) (x2 : Int32) (x3 : Int32) (S : St) : Option (St) := on (f_X12_isTray x1 S) (fun r_2 => bv (fun (v_3 : Int32) (S_4 : St) => bv (si S_4 60 g0 5 v_3) (fun S_6 => br ((gi S_6 60 g0 5) ≤ 0) (ck (inb x1 4 = true) (bv (si S_6 78 g0 (nn x1) x2) (fun S_9 => ck (inb x1 4 = true) (bv (si S_9 79 g0 (nn x1) x3) (fun S_11 => f_X12_tray_69 g0 x1 (fun  (S_16 : St) => some S_16) FU 0 S_11))))) (some S_6))) (fun J_5 => br (r_2 = 0) (J_5 1 S) (on (f_X12_within (Int32.toInt64 x2) 0 3 S) (fun r_19 => bv (fun  (S_20 : St) => J_5 2 S_20) (fun J_21 => br (r_19 = 0) (J_21 S) (on (f_X12_within (Int32.toInt64 x3) 0 28 S) (fun r_24 => br (r_24 = 0) (J_21 S) (J_5 0 S))))))))
set_option maxRecDepth 100000 in
set_option maxHeartbeats 4000000 in
theorem w_X12_tray_69 (hc : Cx p s m args meth c cX12_tray 5 "PumpCrossingModel" D cs B0 kt Lv) (hr : meth.sig.returnType = none) {o : St}  {g0 : Nat} {x1 : Int32} {K : St → Option (St)} (hL0 : Lv 60 g0) (hK : ∀  (S : St) (H : Heap) (locs : List Loc) (ls : Array Slot), K S = some o → Dy s D cs B0 α Lv S H locs → lv_has ls 5 [] → W p l e (Rm 2 0 0) s m args below meth c H locs 0 0 (MQ below (Qv D cs B0 α Lv o) args s 0 0 (AB B0)) (F0 m 95 ls [])) : ∀ (n : Nat) (x4 : Int32) (S : St) (H : Heap) (locs : List Loc) (ls : Array Slot), f_X12_tray_69 g0 x1 K n x4 S = some o → Dy s D cs B0 α Lv S H locs → lv_has ls 5 [(0, .ref (α 60 g0)), (1, .int x1), (4, .int x4)] → W p l e (Rm 2 0 0) s m args below meth c H locs 0 0 (MQ below (Qv D cs B0 α Lv o) args s 0 0 (AB B0)) (F0 m 69 ls []) := by
  intro n
  induction n with
  | zero =>
    intro x4 S H locs ls hf
    rw [f_X12_tray_69] at hf
    cases hf
  | succ n ih =>
    intro x4 S H locs ls hf hd hl
    rw [f_X12_tray_69] at hf
    refine lv_iload hc.x hc.b dX12_tray_69 (lv_at hl 2 rfl) ?_
    refine lv_bipush (v := 28) hc.x hc.b dX12_tray_71 (by decide) ?_
    refine lv_icmp_ge (tgt := 95) hc.x hc.b dX12_tray_73 (by decide) (fun c_12 => ?_) (fun c_12 => ?_)
    · have hf := br_y c_12 hf
      exact hK S _ _ _ hf hd (lv_sub hl [] rfl)
    · have hf := br_n c_12 hf
      refine lv_aload_n hc.x hc.b dX12_tray_76 rfl (lv_at hl 0 rfl) ?_
      refine fg_60_39 hc hd hL0 tw_1348 dX12_tray_77 ?_
      refine lv_bipush (v := 28) hc.x hc.b dX12_tray_80 (by decide) ?_
      refine lv_iload_n hc.x hc.b dX12_tray_82 rfl (lv_at hl 1 rfl) ?_
      refine lv_imul hc.x hc.b dX12_tray_83 ?_
      refine lv_iload hc.x hc.b dX12_tray_84 (lv_at hl 2 rfl) ?_
      refine lv_iadd hc.x hc.b dX12_tray_86 ?_
      refine lv_lconst (v := 0) hc.x hc.b dX12_tray_87 (by decide) ?_
      obtain ⟨hi_13, hf⟩ := ck_s hf
      refine r_last hc hd (cl_60_numbers hc.cl hL0) (fun _ => rfl) hi_13 dX12_tray_88 (fun H locs hd => ?_)
      obtain ⟨S_14, hd, hf⟩ := nmD hd hf
      obtain ⟨x4_15, ex4_15⟩ : ∃ z : Int32, z = x4 + 1 := ⟨_, rfl⟩
      have hf := bv_n ex4_15 hf
      refine lv_iinc (v := x4_15) (lv' := [(4, .int x4_15), (0, .ref (α 60 g0)), (1, .int x1)]) hc.x hc.b dX12_tray_89 hl (k := 2) rfl (by rw [ex4_15]; rfl) (by decide) rfl (fun ls hl => ?_)
      refine lv_goto (tgt := 69) hc.x hc.b dX12_tray_92 (by decide) ?_
      exact ih x4_15 S_14 _ _ _ hf hd (lv_sub hl [1, 2, 0] rfl)
set_option maxRecDepth 100000 in
set_option maxHeartbeats 4000000 in
theorem b_X12_tray (hc : Cx p s m args meth c cX12_tray 5 "PumpCrossingModel" D cs B0 kt Lv) (hr : meth.sig.returnType = none)  {o : St}  {S : St} {g0 : Nat} {x1 : Int32} {x2 : Int32} {x3 : Int32} (hL0 : Lv 60 g0) {H : Heap} {locs : List Loc} {ls : Array Slot} (hf : f_X12_tray g0 x1 x2 x3 S = some o) (hd : Dy s D cs B0 α Lv S H locs) (hl : lv_has ls 5 [(0, .ref (α 60 g0)), (1, .int x1), (2, .int x2), (3, .int x3)]) : W p l e (Rm 2 0 0) s m args below meth c H locs 0 0 (MQ below (Qv D cs B0 α Lv o) args s 0 0 (AB B0)) (F0 m 0 ls []) := by
  unfold f_X12_tray at hf
  refine lv_aload_n hc.x hc.b dX12_tray_0 rfl (lv_at hl 0 rfl) ?_
  refine lv_iload_n hc.x hc.b dX12_tray_1 rfl (lv_at hl 1 rfl) ?_
  obtain ⟨r_2, hq_1, hf⟩ := on_s hf
  refine k_i (k_runS hc hd my_X12_isTray tw_1826 (c_X12_isTray l D cs B0 kt α Lv S x1 hc.cl   hq_1) rfl rfl hl.1 (Nat.le_of_ble_eq_true rfl) ⟨Nat.le_of_ble_eq_true rfl, Nat.le_of_ble_eq_true rfl, Nat.zero_le _, Nat.zero_le _⟩ dX12_tray_2) hd (fun H locs hd => ?_)
  refine jn_s (P := fun J_5 => ∀ (v_3 : Int32) (S_4 : St) (H : Heap) (locs : List Loc) (ls : Array Slot), J_5 v_3 S_4 = some o → Dy s D cs B0 α Lv S_4 H locs → lv_has ls 5 [(0, .ref (α 60 g0)), (1, .int x1), (2, .int x2), (3, .int x3)] → W p l e (Rm 2 0 0) s m args below meth c H locs 0 0 (MQ below (Qv D cs B0 α Lv o) args s 0 0 (AB B0)) (F0 m 41 ls [.int v_3, .ref (α 60 g0)])) hf ?_ (fun J_5 hJ_5 hf => ?_)
  · intro v_3 S_4 H locs ls hf hd hl
    refine fp_60_5 hc hd hL0 tw_1314 dX12_tray_41 (fun H locs hd => ?_)
    obtain ⟨S_6, hd, hf⟩ := nmD hd hf
    refine lv_aload_n hc.x hc.b dX12_tray_44 rfl (lv_at hl 0 rfl) ?_
    refine fg_60_5 hc hd hL0 tw_1314 dX12_tray_45 ?_
    refine lv_if_le (tgt := 52) hc.x hc.b dX12_tray_48 (by decide) (fun c_7 => ?_) (fun c_7 => ?_)
    · have hf := br_y c_7 hf
      refine lv_aload_n hc.x hc.b dX12_tray_52 rfl (lv_at hl 0 rfl) ?_
      refine fg_60_37 hc hd hL0 tw_1346 dX12_tray_53 ?_
      refine lv_iload_n hc.x hc.b dX12_tray_56 rfl (lv_at hl 1 rfl) ?_
      refine lv_iload_n hc.x hc.b dX12_tray_57 rfl (lv_at hl 2 rfl) ?_
      obtain ⟨hi_8, hf⟩ := ck_s hf
      refine r_iast hc hd (cl_60_tSort hc.cl hL0) (fun _ => rfl) hi_8 dX12_tray_58 (fun H locs hd => ?_)
      obtain ⟨S_9, hd, hf⟩ := nmD hd hf
      refine lv_aload_n hc.x hc.b dX12_tray_59 rfl (lv_at hl 0 rfl) ?_
      refine fg_60_38 hc hd hL0 tw_1347 dX12_tray_60 ?_
      refine lv_iload_n hc.x hc.b dX12_tray_63 rfl (lv_at hl 1 rfl) ?_
      refine lv_iload_n hc.x hc.b dX12_tray_64 rfl (lv_at hl 3 rfl) ?_
      obtain ⟨hi_10, hf⟩ := ck_s hf
      refine r_iast hc hd (cl_60_tMany hc.cl hL0) (fun _ => rfl) hi_10 dX12_tray_65 (fun H locs hd => ?_)
      obtain ⟨S_11, hd, hf⟩ := nmD hd hf
      refine lv_iconst (v := 0) hc.x hc.b dX12_tray_66 (by decide) ?_
      refine lv_istore (lv' := [(4, .int 0), (0, .ref (α 60 g0)), (1, .int x1), (2, .int x2), (3, .int x3)]) hc.x hc.b dX12_tray_67 hl (by decide) rfl (fun ls hl => ?_)
      refine w_X12_tray_69 hc hr hL0 ?_ _ _ _ _ _ _ hf hd (lv_sub hl [1, 2, 0] rfl)
      intro S_16 H locs ls hf hd hl
      cases hf
      exact r_vret hc hd hr dX12_tray_95
    · have hf := br_n c_7 hf
      cases hf
      exact r_vret hc hd hr dX12_tray_51
  refine lv_if_ne (tgt := 12) hc.x hc.b dX12_tray_5 (by decide) (fun c_17 => ?_) (fun c_17 => ?_)
  · have hf := br_n c_17 hf
    refine lv_iload_n hc.x hc.b dX12_tray_12 rfl (lv_at hl 2 rfl) ?_
    refine lv_i2l (v := Int32.toInt64 x2) hc.x hc.b dX12_tray_13 rfl ?_
    refine lv_lconst (v := 0) hc.x hc.b dX12_tray_14 (by decide) ?_
    refine lv_ldc2 (v := 3) hc.x hc.b hc.ow (hc.ts tw_1447) dX12_tray_15 ?_
    obtain ⟨r_19, hq_18, hf⟩ := on_s hf
    refine k_i (k_runS hc hd my_X12_within tw_1444 (c_X12_within l D cs B0 kt α Lv S (Int32.toInt64 x2) 0 3 hc.cl   hq_18) rfl rfl hl.1 (Nat.le_of_ble_eq_true rfl) ⟨Nat.le_of_ble_eq_true rfl, Nat.le_of_ble_eq_true rfl, Nat.zero_le _, Nat.zero_le _⟩ dX12_tray_18) hd (fun H locs hd => ?_)
    refine jn_s (P := fun J_21 => ∀  (S_20 : St) (H : Heap) (locs : List Loc) (ls : Array Slot), J_21 S_20 = some o → Dy s D cs B0 α Lv S_20 H locs → lv_has ls 5 [(0, .ref (α 60 g0)), (1, .int x1), (2, .int x2), (3, .int x3)] → W p l e (Rm 2 0 0) s m args below meth c H locs 0 0 (MQ below (Qv D cs B0 α Lv o) args s 0 0 (AB B0)) (F0 m 36 ls [.ref (α 60 g0)])) hf ?_ (fun J_21 hJ_21 hf => ?_)
    · intro S_20 H locs ls hf hd hl
      refine lv_iconst (v := 2) hc.x hc.b dX12_tray_36 (by decide) ?_
      refine lv_goto (tgt := 41) hc.x hc.b dX12_tray_37 (by decide) ?_
      exact hJ_5 2 S_20 _ _ _ hf hd (lv_sub hl [0, 1, 2, 3] rfl)
    refine lv_if_eq (tgt := 36) hc.x hc.b dX12_tray_21 (by decide) (fun c_22 => ?_) (fun c_22 => ?_)
    · have hf := br_y c_22 hf
      exact hJ_21 S _ _ _ hf hd (lv_sub hl [0, 1, 2, 3] rfl)
    · have hf := br_n c_22 hf
      refine lv_iload_n hc.x hc.b dX12_tray_24 rfl (lv_at hl 3 rfl) ?_
      refine lv_i2l (v := Int32.toInt64 x3) hc.x hc.b dX12_tray_25 rfl ?_
      refine lv_lconst (v := 0) hc.x hc.b dX12_tray_26 (by decide) ?_
      refine lv_ldc2 (v := 28) hc.x hc.b hc.ow (hc.ts tw_1862) dX12_tray_27 ?_
      obtain ⟨r_24, hq_23, hf⟩ := on_s hf
      refine k_i (k_runS hc hd my_X12_within tw_1444 (c_X12_within l D cs B0 kt α Lv S (Int32.toInt64 x3) 0 28 hc.cl   hq_23) rfl rfl hl.1 (Nat.le_of_ble_eq_true rfl) ⟨Nat.le_of_ble_eq_true rfl, Nat.le_of_ble_eq_true rfl, Nat.zero_le _, Nat.zero_le _⟩ dX12_tray_30) hd (fun H locs hd => ?_)
      refine lv_if_ne (tgt := 40) hc.x hc.b dX12_tray_33 (by decide) (fun c_25 => ?_) (fun c_25 => ?_)
      · have hf := br_n c_25 hf
        refine lv_iconst (v := 0) hc.x hc.b dX12_tray_40 (by decide) ?_
        exact hJ_5 0 S _ _ _ hf hd (lv_sub hl [0, 1, 2, 3] rfl)
      · have hf := br_y c_25 hf
        exact hJ_21 S _ _ _ hf hd (lv_sub hl [0, 1, 2, 3] rfl)
  · have hf := br_y c_17 hf
    refine lv_iconst (v := 1) hc.x hc.b dX12_tray_8 (by decide) ?_
    refine lv_goto (tgt := 41) hc.x hc.b dX12_tray_9 (by decide) ?_
    exact hJ_5 1 S _ _ _ hf hd (lv_sub hl [0, 1, 2, 3] rfl)
theorem c_X12_tray (l : Launch) (D : va_G) (cs : Nat → ClassId) (B0 : Nat) (kt : (Nat → Nat) × (Nat → Nat)) (α : Nat → Nat → Nat) (Lv : Nat → Nat → Prop) (S : St) (g0 : Nat) (x1 : Int32) (x2 : Int32) (x3 : Int32) (hcl : Cl Lv) (hL0 : Lv 60 g0) {o : St} (hf : f_X12_tray g0 x1 x2 x3 S = some o) : Met l yX12_tray (wz yX12_tray cX12_tray 5 none) (Rm 2 0 0) (Pz D cs B0 kt α Lv S [.ref (α 60 g0), .int x1, .int x2, .int x3]) (Qv D cs B0 α Lv o) 0 0 (AB B0) := met_of (by decide) rfl hcl (Nat.le_of_ble_eq_true rfl) (fun p e s m below meth c hc hr hd ls hl => b_X12_tray hc hr hL0 hf hd hl)
theorem my_X12_tray : MyV yX12_tray "PumpCrossingModel" cX12_tray 5 none 3 := ⟨tw_1859, tw_1860, tw_11, tw_1861, by decide +kernel⟩
def f_X12_turn_53 (g0 : Nat) (x5 : Int32) (K : Int32 → St → Option (Int32 × St)) : Nat → Int32 → Int32 → St → Option (Int32 × St)
  | 0, _, _, _ => none
  | n + 1, x6, x7, S => br (x5 ≤ x7) (K x6 S) (ck (inb ((8 * x7) + x6) 328 = true) (bv (gi S 73 g0 (nn ((8 * x7) + x6))) (fun x6_12 => bv (x7 + 1) (fun x7_13 => f_X12_turn_53 g0 x5 K n x6_12 x7_13 S))))
def f_X12_turn (g0 : Nat) (x1 : Int32) (x2 : Int32) (x3 : Int32) (x4 : Int32) (x5 : Int32) (S : St) : Option (Int32 × St) := on (f_X12_turnFault g0 x1 x2 x3 x4 S) (fun r_2 => bv (si S 60 g0 5 r_2) (fun S_3 => br ((gi S_3 60 g0 5) ≤ 0) (on (f_X12_within (Int32.toInt64 x5) 0 (Int32.toInt64 (x4 - 1)) S_3) (fun r_6 => br (r_6 = 0) (some ((-1), S_3)) (on (f_X12_layTurns g0 x1 x2 x4 S_3) (fun S_9 => f_X12_turn_53 g0 x5 (fun (x6_14 : Int32) (S_15 : St) => ck (inb ((8 * x5) + x6_14) 328 = true) (some (gi S_15 73 g0 (nn ((8 * x5) + x6_14)), S_15))) FU x3 0 S_9)))) (some (0, S_3))))
set_option maxRecDepth 100000 in
set_option maxHeartbeats 4000000 in
theorem w_X12_turn_53 (hc : Cx p s m args meth c cX12_turn 8 "PumpCrossingModel" D cs B0 kt Lv) (hr : meth.sig.returnType = some .int) {o : Int32 × St}  {g0 : Nat} {x5 : Int32} {K : Int32 → St → Option (Int32 × St)} (hL0 : Lv 60 g0) (hK : ∀ (k6 : Int32) (S : St) (H : Heap) (locs : List Loc) (ls : Array Slot), K k6 S = some o → Dy s D cs B0 α Lv S H locs → lv_has ls 8 [(0, .ref (α 60 g0)), (5, .int x5), (6, .int k6)] → W p l e (Rm 4 0 0) s m args below meth c H locs 0 0 (MQ below (Qi D cs B0 α Lv o.1 o.2) args s 0 0 (AB B0)) (F0 m 81 ls [])) : ∀ (n : Nat) (x6 : Int32) (x7 : Int32) (S : St) (H : Heap) (locs : List Loc) (ls : Array Slot), f_X12_turn_53 g0 x5 K n x6 x7 S = some o → Dy s D cs B0 α Lv S H locs → lv_has ls 8 [(0, .ref (α 60 g0)), (5, .int x5), (6, .int x6), (7, .int x7)] → W p l e (Rm 4 0 0) s m args below meth c H locs 0 0 (MQ below (Qi D cs B0 α Lv o.1 o.2) args s 0 0 (AB B0)) (F0 m 53 ls []) := by
  intro n
  induction n with
  | zero =>
    intro x6 x7 S H locs ls hf
    rw [f_X12_turn_53] at hf
    cases hf
  | succ n ih =>
    intro x6 x7 S H locs ls hf hd hl
    rw [f_X12_turn_53] at hf
    refine lv_iload hc.x hc.b dX12_turn_53 (lv_at hl 3 rfl) ?_
    refine lv_iload hc.x hc.b dX12_turn_55 (lv_at hl 1 rfl) ?_
    refine lv_icmp_ge (tgt := 81) hc.x hc.b dX12_turn_57 (by decide) (fun c_10 => ?_) (fun c_10 => ?_)
    · have hf := br_y c_10 hf
      exact hK x6 S _ _ _ hf hd (lv_sub hl [0, 1, 2] rfl)
    · have hf := br_n c_10 hf
      refine lv_aload_n hc.x hc.b dX12_turn_60 rfl (lv_at hl 0 rfl) ?_
      refine fg_60_29 hc hd hL0 tw_1338 dX12_turn_61 ?_
      refine lv_bipush (v := 8) hc.x hc.b dX12_turn_64 (by decide) ?_
      refine lv_iload hc.x hc.b dX12_turn_66 (lv_at hl 3 rfl) ?_
      refine lv_imul hc.x hc.b dX12_turn_68 ?_
      refine lv_iload hc.x hc.b dX12_turn_69 (lv_at hl 2 rfl) ?_
      refine lv_iadd hc.x hc.b dX12_turn_71 ?_
      obtain ⟨hi_11, hf⟩ := ck_s hf
      refine r_iald hc hd (cl_60_sets hc.cl hL0) rfl hi_11 dX12_turn_72 ?_
      refine lv_topi (fun x6_12 ex6_12 => ?_)
      have hf := bv_n ex6_12 hf
      refine lv_istore (lv' := [(6, .int x6_12), (0, .ref (α 60 g0)), (5, .int x5), (7, .int x7)]) hc.x hc.b dX12_turn_73 hl (by decide) rfl (fun ls hl => ?_)
      obtain ⟨x7_13, ex7_13⟩ : ∃ z : Int32, z = x7 + 1 := ⟨_, rfl⟩
      have hf := bv_n ex7_13 hf
      refine lv_iinc (v := x7_13) (lv' := [(7, .int x7_13), (6, .int x6_12), (0, .ref (α 60 g0)), (5, .int x5)]) hc.x hc.b dX12_turn_75 hl (k := 3) rfl (by rw [ex7_13]; rfl) (by decide) rfl (fun ls hl => ?_)
      refine lv_goto (tgt := 53) hc.x hc.b dX12_turn_78 (by decide) ?_
      exact ih x6_12 x7_13 S _ _ _ hf hd (lv_sub hl [2, 3, 1, 0] rfl)
set_option maxRecDepth 100000 in
set_option maxHeartbeats 4000000 in
theorem b_X12_turn (hc : Cx p s m args meth c cX12_turn 8 "PumpCrossingModel" D cs B0 kt Lv) (hr : meth.sig.returnType = some .int)  {o : Int32 × St}  {S : St} {g0 : Nat} {x1 : Int32} {x2 : Int32} {x3 : Int32} {x4 : Int32} {x5 : Int32} (hL0 : Lv 60 g0) {H : Heap} {locs : List Loc} {ls : Array Slot} (hf : f_X12_turn g0 x1 x2 x3 x4 x5 S = some o) (hd : Dy s D cs B0 α Lv S H locs) (hl : lv_has ls 8 [(0, .ref (α 60 g0)), (1, .int x1), (2, .int x2), (3, .int x3), (4, .int x4), (5, .int x5)]) : W p l e (Rm 4 0 0) s m args below meth c H locs 0 0 (MQ below (Qi D cs B0 α Lv o.1 o.2) args s 0 0 (AB B0)) (F0 m 0 ls []) := by
  unfold f_X12_turn at hf
  refine lv_aload_n hc.x hc.b dX12_turn_0 rfl (lv_at hl 0 rfl) ?_
  refine lv_aload_n hc.x hc.b dX12_turn_1 rfl (lv_at hl 0 rfl) ?_
  refine lv_iload_n hc.x hc.b dX12_turn_2 rfl (lv_at hl 1 rfl) ?_
  refine lv_iload_n hc.x hc.b dX12_turn_3 rfl (lv_at hl 2 rfl) ?_
  refine lv_iload_n hc.x hc.b dX12_turn_4 rfl (lv_at hl 3 rfl) ?_
  refine lv_iload hc.x hc.b dX12_turn_5 (lv_at hl 4 rfl) ?_
  obtain ⟨r_2, hq_1, hf⟩ := on_s hf
  refine k_i (k_runV hc hd my_X12_turnFault tw_1772 hL0 rfl rfl rfl (c_X12_turnFault l D cs B0 kt α Lv S g0 x1 x2 x3 x4 hc.cl hL0  hq_1) rfl rfl hl.1 (Nat.le_of_ble_eq_true rfl) ⟨Nat.le_of_ble_eq_true rfl, Nat.le_of_ble_eq_true rfl, Nat.zero_le _, Nat.zero_le _⟩ dX12_turn_7) hd (fun H locs hd => ?_)
  refine fp_60_5 hc hd hL0 tw_1314 dX12_turn_10 (fun H locs hd => ?_)
  obtain ⟨S_3, hd, hf⟩ := nmD hd hf
  refine lv_aload_n hc.x hc.b dX12_turn_13 rfl (lv_at hl 0 rfl) ?_
  refine fg_60_5 hc hd hL0 tw_1314 dX12_turn_14 ?_
  refine lv_if_le (tgt := 22) hc.x hc.b dX12_turn_17 (by decide) (fun c_4 => ?_) (fun c_4 => ?_)
  · have hf := br_y c_4 hf
    refine lv_iload hc.x hc.b dX12_turn_22 (lv_at hl 5 rfl) ?_
    refine lv_i2l (v := Int32.toInt64 x5) hc.x hc.b dX12_turn_24 rfl ?_
    refine lv_lconst (v := 0) hc.x hc.b dX12_turn_25 (by decide) ?_
    refine lv_iload hc.x hc.b dX12_turn_26 (lv_at hl 4 rfl) ?_
    refine lv_iconst (v := 1) hc.x hc.b dX12_turn_28 (by decide) ?_
    refine lv_isub hc.x hc.b dX12_turn_29 ?_
    refine lv_i2l (v := Int32.toInt64 (x4 - 1)) hc.x hc.b dX12_turn_30 rfl ?_
    obtain ⟨r_6, hq_5, hf⟩ := on_s hf
    refine k_i (k_runS hc hd my_X12_within tw_1444 (c_X12_within l D cs B0 kt α Lv S_3 (Int32.toInt64 x5) 0 (Int32.toInt64 (x4 - 1)) hc.cl   hq_5) rfl rfl hl.1 (Nat.le_of_ble_eq_true rfl) ⟨Nat.le_of_ble_eq_true rfl, Nat.le_of_ble_eq_true rfl, Nat.zero_le _, Nat.zero_le _⟩ dX12_turn_31) hd (fun H locs hd => ?_)
    refine lv_if_ne (tgt := 39) hc.x hc.b dX12_turn_34 (by decide) (fun c_7 => ?_) (fun c_7 => ?_)
    · have hf := br_n c_7 hf
      refine lv_aload_n hc.x hc.b dX12_turn_39 rfl (lv_at hl 0 rfl) ?_
      refine lv_iload_n hc.x hc.b dX12_turn_40 rfl (lv_at hl 1 rfl) ?_
      refine lv_iload_n hc.x hc.b dX12_turn_41 rfl (lv_at hl 2 rfl) ?_
      refine lv_iload hc.x hc.b dX12_turn_42 (lv_at hl 4 rfl) ?_
      obtain ⟨S_9, hq_8, hf⟩ := on_s hf
      refine k_v (k_runV hc hd my_X12_layTurns tw_1777 hL0 rfl rfl rfl (c_X12_layTurns l D cs B0 kt α Lv S_3 g0 x1 x2 x4 hc.cl hL0  hq_8) rfl rfl hl.1 (Nat.le_of_ble_eq_true rfl) ⟨Nat.le_of_ble_eq_true rfl, Nat.le_of_ble_eq_true rfl, Nat.zero_le _, Nat.zero_le _⟩ dX12_turn_44) hd (fun H locs hd => ?_)
      refine lv_iload_n hc.x hc.b dX12_turn_47 rfl (lv_at hl 3 rfl) ?_
      refine lv_istore (lv' := [(6, .int x3), (0, .ref (α 60 g0)), (1, .int x1), (2, .int x2), (3, .int x3), (4, .int x4), (5, .int x5)]) hc.x hc.b dX12_turn_48 hl (by decide) rfl (fun ls hl => ?_)
      refine lv_iconst (v := 0) hc.x hc.b dX12_turn_50 (by decide) ?_
      refine lv_istore (lv' := [(7, .int 0), (6, .int x3), (0, .ref (α 60 g0)), (1, .int x1), (2, .int x2), (3, .int x3), (4, .int x4), (5, .int x5)]) hc.x hc.b dX12_turn_51 hl (by decide) rfl (fun ls hl => ?_)
      refine w_X12_turn_53 hc hr hL0 ?_ _ _ _ _ _ _ _ hf hd (lv_sub hl [2, 7, 1, 0] rfl)
      intro x6_14 S_15 H locs ls hf hd hl
      refine lv_aload_n hc.x hc.b dX12_turn_81 rfl (lv_at hl 0 rfl) ?_
      refine fg_60_29 hc hd hL0 tw_1338 dX12_turn_82 ?_
      refine lv_bipush (v := 8) hc.x hc.b dX12_turn_85 (by decide) ?_
      refine lv_iload hc.x hc.b dX12_turn_87 (lv_at hl 1 rfl) ?_
      refine lv_imul hc.x hc.b dX12_turn_89 ?_
      refine lv_iload hc.x hc.b dX12_turn_90 (lv_at hl 2 rfl) ?_
      refine lv_iadd hc.x hc.b dX12_turn_92 ?_
      obtain ⟨hi_16, hf⟩ := ck_s hf
      refine r_iald hc hd (cl_60_sets hc.cl hL0) rfl hi_16 dX12_turn_93 ?_
      cases hf
      exact r_iret hc hd hr dX12_turn_94
    · have hf := br_y c_7 hf
      refine lv_iconst (v := (-1)) hc.x hc.b dX12_turn_37 (by decide) ?_
      cases hf
      exact r_iret hc hd hr dX12_turn_38
  · have hf := br_n c_4 hf
    refine lv_iconst (v := 0) hc.x hc.b dX12_turn_20 (by decide) ?_
    cases hf
    exact r_iret hc hd hr dX12_turn_21
theorem c_X12_turn (l : Launch) (D : va_G) (cs : Nat → ClassId) (B0 : Nat) (kt : (Nat → Nat) × (Nat → Nat)) (α : Nat → Nat → Nat) (Lv : Nat → Nat → Prop) (S : St) (g0 : Nat) (x1 : Int32) (x2 : Int32) (x3 : Int32) (x4 : Int32) (x5 : Int32) (hcl : Cl Lv) (hL0 : Lv 60 g0) {o : Int32 × St} (hf : f_X12_turn g0 x1 x2 x3 x4 x5 S = some o) : Met l yX12_turn (wz yX12_turn cX12_turn 8 (some .int)) (Rm 4 0 0) (Pz D cs B0 kt α Lv S [.ref (α 60 g0), .int x1, .int x2, .int x3, .int x4, .int x5]) (Qi D cs B0 α Lv o.1 o.2) 0 0 (AB B0) := met_of (by decide) rfl hcl (Nat.le_of_ble_eq_true rfl) (fun p e s m below meth c hc hr hd ls hl => b_X12_turn hc hr hL0 hf hd hl)
theorem my_X12_turn : MyV yX12_turn "PumpCrossingModel" cX12_turn 8 (some .int) 5 := ⟨tw_1769, tw_1770, tw_11, tw_1771, by decide +kernel⟩
def f_X12_upper (g0 : Nat) (S : St) : Option (Int64 × St) := bv (si S 60 g0 5 0) (fun S_1 => some (gl S_1 60 g0 26, S_1))
set_option maxRecDepth 100000 in
set_option maxHeartbeats 4000000 in
theorem b_X12_upper (hc : Cx p s m args meth c cX12_upper 1 "PumpCrossingModel" D cs B0 kt Lv) (hr : meth.sig.returnType = some .long)  {o : Int64 × St}  {S : St} {g0 : Nat} (hL0 : Lv 60 g0) {H : Heap} {locs : List Loc} {ls : Array Slot} (hf : f_X12_upper g0 S = some o) (hd : Dy s D cs B0 α Lv S H locs) (hl : lv_has ls 1 [(0, .ref (α 60 g0))]) : W p l e (Rm 0 0 0) s m args below meth c H locs 0 0 (MQ below (Ql D cs B0 α Lv o.1 o.2) args s 0 0 (AB B0)) (F0 m 0 ls []) := by
  unfold f_X12_upper at hf
  refine lv_aload_n hc.x hc.b dX12_upper_0 rfl (lv_at hl 0 rfl) ?_
  refine lv_iconst (v := 0) hc.x hc.b dX12_upper_1 (by decide) ?_
  refine fp_60_5 hc hd hL0 tw_1314 dX12_upper_2 (fun H locs hd => ?_)
  obtain ⟨S_1, hd, hf⟩ := nmD hd hf
  refine lv_aload_n hc.x hc.b dX12_upper_5 rfl (lv_at hl 0 rfl) ?_
  refine fg_60_26 hc hd hL0 tw_1335 dX12_upper_6 ?_
  cases hf
  exact r_lret hc hd hr dX12_upper_9
theorem c_X12_upper (l : Launch) (D : va_G) (cs : Nat → ClassId) (B0 : Nat) (kt : (Nat → Nat) × (Nat → Nat)) (α : Nat → Nat → Nat) (Lv : Nat → Nat → Prop) (S : St) (g0 : Nat) (hcl : Cl Lv) (hL0 : Lv 60 g0) {o : Int64 × St} (hf : f_X12_upper g0 S = some o) : Met l yX12_upper (wz yX12_upper cX12_upper 1 (some .long)) (Rm 0 0 0) (Pz D cs B0 kt α Lv S [.ref (α 60 g0)]) (Ql D cs B0 α Lv o.1 o.2) 0 0 (AB B0) := met_of (by decide) rfl hcl (Nat.le_of_ble_eq_true rfl) (fun p e s m below meth c hc hr hd ls hl => b_X12_upper hc hr hL0 hf hd hl)
theorem my_X12_upper : MyV yX12_upper "PumpCrossingModel" cX12_upper 1 (some .long) 0 := ⟨tw_1699, tw_1700, tw_11, tw_1701, by decide +kernel⟩
def f_X12_would (g0 : Nat) (x1 : Int32) (S : St) : Option (Int32 × St) := bv (si S 60 g0 5 0) (fun S_1 => on (f_X12_isStation g0 x1 S_1) (fun r_3 => br (r_3 = 0) (on2 (f_X12_fails g0 1 S_1) (fun r_12 S_11 => some (r_12, S_11))) (bv (si S_1 60 g0 23 0) (fun S_5 => ck (inb 2 3179 = true) (on2 (f_X12_makes g0 x1 (gi S_5 61 g0 (nn 2)) S_5) (fun r_9 S_8 => some (r_9, S_8)))))))
set_option maxRecDepth 100000 in
set_option maxHeartbeats 4000000 in
theorem b_X12_would (hc : Cx p s m args meth c cX12_would 2 "PumpCrossingModel" D cs B0 kt Lv) (hr : meth.sig.returnType = some .int)  {o : Int32 × St}  {S : St} {g0 : Nat} {x1 : Int32} (hL0 : Lv 60 g0) {H : Heap} {locs : List Loc} {ls : Array Slot} (hf : f_X12_would g0 x1 S = some o) (hd : Dy s D cs B0 α Lv S H locs) (hl : lv_has ls 2 [(0, .ref (α 60 g0)), (1, .int x1)]) : W p l e (Rm 8 0 0) s m args below meth c H locs 0 0 (MQ below (Qi D cs B0 α Lv o.1 o.2) args s 0 0 (AB B0)) (F0 m 0 ls []) := by
  unfold f_X12_would at hf
  refine lv_aload_n hc.x hc.b dX12_would_0 rfl (lv_at hl 0 rfl) ?_
  refine lv_iconst (v := 0) hc.x hc.b dX12_would_1 (by decide) ?_
  refine fp_60_5 hc hd hL0 tw_1314 dX12_would_2 (fun H locs hd => ?_)
  obtain ⟨S_1, hd, hf⟩ := nmD hd hf
  refine lv_aload_n hc.x hc.b dX12_would_5 rfl (lv_at hl 0 rfl) ?_
  refine lv_iload_n hc.x hc.b dX12_would_6 rfl (lv_at hl 1 rfl) ?_
  obtain ⟨r_3, hq_2, hf⟩ := on_s hf
  refine k_i (k_runV hc hd my_X12_isStation tw_1452 hL0 rfl rfl rfl (c_X12_isStation l D cs B0 kt α Lv S_1 g0 x1 hc.cl hL0  hq_2) rfl rfl hl.1 (Nat.le_of_ble_eq_true rfl) ⟨Nat.le_of_ble_eq_true rfl, Nat.le_of_ble_eq_true rfl, Nat.zero_le _, Nat.zero_le _⟩ dX12_would_7) hd (fun H locs hd => ?_)
  refine lv_if_ne (tgt := 19) hc.x hc.b dX12_would_10 (by decide) (fun c_4 => ?_) (fun c_4 => ?_)
  · have hf := br_n c_4 hf
    refine lv_aload_n hc.x hc.b dX12_would_19 rfl (lv_at hl 0 rfl) ?_
    refine lv_iconst (v := 0) hc.x hc.b dX12_would_20 (by decide) ?_
    refine fp_60_23 hc hd hL0 tw_1332 (Or.inl rfl) dX12_would_21 (fun H locs hd => ?_)
    obtain ⟨S_5, hd, hf⟩ := nmD hd hf
    refine lv_aload_n hc.x hc.b dX12_would_24 rfl (lv_at hl 0 rfl) ?_
    refine lv_iload_n hc.x hc.b dX12_would_25 rfl (lv_at hl 1 rfl) ?_
    refine lv_aload_n hc.x hc.b dX12_would_26 rfl (lv_at hl 0 rfl) ?_
    refine fg_60_0 hc hd hL0 tw_1309 dX12_would_27 ?_
    refine lv_iconst (v := 2) hc.x hc.b dX12_would_30 (by decide) ?_
    obtain ⟨hi_6, hf⟩ := ck_s hf
    refine r_iald hc hd (cl_60_told hc.cl hL0) rfl hi_6 dX12_would_31 ?_
    obtain ⟨r_9, S_8, hq_7, hf⟩ := on2_s hf
    refine k_i (k_runV hc hd my_X12_makes tw_1601 hL0 rfl rfl rfl (c_X12_makes l D cs B0 kt α Lv S_5 g0 x1 (gi S_5 61 g0 (nn 2)) hc.cl hL0  hq_7) rfl rfl hl.1 (Nat.le_of_ble_eq_true rfl) ⟨Nat.le_of_ble_eq_true rfl, Nat.le_of_ble_eq_true rfl, Nat.zero_le _, Nat.zero_le _⟩ dX12_would_32) hd (fun H locs hd => ?_)
    cases hf
    exact r_iret hc hd hr dX12_would_35
  · have hf := br_y c_4 hf
    refine lv_aload_n hc.x hc.b dX12_would_13 rfl (lv_at hl 0 rfl) ?_
    refine lv_iconst (v := 1) hc.x hc.b dX12_would_14 (by decide) ?_
    obtain ⟨r_12, S_11, hq_10, hf⟩ := on2_s hf
    refine k_i (k_runV hc hd my_X12_fails tw_1439 hL0 rfl rfl rfl (c_X12_fails l D cs B0 kt α Lv S_1 g0 1 hc.cl hL0  hq_10) rfl rfl hl.1 (Nat.le_of_ble_eq_true rfl) ⟨Nat.le_of_ble_eq_true rfl, Nat.le_of_ble_eq_true rfl, Nat.zero_le _, Nat.zero_le _⟩ dX12_would_15) hd (fun H locs hd => ?_)
    cases hf
    exact r_iret hc hd hr dX12_would_18
theorem c_X12_would (l : Launch) (D : va_G) (cs : Nat → ClassId) (B0 : Nat) (kt : (Nat → Nat) × (Nat → Nat)) (α : Nat → Nat → Nat) (Lv : Nat → Nat → Prop) (S : St) (g0 : Nat) (x1 : Int32) (hcl : Cl Lv) (hL0 : Lv 60 g0) {o : Int32 × St} (hf : f_X12_would g0 x1 S = some o) : Met l yX12_would (wz yX12_would cX12_would 2 (some .int)) (Rm 8 0 0) (Pz D cs B0 kt α Lv S [.ref (α 60 g0), .int x1]) (Qi D cs B0 α Lv o.1 o.2) 0 0 (AB B0) := met_of (by decide) rfl hcl (Nat.le_of_ble_eq_true rfl) (fun p e s m below meth c hc hr hd ls hl => b_X12_would hc hr hL0 hf hd hl)
theorem my_X12_would : MyV yX12_would "PumpCrossingModel" cX12_would 2 (some .int) 1 := ⟨tw_1662, tw_1663, tw_11, tw_1664, by decide +kernel⟩
def f_X12_write (g0 : Nat) (x1 : Int32) (x2 : Int32) (x3 : Int64) (S : St) : Option (Int64 × St) := bv (si S 60 g0 5 0) (fun S_1 => on (f_X12_isTray x1 S_1) (fun r_3 => br (r_3 = 0) (on2 (f_X12_fails g0 1 S_1) (fun r_26 S_25 => some (Int32.toInt64 r_26, S_25))) (ck (inb x1 4 = true) (br ((gi S_1 78 g0 (nn x1)) = ((-1))) (on2 (f_X12_fails g0 2 S_1) (fun r_23 S_22 => some (Int32.toInt64 r_23, S_22))) (ck (inb x1 4 = true) (on (f_X12_within (Int32.toInt64 x2) 0 (Int32.toInt64 ((gi S_1 79 g0 (nn x1)) - 1)) S_1) (fun r_9 => br (r_9 = 0) (on2 (f_X12_fails g0 3 S_1) (fun r_20 S_19 => some (Int32.toInt64 r_20, S_19))) (ck (inb x1 4 = true) (bv (64 - ((8 : Int32) <<< ((gi S_1 78 g0 (nn x1)) &&& 31))) (fun x5_12 => bv (slL x3 x5_12) (fun q_13 => bv (srL q_13 x5_12) (fun q_14 => ck (inb ((28 * x1) + x2) 112 = true) (bv (sl S_1 80 g0 (nn ((28 * x1) + x2)) q_14) (fun S_16 => ck (inb ((28 * x1) + x2) 112 = true) (some (gl S_16 80 g0 (nn ((28 * x1) + x2)), S_16))))))))))))))))
set_option maxRecDepth 100000 in
set_option maxHeartbeats 4000000 in
theorem b_X12_write (hc : Cx p s m args meth c cX12_write 6 "PumpCrossingModel" D cs B0 kt Lv) (hr : meth.sig.returnType = some .long)  {o : Int64 × St}  {S : St} {g0 : Nat} {x1 : Int32} {x2 : Int32} {x3 : Int64} (hL0 : Lv 60 g0) {H : Heap} {locs : List Loc} {ls : Array Slot} (hf : f_X12_write g0 x1 x2 x3 S = some o) (hd : Dy s D cs B0 α Lv S H locs) (hl : lv_has ls 6 [(0, .ref (α 60 g0)), (1, .int x1), (2, .int x2), (3, .long x3)]) : W p l e (Rm 2 0 0) s m args below meth c H locs 0 0 (MQ below (Ql D cs B0 α Lv o.1 o.2) args s 0 0 (AB B0)) (F0 m 0 ls []) := by
  unfold f_X12_write at hf
  refine lv_aload_n hc.x hc.b dX12_write_0 rfl (lv_at hl 0 rfl) ?_
  refine lv_iconst (v := 0) hc.x hc.b dX12_write_1 (by decide) ?_
  refine fp_60_5 hc hd hL0 tw_1314 dX12_write_2 (fun H locs hd => ?_)
  obtain ⟨S_1, hd, hf⟩ := nmD hd hf
  refine lv_iload_n hc.x hc.b dX12_write_5 rfl (lv_at hl 1 rfl) ?_
  obtain ⟨r_3, hq_2, hf⟩ := on_s hf
  refine k_i (k_runS hc hd my_X12_isTray tw_1826 (c_X12_isTray l D cs B0 kt α Lv S_1 x1 hc.cl   hq_2) rfl rfl hl.1 (Nat.le_of_ble_eq_true rfl) ⟨Nat.le_of_ble_eq_true rfl, Nat.le_of_ble_eq_true rfl, Nat.zero_le _, Nat.zero_le _⟩ dX12_write_6) hd (fun H locs hd => ?_)
  refine lv_if_ne (tgt := 19) hc.x hc.b dX12_write_9 (by decide) (fun c_4 => ?_) (fun c_4 => ?_)
  · have hf := br_n c_4 hf
    refine lv_aload_n hc.x hc.b dX12_write_19 rfl (lv_at hl 0 rfl) ?_
    refine fg_60_37 hc hd hL0 tw_1346 dX12_write_20 ?_
    refine lv_iload_n hc.x hc.b dX12_write_23 rfl (lv_at hl 1 rfl) ?_
    obtain ⟨hi_5, hf⟩ := ck_s hf
    refine r_iald hc hd (cl_60_tSort hc.cl hL0) rfl hi_5 dX12_write_24 ?_
    refine lv_iconst (v := (-1)) hc.x hc.b dX12_write_25 (by decide) ?_
    refine lv_icmp_ne (tgt := 36) hc.x hc.b dX12_write_26 (by decide) (fun c_6 => ?_) (fun c_6 => ?_)
    · have hf := br_n c_6 hf
      refine lv_iload_n hc.x hc.b dX12_write_36 rfl (lv_at hl 2 rfl) ?_
      refine lv_i2l (v := Int32.toInt64 x2) hc.x hc.b dX12_write_37 rfl ?_
      refine lv_lconst (v := 0) hc.x hc.b dX12_write_38 (by decide) ?_
      refine lv_aload_n hc.x hc.b dX12_write_39 rfl (lv_at hl 0 rfl) ?_
      refine fg_60_38 hc hd hL0 tw_1347 dX12_write_40 ?_
      refine lv_iload_n hc.x hc.b dX12_write_43 rfl (lv_at hl 1 rfl) ?_
      obtain ⟨hi_7, hf⟩ := ck_s hf
      refine r_iald hc hd (cl_60_tMany hc.cl hL0) rfl hi_7 dX12_write_44 ?_
      refine lv_iconst (v := 1) hc.x hc.b dX12_write_45 (by decide) ?_
      refine lv_isub hc.x hc.b dX12_write_46 ?_
      refine lv_i2l (v := Int32.toInt64 ((gi S_1 79 g0 (nn x1)) - 1)) hc.x hc.b dX12_write_47 rfl ?_
      obtain ⟨r_9, hq_8, hf⟩ := on_s hf
      refine k_i (k_runS hc hd my_X12_within tw_1444 (c_X12_within l D cs B0 kt α Lv S_1 (Int32.toInt64 x2) 0 (Int32.toInt64 ((gi S_1 79 g0 (nn x1)) - 1)) hc.cl   hq_8) rfl rfl hl.1 (Nat.le_of_ble_eq_true rfl) ⟨Nat.le_of_ble_eq_true rfl, Nat.le_of_ble_eq_true rfl, Nat.zero_le _, Nat.zero_le _⟩ dX12_write_48) hd (fun H locs hd => ?_)
      refine lv_if_ne (tgt := 61) hc.x hc.b dX12_write_51 (by decide) (fun c_10 => ?_) (fun c_10 => ?_)
      · have hf := br_n c_10 hf
        refine lv_bipush (v := 64) hc.x hc.b dX12_write_61 (by decide) ?_
        refine lv_bipush (v := 8) hc.x hc.b dX12_write_63 (by decide) ?_
        refine lv_aload_n hc.x hc.b dX12_write_65 rfl (lv_at hl 0 rfl) ?_
        refine fg_60_37 hc hd hL0 tw_1346 dX12_write_66 ?_
        refine lv_iload_n hc.x hc.b dX12_write_69 rfl (lv_at hl 1 rfl) ?_
        obtain ⟨hi_11, hf⟩ := ck_s hf
        refine r_iald hc hd (cl_60_tSort hc.cl hL0) rfl hi_11 dX12_write_70 ?_
        refine lv_ishl hc.x hc.b dX12_write_71 ?_
        refine lv_isub hc.x hc.b dX12_write_72 ?_
        refine lv_topi (fun x5_12 ex5_12 => ?_)
        have hf := bv_n ex5_12 hf
        refine lv_istore (lv' := [(5, .int x5_12), (0, .ref (α 60 g0)), (1, .int x1), (2, .int x2), (3, .long x3)]) hc.x hc.b dX12_write_73 hl (by decide) rfl (fun ls hl => ?_)
        refine lv_aload_n hc.x hc.b dX12_write_75 rfl (lv_at hl 1 rfl) ?_
        refine fg_60_39 hc hd hL0 tw_1348 dX12_write_76 ?_
        refine lv_bipush (v := 28) hc.x hc.b dX12_write_79 (by decide) ?_
        refine lv_iload_n hc.x hc.b dX12_write_81 rfl (lv_at hl 2 rfl) ?_
        refine lv_imul hc.x hc.b dX12_write_82 ?_
        refine lv_iload_n hc.x hc.b dX12_write_83 rfl (lv_at hl 3 rfl) ?_
        refine lv_iadd hc.x hc.b dX12_write_84 ?_
        refine lv_lload_n hc.x hc.b dX12_write_85 rfl (lv_at hl 4 rfl) ?_
        refine lv_iload hc.x hc.b dX12_write_86 (lv_at hl 0 rfl) ?_
        refine lv_lshl (v := slL x3 x5_12) hc.x hc.b dX12_write_88 rfl ?_
        refine lv_topl (fun q_13 eq_13 => ?_)
        have hf := bv_n eq_13 hf
        refine lv_iload hc.x hc.b dX12_write_89 (lv_at hl 0 rfl) ?_
        refine lv_lshr (v := srL q_13 x5_12) hc.x hc.b dX12_write_91 rfl ?_
        refine lv_topl (fun q_14 eq_14 => ?_)
        have hf := bv_n eq_14 hf
        obtain ⟨hi_15, hf⟩ := ck_s hf
        refine r_last hc hd (cl_60_numbers hc.cl hL0) (fun _ => rfl) hi_15 dX12_write_92 (fun H locs hd => ?_)
        obtain ⟨S_16, hd, hf⟩ := nmD hd hf
        refine lv_aload_n hc.x hc.b dX12_write_93 rfl (lv_at hl 1 rfl) ?_
        refine fg_60_39 hc hd hL0 tw_1348 dX12_write_94 ?_
        refine lv_bipush (v := 28) hc.x hc.b dX12_write_97 (by decide) ?_
        refine lv_iload_n hc.x hc.b dX12_write_99 rfl (lv_at hl 2 rfl) ?_
        refine lv_imul hc.x hc.b dX12_write_100 ?_
        refine lv_iload_n hc.x hc.b dX12_write_101 rfl (lv_at hl 3 rfl) ?_
        refine lv_iadd hc.x hc.b dX12_write_102 ?_
        obtain ⟨hi_17, hf⟩ := ck_s hf
        refine r_lald hc hd (cl_60_numbers hc.cl hL0) rfl hi_17 dX12_write_103 ?_
        cases hf
        exact r_lret hc hd hr dX12_write_104
      · have hf := br_y c_10 hf
        refine lv_aload_n hc.x hc.b dX12_write_54 rfl (lv_at hl 0 rfl) ?_
        refine lv_iconst (v := 3) hc.x hc.b dX12_write_55 (by decide) ?_
        obtain ⟨r_20, S_19, hq_18, hf⟩ := on2_s hf
        refine k_i (k_runV hc hd my_X12_fails tw_1439 hL0 rfl rfl rfl (c_X12_fails l D cs B0 kt α Lv S_1 g0 3 hc.cl hL0  hq_18) rfl rfl hl.1 (Nat.le_of_ble_eq_true rfl) ⟨Nat.le_of_ble_eq_true rfl, Nat.le_of_ble_eq_true rfl, Nat.zero_le _, Nat.zero_le _⟩ dX12_write_56) hd (fun H locs hd => ?_)
        refine lv_i2l (v := Int32.toInt64 r_20) hc.x hc.b dX12_write_59 rfl ?_
        cases hf
        exact r_lret hc hd hr dX12_write_60
    · have hf := br_y c_6 hf
      refine lv_aload_n hc.x hc.b dX12_write_29 rfl (lv_at hl 0 rfl) ?_
      refine lv_iconst (v := 2) hc.x hc.b dX12_write_30 (by decide) ?_
      obtain ⟨r_23, S_22, hq_21, hf⟩ := on2_s hf
      refine k_i (k_runV hc hd my_X12_fails tw_1439 hL0 rfl rfl rfl (c_X12_fails l D cs B0 kt α Lv S_1 g0 2 hc.cl hL0  hq_21) rfl rfl hl.1 (Nat.le_of_ble_eq_true rfl) ⟨Nat.le_of_ble_eq_true rfl, Nat.le_of_ble_eq_true rfl, Nat.zero_le _, Nat.zero_le _⟩ dX12_write_31) hd (fun H locs hd => ?_)
      refine lv_i2l (v := Int32.toInt64 r_23) hc.x hc.b dX12_write_34 rfl ?_
      cases hf
      exact r_lret hc hd hr dX12_write_35
  · have hf := br_y c_4 hf
    refine lv_aload_n hc.x hc.b dX12_write_12 rfl (lv_at hl 0 rfl) ?_
    refine lv_iconst (v := 1) hc.x hc.b dX12_write_13 (by decide) ?_
    obtain ⟨r_26, S_25, hq_24, hf⟩ := on2_s hf
    refine k_i (k_runV hc hd my_X12_fails tw_1439 hL0 rfl rfl rfl (c_X12_fails l D cs B0 kt α Lv S_1 g0 1 hc.cl hL0  hq_24) rfl rfl hl.1 (Nat.le_of_ble_eq_true rfl) ⟨Nat.le_of_ble_eq_true rfl, Nat.le_of_ble_eq_true rfl, Nat.zero_le _, Nat.zero_le _⟩ dX12_write_14) hd (fun H locs hd => ?_)
    refine lv_i2l (v := Int32.toInt64 r_26) hc.x hc.b dX12_write_17 rfl ?_
    cases hf
    exact r_lret hc hd hr dX12_write_18
theorem c_X12_write (l : Launch) (D : va_G) (cs : Nat → ClassId) (B0 : Nat) (kt : (Nat → Nat) × (Nat → Nat)) (α : Nat → Nat → Nat) (Lv : Nat → Nat → Prop) (S : St) (g0 : Nat) (x1 : Int32) (x2 : Int32) (x3 : Int64) (hcl : Cl Lv) (hL0 : Lv 60 g0) {o : Int64 × St} (hf : f_X12_write g0 x1 x2 x3 S = some o) : Met l yX12_write (wz yX12_write cX12_write 6 (some .long)) (Rm 2 0 0) (Pz D cs B0 kt α Lv S [.ref (α 60 g0), .int x1, .int x2, .long x3]) (Ql D cs B0 α Lv o.1 o.2) 0 0 (AB B0) := met_of (by decide) rfl hcl (Nat.le_of_ble_eq_true rfl) (fun p e s m below meth c hc hr hd ls hl => b_X12_write hc hr hL0 hf hd hl)
theorem my_X12_write : MyV yX12_write "PumpCrossingModel" cX12_write 6 (some .long) 3 := ⟨tw_1864, tw_1865, tw_11, tw_1866, by decide +kernel⟩
end
