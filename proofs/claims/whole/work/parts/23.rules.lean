section
variable {p : Program} {l : Launch} {e : Env} {s : State} {m : MethodId} {args : Array Value} {below : List Frame} {meth : Method} {c : Code} {D : va_G} {cs : Nat → ClassId} {B0 : Nat} {kt : (Nat → Nat) × (Nat → Nat)} {α : Nat → Nat → Nat} {Lv : Nat → Nat → Prop}
def f_X5_bounded (x0 : Int32) (S : St) : Option (Int32) := bv (mnI x0 99) (fun q_1 => bv (mxI 0 q_1) (fun q_2 => some q_2))
set_option maxRecDepth 100000 in
set_option maxHeartbeats 4000000 in
theorem b_X5_bounded (hc : Cx p s m args meth c cX5_bounded 1 "PumpCrossing$Law" D cs B0 kt Lv) (hr : meth.sig.returnType = some .int)  {o : Int32}  {S : St} {x0 : Int32}  {H : Heap} {locs : List Loc} {ls : Array Slot} (hf : f_X5_bounded x0 S = some o) (hd : Dy s D cs B0 α Lv S H locs) (hl : lv_has ls 1 [(0, .int x0)]) : W p l e (Rm 2 0 0) s m args below meth c H locs 0 0 (MQ below (Qi D cs B0 α Lv o S) args s 0 0 (AB B0)) (F0 m 0 ls []) := by
  unfold f_X5_bounded at hf
  refine lv_iconst (v := 0) hc.x hc.b dX5_bounded_0 (by decide) ?_
  refine lv_iload_n hc.x hc.b dX5_bounded_1 rfl (lv_at hl 0 rfl) ?_
  refine lv_bipush (v := 99) hc.x hc.b dX5_bounded_2 (by decide) ?_
  refine r_min hc hl.1 tw_821 (Nat.le_of_ble_eq_true rfl) (Nat.le_of_ble_eq_true rfl) (Nat.zero_le _) (Nat.zero_le _) dX5_bounded_4 ?_
  refine lv_topi (fun q_1 eq_1 => ?_)
  have hf := bv_n eq_1 hf
  refine r_max hc hl.1 tw_822 (Nat.le_of_ble_eq_true rfl) (Nat.le_of_ble_eq_true rfl) (Nat.zero_le _) (Nat.zero_le _) dX5_bounded_7 ?_
  refine lv_topi (fun q_2 eq_2 => ?_)
  have hf := bv_n eq_2 hf
  cases hf
  exact r_iret hc hd hr dX5_bounded_10
theorem c_X5_bounded (l : Launch) (D : va_G) (cs : Nat → ClassId) (B0 : Nat) (kt : (Nat → Nat) × (Nat → Nat)) (α : Nat → Nat → Nat) (Lv : Nat → Nat → Prop) (S : St) (x0 : Int32) (hcl : Cl Lv)  {o : Int32} (hf : f_X5_bounded x0 S = some o) : Met l yX5_bounded (wz yX5_bounded cX5_bounded 1 (some .int)) (Rm 2 0 0) (Pz D cs B0 kt α Lv S [.int x0]) (Qi D cs B0 α Lv o S) 0 0 (AB B0) := met_of (by decide) rfl hcl (Nat.le_of_ble_eq_true rfl) (fun p e s m below meth c hc hr hd ls hl => b_X5_bounded hc hr  hf hd hl)
theorem my_X5_bounded : MyS yX5_bounded cX5_bounded 1 (some .int) 1 := ⟨tw_819, tw_25, tw_820, by decide +kernel⟩
def f_X5_allowed (g0 : Nat) (x1 : Int32) (g2 : Nat) (S : St) : Option (Int32) := ck (inb 0 9 = true) (bv (gi S 27 g2 (nn 0)) (fun x3_2 => bv (fun (v_3 : Int32) => bv (fun (x4_5 : Int32) => bv (fun (v_7 : Int32) => bv (fun (v_9 : Int32) => some v_9) (fun J_10 => bv (fun (_u : Unit) => J_10 x3_2) (fun J_11 => br (v_7 = 0) (J_11 ()) (ck (inb 6 9 = true) (br ((gi S 27 g2 (nn 6)) < (gi S 35 g0 0)) (J_11 ()) (on (f_X5_bounded x4_5 S) (fun r_16 => J_10 r_16))))))) (fun J_8 => bv (fun (_u : Unit) => J_8 1) (fun J_17 => br ((gi S 35 g0 1) = 0) (J_17 ()) (ck (inb 4 9 = true) (br (((((gi S 35 g0 1) : Int32) >>> ((gi S 27 g2 (nn 4)) &&& 31)) &&& 1) = 1) (J_17 ()) (J_8 0)))))) (fun J_6 => br ((gi S 35 g0 3) = 0) (J_6 v_3) (br (v_3 = x3_2) (J_6 v_3) (ck (inb 3 9 = true) (bv (mxI v_3 (gi S 27 g2 (nn 3))) (fun q_24 => J_6 q_24)))))) (fun J_4 => br ((gi S 35 g0 2) = ((-1))) (J_4 x1) (bv (mnI x1 (x3_2 + (gi S 35 g0 2))) (fun q_26 => J_4 q_26)))))
set_option maxRecDepth 100000 in
set_option maxHeartbeats 4000000 in
theorem b_X5_allowed (hc : Cx p s m args meth c cX5_allowed 6 "PumpCrossing$Law" D cs B0 kt Lv) (hr : meth.sig.returnType = some .int)  {o : Int32}  {S : St} {g0 : Nat} {x1 : Int32} {g2 : Nat} (hL0 : Lv 35 g0) (hL2 : Lv 27 g2) {H : Heap} {locs : List Loc} {ls : Array Slot} (hf : f_X5_allowed g0 x1 g2 S = some o) (hd : Dy s D cs B0 α Lv S H locs) (hl : lv_has ls 6 [(0, .ref (α 35 g0)), (1, .int x1), (2, .ref (α 27 g2))]) : W p l e (Rm 3 0 0) s m args below meth c H locs 0 0 (MQ below (Qi D cs B0 α Lv o S) args s 0 0 (AB B0)) (F0 m 0 ls []) := by
  unfold f_X5_allowed at hf
  refine lv_aload_n hc.x hc.b dX5_allowed_0 rfl (lv_at hl 2 rfl) ?_
  refine lv_iconst (v := 0) hc.x hc.b dX5_allowed_1 (by decide) ?_
  obtain ⟨hi_1, hf⟩ := ck_s hf
  refine r_iald hc hd hL2 rfl hi_1 dX5_allowed_2 ?_
  refine lv_topi (fun x3_2 ex3_2 => ?_)
  have hf := bv_n ex3_2 hf
  refine lv_istore_n (lv' := [(3, .int x3_2), (0, .ref (α 35 g0)), (1, .int x1), (2, .ref (α 27 g2))]) hc.x hc.b dX5_allowed_3 rfl hl (by decide) rfl (fun ls hl => ?_)
  refine lv_aload_n hc.x hc.b dX5_allowed_4 rfl (lv_at hl 1 rfl) ?_
  refine fg_35_2 hc hd hL0 tw_746 dX5_allowed_5 ?_
  refine lv_iconst (v := (-1)) hc.x hc.b dX5_allowed_8 (by decide) ?_
  refine jn_s (P := fun J_4 => ∀ (v_3 : Int32) (H : Heap) (locs : List Loc) (ls : Array Slot), J_4 v_3 = some o → Dy s D cs B0 α Lv S H locs → lv_has ls 6 [(0, .ref (α 35 g0)), (2, .ref (α 27 g2)), (3, .int x3_2)] → W p l e (Rm 3 0 0) s m args below meth c H locs 0 0 (MQ below (Qi D cs B0 α Lv o S) args s 0 0 (AB B0)) (F0 m 26 ls [.int v_3])) hf ?_ (fun J_4 hJ_4 hf => ?_)
  · intro v_3 H locs ls hf hd hl
    refine lv_istore (lv' := [(4, .int v_3), (0, .ref (α 35 g0)), (2, .ref (α 27 g2)), (3, .int x3_2)]) hc.x hc.b dX5_allowed_26 hl (by decide) rfl (fun ls hl => ?_)
    refine lv_aload_n hc.x hc.b dX5_allowed_28 rfl (lv_at hl 1 rfl) ?_
    refine fg_35_3 hc hd hL0 tw_747 dX5_allowed_29 ?_
    refine jn_s (P := fun J_6 => ∀ (x4_5 : Int32) (H : Heap) (locs : List Loc) (ls : Array Slot), J_6 x4_5 = some o → Dy s D cs B0 α Lv S H locs → lv_has ls 6 [(0, .ref (α 35 g0)), (2, .ref (α 27 g2)), (3, .int x3_2), (4, .int x4_5)] → W p l e (Rm 3 0 0) s m args below meth c H locs 0 0 (MQ below (Qi D cs B0 α Lv o S) args s 0 0 (AB B0)) (F0 m 51 ls [])) hf ?_ (fun J_6 hJ_6 hf => ?_)
    · intro x4_5 H locs ls hf hd hl
      refine lv_aload_n hc.x hc.b dX5_allowed_51 rfl (lv_at hl 0 rfl) ?_
      refine fg_35_1 hc hd hL0 tw_745 dX5_allowed_52 ?_
      refine jn_s (P := fun J_8 => ∀ (v_7 : Int32) (H : Heap) (locs : List Loc) (ls : Array Slot), J_8 v_7 = some o → Dy s D cs B0 α Lv S H locs → lv_has ls 6 [(0, .ref (α 35 g0)), (2, .ref (α 27 g2)), (3, .int x3_2), (4, .int x4_5)] → W p l e (Rm 3 0 0) s m args below meth c H locs 0 0 (MQ below (Qi D cs B0 α Lv o S) args s 0 0 (AB B0)) (F0 m 77 ls [.int v_7])) hf ?_ (fun J_8 hJ_8 hf => ?_)
      · intro v_7 H locs ls hf hd hl
        refine lv_istore (lv' := [(5, .int v_7), (0, .ref (α 35 g0)), (2, .ref (α 27 g2)), (3, .int x3_2), (4, .int x4_5)]) hc.x hc.b dX5_allowed_77 hl (by decide) rfl (fun ls hl => ?_)
        refine lv_iload hc.x hc.b dX5_allowed_79 (lv_at hl 0 rfl) ?_
        refine jn_s (P := fun J_10 => ∀ (v_9 : Int32) (H : Heap) (locs : List Loc) (ls : Array Slot), J_10 v_9 = some o → Dy s D cs B0 α Lv S H locs → lv_has ls 6 [] → W p l e (Rm 3 0 0) s m args below meth c H locs 0 0 (MQ below (Qi D cs B0 α Lv o S) args s 0 0 (AB B0)) (F0 m 104 ls [.int v_9])) hf ?_ (fun J_10 hJ_10 hf => ?_)
        · intro v_9 H locs ls hf hd hl
          cases hf
          exact r_iret hc hd hr dX5_allowed_104
        refine jn_s (P := fun J_11 => ∀ (_u : Unit) (H : Heap) (locs : List Loc) (ls : Array Slot), J_11 _u = some o → Dy s D cs B0 α Lv S H locs → lv_has ls 6 [(3, .int x3_2)] → W p l e (Rm 3 0 0) s m args below meth c H locs 0 0 (MQ below (Qi D cs B0 α Lv o S) args s 0 0 (AB B0)) (F0 m 103 ls [])) hf ?_ (fun J_11 hJ_11 hf => ?_)
        · intro _u H locs ls hf hd hl
          refine lv_iload_n hc.x hc.b dX5_allowed_103 rfl (lv_at hl 0 rfl) ?_
          exact hJ_10 x3_2 _ _ _ hf hd (lv_sub hl [] rfl)
        refine lv_if_eq (tgt := 103) hc.x hc.b dX5_allowed_81 (by decide) (fun c_12 => ?_) (fun c_12 => ?_)
        · have hf := br_y c_12 hf
          exact hJ_11 ()  _ _ _ hf hd (lv_sub hl [3] rfl)
        · have hf := br_n c_12 hf
          refine lv_aload_n hc.x hc.b dX5_allowed_84 rfl (lv_at hl 2 rfl) ?_
          refine lv_bipush (v := 6) hc.x hc.b dX5_allowed_85 (by decide) ?_
          obtain ⟨hi_13, hf⟩ := ck_s hf
          refine r_iald hc hd hL2 rfl hi_13 dX5_allowed_87 ?_
          refine lv_aload_n hc.x hc.b dX5_allowed_88 rfl (lv_at hl 1 rfl) ?_
          refine fg_35_0 hc hd hL0 tw_744 dX5_allowed_89 ?_
          refine lv_icmp_lt (tgt := 103) hc.x hc.b dX5_allowed_92 (by decide) (fun c_14 => ?_) (fun c_14 => ?_)
          · have hf := br_y c_14 hf
            exact hJ_11 ()  _ _ _ hf hd (lv_sub hl [3] rfl)
          · have hf := br_n c_14 hf
            refine lv_iload hc.x hc.b dX5_allowed_95 (lv_at hl 4 rfl) ?_
            obtain ⟨r_16, hq_15, hf⟩ := on_s hf
            refine k_i (k_runS hc hd my_X5_bounded tw_827 (c_X5_bounded l D cs B0 kt α Lv S x4_5 hc.cl   hq_15) rfl rfl hl.1 (Nat.le_of_ble_eq_true rfl) ⟨Nat.le_of_ble_eq_true rfl, Nat.le_of_ble_eq_true rfl, Nat.zero_le _, Nat.zero_le _⟩ dX5_allowed_97) hd (fun H locs hd => ?_)
            refine lv_goto (tgt := 104) hc.x hc.b dX5_allowed_100 (by decide) ?_
            exact hJ_10 r_16 _ _ _ hf hd (lv_sub hl [] rfl)
      refine jn_s (P := fun J_17 => ∀ (_u : Unit) (H : Heap) (locs : List Loc) (ls : Array Slot), J_17 _u = some o → Dy s D cs B0 α Lv S H locs → lv_has ls 6 [(0, .ref (α 35 g0)), (2, .ref (α 27 g2)), (3, .int x3_2), (4, .int x4_5)] → W p l e (Rm 3 0 0) s m args below meth c H locs 0 0 (MQ below (Qi D cs B0 α Lv o S) args s 0 0 (AB B0)) (F0 m 72 ls [])) hf ?_ (fun J_17 hJ_17 hf => ?_)
      · intro _u H locs ls hf hd hl
        refine lv_iconst (v := 1) hc.x hc.b dX5_allowed_72 (by decide) ?_
        refine lv_goto (tgt := 77) hc.x hc.b dX5_allowed_73 (by decide) ?_
        exact hJ_8 1 _ _ _ hf hd (lv_sub hl [0, 1, 2, 3] rfl)
      refine lv_if_eq (tgt := 72) hc.x hc.b dX5_allowed_55 (by decide) (fun c_18 => ?_) (fun c_18 => ?_)
      · have hf := br_y c_18 hf
        exact hJ_17 ()  _ _ _ hf hd (lv_sub hl [0, 1, 2, 3] rfl)
      · have hf := br_n c_18 hf
        refine lv_aload_n hc.x hc.b dX5_allowed_58 rfl (lv_at hl 0 rfl) ?_
        refine fg_35_1 hc hd hL0 tw_745 dX5_allowed_59 ?_
        refine lv_aload_n hc.x hc.b dX5_allowed_62 rfl (lv_at hl 1 rfl) ?_
        refine lv_iconst (v := 4) hc.x hc.b dX5_allowed_63 (by decide) ?_
        obtain ⟨hi_19, hf⟩ := ck_s hf
        refine r_iald hc hd hL2 rfl hi_19 dX5_allowed_64 ?_
        refine lv_ishr hc.x hc.b dX5_allowed_65 ?_
        refine lv_iconst (v := 1) hc.x hc.b dX5_allowed_66 (by decide) ?_
        refine lv_iand hc.x hc.b dX5_allowed_67 ?_
        refine lv_iconst (v := 1) hc.x hc.b dX5_allowed_68 (by decide) ?_
        refine lv_icmp_ne (tgt := 76) hc.x hc.b dX5_allowed_69 (by decide) (fun c_20 => ?_) (fun c_20 => ?_)
        · have hf := br_n c_20 hf
          refine lv_iconst (v := 0) hc.x hc.b dX5_allowed_76 (by decide) ?_
          exact hJ_8 0 _ _ _ hf hd (lv_sub hl [0, 1, 2, 3] rfl)
        · have hf := br_y c_20 hf
          exact hJ_17 ()  _ _ _ hf hd (lv_sub hl [0, 1, 2, 3] rfl)
    refine lv_if_eq (tgt := 51) hc.x hc.b dX5_allowed_32 (by decide) (fun c_21 => ?_) (fun c_21 => ?_)
    · have hf := br_y c_21 hf
      exact hJ_6 v_3 _ _ _ hf hd (lv_sub hl [1, 2, 3, 0] rfl)
    · have hf := br_n c_21 hf
      refine lv_iload hc.x hc.b dX5_allowed_35 (lv_at hl 0 rfl) ?_
      refine lv_iload_n hc.x hc.b dX5_allowed_37 rfl (lv_at hl 3 rfl) ?_
      refine lv_icmp_eq (tgt := 51) hc.x hc.b dX5_allowed_38 (by decide) (fun c_22 => ?_) (fun c_22 => ?_)
      · have hf := br_y c_22 hf
        exact hJ_6 v_3 _ _ _ hf hd (lv_sub hl [1, 2, 3, 0] rfl)
      · have hf := br_n c_22 hf
        refine lv_iload hc.x hc.b dX5_allowed_41 (lv_at hl 0 rfl) ?_
        refine lv_aload_n hc.x hc.b dX5_allowed_43 rfl (lv_at hl 2 rfl) ?_
        refine lv_iconst (v := 3) hc.x hc.b dX5_allowed_44 (by decide) ?_
        obtain ⟨hi_23, hf⟩ := ck_s hf
        refine r_iald hc hd hL2 rfl hi_23 dX5_allowed_45 ?_
        refine r_max hc hl.1 tw_822 (Nat.le_of_ble_eq_true rfl) (Nat.le_of_ble_eq_true rfl) (Nat.zero_le _) (Nat.zero_le _) dX5_allowed_46 ?_
        refine lv_topi (fun q_24 eq_24 => ?_)
        have hf := bv_n eq_24 hf
        refine lv_istore (lv' := [(4, .int q_24), (0, .ref (α 35 g0)), (2, .ref (α 27 g2)), (3, .int x3_2)]) hc.x hc.b dX5_allowed_49 hl (by decide) rfl (fun ls hl => ?_)
        exact hJ_6 q_24 _ _ _ hf hd (lv_sub hl [1, 2, 3, 0] rfl)
  refine lv_icmp_ne (tgt := 16) hc.x hc.b dX5_allowed_9 (by decide) (fun c_25 => ?_) (fun c_25 => ?_)
  · have hf := br_n c_25 hf
    refine lv_iload_n hc.x hc.b dX5_allowed_16 rfl (lv_at hl 2 rfl) ?_
    refine lv_iload_n hc.x hc.b dX5_allowed_17 rfl (lv_at hl 0 rfl) ?_
    refine lv_aload_n hc.x hc.b dX5_allowed_18 rfl (lv_at hl 1 rfl) ?_
    refine fg_35_2 hc hd hL0 tw_746 dX5_allowed_19 ?_
    refine lv_iadd hc.x hc.b dX5_allowed_22 ?_
    refine r_min hc hl.1 tw_821 (Nat.le_of_ble_eq_true rfl) (Nat.le_of_ble_eq_true rfl) (Nat.zero_le _) (Nat.zero_le _) dX5_allowed_23 ?_
    refine lv_topi (fun q_26 eq_26 => ?_)
    have hf := bv_n eq_26 hf
    exact hJ_4 q_26 _ _ _ hf hd (lv_sub hl [1, 3, 0] rfl)
  · have hf := br_y c_25 hf
    refine lv_iload_n hc.x hc.b dX5_allowed_12 rfl (lv_at hl 2 rfl) ?_
    refine lv_goto (tgt := 26) hc.x hc.b dX5_allowed_13 (by decide) ?_
    exact hJ_4 x1 _ _ _ hf hd (lv_sub hl [1, 3, 0] rfl)
theorem c_X5_allowed (l : Launch) (D : va_G) (cs : Nat → ClassId) (B0 : Nat) (kt : (Nat → Nat) × (Nat → Nat)) (α : Nat → Nat → Nat) (Lv : Nat → Nat → Prop) (S : St) (g0 : Nat) (x1 : Int32) (g2 : Nat) (hcl : Cl Lv) (hL0 : Lv 35 g0) (hL2 : Lv 27 g2) {o : Int32} (hf : f_X5_allowed g0 x1 g2 S = some o) : Met l yX5_allowed (wz yX5_allowed cX5_allowed 6 (some .int)) (Rm 3 0 0) (Pz D cs B0 kt α Lv S [.ref (α 35 g0), .int x1, .ref (α 27 g2)]) (Qi D cs B0 α Lv o S) 0 0 (AB B0) := met_of (by decide) rfl hcl (Nat.le_of_ble_eq_true rfl) (fun p e s m below meth c hc hr hd ls hl => b_X5_allowed hc hr hL0 hL2 hf hd hl)
theorem my_X5_allowed : MyV yX5_allowed "PumpCrossing$Law" cX5_allowed 6 (some .int) 2 := ⟨tw_824, tw_825, tw_25, tw_826, by decide +kernel⟩
def f_X7_isSo (x0 : Int32) (x1 : Int32) (x2 : Int32) (S : St) : Option (Int32) := bv (fun (v_1 : Int32) => ck (v_1 = 0 ∨ v_1 = 1) (some v_1)) (fun J_2 => br (x1 = 60) (br (x2 ≤ x0) (J_2 0) (J_2 1)) (br (x1 = 62) (br (x0 ≤ x2) (J_2 0) (J_2 1)) (br (x0 = x2) (J_2 1) (J_2 0))))
set_option maxRecDepth 100000 in
set_option maxHeartbeats 4000000 in
theorem b_X7_isSo (hc : Cx p s m args meth c cX7_isSo 3 "PumpCrossing$Rules" D cs B0 kt Lv) (hr : meth.sig.returnType = some .boolean)  {o : Int32}  {S : St} {x0 : Int32} {x1 : Int32} {x2 : Int32}  {H : Heap} {locs : List Loc} {ls : Array Slot} (hf : f_X7_isSo x0 x1 x2 S = some o) (hd : Dy s D cs B0 α Lv S H locs) (hl : lv_has ls 3 [(0, .int x0), (1, .int x1), (2, .int x2)]) : W p l e (Rm 0 0 0) s m args below meth c H locs 0 0 (MQ below (Qi D cs B0 α Lv o S) args s 0 0 (AB B0)) (F0 m 0 ls []) := by
  unfold f_X7_isSo at hf
  refine lv_iload_n hc.x hc.b dX7_isSo_0 rfl (lv_at hl 1 rfl) ?_
  refine lv_bipush (v := 60) hc.x hc.b dX7_isSo_1 (by decide) ?_
  refine jn_s (P := fun J_2 => ∀ (v_1 : Int32) (H : Heap) (locs : List Loc) (ls : Array Slot), J_2 v_1 = some o → Dy s D cs B0 α Lv S H locs → lv_has ls 3 [] → W p l e (Rm 0 0 0) s m args below meth c H locs 0 0 (MQ below (Qi D cs B0 α Lv o S) args s 0 0 (AB B0)) (F0 m 48 ls [.int v_1])) hf ?_ (fun J_2 hJ_2 hf => ?_)
  · intro v_1 H locs ls hf hd hl
    obtain ⟨hz, hf⟩ := ck_s hf
    cases hf
    exact r_zret hc hd hr hz dX7_isSo_48
  refine lv_icmp_ne (tgt := 19) hc.x hc.b dX7_isSo_3 (by decide) (fun c_3 => ?_) (fun c_3 => ?_)
  · have hf := br_n c_3 hf
    refine lv_iload_n hc.x hc.b dX7_isSo_19 rfl (lv_at hl 1 rfl) ?_
    refine lv_bipush (v := 62) hc.x hc.b dX7_isSo_20 (by decide) ?_
    refine lv_icmp_ne (tgt := 38) hc.x hc.b dX7_isSo_22 (by decide) (fun c_4 => ?_) (fun c_4 => ?_)
    · have hf := br_n c_4 hf
      refine lv_iload_n hc.x hc.b dX7_isSo_38 rfl (lv_at hl 0 rfl) ?_
      refine lv_iload_n hc.x hc.b dX7_isSo_39 rfl (lv_at hl 2 rfl) ?_
      refine lv_icmp_ne (tgt := 47) hc.x hc.b dX7_isSo_40 (by decide) (fun c_5 => ?_) (fun c_5 => ?_)
      · have hf := br_n c_5 hf
        refine lv_iconst (v := 0) hc.x hc.b dX7_isSo_47 (by decide) ?_
        exact hJ_2 0 _ _ _ hf hd (lv_sub hl [] rfl)
      · have hf := br_y c_5 hf
        refine lv_iconst (v := 1) hc.x hc.b dX7_isSo_43 (by decide) ?_
        refine lv_goto (tgt := 48) hc.x hc.b dX7_isSo_44 (by decide) ?_
        exact hJ_2 1 _ _ _ hf hd (lv_sub hl [] rfl)
    · have hf := br_y c_4 hf
      refine lv_iload_n hc.x hc.b dX7_isSo_25 rfl (lv_at hl 0 rfl) ?_
      refine lv_iload_n hc.x hc.b dX7_isSo_26 rfl (lv_at hl 2 rfl) ?_
      refine lv_icmp_le (tgt := 34) hc.x hc.b dX7_isSo_27 (by decide) (fun c_6 => ?_) (fun c_6 => ?_)
      · have hf := br_y c_6 hf
        refine lv_iconst (v := 0) hc.x hc.b dX7_isSo_34 (by decide) ?_
        refine lv_goto (tgt := 48) hc.x hc.b dX7_isSo_35 (by decide) ?_
        exact hJ_2 0 _ _ _ hf hd (lv_sub hl [] rfl)
      · have hf := br_n c_6 hf
        refine lv_iconst (v := 1) hc.x hc.b dX7_isSo_30 (by decide) ?_
        refine lv_goto (tgt := 48) hc.x hc.b dX7_isSo_31 (by decide) ?_
        exact hJ_2 1 _ _ _ hf hd (lv_sub hl [] rfl)
  · have hf := br_y c_3 hf
    refine lv_iload_n hc.x hc.b dX7_isSo_6 rfl (lv_at hl 0 rfl) ?_
    refine lv_iload_n hc.x hc.b dX7_isSo_7 rfl (lv_at hl 2 rfl) ?_
    refine lv_icmp_ge (tgt := 15) hc.x hc.b dX7_isSo_8 (by decide) (fun c_7 => ?_) (fun c_7 => ?_)
    · have hf := br_y c_7 hf
      refine lv_iconst (v := 0) hc.x hc.b dX7_isSo_15 (by decide) ?_
      refine lv_goto (tgt := 48) hc.x hc.b dX7_isSo_16 (by decide) ?_
      exact hJ_2 0 _ _ _ hf hd (lv_sub hl [] rfl)
    · have hf := br_n c_7 hf
      refine lv_iconst (v := 1) hc.x hc.b dX7_isSo_11 (by decide) ?_
      refine lv_goto (tgt := 48) hc.x hc.b dX7_isSo_12 (by decide) ?_
      exact hJ_2 1 _ _ _ hf hd (lv_sub hl [] rfl)
theorem c_X7_isSo (l : Launch) (D : va_G) (cs : Nat → ClassId) (B0 : Nat) (kt : (Nat → Nat) × (Nat → Nat)) (α : Nat → Nat → Nat) (Lv : Nat → Nat → Prop) (S : St) (x0 : Int32) (x1 : Int32) (x2 : Int32) (hcl : Cl Lv)  {o : Int32} (hf : f_X7_isSo x0 x1 x2 S = some o) : Met l yX7_isSo (wz yX7_isSo cX7_isSo 3 (some .boolean)) (Rm 0 0 0) (Pz D cs B0 kt α Lv S [.int x0, .int x1, .int x2]) (Qi D cs B0 α Lv o S) 0 0 (AB B0) := met_of (by decide) rfl hcl (Nat.le_of_ble_eq_true rfl) (fun p e s m below meth c hc hr hd ls hl => b_X7_isSo hc hr  hf hd hl)
theorem my_X7_isSo : MyS yX7_isSo cX7_isSo 3 (some .boolean) 3 := ⟨tw_813, tw_23, tw_814, by decide +kernel⟩
def f_X7_valueOf (x0 : Int32) (g1 : Nat) (S : St) : Option (Int32) := bv (fun (v_1 : Int32) => some v_1) (fun J_2 => br (x0 < 200) (ck (inb (x0 - 110) 9 = true) (J_2 (gi S 27 g1 (nn (x0 - 110))))) (J_2 (x0 - 200)))
set_option maxRecDepth 100000 in
set_option maxHeartbeats 4000000 in
theorem b_X7_valueOf (hc : Cx p s m args meth c cX7_valueOf 2 "PumpCrossing$Rules" D cs B0 kt Lv) (hr : meth.sig.returnType = some .int)  {o : Int32}  {S : St} {x0 : Int32} {g1 : Nat} (hL1 : Lv 27 g1) {H : Heap} {locs : List Loc} {ls : Array Slot} (hf : f_X7_valueOf x0 g1 S = some o) (hd : Dy s D cs B0 α Lv S H locs) (hl : lv_has ls 2 [(0, .int x0), (1, .ref (α 27 g1))]) : W p l e (Rm 0 0 0) s m args below meth c H locs 0 0 (MQ below (Qi D cs B0 α Lv o S) args s 0 0 (AB B0)) (F0 m 0 ls []) := by
  unfold f_X7_valueOf at hf
  refine lv_iload_n hc.x hc.b dX7_valueOf_0 rfl (lv_at hl 0 rfl) ?_
  refine lv_sipush (v := 200) hc.x hc.b dX7_valueOf_1 (by decide) ?_
  refine jn_s (P := fun J_2 => ∀ (v_1 : Int32) (H : Heap) (locs : List Loc) (ls : Array Slot), J_2 v_1 = some o → Dy s D cs B0 α Lv S H locs → lv_has ls 2 [] → W p l e (Rm 0 0 0) s m args below meth c H locs 0 0 (MQ below (Qi D cs B0 α Lv o S) args s 0 0 (AB B0)) (F0 m 21 ls [.int v_1])) hf ?_ (fun J_2 hJ_2 hf => ?_)
  · intro v_1 H locs ls hf hd hl
    cases hf
    exact r_iret hc hd hr dX7_valueOf_21
  refine lv_icmp_lt (tgt := 15) hc.x hc.b dX7_valueOf_4 (by decide) (fun c_3 => ?_) (fun c_3 => ?_)
  · have hf := br_y c_3 hf
    refine lv_aload_n hc.x hc.b dX7_valueOf_15 rfl (lv_at hl 1 rfl) ?_
    refine lv_iload_n hc.x hc.b dX7_valueOf_16 rfl (lv_at hl 0 rfl) ?_
    refine lv_bipush (v := 110) hc.x hc.b dX7_valueOf_17 (by decide) ?_
    refine lv_isub hc.x hc.b dX7_valueOf_19 ?_
    obtain ⟨hi_4, hf⟩ := ck_s hf
    refine r_iald hc hd hL1 rfl hi_4 dX7_valueOf_20 ?_
    exact hJ_2 (gi S 27 g1 (nn (x0 - 110))) _ _ _ hf hd (lv_sub hl [] rfl)
  · have hf := br_n c_3 hf
    refine lv_iload_n hc.x hc.b dX7_valueOf_7 rfl (lv_at hl 0 rfl) ?_
    refine lv_sipush (v := 200) hc.x hc.b dX7_valueOf_8 (by decide) ?_
    refine lv_isub hc.x hc.b dX7_valueOf_11 ?_
    refine lv_goto (tgt := 21) hc.x hc.b dX7_valueOf_12 (by decide) ?_
    exact hJ_2 (x0 - 200) _ _ _ hf hd (lv_sub hl [] rfl)
theorem c_X7_valueOf (l : Launch) (D : va_G) (cs : Nat → ClassId) (B0 : Nat) (kt : (Nat → Nat) × (Nat → Nat)) (α : Nat → Nat → Nat) (Lv : Nat → Nat → Prop) (S : St) (x0 : Int32) (g1 : Nat) (hcl : Cl Lv) (hL1 : Lv 27 g1) {o : Int32} (hf : f_X7_valueOf x0 g1 S = some o) : Met l yX7_valueOf (wz yX7_valueOf cX7_valueOf 2 (some .int)) (Rm 0 0 0) (Pz D cs B0 kt α Lv S [.int x0, .ref (α 27 g1)]) (Qi D cs B0 α Lv o S) 0 0 (AB B0) := met_of (by decide) rfl hcl (Nat.le_of_ble_eq_true rfl) (fun p e s m below meth c hc hr hd ls hl => b_X7_valueOf hc hr hL1 hf hd hl)
theorem my_X7_valueOf : MyS yX7_valueOf cX7_valueOf 2 (some .int) 2 := ⟨tw_808, tw_23, tw_809, by decide +kernel⟩
def f_X7_holds_20 (g0 : Nat) (g2 : Nat) (S : St) (K : Unit → Option (Int32)) : Nat → Int32 → Int32 → Int32 → Int32 → Int32 → Int32 → Int32 → Option (Int32)
  | 0, _, _, _, _, _, _, _ => none
  | n + 1, x3, x4, x5, x6, x7, x8, x9 => br ((Int32.ofNat (gn S 33 g0)) ≤ x9) (K ()) (ck (inb x9 (gn S 33 g0) = true) (bv (gi S 33 g0 (nn x9)) (fun x10_3 => on (f_X9_isTerm x10_3 S) (fun r_5 => bv (fun (x3_6 : Int32) (x4_7 : Int32) (x5_8 : Int32) (x6_9 : Int32) (x7_10 : Int32) (x8_11 : Int32) => bv (x9 + 1) (fun x9_13 => f_X7_holds_20 g0 g2 S K n x3_6 x4_7 x5_8 x6_9 x7_10 x8_11 x9_13)) (fun J_12 => br (r_5 = 0) (on (f_X9_isPlusOrMinus x10_3 S) (fun r_16 => br (r_16 = 0) (br (x10_3 = 109) (bv (fun (v_38 : Int32) => J_12 x3 v_38 x5 x6 x7 x8) (fun J_39 => br (x4 = 0) (J_39 1) (J_39 0))) (on (f_X9_isRelation x10_3 S) (fun r_20 => br (r_20 = 0) (bv (fun (v_22 : Int32) => bv (fun (_u : Unit) => br (x10_3 = 59) (some 0) (bv (fun (v_26 : Int32) => J_12 v_26 0 x5 x6 0 1) (fun J_27 => bv (fun (_u : Unit) => J_27 1) (fun J_28 => br (v_22 = 0) (br (x10_3 = 107) (J_28 ()) (J_27 0)) (J_28 ()))))) (fun J_24 => br (x10_3 = 108) (J_24 ()) (br (v_22 = 0) (J_24 ()) (some 1)))) (fun J_23 => bv (fun (_u : Unit) => J_23 0) (fun J_33 => br (x3 = 0) (J_33 ()) (on (f_X7_isSo x6 x5 x7 S) (fun r_36 => br (r_36 = x4) (J_33 ()) (J_23 1)))))) (J_12 x3 x4 x10_3 x7 0 1)))) (bv (fun (v_41 : Int32) => J_12 x3 x4 x5 x6 x7 v_41) (fun J_42 => br (x10_3 = 43) (J_42 1) (J_42 ((-1))))))) (on (f_X7_valueOf x10_3 g2 S) (fun r_45 => bv (x7 + (x8 * r_45)) (fun x7_46 => J_12 x3 x4 x5 x6 x7_46 x8))))))))
def f_X7_holds (g0 : Nat) (x1 : Int32) (g2 : Nat) (S : St) : Option (Int32) := f_X7_holds_20 g0 g2 S (fun (_u : Unit) => some 0) FU 1 0 0 0 0 1 x1
set_option maxRecDepth 100000 in
set_option maxHeartbeats 4000000 in
theorem w_X7_holds_20 (hc : Cx p s m args meth c cX7_holds 11 "PumpCrossing$Rules" D cs B0 kt Lv) (hr : meth.sig.returnType = some .boolean) {o : Int32}  {g0 : Nat} {g2 : Nat} {S : St} {K : Unit → Option (Int32)} (hL0 : Lv 32 g0) (hL2 : Lv 27 g2) (hK : ∀ (_u : Unit) (H : Heap) (locs : List Loc) (ls : Array Slot), K _u = some o → Dy s D cs B0 α Lv S H locs → lv_has ls 11 [] → W p l e (Rm 1 0 0) s m args below meth c H locs 0 0 (MQ below (Qi D cs B0 α Lv o S) args s 0 0 (AB B0)) (F0 m 214 ls [])) : ∀ (n : Nat) (x3 : Int32) (x4 : Int32) (x5 : Int32) (x6 : Int32) (x7 : Int32) (x8 : Int32) (x9 : Int32) (H : Heap) (locs : List Loc) (ls : Array Slot), f_X7_holds_20 g0 g2 S K n x3 x4 x5 x6 x7 x8 x9 = some o → Dy s D cs B0 α Lv S H locs → lv_has ls 11 [(0, .ref (α 32 g0)), (2, .ref (α 27 g2)), (3, .int x3), (4, .int x4), (5, .int x5), (6, .int x6), (7, .int x7), (8, .int x8), (9, .int x9)] → W p l e (Rm 1 0 0) s m args below meth c H locs 0 0 (MQ below (Qi D cs B0 α Lv o S) args s 0 0 (AB B0)) (F0 m 20 ls []) := by
  intro n
  induction n with
  | zero =>
    intro x3 x4 x5 x6 x7 x8 x9 H locs ls hf
    rw [f_X7_holds_20] at hf
    cases hf
  | succ n ih =>
    intro x3 x4 x5 x6 x7 x8 x9 H locs ls hf hd hl
    rw [f_X7_holds_20] at hf
    refine lv_iload hc.x hc.b dX7_holds_20 (lv_at hl 8 rfl) ?_
    refine lv_aload_n hc.x hc.b dX7_holds_22 rfl (lv_at hl 0 rfl) ?_
    refine fg_32_0 hc hd hL0 tw_720 dX7_holds_23 ?_
    refine r_alen hc hd (cl_32_tokens hc.cl hL0) (t0 := 0) rfl rfl dX7_holds_26 ?_
    refine lv_icmp_ge (tgt := 214) hc.x hc.b dX7_holds_27 (by decide) (fun c_1 => ?_) (fun c_1 => ?_)
    · have hf := br_y c_1 hf
      exact hK ()  _ _ _ hf hd (lv_sub hl [] rfl)
    · have hf := br_n c_1 hf
      refine lv_aload_n hc.x hc.b dX7_holds_30 rfl (lv_at hl 0 rfl) ?_
      refine fg_32_0 hc hd hL0 tw_720 dX7_holds_31 ?_
      refine lv_iload hc.x hc.b dX7_holds_34 (lv_at hl 8 rfl) ?_
      obtain ⟨hi_2, hf⟩ := ck_s hf
      refine r_iald hc hd (cl_32_tokens hc.cl hL0) rfl hi_2 dX7_holds_36 ?_
      refine lv_topi (fun x10_3 ex10_3 => ?_)
      have hf := bv_n ex10_3 hf
      refine lv_istore (lv' := [(10, .int x10_3), (0, .ref (α 32 g0)), (2, .ref (α 27 g2)), (3, .int x3), (4, .int x4), (5, .int x5), (6, .int x6), (7, .int x7), (8, .int x8), (9, .int x9)]) hc.x hc.b dX7_holds_37 hl (by decide) rfl (fun ls hl => ?_)
      refine lv_iload hc.x hc.b dX7_holds_39 (lv_at hl 0 rfl) ?_
      obtain ⟨r_5, hq_4, hf⟩ := on_s hf
      refine k_i (k_runS hc hd my_X9_isTerm tw_806 (c_X9_isTerm l D cs B0 kt α Lv S x10_3 hc.cl   hq_4) rfl rfl hl.1 (Nat.le_of_ble_eq_true rfl) ⟨Nat.le_of_ble_eq_true rfl, Nat.le_of_ble_eq_true rfl, Nat.zero_le _, Nat.zero_le _⟩ dX7_holds_41) hd (fun H locs hd => ?_)
      refine jn_s (P := fun J_12 => ∀ (x3_6 : Int32) (x4_7 : Int32) (x5_8 : Int32) (x6_9 : Int32) (x7_10 : Int32) (x8_11 : Int32) (H : Heap) (locs : List Loc) (ls : Array Slot), J_12 x3_6 x4_7 x5_8 x6_9 x7_10 x8_11 = some o → Dy s D cs B0 α Lv S H locs → lv_has ls 11 [(0, .ref (α 32 g0)), (2, .ref (α 27 g2)), (3, .int x3_6), (4, .int x4_7), (5, .int x5_8), (6, .int x6_9), (7, .int x7_10), (8, .int x8_11), (9, .int x9)] → W p l e (Rm 1 0 0) s m args below meth c H locs 0 0 (MQ below (Qi D cs B0 α Lv o S) args s 0 0 (AB B0)) (F0 m 208 ls [])) hf ?_ (fun J_12 hJ_12 hf => ?_)
      · intro x3_6 x4_7 x5_8 x6_9 x7_10 x8_11 H locs ls hf hd hl
        obtain ⟨x9_13, ex9_13⟩ : ∃ z : Int32, z = x9 + 1 := ⟨_, rfl⟩
        have hf := bv_n ex9_13 hf
        refine lv_iinc (v := x9_13) (lv' := [(9, .int x9_13), (0, .ref (α 32 g0)), (2, .ref (α 27 g2)), (3, .int x3_6), (4, .int x4_7), (5, .int x5_8), (6, .int x6_9), (7, .int x7_10), (8, .int x8_11)]) hc.x hc.b dX7_holds_208 hl (k := 8) rfl (by rw [ex9_13]; rfl) (by decide) rfl (fun ls hl => ?_)
        refine lv_goto (tgt := 20) hc.x hc.b dX7_holds_211 (by decide) ?_
        exact ih x3_6 x4_7 x5_8 x6_9 x7_10 x8_11 x9_13 _ _ _ hf hd (lv_sub hl [1, 2, 3, 4, 5, 6, 7, 8, 0] rfl)
      refine lv_if_eq (tgt := 64) hc.x hc.b dX7_holds_44 (by decide) (fun c_14 => ?_) (fun c_14 => ?_)
      · have hf := br_y c_14 hf
        refine lv_iload hc.x hc.b dX7_holds_64 (lv_at hl 0 rfl) ?_
        obtain ⟨r_16, hq_15, hf⟩ := on_s hf
        refine k_i (k_runS hc hd my_X9_isPlusOrMinus tw_810 (c_X9_isPlusOrMinus l D cs B0 kt α Lv S x10_3 hc.cl   hq_15) rfl rfl hl.1 (Nat.le_of_ble_eq_true rfl) ⟨Nat.le_of_ble_eq_true rfl, Nat.le_of_ble_eq_true rfl, Nat.zero_le _, Nat.zero_le _⟩ dX7_holds_66) hd (fun H locs hd => ?_)
        refine lv_if_eq (tgt := 89) hc.x hc.b dX7_holds_69 (by decide) (fun c_17 => ?_) (fun c_17 => ?_)
        · have hf := br_y c_17 hf
          refine lv_iload hc.x hc.b dX7_holds_89 (lv_at hl 0 rfl) ?_
          refine lv_bipush (v := 109) hc.x hc.b dX7_holds_91 (by decide) ?_
          refine lv_icmp_ne (tgt := 111) hc.x hc.b dX7_holds_93 (by decide) (fun c_18 => ?_) (fun c_18 => ?_)
          · have hf := br_n c_18 hf
            refine lv_iload hc.x hc.b dX7_holds_111 (lv_at hl 0 rfl) ?_
            obtain ⟨r_20, hq_19, hf⟩ := on_s hf
            refine k_i (k_runS hc hd my_X9_isRelation tw_811 (c_X9_isRelation l D cs B0 kt α Lv S x10_3 hc.cl   hq_19) rfl rfl hl.1 (Nat.le_of_ble_eq_true rfl) ⟨Nat.le_of_ble_eq_true rfl, Nat.le_of_ble_eq_true rfl, Nat.zero_le _, Nat.zero_le _⟩ dX7_holds_113) hd (fun H locs hd => ?_)
            refine lv_if_eq (tgt := 136) hc.x hc.b dX7_holds_116 (by decide) (fun c_21 => ?_) (fun c_21 => ?_)
            · have hf := br_y c_21 hf
              refine lv_iload_n hc.x hc.b dX7_holds_136 rfl (lv_at hl 3 rfl) ?_
              refine jn_s (P := fun J_23 => ∀ (v_22 : Int32) (H : Heap) (locs : List Loc) (ls : Array Slot), J_23 v_22 = some o → Dy s D cs B0 α Lv S H locs → lv_has ls 11 [(0, .ref (α 32 g0)), (2, .ref (α 27 g2)), (5, .int x5), (6, .int x6), (9, .int x9), (10, .int x10_3)] → W p l e (Rm 1 0 0) s m args below meth c H locs 0 0 (MQ below (Qi D cs B0 α Lv o S) args s 0 0 (AB B0)) (F0 m 159 ls [.int v_22])) hf ?_ (fun J_23 hJ_23 hf => ?_)
              · intro v_22 H locs ls hf hd hl
                refine lv_istore_n (lv' := [(3, .int v_22), (0, .ref (α 32 g0)), (2, .ref (α 27 g2)), (5, .int x5), (6, .int x6), (9, .int x9), (10, .int x10_3)]) hc.x hc.b dX7_holds_159 rfl hl (by decide) rfl (fun ls hl => ?_)
                refine lv_iload hc.x hc.b dX7_holds_160 (lv_at hl 6 rfl) ?_
                refine lv_bipush (v := 108) hc.x hc.b dX7_holds_162 (by decide) ?_
                refine jn_s (P := fun J_24 => ∀ (_u : Unit) (H : Heap) (locs : List Loc) (ls : Array Slot), J_24 _u = some o → Dy s D cs B0 α Lv S H locs → lv_has ls 11 [(0, .ref (α 32 g0)), (2, .ref (α 27 g2)), (3, .int v_22), (5, .int x5), (6, .int x6), (9, .int x9), (10, .int x10_3)] → W p l e (Rm 1 0 0) s m args below meth c H locs 0 0 (MQ below (Qi D cs B0 α Lv o S) args s 0 0 (AB B0)) (F0 m 173 ls [])) hf ?_ (fun J_24 hJ_24 hf => ?_)
                · intro _u H locs ls hf hd hl
                  refine lv_iload hc.x hc.b dX7_holds_173 (lv_at hl 6 rfl) ?_
                  refine lv_bipush (v := 59) hc.x hc.b dX7_holds_175 (by decide) ?_
                  refine lv_icmp_ne (tgt := 182) hc.x hc.b dX7_holds_177 (by decide) (fun c_25 => ?_) (fun c_25 => ?_)
                  · have hf := br_n c_25 hf
                    refine lv_iload_n hc.x hc.b dX7_holds_182 rfl (lv_at hl 2 rfl) ?_
                    refine jn_s (P := fun J_27 => ∀ (v_26 : Int32) (H : Heap) (locs : List Loc) (ls : Array Slot), J_27 v_26 = some o → Dy s D cs B0 α Lv S H locs → lv_has ls 11 [(0, .ref (α 32 g0)), (2, .ref (α 27 g2)), (5, .int x5), (6, .int x6), (9, .int x9)] → W p l e (Rm 1 0 0) s m args below meth c H locs 0 0 (MQ below (Qi D cs B0 α Lv o S) args s 0 0 (AB B0)) (F0 m 198 ls [.int v_26])) hf ?_ (fun J_27 hJ_27 hf => ?_)
                    · intro v_26 H locs ls hf hd hl
                      refine lv_istore_n (lv' := [(3, .int v_26), (0, .ref (α 32 g0)), (2, .ref (α 27 g2)), (5, .int x5), (6, .int x6), (9, .int x9)]) hc.x hc.b dX7_holds_198 rfl hl (by decide) rfl (fun ls hl => ?_)
                      refine lv_iconst (v := 0) hc.x hc.b dX7_holds_199 (by decide) ?_
                      refine lv_istore (lv' := [(4, .int 0), (3, .int v_26), (0, .ref (α 32 g0)), (2, .ref (α 27 g2)), (5, .int x5), (6, .int x6), (9, .int x9)]) hc.x hc.b dX7_holds_200 hl (by decide) rfl (fun ls hl => ?_)
                      refine lv_iconst (v := 0) hc.x hc.b dX7_holds_202 (by decide) ?_
                      refine lv_istore (lv' := [(7, .int 0), (4, .int 0), (3, .int v_26), (0, .ref (α 32 g0)), (2, .ref (α 27 g2)), (5, .int x5), (6, .int x6), (9, .int x9)]) hc.x hc.b dX7_holds_203 hl (by decide) rfl (fun ls hl => ?_)
                      refine lv_iconst (v := 1) hc.x hc.b dX7_holds_205 (by decide) ?_
                      refine lv_istore (lv' := [(8, .int 1), (7, .int 0), (4, .int 0), (3, .int v_26), (0, .ref (α 32 g0)), (2, .ref (α 27 g2)), (5, .int x5), (6, .int x6), (9, .int x9)]) hc.x hc.b dX7_holds_206 hl (by decide) rfl (fun ls hl => ?_)
                      exact hJ_12 v_26 0 x5 x6 0 1 _ _ _ hf hd (lv_sub hl [4, 5, 3, 2, 6, 7, 1, 0, 8] rfl)
                    refine jn_s (P := fun J_28 => ∀ (_u : Unit) (H : Heap) (locs : List Loc) (ls : Array Slot), J_28 _u = some o → Dy s D cs B0 α Lv S H locs → lv_has ls 11 [(0, .ref (α 32 g0)), (2, .ref (α 27 g2)), (5, .int x5), (6, .int x6), (9, .int x9)] → W p l e (Rm 1 0 0) s m args below meth c H locs 0 0 (MQ below (Qi D cs B0 α Lv o S) args s 0 0 (AB B0)) (F0 m 193 ls [])) hf ?_ (fun J_28 hJ_28 hf => ?_)
                    · intro _u H locs ls hf hd hl
                      refine lv_iconst (v := 1) hc.x hc.b dX7_holds_193 (by decide) ?_
                      refine lv_goto (tgt := 198) hc.x hc.b dX7_holds_194 (by decide) ?_
                      exact hJ_27 1 _ _ _ hf hd (lv_sub hl [0, 1, 2, 3, 4] rfl)
                    refine lv_if_ne (tgt := 193) hc.x hc.b dX7_holds_183 (by decide) (fun c_29 => ?_) (fun c_29 => ?_)
                    · have hf := br_n c_29 hf
                      exact hJ_28 ()  _ _ _ hf hd (lv_sub hl [0, 1, 3, 4, 5] rfl)
                    · have hf := br_y c_29 hf
                      refine lv_iload hc.x hc.b dX7_holds_186 (lv_at hl 6 rfl) ?_
                      refine lv_bipush (v := 107) hc.x hc.b dX7_holds_188 (by decide) ?_
                      refine lv_icmp_ne (tgt := 197) hc.x hc.b dX7_holds_190 (by decide) (fun c_30 => ?_) (fun c_30 => ?_)
                      · have hf := br_n c_30 hf
                        refine lv_iconst (v := 0) hc.x hc.b dX7_holds_197 (by decide) ?_
                        exact hJ_27 0 _ _ _ hf hd (lv_sub hl [0, 1, 3, 4, 5] rfl)
                      · have hf := br_y c_30 hf
                        exact hJ_28 ()  _ _ _ hf hd (lv_sub hl [0, 1, 3, 4, 5] rfl)
                  · have hf := br_y c_25 hf
                    refine lv_iconst (v := 0) hc.x hc.b dX7_holds_180 (by decide) ?_
                    cases hf
                    exact r_zret hc hd hr (Or.inl rfl) dX7_holds_181
                refine lv_icmp_eq (tgt := 173) hc.x hc.b dX7_holds_164 (by decide) (fun c_31 => ?_) (fun c_31 => ?_)
                · have hf := br_y c_31 hf
                  exact hJ_24 ()  _ _ _ hf hd (lv_sub hl [1, 2, 0, 3, 4, 5, 6] rfl)
                · have hf := br_n c_31 hf
                  refine lv_iload_n hc.x hc.b dX7_holds_167 rfl (lv_at hl 0 rfl) ?_
                  refine lv_if_eq (tgt := 173) hc.x hc.b dX7_holds_168 (by decide) (fun c_32 => ?_) (fun c_32 => ?_)
                  · have hf := br_y c_32 hf
                    exact hJ_24 ()  _ _ _ hf hd (lv_sub hl [1, 2, 0, 3, 4, 5, 6] rfl)
                  · have hf := br_n c_32 hf
                    refine lv_iconst (v := 1) hc.x hc.b dX7_holds_171 (by decide) ?_
                    cases hf
                    exact r_zret hc hd hr (Or.inr rfl) dX7_holds_172
              refine jn_s (P := fun J_33 => ∀ (_u : Unit) (H : Heap) (locs : List Loc) (ls : Array Slot), J_33 _u = some o → Dy s D cs B0 α Lv S H locs → lv_has ls 11 [(0, .ref (α 32 g0)), (2, .ref (α 27 g2)), (5, .int x5), (6, .int x6), (9, .int x9), (10, .int x10_3)] → W p l e (Rm 1 0 0) s m args below meth c H locs 0 0 (MQ below (Qi D cs B0 α Lv o S) args s 0 0 (AB B0)) (F0 m 158 ls [])) hf ?_ (fun J_33 hJ_33 hf => ?_)
              · intro _u H locs ls hf hd hl
                refine lv_iconst (v := 0) hc.x hc.b dX7_holds_158 (by decide) ?_
                exact hJ_23 0 _ _ _ hf hd (lv_sub hl [0, 1, 2, 3, 4, 5] rfl)
              refine lv_if_eq (tgt := 158) hc.x hc.b dX7_holds_137 (by decide) (fun c_34 => ?_) (fun c_34 => ?_)
              · have hf := br_y c_34 hf
                exact hJ_33 ()  _ _ _ hf hd (lv_sub hl [1, 2, 5, 6, 9, 0] rfl)
              · have hf := br_n c_34 hf
                refine lv_iload hc.x hc.b dX7_holds_140 (lv_at hl 6 rfl) ?_
                refine lv_iload hc.x hc.b dX7_holds_142 (lv_at hl 5 rfl) ?_
                refine lv_iload hc.x hc.b dX7_holds_144 (lv_at hl 7 rfl) ?_
                obtain ⟨r_36, hq_35, hf⟩ := on_s hf
                refine k_i (k_runS hc hd my_X7_isSo tw_812 (c_X7_isSo l D cs B0 kt α Lv S x6 x5 x7 hc.cl   hq_35) rfl rfl hl.1 (Nat.le_of_ble_eq_true rfl) ⟨Nat.le_of_ble_eq_true rfl, Nat.le_of_ble_eq_true rfl, Nat.zero_le _, Nat.zero_le _⟩ dX7_holds_146) hd (fun H locs hd => ?_)
                refine lv_iload hc.x hc.b dX7_holds_149 (lv_at hl 4 rfl) ?_
                refine lv_icmp_eq (tgt := 158) hc.x hc.b dX7_holds_151 (by decide) (fun c_37 => ?_) (fun c_37 => ?_)
                · have hf := br_y c_37 hf
                  exact hJ_33 ()  _ _ _ hf hd (lv_sub hl [1, 2, 5, 6, 9, 0] rfl)
                · have hf := br_n c_37 hf
                  refine lv_iconst (v := 1) hc.x hc.b dX7_holds_154 (by decide) ?_
                  refine lv_goto (tgt := 159) hc.x hc.b dX7_holds_155 (by decide) ?_
                  exact hJ_23 1 _ _ _ hf hd (lv_sub hl [1, 2, 5, 6, 9, 0] rfl)
            · have hf := br_n c_21 hf
              refine lv_iload hc.x hc.b dX7_holds_119 (lv_at hl 0 rfl) ?_
              refine lv_istore (lv' := [(5, .int x10_3), (10, .int x10_3), (0, .ref (α 32 g0)), (2, .ref (α 27 g2)), (3, .int x3), (4, .int x4), (6, .int x6), (7, .int x7), (8, .int x8), (9, .int x9)]) hc.x hc.b dX7_holds_121 hl (by decide) rfl (fun ls hl => ?_)
              refine lv_iload hc.x hc.b dX7_holds_123 (lv_at hl 7 rfl) ?_
              refine lv_istore (lv' := [(6, .int x7), (5, .int x10_3), (10, .int x10_3), (0, .ref (α 32 g0)), (2, .ref (α 27 g2)), (3, .int x3), (4, .int x4), (7, .int x7), (8, .int x8), (9, .int x9)]) hc.x hc.b dX7_holds_125 hl (by decide) rfl (fun ls hl => ?_)
              refine lv_iconst (v := 0) hc.x hc.b dX7_holds_127 (by decide) ?_
              refine lv_istore (lv' := [(7, .int 0), (6, .int x7), (5, .int x10_3), (10, .int x10_3), (0, .ref (α 32 g0)), (2, .ref (α 27 g2)), (3, .int x3), (4, .int x4), (8, .int x8), (9, .int x9)]) hc.x hc.b dX7_holds_128 hl (by decide) rfl (fun ls hl => ?_)
              refine lv_iconst (v := 1) hc.x hc.b dX7_holds_130 (by decide) ?_
              refine lv_istore (lv' := [(8, .int 1), (7, .int 0), (6, .int x7), (5, .int x10_3), (10, .int x10_3), (0, .ref (α 32 g0)), (2, .ref (α 27 g2)), (3, .int x3), (4, .int x4), (9, .int x9)]) hc.x hc.b dX7_holds_131 hl (by decide) rfl (fun ls hl => ?_)
              refine lv_goto (tgt := 208) hc.x hc.b dX7_holds_133 (by decide) ?_
              exact hJ_12 x3 x4 x10_3 x7 0 1 _ _ _ hf hd (lv_sub hl [5, 6, 7, 8, 3, 2, 1, 0, 9] rfl)
          · have hf := br_y c_18 hf
            refine lv_iload hc.x hc.b dX7_holds_96 (lv_at hl 4 rfl) ?_
            refine jn_s (P := fun J_39 => ∀ (v_38 : Int32) (H : Heap) (locs : List Loc) (ls : Array Slot), J_39 v_38 = some o → Dy s D cs B0 α Lv S H locs → lv_has ls 11 [(0, .ref (α 32 g0)), (2, .ref (α 27 g2)), (3, .int x3), (5, .int x5), (6, .int x6), (7, .int x7), (8, .int x8), (9, .int x9)] → W p l e (Rm 1 0 0) s m args below meth c H locs 0 0 (MQ below (Qi D cs B0 α Lv o S) args s 0 0 (AB B0)) (F0 m 106 ls [.int v_38])) hf ?_ (fun J_39 hJ_39 hf => ?_)
            · intro v_38 H locs ls hf hd hl
              refine lv_istore (lv' := [(4, .int v_38), (0, .ref (α 32 g0)), (2, .ref (α 27 g2)), (3, .int x3), (5, .int x5), (6, .int x6), (7, .int x7), (8, .int x8), (9, .int x9)]) hc.x hc.b dX7_holds_106 hl (by decide) rfl (fun ls hl => ?_)
              refine lv_goto (tgt := 208) hc.x hc.b dX7_holds_108 (by decide) ?_
              exact hJ_12 x3 v_38 x5 x6 x7 x8 _ _ _ hf hd (lv_sub hl [1, 2, 3, 0, 4, 5, 6, 7, 8] rfl)
            refine lv_if_ne (tgt := 105) hc.x hc.b dX7_holds_98 (by decide) (fun c_40 => ?_) (fun c_40 => ?_)
            · have hf := br_n c_40 hf
              refine lv_iconst (v := 0) hc.x hc.b dX7_holds_105 (by decide) ?_
              exact hJ_39 0 _ _ _ hf hd (lv_sub hl [1, 2, 3, 5, 6, 7, 8, 9] rfl)
            · have hf := br_y c_40 hf
              refine lv_iconst (v := 1) hc.x hc.b dX7_holds_101 (by decide) ?_
              refine lv_goto (tgt := 106) hc.x hc.b dX7_holds_102 (by decide) ?_
              exact hJ_39 1 _ _ _ hf hd (lv_sub hl [1, 2, 3, 5, 6, 7, 8, 9] rfl)
        · have hf := br_n c_17 hf
          refine lv_iload hc.x hc.b dX7_holds_72 (lv_at hl 0 rfl) ?_
          refine lv_bipush (v := 43) hc.x hc.b dX7_holds_74 (by decide) ?_
          refine jn_s (P := fun J_42 => ∀ (v_41 : Int32) (H : Heap) (locs : List Loc) (ls : Array Slot), J_42 v_41 = some o → Dy s D cs B0 α Lv S H locs → lv_has ls 11 [(0, .ref (α 32 g0)), (2, .ref (α 27 g2)), (3, .int x3), (4, .int x4), (5, .int x5), (6, .int x6), (7, .int x7), (9, .int x9)] → W p l e (Rm 1 0 0) s m args below meth c H locs 0 0 (MQ below (Qi D cs B0 α Lv o S) args s 0 0 (AB B0)) (F0 m 84 ls [.int v_41])) hf ?_ (fun J_42 hJ_42 hf => ?_)
          · intro v_41 H locs ls hf hd hl
            refine lv_istore (lv' := [(8, .int v_41), (0, .ref (α 32 g0)), (2, .ref (α 27 g2)), (3, .int x3), (4, .int x4), (5, .int x5), (6, .int x6), (7, .int x7), (9, .int x9)]) hc.x hc.b dX7_holds_84 hl (by decide) rfl (fun ls hl => ?_)
            refine lv_goto (tgt := 208) hc.x hc.b dX7_holds_86 (by decide) ?_
            exact hJ_12 x3 x4 x5 x6 x7 v_41 _ _ _ hf hd (lv_sub hl [1, 2, 3, 4, 5, 6, 7, 0, 8] rfl)
          refine lv_icmp_ne (tgt := 83) hc.x hc.b dX7_holds_76 (by decide) (fun c_43 => ?_) (fun c_43 => ?_)
          · have hf := br_n c_43 hf
            refine lv_iconst (v := (-1)) hc.x hc.b dX7_holds_83 (by decide) ?_
            exact hJ_42 ((-1)) _ _ _ hf hd (lv_sub hl [1, 2, 3, 4, 5, 6, 7, 9] rfl)
          · have hf := br_y c_43 hf
            refine lv_iconst (v := 1) hc.x hc.b dX7_holds_79 (by decide) ?_
            refine lv_goto (tgt := 84) hc.x hc.b dX7_holds_80 (by decide) ?_
            exact hJ_42 1 _ _ _ hf hd (lv_sub hl [1, 2, 3, 4, 5, 6, 7, 9] rfl)
      · have hf := br_n c_14 hf
        refine lv_iload hc.x hc.b dX7_holds_47 (lv_at hl 7 rfl) ?_
        refine lv_iload hc.x hc.b dX7_holds_49 (lv_at hl 8 rfl) ?_
        refine lv_iload hc.x hc.b dX7_holds_51 (lv_at hl 0 rfl) ?_
        refine lv_aload_n hc.x hc.b dX7_holds_53 rfl (lv_at hl 2 rfl) ?_
        obtain ⟨r_45, hq_44, hf⟩ := on_s hf
        refine k_i (k_runS hc hd my_X7_valueOf tw_807 (c_X7_valueOf l D cs B0 kt α Lv S x10_3 g2 hc.cl hL2  hq_44) rfl rfl hl.1 (Nat.le_of_ble_eq_true rfl) ⟨Nat.le_of_ble_eq_true rfl, Nat.le_of_ble_eq_true rfl, Nat.zero_le _, Nat.zero_le _⟩ dX7_holds_54) hd (fun H locs hd => ?_)
        refine lv_imul hc.x hc.b dX7_holds_57 ?_
        refine lv_iadd hc.x hc.b dX7_holds_58 ?_
        refine lv_topi (fun x7_46 ex7_46 => ?_)
        have hf := bv_n ex7_46 hf
        refine lv_istore (lv' := [(7, .int x7_46), (10, .int x10_3), (0, .ref (α 32 g0)), (2, .ref (α 27 g2)), (3, .int x3), (4, .int x4), (5, .int x5), (6, .int x6), (8, .int x8), (9, .int x9)]) hc.x hc.b dX7_holds_59 hl (by decide) rfl (fun ls hl => ?_)
        refine lv_goto (tgt := 208) hc.x hc.b dX7_holds_61 (by decide) ?_
        exact hJ_12 x3 x4 x5 x6 x7_46 x8 _ _ _ hf hd (lv_sub hl [2, 3, 4, 5, 6, 7, 0, 8, 9] rfl)
set_option maxRecDepth 100000 in
set_option maxHeartbeats 4000000 in
theorem b_X7_holds (hc : Cx p s m args meth c cX7_holds 11 "PumpCrossing$Rules" D cs B0 kt Lv) (hr : meth.sig.returnType = some .boolean)  {o : Int32}  {S : St} {g0 : Nat} {x1 : Int32} {g2 : Nat} (hL0 : Lv 32 g0) (hL2 : Lv 27 g2) {H : Heap} {locs : List Loc} {ls : Array Slot} (hf : f_X7_holds g0 x1 g2 S = some o) (hd : Dy s D cs B0 α Lv S H locs) (hl : lv_has ls 11 [(0, .ref (α 32 g0)), (1, .int x1), (2, .ref (α 27 g2))]) : W p l e (Rm 1 0 0) s m args below meth c H locs 0 0 (MQ below (Qi D cs B0 α Lv o S) args s 0 0 (AB B0)) (F0 m 0 ls []) := by
  unfold f_X7_holds at hf
  refine lv_iconst (v := 1) hc.x hc.b dX7_holds_0 (by decide) ?_
  refine lv_istore_n (lv' := [(3, .int 1), (0, .ref (α 32 g0)), (1, .int x1), (2, .ref (α 27 g2))]) hc.x hc.b dX7_holds_1 rfl hl (by decide) rfl (fun ls hl => ?_)
  refine lv_iconst (v := 0) hc.x hc.b dX7_holds_2 (by decide) ?_
  refine lv_istore (lv' := [(4, .int 0), (3, .int 1), (0, .ref (α 32 g0)), (1, .int x1), (2, .ref (α 27 g2))]) hc.x hc.b dX7_holds_3 hl (by decide) rfl (fun ls hl => ?_)
  refine lv_iconst (v := 0) hc.x hc.b dX7_holds_5 (by decide) ?_
  refine lv_istore (lv' := [(5, .int 0), (4, .int 0), (3, .int 1), (0, .ref (α 32 g0)), (1, .int x1), (2, .ref (α 27 g2))]) hc.x hc.b dX7_holds_6 hl (by decide) rfl (fun ls hl => ?_)
  refine lv_iconst (v := 0) hc.x hc.b dX7_holds_8 (by decide) ?_
  refine lv_istore (lv' := [(6, .int 0), (5, .int 0), (4, .int 0), (3, .int 1), (0, .ref (α 32 g0)), (1, .int x1), (2, .ref (α 27 g2))]) hc.x hc.b dX7_holds_9 hl (by decide) rfl (fun ls hl => ?_)
  refine lv_iconst (v := 0) hc.x hc.b dX7_holds_11 (by decide) ?_
  refine lv_istore (lv' := [(7, .int 0), (6, .int 0), (5, .int 0), (4, .int 0), (3, .int 1), (0, .ref (α 32 g0)), (1, .int x1), (2, .ref (α 27 g2))]) hc.x hc.b dX7_holds_12 hl (by decide) rfl (fun ls hl => ?_)
  refine lv_iconst (v := 1) hc.x hc.b dX7_holds_14 (by decide) ?_
  refine lv_istore (lv' := [(8, .int 1), (7, .int 0), (6, .int 0), (5, .int 0), (4, .int 0), (3, .int 1), (0, .ref (α 32 g0)), (1, .int x1), (2, .ref (α 27 g2))]) hc.x hc.b dX7_holds_15 hl (by decide) rfl (fun ls hl => ?_)
  refine lv_iload_n hc.x hc.b dX7_holds_17 rfl (lv_at hl 7 rfl) ?_
  refine lv_istore (lv' := [(9, .int x1), (8, .int 1), (7, .int 0), (6, .int 0), (5, .int 0), (4, .int 0), (3, .int 1), (0, .ref (α 32 g0)), (1, .int x1), (2, .ref (α 27 g2))]) hc.x hc.b dX7_holds_18 hl (by decide) rfl (fun ls hl => ?_)
  refine w_X7_holds_20 hc hr hL0 hL2 ?_ _ _ _ _ _ _ _ _ _ _ _ hf hd (lv_sub hl [7, 9, 6, 5, 4, 3, 2, 1, 0] rfl)
  intro _u H locs ls hf hd hl
  refine lv_iconst (v := 0) hc.x hc.b dX7_holds_214 (by decide) ?_
  cases hf
  exact r_zret hc hd hr (Or.inl rfl) dX7_holds_215
theorem c_X7_holds (l : Launch) (D : va_G) (cs : Nat → ClassId) (B0 : Nat) (kt : (Nat → Nat) × (Nat → Nat)) (α : Nat → Nat → Nat) (Lv : Nat → Nat → Prop) (S : St) (g0 : Nat) (x1 : Int32) (g2 : Nat) (hcl : Cl Lv) (hL0 : Lv 32 g0) (hL2 : Lv 27 g2) {o : Int32} (hf : f_X7_holds g0 x1 g2 S = some o) : Met l yX7_holds (wz yX7_holds cX7_holds 11 (some .boolean)) (Rm 1 0 0) (Pz D cs B0 kt α Lv S [.ref (α 32 g0), .int x1, .ref (α 27 g2)]) (Qi D cs B0 α Lv o S) 0 0 (AB B0) := met_of (by decide) rfl hcl (Nat.le_of_ble_eq_true rfl) (fun p e s m below meth c hc hr hd ls hl => b_X7_holds hc hr hL0 hL2 hf hd hl)
theorem my_X7_holds : MyV yX7_holds "PumpCrossing$Rules" cX7_holds 11 (some .boolean) 2 := ⟨tw_804, (in_sel 15 (by decide +kernel) (by decide +kernel)), tw_23, tw_805, by decide +kernel⟩
def f_X7_priceBy (x0 : Int32) (x1 : Int32) (g2 : Nat) (S : St) : Option (Int32) := br (x0 = 100) (ck (inb 0 9 = true) (some ((gi S 27 g2 (nn 0)) + x1))) (br (x0 = 101) (ck (inb 0 9 = true) (some ((gi S 27 g2 (nn 0)) - x1))) (br (x0 = 102) (some x1) (br (x0 = 103) (ck (inb 1 9 = true) (some ((gi S 27 g2 (nn 1)) - x1))) (br (x0 = 104) (ck (inb 1 9 = true) (some (gi S 27 g2 (nn 1)))) (ck (inb 0 9 = true) (some (gi S 27 g2 (nn 0))))))))
set_option maxRecDepth 100000 in
set_option maxHeartbeats 4000000 in
theorem b_X7_priceBy (hc : Cx p s m args meth c cX7_priceBy 3 "PumpCrossing$Rules" D cs B0 kt Lv) (hr : meth.sig.returnType = some .int)  {o : Int32}  {S : St} {x0 : Int32} {x1 : Int32} {g2 : Nat} (hL2 : Lv 27 g2) {H : Heap} {locs : List Loc} {ls : Array Slot} (hf : f_X7_priceBy x0 x1 g2 S = some o) (hd : Dy s D cs B0 α Lv S H locs) (hl : lv_has ls 3 [(0, .int x0), (1, .int x1), (2, .ref (α 27 g2))]) : W p l e (Rm 0 0 0) s m args below meth c H locs 0 0 (MQ below (Qi D cs B0 α Lv o S) args s 0 0 (AB B0)) (F0 m 0 ls []) := by
  unfold f_X7_priceBy at hf
  refine lv_iload_n hc.x hc.b dX7_priceBy_0 rfl (lv_at hl 0 rfl) ?_
  by_cases c_1_0 : x0 = 100
  · have hf := br_y c_1_0 hf
    refine lv_tableIn (off := 35) (tgt := 36) hc.x hc.b dX7_priceBy_1 (by rw [c_1_0]; decide) (by rw [c_1_0]; decide) (by rw [c_1_0]; decide) (by decide) ?_
    refine lv_aload_n hc.x hc.b dX7_priceBy_36 rfl (lv_at hl 2 rfl) ?_
    refine lv_iconst (v := 0) hc.x hc.b dX7_priceBy_37 (by decide) ?_
    obtain ⟨hi_2, hf⟩ := ck_s hf
    refine r_iald hc hd hL2 rfl hi_2 dX7_priceBy_38 ?_
    refine lv_iload_n hc.x hc.b dX7_priceBy_39 rfl (lv_at hl 1 rfl) ?_
    refine lv_iadd hc.x hc.b dX7_priceBy_40 ?_
    cases hf
    exact r_iret hc hd hr dX7_priceBy_41
  · have hf := br_n c_1_0 hf
    by_cases c_1_1 : x0 = 101
    · have hf := br_y c_1_1 hf
      refine lv_tableIn (off := 41) (tgt := 42) hc.x hc.b dX7_priceBy_1 (by rw [c_1_1]; decide) (by rw [c_1_1]; decide) (by rw [c_1_1]; decide) (by decide) ?_
      refine lv_aload_n hc.x hc.b dX7_priceBy_42 rfl (lv_at hl 2 rfl) ?_
      refine lv_iconst (v := 0) hc.x hc.b dX7_priceBy_43 (by decide) ?_
      obtain ⟨hi_3, hf⟩ := ck_s hf
      refine r_iald hc hd hL2 rfl hi_3 dX7_priceBy_44 ?_
      refine lv_iload_n hc.x hc.b dX7_priceBy_45 rfl (lv_at hl 1 rfl) ?_
      refine lv_isub hc.x hc.b dX7_priceBy_46 ?_
      cases hf
      exact r_iret hc hd hr dX7_priceBy_47
    · have hf := br_n c_1_1 hf
      by_cases c_1_2 : x0 = 102
      · have hf := br_y c_1_2 hf
        refine lv_tableIn (off := 47) (tgt := 48) hc.x hc.b dX7_priceBy_1 (by rw [c_1_2]; decide) (by rw [c_1_2]; decide) (by rw [c_1_2]; decide) (by decide) ?_
        refine lv_iload_n hc.x hc.b dX7_priceBy_48 rfl (lv_at hl 1 rfl) ?_
        cases hf
        exact r_iret hc hd hr dX7_priceBy_49
      · have hf := br_n c_1_2 hf
        by_cases c_1_3 : x0 = 103
        · have hf := br_y c_1_3 hf
          refine lv_tableIn (off := 49) (tgt := 50) hc.x hc.b dX7_priceBy_1 (by rw [c_1_3]; decide) (by rw [c_1_3]; decide) (by rw [c_1_3]; decide) (by decide) ?_
          refine lv_aload_n hc.x hc.b dX7_priceBy_50 rfl (lv_at hl 2 rfl) ?_
          refine lv_iconst (v := 1) hc.x hc.b dX7_priceBy_51 (by decide) ?_
          obtain ⟨hi_4, hf⟩ := ck_s hf
          refine r_iald hc hd hL2 rfl hi_4 dX7_priceBy_52 ?_
          refine lv_iload_n hc.x hc.b dX7_priceBy_53 rfl (lv_at hl 1 rfl) ?_
          refine lv_isub hc.x hc.b dX7_priceBy_54 ?_
          cases hf
          exact r_iret hc hd hr dX7_priceBy_55
        · have hf := br_n c_1_3 hf
          by_cases c_1_4 : x0 = 104
          · have hf := br_y c_1_4 hf
            refine lv_tableIn (off := 55) (tgt := 56) hc.x hc.b dX7_priceBy_1 (by rw [c_1_4]; decide) (by rw [c_1_4]; decide) (by rw [c_1_4]; decide) (by decide) ?_
            refine lv_aload_n hc.x hc.b dX7_priceBy_56 rfl (lv_at hl 2 rfl) ?_
            refine lv_iconst (v := 1) hc.x hc.b dX7_priceBy_57 (by decide) ?_
            obtain ⟨hi_5, hf⟩ := ck_s hf
            refine r_iald hc hd hL2 rfl hi_5 dX7_priceBy_58 ?_
            cases hf
            exact r_iret hc hd hr dX7_priceBy_59
          · have hf := br_n c_1_4 hf
            refine lv_tableOut (tgt := 60) hc.x hc.b dX7_priceBy_1 (sw_out (fun z h1 h2 => by
              rcases (show z = 100 ∨ z = 101 ∨ z = 102 ∨ z = 103 ∨ z = 104 by omega) with rfl | rfl | rfl | rfl | rfl
              · exact c_1_0
              · exact c_1_1
              · exact c_1_2
              · exact c_1_3
              · exact c_1_4)) (by decide) ?_
            refine lv_aload_n hc.x hc.b dX7_priceBy_60 rfl (lv_at hl 2 rfl) ?_
            refine lv_iconst (v := 0) hc.x hc.b dX7_priceBy_61 (by decide) ?_
            obtain ⟨hi_6, hf⟩ := ck_s hf
            refine r_iald hc hd hL2 rfl hi_6 dX7_priceBy_62 ?_
            cases hf
            exact r_iret hc hd hr dX7_priceBy_63
theorem c_X7_priceBy (l : Launch) (D : va_G) (cs : Nat → ClassId) (B0 : Nat) (kt : (Nat → Nat) × (Nat → Nat)) (α : Nat → Nat → Nat) (Lv : Nat → Nat → Prop) (S : St) (x0 : Int32) (x1 : Int32) (g2 : Nat) (hcl : Cl Lv) (hL2 : Lv 27 g2) {o : Int32} (hf : f_X7_priceBy x0 x1 g2 S = some o) : Met l yX7_priceBy (wz yX7_priceBy cX7_priceBy 3 (some .int)) (Rm 0 0 0) (Pz D cs B0 kt α Lv S [.int x0, .int x1, .ref (α 27 g2)]) (Qi D cs B0 α Lv o S) 0 0 (AB B0) := met_of (by decide) rfl hcl (Nat.le_of_ble_eq_true rfl) (fun p e s m below meth c hc hr hd ls hl => b_X7_priceBy hc hr hL2 hf hd hl)
theorem my_X7_priceBy : MyS yX7_priceBy cX7_priceBy 3 (some .int) 3 := ⟨tw_816, tw_23, tw_817, by decide +kernel⟩
def f_X7_token (g0 : Nat) (x1 : Int32) (S : St) : Option (Int32) := bv (fun (v_1 : Int32) => some v_1) (fun J_2 => bv (fun (_u : Unit) => J_2 0) (fun J_3 => br (x1 < 0) (J_3 ()) (br ((Int32.ofNat (gn S 33 g0)) ≤ x1) (J_3 ()) (ck (inb x1 (gn S 33 g0) = true) (J_2 (gi S 33 g0 (nn x1)))))))
set_option maxRecDepth 100000 in
set_option maxHeartbeats 4000000 in
theorem b_X7_token (hc : Cx p s m args meth c cX7_token 2 "PumpCrossing$Rules" D cs B0 kt Lv) (hr : meth.sig.returnType = some .int)  {o : Int32}  {S : St} {g0 : Nat} {x1 : Int32} (hL0 : Lv 32 g0) {H : Heap} {locs : List Loc} {ls : Array Slot} (hf : f_X7_token g0 x1 S = some o) (hd : Dy s D cs B0 α Lv S H locs) (hl : lv_has ls 2 [(0, .ref (α 32 g0)), (1, .int x1)]) : W p l e (Rm 0 0 0) s m args below meth c H locs 0 0 (MQ below (Qi D cs B0 α Lv o S) args s 0 0 (AB B0)) (F0 m 0 ls []) := by
  unfold f_X7_token at hf
  refine lv_iload_n hc.x hc.b dX7_token_0 rfl (lv_at hl 1 rfl) ?_
  refine jn_s (P := fun J_2 => ∀ (v_1 : Int32) (H : Heap) (locs : List Loc) (ls : Array Slot), J_2 v_1 = some o → Dy s D cs B0 α Lv S H locs → lv_has ls 2 [] → W p l e (Rm 0 0 0) s m args below meth c H locs 0 0 (MQ below (Qi D cs B0 α Lv o S) args s 0 0 (AB B0)) (F0 m 23 ls [.int v_1])) hf ?_ (fun J_2 hJ_2 hf => ?_)
  · intro v_1 H locs ls hf hd hl
    cases hf
    exact r_iret hc hd hr dX7_token_23
  refine jn_s (P := fun J_3 => ∀ (_u : Unit) (H : Heap) (locs : List Loc) (ls : Array Slot), J_3 _u = some o → Dy s D cs B0 α Lv S H locs → lv_has ls 2 [] → W p l e (Rm 0 0 0) s m args below meth c H locs 0 0 (MQ below (Qi D cs B0 α Lv o S) args s 0 0 (AB B0)) (F0 m 22 ls [])) hf ?_ (fun J_3 hJ_3 hf => ?_)
  · intro _u H locs ls hf hd hl
    refine lv_iconst (v := 0) hc.x hc.b dX7_token_22 (by decide) ?_
    exact hJ_2 0 _ _ _ hf hd (lv_sub hl [] rfl)
  refine lv_if_lt (tgt := 22) hc.x hc.b dX7_token_1 (by decide) (fun c_4 => ?_) (fun c_4 => ?_)
  · have hf := br_y c_4 hf
    exact hJ_3 ()  _ _ _ hf hd (lv_sub hl [] rfl)
  · have hf := br_n c_4 hf
    refine lv_iload_n hc.x hc.b dX7_token_4 rfl (lv_at hl 1 rfl) ?_
    refine lv_aload_n hc.x hc.b dX7_token_5 rfl (lv_at hl 0 rfl) ?_
    refine fg_32_0 hc hd hL0 tw_720 dX7_token_6 ?_
    refine r_alen hc hd (cl_32_tokens hc.cl hL0) (t0 := 0) rfl rfl dX7_token_9 ?_
    refine lv_icmp_ge (tgt := 22) hc.x hc.b dX7_token_10 (by decide) (fun c_5 => ?_) (fun c_5 => ?_)
    · have hf := br_y c_5 hf
      exact hJ_3 ()  _ _ _ hf hd (lv_sub hl [] rfl)
    · have hf := br_n c_5 hf
      refine lv_aload_n hc.x hc.b dX7_token_13 rfl (lv_at hl 0 rfl) ?_
      refine fg_32_0 hc hd hL0 tw_720 dX7_token_14 ?_
      refine lv_iload_n hc.x hc.b dX7_token_17 rfl (lv_at hl 1 rfl) ?_
      obtain ⟨hi_6, hf⟩ := ck_s hf
      refine r_iald hc hd (cl_32_tokens hc.cl hL0) rfl hi_6 dX7_token_18 ?_
      refine lv_goto (tgt := 23) hc.x hc.b dX7_token_19 (by decide) ?_
      exact hJ_2 (gi S 33 g0 (nn x1)) _ _ _ hf hd (lv_sub hl [] rfl)
theorem c_X7_token (l : Launch) (D : va_G) (cs : Nat → ClassId) (B0 : Nat) (kt : (Nat → Nat) × (Nat → Nat)) (α : Nat → Nat → Nat) (Lv : Nat → Nat → Prop) (S : St) (g0 : Nat) (x1 : Int32) (hcl : Cl Lv) (hL0 : Lv 32 g0) {o : Int32} (hf : f_X7_token g0 x1 S = some o) : Met l yX7_token (wz yX7_token cX7_token 2 (some .int)) (Rm 0 0 0) (Pz D cs B0 kt α Lv S [.ref (α 32 g0), .int x1]) (Qi D cs B0 α Lv o S) 0 0 (AB B0) := met_of (by decide) rfl hcl (Nat.le_of_ble_eq_true rfl) (fun p e s m below meth c hc hr hd ls hl => b_X7_token hc hr hL0 hf hd hl)
theorem my_X7_token : MyV yX7_token "PumpCrossing$Rules" cX7_token 2 (some .int) 1 := ⟨tw_799, (in_sel 14 (by decide +kernel) (by decide +kernel)), tw_23, tw_800, by decide +kernel⟩
def f_X7_wanted_2 (g0 : Nat) (g1 : Nat) (S : St) (K : Unit → Option (Int32)) : Nat → Int32 → Option (Int32)
  | 0, _ => none
  | n + 1, x2 => br ((Int32.ofNat (gn S 34 g0)) ≤ x2) (K ()) (ck (inb x2 (gn S 34 g0) = true) (on (f_X7_token g0 (gi S 34 g0 (nn x2)) S) (fun r_4 => ck (inb x2 (gn S 34 g0) = true) (on (f_X9_takesAmount r_4 S) (fun r_7 => bv (fun (v_8 : Int32) => bv ((gi S 34 g0 (nn x2)) + v_8) (fun x4_10 => on (f_X7_token g0 x4_10 S) (fun r_12 => bv (fun (_u : Unit) => ck (inb x2 (gn S 34 g0) = true) (on (f_X7_token g0 ((gi S 34 g0 (nn x2)) + 1) S) (fun r_16 => on (f_X7_priceBy r_4 (r_16 - 200) g1 S) (fun r_18 => some r_18)))) (fun J_13 => br (r_12 = 106) (on (f_X7_holds g0 (x4_10 + 1) g1 S) (fun r_21 => br (r_21 = 0) (bv (x2 + 1) (fun x2_23 => f_X7_wanted_2 g0 g1 S K n x2_23)) (J_13 ()))) (J_13 ()))))) (fun J_9 => br (r_7 = 0) (J_9 1) (J_9 2)))))))
def f_X7_wanted (g0 : Nat) (g1 : Nat) (S : St) : Option (Int32) := f_X7_wanted_2 g0 g1 S (fun (_u : Unit) => ck (inb 0 9 = true) (some (gi S 27 g1 (nn 0)))) FU 0
set_option maxRecDepth 100000 in
set_option maxHeartbeats 4000000 in
theorem w_X7_wanted_2 (hc : Cx p s m args meth c cX7_wanted 5 "PumpCrossing$Rules" D cs B0 kt Lv) (hr : meth.sig.returnType = some .int) {o : Int32}  {g0 : Nat} {g1 : Nat} {S : St} {K : Unit → Option (Int32)} (hL0 : Lv 32 g0) (hL1 : Lv 27 g1) (hK : ∀ (_u : Unit) (H : Heap) (locs : List Loc) (ls : Array Slot), K _u = some o → Dy s D cs B0 α Lv S H locs → lv_has ls 5 [(1, .ref (α 27 g1))] → W p l e (Rm 2 0 0) s m args below meth c H locs 0 0 (MQ below (Qi D cs B0 α Lv o S) args s 0 0 (AB B0)) (F0 m 94 ls [])) : ∀ (n : Nat) (x2 : Int32) (H : Heap) (locs : List Loc) (ls : Array Slot), f_X7_wanted_2 g0 g1 S K n x2 = some o → Dy s D cs B0 α Lv S H locs → lv_has ls 5 [(0, .ref (α 32 g0)), (1, .ref (α 27 g1)), (2, .int x2)] → W p l e (Rm 2 0 0) s m args below meth c H locs 0 0 (MQ below (Qi D cs B0 α Lv o S) args s 0 0 (AB B0)) (F0 m 2 ls []) := by
  intro n
  induction n with
  | zero =>
    intro x2 H locs ls hf
    rw [f_X7_wanted_2] at hf
    cases hf
  | succ n ih =>
    intro x2 H locs ls hf hd hl
    rw [f_X7_wanted_2] at hf
    refine lv_iload_n hc.x hc.b dX7_wanted_2 rfl (lv_at hl 2 rfl) ?_
    refine lv_aload_n hc.x hc.b dX7_wanted_3 rfl (lv_at hl 0 rfl) ?_
    refine fg_32_1 hc hd hL0 tw_721 dX7_wanted_4 ?_
    refine r_alen hc hd (cl_32_starts hc.cl hL0) (t0 := 0) rfl rfl dX7_wanted_7 ?_
    refine lv_icmp_ge (tgt := 94) hc.x hc.b dX7_wanted_8 (by decide) (fun c_1 => ?_) (fun c_1 => ?_)
    · have hf := br_y c_1 hf
      exact hK ()  _ _ _ hf hd (lv_sub hl [1] rfl)
    · have hf := br_n c_1 hf
      refine lv_aload_n hc.x hc.b dX7_wanted_11 rfl (lv_at hl 0 rfl) ?_
      refine lv_aload_n hc.x hc.b dX7_wanted_12 rfl (lv_at hl 0 rfl) ?_
      refine fg_32_1 hc hd hL0 tw_721 dX7_wanted_13 ?_
      refine lv_iload_n hc.x hc.b dX7_wanted_16 rfl (lv_at hl 2 rfl) ?_
      obtain ⟨hi_2, hf⟩ := ck_s hf
      refine r_iald hc hd (cl_32_starts hc.cl hL0) rfl hi_2 dX7_wanted_17 ?_
      obtain ⟨r_4, hq_3, hf⟩ := on_s hf
      refine k_i (k_runV hc hd my_X7_token tw_797 hL0 rfl rfl rfl (c_X7_token l D cs B0 kt α Lv S g0 (gi S 34 g0 (nn x2)) hc.cl hL0  hq_3) rfl rfl hl.1 (Nat.le_of_ble_eq_true rfl) ⟨Nat.le_of_ble_eq_true rfl, Nat.le_of_ble_eq_true rfl, Nat.zero_le _, Nat.zero_le _⟩ dX7_wanted_18) hd (fun H locs hd => ?_)
      refine lv_istore_n (lv' := [(3, .int r_4), (0, .ref (α 32 g0)), (1, .ref (α 27 g1)), (2, .int x2)]) hc.x hc.b dX7_wanted_21 rfl hl (by decide) rfl (fun ls hl => ?_)
      refine lv_aload_n hc.x hc.b dX7_wanted_22 rfl (lv_at hl 1 rfl) ?_
      refine fg_32_1 hc hd hL0 tw_721 dX7_wanted_23 ?_
      refine lv_iload_n hc.x hc.b dX7_wanted_26 rfl (lv_at hl 3 rfl) ?_
      obtain ⟨hi_5, hf⟩ := ck_s hf
      refine r_iald hc hd (cl_32_starts hc.cl hL0) rfl hi_5 dX7_wanted_27 ?_
      refine lv_iload_n hc.x hc.b dX7_wanted_28 rfl (lv_at hl 0 rfl) ?_
      obtain ⟨r_7, hq_6, hf⟩ := on_s hf
      refine k_i (k_runS hc hd my_X9_takesAmount tw_801 (c_X9_takesAmount l D cs B0 kt α Lv S r_4 hc.cl   hq_6) rfl rfl hl.1 (Nat.le_of_ble_eq_true rfl) ⟨Nat.le_of_ble_eq_true rfl, Nat.le_of_ble_eq_true rfl, Nat.zero_le _, Nat.zero_le _⟩ dX7_wanted_29) hd (fun H locs hd => ?_)
      refine jn_s (P := fun J_9 => ∀ (v_8 : Int32) (H : Heap) (locs : List Loc) (ls : Array Slot), J_9 v_8 = some o → Dy s D cs B0 α Lv S H locs → lv_has ls 5 [(0, .ref (α 32 g0)), (1, .ref (α 27 g1)), (2, .int x2), (3, .int r_4)] → W p l e (Rm 2 0 0) s m args below meth c H locs 0 0 (MQ below (Qi D cs B0 α Lv o S) args s 0 0 (AB B0)) (F0 m 40 ls [.int v_8, .int (gi S 34 g0 (nn x2))])) hf ?_ (fun J_9 hJ_9 hf => ?_)
      · intro v_8 H locs ls hf hd hl
        refine lv_iadd hc.x hc.b dX7_wanted_40 ?_
        refine lv_topi (fun x4_10 ex4_10 => ?_)
        have hf := bv_n ex4_10 hf
        refine lv_istore (lv' := [(4, .int x4_10), (0, .ref (α 32 g0)), (1, .ref (α 27 g1)), (2, .int x2), (3, .int r_4)]) hc.x hc.b dX7_wanted_41 hl (by decide) rfl (fun ls hl => ?_)
        refine lv_aload_n hc.x hc.b dX7_wanted_43 rfl (lv_at hl 1 rfl) ?_
        refine lv_iload hc.x hc.b dX7_wanted_44 (lv_at hl 0 rfl) ?_
        obtain ⟨r_12, hq_11, hf⟩ := on_s hf
        refine k_i (k_runV hc hd my_X7_token tw_797 hL0 rfl rfl rfl (c_X7_token l D cs B0 kt α Lv S g0 x4_10 hc.cl hL0  hq_11) rfl rfl hl.1 (Nat.le_of_ble_eq_true rfl) ⟨Nat.le_of_ble_eq_true rfl, Nat.le_of_ble_eq_true rfl, Nat.zero_le _, Nat.zero_le _⟩ dX7_wanted_46) hd (fun H locs hd => ?_)
        refine lv_bipush (v := 106) hc.x hc.b dX7_wanted_49 (by decide) ?_
        refine jn_s (P := fun J_13 => ∀ (_u : Unit) (H : Heap) (locs : List Loc) (ls : Array Slot), J_13 _u = some o → Dy s D cs B0 α Lv S H locs → lv_has ls 5 [(0, .ref (α 32 g0)), (1, .ref (α 27 g1)), (2, .int x2), (3, .int r_4)] → W p l e (Rm 2 0 0) s m args below meth c H locs 0 0 (MQ below (Qi D cs B0 α Lv o S) args s 0 0 (AB B0)) (F0 m 66 ls [])) hf ?_ (fun J_13 hJ_13 hf => ?_)
        · intro _u H locs ls hf hd hl
          refine lv_iload_n hc.x hc.b dX7_wanted_66 rfl (lv_at hl 3 rfl) ?_
          refine lv_aload_n hc.x hc.b dX7_wanted_67 rfl (lv_at hl 0 rfl) ?_
          refine lv_aload_n hc.x hc.b dX7_wanted_68 rfl (lv_at hl 0 rfl) ?_
          refine fg_32_1 hc hd hL0 tw_721 dX7_wanted_69 ?_
          refine lv_iload_n hc.x hc.b dX7_wanted_72 rfl (lv_at hl 2 rfl) ?_
          obtain ⟨hi_14, hf⟩ := ck_s hf
          refine r_iald hc hd (cl_32_starts hc.cl hL0) rfl hi_14 dX7_wanted_73 ?_
          refine lv_iconst (v := 1) hc.x hc.b dX7_wanted_74 (by decide) ?_
          refine lv_iadd hc.x hc.b dX7_wanted_75 ?_
          obtain ⟨r_16, hq_15, hf⟩ := on_s hf
          refine k_i (k_runV hc hd my_X7_token tw_797 hL0 rfl rfl rfl (c_X7_token l D cs B0 kt α Lv S g0 ((gi S 34 g0 (nn x2)) + 1) hc.cl hL0  hq_15) rfl rfl hl.1 (Nat.le_of_ble_eq_true rfl) ⟨Nat.le_of_ble_eq_true rfl, Nat.le_of_ble_eq_true rfl, Nat.zero_le _, Nat.zero_le _⟩ dX7_wanted_76) hd (fun H locs hd => ?_)
          refine lv_sipush (v := 200) hc.x hc.b dX7_wanted_79 (by decide) ?_
          refine lv_isub hc.x hc.b dX7_wanted_82 ?_
          refine lv_aload_n hc.x hc.b dX7_wanted_83 rfl (lv_at hl 1 rfl) ?_
          obtain ⟨r_18, hq_17, hf⟩ := on_s hf
          refine k_i (k_runS hc hd my_X7_priceBy tw_815 (c_X7_priceBy l D cs B0 kt α Lv S r_4 (r_16 - 200) g1 hc.cl hL1  hq_17) rfl rfl hl.1 (Nat.le_of_ble_eq_true rfl) ⟨Nat.le_of_ble_eq_true rfl, Nat.le_of_ble_eq_true rfl, Nat.zero_le _, Nat.zero_le _⟩ dX7_wanted_84) hd (fun H locs hd => ?_)
          cases hf
          exact r_iret hc hd hr dX7_wanted_87
        refine lv_icmp_ne (tgt := 66) hc.x hc.b dX7_wanted_51 (by decide) (fun c_19 => ?_) (fun c_19 => ?_)
        · have hf := br_n c_19 hf
          exact hJ_13 ()  _ _ _ hf hd (lv_sub hl [1, 2, 3, 4] rfl)
        · have hf := br_y c_19 hf
          refine lv_aload_n hc.x hc.b dX7_wanted_54 rfl (lv_at hl 1 rfl) ?_
          refine lv_iload hc.x hc.b dX7_wanted_55 (lv_at hl 0 rfl) ?_
          refine lv_iconst (v := 1) hc.x hc.b dX7_wanted_57 (by decide) ?_
          refine lv_iadd hc.x hc.b dX7_wanted_58 ?_
          refine lv_aload_n hc.x hc.b dX7_wanted_59 rfl (lv_at hl 2 rfl) ?_
          obtain ⟨r_21, hq_20, hf⟩ := on_s hf
          refine k_i (k_runV hc hd my_X7_holds tw_802 hL0 rfl rfl rfl (c_X7_holds l D cs B0 kt α Lv S g0 (x4_10 + 1) g1 hc.cl hL0 hL1  hq_20) rfl rfl hl.1 (Nat.le_of_ble_eq_true rfl) ⟨Nat.le_of_ble_eq_true rfl, Nat.le_of_ble_eq_true rfl, Nat.zero_le _, Nat.zero_le _⟩ dX7_wanted_60) hd (fun H locs hd => ?_)
          refine lv_if_eq (tgt := 88) hc.x hc.b dX7_wanted_63 (by decide) (fun c_22 => ?_) (fun c_22 => ?_)
          · have hf := br_y c_22 hf
            obtain ⟨x2_23, ex2_23⟩ : ∃ z : Int32, z = x2 + 1 := ⟨_, rfl⟩
            have hf := bv_n ex2_23 hf
            refine lv_iinc (v := x2_23) (lv' := [(2, .int x2_23), (4, .int x4_10), (0, .ref (α 32 g0)), (1, .ref (α 27 g1)), (3, .int r_4)]) hc.x hc.b dX7_wanted_88 hl (k := 3) rfl (by rw [ex2_23]; rfl) (by decide) rfl (fun ls hl => ?_)
            refine lv_goto (tgt := 2) hc.x hc.b dX7_wanted_91 (by decide) ?_
            exact ih x2_23 _ _ _ hf hd (lv_sub hl [2, 3, 0] rfl)
          · have hf := br_n c_22 hf
            exact hJ_13 ()  _ _ _ hf hd (lv_sub hl [1, 2, 3, 4] rfl)
      refine lv_if_eq (tgt := 39) hc.x hc.b dX7_wanted_32 (by decide) (fun c_24 => ?_) (fun c_24 => ?_)
      · have hf := br_y c_24 hf
        refine lv_iconst (v := 1) hc.x hc.b dX7_wanted_39 (by decide) ?_
        exact hJ_9 1 _ _ _ hf hd (lv_sub hl [1, 2, 3, 0] rfl)
      · have hf := br_n c_24 hf
        refine lv_iconst (v := 2) hc.x hc.b dX7_wanted_35 (by decide) ?_
        refine lv_goto (tgt := 40) hc.x hc.b dX7_wanted_36 (by decide) ?_
        exact hJ_9 2 _ _ _ hf hd (lv_sub hl [1, 2, 3, 0] rfl)
set_option maxRecDepth 100000 in
set_option maxHeartbeats 4000000 in
theorem b_X7_wanted (hc : Cx p s m args meth c cX7_wanted 5 "PumpCrossing$Rules" D cs B0 kt Lv) (hr : meth.sig.returnType = some .int)  {o : Int32}  {S : St} {g0 : Nat} {g1 : Nat} (hL0 : Lv 32 g0) (hL1 : Lv 27 g1) {H : Heap} {locs : List Loc} {ls : Array Slot} (hf : f_X7_wanted g0 g1 S = some o) (hd : Dy s D cs B0 α Lv S H locs) (hl : lv_has ls 5 [(0, .ref (α 32 g0)), (1, .ref (α 27 g1))]) : W p l e (Rm 2 0 0) s m args below meth c H locs 0 0 (MQ below (Qi D cs B0 α Lv o S) args s 0 0 (AB B0)) (F0 m 0 ls []) := by
  unfold f_X7_wanted at hf
  refine lv_iconst (v := 0) hc.x hc.b dX7_wanted_0 (by decide) ?_
  refine lv_istore_n (lv' := [(2, .int 0), (0, .ref (α 32 g0)), (1, .ref (α 27 g1))]) hc.x hc.b dX7_wanted_1 rfl hl (by decide) rfl (fun ls hl => ?_)
  refine w_X7_wanted_2 hc hr hL0 hL1 ?_ _ _ _ _ _ hf hd (lv_sub hl [1, 2, 0] rfl)
  intro _u H locs ls hf hd hl
  refine lv_aload_n hc.x hc.b dX7_wanted_94 rfl (lv_at hl 0 rfl) ?_
  refine lv_iconst (v := 0) hc.x hc.b dX7_wanted_95 (by decide) ?_
  obtain ⟨hi_25, hf⟩ := ck_s hf
  refine r_iald hc hd hL1 rfl hi_25 dX7_wanted_96 ?_
  cases hf
  exact r_iret hc hd hr dX7_wanted_97
theorem c_X7_wanted (l : Launch) (D : va_G) (cs : Nat → ClassId) (B0 : Nat) (kt : (Nat → Nat) × (Nat → Nat)) (α : Nat → Nat → Nat) (Lv : Nat → Nat → Prop) (S : St) (g0 : Nat) (g1 : Nat) (hcl : Cl Lv) (hL0 : Lv 32 g0) (hL1 : Lv 27 g1) {o : Int32} (hf : f_X7_wanted g0 g1 S = some o) : Met l yX7_wanted (wz yX7_wanted cX7_wanted 5 (some .int)) (Rm 2 0 0) (Pz D cs B0 kt α Lv S [.ref (α 32 g0), .ref (α 27 g1)]) (Qi D cs B0 α Lv o S) 0 0 (AB B0) := met_of (by decide) rfl hcl (Nat.le_of_ble_eq_true rfl) (fun p e s m below meth c hc hr hd ls hl => b_X7_wanted hc hr hL0 hL1 hf hd hl)
theorem my_X7_wanted : MyV yX7_wanted "PumpCrossing$Rules" cX7_wanted 5 (some .int) 1 := ⟨tw_794, tw_795, tw_23, tw_796, by decide +kernel⟩
end
