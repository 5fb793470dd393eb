section
variable {p : Program} {l : Launch} {e : Env} {R : Room} {s : State} {m : MethodId} {args : Array Value} {below : List Frame} {meth : Method} {c : Code} {cells slots : Nat} {Q : State → Prop} {D : va_G} {cs : Nat → ClassId} {B0 : Nat} {kt : (Nat → Nat) × (Nat → Nat)} {α : Nat → Nat → Nat} {Lv : Nat → Nat → Prop}
abbrev F_X5_init (g0 : Nat) : List (Nat × Nat) := (35, g0) :: []
def f_X5_init_20 (g0 : Nat) (g1 : Nat) (K : Int32 → Int32 → Int32 → Int32 → Int32 → St → Option (St)) : Nat → Int32 → Int32 → Int32 → Int32 → Int32 → Int32 → St → Option (St)
  | 0, _, _, _, _, _, _, _ => none
  | n + 1, x2, x3, x4, x5, x6, x7, S => br ((gi S 28 g1 3) ≤ x7) (K x2 x3 x4 x5 x6 S) (bv (fun (v_3 : Int32) (S_4 : St) => ck (inb x7 400 = true) (bv (gi S_4 30 g1 (nn x7)) (fun q_7 => bv (fun (x2_8 : Int32) (x3_9 : Int32) (x4_10 : Int32) (x5_11 : Int32) (x6_12 : Int32) (S_13 : St) => bv (x7 + 1) (fun x7_15 => f_X5_init_20 g0 g1 K n x2_8 x3_9 x4_10 x5_11 x6_12 x7_15 S_13)) (fun J_14 => br (q_7 = 113) (J_14 x2 x3 x4 1 x6 S_4) (br (q_7 = 114) (J_14 x2 x3 x4 x5 x6 S_4) (br (q_7 = 115) (J_14 x2 x3 x4 x5 x6 S_4) (br (q_7 = 116) (J_14 x2 x3 x4 x5 x6 S_4) (br (q_7 = 117) (J_14 x2 x3 x4 x5 x6 S_4) (br (q_7 = 118) (J_14 x2 x3 x4 x5 x6 S_4) (br (q_7 = 119) (J_14 v_3 x3 x4 x5 x6 S_4) (br (q_7 = 120) (bv (x4 ||| ((1 : Int32) <<< (v_3 &&& 31))) (fun x4_17 => J_14 x2 x3 x4_17 x5 x6 S_4)) (br (q_7 = 121) (J_14 x2 v_3 x4 x5 x6 S_4) (br (q_7 = 122) (J_14 x2 x3 x4 x5 1 S_4) (J_14 x2 x3 x4 x5 x6 S_4)))))))))))))) (fun J_5 => br ((gi S 28 g1 3) ≤ (x7 + 1)) (J_5 0 S) (ck (inb (x7 + 1) 400 = true) (J_5 ((gi S 30 g1 (nn (x7 + 1))) - 200) S))))
def f_X5_init (g0 : Nat) (g1 : Nat) (S : St) : Option (St) := bv (cp S 135 35 g0) (fun S_1 => f_X5_init_20 g0 g1 (fun (x2_20 : Int32) (x3_21 : Int32) (x4_22 : Int32) (x5_23 : Int32) (x6_24 : Int32) (S_25 : St) => bv (si S_25 35 g0 0 x2_20) (fun S_26 => bv (si S_26 35 g0 2 x3_21) (fun S_27 => bv (si S_27 35 g0 1 x4_22) (fun S_28 => ck (x5_23 = 0 ∨ x5_23 = 1) (bv (si S_28 35 g0 3 x5_23) (fun S_30 => ck (x6_24 = 0 ∨ x6_24 = 1) (bv (si S_30 35 g0 4 x6_24) (fun S_32 => some S_32)))))))) FU 0 ((-1)) 0 0 0 0 S_1)
set_option maxRecDepth 100000 in
set_option maxHeartbeats 4000000 in
theorem w_X5_init_20 (hc : Cx p s m args meth c cX5_init 9 "PumpCrossing$Law" D cs B0 kt Lv) (hr : meth.sig.returnType = none) {o : St}  {g0 : Nat} {g1 : Nat} {K : Int32 → Int32 → Int32 → Int32 → Int32 → St → Option (St)} (hL0 : Lv 35 g0) (hL1 : Lv 28 g1) (hK : ∀ (k2 : Int32) (k3 : Int32) (k4 : Int32) (k5 : Int32) (k6 : Int32) (S : St) (H : Heap) (locs : List Loc) (ls : Array Slot), K k2 k3 k4 k5 k6 S = some o → Dy s D cs B0 α Lv S H locs → lv_has ls 9 [(0, .ref (α 35 g0)), (2, .int k2), (3, .int k3), (4, .int k4), (5, .int k5), (6, .int k6)] → W p l e R s m args below meth c H locs cells slots Q (F0 m 162 ls [])) : ∀ (n : Nat) (x2 : Int32) (x3 : Int32) (x4 : Int32) (x5 : Int32) (x6 : Int32) (x7 : Int32) (S : St) (H : Heap) (locs : List Loc) (ls : Array Slot), f_X5_init_20 g0 g1 K n x2 x3 x4 x5 x6 x7 S = some o → Dy s D cs B0 α Lv S H locs → lv_has ls 9 [(0, .ref (α 35 g0)), (1, .ref (α 28 g1)), (2, .int x2), (3, .int x3), (4, .int x4), (5, .int x5), (6, .int x6), (7, .int x7)] → W p l e R s m args below meth c H locs cells slots Q (F0 m 20 ls []) := by
  intro n
  induction n with
  | zero =>
    intro x2 x3 x4 x5 x6 x7 S H locs ls hf
    rw [f_X5_init_20] at hf
    cases hf
  | succ n ih =>
    intro x2 x3 x4 x5 x6 x7 S H locs ls hf hd hl
    rw [f_X5_init_20] at hf
    refine lv_iload hc.x hc.b dX5_init_20 (lv_at hl 7 rfl) ?_
    refine lv_aload_n hc.x hc.b dX5_init_22 rfl (lv_at hl 1 rfl) ?_
    refine fg_28_3 hc hd hL1 tw_225 dX5_init_23 ?_
    refine lv_icmp_ge (tgt := 162) hc.x hc.b dX5_init_26 (by decide) (fun c_2 => ?_) (fun c_2 => ?_)
    · have hf := br_y c_2 hf
      exact hK x2 x3 x4 x5 x6 S _ _ _ hf hd (lv_sub hl [0, 2, 3, 4, 5, 6] rfl)
    · have hf := br_n c_2 hf
      refine lv_iload hc.x hc.b dX5_init_29 (lv_at hl 7 rfl) ?_
      refine lv_iconst (v := 1) hc.x hc.b dX5_init_31 (by decide) ?_
      refine lv_iadd hc.x hc.b dX5_init_32 ?_
      refine lv_aload_n hc.x hc.b dX5_init_33 rfl (lv_at hl 1 rfl) ?_
      refine fg_28_3 hc hd hL1 tw_225 dX5_init_34 ?_
      refine jn_s (P := fun J_5 => ∀ (v_3 : Int32) (S_4 : St) (H : Heap) (locs : List Loc) (ls : Array Slot), J_5 v_3 S_4 = some o → Dy s D cs B0 α Lv S_4 H locs → lv_has ls 9 [(0, .ref (α 35 g0)), (1, .ref (α 28 g1)), (2, .int x2), (3, .int x3), (4, .int x4), (5, .int x5), (6, .int x6), (7, .int x7)] → W p l e R s m args below meth c H locs cells slots Q (F0 m 57 ls [.int v_3])) hf ?_ (fun J_5 hJ_5 hf => ?_)
      · intro v_3 S_4 H locs ls hf hd hl
        refine lv_istore (lv' := [(8, .int v_3), (0, .ref (α 35 g0)), (1, .ref (α 28 g1)), (2, .int x2), (3, .int x3), (4, .int x4), (5, .int x5), (6, .int x6), (7, .int x7)]) hc.x hc.b dX5_init_57 hl (by decide) rfl (fun ls hl => ?_)
        refine lv_aload_n hc.x hc.b dX5_init_59 rfl (lv_at hl 2 rfl) ?_
        refine fg_28_2 hc hd hL1 tw_223 dX5_init_60 ?_
        refine lv_iload hc.x hc.b dX5_init_63 (lv_at hl 8 rfl) ?_
        obtain ⟨hi_6, hf⟩ := ck_s hf
        refine r_iald hc hd (cl_28_tokens hc.cl hL1) rfl hi_6 dX5_init_65 ?_
        refine lv_topi (fun q_7 eq_7 => ?_)
        have hf := bv_n eq_7 hf
        refine jn_s (P := fun J_14 => ∀ (x2_8 : Int32) (x3_9 : Int32) (x4_10 : Int32) (x5_11 : Int32) (x6_12 : Int32) (S_13 : St) (H : Heap) (locs : List Loc) (ls : Array Slot), J_14 x2_8 x3_9 x4_10 x5_11 x6_12 S_13 = some o → Dy s D cs B0 α Lv S_13 H locs → lv_has ls 9 [(0, .ref (α 35 g0)), (1, .ref (α 28 g1)), (2, .int x2_8), (3, .int x3_9), (4, .int x4_10), (5, .int x5_11), (6, .int x6_12), (7, .int x7)] → W p l e R s m args below meth c H locs cells slots Q (F0 m 156 ls [])) hf ?_ (fun J_14 hJ_14 hf => ?_)
        · intro x2_8 x3_9 x4_10 x5_11 x6_12 S_13 H locs ls hf hd hl
          obtain ⟨x7_15, ex7_15⟩ : ∃ z : Int32, z = x7 + 1 := ⟨_, rfl⟩
          have hf := bv_n ex7_15 hf
          refine lv_iinc (v := x7_15) (lv' := [(7, .int x7_15), (0, .ref (α 35 g0)), (1, .ref (α 28 g1)), (2, .int x2_8), (3, .int x3_9), (4, .int x4_10), (5, .int x5_11), (6, .int x6_12)]) hc.x hc.b dX5_init_156 hl (k := 7) rfl (by rw [ex7_15]; rfl) (by decide) rfl (fun ls hl => ?_)
          refine lv_goto (tgt := 20) hc.x hc.b dX5_init_159 (by decide) ?_
          exact ih x2_8 x3_9 x4_10 x5_11 x6_12 x7_15 S_13 _ _ _ hf hd (lv_sub hl [1, 2, 3, 4, 5, 6, 7, 0] rfl)
        by_cases c_16_0 : q_7 = 113
        · have hf := br_y c_16_0 hf
          refine lv_tableIn (off := 78) (tgt := 144) hc.x hc.b dX5_init_66 (by rw [c_16_0]; decide) (by rw [c_16_0]; decide) (by rw [c_16_0]; decide) (by decide) ?_
          refine lv_iconst (v := 1) hc.x hc.b dX5_init_144 (by decide) ?_
          refine lv_istore (lv' := [(5, .int 1), (8, .int v_3), (0, .ref (α 35 g0)), (1, .ref (α 28 g1)), (2, .int x2), (3, .int x3), (4, .int x4), (6, .int x6), (7, .int x7)]) hc.x hc.b dX5_init_145 hl (by decide) rfl (fun ls hl => ?_)
          refine lv_goto (tgt := 156) hc.x hc.b dX5_init_147 (by decide) ?_
          exact hJ_14 x2 x3 x4 1 x6 S_4 _ _ _ hf hd (lv_sub hl [2, 3, 4, 5, 6, 0, 7, 8] rfl)
        · have hf := br_n c_16_0 hf
          by_cases c_16_1 : q_7 = 114
          · have hf := br_y c_16_1 hf
            refine lv_tableIn (off := 90) (tgt := 156) hc.x hc.b dX5_init_66 (by rw [c_16_1]; decide) (by rw [c_16_1]; decide) (by rw [c_16_1]; decide) (by decide) ?_
            exact hJ_14 x2 x3 x4 x5 x6 S_4 _ _ _ hf hd (lv_sub hl [1, 2, 3, 4, 5, 6, 7, 8] rfl)
          · have hf := br_n c_16_1 hf
            by_cases c_16_2 : q_7 = 115
            · have hf := br_y c_16_2 hf
              refine lv_tableIn (off := 90) (tgt := 156) hc.x hc.b dX5_init_66 (by rw [c_16_2]; decide) (by rw [c_16_2]; decide) (by rw [c_16_2]; decide) (by decide) ?_
              exact hJ_14 x2 x3 x4 x5 x6 S_4 _ _ _ hf hd (lv_sub hl [1, 2, 3, 4, 5, 6, 7, 8] rfl)
            · have hf := br_n c_16_2 hf
              by_cases c_16_3 : q_7 = 116
              · have hf := br_y c_16_3 hf
                refine lv_tableIn (off := 90) (tgt := 156) hc.x hc.b dX5_init_66 (by rw [c_16_3]; decide) (by rw [c_16_3]; decide) (by rw [c_16_3]; decide) (by decide) ?_
                exact hJ_14 x2 x3 x4 x5 x6 S_4 _ _ _ hf hd (lv_sub hl [1, 2, 3, 4, 5, 6, 7, 8] rfl)
              · have hf := br_n c_16_3 hf
                by_cases c_16_4 : q_7 = 117
                · have hf := br_y c_16_4 hf
                  refine lv_tableIn (off := 90) (tgt := 156) hc.x hc.b dX5_init_66 (by rw [c_16_4]; decide) (by rw [c_16_4]; decide) (by rw [c_16_4]; decide) (by decide) ?_
                  exact hJ_14 x2 x3 x4 x5 x6 S_4 _ _ _ hf hd (lv_sub hl [1, 2, 3, 4, 5, 6, 7, 8] rfl)
                · have hf := br_n c_16_4 hf
                  by_cases c_16_5 : q_7 = 118
                  · have hf := br_y c_16_5 hf
                    refine lv_tableIn (off := 90) (tgt := 156) hc.x hc.b dX5_init_66 (by rw [c_16_5]; decide) (by rw [c_16_5]; decide) (by rw [c_16_5]; decide) (by decide) ?_
                    exact hJ_14 x2 x3 x4 x5 x6 S_4 _ _ _ hf hd (lv_sub hl [1, 2, 3, 4, 5, 6, 7, 8] rfl)
                  · have hf := br_n c_16_5 hf
                    by_cases c_16_6 : q_7 = 119
                    · have hf := br_y c_16_6 hf
                      refine lv_tableIn (off := 54) (tgt := 120) hc.x hc.b dX5_init_66 (by rw [c_16_6]; decide) (by rw [c_16_6]; decide) (by rw [c_16_6]; decide) (by decide) ?_
                      refine lv_iload hc.x hc.b dX5_init_120 (lv_at hl 0 rfl) ?_
                      refine lv_istore_n (lv' := [(2, .int v_3), (8, .int v_3), (0, .ref (α 35 g0)), (1, .ref (α 28 g1)), (3, .int x3), (4, .int x4), (5, .int x5), (6, .int x6), (7, .int x7)]) hc.x hc.b dX5_init_122 rfl hl (by decide) rfl (fun ls hl => ?_)
                      refine lv_goto (tgt := 156) hc.x hc.b dX5_init_123 (by decide) ?_
                      exact hJ_14 v_3 x3 x4 x5 x6 S_4 _ _ _ hf hd (lv_sub hl [2, 3, 0, 4, 5, 6, 7, 8] rfl)
                    · have hf := br_n c_16_6 hf
                      by_cases c_16_7 : q_7 = 120
                      · have hf := br_y c_16_7 hf
                        refine lv_tableIn (off := 66) (tgt := 132) hc.x hc.b dX5_init_66 (by rw [c_16_7]; decide) (by rw [c_16_7]; decide) (by rw [c_16_7]; decide) (by decide) ?_
                        refine lv_iload hc.x hc.b dX5_init_132 (lv_at hl 5 rfl) ?_
                        refine lv_iconst (v := 1) hc.x hc.b dX5_init_134 (by decide) ?_
                        refine lv_iload hc.x hc.b dX5_init_135 (lv_at hl 0 rfl) ?_
                        refine lv_ishl hc.x hc.b dX5_init_137 ?_
                        refine lv_ior hc.x hc.b dX5_init_138 ?_
                        refine lv_topi (fun x4_17 ex4_17 => ?_)
                        have hf := bv_n ex4_17 hf
                        refine lv_istore (lv' := [(4, .int x4_17), (8, .int v_3), (0, .ref (α 35 g0)), (1, .ref (α 28 g1)), (2, .int x2), (3, .int x3), (5, .int x5), (6, .int x6), (7, .int x7)]) hc.x hc.b dX5_init_139 hl (by decide) rfl (fun ls hl => ?_)
                        refine lv_goto (tgt := 156) hc.x hc.b dX5_init_141 (by decide) ?_
                        exact hJ_14 x2 x3 x4_17 x5 x6 S_4 _ _ _ hf hd (lv_sub hl [2, 3, 4, 5, 0, 6, 7, 8] rfl)
                      · have hf := br_n c_16_7 hf
                        by_cases c_16_8 : q_7 = 121
                        · have hf := br_y c_16_8 hf
                          refine lv_tableIn (off := 60) (tgt := 126) hc.x hc.b dX5_init_66 (by rw [c_16_8]; decide) (by rw [c_16_8]; decide) (by rw [c_16_8]; decide) (by decide) ?_
                          refine lv_iload hc.x hc.b dX5_init_126 (lv_at hl 0 rfl) ?_
                          refine lv_istore_n (lv' := [(3, .int v_3), (8, .int v_3), (0, .ref (α 35 g0)), (1, .ref (α 28 g1)), (2, .int x2), (4, .int x4), (5, .int x5), (6, .int x6), (7, .int x7)]) hc.x hc.b dX5_init_128 rfl hl (by decide) rfl (fun ls hl => ?_)
                          refine lv_goto (tgt := 156) hc.x hc.b dX5_init_129 (by decide) ?_
                          exact hJ_14 x2 v_3 x4 x5 x6 S_4 _ _ _ hf hd (lv_sub hl [2, 3, 4, 0, 5, 6, 7, 8] rfl)
                        · have hf := br_n c_16_8 hf
                          by_cases c_16_9 : q_7 = 122
                          · have hf := br_y c_16_9 hf
                            refine lv_tableIn (off := 84) (tgt := 150) hc.x hc.b dX5_init_66 (by rw [c_16_9]; decide) (by rw [c_16_9]; decide) (by rw [c_16_9]; decide) (by decide) ?_
                            refine lv_iconst (v := 1) hc.x hc.b dX5_init_150 (by decide) ?_
                            refine lv_istore (lv' := [(6, .int 1), (8, .int v_3), (0, .ref (α 35 g0)), (1, .ref (α 28 g1)), (2, .int x2), (3, .int x3), (4, .int x4), (5, .int x5), (7, .int x7)]) hc.x hc.b dX5_init_151 hl (by decide) rfl (fun ls hl => ?_)
                            refine lv_goto (tgt := 156) hc.x hc.b dX5_init_153 (by decide) ?_
                            exact hJ_14 x2 x3 x4 x5 1 S_4 _ _ _ hf hd (lv_sub hl [2, 3, 4, 5, 6, 7, 0, 8] rfl)
                          · have hf := br_n c_16_9 hf
                            refine lv_tableOut (tgt := 156) hc.x hc.b dX5_init_66 (sw_out (fun z h1 h2 => by
                              rcases (show z = 113 ∨ z = 114 ∨ z = 115 ∨ z = 116 ∨ z = 117 ∨ z = 118 ∨ z = 119 ∨ z = 120 ∨ z = 121 ∨ z = 122 by omega) with rfl | rfl | rfl | rfl | rfl | rfl | rfl | rfl | rfl | rfl
                              · exact c_16_0
                              · exact c_16_1
                              · exact c_16_2
                              · exact c_16_3
                              · exact c_16_4
                              · exact c_16_5
                              · exact c_16_6
                              · exact c_16_7
                              · exact c_16_8
                              · exact c_16_9)) (by decide) ?_
                            exact hJ_14 x2 x3 x4 x5 x6 S_4 _ _ _ hf hd (lv_sub hl [1, 2, 3, 4, 5, 6, 7, 8] rfl)
      refine lv_icmp_ge (tgt := 56) hc.x hc.b dX5_init_37 (by decide) (fun c_18 => ?_) (fun c_18 => ?_)
      · have hf := br_y c_18 hf
        refine lv_iconst (v := 0) hc.x hc.b dX5_init_56 (by decide) ?_
        exact hJ_5 0 S _ _ _ hf hd (lv_sub hl [0, 1, 2, 3, 4, 5, 6, 7] rfl)
      · have hf := br_n c_18 hf
        refine lv_aload_n hc.x hc.b dX5_init_40 rfl (lv_at hl 1 rfl) ?_
        refine fg_28_2 hc hd hL1 tw_223 dX5_init_41 ?_
        refine lv_iload hc.x hc.b dX5_init_44 (lv_at hl 7 rfl) ?_
        refine lv_iconst (v := 1) hc.x hc.b dX5_init_46 (by decide) ?_
        refine lv_iadd hc.x hc.b dX5_init_47 ?_
        obtain ⟨hi_19, hf⟩ := ck_s hf
        refine r_iald hc hd (cl_28_tokens hc.cl hL1) rfl hi_19 dX5_init_48 ?_
        refine lv_sipush (v := 200) hc.x hc.b dX5_init_49 (by decide) ?_
        refine lv_isub hc.x hc.b dX5_init_52 ?_
        refine lv_goto (tgt := 57) hc.x hc.b dX5_init_53 (by decide) ?_
        exact hJ_5 ((gi S 30 g1 (nn (x7 + 1))) - 200) S _ _ _ hf hd (lv_sub hl [0, 1, 2, 3, 4, 5, 6, 7] rfl)
set_option maxRecDepth 100000 in
set_option maxHeartbeats 8000000 in
theorem b_X5_init (hc : Cx p s m args meth c cX5_init 9 "PumpCrossing$Law" D cs B0 kt Lv) (hck : CK cs s) (hin2 : meth.name = "<init>") (hr : meth.sig.returnType = none) {o : St} {S : St} {g0 : Nat} {g1 : Nat} (hlt : ∀ k g, Lv k g → k < 1000) (hL0 : Lv 135 g0) (hL1 : Lv 28 g1) (hfr : ∀ x ∈ F_X5_init g0, ¬ Lv x.1 x.2) {H : Heap} {locs : List Loc} {ls : Array Slot} (hf : f_X5_init g0 g1 S = some o) (hd : Dy s D cs B0 α Lv S H locs) (hl : lv_has ls 9 [(0, .ref (α 135 g0)), (1, .ref (α 28 g1))]) : W p l e (Rm 1 0 0) s m args below meth c H locs 0 0 (MQ below (QM D cs B0 α Lv 135 35 g0 (F_X5_init g0) [35] o) args s 0 0 (AB B0)) (F0 m 0 ls []) := by
  unfold f_X5_init at hf
  obtain ⟨a0, e0⟩ : ∃ a, α 135 g0 = a := ⟨_, rfl⟩
  have e00 := e0
  rw [e0] at hl
  have hx : Ex α Lv (135, g0) α Lv [] := Ex.start hlt
  have hm : Mk α [35] α := Mk.start
  refine lv_aload_n hc.x hc.b dX5_init_0 rfl (lv_at hl 0 rfl) ?_
  refine r_oini hc tw_743 tw_33 tw_34 hl.1 dX5_init_1 (Nat.zero_le _) ⟨Nat.le_of_ble_eq_true rfl, Nat.le_of_ble_eq_true rfl⟩ ?_
  refine q_cm (K := 135) (k := 35) (g := g0) hd hc hx hm (by decide) (by decide) hL0 (hfr _ (List.mem_cons_self)) (by simp) (cl_ad (by decide) hc.cl) ce_cm_35 (fun α Lv ho ha hL0 ea hnK hc hd hx hm => ?_)
  obtain ⟨S_1, hd, hf⟩ := nmD hd hf
  have ea := ea.trans e0
  have hl : lv_has ls 9 [(0, .ref (α 35 g0)), (1, .ref (α 28 g1))] := by rw [ea, ha _ _ hL1 (by decide)]; exact hl
  have hL1 := ho _ _ hL1 (by decide)
  refine lv_iconst (v := 0) hc.x hc.b dX5_init_4 (by decide) ?_
  refine lv_istore_n (lv' := [(2, .int 0), (0, .ref (α 35 g0)), (1, .ref (α 28 g1))]) hc.x hc.b dX5_init_5 rfl hl (by decide) rfl (fun ls hl => ?_)
  refine lv_iconst (v := (-1)) hc.x hc.b dX5_init_6 (by decide) ?_
  refine lv_istore_n (lv' := [(3, .int ((-1))), (2, .int 0), (0, .ref (α 35 g0)), (1, .ref (α 28 g1))]) hc.x hc.b dX5_init_7 rfl hl (by decide) rfl (fun ls hl => ?_)
  refine lv_iconst (v := 0) hc.x hc.b dX5_init_8 (by decide) ?_
  refine lv_istore (lv' := [(4, .int 0), (3, .int ((-1))), (2, .int 0), (0, .ref (α 35 g0)), (1, .ref (α 28 g1))]) hc.x hc.b dX5_init_9 hl (by decide) rfl (fun ls hl => ?_)
  refine lv_iconst (v := 0) hc.x hc.b dX5_init_11 (by decide) ?_
  refine lv_istore (lv' := [(5, .int 0), (4, .int 0), (3, .int ((-1))), (2, .int 0), (0, .ref (α 35 g0)), (1, .ref (α 28 g1))]) hc.x hc.b dX5_init_12 hl (by decide) rfl (fun ls hl => ?_)
  refine lv_iconst (v := 0) hc.x hc.b dX5_init_14 (by decide) ?_
  refine lv_istore (lv' := [(6, .int 0), (5, .int 0), (4, .int 0), (3, .int ((-1))), (2, .int 0), (0, .ref (α 35 g0)), (1, .ref (α 28 g1))]) hc.x hc.b dX5_init_15 hl (by decide) rfl (fun ls hl => ?_)
  refine lv_iconst (v := 0) hc.x hc.b dX5_init_17 (by decide) ?_
  refine lv_istore (lv' := [(7, .int 0), (6, .int 0), (5, .int 0), (4, .int 0), (3, .int ((-1))), (2, .int 0), (0, .ref (α 35 g0)), (1, .ref (α 28 g1))]) hc.x hc.b dX5_init_18 hl (by decide) rfl (fun ls hl => ?_)
  refine w_X5_init_20 hc hr hL0 hL1 ?_ _ _ _ _ _ _ _ _ _ _ _ hf hd (lv_sub hl [6, 7, 5, 4, 3, 2, 1, 0] rfl)
  intro x2_20 x3_21 x4_22 x5_23 x6_24 S_25 H locs ls hf hd hl
  refine lv_aload_n hc.x hc.b dX5_init_162 rfl (lv_at hl 0 rfl) ?_
  refine lv_iload_n hc.x hc.b dX5_init_163 rfl (lv_at hl 1 rfl) ?_
  refine r_putF (S' := si S_25 35 g0 0 x2_20) hc hin2 hd hL0 rfl rfl inX5 tyX5 tyX5_ok nmX5 0 (by decide) tw_744 rfl rfl (ty := .int) (by decide +kernel) rfl rfl (by show _ < 5; decide) (by unfold si; rw [ce_s_ai]; rfl) (by unfold si; exact ce_ai) (fun h => h) dX5_init_164 (fun H locs hd => ?_)
  obtain ⟨S_26, hd, hf⟩ := nmD hd hf
  refine lv_aload_n hc.x hc.b dX5_init_167 rfl (lv_at hl 0 rfl) ?_
  refine lv_iload_n hc.x hc.b dX5_init_168 rfl (lv_at hl 2 rfl) ?_
  refine r_putF (S' := si S_26 35 g0 2 x3_21) hc hin2 hd hL0 rfl rfl inX5 tyX5 tyX5_ok nmX5 2 (by decide) tw_746 rfl rfl (ty := .int) (by decide +kernel) rfl rfl (by show _ < 5; decide) (by unfold si; rw [ce_s_ai]; rfl) (by unfold si; exact ce_ai) (fun h => h) dX5_init_169 (fun H locs hd => ?_)
  obtain ⟨S_27, hd, hf⟩ := nmD hd hf
  refine lv_aload_n hc.x hc.b dX5_init_172 rfl (lv_at hl 0 rfl) ?_
  refine lv_iload hc.x hc.b dX5_init_173 (lv_at hl 3 rfl) ?_
  refine r_putF (S' := si S_27 35 g0 1 x4_22) hc hin2 hd hL0 rfl rfl inX5 tyX5 tyX5_ok nmX5 1 (by decide) tw_745 rfl rfl (ty := .int) (by decide +kernel) rfl rfl (by show _ < 5; decide) (by unfold si; rw [ce_s_ai]; rfl) (by unfold si; exact ce_ai) (fun h => h) dX5_init_175 (fun H locs hd => ?_)
  obtain ⟨S_28, hd, hf⟩ := nmD hd hf
  refine lv_aload_n hc.x hc.b dX5_init_178 rfl (lv_at hl 0 rfl) ?_
  refine lv_iload hc.x hc.b dX5_init_179 (lv_at hl 4 rfl) ?_
  obtain ⟨hz_29, hf⟩ := ck_s hf
  refine r_putF (S' := si S_28 35 g0 3 x5_23) hc hin2 hd hL0 rfl rfl inX5 tyX5 tyX5_ok nmX5 3 (by decide) tw_747 rfl rfl (ty := .boolean) (by decide +kernel) (by rcases hz_29 with h | h <;> rw [h] <;> rfl) (by rcases hz_29 with h | h <;> rw [h] <;> rfl) (by show _ < 5; decide) (by unfold si; rw [ce_s_ai]; rfl) (by unfold si; exact ce_ai) (fun h => h) dX5_init_181 (fun H locs hd => ?_)
  obtain ⟨S_30, hd, hf⟩ := nmD hd hf
  refine lv_aload_n hc.x hc.b dX5_init_184 rfl (lv_at hl 0 rfl) ?_
  refine lv_iload hc.x hc.b dX5_init_185 (lv_at hl 5 rfl) ?_
  obtain ⟨hz_31, hf⟩ := ck_s hf
  refine r_putF (S' := si S_30 35 g0 4 x6_24) hc hin2 hd hL0 rfl rfl inX5 tyX5 tyX5_ok nmX5 4 (by decide) tw_748 rfl rfl (ty := .boolean) (by decide +kernel) (by rcases hz_31 with h | h <;> rw [h] <;> rfl) (by rcases hz_31 with h | h <;> rw [h] <;> rfl) (by show _ < 5; decide) (by unfold si; rw [ce_s_ai]; rfl) (by unfold si; exact ce_ai) (fun h => h) dX5_init_187 (fun H locs hd => ?_)
  obtain ⟨S_32, hd, hf⟩ := nmD hd hf
  cases hf
  exact q_vret hc hd hr hx hm hL0 (ea.trans e00.symm) hnK dX5_init_190
theorem c_X5_init (l : Launch) (D : va_G) (cs : Nat → ClassId) (B0 : Nat) (kt : (Nat → Nat) × (Nat → Nat)) (α : Nat → Nat → Nat) (Lv : Nat → Nat → Prop) (S : St) (g0 : Nat) (g1 : Nat) (hcl : Cl Lv) (hlt : ∀ k g, Lv k g → k < 1000) (hL0 : Lv 135 g0) (hL1 : Lv 28 g1) (hfr : ∀ x ∈ F_X5_init g0, ¬ Lv x.1 x.2) {o : St} (hf : f_X5_init g0 g1 S = some o) : Met l yX5_init (wz yX5_init cX5_init 9 none) (Rm 1 0 0) (PzN D cs B0 kt α Lv S [.ref (α 135 g0), .ref (α 28 g1)]) (QM D cs B0 α Lv 135 35 g0 (F_X5_init g0) [35] o) 0 0 (AB B0) := met_ofI (by decide) rfl hcl (Nat.le_of_ble_eq_true rfl) (fun p e s m below meth c hc hck hnm hr hd ls hl => b_X5_init hc hck hnm hr hlt hL0 hL1 hfr hf hd hl)
theorem my_X5_init : MyI yX5_init cX5_init 9 1 := ⟨tw_741, tw_25, tw_742, rfl, by decide +kernel⟩
abbrev F_X7_init (g0 : Nat) : List (Nat × Nat) := (32, g0) :: ((34, g0) :: ((33, g0) :: []))
def f_X7_init (g0 : Nat) (g1 : Nat) (S : St) : Option (St) := ck (¬ (gi S 28 g1 3) < 0 ∧ nn (gi S 28 g1 3) ≤ 400) (bv (zr S 33 g0 (nn (gi S 28 g1 3))) (fun S_2 => ck (cpok 0 0 (Int32.ofNat (gn S_2 33 g0)) 400 (gn S_2 33 g0) = true) (bv (ai S_2 33 g0 (va_cpy (gi S_2 30 g1) (gi S_2 33 g0) (nn 0) (nn 0) (nn (Int32.ofNat (gn S_2 33 g0))))) (fun S_4 => bv (mnI (gi S_4 28 g1 5) (12)) (fun q_5 => ck (¬ q_5 < 0 ∧ nn q_5 ≤ 12) (bv (zr S_4 34 g0 (nn q_5)) (fun S_7 => bv (cp S_7 132 32 g0) (fun S_8 => ck (cpok 0 0 (Int32.ofNat (gn S_8 34 g0)) 12 (gn S_8 34 g0) = true) (bv (ai S_8 34 g0 (va_cpy (gi S_8 31 g1) (gi S_8 34 g0) (nn 0) (nn 0) (nn (Int32.ofNat (gn S_8 34 g0))))) (fun S_10 => some S_10))))))))))
set_option maxRecDepth 100000 in
set_option maxHeartbeats 8000000 in
theorem b_X7_init (hc : Cx p s m args meth c cX7_init 2 "PumpCrossing$Rules" D cs B0 kt Lv) (hck : CK cs s) (hin2 : meth.name = "<init>") (hr : meth.sig.returnType = none) {o : St} {S : St} {g0 : Nat} {g1 : Nat} (hlt : ∀ k g, Lv k g → k < 1000) (hL0 : Lv 132 g0) (hL1 : Lv 28 g1) (hfr : ∀ x ∈ F_X7_init g0, ¬ Lv x.1 x.2) {H : Heap} {locs : List Loc} {ls : Array Slot} (hf : f_X7_init g0 g1 S = some o) (hd : Dy s D cs B0 α Lv S H locs) (hl : lv_has ls 2 [(0, .ref (α 132 g0)), (1, .ref (α 28 g1))]) : W p l e (Rm 2 2 412) s m args below meth c H locs 0 0 (MQ below (QM D cs B0 α Lv 132 32 g0 (F_X7_init g0) [32] o) args s 2 412 (AB B0)) (F0 m 0 ls []) := by
  unfold f_X7_init at hf
  obtain ⟨a0, e0⟩ : ∃ a, α 132 g0 = a := ⟨_, rfl⟩
  have e00 := e0
  rw [e0] at hl
  have hx : Ex α Lv (132, g0) α Lv [] := Ex.start hlt
  have hm : Mk α [32] α := Mk.start
  refine lv_aload_n hc.x hc.b dX7_init_0 rfl (lv_at hl 0 rfl) ?_
  refine r_oini hc tw_717 tw_33 tw_34 hl.1 dX7_init_1 (Nat.zero_le _) ⟨Nat.le_of_ble_eq_true rfl, Nat.le_of_ble_eq_true rfl⟩ ?_
  refine lv_aload_n hc.x hc.b dX7_init_4 rfl (lv_at hl 0 rfl) ?_
  refine lv_aload_n hc.x hc.b dX7_init_5 rfl (lv_at hl 1 rfl) ?_
  refine fg_28_3 hc hd hL1 tw_224 dX7_init_6 ?_
  obtain ⟨⟨hn_1, hn_1_b⟩, hf⟩ := ck_s hf
  refine q_newP (aty := .int) (K := 33) (G := g0) (N := nn (gi S 28 g1 3)) hc hd hx hm hck.1 tw_68 (fun _ => rfl) rfl (by decide) (by decide) (hfr _ (List.mem_cons_of_mem _ (List.mem_cons_of_mem _ (List.mem_cons_self)))) (by simp) hn_1 rfl (by show _ * 4 ≤ _; omega) ⟨Nat.le_of_ble_eq_true rfl, by show 0 + nn (gi S 28 g1 3) ≤ 412; omega⟩ dX7_init_9 (fun α Lv H ho ha hv hN hc hd hx hm => ?_)
  obtain ⟨S_2, hd, hf⟩ := nmD hd hf
  have hl : lv_has ls 2 [(0, .ref a0), (1, .ref (α 28 g1))] := by rw [ha _ _ hL1]; exact hl
  have e0 := (ha _ _ hL0).trans e0
  have hL0 := ho _ _ hL0
  have hL1 := ho _ _ hL1
  have hL_33_g0 := hN
  refine q_putR (K := 132) (V := 4200) (k := 32) (j := 0) (k2 := 33) (i2 := g0) hc hin2 hd hx hm (by decide) rfl rfl (by decide) hL0 e0 hL_33_g0 rfl rfl inX7 tyX7 tyX7_ok nmX7 (by decide) tw_720 rfl rfl (ty := .array .int) (by decide +kernel) rfl rfl (by show _ < 2; decide) (fun x => by
    show (.inr (7, [r0 (up2 α 4200 g0 (x + 1) 4200 g0), _]) : va_E) = _
    rw [up2_s]; rfl) dX7_init_11 (fun α H locs ha hs0 hv hd hx hm => ?_)
  have hl : lv_has ls 2 [(0, .ref a0), (1, .ref (α 28 g1))] := by rw [ha _ _ hL1]; exact hl
  have e0 := (ha _ _ hL0).trans e0
  refine lv_aload_n hc.x hc.b dX7_init_14 rfl (lv_at hl 1 rfl) ?_
  refine fg_28_2 hc hd hL1 tw_221 dX7_init_15 ?_
  refine lv_iconst (v := 0) hc.x hc.b dX7_init_18 (by decide) ?_
  refine lv_aload_n hc.x hc.b dX7_init_19 rfl (lv_at hl 0 rfl) ?_
  refine w_st (by rw [← e0]) (r_get hc hd hL0 (ref := "") rfl rfl inX7 0 (by decide) tw_720 rfl dX7_init_20 ?_)
  refine w_st (st' := .ref (α 33 g0) :: _) (by rw [hs0]; rfl) ?_
  refine lv_iconst (v := 0) hc.x hc.b dX7_init_23 (by decide) ?_
  refine lv_aload_n hc.x hc.b dX7_init_24 rfl (lv_at hl 0 rfl) ?_
  refine w_st (by rw [← e0]) (r_get hc hd hL0 (ref := "") rfl rfl inX7 0 (by decide) tw_720 rfl dX7_init_25 ?_)
  refine w_st (st' := .ref (α 33 g0) :: _) (by rw [hs0]; rfl) ?_
  refine r_alen hc hd hL_33_g0 (t0 := 0) rfl rfl dX7_init_28 ?_
  obtain ⟨hi_3, hf⟩ := ck_s hf
  refine r_copyi hc hd hl.1 tw_718 (cl_28_tokens hc.cl hL1) hL_33_g0 rfl (fun _ => rfl) hi_3 (Nat.le_of_ble_eq_true rfl) (Nat.le_of_ble_eq_true rfl) dX7_init_29 (fun H locs hd => ?_)
  obtain ⟨S_4, hd, hf⟩ := nmD hd hf
  refine lv_aload_n hc.x hc.b dX7_init_32 rfl (lv_at hl 0 rfl) ?_
  refine lv_aload_n hc.x hc.b dX7_init_33 rfl (lv_at hl 1 rfl) ?_
  refine fg_28_5 hc hd hL1 tw_229 dX7_init_34 ?_
  refine lv_bipush (v := 12) hc.x hc.b dX7_init_37 (by decide) ?_
  refine r_min hc hl.1 tw_719 (Nat.le_of_ble_eq_true rfl) (Nat.le_of_ble_eq_true rfl) (Nat.le_of_ble_eq_true rfl) (by show 0 + nn (gi S 28 g1 3) ≤ 412; omega) dX7_init_39 ?_
  refine lv_topi (fun q_5 eq_5 => ?_)
  have hf := bv_n eq_5 hf
  obtain ⟨⟨hn_6, hn_6_b⟩, hf⟩ := ck_s hf
  refine q_newP (aty := .int) (K := 34) (G := g0) (N := nn q_5) hc hd hx hm hck.1 tw_68 (fun _ => rfl) rfl (by decide) (by decide) (hfr _ (List.mem_cons_of_mem _ (List.mem_cons_self))) (by simp) hn_6 rfl (by show _ * 4 ≤ _; omega) ⟨Nat.le_of_ble_eq_true rfl, by show 0 + nn (gi S 28 g1 3) + nn q_5 ≤ 412; omega⟩ dX7_init_42 (fun α Lv H ho ha hv hN hc hd hx hm => ?_)
  obtain ⟨S_7, hd, hf⟩ := nmD hd hf
  have hl : lv_has ls 2 [(0, .ref a0), (1, .ref (α 28 g1))] := by rw [ha _ _ hL1]; exact hl
  have e0 := (ha _ _ hL0).trans e0
  have hs0 := sl_k ha hL_33_g0 (hv 4200 _ (Nat.le_of_ble_eq_true rfl)) hs0
  have hL_33_g0 := ho _ _ hL_33_g0
  have hL0 := ho _ _ hL0
  have hL1 := ho _ _ hL1
  have hL_34_g0 := hN
  refine q_putR (K := 132) (V := 4201) (k := 32) (j := 1) (k2 := 34) (i2 := g0) hc hin2 hd hx hm (by decide) rfl rfl (by decide) hL0 e0 hL_34_g0 rfl rfl inX7 tyX7 tyX7_ok nmX7 (by decide) tw_721 rfl rfl (ty := .array .int) (by decide +kernel) rfl rfl (by show _ < 2; decide) (fun x => by
    show (.inr (7, [_, r0 (up2 α 4201 g0 (x + 1) 4201 g0)]) : va_E) = _
    rw [up2_s]; rfl) dX7_init_44 (fun α H locs ha hs1 hv hd hx hm => ?_)
  have hl : lv_has ls 2 [(0, .ref a0), (1, .ref (α 28 g1))] := by rw [ha _ _ hL1]; exact hl
  have e0 := (ha _ _ hL0).trans e0
  have hs0 := sl_k ha hL_33_g0 (hv 4200 _ (Nat.le_of_ble_eq_true rfl) (by decide)) hs0
  refine q_cm (K := 132) (k := 32) (g := g0) hd hc hx hm (by decide) (by decide) hL0 (hfr _ (List.mem_cons_self)) (by simp) (cl_ad_32 hc.cl ⟨adL.o hL_33_g0, adL.o hL_34_g0⟩) (ce_cm_32 hs0 hs1) (fun α Lv ho ha hL0 ea hnK hc hd hx hm => ?_)
  obtain ⟨S_8, hd, hf⟩ := nmD hd hf
  have ea := ea.trans e0
  have hl : lv_has ls 2 [(0, .ref (α 32 g0)), (1, .ref (α 28 g1))] := by rw [ea, ha _ _ hL1 (by decide)]; exact hl
  have hL1 := ho _ _ hL1 (by decide)
  refine lv_aload_n hc.x hc.b dX7_init_47 rfl (lv_at hl 1 rfl) ?_
  refine fg_28_4 hc hd hL1 tw_228 dX7_init_48 ?_
  refine lv_iconst (v := 0) hc.x hc.b dX7_init_51 (by decide) ?_
  refine lv_aload_n hc.x hc.b dX7_init_52 rfl (lv_at hl 0 rfl) ?_
  refine fg_32_1 hc hd hL0 tw_721 dX7_init_53 ?_
  refine lv_iconst (v := 0) hc.x hc.b dX7_init_56 (by decide) ?_
  refine lv_aload_n hc.x hc.b dX7_init_57 rfl (lv_at hl 0 rfl) ?_
  refine fg_32_1 hc hd hL0 tw_721 dX7_init_58 ?_
  refine r_alen hc hd (cl_32_starts hc.cl hL0) (t0 := 0) rfl rfl dX7_init_61 ?_
  obtain ⟨hi_9, hf⟩ := ck_s hf
  refine r_copyi hc hd hl.1 tw_718 (cl_28_starts hc.cl hL1) (cl_32_starts hc.cl hL0) rfl (fun _ => rfl) hi_9 (Nat.le_of_ble_eq_true rfl) (Nat.le_of_ble_eq_true rfl) dX7_init_62 (fun H locs hd => ?_)
  obtain ⟨S_10, hd, hf⟩ := nmD hd hf
  cases hf
  refine W.widen (k := 2) (n := 412) (Nat.le_of_ble_eq_true rfl) (by show 0 + nn (gi S 28 g1 3) + nn q_5 ≤ 412; omega) ?_
  exact q_vret hc hd hr hx hm hL0 (ea.trans e00.symm) hnK dX7_init_65
theorem c_X7_init (l : Launch) (D : va_G) (cs : Nat → ClassId) (B0 : Nat) (kt : (Nat → Nat) × (Nat → Nat)) (α : Nat → Nat → Nat) (Lv : Nat → Nat → Prop) (S : St) (g0 : Nat) (g1 : Nat) (hcl : Cl Lv) (hlt : ∀ k g, Lv k g → k < 1000) (hL0 : Lv 132 g0) (hL1 : Lv 28 g1) (hfr : ∀ x ∈ F_X7_init g0, ¬ Lv x.1 x.2) {o : St} (hf : f_X7_init g0 g1 S = some o) : Met l yX7_init (wz yX7_init cX7_init 2 none) (Rm 2 2 412) (PzN D cs B0 kt α Lv S [.ref (α 132 g0), .ref (α 28 g1)]) (QM D cs B0 α Lv 132 32 g0 (F_X7_init g0) [32] o) 2 412 (AB B0) := met_ofI (by decide) rfl hcl (Nat.le_of_ble_eq_true rfl) (fun p e s m below meth c hc hck hnm hr hd ls hl => b_X7_init hc hck hnm hr hlt hL0 hL1 hfr hf hd hl)
theorem my_X7_init : MyI yX7_init cX7_init 2 1 := ⟨tw_715, tw_23, tw_716, rfl, by decide +kernel⟩
end
