abbrev FL (gN : Nat) : List (Nat × Nat) := F_X11_rules gN ++ (F_X11_law gN ++ F_X11_image gN)
section LWR
variable {p : Program} {l : Launch} {e : Env} {R : Room} {s : State} {m : MethodId} {args : Array Value} {below : List Frame} {meth : Method} {c : Code} {H : Heap} {locs : List Loc} {cells slots : Nat} {Q : State → Prop}
variable {cc : ByteArray} {pc : Nat} {ls : Array Slot} {rest : List Value} {nL : Nat} {own : String} {D : va_G} {cs : Nat → ClassId} {B0 : Nat} {kt : (Nat → Nat) × (Nat → Nat)} {α : Nat → Nat → Nat} {Lv : Nat → Nat → Prop} {S : St}
theorem r_sld (hc : Cx p s m args meth c cc nL own D cs B0 kt Lv) {b L : Nat} {xs : Nat → Int32} (hX : va_X b L xs s s.heap) (hbl : b < s.heap.size) (hbA : ¬ B0 ≤ b) (hd : Dy s D cs B0 α Lv S H locs) {i a : Int32} (hin : inb i L = true) (ea : xs (nn i) = a) (hdg : decode cc pc = .ok (.iaload, 1)) (kk : W p l e R s m args below meth c H locs cells slots Q (F0 m (pc + 1) ls (.int a :: rest))) : W p l e R s m args below meth c H locs cells slots Q (F0 m pc ls (.int i :: .ref b :: rest)) :=
  va_sld hc.x hc.b hX hbl hbA hd.1 (inb_in hin) hdg (by rw [ea]; exact kk)
theorem r_slen (hc : Cx p s m args meth c cc nL own D cs B0 kt Lv) {b L : Nat} {xs : Nat → Int32} (hX : va_X b L xs s s.heap) (hbl : b < s.heap.size) (hbA : ¬ B0 ≤ b) (hd : Dy s D cs B0 α Lv S H locs) (hdg : decode cc pc = .ok (.arraylength, 1)) (kk : W p l e R s m args below meth c H locs cells slots Q (F0 m (pc + 1) ls (.int (Int32.ofNat L) :: rest))) : W p l e R s m args below meth c H locs cells slots Q (F0 m pc ls (.ref b :: rest)) :=
  va_slen hc.x hc.b hX hbl hbA hd.1 hdg kk
end LWR
section
variable {p : Program} {l : Launch} {e : Env} {s : State} {cells slots : Nat} {Q : State → Prop} {m : MethodId} {args : Array Value} {below : List Frame} {meth : Method} {c : Code} {D : va_G} {cs : Nat → ClassId} {B0 : Nat} {kt : (Nat → Nat) × (Nat → Nat)} {α : Nat → Nat → Nat} {Lv : Nat → Nat → Prop}
def fc_0 (gN : Nat) (a1 a2 a3 a4 a5 : Int32) (S : St) : Option St := on2 (f_L_station 0 a1 a2 a3 0 S) (fun r_1 S_2 => on2 (f_X12_station 0 a1 a2 a3 S_2) (fun r_6 S_5 => on (f_X12_thrown 0 S_5) (fun r_8 => br (r_8 = r_1) (bv (fun  (S_10 : St) => some S_10) (fun J_11 => br (r_1 = 0) (ck (inb 0 1 = true) (br ((lg_cmp (gl S_5 81 0 (nn 0)) (Int32.toInt64 r_6)) = 0) (J_11 S_5) (none))) (J_11 S_5))) (none))))
set_option maxRecDepth 100000 in
set_option maxHeartbeats 8000000 in
theorem lc_0 (hc : Cx p s m args meth c cL_law_ 8 "PumpCrossingLaw" D cs B0 kt Lv) (hck : CK cs s) (hst : l.stackTraces = false) {b L : Nat} {xs : Nat → Int32} (hX : va_X b L xs s s.heap) (hbl : b < s.heap.size) (hbA : ¬ B0 ≤ b) {x4 a1 a2 a3 a4 a5 : Int32} (hi : inb (x4 + 1) L = true ∧ inb (x4 + 2) L = true ∧ inb (x4 + 3) L = true ∧ inb (x4 + 4) L = true ∧ inb (x4 + 5) L = true) (ea : xs (nn (x4 + 1)) = a1 ∧ xs (nn (x4 + 2)) = a2 ∧ xs (nn (x4 + 3)) = a3 ∧ xs (nn (x4 + 4)) = a4 ∧ xs (nn (x4 + 5)) = a5) {o S : St} {gN : Nat} (hlt : ∀ k g, Lv k g → k < 1000) (hfr : ∀ x ∈ FL gN, ¬ Lv x.1 x.2) (hL1 : Lv 0 0) (hL2 : Lv 60 0) (hL3 : Lv 81 0) (hcc : cells + 60 ≤ 601024) (hss : slots + 3000 ≤ 7293034) (kk : ∀ (α1 : Nat → Nat → Nat) (Lv1 : Nat → Nat → Prop) (H1 : Heap) (locs1 : List Loc) (ls1 : Array Slot), Ex α Lv (1000, 0) α1 Lv1 (FL gN) → Cx p s m args meth c cL_law_ 8 "PumpCrossingLaw" D cs B0 kt Lv1 → Dy s D cs B0 α1 Lv1 o H1 locs1 → lv_has ls1 8 [(0, .ref b), (1, .ref (α1 0 0)), (2, .ref (α1 60 0)), (3, .ref (α1 81 0)), (4, .int x4)] → W p l e room_1 s m args below meth c H1 locs1 (cells + 40) (slots + 2000) Q (F0 m 2923 ls1 [])) {H : Heap} {locs : List Loc} {ls : Array Slot} (hf : fc_0 gN a1 a2 a3 a4 a5 S = some o) (hd : Dy s D cs B0 α Lv S H locs) (hl : lv_has ls 8 [(0, .ref b), (1, .ref (α 0 0)), (2, .ref (α 60 0)), (3, .ref (α 81 0)), (4, .int x4)]) : W p l e room_1 s m args below meth c H locs cells slots Q (F0 m 216 ls []) := by
  unfold fc_0 at hf
  have hx : Ex α Lv (1000, 0) α Lv [] := Ex.start hlt
  refine lv_aload_n hc.x hc.b dL_law__216 rfl (lv_at hl 1 rfl) ?_
  refine lv_aload_n hc.x hc.b dL_law__217 rfl (lv_at hl 0 rfl) ?_
  refine lv_iload hc.x hc.b dL_law__218 (lv_at hl 4 rfl) ?_
  refine lv_iconst (v := 1) hc.x hc.b dL_law__220 (by decide) ?_
  refine lv_iadd hc.x hc.b dL_law__221 ?_
  refine r_sld hc hX hbl hbA hd (hi.1) (ea.1) dL_law__222 ?_
  refine lv_aload_n hc.x hc.b dL_law__223 rfl (lv_at hl 0 rfl) ?_
  refine lv_iload hc.x hc.b dL_law__224 (lv_at hl 4 rfl) ?_
  refine lv_iconst (v := 2) hc.x hc.b dL_law__226 (by decide) ?_
  refine lv_iadd hc.x hc.b dL_law__227 ?_
  refine r_sld hc hX hbl hbA hd (hi.2.1) (ea.2.1) dL_law__228 ?_
  refine lv_aload_n hc.x hc.b dL_law__229 rfl (lv_at hl 0 rfl) ?_
  refine lv_iload hc.x hc.b dL_law__230 (lv_at hl 4 rfl) ?_
  refine lv_iconst (v := 3) hc.x hc.b dL_law__232 (by decide) ?_
  refine lv_iadd hc.x hc.b dL_law__233 ?_
  refine r_sld hc hX hbl hbA hd (hi.2.2.1) (ea.2.2.1) dL_law__234 ?_
  refine lv_aload_n hc.x hc.b dL_law__235 rfl (lv_at hl 3 rfl) ?_
  obtain ⟨r_1, S_2, hq_3, hf⟩ := on2_s hf
  refine k_i (k_runSW hc hck hd my_L_station tw_446 (c_L_station l D cs B0 kt α Lv S 0 a1 a2 a3 0 hc.cl hL1 hL3 hst hq_3) rfl rfl hl.1 (Nat.le_of_ble_eq_true rfl) ⟨Nat.le_of_ble_eq_true rfl, Nat.le_of_ble_eq_true rfl, by show _ ≤ 601024; omega, by show _ ≤ 7293034; omega⟩ dL_law__236) hd (fun H locs hd => ?_)
  refine lv_istore (lv' := [(5, .int r_1), (0, .ref b), (1, .ref (α 0 0)), (2, .ref (α 60 0)), (3, .ref (α 81 0)), (4, .int x4)]) hc.x hc.b dL_law__239 hl (by decide) rfl (fun ls hl => ?_)
  refine lv_aload_n hc.x hc.b dL_law__241 rfl (lv_at hl 3 rfl) ?_
  refine lv_aload_n hc.x hc.b dL_law__242 rfl (lv_at hl 1 rfl) ?_
  refine lv_iload hc.x hc.b dL_law__243 (lv_at hl 5 rfl) ?_
  refine lv_iconst (v := 1) hc.x hc.b dL_law__245 (by decide) ?_
  refine lv_iadd hc.x hc.b dL_law__246 ?_
  refine r_sld hc hX hbl hbA hd (hi.1) (ea.1) dL_law__247 ?_
  refine lv_aload_n hc.x hc.b dL_law__248 rfl (lv_at hl 1 rfl) ?_
  refine lv_iload hc.x hc.b dL_law__249 (lv_at hl 5 rfl) ?_
  refine lv_iconst (v := 2) hc.x hc.b dL_law__251 (by decide) ?_
  refine lv_iadd hc.x hc.b dL_law__252 ?_
  refine r_sld hc hX hbl hbA hd (hi.2.1) (ea.2.1) dL_law__253 ?_
  refine lv_aload_n hc.x hc.b dL_law__254 rfl (lv_at hl 1 rfl) ?_
  refine lv_iload hc.x hc.b dL_law__255 (lv_at hl 5 rfl) ?_
  refine lv_iconst (v := 3) hc.x hc.b dL_law__257 (by decide) ?_
  refine lv_iadd hc.x hc.b dL_law__258 ?_
  refine r_sld hc hX hbl hbA hd (hi.2.2.1) (ea.2.2.1) dL_law__259 ?_
  obtain ⟨r_6, S_5, hq_4, hf⟩ := on2_s hf
  refine k_i (k_runV hc hd my_X12_station tw_1435 hL2 rfl rfl rfl (c_X12_station l D cs B0 kt α Lv S_2 0 a1 a2 a3 hc.cl hL2  hq_4) rfl rfl hl.1 (Nat.le_of_ble_eq_true rfl) ⟨Nat.le_of_ble_eq_true rfl, Nat.le_of_ble_eq_true rfl, by show _ ≤ 601024; omega, by show _ ≤ 7293034; omega⟩ dL_law__260) hd (fun H locs hd => ?_)
  refine lv_istore (lv' := [(6, .int r_6), (5, .int r_1), (0, .ref b), (1, .ref (α 0 0)), (2, .ref (α 60 0)), (3, .ref (α 81 0)), (4, .int x4)]) hc.x hc.b dL_law__263 hl (by decide) rfl (fun ls hl => ?_)
  refine lv_aload_n hc.x hc.b dL_law__265 rfl (lv_at hl 4 rfl) ?_
  obtain ⟨r_8, hq_7, hf⟩ := on_s hf
  refine k_i (k_runV hc hd my_X12_thrown tw_1431 hL2 rfl rfl rfl (c_X12_thrown l D cs B0 kt α Lv S_5 0 hc.cl hL2  hq_7) rfl rfl hl.1 (Nat.le_of_ble_eq_true rfl) ⟨Nat.le_of_ble_eq_true rfl, Nat.le_of_ble_eq_true rfl, by show _ ≤ 601024; omega, by show _ ≤ 7293034; omega⟩ dL_law__266) hd (fun H locs hd => ?_)
  refine lv_iload hc.x hc.b dL_law__269 (lv_at hl 1 rfl) ?_
  refine lv_icmp_eq (tgt := 276) hc.x hc.b dL_law__271 (by decide) (fun c_9 => ?_) (fun c_9 => ?_)
  · have hf := br_y c_9 hf
    refine lv_iload hc.x hc.b dL_law__276 (lv_at hl 1 rfl) ?_
    refine jn_s (P := fun J_11 => ∀  (S_10 : St) (H : Heap) (locs : List Loc) (ls : Array Slot), J_11 S_10 = some o → Dy s D cs B0 α Lv S_10 H locs → lv_has ls 8 [(0, .ref b), (1, .ref (α 0 0)), (2, .ref (α 60 0)), (3, .ref (α 81 0)), (4, .int x4)] → W p l e room_1 s m args below meth c H locs (cells + 1) (slots + 6) Q (F0 m 293 ls [])) hf ?_ (fun J_11 hJ_11 hf => ?_)
    · intro S_10 H locs ls hf hd hl
      refine lv_goto (tgt := 2923) hc.x hc.b dL_law__293 (by decide) ?_
      cases hf
      refine W.widen (k := cells + 40) (n := slots + 2000) (by omega) (by omega) ?_
      exact kk _ _ _ _ _ (hx.mono (by first | exact fun _ h => absurd h List.not_mem_nil | exact fun _ h => List.mem_append_left _ h | exact fun _ h => List.mem_append_right _ (List.mem_append_left _ h) | exact fun _ h => List.mem_append_right _ (List.mem_append_right _ h))) hc hd (lv_sub hl [0, 1, 2, 3, 4] rfl)
    refine lv_if_ne (tgt := 293) hc.x hc.b dL_law__278 (by decide) (fun c_12 => ?_) (fun c_12 => ?_)
    · have hf := br_n c_12 hf
      exact hJ_11 S_5 _ _ _ hf hd (lv_sub hl [2, 3, 4, 5, 6] rfl)
    · have hf := br_y c_12 hf
      refine lv_aload_n hc.x hc.b dL_law__281 rfl (lv_at hl 5 rfl) ?_
      refine lv_iconst (v := 0) hc.x hc.b dL_law__282 (by decide) ?_
      obtain ⟨hi_13, hf⟩ := ck_s hf
      refine r_lald hc hd hL3 rfl hi_13 dL_law__283 ?_
      refine lv_iload hc.x hc.b dL_law__284 (lv_at hl 0 rfl) ?_
      refine lv_i2l (v := Int32.toInt64 r_6) hc.x hc.b dL_law__286 rfl ?_
      refine W.lcmp hc.x hc.b dL_law__287 ?_
      refine lv_if_eq (tgt := 293) hc.x hc.b dL_law__288 (by decide) (fun c_14 => ?_) (fun c_14 => ?_)
      · have hf := br_y c_14 hf
        exact hJ_11 S_5 _ _ _ hf hd (lv_sub hl [2, 3, 4, 5, 6] rfl)
      · have hf := br_n c_14 hf
        refine lv_iconst (v := 0) hc.x hc.b dL_law__291 (by decide) ?_
        cases hf
  · have hf := br_n c_9 hf
    refine lv_iconst (v := 0) hc.x hc.b dL_law__274 (by decide) ?_
    cases hf
def fc_1 (gN : Nat) (a1 a2 a3 a4 a5 : Int32) (S : St) : Option St := on2 (f_L_driver 0 a1 a2 a3 a4 0 S) (fun r_1 S_2 => on2 (f_X12_driver 0 a1 a2 a3 a4 S_2) (fun r_6 S_5 => on (f_X12_thrown 0 S_5) (fun r_8 => br (r_8 = r_1) (bv (fun  (S_10 : St) => some S_10) (fun J_11 => br (r_1 = 0) (ck (inb 0 1 = true) (br ((lg_cmp (gl S_5 81 0 (nn 0)) (Int32.toInt64 r_6)) = 0) (J_11 S_5) (none))) (J_11 S_5))) (none))))
set_option maxRecDepth 100000 in
set_option maxHeartbeats 8000000 in
theorem lc_1 (hc : Cx p s m args meth c cL_law_ 8 "PumpCrossingLaw" D cs B0 kt Lv) (hck : CK cs s) (hst : l.stackTraces = false) {b L : Nat} {xs : Nat → Int32} (hX : va_X b L xs s s.heap) (hbl : b < s.heap.size) (hbA : ¬ B0 ≤ b) {x4 a1 a2 a3 a4 a5 : Int32} (hi : inb (x4 + 1) L = true ∧ inb (x4 + 2) L = true ∧ inb (x4 + 3) L = true ∧ inb (x4 + 4) L = true ∧ inb (x4 + 5) L = true) (ea : xs (nn (x4 + 1)) = a1 ∧ xs (nn (x4 + 2)) = a2 ∧ xs (nn (x4 + 3)) = a3 ∧ xs (nn (x4 + 4)) = a4 ∧ xs (nn (x4 + 5)) = a5) {o S : St} {gN : Nat} (hlt : ∀ k g, Lv k g → k < 1000) (hfr : ∀ x ∈ FL gN, ¬ Lv x.1 x.2) (hL1 : Lv 0 0) (hL2 : Lv 60 0) (hL3 : Lv 81 0) (hcc : cells + 60 ≤ 601024) (hss : slots + 3000 ≤ 7293034) (kk : ∀ (α1 : Nat → Nat → Nat) (Lv1 : Nat → Nat → Prop) (H1 : Heap) (locs1 : List Loc) (ls1 : Array Slot), Ex α Lv (1000, 0) α1 Lv1 (FL gN) → Cx p s m args meth c cL_law_ 8 "PumpCrossingLaw" D cs B0 kt Lv1 → Dy s D cs B0 α1 Lv1 o H1 locs1 → lv_has ls1 8 [(0, .ref b), (1, .ref (α1 0 0)), (2, .ref (α1 60 0)), (3, .ref (α1 81 0)), (4, .int x4)] → W p l e room_1 s m args below meth c H1 locs1 (cells + 40) (slots + 2000) Q (F0 m 2923 ls1 [])) {H : Heap} {locs : List Loc} {ls : Array Slot} (hf : fc_1 gN a1 a2 a3 a4 a5 S = some o) (hd : Dy s D cs B0 α Lv S H locs) (hl : lv_has ls 8 [(0, .ref b), (1, .ref (α 0 0)), (2, .ref (α 60 0)), (3, .ref (α 81 0)), (4, .int x4)]) : W p l e room_1 s m args below meth c H locs cells slots Q (F0 m 296 ls []) := by
  unfold fc_1 at hf
  have hx : Ex α Lv (1000, 0) α Lv [] := Ex.start hlt
  refine lv_aload_n hc.x hc.b dL_law__296 rfl (lv_at hl 1 rfl) ?_
  refine lv_aload_n hc.x hc.b dL_law__297 rfl (lv_at hl 0 rfl) ?_
  refine lv_iload hc.x hc.b dL_law__298 (lv_at hl 4 rfl) ?_
  refine lv_iconst (v := 1) hc.x hc.b dL_law__300 (by decide) ?_
  refine lv_iadd hc.x hc.b dL_law__301 ?_
  refine r_sld hc hX hbl hbA hd (hi.1) (ea.1) dL_law__302 ?_
  refine lv_aload_n hc.x hc.b dL_law__303 rfl (lv_at hl 0 rfl) ?_
  refine lv_iload hc.x hc.b dL_law__304 (lv_at hl 4 rfl) ?_
  refine lv_iconst (v := 2) hc.x hc.b dL_law__306 (by decide) ?_
  refine lv_iadd hc.x hc.b dL_law__307 ?_
  refine r_sld hc hX hbl hbA hd (hi.2.1) (ea.2.1) dL_law__308 ?_
  refine lv_aload_n hc.x hc.b dL_law__309 rfl (lv_at hl 0 rfl) ?_
  refine lv_iload hc.x hc.b dL_law__310 (lv_at hl 4 rfl) ?_
  refine lv_iconst (v := 3) hc.x hc.b dL_law__312 (by decide) ?_
  refine lv_iadd hc.x hc.b dL_law__313 ?_
  refine r_sld hc hX hbl hbA hd (hi.2.2.1) (ea.2.2.1) dL_law__314 ?_
  refine lv_aload_n hc.x hc.b dL_law__315 rfl (lv_at hl 0 rfl) ?_
  refine lv_iload hc.x hc.b dL_law__316 (lv_at hl 4 rfl) ?_
  refine lv_iconst (v := 4) hc.x hc.b dL_law__318 (by decide) ?_
  refine lv_iadd hc.x hc.b dL_law__319 ?_
  refine r_sld hc hX hbl hbA hd (hi.2.2.2.1) (ea.2.2.2.1) dL_law__320 ?_
  refine lv_aload_n hc.x hc.b dL_law__321 rfl (lv_at hl 3 rfl) ?_
  obtain ⟨r_1, S_2, hq_3, hf⟩ := on2_s hf
  refine k_i (k_runSW hc hck hd my_L_driver tw_551 (c_L_driver l D cs B0 kt α Lv S 0 a1 a2 a3 a4 0 hc.cl hL1 hL3 hst hq_3) rfl rfl hl.1 (Nat.le_of_ble_eq_true rfl) ⟨Nat.le_of_ble_eq_true rfl, Nat.le_of_ble_eq_true rfl, by show _ ≤ 601024; omega, by show _ ≤ 7293034; omega⟩ dL_law__322) hd (fun H locs hd => ?_)
  refine lv_istore (lv' := [(5, .int r_1), (0, .ref b), (1, .ref (α 0 0)), (2, .ref (α 60 0)), (3, .ref (α 81 0)), (4, .int x4)]) hc.x hc.b dL_law__325 hl (by decide) rfl (fun ls hl => ?_)
  refine lv_aload_n hc.x hc.b dL_law__327 rfl (lv_at hl 3 rfl) ?_
  refine lv_aload_n hc.x hc.b dL_law__328 rfl (lv_at hl 1 rfl) ?_
  refine lv_iload hc.x hc.b dL_law__329 (lv_at hl 5 rfl) ?_
  refine lv_iconst (v := 1) hc.x hc.b dL_law__331 (by decide) ?_
  refine lv_iadd hc.x hc.b dL_law__332 ?_
  refine r_sld hc hX hbl hbA hd (hi.1) (ea.1) dL_law__333 ?_
  refine lv_aload_n hc.x hc.b dL_law__334 rfl (lv_at hl 1 rfl) ?_
  refine lv_iload hc.x hc.b dL_law__335 (lv_at hl 5 rfl) ?_
  refine lv_iconst (v := 2) hc.x hc.b dL_law__337 (by decide) ?_
  refine lv_iadd hc.x hc.b dL_law__338 ?_
  refine r_sld hc hX hbl hbA hd (hi.2.1) (ea.2.1) dL_law__339 ?_
  refine lv_aload_n hc.x hc.b dL_law__340 rfl (lv_at hl 1 rfl) ?_
  refine lv_iload hc.x hc.b dL_law__341 (lv_at hl 5 rfl) ?_
  refine lv_iconst (v := 3) hc.x hc.b dL_law__343 (by decide) ?_
  refine lv_iadd hc.x hc.b dL_law__344 ?_
  refine r_sld hc hX hbl hbA hd (hi.2.2.1) (ea.2.2.1) dL_law__345 ?_
  refine lv_aload_n hc.x hc.b dL_law__346 rfl (lv_at hl 1 rfl) ?_
  refine lv_iload hc.x hc.b dL_law__347 (lv_at hl 5 rfl) ?_
  refine lv_iconst (v := 4) hc.x hc.b dL_law__349 (by decide) ?_
  refine lv_iadd hc.x hc.b dL_law__350 ?_
  refine r_sld hc hX hbl hbA hd (hi.2.2.2.1) (ea.2.2.2.1) dL_law__351 ?_
  obtain ⟨r_6, S_5, hq_4, hf⟩ := on2_s hf
  refine k_i (k_runV hc hd my_X12_driver tw_1448 hL2 rfl rfl rfl (c_X12_driver l D cs B0 kt α Lv S_2 0 a1 a2 a3 a4 hc.cl hL2  hq_4) rfl rfl hl.1 (Nat.le_of_ble_eq_true rfl) ⟨Nat.le_of_ble_eq_true rfl, Nat.le_of_ble_eq_true rfl, by show _ ≤ 601024; omega, by show _ ≤ 7293034; omega⟩ dL_law__352) hd (fun H locs hd => ?_)
  refine lv_istore (lv' := [(6, .int r_6), (5, .int r_1), (0, .ref b), (1, .ref (α 0 0)), (2, .ref (α 60 0)), (3, .ref (α 81 0)), (4, .int x4)]) hc.x hc.b dL_law__355 hl (by decide) rfl (fun ls hl => ?_)
  refine lv_aload_n hc.x hc.b dL_law__357 rfl (lv_at hl 4 rfl) ?_
  obtain ⟨r_8, hq_7, hf⟩ := on_s hf
  refine k_i (k_runV hc hd my_X12_thrown tw_1431 hL2 rfl rfl rfl (c_X12_thrown l D cs B0 kt α Lv S_5 0 hc.cl hL2  hq_7) rfl rfl hl.1 (Nat.le_of_ble_eq_true rfl) ⟨Nat.le_of_ble_eq_true rfl, Nat.le_of_ble_eq_true rfl, by show _ ≤ 601024; omega, by show _ ≤ 7293034; omega⟩ dL_law__358) hd (fun H locs hd => ?_)
  refine lv_iload hc.x hc.b dL_law__361 (lv_at hl 1 rfl) ?_
  refine lv_icmp_eq (tgt := 368) hc.x hc.b dL_law__363 (by decide) (fun c_9 => ?_) (fun c_9 => ?_)
  · have hf := br_y c_9 hf
    refine lv_iload hc.x hc.b dL_law__368 (lv_at hl 1 rfl) ?_
    refine jn_s (P := fun J_11 => ∀  (S_10 : St) (H : Heap) (locs : List Loc) (ls : Array Slot), J_11 S_10 = some o → Dy s D cs B0 α Lv S_10 H locs → lv_has ls 8 [(0, .ref b), (1, .ref (α 0 0)), (2, .ref (α 60 0)), (3, .ref (α 81 0)), (4, .int x4)] → W p l e room_1 s m args below meth c H locs (cells + 1) (slots + 6) Q (F0 m 385 ls [])) hf ?_ (fun J_11 hJ_11 hf => ?_)
    · intro S_10 H locs ls hf hd hl
      refine lv_goto (tgt := 2923) hc.x hc.b dL_law__385 (by decide) ?_
      cases hf
      refine W.widen (k := cells + 40) (n := slots + 2000) (by omega) (by omega) ?_
      exact kk _ _ _ _ _ (hx.mono (by first | exact fun _ h => absurd h List.not_mem_nil | exact fun _ h => List.mem_append_left _ h | exact fun _ h => List.mem_append_right _ (List.mem_append_left _ h) | exact fun _ h => List.mem_append_right _ (List.mem_append_right _ h))) hc hd (lv_sub hl [0, 1, 2, 3, 4] rfl)
    refine lv_if_ne (tgt := 385) hc.x hc.b dL_law__370 (by decide) (fun c_12 => ?_) (fun c_12 => ?_)
    · have hf := br_n c_12 hf
      exact hJ_11 S_5 _ _ _ hf hd (lv_sub hl [2, 3, 4, 5, 6] rfl)
    · have hf := br_y c_12 hf
      refine lv_aload_n hc.x hc.b dL_law__373 rfl (lv_at hl 5 rfl) ?_
      refine lv_iconst (v := 0) hc.x hc.b dL_law__374 (by decide) ?_
      obtain ⟨hi_13, hf⟩ := ck_s hf
      refine r_lald hc hd hL3 rfl hi_13 dL_law__375 ?_
      refine lv_iload hc.x hc.b dL_law__376 (lv_at hl 0 rfl) ?_
      refine lv_i2l (v := Int32.toInt64 r_6) hc.x hc.b dL_law__378 rfl ?_
      refine W.lcmp hc.x hc.b dL_law__379 ?_
      refine lv_if_eq (tgt := 385) hc.x hc.b dL_law__380 (by decide) (fun c_14 => ?_) (fun c_14 => ?_)
      · have hf := br_y c_14 hf
        exact hJ_11 S_5 _ _ _ hf hd (lv_sub hl [2, 3, 4, 5, 6] rfl)
      · have hf := br_n c_14 hf
        refine lv_iconst (v := 0) hc.x hc.b dL_law__383 (by decide) ?_
        cases hf
  · have hf := br_n c_9 hf
    refine lv_iconst (v := 0) hc.x hc.b dL_law__366 (by decide) ?_
    cases hf
def fc_2 (gN : Nat) (a1 a2 a3 a4 a5 : Int32) (S : St) : Option St := on2 (f_L_cost 0 a1 a2 0 S) (fun r_1 S_2 => on2 (f_X12_cost 0 a1 a2 S_2) (fun r_6 S_5 => on (f_X12_thrown 0 S_5) (fun r_8 => br (r_8 = r_1) (bv (fun  (S_10 : St) => some S_10) (fun J_11 => br (r_1 = 0) (ck (inb 0 1 = true) (br ((lg_cmp (gl S_5 81 0 (nn 0)) (Int32.toInt64 r_6)) = 0) (J_11 S_5) (none))) (J_11 S_5))) (none))))
set_option maxRecDepth 100000 in
set_option maxHeartbeats 8000000 in
theorem lc_2 (hc : Cx p s m args meth c cL_law_ 8 "PumpCrossingLaw" D cs B0 kt Lv) (hck : CK cs s) (hst : l.stackTraces = false) {b L : Nat} {xs : Nat → Int32} (hX : va_X b L xs s s.heap) (hbl : b < s.heap.size) (hbA : ¬ B0 ≤ b) {x4 a1 a2 a3 a4 a5 : Int32} (hi : inb (x4 + 1) L = true ∧ inb (x4 + 2) L = true ∧ inb (x4 + 3) L = true ∧ inb (x4 + 4) L = true ∧ inb (x4 + 5) L = true) (ea : xs (nn (x4 + 1)) = a1 ∧ xs (nn (x4 + 2)) = a2 ∧ xs (nn (x4 + 3)) = a3 ∧ xs (nn (x4 + 4)) = a4 ∧ xs (nn (x4 + 5)) = a5) {o S : St} {gN : Nat} (hlt : ∀ k g, Lv k g → k < 1000) (hfr : ∀ x ∈ FL gN, ¬ Lv x.1 x.2) (hL1 : Lv 0 0) (hL2 : Lv 60 0) (hL3 : Lv 81 0) (hcc : cells + 60 ≤ 601024) (hss : slots + 3000 ≤ 7293034) (kk : ∀ (α1 : Nat → Nat → Nat) (Lv1 : Nat → Nat → Prop) (H1 : Heap) (locs1 : List Loc) (ls1 : Array Slot), Ex α Lv (1000, 0) α1 Lv1 (FL gN) → Cx p s m args meth c cL_law_ 8 "PumpCrossingLaw" D cs B0 kt Lv1 → Dy s D cs B0 α1 Lv1 o H1 locs1 → lv_has ls1 8 [(0, .ref b), (1, .ref (α1 0 0)), (2, .ref (α1 60 0)), (3, .ref (α1 81 0)), (4, .int x4)] → W p l e room_1 s m args below meth c H1 locs1 (cells + 40) (slots + 2000) Q (F0 m 2923 ls1 [])) {H : Heap} {locs : List Loc} {ls : Array Slot} (hf : fc_2 gN a1 a2 a3 a4 a5 S = some o) (hd : Dy s D cs B0 α Lv S H locs) (hl : lv_has ls 8 [(0, .ref b), (1, .ref (α 0 0)), (2, .ref (α 60 0)), (3, .ref (α 81 0)), (4, .int x4)]) : W p l e room_1 s m args below meth c H locs cells slots Q (F0 m 388 ls []) := by
  unfold fc_2 at hf
  have hx : Ex α Lv (1000, 0) α Lv [] := Ex.start hlt
  refine lv_aload_n hc.x hc.b dL_law__388 rfl (lv_at hl 1 rfl) ?_
  refine lv_aload_n hc.x hc.b dL_law__389 rfl (lv_at hl 0 rfl) ?_
  refine lv_iload hc.x hc.b dL_law__390 (lv_at hl 4 rfl) ?_
  refine lv_iconst (v := 1) hc.x hc.b dL_law__392 (by decide) ?_
  refine lv_iadd hc.x hc.b dL_law__393 ?_
  refine r_sld hc hX hbl hbA hd (hi.1) (ea.1) dL_law__394 ?_
  refine lv_aload_n hc.x hc.b dL_law__395 rfl (lv_at hl 0 rfl) ?_
  refine lv_iload hc.x hc.b dL_law__396 (lv_at hl 4 rfl) ?_
  refine lv_iconst (v := 2) hc.x hc.b dL_law__398 (by decide) ?_
  refine lv_iadd hc.x hc.b dL_law__399 ?_
  refine r_sld hc hX hbl hbA hd (hi.2.1) (ea.2.1) dL_law__400 ?_
  refine lv_aload_n hc.x hc.b dL_law__401 rfl (lv_at hl 3 rfl) ?_
  obtain ⟨r_1, S_2, hq_3, hf⟩ := on2_s hf
  refine k_i (k_runSW hc hck hd my_L_cost tw_583 (c_L_cost l D cs B0 kt α Lv S 0 a1 a2 0 hc.cl hL1 hL3 hst hq_3) rfl rfl hl.1 (Nat.le_of_ble_eq_true rfl) ⟨Nat.le_of_ble_eq_true rfl, Nat.le_of_ble_eq_true rfl, by show _ ≤ 601024; omega, by show _ ≤ 7293034; omega⟩ dL_law__402) hd (fun H locs hd => ?_)
  refine lv_istore (lv' := [(5, .int r_1), (0, .ref b), (1, .ref (α 0 0)), (2, .ref (α 60 0)), (3, .ref (α 81 0)), (4, .int x4)]) hc.x hc.b dL_law__405 hl (by decide) rfl (fun ls hl => ?_)
  refine lv_aload_n hc.x hc.b dL_law__407 rfl (lv_at hl 3 rfl) ?_
  refine lv_aload_n hc.x hc.b dL_law__408 rfl (lv_at hl 1 rfl) ?_
  refine lv_iload hc.x hc.b dL_law__409 (lv_at hl 5 rfl) ?_
  refine lv_iconst (v := 1) hc.x hc.b dL_law__411 (by decide) ?_
  refine lv_iadd hc.x hc.b dL_law__412 ?_
  refine r_sld hc hX hbl hbA hd (hi.1) (ea.1) dL_law__413 ?_
  refine lv_aload_n hc.x hc.b dL_law__414 rfl (lv_at hl 1 rfl) ?_
  refine lv_iload hc.x hc.b dL_law__415 (lv_at hl 5 rfl) ?_
  refine lv_iconst (v := 2) hc.x hc.b dL_law__417 (by decide) ?_
  refine lv_iadd hc.x hc.b dL_law__418 ?_
  refine r_sld hc hX hbl hbA hd (hi.2.1) (ea.2.1) dL_law__419 ?_
  obtain ⟨r_6, S_5, hq_4, hf⟩ := on2_s hf
  refine k_i (k_runV hc hd my_X12_cost tw_1457 hL2 rfl rfl rfl (c_X12_cost l D cs B0 kt α Lv S_2 0 a1 a2 hc.cl hL2  hq_4) rfl rfl hl.1 (Nat.le_of_ble_eq_true rfl) ⟨Nat.le_of_ble_eq_true rfl, Nat.le_of_ble_eq_true rfl, by show _ ≤ 601024; omega, by show _ ≤ 7293034; omega⟩ dL_law__420) hd (fun H locs hd => ?_)
  refine lv_istore (lv' := [(6, .int r_6), (5, .int r_1), (0, .ref b), (1, .ref (α 0 0)), (2, .ref (α 60 0)), (3, .ref (α 81 0)), (4, .int x4)]) hc.x hc.b dL_law__423 hl (by decide) rfl (fun ls hl => ?_)
  refine lv_aload_n hc.x hc.b dL_law__425 rfl (lv_at hl 4 rfl) ?_
  obtain ⟨r_8, hq_7, hf⟩ := on_s hf
  refine k_i (k_runV hc hd my_X12_thrown tw_1431 hL2 rfl rfl rfl (c_X12_thrown l D cs B0 kt α Lv S_5 0 hc.cl hL2  hq_7) rfl rfl hl.1 (Nat.le_of_ble_eq_true rfl) ⟨Nat.le_of_ble_eq_true rfl, Nat.le_of_ble_eq_true rfl, by show _ ≤ 601024; omega, by show _ ≤ 7293034; omega⟩ dL_law__426) hd (fun H locs hd => ?_)
  refine lv_iload hc.x hc.b dL_law__429 (lv_at hl 1 rfl) ?_
  refine lv_icmp_eq (tgt := 436) hc.x hc.b dL_law__431 (by decide) (fun c_9 => ?_) (fun c_9 => ?_)
  · have hf := br_y c_9 hf
    refine lv_iload hc.x hc.b dL_law__436 (lv_at hl 1 rfl) ?_
    refine jn_s (P := fun J_11 => ∀  (S_10 : St) (H : Heap) (locs : List Loc) (ls : Array Slot), J_11 S_10 = some o → Dy s D cs B0 α Lv S_10 H locs → lv_has ls 8 [(0, .ref b), (1, .ref (α 0 0)), (2, .ref (α 60 0)), (3, .ref (α 81 0)), (4, .int x4)] → W p l e room_1 s m args below meth c H locs (cells + 1) (slots + 6) Q (F0 m 453 ls [])) hf ?_ (fun J_11 hJ_11 hf => ?_)
    · intro S_10 H locs ls hf hd hl
      refine lv_goto (tgt := 2923) hc.x hc.b dL_law__453 (by decide) ?_
      cases hf
      refine W.widen (k := cells + 40) (n := slots + 2000) (by omega) (by omega) ?_
      exact kk _ _ _ _ _ (hx.mono (by first | exact fun _ h => absurd h List.not_mem_nil | exact fun _ h => List.mem_append_left _ h | exact fun _ h => List.mem_append_right _ (List.mem_append_left _ h) | exact fun _ h => List.mem_append_right _ (List.mem_append_right _ h))) hc hd (lv_sub hl [0, 1, 2, 3, 4] rfl)
    refine lv_if_ne (tgt := 453) hc.x hc.b dL_law__438 (by decide) (fun c_12 => ?_) (fun c_12 => ?_)
    · have hf := br_n c_12 hf
      exact hJ_11 S_5 _ _ _ hf hd (lv_sub hl [2, 3, 4, 5, 6] rfl)
    · have hf := br_y c_12 hf
      refine lv_aload_n hc.x hc.b dL_law__441 rfl (lv_at hl 5 rfl) ?_
      refine lv_iconst (v := 0) hc.x hc.b dL_law__442 (by decide) ?_
      obtain ⟨hi_13, hf⟩ := ck_s hf
      refine r_lald hc hd hL3 rfl hi_13 dL_law__443 ?_
      refine lv_iload hc.x hc.b dL_law__444 (lv_at hl 0 rfl) ?_
      refine lv_i2l (v := Int32.toInt64 r_6) hc.x hc.b dL_law__446 rfl ?_
      refine W.lcmp hc.x hc.b dL_law__447 ?_
      refine lv_if_eq (tgt := 453) hc.x hc.b dL_law__448 (by decide) (fun c_14 => ?_) (fun c_14 => ?_)
      · have hf := br_y c_14 hf
        exact hJ_11 S_5 _ _ _ hf hd (lv_sub hl [2, 3, 4, 5, 6] rfl)
      · have hf := br_n c_14 hf
        refine lv_iconst (v := 0) hc.x hc.b dL_law__451 (by decide) ?_
        cases hf
  · have hf := br_n c_9 hf
    refine lv_iconst (v := 0) hc.x hc.b dL_law__434 (by decide) ?_
    cases hf
def fc_3 (gN : Nat) (a1 a2 a3 a4 a5 : Int32) (S : St) : Option St := on2 (f_L_late 0 a1 a2 0 S) (fun r_1 S_2 => on2 (f_X12_late 0 a1 a2 S_2) (fun r_6 S_5 => on (f_X12_thrown 0 S_5) (fun r_8 => br (r_8 = r_1) (bv (fun  (S_10 : St) => some S_10) (fun J_11 => br (r_1 = 0) (ck (inb 0 1 = true) (br ((lg_cmp (gl S_5 81 0 (nn 0)) (Int32.toInt64 r_6)) = 0) (J_11 S_5) (none))) (J_11 S_5))) (none))))
set_option maxRecDepth 100000 in
set_option maxHeartbeats 8000000 in
theorem lc_3 (hc : Cx p s m args meth c cL_law_ 8 "PumpCrossingLaw" D cs B0 kt Lv) (hck : CK cs s) (hst : l.stackTraces = false) {b L : Nat} {xs : Nat → Int32} (hX : va_X b L xs s s.heap) (hbl : b < s.heap.size) (hbA : ¬ B0 ≤ b) {x4 a1 a2 a3 a4 a5 : Int32} (hi : inb (x4 + 1) L = true ∧ inb (x4 + 2) L = true ∧ inb (x4 + 3) L = true ∧ inb (x4 + 4) L = true ∧ inb (x4 + 5) L = true) (ea : xs (nn (x4 + 1)) = a1 ∧ xs (nn (x4 + 2)) = a2 ∧ xs (nn (x4 + 3)) = a3 ∧ xs (nn (x4 + 4)) = a4 ∧ xs (nn (x4 + 5)) = a5) {o S : St} {gN : Nat} (hlt : ∀ k g, Lv k g → k < 1000) (hfr : ∀ x ∈ FL gN, ¬ Lv x.1 x.2) (hL1 : Lv 0 0) (hL2 : Lv 60 0) (hL3 : Lv 81 0) (hcc : cells + 60 ≤ 601024) (hss : slots + 3000 ≤ 7293034) (kk : ∀ (α1 : Nat → Nat → Nat) (Lv1 : Nat → Nat → Prop) (H1 : Heap) (locs1 : List Loc) (ls1 : Array Slot), Ex α Lv (1000, 0) α1 Lv1 (FL gN) → Cx p s m args meth c cL_law_ 8 "PumpCrossingLaw" D cs B0 kt Lv1 → Dy s D cs B0 α1 Lv1 o H1 locs1 → lv_has ls1 8 [(0, .ref b), (1, .ref (α1 0 0)), (2, .ref (α1 60 0)), (3, .ref (α1 81 0)), (4, .int x4)] → W p l e room_1 s m args below meth c H1 locs1 (cells + 40) (slots + 2000) Q (F0 m 2923 ls1 [])) {H : Heap} {locs : List Loc} {ls : Array Slot} (hf : fc_3 gN a1 a2 a3 a4 a5 S = some o) (hd : Dy s D cs B0 α Lv S H locs) (hl : lv_has ls 8 [(0, .ref b), (1, .ref (α 0 0)), (2, .ref (α 60 0)), (3, .ref (α 81 0)), (4, .int x4)]) : W p l e room_1 s m args below meth c H locs cells slots Q (F0 m 456 ls []) := by
  unfold fc_3 at hf
  have hx : Ex α Lv (1000, 0) α Lv [] := Ex.start hlt
  refine lv_aload_n hc.x hc.b dL_law__456 rfl (lv_at hl 1 rfl) ?_
  refine lv_aload_n hc.x hc.b dL_law__457 rfl (lv_at hl 0 rfl) ?_
  refine lv_iload hc.x hc.b dL_law__458 (lv_at hl 4 rfl) ?_
  refine lv_iconst (v := 1) hc.x hc.b dL_law__460 (by decide) ?_
  refine lv_iadd hc.x hc.b dL_law__461 ?_
  refine r_sld hc hX hbl hbA hd (hi.1) (ea.1) dL_law__462 ?_
  refine lv_aload_n hc.x hc.b dL_law__463 rfl (lv_at hl 0 rfl) ?_
  refine lv_iload hc.x hc.b dL_law__464 (lv_at hl 4 rfl) ?_
  refine lv_iconst (v := 2) hc.x hc.b dL_law__466 (by decide) ?_
  refine lv_iadd hc.x hc.b dL_law__467 ?_
  refine r_sld hc hX hbl hbA hd (hi.2.1) (ea.2.1) dL_law__468 ?_
  refine lv_aload_n hc.x hc.b dL_law__469 rfl (lv_at hl 3 rfl) ?_
  obtain ⟨r_1, S_2, hq_3, hf⟩ := on2_s hf
  refine k_i (k_runSW hc hck hd my_L_late tw_601 (c_L_late l D cs B0 kt α Lv S 0 a1 a2 0 hc.cl hL1 hL3 hst hq_3) rfl rfl hl.1 (Nat.le_of_ble_eq_true rfl) ⟨Nat.le_of_ble_eq_true rfl, Nat.le_of_ble_eq_true rfl, by show _ ≤ 601024; omega, by show _ ≤ 7293034; omega⟩ dL_law__470) hd (fun H locs hd => ?_)
  refine lv_istore (lv' := [(5, .int r_1), (0, .ref b), (1, .ref (α 0 0)), (2, .ref (α 60 0)), (3, .ref (α 81 0)), (4, .int x4)]) hc.x hc.b dL_law__473 hl (by decide) rfl (fun ls hl => ?_)
  refine lv_aload_n hc.x hc.b dL_law__475 rfl (lv_at hl 3 rfl) ?_
  refine lv_aload_n hc.x hc.b dL_law__476 rfl (lv_at hl 1 rfl) ?_
  refine lv_iload hc.x hc.b dL_law__477 (lv_at hl 5 rfl) ?_
  refine lv_iconst (v := 1) hc.x hc.b dL_law__479 (by decide) ?_
  refine lv_iadd hc.x hc.b dL_law__480 ?_
  refine r_sld hc hX hbl hbA hd (hi.1) (ea.1) dL_law__481 ?_
  refine lv_aload_n hc.x hc.b dL_law__482 rfl (lv_at hl 1 rfl) ?_
  refine lv_iload hc.x hc.b dL_law__483 (lv_at hl 5 rfl) ?_
  refine lv_iconst (v := 2) hc.x hc.b dL_law__485 (by decide) ?_
  refine lv_iadd hc.x hc.b dL_law__486 ?_
  refine r_sld hc hX hbl hbA hd (hi.2.1) (ea.2.1) dL_law__487 ?_
  obtain ⟨r_6, S_5, hq_4, hf⟩ := on2_s hf
  refine k_i (k_runV hc hd my_X12_late tw_1465 hL2 rfl rfl rfl (c_X12_late l D cs B0 kt α Lv S_2 0 a1 a2 hc.cl hL2  hq_4) rfl rfl hl.1 (Nat.le_of_ble_eq_true rfl) ⟨Nat.le_of_ble_eq_true rfl, Nat.le_of_ble_eq_true rfl, by show _ ≤ 601024; omega, by show _ ≤ 7293034; omega⟩ dL_law__488) hd (fun H locs hd => ?_)
  refine lv_istore (lv' := [(6, .int r_6), (5, .int r_1), (0, .ref b), (1, .ref (α 0 0)), (2, .ref (α 60 0)), (3, .ref (α 81 0)), (4, .int x4)]) hc.x hc.b dL_law__491 hl (by decide) rfl (fun ls hl => ?_)
  refine lv_aload_n hc.x hc.b dL_law__493 rfl (lv_at hl 4 rfl) ?_
  obtain ⟨r_8, hq_7, hf⟩ := on_s hf
  refine k_i (k_runV hc hd my_X12_thrown tw_1431 hL2 rfl rfl rfl (c_X12_thrown l D cs B0 kt α Lv S_5 0 hc.cl hL2  hq_7) rfl rfl hl.1 (Nat.le_of_ble_eq_true rfl) ⟨Nat.le_of_ble_eq_true rfl, Nat.le_of_ble_eq_true rfl, by show _ ≤ 601024; omega, by show _ ≤ 7293034; omega⟩ dL_law__494) hd (fun H locs hd => ?_)
  refine lv_iload hc.x hc.b dL_law__497 (lv_at hl 1 rfl) ?_
  refine lv_icmp_eq (tgt := 504) hc.x hc.b dL_law__499 (by decide) (fun c_9 => ?_) (fun c_9 => ?_)
  · have hf := br_y c_9 hf
    refine lv_iload hc.x hc.b dL_law__504 (lv_at hl 1 rfl) ?_
    refine jn_s (P := fun J_11 => ∀  (S_10 : St) (H : Heap) (locs : List Loc) (ls : Array Slot), J_11 S_10 = some o → Dy s D cs B0 α Lv S_10 H locs → lv_has ls 8 [(0, .ref b), (1, .ref (α 0 0)), (2, .ref (α 60 0)), (3, .ref (α 81 0)), (4, .int x4)] → W p l e room_1 s m args below meth c H locs (cells + 1) (slots + 6) Q (F0 m 521 ls [])) hf ?_ (fun J_11 hJ_11 hf => ?_)
    · intro S_10 H locs ls hf hd hl
      refine lv_goto (tgt := 2923) hc.x hc.b dL_law__521 (by decide) ?_
      cases hf
      refine W.widen (k := cells + 40) (n := slots + 2000) (by omega) (by omega) ?_
      exact kk _ _ _ _ _ (hx.mono (by first | exact fun _ h => absurd h List.not_mem_nil | exact fun _ h => List.mem_append_left _ h | exact fun _ h => List.mem_append_right _ (List.mem_append_left _ h) | exact fun _ h => List.mem_append_right _ (List.mem_append_right _ h))) hc hd (lv_sub hl [0, 1, 2, 3, 4] rfl)
    refine lv_if_ne (tgt := 521) hc.x hc.b dL_law__506 (by decide) (fun c_12 => ?_) (fun c_12 => ?_)
    · have hf := br_n c_12 hf
      exact hJ_11 S_5 _ _ _ hf hd (lv_sub hl [2, 3, 4, 5, 6] rfl)
    · have hf := br_y c_12 hf
      refine lv_aload_n hc.x hc.b dL_law__509 rfl (lv_at hl 5 rfl) ?_
      refine lv_iconst (v := 0) hc.x hc.b dL_law__510 (by decide) ?_
      obtain ⟨hi_13, hf⟩ := ck_s hf
      refine r_lald hc hd hL3 rfl hi_13 dL_law__511 ?_
      refine lv_iload hc.x hc.b dL_law__512 (lv_at hl 0 rfl) ?_
      refine lv_i2l (v := Int32.toInt64 r_6) hc.x hc.b dL_law__514 rfl ?_
      refine W.lcmp hc.x hc.b dL_law__515 ?_
      refine lv_if_eq (tgt := 521) hc.x hc.b dL_law__516 (by decide) (fun c_14 => ?_) (fun c_14 => ?_)
      · have hf := br_y c_14 hf
        exact hJ_11 S_5 _ _ _ hf hd (lv_sub hl [2, 3, 4, 5, 6] rfl)
      · have hf := br_n c_14 hf
        refine lv_iconst (v := 0) hc.x hc.b dL_law__519 (by decide) ?_
        cases hf
  · have hf := br_n c_9 hf
    refine lv_iconst (v := 0) hc.x hc.b dL_law__502 (by decide) ?_
    cases hf
def fc_4 (gN : Nat) (a1 a2 a3 a4 a5 : Int32) (S : St) : Option St := on2 (f_X11_feed 0 a1 a2 a3 a4 a5 S) (fun r_3 S_2 => on2 (f_X12_feed 0 a1 a2 a3 a4 a5 S_2) (fun r_6 S_5 => br (r_3 = r_6) (some S_5) (none)))
set_option maxRecDepth 100000 in
set_option maxHeartbeats 8000000 in
theorem lc_4 (hc : Cx p s m args meth c cL_law_ 8 "PumpCrossingLaw" D cs B0 kt Lv) (hck : CK cs s) (hst : l.stackTraces = false) {b L : Nat} {xs : Nat → Int32} (hX : va_X b L xs s s.heap) (hbl : b < s.heap.size) (hbA : ¬ B0 ≤ b) {x4 a1 a2 a3 a4 a5 : Int32} (hi : inb (x4 + 1) L = true ∧ inb (x4 + 2) L = true ∧ inb (x4 + 3) L = true ∧ inb (x4 + 4) L = true ∧ inb (x4 + 5) L = true) (ea : xs (nn (x4 + 1)) = a1 ∧ xs (nn (x4 + 2)) = a2 ∧ xs (nn (x4 + 3)) = a3 ∧ xs (nn (x4 + 4)) = a4 ∧ xs (nn (x4 + 5)) = a5) {o S : St} {gN : Nat} (hlt : ∀ k g, Lv k g → k < 1000) (hfr : ∀ x ∈ FL gN, ¬ Lv x.1 x.2) (hL1 : Lv 0 0) (hL2 : Lv 60 0) (hL3 : Lv 81 0) (hcc : cells + 60 ≤ 601024) (hss : slots + 3000 ≤ 7293034) (kk : ∀ (α1 : Nat → Nat → Nat) (Lv1 : Nat → Nat → Prop) (H1 : Heap) (locs1 : List Loc) (ls1 : Array Slot), Ex α Lv (1000, 0) α1 Lv1 (FL gN) → Cx p s m args meth c cL_law_ 8 "PumpCrossingLaw" D cs B0 kt Lv1 → Dy s D cs B0 α1 Lv1 o H1 locs1 → lv_has ls1 8 [(0, .ref b), (1, .ref (α1 0 0)), (2, .ref (α1 60 0)), (3, .ref (α1 81 0)), (4, .int x4)] → W p l e room_1 s m args below meth c H1 locs1 (cells + 40) (slots + 2000) Q (F0 m 2923 ls1 [])) {H : Heap} {locs : List Loc} {ls : Array Slot} (hf : fc_4 gN a1 a2 a3 a4 a5 S = some o) (hd : Dy s D cs B0 α Lv S H locs) (hl : lv_has ls 8 [(0, .ref b), (1, .ref (α 0 0)), (2, .ref (α 60 0)), (3, .ref (α 81 0)), (4, .int x4)]) : W p l e room_1 s m args below meth c H locs cells slots Q (F0 m 524 ls []) := by
  unfold fc_4 at hf
  have hx : Ex α Lv (1000, 0) α Lv [] := Ex.start hlt
  refine lv_aload_n hc.x hc.b dL_law__524 rfl (lv_at hl 1 rfl) ?_
  refine lv_aload_n hc.x hc.b dL_law__525 rfl (lv_at hl 0 rfl) ?_
  refine lv_iload hc.x hc.b dL_law__526 (lv_at hl 4 rfl) ?_
  refine lv_iconst (v := 1) hc.x hc.b dL_law__528 (by decide) ?_
  refine lv_iadd hc.x hc.b dL_law__529 ?_
  refine r_sld hc hX hbl hbA hd (hi.1) (ea.1) dL_law__530 ?_
  refine lv_aload_n hc.x hc.b dL_law__531 rfl (lv_at hl 0 rfl) ?_
  refine lv_iload hc.x hc.b dL_law__532 (lv_at hl 4 rfl) ?_
  refine lv_iconst (v := 2) hc.x hc.b dL_law__534 (by decide) ?_
  refine lv_iadd hc.x hc.b dL_law__535 ?_
  refine r_sld hc hX hbl hbA hd (hi.2.1) (ea.2.1) dL_law__536 ?_
  refine lv_aload_n hc.x hc.b dL_law__537 rfl (lv_at hl 0 rfl) ?_
  refine lv_iload hc.x hc.b dL_law__538 (lv_at hl 4 rfl) ?_
  refine lv_iconst (v := 3) hc.x hc.b dL_law__540 (by decide) ?_
  refine lv_iadd hc.x hc.b dL_law__541 ?_
  refine r_sld hc hX hbl hbA hd (hi.2.2.1) (ea.2.2.1) dL_law__542 ?_
  refine lv_aload_n hc.x hc.b dL_law__543 rfl (lv_at hl 0 rfl) ?_
  refine lv_iload hc.x hc.b dL_law__544 (lv_at hl 4 rfl) ?_
  refine lv_iconst (v := 4) hc.x hc.b dL_law__546 (by decide) ?_
  refine lv_iadd hc.x hc.b dL_law__547 ?_
  refine r_sld hc hX hbl hbA hd (hi.2.2.2.1) (ea.2.2.2.1) dL_law__548 ?_
  refine lv_aload_n hc.x hc.b dL_law__549 rfl (lv_at hl 0 rfl) ?_
  refine lv_iload hc.x hc.b dL_law__550 (lv_at hl 4 rfl) ?_
  refine lv_iconst (v := 5) hc.x hc.b dL_law__552 (by decide) ?_
  refine lv_iadd hc.x hc.b dL_law__553 ?_
  refine r_sld hc hX hbl hbA hd (hi.2.2.2.2) (ea.2.2.2.2) dL_law__554 ?_
  obtain ⟨r_3, S_2, hq_1, hf⟩ := on2_s hf
  refine k_i (k_runV hc hd my_X11_feed tw_378 hL1 rfl rfl rfl (c_X11_feed l D cs B0 kt α Lv S 0 a1 a2 a3 a4 a5 hc.cl hL1  hq_1) rfl rfl hl.1 (Nat.le_of_ble_eq_true rfl) ⟨Nat.le_of_ble_eq_true rfl, Nat.le_of_ble_eq_true rfl, by show _ ≤ 601024; omega, by show _ ≤ 7293034; omega⟩ dL_law__555) hd (fun H locs hd => ?_)
  refine lv_aload_n hc.x hc.b dL_law__558 rfl (lv_at hl 2 rfl) ?_
  refine lv_aload_n hc.x hc.b dL_law__559 rfl (lv_at hl 0 rfl) ?_
  refine lv_iload hc.x hc.b dL_law__560 (lv_at hl 4 rfl) ?_
  refine lv_iconst (v := 1) hc.x hc.b dL_law__562 (by decide) ?_
  refine lv_iadd hc.x hc.b dL_law__563 ?_
  refine r_sld hc hX hbl hbA hd (hi.1) (ea.1) dL_law__564 ?_
  refine lv_aload_n hc.x hc.b dL_law__565 rfl (lv_at hl 0 rfl) ?_
  refine lv_iload hc.x hc.b dL_law__566 (lv_at hl 4 rfl) ?_
  refine lv_iconst (v := 2) hc.x hc.b dL_law__568 (by decide) ?_
  refine lv_iadd hc.x hc.b dL_law__569 ?_
  refine r_sld hc hX hbl hbA hd (hi.2.1) (ea.2.1) dL_law__570 ?_
  refine lv_aload_n hc.x hc.b dL_law__571 rfl (lv_at hl 0 rfl) ?_
  refine lv_iload hc.x hc.b dL_law__572 (lv_at hl 4 rfl) ?_
  refine lv_iconst (v := 3) hc.x hc.b dL_law__574 (by decide) ?_
  refine lv_iadd hc.x hc.b dL_law__575 ?_
  refine r_sld hc hX hbl hbA hd (hi.2.2.1) (ea.2.2.1) dL_law__576 ?_
  refine lv_aload_n hc.x hc.b dL_law__577 rfl (lv_at hl 0 rfl) ?_
  refine lv_iload hc.x hc.b dL_law__578 (lv_at hl 4 rfl) ?_
  refine lv_iconst (v := 4) hc.x hc.b dL_law__580 (by decide) ?_
  refine lv_iadd hc.x hc.b dL_law__581 ?_
  refine r_sld hc hX hbl hbA hd (hi.2.2.2.1) (ea.2.2.2.1) dL_law__582 ?_
  refine lv_aload_n hc.x hc.b dL_law__583 rfl (lv_at hl 0 rfl) ?_
  refine lv_iload hc.x hc.b dL_law__584 (lv_at hl 4 rfl) ?_
  refine lv_iconst (v := 5) hc.x hc.b dL_law__586 (by decide) ?_
  refine lv_iadd hc.x hc.b dL_law__587 ?_
  refine r_sld hc hX hbl hbA hd (hi.2.2.2.2) (ea.2.2.2.2) dL_law__588 ?_
  obtain ⟨r_6, S_5, hq_4, hf⟩ := on2_s hf
  refine k_i (k_runV hc hd my_X12_feed tw_1469 hL2 rfl rfl rfl (c_X12_feed l D cs B0 kt α Lv S_2 0 a1 a2 a3 a4 a5 hc.cl hL2  hq_4) rfl rfl hl.1 (Nat.le_of_ble_eq_true rfl) ⟨Nat.le_of_ble_eq_true rfl, Nat.le_of_ble_eq_true rfl, by show _ ≤ 601024; omega, by show _ ≤ 7293034; omega⟩ dL_law__589) hd (fun H locs hd => ?_)
  refine lv_icmp_eq (tgt := 2923) hc.x hc.b dL_law__592 (by decide) (fun c_7 => ?_) (fun c_7 => ?_)
  · have hf := br_y c_7 hf
    cases hf
    refine W.widen (k := cells + 40) (n := slots + 2000) (by omega) (by omega) ?_
    exact kk _ _ _ _ _ (hx.mono (by first | exact fun _ h => absurd h List.not_mem_nil | exact fun _ h => List.mem_append_left _ h | exact fun _ h => List.mem_append_right _ (List.mem_append_left _ h) | exact fun _ h => List.mem_append_right _ (List.mem_append_right _ h))) hc hd (lv_sub hl [0, 1, 2, 3, 4] rfl)
  · have hf := br_n c_7 hf
    refine lv_iconst (v := 0) hc.x hc.b dL_law__595 (by decide) ?_
    cases hf
def fc_5 (gN : Nat) (a1 a2 a3 a4 a5 : Int32) (S : St) : Option St := on2 (f_L_rules 0 gN a1 a2 0 S) (fun r_1 S_2 => on2 (f_X12_rules 0 a1 a2 S_2) (fun r_6 S_5 => on (f_X12_thrown 0 S_5) (fun r_8 => br (r_8 = r_1) (bv (fun  (S_10 : St) => some S_10) (fun J_11 => br (r_1 = 0) (ck (inb 0 1 = true) (br ((lg_cmp (gl S_5 81 0 (nn 0)) (Int32.toInt64 r_6)) = 0) (J_11 S_5) (none))) (J_11 S_5))) (none))))
set_option maxRecDepth 100000 in
set_option maxHeartbeats 8000000 in
theorem lc_5 (hc : Cx p s m args meth c cL_law_ 8 "PumpCrossingLaw" D cs B0 kt Lv) (hck : CK cs s) (hst : l.stackTraces = false) {b L : Nat} {xs : Nat → Int32} (hX : va_X b L xs s s.heap) (hbl : b < s.heap.size) (hbA : ¬ B0 ≤ b) {x4 a1 a2 a3 a4 a5 : Int32} (hi : inb (x4 + 1) L = true ∧ inb (x4 + 2) L = true ∧ inb (x4 + 3) L = true ∧ inb (x4 + 4) L = true ∧ inb (x4 + 5) L = true) (ea : xs (nn (x4 + 1)) = a1 ∧ xs (nn (x4 + 2)) = a2 ∧ xs (nn (x4 + 3)) = a3 ∧ xs (nn (x4 + 4)) = a4 ∧ xs (nn (x4 + 5)) = a5) {o S : St} {gN : Nat} (hlt : ∀ k g, Lv k g → k < 1000) (hfr : ∀ x ∈ FL gN, ¬ Lv x.1 x.2) (hL1 : Lv 0 0) (hL2 : Lv 60 0) (hL3 : Lv 81 0) (hcc : cells + 60 ≤ 601024) (hss : slots + 3000 ≤ 7293034) (kk : ∀ (α1 : Nat → Nat → Nat) (Lv1 : Nat → Nat → Prop) (H1 : Heap) (locs1 : List Loc) (ls1 : Array Slot), Ex α Lv (1000, 0) α1 Lv1 (FL gN) → Cx p s m args meth c cL_law_ 8 "PumpCrossingLaw" D cs B0 kt Lv1 → Dy s D cs B0 α1 Lv1 o H1 locs1 → lv_has ls1 8 [(0, .ref b), (1, .ref (α1 0 0)), (2, .ref (α1 60 0)), (3, .ref (α1 81 0)), (4, .int x4)] → W p l e room_1 s m args below meth c H1 locs1 (cells + 40) (slots + 2000) Q (F0 m 2923 ls1 [])) {H : Heap} {locs : List Loc} {ls : Array Slot} (hf : fc_5 gN a1 a2 a3 a4 a5 S = some o) (hd : Dy s D cs B0 α Lv S H locs) (hl : lv_has ls 8 [(0, .ref b), (1, .ref (α 0 0)), (2, .ref (α 60 0)), (3, .ref (α 81 0)), (4, .int x4)]) : W p l e room_1 s m args below meth c H locs cells slots Q (F0 m 597 ls []) := by
  unfold fc_5 at hf
  have hx : Ex α Lv (1000, 0) α Lv [] := Ex.start hlt
  refine lv_aload_n hc.x hc.b dL_law__597 rfl (lv_at hl 1 rfl) ?_
  refine lv_aload_n hc.x hc.b dL_law__598 rfl (lv_at hl 0 rfl) ?_
  refine lv_iload hc.x hc.b dL_law__599 (lv_at hl 4 rfl) ?_
  refine lv_iconst (v := 1) hc.x hc.b dL_law__601 (by decide) ?_
  refine lv_iadd hc.x hc.b dL_law__602 ?_
  refine r_sld hc hX hbl hbA hd (hi.1) (ea.1) dL_law__603 ?_
  refine lv_aload_n hc.x hc.b dL_law__604 rfl (lv_at hl 0 rfl) ?_
  refine lv_iload hc.x hc.b dL_law__605 (lv_at hl 4 rfl) ?_
  refine lv_iconst (v := 2) hc.x hc.b dL_law__607 (by decide) ?_
  refine lv_iadd hc.x hc.b dL_law__608 ?_
  refine r_sld hc hX hbl hbA hd (hi.2.1) (ea.2.1) dL_law__609 ?_
  refine lv_aload_n hc.x hc.b dL_law__610 rfl (lv_at hl 3 rfl) ?_
  obtain ⟨r_1, S_2, hq_3, hf⟩ := on2_s hf
  refine k_iA hc (k_runSW hc hck hd my_L_rules tw_608 (c_L_rules l D cs B0 kt α Lv S 0 gN a1 a2 0 hc.cl hlt (fun x h => hfr x (List.mem_append_left _ h)) hL1 hL3 hst hq_3) rfl rfl hl.1 (Nat.le_of_ble_eq_true rfl) ⟨Nat.le_of_ble_eq_true rfl, Nat.le_of_ble_eq_true rfl, by show _ ≤ 601024; omega, by show _ ≤ 7293034; omega⟩ dL_law__611) hd (fun α Lv H locs ho ha hc hd hx => ?_)
  have hl : lv_has ls 8 [(0, .ref b), (1, .ref (α 0 0)), (2, .ref (α 60 0)), (3, .ref (α 81 0)), (4, .int x4)] := by rw [ha _ _ hL1, ha _ _ hL2, ha _ _ hL3]; exact hl
  have hL1 := ho _ _ hL1
  have hL2 := ho _ _ hL2
  have hL3 := ho _ _ hL3
  refine lv_istore (lv' := [(5, .int r_1), (0, .ref b), (1, .ref (α 0 0)), (2, .ref (α 60 0)), (3, .ref (α 81 0)), (4, .int x4)]) hc.x hc.b dL_law__614 hl (by decide) rfl (fun ls hl => ?_)
  refine lv_aload_n hc.x hc.b dL_law__616 rfl (lv_at hl 3 rfl) ?_
  refine lv_aload_n hc.x hc.b dL_law__617 rfl (lv_at hl 1 rfl) ?_
  refine lv_iload hc.x hc.b dL_law__618 (lv_at hl 5 rfl) ?_
  refine lv_iconst (v := 1) hc.x hc.b dL_law__620 (by decide) ?_
  refine lv_iadd hc.x hc.b dL_law__621 ?_
  refine r_sld hc hX hbl hbA hd (hi.1) (ea.1) dL_law__622 ?_
  refine lv_aload_n hc.x hc.b dL_law__623 rfl (lv_at hl 1 rfl) ?_
  refine lv_iload hc.x hc.b dL_law__624 (lv_at hl 5 rfl) ?_
  refine lv_iconst (v := 2) hc.x hc.b dL_law__626 (by decide) ?_
  refine lv_iadd hc.x hc.b dL_law__627 ?_
  refine r_sld hc hX hbl hbA hd (hi.2.1) (ea.2.1) dL_law__628 ?_
  obtain ⟨r_6, S_5, hq_4, hf⟩ := on2_s hf
  refine k_i (k_runV hc hd my_X12_rules tw_1473 hL2 rfl rfl rfl (c_X12_rules l D cs B0 kt α Lv S_2 0 a1 a2 hc.cl hL2  hq_4) rfl rfl hl.1 (Nat.le_of_ble_eq_true rfl) ⟨Nat.le_of_ble_eq_true rfl, Nat.le_of_ble_eq_true rfl, by show _ ≤ 601024; omega, by show _ ≤ 7293034; omega⟩ dL_law__629) hd (fun H locs hd => ?_)
  refine lv_istore (lv' := [(6, .int r_6), (5, .int r_1), (0, .ref b), (1, .ref (α 0 0)), (2, .ref (α 60 0)), (3, .ref (α 81 0)), (4, .int x4)]) hc.x hc.b dL_law__632 hl (by decide) rfl (fun ls hl => ?_)
  refine lv_aload_n hc.x hc.b dL_law__634 rfl (lv_at hl 4 rfl) ?_
  obtain ⟨r_8, hq_7, hf⟩ := on_s hf
  refine k_i (k_runV hc hd my_X12_thrown tw_1431 hL2 rfl rfl rfl (c_X12_thrown l D cs B0 kt α Lv S_5 0 hc.cl hL2  hq_7) rfl rfl hl.1 (Nat.le_of_ble_eq_true rfl) ⟨Nat.le_of_ble_eq_true rfl, Nat.le_of_ble_eq_true rfl, by show _ ≤ 601024; omega, by show _ ≤ 7293034; omega⟩ dL_law__635) hd (fun H locs hd => ?_)
  refine lv_iload hc.x hc.b dL_law__638 (lv_at hl 1 rfl) ?_
  refine lv_icmp_eq (tgt := 645) hc.x hc.b dL_law__640 (by decide) (fun c_9 => ?_) (fun c_9 => ?_)
  · have hf := br_y c_9 hf
    refine lv_iload hc.x hc.b dL_law__645 (lv_at hl 1 rfl) ?_
    refine jn_s (P := fun J_11 => ∀  (S_10 : St) (H : Heap) (locs : List Loc) (ls : Array Slot), J_11 S_10 = some o → Dy s D cs B0 α Lv S_10 H locs → lv_has ls 8 [(0, .ref b), (1, .ref (α 0 0)), (2, .ref (α 60 0)), (3, .ref (α 81 0)), (4, .int x4)] → W p l e room_1 s m args below meth c H locs (cells + 3) (slots + 414) Q (F0 m 662 ls [])) hf ?_ (fun J_11 hJ_11 hf => ?_)
    · intro S_10 H locs ls hf hd hl
      refine lv_goto (tgt := 2923) hc.x hc.b dL_law__662 (by decide) ?_
      cases hf
      refine W.widen (k := cells + 40) (n := slots + 2000) (by omega) (by omega) ?_
      exact kk _ _ _ _ _ (hx.mono (by first | exact fun _ h => absurd h List.not_mem_nil | exact fun _ h => List.mem_append_left _ h | exact fun _ h => List.mem_append_right _ (List.mem_append_left _ h) | exact fun _ h => List.mem_append_right _ (List.mem_append_right _ h))) hc hd (lv_sub hl [0, 1, 2, 3, 4] rfl)
    refine lv_if_ne (tgt := 662) hc.x hc.b dL_law__647 (by decide) (fun c_12 => ?_) (fun c_12 => ?_)
    · have hf := br_n c_12 hf
      exact hJ_11 S_5 _ _ _ hf hd (lv_sub hl [2, 3, 4, 5, 6] rfl)
    · have hf := br_y c_12 hf
      refine lv_aload_n hc.x hc.b dL_law__650 rfl (lv_at hl 5 rfl) ?_
      refine lv_iconst (v := 0) hc.x hc.b dL_law__651 (by decide) ?_
      obtain ⟨hi_13, hf⟩ := ck_s hf
      refine r_lald hc hd hL3 rfl hi_13 dL_law__652 ?_
      refine lv_iload hc.x hc.b dL_law__653 (lv_at hl 0 rfl) ?_
      refine lv_i2l (v := Int32.toInt64 r_6) hc.x hc.b dL_law__655 rfl ?_
      refine W.lcmp hc.x hc.b dL_law__656 ?_
      refine lv_if_eq (tgt := 662) hc.x hc.b dL_law__657 (by decide) (fun c_14 => ?_) (fun c_14 => ?_)
      · have hf := br_y c_14 hf
        exact hJ_11 S_5 _ _ _ hf hd (lv_sub hl [2, 3, 4, 5, 6] rfl)
      · have hf := br_n c_14 hf
        refine lv_iconst (v := 0) hc.x hc.b dL_law__660 (by decide) ?_
        cases hf
  · have hf := br_n c_9 hf
    refine lv_iconst (v := 0) hc.x hc.b dL_law__643 (by decide) ?_
    cases hf
def fc_6 (gN : Nat) (a1 a2 a3 a4 a5 : Int32) (S : St) : Option St := on2 (f_L_law 0 gN a1 0 S) (fun r_1 S_2 => on2 (f_X12_law 0 a1 S_2) (fun r_6 S_5 => on (f_X12_thrown 0 S_5) (fun r_8 => br (r_8 = r_1) (bv (fun  (S_10 : St) => some S_10) (fun J_11 => br (r_1 = 0) (ck (inb 0 1 = true) (br ((lg_cmp (gl S_5 81 0 (nn 0)) (Int32.toInt64 r_6)) = 0) (J_11 S_5) (none))) (J_11 S_5))) (none))))
set_option maxRecDepth 100000 in
set_option maxHeartbeats 8000000 in
theorem lc_6 (hc : Cx p s m args meth c cL_law_ 8 "PumpCrossingLaw" D cs B0 kt Lv) (hck : CK cs s) (hst : l.stackTraces = false) {b L : Nat} {xs : Nat → Int32} (hX : va_X b L xs s s.heap) (hbl : b < s.heap.size) (hbA : ¬ B0 ≤ b) {x4 a1 a2 a3 a4 a5 : Int32} (hi : inb (x4 + 1) L = true ∧ inb (x4 + 2) L = true ∧ inb (x4 + 3) L = true ∧ inb (x4 + 4) L = true ∧ inb (x4 + 5) L = true) (ea : xs (nn (x4 + 1)) = a1 ∧ xs (nn (x4 + 2)) = a2 ∧ xs (nn (x4 + 3)) = a3 ∧ xs (nn (x4 + 4)) = a4 ∧ xs (nn (x4 + 5)) = a5) {o S : St} {gN : Nat} (hlt : ∀ k g, Lv k g → k < 1000) (hfr : ∀ x ∈ FL gN, ¬ Lv x.1 x.2) (hL1 : Lv 0 0) (hL2 : Lv 60 0) (hL3 : Lv 81 0) (hcc : cells + 60 ≤ 601024) (hss : slots + 3000 ≤ 7293034) (kk : ∀ (α1 : Nat → Nat → Nat) (Lv1 : Nat → Nat → Prop) (H1 : Heap) (locs1 : List Loc) (ls1 : Array Slot), Ex α Lv (1000, 0) α1 Lv1 (FL gN) → Cx p s m args meth c cL_law_ 8 "PumpCrossingLaw" D cs B0 kt Lv1 → Dy s D cs B0 α1 Lv1 o H1 locs1 → lv_has ls1 8 [(0, .ref b), (1, .ref (α1 0 0)), (2, .ref (α1 60 0)), (3, .ref (α1 81 0)), (4, .int x4)] → W p l e room_1 s m args below meth c H1 locs1 (cells + 40) (slots + 2000) Q (F0 m 2923 ls1 [])) {H : Heap} {locs : List Loc} {ls : Array Slot} (hf : fc_6 gN a1 a2 a3 a4 a5 S = some o) (hd : Dy s D cs B0 α Lv S H locs) (hl : lv_has ls 8 [(0, .ref b), (1, .ref (α 0 0)), (2, .ref (α 60 0)), (3, .ref (α 81 0)), (4, .int x4)]) : W p l e room_1 s m args below meth c H locs cells slots Q (F0 m 665 ls []) := by
  unfold fc_6 at hf
  have hx : Ex α Lv (1000, 0) α Lv [] := Ex.start hlt
  refine lv_aload_n hc.x hc.b dL_law__665 rfl (lv_at hl 1 rfl) ?_
  refine lv_aload_n hc.x hc.b dL_law__666 rfl (lv_at hl 0 rfl) ?_
  refine lv_iload hc.x hc.b dL_law__667 (lv_at hl 4 rfl) ?_
  refine lv_iconst (v := 1) hc.x hc.b dL_law__669 (by decide) ?_
  refine lv_iadd hc.x hc.b dL_law__670 ?_
  refine r_sld hc hX hbl hbA hd (hi.1) (ea.1) dL_law__671 ?_
  refine lv_aload_n hc.x hc.b dL_law__672 rfl (lv_at hl 3 rfl) ?_
  obtain ⟨r_1, S_2, hq_3, hf⟩ := on2_s hf
  refine k_iA hc (k_runSW hc hck hd my_L_law tw_731 (c_L_law l D cs B0 kt α Lv S 0 gN a1 0 hc.cl hlt (fun x h => hfr x (List.mem_append_right _ (List.mem_append_left _ h))) hL1 hL3 hst hq_3) rfl rfl hl.1 (Nat.le_of_ble_eq_true rfl) ⟨Nat.le_of_ble_eq_true rfl, Nat.le_of_ble_eq_true rfl, by show _ ≤ 601024; omega, by show _ ≤ 7293034; omega⟩ dL_law__673) hd (fun α Lv H locs ho ha hc hd hx => ?_)
  have hl : lv_has ls 8 [(0, .ref b), (1, .ref (α 0 0)), (2, .ref (α 60 0)), (3, .ref (α 81 0)), (4, .int x4)] := by rw [ha _ _ hL1, ha _ _ hL2, ha _ _ hL3]; exact hl
  have hL1 := ho _ _ hL1
  have hL2 := ho _ _ hL2
  have hL3 := ho _ _ hL3
  refine lv_istore (lv' := [(5, .int r_1), (0, .ref b), (1, .ref (α 0 0)), (2, .ref (α 60 0)), (3, .ref (α 81 0)), (4, .int x4)]) hc.x hc.b dL_law__676 hl (by decide) rfl (fun ls hl => ?_)
  refine lv_aload_n hc.x hc.b dL_law__678 rfl (lv_at hl 3 rfl) ?_
  refine lv_aload_n hc.x hc.b dL_law__679 rfl (lv_at hl 1 rfl) ?_
  refine lv_iload hc.x hc.b dL_law__680 (lv_at hl 5 rfl) ?_
  refine lv_iconst (v := 1) hc.x hc.b dL_law__682 (by decide) ?_
  refine lv_iadd hc.x hc.b dL_law__683 ?_
  refine r_sld hc hX hbl hbA hd (hi.1) (ea.1) dL_law__684 ?_
  obtain ⟨r_6, S_5, hq_4, hf⟩ := on2_s hf
  refine k_i (k_runV hc hd my_X12_law tw_1575 hL2 rfl rfl rfl (c_X12_law l D cs B0 kt α Lv S_2 0 a1 hc.cl hL2  hq_4) rfl rfl hl.1 (Nat.le_of_ble_eq_true rfl) ⟨Nat.le_of_ble_eq_true rfl, Nat.le_of_ble_eq_true rfl, by show _ ≤ 601024; omega, by show _ ≤ 7293034; omega⟩ dL_law__685) hd (fun H locs hd => ?_)
  refine lv_istore (lv' := [(6, .int r_6), (5, .int r_1), (0, .ref b), (1, .ref (α 0 0)), (2, .ref (α 60 0)), (3, .ref (α 81 0)), (4, .int x4)]) hc.x hc.b dL_law__688 hl (by decide) rfl (fun ls hl => ?_)
  refine lv_aload_n hc.x hc.b dL_law__690 rfl (lv_at hl 4 rfl) ?_
  obtain ⟨r_8, hq_7, hf⟩ := on_s hf
  refine k_i (k_runV hc hd my_X12_thrown tw_1431 hL2 rfl rfl rfl (c_X12_thrown l D cs B0 kt α Lv S_5 0 hc.cl hL2  hq_7) rfl rfl hl.1 (Nat.le_of_ble_eq_true rfl) ⟨Nat.le_of_ble_eq_true rfl, Nat.le_of_ble_eq_true rfl, by show _ ≤ 601024; omega, by show _ ≤ 7293034; omega⟩ dL_law__691) hd (fun H locs hd => ?_)
  refine lv_iload hc.x hc.b dL_law__694 (lv_at hl 1 rfl) ?_
  refine lv_icmp_eq (tgt := 701) hc.x hc.b dL_law__696 (by decide) (fun c_9 => ?_) (fun c_9 => ?_)
  · have hf := br_y c_9 hf
    refine lv_iload hc.x hc.b dL_law__701 (lv_at hl 1 rfl) ?_
    refine jn_s (P := fun J_11 => ∀  (S_10 : St) (H : Heap) (locs : List Loc) (ls : Array Slot), J_11 S_10 = some o → Dy s D cs B0 α Lv S_10 H locs → lv_has ls 8 [(0, .ref b), (1, .ref (α 0 0)), (2, .ref (α 60 0)), (3, .ref (α 81 0)), (4, .int x4)] → W p l e room_1 s m args below meth c H locs (cells + 1) (slots + 6) Q (F0 m 718 ls [])) hf ?_ (fun J_11 hJ_11 hf => ?_)
    · intro S_10 H locs ls hf hd hl
      refine lv_goto (tgt := 2923) hc.x hc.b dL_law__718 (by decide) ?_
      cases hf
      refine W.widen (k := cells + 40) (n := slots + 2000) (by omega) (by omega) ?_
      exact kk _ _ _ _ _ (hx.mono (by first | exact fun _ h => absurd h List.not_mem_nil | exact fun _ h => List.mem_append_left _ h | exact fun _ h => List.mem_append_right _ (List.mem_append_left _ h) | exact fun _ h => List.mem_append_right _ (List.mem_append_right _ h))) hc hd (lv_sub hl [0, 1, 2, 3, 4] rfl)
    refine lv_if_ne (tgt := 718) hc.x hc.b dL_law__703 (by decide) (fun c_12 => ?_) (fun c_12 => ?_)
    · have hf := br_n c_12 hf
      exact hJ_11 S_5 _ _ _ hf hd (lv_sub hl [2, 3, 4, 5, 6] rfl)
    · have hf := br_y c_12 hf
      refine lv_aload_n hc.x hc.b dL_law__706 rfl (lv_at hl 5 rfl) ?_
      refine lv_iconst (v := 0) hc.x hc.b dL_law__707 (by decide) ?_
      obtain ⟨hi_13, hf⟩ := ck_s hf
      refine r_lald hc hd hL3 rfl hi_13 dL_law__708 ?_
      refine lv_iload hc.x hc.b dL_law__709 (lv_at hl 0 rfl) ?_
      refine lv_i2l (v := Int32.toInt64 r_6) hc.x hc.b dL_law__711 rfl ?_
      refine W.lcmp hc.x hc.b dL_law__712 ?_
      refine lv_if_eq (tgt := 718) hc.x hc.b dL_law__713 (by decide) (fun c_14 => ?_) (fun c_14 => ?_)
      · have hf := br_y c_14 hf
        exact hJ_11 S_5 _ _ _ hf hd (lv_sub hl [2, 3, 4, 5, 6] rfl)
      · have hf := br_n c_14 hf
        refine lv_iconst (v := 0) hc.x hc.b dL_law__716 (by decide) ?_
        cases hf
  · have hf := br_n c_9 hf
    refine lv_iconst (v := 0) hc.x hc.b dL_law__699 (by decide) ?_
    cases hf
def fc_7 (gN : Nat) (a1 a2 a3 a4 a5 : Int32) (S : St) : Option St := on (f_X11_fault 0 a1 S) (fun r_2 => on2 (f_X12_fault 0 a1 S) (fun r_5 S_4 => br (r_2 = r_5) (some S_4) (none)))
set_option maxRecDepth 100000 in
set_option maxHeartbeats 8000000 in
theorem lc_7 (hc : Cx p s m args meth c cL_law_ 8 "PumpCrossingLaw" D cs B0 kt Lv) (hck : CK cs s) (hst : l.stackTraces = false) {b L : Nat} {xs : Nat → Int32} (hX : va_X b L xs s s.heap) (hbl : b < s.heap.size) (hbA : ¬ B0 ≤ b) {x4 a1 a2 a3 a4 a5 : Int32} (hi : inb (x4 + 1) L = true ∧ inb (x4 + 2) L = true ∧ inb (x4 + 3) L = true ∧ inb (x4 + 4) L = true ∧ inb (x4 + 5) L = true) (ea : xs (nn (x4 + 1)) = a1 ∧ xs (nn (x4 + 2)) = a2 ∧ xs (nn (x4 + 3)) = a3 ∧ xs (nn (x4 + 4)) = a4 ∧ xs (nn (x4 + 5)) = a5) {o S : St} {gN : Nat} (hlt : ∀ k g, Lv k g → k < 1000) (hfr : ∀ x ∈ FL gN, ¬ Lv x.1 x.2) (hL1 : Lv 0 0) (hL2 : Lv 60 0) (hL3 : Lv 81 0) (hcc : cells + 60 ≤ 601024) (hss : slots + 3000 ≤ 7293034) (kk : ∀ (α1 : Nat → Nat → Nat) (Lv1 : Nat → Nat → Prop) (H1 : Heap) (locs1 : List Loc) (ls1 : Array Slot), Ex α Lv (1000, 0) α1 Lv1 (FL gN) → Cx p s m args meth c cL_law_ 8 "PumpCrossingLaw" D cs B0 kt Lv1 → Dy s D cs B0 α1 Lv1 o H1 locs1 → lv_has ls1 8 [(0, .ref b), (1, .ref (α1 0 0)), (2, .ref (α1 60 0)), (3, .ref (α1 81 0)), (4, .int x4)] → W p l e room_1 s m args below meth c H1 locs1 (cells + 40) (slots + 2000) Q (F0 m 2923 ls1 [])) {H : Heap} {locs : List Loc} {ls : Array Slot} (hf : fc_7 gN a1 a2 a3 a4 a5 S = some o) (hd : Dy s D cs B0 α Lv S H locs) (hl : lv_has ls 8 [(0, .ref b), (1, .ref (α 0 0)), (2, .ref (α 60 0)), (3, .ref (α 81 0)), (4, .int x4)]) : W p l e room_1 s m args below meth c H locs cells slots Q (F0 m 721 ls []) := by
  unfold fc_7 at hf
  have hx : Ex α Lv (1000, 0) α Lv [] := Ex.start hlt
  refine lv_aload_n hc.x hc.b dL_law__721 rfl (lv_at hl 1 rfl) ?_
  refine lv_aload_n hc.x hc.b dL_law__722 rfl (lv_at hl 0 rfl) ?_
  refine lv_iload hc.x hc.b dL_law__723 (lv_at hl 4 rfl) ?_
  refine lv_iconst (v := 1) hc.x hc.b dL_law__725 (by decide) ?_
  refine lv_iadd hc.x hc.b dL_law__726 ?_
  refine r_sld hc hX hbl hbA hd (hi.1) (ea.1) dL_law__727 ?_
  obtain ⟨r_2, hq_1, hf⟩ := on_s hf
  refine k_i (k_runV hc hd my_X11_fault tw_390 hL1 rfl rfl rfl (c_X11_fault l D cs B0 kt α Lv S 0 a1 hc.cl hL1  hq_1) rfl rfl hl.1 (Nat.le_of_ble_eq_true rfl) ⟨Nat.le_of_ble_eq_true rfl, Nat.le_of_ble_eq_true rfl, by show _ ≤ 601024; omega, by show _ ≤ 7293034; omega⟩ dL_law__728) hd (fun H locs hd => ?_)
  refine lv_aload_n hc.x hc.b dL_law__731 rfl (lv_at hl 2 rfl) ?_
  refine lv_aload_n hc.x hc.b dL_law__732 rfl (lv_at hl 0 rfl) ?_
  refine lv_iload hc.x hc.b dL_law__733 (lv_at hl 4 rfl) ?_
  refine lv_iconst (v := 1) hc.x hc.b dL_law__735 (by decide) ?_
  refine lv_iadd hc.x hc.b dL_law__736 ?_
  refine r_sld hc hX hbl hbA hd (hi.1) (ea.1) dL_law__737 ?_
  obtain ⟨r_5, S_4, hq_3, hf⟩ := on2_s hf
  refine k_i (k_runV hc hd my_X12_fault tw_1587 hL2 rfl rfl rfl (c_X12_fault l D cs B0 kt α Lv S 0 a1 hc.cl hL2  hq_3) rfl rfl hl.1 (Nat.le_of_ble_eq_true rfl) ⟨Nat.le_of_ble_eq_true rfl, Nat.le_of_ble_eq_true rfl, by show _ ≤ 601024; omega, by show _ ≤ 7293034; omega⟩ dL_law__738) hd (fun H locs hd => ?_)
  refine lv_icmp_eq (tgt := 2923) hc.x hc.b dL_law__741 (by decide) (fun c_6 => ?_) (fun c_6 => ?_)
  · have hf := br_y c_6 hf
    cases hf
    refine W.widen (k := cells + 40) (n := slots + 2000) (by omega) (by omega) ?_
    exact kk _ _ _ _ _ (hx.mono (by first | exact fun _ h => absurd h List.not_mem_nil | exact fun _ h => List.mem_append_left _ h | exact fun _ h => List.mem_append_right _ (List.mem_append_left _ h) | exact fun _ h => List.mem_append_right _ (List.mem_append_right _ h))) hc hd (lv_sub hl [0, 1, 2, 3, 4] rfl)
  · have hf := br_n c_6 hf
    refine lv_iconst (v := 0) hc.x hc.b dL_law__744 (by decide) ?_
    cases hf
def fc_8 (gN : Nat) (a1 a2 a3 a4 a5 : Int32) (S : St) : Option St := on2 (f_L_run 0 a1 0 S) (fun r_1 S_2 => on2 (f_X12_run 0 a1 S_2) (fun r_6 S_5 => on (f_X12_thrown 0 S_5) (fun r_8 => br (r_8 = r_1) (bv (fun  (S_10 : St) => some S_10) (fun J_11 => br (r_1 = 0) (ck (inb 0 1 = true) (br ((lg_cmp (gl S_5 81 0 (nn 0)) (Int32.toInt64 r_6)) = 0) (J_11 S_5) (none))) (J_11 S_5))) (none))))
set_option maxRecDepth 100000 in
set_option maxHeartbeats 8000000 in
theorem lc_8 (hc : Cx p s m args meth c cL_law_ 8 "PumpCrossingLaw" D cs B0 kt Lv) (hck : CK cs s) (hst : l.stackTraces = false) {b L : Nat} {xs : Nat → Int32} (hX : va_X b L xs s s.heap) (hbl : b < s.heap.size) (hbA : ¬ B0 ≤ b) {x4 a1 a2 a3 a4 a5 : Int32} (hi : inb (x4 + 1) L = true ∧ inb (x4 + 2) L = true ∧ inb (x4 + 3) L = true ∧ inb (x4 + 4) L = true ∧ inb (x4 + 5) L = true) (ea : xs (nn (x4 + 1)) = a1 ∧ xs (nn (x4 + 2)) = a2 ∧ xs (nn (x4 + 3)) = a3 ∧ xs (nn (x4 + 4)) = a4 ∧ xs (nn (x4 + 5)) = a5) {o S : St} {gN : Nat} (hlt : ∀ k g, Lv k g → k < 1000) (hfr : ∀ x ∈ FL gN, ¬ Lv x.1 x.2) (hL1 : Lv 0 0) (hL2 : Lv 60 0) (hL3 : Lv 81 0) (hcc : cells + 60 ≤ 601024) (hss : slots + 3000 ≤ 7293034) (kk : ∀ (α1 : Nat → Nat → Nat) (Lv1 : Nat → Nat → Prop) (H1 : Heap) (locs1 : List Loc) (ls1 : Array Slot), Ex α Lv (1000, 0) α1 Lv1 (FL gN) → Cx p s m args meth c cL_law_ 8 "PumpCrossingLaw" D cs B0 kt Lv1 → Dy s D cs B0 α1 Lv1 o H1 locs1 → lv_has ls1 8 [(0, .ref b), (1, .ref (α1 0 0)), (2, .ref (α1 60 0)), (3, .ref (α1 81 0)), (4, .int x4)] → W p l e room_1 s m args below meth c H1 locs1 (cells + 40) (slots + 2000) Q (F0 m 2923 ls1 [])) {H : Heap} {locs : List Loc} {ls : Array Slot} (hf : fc_8 gN a1 a2 a3 a4 a5 S = some o) (hd : Dy s D cs B0 α Lv S H locs) (hl : lv_has ls 8 [(0, .ref b), (1, .ref (α 0 0)), (2, .ref (α 60 0)), (3, .ref (α 81 0)), (4, .int x4)]) : W p l e room_1 s m args below meth c H locs cells slots Q (F0 m 746 ls []) := by
  unfold fc_8 at hf
  have hx : Ex α Lv (1000, 0) α Lv [] := Ex.start hlt
  refine lv_aload_n hc.x hc.b dL_law__746 rfl (lv_at hl 1 rfl) ?_
  refine lv_aload_n hc.x hc.b dL_law__747 rfl (lv_at hl 0 rfl) ?_
  refine lv_iload hc.x hc.b dL_law__748 (lv_at hl 4 rfl) ?_
  refine lv_iconst (v := 1) hc.x hc.b dL_law__750 (by decide) ?_
  refine lv_iadd hc.x hc.b dL_law__751 ?_
  refine r_sld hc hX hbl hbA hd (hi.1) (ea.1) dL_law__752 ?_
  refine lv_aload_n hc.x hc.b dL_law__753 rfl (lv_at hl 3 rfl) ?_
  obtain ⟨r_1, S_2, hq_3, hf⟩ := on2_s hf
  refine k_i (k_runSW hc hck hd my_L_run tw_761 (c_L_run l D cs B0 kt α Lv S 0 a1 0 hc.cl hL1 hL3 hst hq_3) rfl rfl hl.1 (Nat.le_of_ble_eq_true rfl) ⟨Nat.le_of_ble_eq_true rfl, Nat.le_of_ble_eq_true rfl, by show _ ≤ 601024; omega, by show _ ≤ 7293034; omega⟩ dL_law__754) hd (fun H locs hd => ?_)
  refine lv_istore (lv' := [(5, .int r_1), (0, .ref b), (1, .ref (α 0 0)), (2, .ref (α 60 0)), (3, .ref (α 81 0)), (4, .int x4)]) hc.x hc.b dL_law__757 hl (by decide) rfl (fun ls hl => ?_)
  refine lv_aload_n hc.x hc.b dL_law__759 rfl (lv_at hl 3 rfl) ?_
  refine lv_aload_n hc.x hc.b dL_law__760 rfl (lv_at hl 1 rfl) ?_
  refine lv_iload hc.x hc.b dL_law__761 (lv_at hl 5 rfl) ?_
  refine lv_iconst (v := 1) hc.x hc.b dL_law__763 (by decide) ?_
  refine lv_iadd hc.x hc.b dL_law__764 ?_
  refine r_sld hc hX hbl hbA hd (hi.1) (ea.1) dL_law__765 ?_
  obtain ⟨r_6, S_5, hq_4, hf⟩ := on2_s hf
  refine k_i (k_runV hc hd my_X12_run tw_1591 hL2 rfl rfl rfl (c_X12_run l D cs B0 kt α Lv S_2 0 a1 hc.cl hL2  hq_4) rfl rfl hl.1 (Nat.le_of_ble_eq_true rfl) ⟨Nat.le_of_ble_eq_true rfl, Nat.le_of_ble_eq_true rfl, by show _ ≤ 601024; omega, by show _ ≤ 7293034; omega⟩ dL_law__766) hd (fun H locs hd => ?_)
  refine lv_istore (lv' := [(6, .int r_6), (5, .int r_1), (0, .ref b), (1, .ref (α 0 0)), (2, .ref (α 60 0)), (3, .ref (α 81 0)), (4, .int x4)]) hc.x hc.b dL_law__769 hl (by decide) rfl (fun ls hl => ?_)
  refine lv_aload_n hc.x hc.b dL_law__771 rfl (lv_at hl 4 rfl) ?_
  obtain ⟨r_8, hq_7, hf⟩ := on_s hf
  refine k_i (k_runV hc hd my_X12_thrown tw_1431 hL2 rfl rfl rfl (c_X12_thrown l D cs B0 kt α Lv S_5 0 hc.cl hL2  hq_7) rfl rfl hl.1 (Nat.le_of_ble_eq_true rfl) ⟨Nat.le_of_ble_eq_true rfl, Nat.le_of_ble_eq_true rfl, by show _ ≤ 601024; omega, by show _ ≤ 7293034; omega⟩ dL_law__772) hd (fun H locs hd => ?_)
  refine lv_iload hc.x hc.b dL_law__775 (lv_at hl 1 rfl) ?_
  refine lv_icmp_eq (tgt := 782) hc.x hc.b dL_law__777 (by decide) (fun c_9 => ?_) (fun c_9 => ?_)
  · have hf := br_y c_9 hf
    refine lv_iload hc.x hc.b dL_law__782 (lv_at hl 1 rfl) ?_
    refine jn_s (P := fun J_11 => ∀  (S_10 : St) (H : Heap) (locs : List Loc) (ls : Array Slot), J_11 S_10 = some o → Dy s D cs B0 α Lv S_10 H locs → lv_has ls 8 [(0, .ref b), (1, .ref (α 0 0)), (2, .ref (α 60 0)), (3, .ref (α 81 0)), (4, .int x4)] → W p l e room_1 s m args below meth c H locs (cells + 1) (slots + 6) Q (F0 m 799 ls [])) hf ?_ (fun J_11 hJ_11 hf => ?_)
    · intro S_10 H locs ls hf hd hl
      refine lv_goto (tgt := 2923) hc.x hc.b dL_law__799 (by decide) ?_
      cases hf
      refine W.widen (k := cells + 40) (n := slots + 2000) (by omega) (by omega) ?_
      exact kk _ _ _ _ _ (hx.mono (by first | exact fun _ h => absurd h List.not_mem_nil | exact fun _ h => List.mem_append_left _ h | exact fun _ h => List.mem_append_right _ (List.mem_append_left _ h) | exact fun _ h => List.mem_append_right _ (List.mem_append_right _ h))) hc hd (lv_sub hl [0, 1, 2, 3, 4] rfl)
    refine lv_if_ne (tgt := 799) hc.x hc.b dL_law__784 (by decide) (fun c_12 => ?_) (fun c_12 => ?_)
    · have hf := br_n c_12 hf
      exact hJ_11 S_5 _ _ _ hf hd (lv_sub hl [2, 3, 4, 5, 6] rfl)
    · have hf := br_y c_12 hf
      refine lv_aload_n hc.x hc.b dL_law__787 rfl (lv_at hl 5 rfl) ?_
      refine lv_iconst (v := 0) hc.x hc.b dL_law__788 (by decide) ?_
      obtain ⟨hi_13, hf⟩ := ck_s hf
      refine r_lald hc hd hL3 rfl hi_13 dL_law__789 ?_
      refine lv_iload hc.x hc.b dL_law__790 (lv_at hl 0 rfl) ?_
      refine lv_i2l (v := Int32.toInt64 r_6) hc.x hc.b dL_law__792 rfl ?_
      refine W.lcmp hc.x hc.b dL_law__793 ?_
      refine lv_if_eq (tgt := 799) hc.x hc.b dL_law__794 (by decide) (fun c_14 => ?_) (fun c_14 => ?_)
      · have hf := br_y c_14 hf
        exact hJ_11 S_5 _ _ _ hf hd (lv_sub hl [2, 3, 4, 5, 6] rfl)
      · have hf := br_n c_14 hf
        refine lv_iconst (v := 0) hc.x hc.b dL_law__797 (by decide) ?_
        cases hf
  · have hf := br_n c_9 hf
    refine lv_iconst (v := 0) hc.x hc.b dL_law__780 (by decide) ?_
    cases hf
def fc_9 (gN : Nat) (a1 a2 a3 a4 a5 : Int32) (S : St) : Option St := on2 (f_L_price 0 a1 0 S) (fun r_1 S_2 => on2 (f_X12_price 0 a1 S_2) (fun r_6 S_5 => on (f_X12_thrown 0 S_5) (fun r_8 => br (r_8 = r_1) (bv (fun  (S_10 : St) => some S_10) (fun J_11 => br (r_1 = 0) (ck (inb 0 1 = true) (br ((lg_cmp (gl S_5 81 0 (nn 0)) (Int32.toInt64 r_6)) = 0) (J_11 S_5) (none))) (J_11 S_5))) (none))))
set_option maxRecDepth 100000 in
set_option maxHeartbeats 8000000 in
theorem lc_9 (hc : Cx p s m args meth c cL_law_ 8 "PumpCrossingLaw" D cs B0 kt Lv) (hck : CK cs s) (hst : l.stackTraces = false) {b L : Nat} {xs : Nat → Int32} (hX : va_X b L xs s s.heap) (hbl : b < s.heap.size) (hbA : ¬ B0 ≤ b) {x4 a1 a2 a3 a4 a5 : Int32} (hi : inb (x4 + 1) L = true ∧ inb (x4 + 2) L = true ∧ inb (x4 + 3) L = true ∧ inb (x4 + 4) L = true ∧ inb (x4 + 5) L = true) (ea : xs (nn (x4 + 1)) = a1 ∧ xs (nn (x4 + 2)) = a2 ∧ xs (nn (x4 + 3)) = a3 ∧ xs (nn (x4 + 4)) = a4 ∧ xs (nn (x4 + 5)) = a5) {o S : St} {gN : Nat} (hlt : ∀ k g, Lv k g → k < 1000) (hfr : ∀ x ∈ FL gN, ¬ Lv x.1 x.2) (hL1 : Lv 0 0) (hL2 : Lv 60 0) (hL3 : Lv 81 0) (hcc : cells + 60 ≤ 601024) (hss : slots + 3000 ≤ 7293034) (kk : ∀ (α1 : Nat → Nat → Nat) (Lv1 : Nat → Nat → Prop) (H1 : Heap) (locs1 : List Loc) (ls1 : Array Slot), Ex α Lv (1000, 0) α1 Lv1 (FL gN) → Cx p s m args meth c cL_law_ 8 "PumpCrossingLaw" D cs B0 kt Lv1 → Dy s D cs B0 α1 Lv1 o H1 locs1 → lv_has ls1 8 [(0, .ref b), (1, .ref (α1 0 0)), (2, .ref (α1 60 0)), (3, .ref (α1 81 0)), (4, .int x4)] → W p l e room_1 s m args below meth c H1 locs1 (cells + 40) (slots + 2000) Q (F0 m 2923 ls1 [])) {H : Heap} {locs : List Loc} {ls : Array Slot} (hf : fc_9 gN a1 a2 a3 a4 a5 S = some o) (hd : Dy s D cs B0 α Lv S H locs) (hl : lv_has ls 8 [(0, .ref b), (1, .ref (α 0 0)), (2, .ref (α 60 0)), (3, .ref (α 81 0)), (4, .int x4)]) : W p l e room_1 s m args below meth c H locs cells slots Q (F0 m 802 ls []) := by
  unfold fc_9 at hf
  have hx : Ex α Lv (1000, 0) α Lv [] := Ex.start hlt
  refine lv_aload_n hc.x hc.b dL_law__802 rfl (lv_at hl 1 rfl) ?_
  refine lv_aload_n hc.x hc.b dL_law__803 rfl (lv_at hl 0 rfl) ?_
  refine lv_iload hc.x hc.b dL_law__804 (lv_at hl 4 rfl) ?_
  refine lv_iconst (v := 1) hc.x hc.b dL_law__806 (by decide) ?_
  refine lv_iadd hc.x hc.b dL_law__807 ?_
  refine r_sld hc hX hbl hbA hd (hi.1) (ea.1) dL_law__808 ?_
  refine lv_aload_n hc.x hc.b dL_law__809 rfl (lv_at hl 3 rfl) ?_
  obtain ⟨r_1, S_2, hq_3, hf⟩ := on2_s hf
  refine k_i (k_runSW hc hck hd my_L_price tw_849 (c_L_price l D cs B0 kt α Lv S 0 a1 0 hc.cl hL1 hL3 hst hq_3) rfl rfl hl.1 (Nat.le_of_ble_eq_true rfl) ⟨Nat.le_of_ble_eq_true rfl, Nat.le_of_ble_eq_true rfl, by show _ ≤ 601024; omega, by show _ ≤ 7293034; omega⟩ dL_law__810) hd (fun H locs hd => ?_)
  refine lv_istore (lv' := [(5, .int r_1), (0, .ref b), (1, .ref (α 0 0)), (2, .ref (α 60 0)), (3, .ref (α 81 0)), (4, .int x4)]) hc.x hc.b dL_law__813 hl (by decide) rfl (fun ls hl => ?_)
  refine lv_aload_n hc.x hc.b dL_law__815 rfl (lv_at hl 3 rfl) ?_
  refine lv_aload_n hc.x hc.b dL_law__816 rfl (lv_at hl 1 rfl) ?_
  refine lv_iload hc.x hc.b dL_law__817 (lv_at hl 5 rfl) ?_
  refine lv_iconst (v := 1) hc.x hc.b dL_law__819 (by decide) ?_
  refine lv_iadd hc.x hc.b dL_law__820 ?_
  refine r_sld hc hX hbl hbA hd (hi.1) (ea.1) dL_law__821 ?_
  obtain ⟨r_6, S_5, hq_4, hf⟩ := on2_s hf
  refine k_i (k_runV hc hd my_X12_price tw_1645 hL2 rfl rfl rfl (c_X12_price l D cs B0 kt α Lv S_2 0 a1 hc.cl hL2  hq_4) rfl rfl hl.1 (Nat.le_of_ble_eq_true rfl) ⟨Nat.le_of_ble_eq_true rfl, Nat.le_of_ble_eq_true rfl, by show _ ≤ 601024; omega, by show _ ≤ 7293034; omega⟩ dL_law__822) hd (fun H locs hd => ?_)
  refine lv_istore (lv' := [(6, .int r_6), (5, .int r_1), (0, .ref b), (1, .ref (α 0 0)), (2, .ref (α 60 0)), (3, .ref (α 81 0)), (4, .int x4)]) hc.x hc.b dL_law__825 hl (by decide) rfl (fun ls hl => ?_)
  refine lv_aload_n hc.x hc.b dL_law__827 rfl (lv_at hl 4 rfl) ?_
  obtain ⟨r_8, hq_7, hf⟩ := on_s hf
  refine k_i (k_runV hc hd my_X12_thrown tw_1431 hL2 rfl rfl rfl (c_X12_thrown l D cs B0 kt α Lv S_5 0 hc.cl hL2  hq_7) rfl rfl hl.1 (Nat.le_of_ble_eq_true rfl) ⟨Nat.le_of_ble_eq_true rfl, Nat.le_of_ble_eq_true rfl, by show _ ≤ 601024; omega, by show _ ≤ 7293034; omega⟩ dL_law__828) hd (fun H locs hd => ?_)
  refine lv_iload hc.x hc.b dL_law__831 (lv_at hl 1 rfl) ?_
  refine lv_icmp_eq (tgt := 838) hc.x hc.b dL_law__833 (by decide) (fun c_9 => ?_) (fun c_9 => ?_)
  · have hf := br_y c_9 hf
    refine lv_iload hc.x hc.b dL_law__838 (lv_at hl 1 rfl) ?_
    refine jn_s (P := fun J_11 => ∀  (S_10 : St) (H : Heap) (locs : List Loc) (ls : Array Slot), J_11 S_10 = some o → Dy s D cs B0 α Lv S_10 H locs → lv_has ls 8 [(0, .ref b), (1, .ref (α 0 0)), (2, .ref (α 60 0)), (3, .ref (α 81 0)), (4, .int x4)] → W p l e room_1 s m args below meth c H locs (cells + 1) (slots + 6) Q (F0 m 855 ls [])) hf ?_ (fun J_11 hJ_11 hf => ?_)
    · intro S_10 H locs ls hf hd hl
      refine lv_goto (tgt := 2923) hc.x hc.b dL_law__855 (by decide) ?_
      cases hf
      refine W.widen (k := cells + 40) (n := slots + 2000) (by omega) (by omega) ?_
      exact kk _ _ _ _ _ (hx.mono (by first | exact fun _ h => absurd h List.not_mem_nil | exact fun _ h => List.mem_append_left _ h | exact fun _ h => List.mem_append_right _ (List.mem_append_left _ h) | exact fun _ h => List.mem_append_right _ (List.mem_append_right _ h))) hc hd (lv_sub hl [0, 1, 2, 3, 4] rfl)
    refine lv_if_ne (tgt := 855) hc.x hc.b dL_law__840 (by decide) (fun c_12 => ?_) (fun c_12 => ?_)
    · have hf := br_n c_12 hf
      exact hJ_11 S_5 _ _ _ hf hd (lv_sub hl [2, 3, 4, 5, 6] rfl)
    · have hf := br_y c_12 hf
      refine lv_aload_n hc.x hc.b dL_law__843 rfl (lv_at hl 5 rfl) ?_
      refine lv_iconst (v := 0) hc.x hc.b dL_law__844 (by decide) ?_
      obtain ⟨hi_13, hf⟩ := ck_s hf
      refine r_lald hc hd hL3 rfl hi_13 dL_law__845 ?_
      refine lv_iload hc.x hc.b dL_law__846 (lv_at hl 0 rfl) ?_
      refine lv_i2l (v := Int32.toInt64 r_6) hc.x hc.b dL_law__848 rfl ?_
      refine W.lcmp hc.x hc.b dL_law__849 ?_
      refine lv_if_eq (tgt := 855) hc.x hc.b dL_law__850 (by decide) (fun c_14 => ?_) (fun c_14 => ?_)
      · have hf := br_y c_14 hf
        exact hJ_11 S_5 _ _ _ hf hd (lv_sub hl [2, 3, 4, 5, 6] rfl)
      · have hf := br_n c_14 hf
        refine lv_iconst (v := 0) hc.x hc.b dL_law__853 (by decide) ?_
        cases hf
  · have hf := br_n c_9 hf
    refine lv_iconst (v := 0) hc.x hc.b dL_law__836 (by decide) ?_
    cases hf
def fc_10 (gN : Nat) (a1 a2 a3 a4 a5 : Int32) (S : St) : Option St := on2 (f_L_board 0 a1 a2 0 S) (fun r_1 S_2 => on2 (f_X12_board 0 a1 a2 S_2) (fun r_6 S_5 => on (f_X12_thrown 0 S_5) (fun r_8 => br (r_8 = r_1) (bv (fun  (S_10 : St) => some S_10) (fun J_11 => br (r_1 = 0) (ck (inb 0 1 = true) (br ((lg_cmp (gl S_5 81 0 (nn 0)) (Int32.toInt64 r_6)) = 0) (J_11 S_5) (none))) (J_11 S_5))) (none))))
set_option maxRecDepth 100000 in
set_option maxHeartbeats 8000000 in
theorem lc_10 (hc : Cx p s m args meth c cL_law_ 8 "PumpCrossingLaw" D cs B0 kt Lv) (hck : CK cs s) (hst : l.stackTraces = false) {b L : Nat} {xs : Nat → Int32} (hX : va_X b L xs s s.heap) (hbl : b < s.heap.size) (hbA : ¬ B0 ≤ b) {x4 a1 a2 a3 a4 a5 : Int32} (hi : inb (x4 + 1) L = true ∧ inb (x4 + 2) L = true ∧ inb (x4 + 3) L = true ∧ inb (x4 + 4) L = true ∧ inb (x4 + 5) L = true) (ea : xs (nn (x4 + 1)) = a1 ∧ xs (nn (x4 + 2)) = a2 ∧ xs (nn (x4 + 3)) = a3 ∧ xs (nn (x4 + 4)) = a4 ∧ xs (nn (x4 + 5)) = a5) {o S : St} {gN : Nat} (hlt : ∀ k g, Lv k g → k < 1000) (hfr : ∀ x ∈ FL gN, ¬ Lv x.1 x.2) (hL1 : Lv 0 0) (hL2 : Lv 60 0) (hL3 : Lv 81 0) (hcc : cells + 60 ≤ 601024) (hss : slots + 3000 ≤ 7293034) (kk : ∀ (α1 : Nat → Nat → Nat) (Lv1 : Nat → Nat → Prop) (H1 : Heap) (locs1 : List Loc) (ls1 : Array Slot), Ex α Lv (1000, 0) α1 Lv1 (FL gN) → Cx p s m args meth c cL_law_ 8 "PumpCrossingLaw" D cs B0 kt Lv1 → Dy s D cs B0 α1 Lv1 o H1 locs1 → lv_has ls1 8 [(0, .ref b), (1, .ref (α1 0 0)), (2, .ref (α1 60 0)), (3, .ref (α1 81 0)), (4, .int x4)] → W p l e room_1 s m args below meth c H1 locs1 (cells + 40) (slots + 2000) Q (F0 m 2923 ls1 [])) {H : Heap} {locs : List Loc} {ls : Array Slot} (hf : fc_10 gN a1 a2 a3 a4 a5 S = some o) (hd : Dy s D cs B0 α Lv S H locs) (hl : lv_has ls 8 [(0, .ref b), (1, .ref (α 0 0)), (2, .ref (α 60 0)), (3, .ref (α 81 0)), (4, .int x4)]) : W p l e room_1 s m args below meth c H locs cells slots Q (F0 m 858 ls []) := by
  unfold fc_10 at hf
  have hx : Ex α Lv (1000, 0) α Lv [] := Ex.start hlt
  refine lv_aload_n hc.x hc.b dL_law__858 rfl (lv_at hl 1 rfl) ?_
  refine lv_aload_n hc.x hc.b dL_law__859 rfl (lv_at hl 0 rfl) ?_
  refine lv_iload hc.x hc.b dL_law__860 (lv_at hl 4 rfl) ?_
  refine lv_iconst (v := 1) hc.x hc.b dL_law__862 (by decide) ?_
  refine lv_iadd hc.x hc.b dL_law__863 ?_
  refine r_sld hc hX hbl hbA hd (hi.1) (ea.1) dL_law__864 ?_
  refine lv_aload_n hc.x hc.b dL_law__865 rfl (lv_at hl 0 rfl) ?_
  refine lv_iload hc.x hc.b dL_law__866 (lv_at hl 4 rfl) ?_
  refine lv_iconst (v := 2) hc.x hc.b dL_law__868 (by decide) ?_
  refine lv_iadd hc.x hc.b dL_law__869 ?_
  refine r_sld hc hX hbl hbA hd (hi.2.1) (ea.2.1) dL_law__870 ?_
  refine lv_aload_n hc.x hc.b dL_law__871 rfl (lv_at hl 3 rfl) ?_
  obtain ⟨r_1, S_2, hq_3, hf⟩ := on2_s hf
  refine k_i (k_runSW hc hck hd my_L_board tw_857 (c_L_board l D cs B0 kt α Lv S 0 a1 a2 0 hc.cl hL1 hL3 hst hq_3) rfl rfl hl.1 (Nat.le_of_ble_eq_true rfl) ⟨Nat.le_of_ble_eq_true rfl, Nat.le_of_ble_eq_true rfl, by show _ ≤ 601024; omega, by show _ ≤ 7293034; omega⟩ dL_law__872) hd (fun H locs hd => ?_)
  refine lv_istore (lv' := [(5, .int r_1), (0, .ref b), (1, .ref (α 0 0)), (2, .ref (α 60 0)), (3, .ref (α 81 0)), (4, .int x4)]) hc.x hc.b dL_law__875 hl (by decide) rfl (fun ls hl => ?_)
  refine lv_aload_n hc.x hc.b dL_law__877 rfl (lv_at hl 3 rfl) ?_
  refine lv_aload_n hc.x hc.b dL_law__878 rfl (lv_at hl 1 rfl) ?_
  refine lv_iload hc.x hc.b dL_law__879 (lv_at hl 5 rfl) ?_
  refine lv_iconst (v := 1) hc.x hc.b dL_law__881 (by decide) ?_
  refine lv_iadd hc.x hc.b dL_law__882 ?_
  refine r_sld hc hX hbl hbA hd (hi.1) (ea.1) dL_law__883 ?_
  refine lv_aload_n hc.x hc.b dL_law__884 rfl (lv_at hl 1 rfl) ?_
  refine lv_iload hc.x hc.b dL_law__885 (lv_at hl 5 rfl) ?_
  refine lv_iconst (v := 2) hc.x hc.b dL_law__887 (by decide) ?_
  refine lv_iadd hc.x hc.b dL_law__888 ?_
  refine r_sld hc hX hbl hbA hd (hi.2.1) (ea.2.1) dL_law__889 ?_
  obtain ⟨r_6, S_5, hq_4, hf⟩ := on2_s hf
  refine k_i (k_runV hc hd my_X12_board tw_1649 hL2 rfl rfl rfl (c_X12_board l D cs B0 kt α Lv S_2 0 a1 a2 hc.cl hL2  hq_4) rfl rfl hl.1 (Nat.le_of_ble_eq_true rfl) ⟨Nat.le_of_ble_eq_true rfl, Nat.le_of_ble_eq_true rfl, by show _ ≤ 601024; omega, by show _ ≤ 7293034; omega⟩ dL_law__890) hd (fun H locs hd => ?_)
  refine lv_istore (lv' := [(6, .int r_6), (5, .int r_1), (0, .ref b), (1, .ref (α 0 0)), (2, .ref (α 60 0)), (3, .ref (α 81 0)), (4, .int x4)]) hc.x hc.b dL_law__893 hl (by decide) rfl (fun ls hl => ?_)
  refine lv_aload_n hc.x hc.b dL_law__895 rfl (lv_at hl 4 rfl) ?_
  obtain ⟨r_8, hq_7, hf⟩ := on_s hf
  refine k_i (k_runV hc hd my_X12_thrown tw_1431 hL2 rfl rfl rfl (c_X12_thrown l D cs B0 kt α Lv S_5 0 hc.cl hL2  hq_7) rfl rfl hl.1 (Nat.le_of_ble_eq_true rfl) ⟨Nat.le_of_ble_eq_true rfl, Nat.le_of_ble_eq_true rfl, by show _ ≤ 601024; omega, by show _ ≤ 7293034; omega⟩ dL_law__896) hd (fun H locs hd => ?_)
  refine lv_iload hc.x hc.b dL_law__899 (lv_at hl 1 rfl) ?_
  refine lv_icmp_eq (tgt := 906) hc.x hc.b dL_law__901 (by decide) (fun c_9 => ?_) (fun c_9 => ?_)
  · have hf := br_y c_9 hf
    refine lv_iload hc.x hc.b dL_law__906 (lv_at hl 1 rfl) ?_
    refine jn_s (P := fun J_11 => ∀  (S_10 : St) (H : Heap) (locs : List Loc) (ls : Array Slot), J_11 S_10 = some o → Dy s D cs B0 α Lv S_10 H locs → lv_has ls 8 [(0, .ref b), (1, .ref (α 0 0)), (2, .ref (α 60 0)), (3, .ref (α 81 0)), (4, .int x4)] → W p l e room_1 s m args below meth c H locs (cells + 1) (slots + 6) Q (F0 m 923 ls [])) hf ?_ (fun J_11 hJ_11 hf => ?_)
    · intro S_10 H locs ls hf hd hl
      refine lv_goto (tgt := 2923) hc.x hc.b dL_law__923 (by decide) ?_
      cases hf
      refine W.widen (k := cells + 40) (n := slots + 2000) (by omega) (by omega) ?_
      exact kk _ _ _ _ _ (hx.mono (by first | exact fun _ h => absurd h List.not_mem_nil | exact fun _ h => List.mem_append_left _ h | exact fun _ h => List.mem_append_right _ (List.mem_append_left _ h) | exact fun _ h => List.mem_append_right _ (List.mem_append_right _ h))) hc hd (lv_sub hl [0, 1, 2, 3, 4] rfl)
    refine lv_if_ne (tgt := 923) hc.x hc.b dL_law__908 (by decide) (fun c_12 => ?_) (fun c_12 => ?_)
    · have hf := br_n c_12 hf
      exact hJ_11 S_5 _ _ _ hf hd (lv_sub hl [2, 3, 4, 5, 6] rfl)
    · have hf := br_y c_12 hf
      refine lv_aload_n hc.x hc.b dL_law__911 rfl (lv_at hl 5 rfl) ?_
      refine lv_iconst (v := 0) hc.x hc.b dL_law__912 (by decide) ?_
      obtain ⟨hi_13, hf⟩ := ck_s hf
      refine r_lald hc hd hL3 rfl hi_13 dL_law__913 ?_
      refine lv_iload hc.x hc.b dL_law__914 (lv_at hl 0 rfl) ?_
      refine lv_i2l (v := Int32.toInt64 r_6) hc.x hc.b dL_law__916 rfl ?_
      refine W.lcmp hc.x hc.b dL_law__917 ?_
      refine lv_if_eq (tgt := 923) hc.x hc.b dL_law__918 (by decide) (fun c_14 => ?_) (fun c_14 => ?_)
      · have hf := br_y c_14 hf
        exact hJ_11 S_5 _ _ _ hf hd (lv_sub hl [2, 3, 4, 5, 6] rfl)
      · have hf := br_n c_14 hf
        refine lv_iconst (v := 0) hc.x hc.b dL_law__921 (by decide) ?_
        cases hf
  · have hf := br_n c_9 hf
    refine lv_iconst (v := 0) hc.x hc.b dL_law__904 (by decide) ?_
    cases hf
def fc_11 (gN : Nat) (a1 a2 a3 a4 a5 : Int32) (S : St) : Option St := on2 (f_L_would 0 a1 0 S) (fun r_1 S_2 => on2 (f_X12_would 0 a1 S_2) (fun r_6 S_5 => on (f_X12_thrown 0 S_5) (fun r_8 => br (r_8 = r_1) (bv (fun  (S_10 : St) => some S_10) (fun J_11 => br (r_1 = 0) (ck (inb 0 1 = true) (br ((lg_cmp (gl S_5 81 0 (nn 0)) (Int32.toInt64 r_6)) = 0) (J_11 S_5) (none))) (J_11 S_5))) (none))))
set_option maxRecDepth 100000 in
set_option maxHeartbeats 8000000 in
theorem lc_11 (hc : Cx p s m args meth c cL_law_ 8 "PumpCrossingLaw" D cs B0 kt Lv) (hck : CK cs s) (hst : l.stackTraces = false) {b L : Nat} {xs : Nat → Int32} (hX : va_X b L xs s s.heap) (hbl : b < s.heap.size) (hbA : ¬ B0 ≤ b) {x4 a1 a2 a3 a4 a5 : Int32} (hi : inb (x4 + 1) L = true ∧ inb (x4 + 2) L = true ∧ inb (x4 + 3) L = true ∧ inb (x4 + 4) L = true ∧ inb (x4 + 5) L = true) (ea : xs (nn (x4 + 1)) = a1 ∧ xs (nn (x4 + 2)) = a2 ∧ xs (nn (x4 + 3)) = a3 ∧ xs (nn (x4 + 4)) = a4 ∧ xs (nn (x4 + 5)) = a5) {o S : St} {gN : Nat} (hlt : ∀ k g, Lv k g → k < 1000) (hfr : ∀ x ∈ FL gN, ¬ Lv x.1 x.2) (hL1 : Lv 0 0) (hL2 : Lv 60 0) (hL3 : Lv 81 0) (hcc : cells + 60 ≤ 601024) (hss : slots + 3000 ≤ 7293034) (kk : ∀ (α1 : Nat → Nat → Nat) (Lv1 : Nat → Nat → Prop) (H1 : Heap) (locs1 : List Loc) (ls1 : Array Slot), Ex α Lv (1000, 0) α1 Lv1 (FL gN) → Cx p s m args meth c cL_law_ 8 "PumpCrossingLaw" D cs B0 kt Lv1 → Dy s D cs B0 α1 Lv1 o H1 locs1 → lv_has ls1 8 [(0, .ref b), (1, .ref (α1 0 0)), (2, .ref (α1 60 0)), (3, .ref (α1 81 0)), (4, .int x4)] → W p l e room_1 s m args below meth c H1 locs1 (cells + 40) (slots + 2000) Q (F0 m 2923 ls1 [])) {H : Heap} {locs : List Loc} {ls : Array Slot} (hf : fc_11 gN a1 a2 a3 a4 a5 S = some o) (hd : Dy s D cs B0 α Lv S H locs) (hl : lv_has ls 8 [(0, .ref b), (1, .ref (α 0 0)), (2, .ref (α 60 0)), (3, .ref (α 81 0)), (4, .int x4)]) : W p l e room_1 s m args below meth c H locs cells slots Q (F0 m 926 ls []) := by
  unfold fc_11 at hf
  have hx : Ex α Lv (1000, 0) α Lv [] := Ex.start hlt
  refine lv_aload_n hc.x hc.b dL_law__926 rfl (lv_at hl 1 rfl) ?_
  refine lv_aload_n hc.x hc.b dL_law__927 rfl (lv_at hl 0 rfl) ?_
  refine lv_iload hc.x hc.b dL_law__928 (lv_at hl 4 rfl) ?_
  refine lv_iconst (v := 1) hc.x hc.b dL_law__930 (by decide) ?_
  refine lv_iadd hc.x hc.b dL_law__931 ?_
  refine r_sld hc hX hbl hbA hd (hi.1) (ea.1) dL_law__932 ?_
  refine lv_aload_n hc.x hc.b dL_law__933 rfl (lv_at hl 3 rfl) ?_
  obtain ⟨r_1, S_2, hq_3, hf⟩ := on2_s hf
  refine k_i (k_runSW hc hck hd my_L_would tw_874 (c_L_would l D cs B0 kt α Lv S 0 a1 0 hc.cl hL1 hL3 hst hq_3) rfl rfl hl.1 (Nat.le_of_ble_eq_true rfl) ⟨Nat.le_of_ble_eq_true rfl, Nat.le_of_ble_eq_true rfl, by show _ ≤ 601024; omega, by show _ ≤ 7293034; omega⟩ dL_law__934) hd (fun H locs hd => ?_)
  refine lv_istore (lv' := [(5, .int r_1), (0, .ref b), (1, .ref (α 0 0)), (2, .ref (α 60 0)), (3, .ref (α 81 0)), (4, .int x4)]) hc.x hc.b dL_law__937 hl (by decide) rfl (fun ls hl => ?_)
  refine lv_aload_n hc.x hc.b dL_law__939 rfl (lv_at hl 3 rfl) ?_
  refine lv_aload_n hc.x hc.b dL_law__940 rfl (lv_at hl 1 rfl) ?_
  refine lv_iload hc.x hc.b dL_law__941 (lv_at hl 5 rfl) ?_
  refine lv_iconst (v := 1) hc.x hc.b dL_law__943 (by decide) ?_
  refine lv_iadd hc.x hc.b dL_law__944 ?_
  refine r_sld hc hX hbl hbA hd (hi.1) (ea.1) dL_law__945 ?_
  obtain ⟨r_6, S_5, hq_4, hf⟩ := on2_s hf
  refine k_i (k_runV hc hd my_X12_would tw_1661 hL2 rfl rfl rfl (c_X12_would l D cs B0 kt α Lv S_2 0 a1 hc.cl hL2  hq_4) rfl rfl hl.1 (Nat.le_of_ble_eq_true rfl) ⟨Nat.le_of_ble_eq_true rfl, Nat.le_of_ble_eq_true rfl, by show _ ≤ 601024; omega, by show _ ≤ 7293034; omega⟩ dL_law__946) hd (fun H locs hd => ?_)
  refine lv_istore (lv' := [(6, .int r_6), (5, .int r_1), (0, .ref b), (1, .ref (α 0 0)), (2, .ref (α 60 0)), (3, .ref (α 81 0)), (4, .int x4)]) hc.x hc.b dL_law__949 hl (by decide) rfl (fun ls hl => ?_)
  refine lv_aload_n hc.x hc.b dL_law__951 rfl (lv_at hl 4 rfl) ?_
  obtain ⟨r_8, hq_7, hf⟩ := on_s hf
  refine k_i (k_runV hc hd my_X12_thrown tw_1431 hL2 rfl rfl rfl (c_X12_thrown l D cs B0 kt α Lv S_5 0 hc.cl hL2  hq_7) rfl rfl hl.1 (Nat.le_of_ble_eq_true rfl) ⟨Nat.le_of_ble_eq_true rfl, Nat.le_of_ble_eq_true rfl, by show _ ≤ 601024; omega, by show _ ≤ 7293034; omega⟩ dL_law__952) hd (fun H locs hd => ?_)
  refine lv_iload hc.x hc.b dL_law__955 (lv_at hl 1 rfl) ?_
  refine lv_icmp_eq (tgt := 962) hc.x hc.b dL_law__957 (by decide) (fun c_9 => ?_) (fun c_9 => ?_)
  · have hf := br_y c_9 hf
    refine lv_iload hc.x hc.b dL_law__962 (lv_at hl 1 rfl) ?_
    refine jn_s (P := fun J_11 => ∀  (S_10 : St) (H : Heap) (locs : List Loc) (ls : Array Slot), J_11 S_10 = some o → Dy s D cs B0 α Lv S_10 H locs → lv_has ls 8 [(0, .ref b), (1, .ref (α 0 0)), (2, .ref (α 60 0)), (3, .ref (α 81 0)), (4, .int x4)] → W p l e room_1 s m args below meth c H locs (cells + 1) (slots + 6) Q (F0 m 979 ls [])) hf ?_ (fun J_11 hJ_11 hf => ?_)
    · intro S_10 H locs ls hf hd hl
      refine lv_goto (tgt := 2923) hc.x hc.b dL_law__979 (by decide) ?_
      cases hf
      refine W.widen (k := cells + 40) (n := slots + 2000) (by omega) (by omega) ?_
      exact kk _ _ _ _ _ (hx.mono (by first | exact fun _ h => absurd h List.not_mem_nil | exact fun _ h => List.mem_append_left _ h | exact fun _ h => List.mem_append_right _ (List.mem_append_left _ h) | exact fun _ h => List.mem_append_right _ (List.mem_append_right _ h))) hc hd (lv_sub hl [0, 1, 2, 3, 4] rfl)
    refine lv_if_ne (tgt := 979) hc.x hc.b dL_law__964 (by decide) (fun c_12 => ?_) (fun c_12 => ?_)
    · have hf := br_n c_12 hf
      exact hJ_11 S_5 _ _ _ hf hd (lv_sub hl [2, 3, 4, 5, 6] rfl)
    · have hf := br_y c_12 hf
      refine lv_aload_n hc.x hc.b dL_law__967 rfl (lv_at hl 5 rfl) ?_
      refine lv_iconst (v := 0) hc.x hc.b dL_law__968 (by decide) ?_
      obtain ⟨hi_13, hf⟩ := ck_s hf
      refine r_lald hc hd hL3 rfl hi_13 dL_law__969 ?_
      refine lv_iload hc.x hc.b dL_law__970 (lv_at hl 0 rfl) ?_
      refine lv_i2l (v := Int32.toInt64 r_6) hc.x hc.b dL_law__972 rfl ?_
      refine W.lcmp hc.x hc.b dL_law__973 ?_
      refine lv_if_eq (tgt := 979) hc.x hc.b dL_law__974 (by decide) (fun c_14 => ?_) (fun c_14 => ?_)
      · have hf := br_y c_14 hf
        exact hJ_11 S_5 _ _ _ hf hd (lv_sub hl [2, 3, 4, 5, 6] rfl)
      · have hf := br_n c_14 hf
        refine lv_iconst (v := 0) hc.x hc.b dL_law__977 (by decide) ?_
        cases hf
  · have hf := br_n c_9 hf
    refine lv_iconst (v := 0) hc.x hc.b dL_law__960 (by decide) ?_
    cases hf
def fc_12 (gN : Nat) (a1 a2 a3 a4 a5 : Int32) (S : St) : Option St := on2 (f_L_of 0 a1 a2 0 S) (fun r_1 S_2 => on2 (f_X12_of 0 a1 a2 S_2) (fun r_6 S_5 => on (f_X12_thrown 0 S_5) (fun r_8 => br (r_8 = r_1) (bv (fun  (S_10 : St) => some S_10) (fun J_11 => br (r_1 = 0) (ck (inb 0 1 = true) (br ((lg_cmp (gl S_5 81 0 (nn 0)) r_6) = 0) (J_11 S_5) (none))) (J_11 S_5))) (none))))
set_option maxRecDepth 100000 in
set_option maxHeartbeats 8000000 in
theorem lc_12 (hc : Cx p s m args meth c cL_law_ 8 "PumpCrossingLaw" D cs B0 kt Lv) (hck : CK cs s) (hst : l.stackTraces = false) {b L : Nat} {xs : Nat → Int32} (hX : va_X b L xs s s.heap) (hbl : b < s.heap.size) (hbA : ¬ B0 ≤ b) {x4 a1 a2 a3 a4 a5 : Int32} (hi : inb (x4 + 1) L = true ∧ inb (x4 + 2) L = true ∧ inb (x4 + 3) L = true ∧ inb (x4 + 4) L = true ∧ inb (x4 + 5) L = true) (ea : xs (nn (x4 + 1)) = a1 ∧ xs (nn (x4 + 2)) = a2 ∧ xs (nn (x4 + 3)) = a3 ∧ xs (nn (x4 + 4)) = a4 ∧ xs (nn (x4 + 5)) = a5) {o S : St} {gN : Nat} (hlt : ∀ k g, Lv k g → k < 1000) (hfr : ∀ x ∈ FL gN, ¬ Lv x.1 x.2) (hL1 : Lv 0 0) (hL2 : Lv 60 0) (hL3 : Lv 81 0) (hcc : cells + 60 ≤ 601024) (hss : slots + 3000 ≤ 7293034) (kk : ∀ (α1 : Nat → Nat → Nat) (Lv1 : Nat → Nat → Prop) (H1 : Heap) (locs1 : List Loc) (ls1 : Array Slot), Ex α Lv (1000, 0) α1 Lv1 (FL gN) → Cx p s m args meth c cL_law_ 8 "PumpCrossingLaw" D cs B0 kt Lv1 → Dy s D cs B0 α1 Lv1 o H1 locs1 → lv_has ls1 8 [(0, .ref b), (1, .ref (α1 0 0)), (2, .ref (α1 60 0)), (3, .ref (α1 81 0)), (4, .int x4)] → W p l e room_1 s m args below meth c H1 locs1 (cells + 40) (slots + 2000) Q (F0 m 2923 ls1 [])) {H : Heap} {locs : List Loc} {ls : Array Slot} (hf : fc_12 gN a1 a2 a3 a4 a5 S = some o) (hd : Dy s D cs B0 α Lv S H locs) (hl : lv_has ls 8 [(0, .ref b), (1, .ref (α 0 0)), (2, .ref (α 60 0)), (3, .ref (α 81 0)), (4, .int x4)]) : W p l e room_1 s m args below meth c H locs cells slots Q (F0 m 982 ls []) := by
  unfold fc_12 at hf
  have hx : Ex α Lv (1000, 0) α Lv [] := Ex.start hlt
  refine lv_aload_n hc.x hc.b dL_law__982 rfl (lv_at hl 1 rfl) ?_
  refine lv_aload_n hc.x hc.b dL_law__983 rfl (lv_at hl 0 rfl) ?_
  refine lv_iload hc.x hc.b dL_law__984 (lv_at hl 4 rfl) ?_
  refine lv_iconst (v := 1) hc.x hc.b dL_law__986 (by decide) ?_
  refine lv_iadd hc.x hc.b dL_law__987 ?_
  refine r_sld hc hX hbl hbA hd (hi.1) (ea.1) dL_law__988 ?_
  refine lv_aload_n hc.x hc.b dL_law__989 rfl (lv_at hl 0 rfl) ?_
  refine lv_iload hc.x hc.b dL_law__990 (lv_at hl 4 rfl) ?_
  refine lv_iconst (v := 2) hc.x hc.b dL_law__992 (by decide) ?_
  refine lv_iadd hc.x hc.b dL_law__993 ?_
  refine r_sld hc hX hbl hbA hd (hi.2.1) (ea.2.1) dL_law__994 ?_
  refine lv_aload_n hc.x hc.b dL_law__995 rfl (lv_at hl 3 rfl) ?_
  obtain ⟨r_1, S_2, hq_3, hf⟩ := on2_s hf
  refine k_i (k_runSW hc hck hd my_L_of tw_883 (c_L_of l D cs B0 kt α Lv S 0 a1 a2 0 hc.cl hL1 hL3 hst hq_3) rfl rfl hl.1 (Nat.le_of_ble_eq_true rfl) ⟨Nat.le_of_ble_eq_true rfl, Nat.le_of_ble_eq_true rfl, by show _ ≤ 601024; omega, by show _ ≤ 7293034; omega⟩ dL_law__996) hd (fun H locs hd => ?_)
  refine lv_istore (lv' := [(5, .int r_1), (0, .ref b), (1, .ref (α 0 0)), (2, .ref (α 60 0)), (3, .ref (α 81 0)), (4, .int x4)]) hc.x hc.b dL_law__999 hl (by decide) rfl (fun ls hl => ?_)
  refine lv_aload_n hc.x hc.b dL_law__1001 rfl (lv_at hl 3 rfl) ?_
  refine lv_aload_n hc.x hc.b dL_law__1002 rfl (lv_at hl 1 rfl) ?_
  refine lv_iload hc.x hc.b dL_law__1003 (lv_at hl 5 rfl) ?_
  refine lv_iconst (v := 1) hc.x hc.b dL_law__1005 (by decide) ?_
  refine lv_iadd hc.x hc.b dL_law__1006 ?_
  refine r_sld hc hX hbl hbA hd (hi.1) (ea.1) dL_law__1007 ?_
  refine lv_aload_n hc.x hc.b dL_law__1008 rfl (lv_at hl 1 rfl) ?_
  refine lv_iload hc.x hc.b dL_law__1009 (lv_at hl 5 rfl) ?_
  refine lv_iconst (v := 2) hc.x hc.b dL_law__1011 (by decide) ?_
  refine lv_iadd hc.x hc.b dL_law__1012 ?_
  refine r_sld hc hX hbl hbA hd (hi.2.1) (ea.2.1) dL_law__1013 ?_
  obtain ⟨r_6, S_5, hq_4, hf⟩ := on2_s hf
  refine k_l (k_runV hc hd my_X12_of tw_1665 hL2 rfl rfl rfl (c_X12_of l D cs B0 kt α Lv S_2 0 a1 a2 hc.cl hL2  hq_4) rfl rfl hl.1 (Nat.le_of_ble_eq_true rfl) ⟨Nat.le_of_ble_eq_true rfl, Nat.le_of_ble_eq_true rfl, by show _ ≤ 601024; omega, by show _ ≤ 7293034; omega⟩ dL_law__1014) hd (fun H locs hd => ?_)
  refine lv_lstore (lv' := [(6, .long r_6), (5, .int r_1), (0, .ref b), (1, .ref (α 0 0)), (2, .ref (α 60 0)), (3, .ref (α 81 0)), (4, .int x4)]) hc.x hc.b dL_law__1017 hl (by decide) rfl (fun ls hl => ?_)
  refine lv_aload_n hc.x hc.b dL_law__1019 rfl (lv_at hl 4 rfl) ?_
  obtain ⟨r_8, hq_7, hf⟩ := on_s hf
  refine k_i (k_runV hc hd my_X12_thrown tw_1431 hL2 rfl rfl rfl (c_X12_thrown l D cs B0 kt α Lv S_5 0 hc.cl hL2  hq_7) rfl rfl hl.1 (Nat.le_of_ble_eq_true rfl) ⟨Nat.le_of_ble_eq_true rfl, Nat.le_of_ble_eq_true rfl, by show _ ≤ 601024; omega, by show _ ≤ 7293034; omega⟩ dL_law__1020) hd (fun H locs hd => ?_)
  refine lv_iload hc.x hc.b dL_law__1023 (lv_at hl 1 rfl) ?_
  refine lv_icmp_eq (tgt := 1030) hc.x hc.b dL_law__1025 (by decide) (fun c_9 => ?_) (fun c_9 => ?_)
  · have hf := br_y c_9 hf
    refine lv_iload hc.x hc.b dL_law__1030 (lv_at hl 1 rfl) ?_
    refine jn_s (P := fun J_11 => ∀  (S_10 : St) (H : Heap) (locs : List Loc) (ls : Array Slot), J_11 S_10 = some o → Dy s D cs B0 α Lv S_10 H locs → lv_has ls 8 [(0, .ref b), (1, .ref (α 0 0)), (2, .ref (α 60 0)), (3, .ref (α 81 0)), (4, .int x4)] → W p l e room_1 s m args below meth c H locs (cells + 1) (slots + 6) Q (F0 m 1046 ls [])) hf ?_ (fun J_11 hJ_11 hf => ?_)
    · intro S_10 H locs ls hf hd hl
      refine lv_goto (tgt := 2923) hc.x hc.b dL_law__1046 (by decide) ?_
      cases hf
      refine W.widen (k := cells + 40) (n := slots + 2000) (by omega) (by omega) ?_
      exact kk _ _ _ _ _ (hx.mono (by first | exact fun _ h => absurd h List.not_mem_nil | exact fun _ h => List.mem_append_left _ h | exact fun _ h => List.mem_append_right _ (List.mem_append_left _ h) | exact fun _ h => List.mem_append_right _ (List.mem_append_right _ h))) hc hd (lv_sub hl [0, 1, 2, 3, 4] rfl)
    refine lv_if_ne (tgt := 1046) hc.x hc.b dL_law__1032 (by decide) (fun c_12 => ?_) (fun c_12 => ?_)
    · have hf := br_n c_12 hf
      exact hJ_11 S_5 _ _ _ hf hd (lv_sub hl [2, 3, 4, 5, 6] rfl)
    · have hf := br_y c_12 hf
      refine lv_aload_n hc.x hc.b dL_law__1035 rfl (lv_at hl 5 rfl) ?_
      refine lv_iconst (v := 0) hc.x hc.b dL_law__1036 (by decide) ?_
      obtain ⟨hi_13, hf⟩ := ck_s hf
      refine r_lald hc hd hL3 rfl hi_13 dL_law__1037 ?_
      refine lv_lload hc.x hc.b dL_law__1038 (lv_at hl 0 rfl) ?_
      refine W.lcmp hc.x hc.b dL_law__1040 ?_
      refine lv_if_eq (tgt := 1046) hc.x hc.b dL_law__1041 (by decide) (fun c_14 => ?_) (fun c_14 => ?_)
      · have hf := br_y c_14 hf
        exact hJ_11 S_5 _ _ _ hf hd (lv_sub hl [2, 3, 4, 5, 6] rfl)
      · have hf := br_n c_14 hf
        refine lv_iconst (v := 0) hc.x hc.b dL_law__1044 (by decide) ?_
        cases hf
  · have hf := br_n c_9 hf
    refine lv_iconst (v := 0) hc.x hc.b dL_law__1028 (by decide) ?_
    cases hf
def fc_13 (gN : Nat) (a1 a2 a3 a4 a5 : Int32) (S : St) : Option St := on2 (f_L_fills 0 a1 0 S) (fun r_1 S_2 => on2 (f_X12_fills 0 a1 S_2) (fun r_6 S_5 => on (f_X12_thrown 0 S_5) (fun r_8 => br (r_8 = r_1) (bv (fun  (S_10 : St) => some S_10) (fun J_11 => br (r_1 = 0) (ck (inb 0 1 = true) (br ((lg_cmp (gl S_5 81 0 (nn 0)) (Int32.toInt64 r_6)) = 0) (J_11 S_5) (none))) (J_11 S_5))) (none))))
set_option maxRecDepth 100000 in
set_option maxHeartbeats 8000000 in
theorem lc_13 (hc : Cx p s m args meth c cL_law_ 8 "PumpCrossingLaw" D cs B0 kt Lv) (hck : CK cs s) (hst : l.stackTraces = false) {b L : Nat} {xs : Nat → Int32} (hX : va_X b L xs s s.heap) (hbl : b < s.heap.size) (hbA : ¬ B0 ≤ b) {x4 a1 a2 a3 a4 a5 : Int32} (hi : inb (x4 + 1) L = true ∧ inb (x4 + 2) L = true ∧ inb (x4 + 3) L = true ∧ inb (x4 + 4) L = true ∧ inb (x4 + 5) L = true) (ea : xs (nn (x4 + 1)) = a1 ∧ xs (nn (x4 + 2)) = a2 ∧ xs (nn (x4 + 3)) = a3 ∧ xs (nn (x4 + 4)) = a4 ∧ xs (nn (x4 + 5)) = a5) {o S : St} {gN : Nat} (hlt : ∀ k g, Lv k g → k < 1000) (hfr : ∀ x ∈ FL gN, ¬ Lv x.1 x.2) (hL1 : Lv 0 0) (hL2 : Lv 60 0) (hL3 : Lv 81 0) (hcc : cells + 60 ≤ 601024) (hss : slots + 3000 ≤ 7293034) (kk : ∀ (α1 : Nat → Nat → Nat) (Lv1 : Nat → Nat → Prop) (H1 : Heap) (locs1 : List Loc) (ls1 : Array Slot), Ex α Lv (1000, 0) α1 Lv1 (FL gN) → Cx p s m args meth c cL_law_ 8 "PumpCrossingLaw" D cs B0 kt Lv1 → Dy s D cs B0 α1 Lv1 o H1 locs1 → lv_has ls1 8 [(0, .ref b), (1, .ref (α1 0 0)), (2, .ref (α1 60 0)), (3, .ref (α1 81 0)), (4, .int x4)] → W p l e room_1 s m args below meth c H1 locs1 (cells + 40) (slots + 2000) Q (F0 m 2923 ls1 [])) {H : Heap} {locs : List Loc} {ls : Array Slot} (hf : fc_13 gN a1 a2 a3 a4 a5 S = some o) (hd : Dy s D cs B0 α Lv S H locs) (hl : lv_has ls 8 [(0, .ref b), (1, .ref (α 0 0)), (2, .ref (α 60 0)), (3, .ref (α 81 0)), (4, .int x4)]) : W p l e room_1 s m args below meth c H locs cells slots Q (F0 m 1049 ls []) := by
  unfold fc_13 at hf
  have hx : Ex α Lv (1000, 0) α Lv [] := Ex.start hlt
  refine lv_aload_n hc.x hc.b dL_law__1049 rfl (lv_at hl 1 rfl) ?_
  refine lv_aload_n hc.x hc.b dL_law__1050 rfl (lv_at hl 0 rfl) ?_
  refine lv_iload hc.x hc.b dL_law__1051 (lv_at hl 4 rfl) ?_
  refine lv_iconst (v := 1) hc.x hc.b dL_law__1053 (by decide) ?_
  refine lv_iadd hc.x hc.b dL_law__1054 ?_
  refine r_sld hc hX hbl hbA hd (hi.1) (ea.1) dL_law__1055 ?_
  refine lv_aload_n hc.x hc.b dL_law__1056 rfl (lv_at hl 3 rfl) ?_
  obtain ⟨r_1, S_2, hq_3, hf⟩ := on2_s hf
  refine k_i (k_runSW hc hck hd my_L_fills tw_891 (c_L_fills l D cs B0 kt α Lv S 0 a1 0 hc.cl hL1 hL3 hst hq_3) rfl rfl hl.1 (Nat.le_of_ble_eq_true rfl) ⟨Nat.le_of_ble_eq_true rfl, Nat.le_of_ble_eq_true rfl, by show _ ≤ 601024; omega, by show _ ≤ 7293034; omega⟩ dL_law__1057) hd (fun H locs hd => ?_)
  refine lv_istore (lv' := [(5, .int r_1), (0, .ref b), (1, .ref (α 0 0)), (2, .ref (α 60 0)), (3, .ref (α 81 0)), (4, .int x4)]) hc.x hc.b dL_law__1060 hl (by decide) rfl (fun ls hl => ?_)
  refine lv_aload_n hc.x hc.b dL_law__1062 rfl (lv_at hl 3 rfl) ?_
  refine lv_aload_n hc.x hc.b dL_law__1063 rfl (lv_at hl 1 rfl) ?_
  refine lv_iload hc.x hc.b dL_law__1064 (lv_at hl 5 rfl) ?_
  refine lv_iconst (v := 1) hc.x hc.b dL_law__1066 (by decide) ?_
  refine lv_iadd hc.x hc.b dL_law__1067 ?_
  refine r_sld hc hX hbl hbA hd (hi.1) (ea.1) dL_law__1068 ?_
  obtain ⟨r_6, S_5, hq_4, hf⟩ := on2_s hf
  refine k_i (k_runV hc hd my_X12_fills tw_1670 hL2 rfl rfl rfl (c_X12_fills l D cs B0 kt α Lv S_2 0 a1 hc.cl hL2  hq_4) rfl rfl hl.1 (Nat.le_of_ble_eq_true rfl) ⟨Nat.le_of_ble_eq_true rfl, Nat.le_of_ble_eq_true rfl, by show _ ≤ 601024; omega, by show _ ≤ 7293034; omega⟩ dL_law__1069) hd (fun H locs hd => ?_)
  refine lv_istore (lv' := [(6, .int r_6), (5, .int r_1), (0, .ref b), (1, .ref (α 0 0)), (2, .ref (α 60 0)), (3, .ref (α 81 0)), (4, .int x4)]) hc.x hc.b dL_law__1072 hl (by decide) rfl (fun ls hl => ?_)
  refine lv_aload_n hc.x hc.b dL_law__1074 rfl (lv_at hl 4 rfl) ?_
  obtain ⟨r_8, hq_7, hf⟩ := on_s hf
  refine k_i (k_runV hc hd my_X12_thrown tw_1431 hL2 rfl rfl rfl (c_X12_thrown l D cs B0 kt α Lv S_5 0 hc.cl hL2  hq_7) rfl rfl hl.1 (Nat.le_of_ble_eq_true rfl) ⟨Nat.le_of_ble_eq_true rfl, Nat.le_of_ble_eq_true rfl, by show _ ≤ 601024; omega, by show _ ≤ 7293034; omega⟩ dL_law__1075) hd (fun H locs hd => ?_)
  refine lv_iload hc.x hc.b dL_law__1078 (lv_at hl 1 rfl) ?_
  refine lv_icmp_eq (tgt := 1085) hc.x hc.b dL_law__1080 (by decide) (fun c_9 => ?_) (fun c_9 => ?_)
  · have hf := br_y c_9 hf
    refine lv_iload hc.x hc.b dL_law__1085 (lv_at hl 1 rfl) ?_
    refine jn_s (P := fun J_11 => ∀  (S_10 : St) (H : Heap) (locs : List Loc) (ls : Array Slot), J_11 S_10 = some o → Dy s D cs B0 α Lv S_10 H locs → lv_has ls 8 [(0, .ref b), (1, .ref (α 0 0)), (2, .ref (α 60 0)), (3, .ref (α 81 0)), (4, .int x4)] → W p l e room_1 s m args below meth c H locs (cells + 1) (slots + 6) Q (F0 m 1102 ls [])) hf ?_ (fun J_11 hJ_11 hf => ?_)
    · intro S_10 H locs ls hf hd hl
      refine lv_goto (tgt := 2923) hc.x hc.b dL_law__1102 (by decide) ?_
      cases hf
      refine W.widen (k := cells + 40) (n := slots + 2000) (by omega) (by omega) ?_
      exact kk _ _ _ _ _ (hx.mono (by first | exact fun _ h => absurd h List.not_mem_nil | exact fun _ h => List.mem_append_left _ h | exact fun _ h => List.mem_append_right _ (List.mem_append_left _ h) | exact fun _ h => List.mem_append_right _ (List.mem_append_right _ h))) hc hd (lv_sub hl [0, 1, 2, 3, 4] rfl)
    refine lv_if_ne (tgt := 1102) hc.x hc.b dL_law__1087 (by decide) (fun c_12 => ?_) (fun c_12 => ?_)
    · have hf := br_n c_12 hf
      exact hJ_11 S_5 _ _ _ hf hd (lv_sub hl [2, 3, 4, 5, 6] rfl)
    · have hf := br_y c_12 hf
      refine lv_aload_n hc.x hc.b dL_law__1090 rfl (lv_at hl 5 rfl) ?_
      refine lv_iconst (v := 0) hc.x hc.b dL_law__1091 (by decide) ?_
      obtain ⟨hi_13, hf⟩ := ck_s hf
      refine r_lald hc hd hL3 rfl hi_13 dL_law__1092 ?_
      refine lv_iload hc.x hc.b dL_law__1093 (lv_at hl 0 rfl) ?_
      refine lv_i2l (v := Int32.toInt64 r_6) hc.x hc.b dL_law__1095 rfl ?_
      refine W.lcmp hc.x hc.b dL_law__1096 ?_
      refine lv_if_eq (tgt := 1102) hc.x hc.b dL_law__1097 (by decide) (fun c_14 => ?_) (fun c_14 => ?_)
      · have hf := br_y c_14 hf
        exact hJ_11 S_5 _ _ _ hf hd (lv_sub hl [2, 3, 4, 5, 6] rfl)
      · have hf := br_n c_14 hf
        refine lv_iconst (v := 0) hc.x hc.b dL_law__1100 (by decide) ?_
        cases hf
  · have hf := br_n c_9 hf
    refine lv_iconst (v := 0) hc.x hc.b dL_law__1083 (by decide) ?_
    cases hf
def fc_14 (gN : Nat) (a1 a2 a3 a4 a5 : Int32) (S : St) : Option St := on (f_X11_round 0 S) (fun r_2 => on2 (f_X12_round 0 S) (fun r_5 S_4 => br (r_2 = r_5) (some S_4) (none)))
set_option maxRecDepth 100000 in
set_option maxHeartbeats 8000000 in
theorem lc_14 (hc : Cx p s m args meth c cL_law_ 8 "PumpCrossingLaw" D cs B0 kt Lv) (hck : CK cs s) (hst : l.stackTraces = false) {b L : Nat} {xs : Nat → Int32} (hX : va_X b L xs s s.heap) (hbl : b < s.heap.size) (hbA : ¬ B0 ≤ b) {x4 a1 a2 a3 a4 a5 : Int32} (hi : inb (x4 + 1) L = true ∧ inb (x4 + 2) L = true ∧ inb (x4 + 3) L = true ∧ inb (x4 + 4) L = true ∧ inb (x4 + 5) L = true) (ea : xs (nn (x4 + 1)) = a1 ∧ xs (nn (x4 + 2)) = a2 ∧ xs (nn (x4 + 3)) = a3 ∧ xs (nn (x4 + 4)) = a4 ∧ xs (nn (x4 + 5)) = a5) {o S : St} {gN : Nat} (hlt : ∀ k g, Lv k g → k < 1000) (hfr : ∀ x ∈ FL gN, ¬ Lv x.1 x.2) (hL1 : Lv 0 0) (hL2 : Lv 60 0) (hL3 : Lv 81 0) (hcc : cells + 60 ≤ 601024) (hss : slots + 3000 ≤ 7293034) (kk : ∀ (α1 : Nat → Nat → Nat) (Lv1 : Nat → Nat → Prop) (H1 : Heap) (locs1 : List Loc) (ls1 : Array Slot), Ex α Lv (1000, 0) α1 Lv1 (FL gN) → Cx p s m args meth c cL_law_ 8 "PumpCrossingLaw" D cs B0 kt Lv1 → Dy s D cs B0 α1 Lv1 o H1 locs1 → lv_has ls1 8 [(0, .ref b), (1, .ref (α1 0 0)), (2, .ref (α1 60 0)), (3, .ref (α1 81 0)), (4, .int x4)] → W p l e room_1 s m args below meth c H1 locs1 (cells + 40) (slots + 2000) Q (F0 m 2923 ls1 [])) {H : Heap} {locs : List Loc} {ls : Array Slot} (hf : fc_14 gN a1 a2 a3 a4 a5 S = some o) (hd : Dy s D cs B0 α Lv S H locs) (hl : lv_has ls 8 [(0, .ref b), (1, .ref (α 0 0)), (2, .ref (α 60 0)), (3, .ref (α 81 0)), (4, .int x4)]) : W p l e room_1 s m args below meth c H locs cells slots Q (F0 m 1105 ls []) := by
  unfold fc_14 at hf
  have hx : Ex α Lv (1000, 0) α Lv [] := Ex.start hlt
  refine lv_aload_n hc.x hc.b dL_law__1105 rfl (lv_at hl 1 rfl) ?_
  obtain ⟨r_2, hq_1, hf⟩ := on_s hf
  refine k_i (k_runV hc hd my_X11_round tw_394 hL1 rfl rfl rfl (c_X11_round l D cs B0 kt α Lv S 0 hc.cl hL1  hq_1) rfl rfl hl.1 (Nat.le_of_ble_eq_true rfl) ⟨Nat.le_of_ble_eq_true rfl, Nat.le_of_ble_eq_true rfl, by show _ ≤ 601024; omega, by show _ ≤ 7293034; omega⟩ dL_law__1106) hd (fun H locs hd => ?_)
  refine lv_aload_n hc.x hc.b dL_law__1109 rfl (lv_at hl 2 rfl) ?_
  obtain ⟨r_5, S_4, hq_3, hf⟩ := on2_s hf
  refine k_i (k_runV hc hd my_X12_round tw_1674 hL2 rfl rfl rfl (c_X12_round l D cs B0 kt α Lv S 0 hc.cl hL2  hq_3) rfl rfl hl.1 (Nat.le_of_ble_eq_true rfl) ⟨Nat.le_of_ble_eq_true rfl, Nat.le_of_ble_eq_true rfl, by show _ ≤ 601024; omega, by show _ ≤ 7293034; omega⟩ dL_law__1110) hd (fun H locs hd => ?_)
  refine lv_icmp_eq (tgt := 2923) hc.x hc.b dL_law__1113 (by decide) (fun c_6 => ?_) (fun c_6 => ?_)
  · have hf := br_y c_6 hf
    cases hf
    refine W.widen (k := cells + 40) (n := slots + 2000) (by omega) (by omega) ?_
    exact kk _ _ _ _ _ (hx.mono (by first | exact fun _ h => absurd h List.not_mem_nil | exact fun _ h => List.mem_append_left _ h | exact fun _ h => List.mem_append_right _ (List.mem_append_left _ h) | exact fun _ h => List.mem_append_right _ (List.mem_append_right _ h))) hc hd (lv_sub hl [0, 1, 2, 3, 4] rfl)
  · have hf := br_n c_6 hf
    refine lv_iconst (v := 0) hc.x hc.b dL_law__1116 (by decide) ?_
    cases hf
def fc_15 (gN : Nat) (a1 a2 a3 a4 a5 : Int32) (S : St) : Option St := bv (fun (v_1 : Int32) (S_2 : St) => on2 (f_L_leads 0 a1 v_1 0 S_2) (fun r_4 S_5 => bv (fun (v_7 : Int32) (S_8 : St) => on2 (f_X12_leads 0 a1 v_7 S_8) (fun r_12 S_11 => on (f_X12_thrown 0 S_11) (fun r_14 => br (r_14 = r_4) (bv (fun  (S_16 : St) => some S_16) (fun J_17 => br (r_4 = 0) (ck (inb 0 1 = true) (br ((lg_cmp (gl S_11 81 0 (nn 0)) (Int32.toInt64 r_12)) = 0) (J_17 S_11) (none))) (J_17 S_11))) (none)))) (fun J_9 => br (a2 = 0) (J_9 0 S_5) (J_9 1 S_5)))) (fun J_3 => br (a2 = 0) (J_3 0 S) (J_3 1 S))
set_option maxRecDepth 100000 in
set_option maxHeartbeats 8000000 in
theorem lc_15 (hc : Cx p s m args meth c cL_law_ 8 "PumpCrossingLaw" D cs B0 kt Lv) (hck : CK cs s) (hst : l.stackTraces = false) {b L : Nat} {xs : Nat → Int32} (hX : va_X b L xs s s.heap) (hbl : b < s.heap.size) (hbA : ¬ B0 ≤ b) {x4 a1 a2 a3 a4 a5 : Int32} (hi : inb (x4 + 1) L = true ∧ inb (x4 + 2) L = true ∧ inb (x4 + 3) L = true ∧ inb (x4 + 4) L = true ∧ inb (x4 + 5) L = true) (ea : xs (nn (x4 + 1)) = a1 ∧ xs (nn (x4 + 2)) = a2 ∧ xs (nn (x4 + 3)) = a3 ∧ xs (nn (x4 + 4)) = a4 ∧ xs (nn (x4 + 5)) = a5) {o S : St} {gN : Nat} (hlt : ∀ k g, Lv k g → k < 1000) (hfr : ∀ x ∈ FL gN, ¬ Lv x.1 x.2) (hL1 : Lv 0 0) (hL2 : Lv 60 0) (hL3 : Lv 81 0) (hcc : cells + 60 ≤ 601024) (hss : slots + 3000 ≤ 7293034) (kk : ∀ (α1 : Nat → Nat → Nat) (Lv1 : Nat → Nat → Prop) (H1 : Heap) (locs1 : List Loc) (ls1 : Array Slot), Ex α Lv (1000, 0) α1 Lv1 (FL gN) → Cx p s m args meth c cL_law_ 8 "PumpCrossingLaw" D cs B0 kt Lv1 → Dy s D cs B0 α1 Lv1 o H1 locs1 → lv_has ls1 8 [(0, .ref b), (1, .ref (α1 0 0)), (2, .ref (α1 60 0)), (3, .ref (α1 81 0)), (4, .int x4)] → W p l e room_1 s m args below meth c H1 locs1 (cells + 40) (slots + 2000) Q (F0 m 2923 ls1 [])) {H : Heap} {locs : List Loc} {ls : Array Slot} (hf : fc_15 gN a1 a2 a3 a4 a5 S = some o) (hd : Dy s D cs B0 α Lv S H locs) (hl : lv_has ls 8 [(0, .ref b), (1, .ref (α 0 0)), (2, .ref (α 60 0)), (3, .ref (α 81 0)), (4, .int x4)]) : W p l e room_1 s m args below meth c H locs cells slots Q (F0 m 1118 ls []) := by
  unfold fc_15 at hf
  have hx : Ex α Lv (1000, 0) α Lv [] := Ex.start hlt
  refine lv_aload_n hc.x hc.b dL_law__1118 rfl (lv_at hl 1 rfl) ?_
  refine lv_aload_n hc.x hc.b dL_law__1119 rfl (lv_at hl 0 rfl) ?_
  refine lv_iload hc.x hc.b dL_law__1120 (lv_at hl 4 rfl) ?_
  refine lv_iconst (v := 1) hc.x hc.b dL_law__1122 (by decide) ?_
  refine lv_iadd hc.x hc.b dL_law__1123 ?_
  refine r_sld hc hX hbl hbA hd (hi.1) (ea.1) dL_law__1124 ?_
  refine lv_aload_n hc.x hc.b dL_law__1125 rfl (lv_at hl 0 rfl) ?_
  refine lv_iload hc.x hc.b dL_law__1126 (lv_at hl 4 rfl) ?_
  refine lv_iconst (v := 2) hc.x hc.b dL_law__1128 (by decide) ?_
  refine lv_iadd hc.x hc.b dL_law__1129 ?_
  refine r_sld hc hX hbl hbA hd (hi.2.1) (ea.2.1) dL_law__1130 ?_
  refine jn_s (P := fun J_3 => ∀ (v_1 : Int32) (S_2 : St) (H : Heap) (locs : List Loc) (ls : Array Slot), J_3 v_1 S_2 = some o → Dy s D cs B0 α Lv S_2 H locs → lv_has ls 8 [(0, .ref b), (1, .ref (α 0 0)), (2, .ref (α 60 0)), (3, .ref (α 81 0)), (4, .int x4)] → W p l e room_1 s m args below meth c H locs (cells) (slots) Q (F0 m 1139 ls [.int v_1, .int a1, .ref (α 0 0)])) hf ?_ (fun J_3 hJ_3 hf => ?_)
  · intro v_1 S_2 H locs ls hf hd hl
    refine lv_aload_n hc.x hc.b dL_law__1139 rfl (lv_at hl 3 rfl) ?_
    obtain ⟨r_4, S_5, hq_6, hf⟩ := on2_s hf
    refine k_i (k_runSW hc hck hd my_L_leads tw_905 (c_L_leads l D cs B0 kt α Lv S_2 0 a1 v_1 0 hc.cl hL1 hL3 hst hq_6) rfl rfl hl.1 (Nat.le_of_ble_eq_true rfl) ⟨Nat.le_of_ble_eq_true rfl, Nat.le_of_ble_eq_true rfl, by show _ ≤ 601024; omega, by show _ ≤ 7293034; omega⟩ dL_law__1140) hd (fun H locs hd => ?_)
    refine lv_istore (lv' := [(5, .int r_4), (0, .ref b), (1, .ref (α 0 0)), (2, .ref (α 60 0)), (3, .ref (α 81 0)), (4, .int x4)]) hc.x hc.b dL_law__1143 hl (by decide) rfl (fun ls hl => ?_)
    refine lv_aload_n hc.x hc.b dL_law__1145 rfl (lv_at hl 3 rfl) ?_
    refine lv_aload_n hc.x hc.b dL_law__1146 rfl (lv_at hl 1 rfl) ?_
    refine lv_iload hc.x hc.b dL_law__1147 (lv_at hl 5 rfl) ?_
    refine lv_iconst (v := 1) hc.x hc.b dL_law__1149 (by decide) ?_
    refine lv_iadd hc.x hc.b dL_law__1150 ?_
    refine r_sld hc hX hbl hbA hd (hi.1) (ea.1) dL_law__1151 ?_
    refine lv_aload_n hc.x hc.b dL_law__1152 rfl (lv_at hl 1 rfl) ?_
    refine lv_iload hc.x hc.b dL_law__1153 (lv_at hl 5 rfl) ?_
    refine lv_iconst (v := 2) hc.x hc.b dL_law__1155 (by decide) ?_
    refine lv_iadd hc.x hc.b dL_law__1156 ?_
    refine r_sld hc hX hbl hbA hd (hi.2.1) (ea.2.1) dL_law__1157 ?_
    refine jn_s (P := fun J_9 => ∀ (v_7 : Int32) (S_8 : St) (H : Heap) (locs : List Loc) (ls : Array Slot), J_9 v_7 S_8 = some o → Dy s D cs B0 α Lv S_8 H locs → lv_has ls 8 [(0, .ref b), (1, .ref (α 0 0)), (2, .ref (α 60 0)), (3, .ref (α 81 0)), (4, .int x4), (5, .int r_4)] → W p l e room_1 s m args below meth c H locs (cells + 1) (slots + 6) Q (F0 m 1166 ls [.int v_7, .int a1, .ref (α 60 0)])) hf ?_ (fun J_9 hJ_9 hf => ?_)
    · intro v_7 S_8 H locs ls hf hd hl
      obtain ⟨r_12, S_11, hq_10, hf⟩ := on2_s hf
      refine k_i (k_runV hc hd my_X12_leads tw_1682 hL2 rfl rfl rfl (c_X12_leads l D cs B0 kt α Lv S_8 0 a1 v_7 hc.cl hL2  hq_10) rfl rfl hl.1 (Nat.le_of_ble_eq_true rfl) ⟨Nat.le_of_ble_eq_true rfl, Nat.le_of_ble_eq_true rfl, by show _ ≤ 601024; omega, by show _ ≤ 7293034; omega⟩ dL_law__1166) hd (fun H locs hd => ?_)
      refine lv_istore (lv' := [(6, .int r_12), (0, .ref b), (1, .ref (α 0 0)), (2, .ref (α 60 0)), (3, .ref (α 81 0)), (4, .int x4), (5, .int r_4)]) hc.x hc.b dL_law__1169 hl (by decide) rfl (fun ls hl => ?_)
      refine lv_aload_n hc.x hc.b dL_law__1171 rfl (lv_at hl 3 rfl) ?_
      obtain ⟨r_14, hq_13, hf⟩ := on_s hf
      refine k_i (k_runV hc hd my_X12_thrown tw_1431 hL2 rfl rfl rfl (c_X12_thrown l D cs B0 kt α Lv S_11 0 hc.cl hL2  hq_13) rfl rfl hl.1 (Nat.le_of_ble_eq_true rfl) ⟨Nat.le_of_ble_eq_true rfl, Nat.le_of_ble_eq_true rfl, by show _ ≤ 601024; omega, by show _ ≤ 7293034; omega⟩ dL_law__1172) hd (fun H locs hd => ?_)
      refine lv_iload hc.x hc.b dL_law__1175 (lv_at hl 6 rfl) ?_
      refine lv_icmp_eq (tgt := 1182) hc.x hc.b dL_law__1177 (by decide) (fun c_15 => ?_) (fun c_15 => ?_)
      · have hf := br_y c_15 hf
        refine lv_iload hc.x hc.b dL_law__1182 (lv_at hl 6 rfl) ?_
        refine jn_s (P := fun J_17 => ∀  (S_16 : St) (H : Heap) (locs : List Loc) (ls : Array Slot), J_17 S_16 = some o → Dy s D cs B0 α Lv S_16 H locs → lv_has ls 8 [(0, .ref b), (1, .ref (α 0 0)), (2, .ref (α 60 0)), (3, .ref (α 81 0)), (4, .int x4)] → W p l e room_1 s m args below meth c H locs (cells + 1) (slots + 6) Q (F0 m 1199 ls [])) hf ?_ (fun J_17 hJ_17 hf => ?_)
        · intro S_16 H locs ls hf hd hl
          refine lv_goto (tgt := 2923) hc.x hc.b dL_law__1199 (by decide) ?_
          cases hf
          refine W.widen (k := cells + 40) (n := slots + 2000) (by omega) (by omega) ?_
          exact kk _ _ _ _ _ (hx.mono (by first | exact fun _ h => absurd h List.not_mem_nil | exact fun _ h => List.mem_append_left _ h | exact fun _ h => List.mem_append_right _ (List.mem_append_left _ h) | exact fun _ h => List.mem_append_right _ (List.mem_append_right _ h))) hc hd (lv_sub hl [0, 1, 2, 3, 4] rfl)
        refine lv_if_ne (tgt := 1199) hc.x hc.b dL_law__1184 (by decide) (fun c_18 => ?_) (fun c_18 => ?_)
        · have hf := br_n c_18 hf
          exact hJ_17 S_11 _ _ _ hf hd (lv_sub hl [1, 2, 3, 4, 5] rfl)
        · have hf := br_y c_18 hf
          refine lv_aload_n hc.x hc.b dL_law__1187 rfl (lv_at hl 4 rfl) ?_
          refine lv_iconst (v := 0) hc.x hc.b dL_law__1188 (by decide) ?_
          obtain ⟨hi_19, hf⟩ := ck_s hf
          refine r_lald hc hd hL3 rfl hi_19 dL_law__1189 ?_
          refine lv_iload hc.x hc.b dL_law__1190 (lv_at hl 0 rfl) ?_
          refine lv_i2l (v := Int32.toInt64 r_12) hc.x hc.b dL_law__1192 rfl ?_
          refine W.lcmp hc.x hc.b dL_law__1193 ?_
          refine lv_if_eq (tgt := 1199) hc.x hc.b dL_law__1194 (by decide) (fun c_20 => ?_) (fun c_20 => ?_)
          · have hf := br_y c_20 hf
            exact hJ_17 S_11 _ _ _ hf hd (lv_sub hl [1, 2, 3, 4, 5] rfl)
          · have hf := br_n c_20 hf
            refine lv_iconst (v := 0) hc.x hc.b dL_law__1197 (by decide) ?_
            cases hf
      · have hf := br_n c_15 hf
        refine lv_iconst (v := 0) hc.x hc.b dL_law__1180 (by decide) ?_
        cases hf
    refine lv_if_eq (tgt := 1165) hc.x hc.b dL_law__1158 (by decide) (fun c_21 => ?_) (fun c_21 => ?_)
    · have hf := br_y c_21 hf
      refine lv_iconst (v := 0) hc.x hc.b dL_law__1165 (by decide) ?_
      exact hJ_9 0 S_5 _ _ _ hf hd (lv_sub hl [1, 2, 3, 4, 5, 0] rfl)
    · have hf := br_n c_21 hf
      refine lv_iconst (v := 1) hc.x hc.b dL_law__1161 (by decide) ?_
      refine lv_goto (tgt := 1166) hc.x hc.b dL_law__1162 (by decide) ?_
      exact hJ_9 1 S_5 _ _ _ hf hd (lv_sub hl [1, 2, 3, 4, 5, 0] rfl)
  refine lv_if_eq (tgt := 1138) hc.x hc.b dL_law__1131 (by decide) (fun c_22 => ?_) (fun c_22 => ?_)
  · have hf := br_y c_22 hf
    refine lv_iconst (v := 0) hc.x hc.b dL_law__1138 (by decide) ?_
    exact hJ_3 0 S _ _ _ hf hd (lv_sub hl [0, 1, 2, 3, 4] rfl)
  · have hf := br_n c_22 hf
    refine lv_iconst (v := 1) hc.x hc.b dL_law__1134 (by decide) ?_
    refine lv_goto (tgt := 1139) hc.x hc.b dL_law__1135 (by decide) ?_
    exact hJ_3 1 S _ _ _ hf hd (lv_sub hl [0, 1, 2, 3, 4] rfl)
def fc_16 (gN : Nat) (a1 a2 a3 a4 a5 : Int32) (S : St) : Option St := bv (fun (v_1 : Int32) (S_2 : St) => on2 (f_L_passed 0 a1 a2 v_1 0 S_2) (fun r_4 S_5 => bv (fun (v_7 : Int32) (S_8 : St) => on2 (f_X12_passed 0 a1 a2 v_7 S_8) (fun r_12 S_11 => on (f_X12_thrown 0 S_11) (fun r_14 => br (r_14 = r_4) (bv (fun  (S_16 : St) => some S_16) (fun J_17 => br (r_4 = 0) (ck (inb 0 1 = true) (bv (fun (v_20 : Int64) (S_21 : St) => br ((lg_cmp (gl S_11 81 0 (nn 0)) v_20) = 0) (J_17 S_21) (none)) (fun J_22 => br (r_12 = 0) (J_22 0 S_11) (J_22 1 S_11)))) (J_17 S_11))) (none)))) (fun J_9 => br (a3 = 0) (J_9 0 S_5) (J_9 1 S_5)))) (fun J_3 => br (a3 = 0) (J_3 0 S) (J_3 1 S))
set_option maxRecDepth 100000 in
set_option maxHeartbeats 8000000 in
theorem lc_16 (hc : Cx p s m args meth c cL_law_ 8 "PumpCrossingLaw" D cs B0 kt Lv) (hck : CK cs s) (hst : l.stackTraces = false) {b L : Nat} {xs : Nat → Int32} (hX : va_X b L xs s s.heap) (hbl : b < s.heap.size) (hbA : ¬ B0 ≤ b) {x4 a1 a2 a3 a4 a5 : Int32} (hi : inb (x4 + 1) L = true ∧ inb (x4 + 2) L = true ∧ inb (x4 + 3) L = true ∧ inb (x4 + 4) L = true ∧ inb (x4 + 5) L = true) (ea : xs (nn (x4 + 1)) = a1 ∧ xs (nn (x4 + 2)) = a2 ∧ xs (nn (x4 + 3)) = a3 ∧ xs (nn (x4 + 4)) = a4 ∧ xs (nn (x4 + 5)) = a5) {o S : St} {gN : Nat} (hlt : ∀ k g, Lv k g → k < 1000) (hfr : ∀ x ∈ FL gN, ¬ Lv x.1 x.2) (hL1 : Lv 0 0) (hL2 : Lv 60 0) (hL3 : Lv 81 0) (hcc : cells + 60 ≤ 601024) (hss : slots + 3000 ≤ 7293034) (kk : ∀ (α1 : Nat → Nat → Nat) (Lv1 : Nat → Nat → Prop) (H1 : Heap) (locs1 : List Loc) (ls1 : Array Slot), Ex α Lv (1000, 0) α1 Lv1 (FL gN) → Cx p s m args meth c cL_law_ 8 "PumpCrossingLaw" D cs B0 kt Lv1 → Dy s D cs B0 α1 Lv1 o H1 locs1 → lv_has ls1 8 [(0, .ref b), (1, .ref (α1 0 0)), (2, .ref (α1 60 0)), (3, .ref (α1 81 0)), (4, .int x4)] → W p l e room_1 s m args below meth c H1 locs1 (cells + 40) (slots + 2000) Q (F0 m 2923 ls1 [])) {H : Heap} {locs : List Loc} {ls : Array Slot} (hf : fc_16 gN a1 a2 a3 a4 a5 S = some o) (hd : Dy s D cs B0 α Lv S H locs) (hl : lv_has ls 8 [(0, .ref b), (1, .ref (α 0 0)), (2, .ref (α 60 0)), (3, .ref (α 81 0)), (4, .int x4)]) : W p l e room_1 s m args below meth c H locs cells slots Q (F0 m 1202 ls []) := by
  unfold fc_16 at hf
  have hx : Ex α Lv (1000, 0) α Lv [] := Ex.start hlt
  refine lv_aload_n hc.x hc.b dL_law__1202 rfl (lv_at hl 1 rfl) ?_
  refine lv_aload_n hc.x hc.b dL_law__1203 rfl (lv_at hl 0 rfl) ?_
  refine lv_iload hc.x hc.b dL_law__1204 (lv_at hl 4 rfl) ?_
  refine lv_iconst (v := 1) hc.x hc.b dL_law__1206 (by decide) ?_
  refine lv_iadd hc.x hc.b dL_law__1207 ?_
  refine r_sld hc hX hbl hbA hd (hi.1) (ea.1) dL_law__1208 ?_
  refine lv_aload_n hc.x hc.b dL_law__1209 rfl (lv_at hl 0 rfl) ?_
  refine lv_iload hc.x hc.b dL_law__1210 (lv_at hl 4 rfl) ?_
  refine lv_iconst (v := 2) hc.x hc.b dL_law__1212 (by decide) ?_
  refine lv_iadd hc.x hc.b dL_law__1213 ?_
  refine r_sld hc hX hbl hbA hd (hi.2.1) (ea.2.1) dL_law__1214 ?_
  refine lv_aload_n hc.x hc.b dL_law__1215 rfl (lv_at hl 0 rfl) ?_
  refine lv_iload hc.x hc.b dL_law__1216 (lv_at hl 4 rfl) ?_
  refine lv_iconst (v := 3) hc.x hc.b dL_law__1218 (by decide) ?_
  refine lv_iadd hc.x hc.b dL_law__1219 ?_
  refine r_sld hc hX hbl hbA hd (hi.2.2.1) (ea.2.2.1) dL_law__1220 ?_
  refine jn_s (P := fun J_3 => ∀ (v_1 : Int32) (S_2 : St) (H : Heap) (locs : List Loc) (ls : Array Slot), J_3 v_1 S_2 = some o → Dy s D cs B0 α Lv S_2 H locs → lv_has ls 8 [(0, .ref b), (1, .ref (α 0 0)), (2, .ref (α 60 0)), (3, .ref (α 81 0)), (4, .int x4)] → W p l e room_1 s m args below meth c H locs (cells) (slots) Q (F0 m 1229 ls [.int v_1, .int a2, .int a1, .ref (α 0 0)])) hf ?_ (fun J_3 hJ_3 hf => ?_)
  · intro v_1 S_2 H locs ls hf hd hl
    refine lv_aload_n hc.x hc.b dL_law__1229 rfl (lv_at hl 3 rfl) ?_
    obtain ⟨r_4, S_5, hq_6, hf⟩ := on2_s hf
    refine k_i (k_runSW hc hck hd my_L_passed tw_930 (c_L_passed l D cs B0 kt α Lv S_2 0 a1 a2 v_1 0 hc.cl hL1 hL3 hst hq_6) rfl rfl hl.1 (Nat.le_of_ble_eq_true rfl) ⟨Nat.le_of_ble_eq_true rfl, Nat.le_of_ble_eq_true rfl, by show _ ≤ 601024; omega, by show _ ≤ 7293034; omega⟩ dL_law__1230) hd (fun H locs hd => ?_)
    refine lv_istore (lv' := [(5, .int r_4), (0, .ref b), (1, .ref (α 0 0)), (2, .ref (α 60 0)), (3, .ref (α 81 0)), (4, .int x4)]) hc.x hc.b dL_law__1233 hl (by decide) rfl (fun ls hl => ?_)
    refine lv_aload_n hc.x hc.b dL_law__1235 rfl (lv_at hl 3 rfl) ?_
    refine lv_aload_n hc.x hc.b dL_law__1236 rfl (lv_at hl 1 rfl) ?_
    refine lv_iload hc.x hc.b dL_law__1237 (lv_at hl 5 rfl) ?_
    refine lv_iconst (v := 1) hc.x hc.b dL_law__1239 (by decide) ?_
    refine lv_iadd hc.x hc.b dL_law__1240 ?_
    refine r_sld hc hX hbl hbA hd (hi.1) (ea.1) dL_law__1241 ?_
    refine lv_aload_n hc.x hc.b dL_law__1242 rfl (lv_at hl 1 rfl) ?_
    refine lv_iload hc.x hc.b dL_law__1243 (lv_at hl 5 rfl) ?_
    refine lv_iconst (v := 2) hc.x hc.b dL_law__1245 (by decide) ?_
    refine lv_iadd hc.x hc.b dL_law__1246 ?_
    refine r_sld hc hX hbl hbA hd (hi.2.1) (ea.2.1) dL_law__1247 ?_
    refine lv_aload_n hc.x hc.b dL_law__1248 rfl (lv_at hl 1 rfl) ?_
    refine lv_iload hc.x hc.b dL_law__1249 (lv_at hl 5 rfl) ?_
    refine lv_iconst (v := 3) hc.x hc.b dL_law__1251 (by decide) ?_
    refine lv_iadd hc.x hc.b dL_law__1252 ?_
    refine r_sld hc hX hbl hbA hd (hi.2.2.1) (ea.2.2.1) dL_law__1253 ?_
    refine jn_s (P := fun J_9 => ∀ (v_7 : Int32) (S_8 : St) (H : Heap) (locs : List Loc) (ls : Array Slot), J_9 v_7 S_8 = some o → Dy s D cs B0 α Lv S_8 H locs → lv_has ls 8 [(0, .ref b), (1, .ref (α 0 0)), (2, .ref (α 60 0)), (3, .ref (α 81 0)), (4, .int x4), (5, .int r_4)] → W p l e room_1 s m args below meth c H locs (cells + 1) (slots + 6) Q (F0 m 1262 ls [.int v_7, .int a2, .int a1, .ref (α 60 0)])) hf ?_ (fun J_9 hJ_9 hf => ?_)
    · intro v_7 S_8 H locs ls hf hd hl
      obtain ⟨r_12, S_11, hq_10, hf⟩ := on2_s hf
      refine k_i (k_runV hc hd my_X12_passed tw_1706 hL2 rfl rfl rfl (c_X12_passed l D cs B0 kt α Lv S_8 0 a1 a2 v_7 hc.cl hL2  hq_10) rfl rfl hl.1 (Nat.le_of_ble_eq_true rfl) ⟨Nat.le_of_ble_eq_true rfl, Nat.le_of_ble_eq_true rfl, by show _ ≤ 601024; omega, by show _ ≤ 7293034; omega⟩ dL_law__1262) hd (fun H locs hd => ?_)
      refine lv_istore (lv' := [(6, .int r_12), (0, .ref b), (1, .ref (α 0 0)), (2, .ref (α 60 0)), (3, .ref (α 81 0)), (4, .int x4), (5, .int r_4)]) hc.x hc.b dL_law__1265 hl (by decide) rfl (fun ls hl => ?_)
      refine lv_aload_n hc.x hc.b dL_law__1267 rfl (lv_at hl 3 rfl) ?_
      obtain ⟨r_14, hq_13, hf⟩ := on_s hf
      refine k_i (k_runV hc hd my_X12_thrown tw_1431 hL2 rfl rfl rfl (c_X12_thrown l D cs B0 kt α Lv S_11 0 hc.cl hL2  hq_13) rfl rfl hl.1 (Nat.le_of_ble_eq_true rfl) ⟨Nat.le_of_ble_eq_true rfl, Nat.le_of_ble_eq_true rfl, by show _ ≤ 601024; omega, by show _ ≤ 7293034; omega⟩ dL_law__1268) hd (fun H locs hd => ?_)
      refine lv_iload hc.x hc.b dL_law__1271 (lv_at hl 6 rfl) ?_
      refine lv_icmp_eq (tgt := 1278) hc.x hc.b dL_law__1273 (by decide) (fun c_15 => ?_) (fun c_15 => ?_)
      · have hf := br_y c_15 hf
        refine lv_iload hc.x hc.b dL_law__1278 (lv_at hl 6 rfl) ?_
        refine jn_s (P := fun J_17 => ∀  (S_16 : St) (H : Heap) (locs : List Loc) (ls : Array Slot), J_17 S_16 = some o → Dy s D cs B0 α Lv S_16 H locs → lv_has ls 8 [(0, .ref b), (1, .ref (α 0 0)), (2, .ref (α 60 0)), (3, .ref (α 81 0)), (4, .int x4)] → W p l e room_1 s m args below meth c H locs (cells + 1) (slots + 6) Q (F0 m 1302 ls [])) hf ?_ (fun J_17 hJ_17 hf => ?_)
        · intro S_16 H locs ls hf hd hl
          refine lv_goto (tgt := 2923) hc.x hc.b dL_law__1302 (by decide) ?_
          cases hf
          refine W.widen (k := cells + 40) (n := slots + 2000) (by omega) (by omega) ?_
          exact kk _ _ _ _ _ (hx.mono (by first | exact fun _ h => absurd h List.not_mem_nil | exact fun _ h => List.mem_append_left _ h | exact fun _ h => List.mem_append_right _ (List.mem_append_left _ h) | exact fun _ h => List.mem_append_right _ (List.mem_append_right _ h))) hc hd (lv_sub hl [0, 1, 2, 3, 4] rfl)
        refine lv_if_ne (tgt := 1302) hc.x hc.b dL_law__1280 (by decide) (fun c_18 => ?_) (fun c_18 => ?_)
        · have hf := br_n c_18 hf
          exact hJ_17 S_11 _ _ _ hf hd (lv_sub hl [1, 2, 3, 4, 5] rfl)
        · have hf := br_y c_18 hf
          refine lv_aload_n hc.x hc.b dL_law__1283 rfl (lv_at hl 4 rfl) ?_
          refine lv_iconst (v := 0) hc.x hc.b dL_law__1284 (by decide) ?_
          obtain ⟨hi_19, hf⟩ := ck_s hf
          refine r_lald hc hd hL3 rfl hi_19 dL_law__1285 ?_
          refine lv_iload hc.x hc.b dL_law__1286 (lv_at hl 0 rfl) ?_
          refine jn_s (P := fun J_22 => ∀ (v_20 : Int64) (S_21 : St) (H : Heap) (locs : List Loc) (ls : Array Slot), J_22 v_20 S_21 = some o → Dy s D cs B0 α Lv S_21 H locs → lv_has ls 8 [(0, .ref b), (1, .ref (α 0 0)), (2, .ref (α 60 0)), (3, .ref (α 81 0)), (4, .int x4)] → W p l e room_1 s m args below meth c H locs (cells + 1) (slots + 6) Q (F0 m 1296 ls [.long v_20, .long (gl S_11 81 0 (nn 0))])) hf ?_ (fun J_22 hJ_22 hf => ?_)
          · intro v_20 S_21 H locs ls hf hd hl
            refine W.lcmp hc.x hc.b dL_law__1296 ?_
            refine lv_if_eq (tgt := 1302) hc.x hc.b dL_law__1297 (by decide) (fun c_23 => ?_) (fun c_23 => ?_)
            · have hf := br_y c_23 hf
              exact hJ_17 S_21 _ _ _ hf hd (lv_sub hl [0, 1, 2, 3, 4] rfl)
            · have hf := br_n c_23 hf
              refine lv_iconst (v := 0) hc.x hc.b dL_law__1300 (by decide) ?_
              cases hf
          refine lv_if_eq (tgt := 1295) hc.x hc.b dL_law__1288 (by decide) (fun c_24 => ?_) (fun c_24 => ?_)
          · have hf := br_y c_24 hf
            refine lv_lconst (v := 0) hc.x hc.b dL_law__1295 (by decide) ?_
            exact hJ_22 0 S_11 _ _ _ hf hd (lv_sub hl [1, 2, 3, 4, 5] rfl)
          · have hf := br_n c_24 hf
            refine lv_lconst (v := 1) hc.x hc.b dL_law__1291 (by decide) ?_
            refine lv_goto (tgt := 1296) hc.x hc.b dL_law__1292 (by decide) ?_
            exact hJ_22 1 S_11 _ _ _ hf hd (lv_sub hl [1, 2, 3, 4, 5] rfl)
      · have hf := br_n c_15 hf
        refine lv_iconst (v := 0) hc.x hc.b dL_law__1276 (by decide) ?_
        cases hf
    refine lv_if_eq (tgt := 1261) hc.x hc.b dL_law__1254 (by decide) (fun c_25 => ?_) (fun c_25 => ?_)
    · have hf := br_y c_25 hf
      refine lv_iconst (v := 0) hc.x hc.b dL_law__1261 (by decide) ?_
      exact hJ_9 0 S_5 _ _ _ hf hd (lv_sub hl [1, 2, 3, 4, 5, 0] rfl)
    · have hf := br_n c_25 hf
      refine lv_iconst (v := 1) hc.x hc.b dL_law__1257 (by decide) ?_
      refine lv_goto (tgt := 1262) hc.x hc.b dL_law__1258 (by decide) ?_
      exact hJ_9 1 S_5 _ _ _ hf hd (lv_sub hl [1, 2, 3, 4, 5, 0] rfl)
  refine lv_if_eq (tgt := 1228) hc.x hc.b dL_law__1221 (by decide) (fun c_26 => ?_) (fun c_26 => ?_)
  · have hf := br_y c_26 hf
    refine lv_iconst (v := 0) hc.x hc.b dL_law__1228 (by decide) ?_
    exact hJ_3 0 S _ _ _ hf hd (lv_sub hl [0, 1, 2, 3, 4] rfl)
  · have hf := br_n c_26 hf
    refine lv_iconst (v := 1) hc.x hc.b dL_law__1224 (by decide) ?_
    refine lv_goto (tgt := 1229) hc.x hc.b dL_law__1225 (by decide) ?_
    exact hJ_3 1 S _ _ _ hf hd (lv_sub hl [0, 1, 2, 3, 4] rfl)
def fc_17 (gN : Nat) (a1 a2 a3 a4 a5 : Int32) (S : St) : Option St := on (f_X11_upper 0 S) (fun r_2 => on2 (f_X12_upper 0 S) (fun r_5 S_4 => br ((lg_cmp r_2 r_5) = 0) (some S_4) (none)))
set_option maxRecDepth 100000 in
set_option maxHeartbeats 8000000 in
theorem lc_17 (hc : Cx p s m args meth c cL_law_ 8 "PumpCrossingLaw" D cs B0 kt Lv) (hck : CK cs s) (hst : l.stackTraces = false) {b L : Nat} {xs : Nat → Int32} (hX : va_X b L xs s s.heap) (hbl : b < s.heap.size) (hbA : ¬ B0 ≤ b) {x4 a1 a2 a3 a4 a5 : Int32} (hi : inb (x4 + 1) L = true ∧ inb (x4 + 2) L = true ∧ inb (x4 + 3) L = true ∧ inb (x4 + 4) L = true ∧ inb (x4 + 5) L = true) (ea : xs (nn (x4 + 1)) = a1 ∧ xs (nn (x4 + 2)) = a2 ∧ xs (nn (x4 + 3)) = a3 ∧ xs (nn (x4 + 4)) = a4 ∧ xs (nn (x4 + 5)) = a5) {o S : St} {gN : Nat} (hlt : ∀ k g, Lv k g → k < 1000) (hfr : ∀ x ∈ FL gN, ¬ Lv x.1 x.2) (hL1 : Lv 0 0) (hL2 : Lv 60 0) (hL3 : Lv 81 0) (hcc : cells + 60 ≤ 601024) (hss : slots + 3000 ≤ 7293034) (kk : ∀ (α1 : Nat → Nat → Nat) (Lv1 : Nat → Nat → Prop) (H1 : Heap) (locs1 : List Loc) (ls1 : Array Slot), Ex α Lv (1000, 0) α1 Lv1 (FL gN) → Cx p s m args meth c cL_law_ 8 "PumpCrossingLaw" D cs B0 kt Lv1 → Dy s D cs B0 α1 Lv1 o H1 locs1 → lv_has ls1 8 [(0, .ref b), (1, .ref (α1 0 0)), (2, .ref (α1 60 0)), (3, .ref (α1 81 0)), (4, .int x4)] → W p l e room_1 s m args below meth c H1 locs1 (cells + 40) (slots + 2000) Q (F0 m 2923 ls1 [])) {H : Heap} {locs : List Loc} {ls : Array Slot} (hf : fc_17 gN a1 a2 a3 a4 a5 S = some o) (hd : Dy s D cs B0 α Lv S H locs) (hl : lv_has ls 8 [(0, .ref b), (1, .ref (α 0 0)), (2, .ref (α 60 0)), (3, .ref (α 81 0)), (4, .int x4)]) : W p l e room_1 s m args below meth c H locs cells slots Q (F0 m 1305 ls []) := by
  unfold fc_17 at hf
  have hx : Ex α Lv (1000, 0) α Lv [] := Ex.start hlt
  refine lv_aload_n hc.x hc.b dL_law__1305 rfl (lv_at hl 1 rfl) ?_
  obtain ⟨r_2, hq_1, hf⟩ := on_s hf
  refine k_l (k_runV hc hd my_X11_upper tw_417 hL1 rfl rfl rfl (c_X11_upper l D cs B0 kt α Lv S 0 hc.cl hL1  hq_1) rfl rfl hl.1 (Nat.le_of_ble_eq_true rfl) ⟨Nat.le_of_ble_eq_true rfl, Nat.le_of_ble_eq_true rfl, by show _ ≤ 601024; omega, by show _ ≤ 7293034; omega⟩ dL_law__1306) hd (fun H locs hd => ?_)
  refine lv_aload_n hc.x hc.b dL_law__1309 rfl (lv_at hl 2 rfl) ?_
  obtain ⟨r_5, S_4, hq_3, hf⟩ := on2_s hf
  refine k_l (k_runV hc hd my_X12_upper tw_1698 hL2 rfl rfl rfl (c_X12_upper l D cs B0 kt α Lv S 0 hc.cl hL2  hq_3) rfl rfl hl.1 (Nat.le_of_ble_eq_true rfl) ⟨Nat.le_of_ble_eq_true rfl, Nat.le_of_ble_eq_true rfl, by show _ ≤ 601024; omega, by show _ ≤ 7293034; omega⟩ dL_law__1310) hd (fun H locs hd => ?_)
  refine W.lcmp hc.x hc.b dL_law__1313 ?_
  refine lv_if_eq (tgt := 2923) hc.x hc.b dL_law__1314 (by decide) (fun c_6 => ?_) (fun c_6 => ?_)
  · have hf := br_y c_6 hf
    cases hf
    refine W.widen (k := cells + 40) (n := slots + 2000) (by omega) (by omega) ?_
    exact kk _ _ _ _ _ (hx.mono (by first | exact fun _ h => absurd h List.not_mem_nil | exact fun _ h => List.mem_append_left _ h | exact fun _ h => List.mem_append_right _ (List.mem_append_left _ h) | exact fun _ h => List.mem_append_right _ (List.mem_append_right _ h))) hc hd (lv_sub hl [0, 1, 2, 3, 4] rfl)
  · have hf := br_n c_6 hf
    refine lv_iconst (v := 0) hc.x hc.b dL_law__1317 (by decide) ?_
    cases hf
def fc_18 (gN : Nat) (a1 a2 a3 a4 a5 : Int32) (S : St) : Option St := on (f_X11_lower 0 S) (fun r_2 => on2 (f_X12_lower 0 S) (fun r_5 S_4 => br ((lg_cmp r_2 r_5) = 0) (some S_4) (none)))
set_option maxRecDepth 100000 in
set_option maxHeartbeats 8000000 in
theorem lc_18 (hc : Cx p s m args meth c cL_law_ 8 "PumpCrossingLaw" D cs B0 kt Lv) (hck : CK cs s) (hst : l.stackTraces = false) {b L : Nat} {xs : Nat → Int32} (hX : va_X b L xs s s.heap) (hbl : b < s.heap.size) (hbA : ¬ B0 ≤ b) {x4 a1 a2 a3 a4 a5 : Int32} (hi : inb (x4 + 1) L = true ∧ inb (x4 + 2) L = true ∧ inb (x4 + 3) L = true ∧ inb (x4 + 4) L = true ∧ inb (x4 + 5) L = true) (ea : xs (nn (x4 + 1)) = a1 ∧ xs (nn (x4 + 2)) = a2 ∧ xs (nn (x4 + 3)) = a3 ∧ xs (nn (x4 + 4)) = a4 ∧ xs (nn (x4 + 5)) = a5) {o S : St} {gN : Nat} (hlt : ∀ k g, Lv k g → k < 1000) (hfr : ∀ x ∈ FL gN, ¬ Lv x.1 x.2) (hL1 : Lv 0 0) (hL2 : Lv 60 0) (hL3 : Lv 81 0) (hcc : cells + 60 ≤ 601024) (hss : slots + 3000 ≤ 7293034) (kk : ∀ (α1 : Nat → Nat → Nat) (Lv1 : Nat → Nat → Prop) (H1 : Heap) (locs1 : List Loc) (ls1 : Array Slot), Ex α Lv (1000, 0) α1 Lv1 (FL gN) → Cx p s m args meth c cL_law_ 8 "PumpCrossingLaw" D cs B0 kt Lv1 → Dy s D cs B0 α1 Lv1 o H1 locs1 → lv_has ls1 8 [(0, .ref b), (1, .ref (α1 0 0)), (2, .ref (α1 60 0)), (3, .ref (α1 81 0)), (4, .int x4)] → W p l e room_1 s m args below meth c H1 locs1 (cells + 40) (slots + 2000) Q (F0 m 2923 ls1 [])) {H : Heap} {locs : List Loc} {ls : Array Slot} (hf : fc_18 gN a1 a2 a3 a4 a5 S = some o) (hd : Dy s D cs B0 α Lv S H locs) (hl : lv_has ls 8 [(0, .ref b), (1, .ref (α 0 0)), (2, .ref (α 60 0)), (3, .ref (α 81 0)), (4, .int x4)]) : W p l e room_1 s m args below meth c H locs cells slots Q (F0 m 1319 ls []) := by
  unfold fc_18 at hf
  have hx : Ex α Lv (1000, 0) α Lv [] := Ex.start hlt
  refine lv_aload_n hc.x hc.b dL_law__1319 rfl (lv_at hl 1 rfl) ?_
  obtain ⟨r_2, hq_1, hf⟩ := on_s hf
  refine k_l (k_runV hc hd my_X11_lower tw_421 hL1 rfl rfl rfl (c_X11_lower l D cs B0 kt α Lv S 0 hc.cl hL1  hq_1) rfl rfl hl.1 (Nat.le_of_ble_eq_true rfl) ⟨Nat.le_of_ble_eq_true rfl, Nat.le_of_ble_eq_true rfl, by show _ ≤ 601024; omega, by show _ ≤ 7293034; omega⟩ dL_law__1320) hd (fun H locs hd => ?_)
  refine lv_aload_n hc.x hc.b dL_law__1323 rfl (lv_at hl 2 rfl) ?_
  obtain ⟨r_5, S_4, hq_3, hf⟩ := on2_s hf
  refine k_l (k_runV hc hd my_X12_lower tw_1702 hL2 rfl rfl rfl (c_X12_lower l D cs B0 kt α Lv S 0 hc.cl hL2  hq_3) rfl rfl hl.1 (Nat.le_of_ble_eq_true rfl) ⟨Nat.le_of_ble_eq_true rfl, Nat.le_of_ble_eq_true rfl, by show _ ≤ 601024; omega, by show _ ≤ 7293034; omega⟩ dL_law__1324) hd (fun H locs hd => ?_)
  refine W.lcmp hc.x hc.b dL_law__1327 ?_
  refine lv_if_eq (tgt := 2923) hc.x hc.b dL_law__1328 (by decide) (fun c_6 => ?_) (fun c_6 => ?_)
  · have hf := br_y c_6 hf
    cases hf
    refine W.widen (k := cells + 40) (n := slots + 2000) (by omega) (by omega) ?_
    exact kk _ _ _ _ _ (hx.mono (by first | exact fun _ h => absurd h List.not_mem_nil | exact fun _ h => List.mem_append_left _ h | exact fun _ h => List.mem_append_right _ (List.mem_append_left _ h) | exact fun _ h => List.mem_append_right _ (List.mem_append_right _ h))) hc hd (lv_sub hl [0, 1, 2, 3, 4] rfl)
  · have hf := br_n c_6 hf
    refine lv_iconst (v := 0) hc.x hc.b dL_law__1331 (by decide) ?_
    cases hf
def fc_19 (gN : Nat) (a1 a2 a3 a4 a5 : Int32) (S : St) : Option St := on2 (f_L_level 0 a1 0 S) (fun r_1 S_2 => on2 (f_X12_level 0 a1 S_2) (fun r_6 S_5 => on (f_X12_thrown 0 S_5) (fun r_8 => br (r_8 = r_1) (bv (fun  (S_10 : St) => some S_10) (fun J_11 => br (r_1 = 0) (ck (inb 0 1 = true) (br ((lg_cmp (gl S_5 81 0 (nn 0)) (Int32.toInt64 r_6)) = 0) (J_11 S_5) (none))) (J_11 S_5))) (none))))
set_option maxRecDepth 100000 in
set_option maxHeartbeats 8000000 in
theorem lc_19 (hc : Cx p s m args meth c cL_law_ 8 "PumpCrossingLaw" D cs B0 kt Lv) (hck : CK cs s) (hst : l.stackTraces = false) {b L : Nat} {xs : Nat → Int32} (hX : va_X b L xs s s.heap) (hbl : b < s.heap.size) (hbA : ¬ B0 ≤ b) {x4 a1 a2 a3 a4 a5 : Int32} (hi : inb (x4 + 1) L = true ∧ inb (x4 + 2) L = true ∧ inb (x4 + 3) L = true ∧ inb (x4 + 4) L = true ∧ inb (x4 + 5) L = true) (ea : xs (nn (x4 + 1)) = a1 ∧ xs (nn (x4 + 2)) = a2 ∧ xs (nn (x4 + 3)) = a3 ∧ xs (nn (x4 + 4)) = a4 ∧ xs (nn (x4 + 5)) = a5) {o S : St} {gN : Nat} (hlt : ∀ k g, Lv k g → k < 1000) (hfr : ∀ x ∈ FL gN, ¬ Lv x.1 x.2) (hL1 : Lv 0 0) (hL2 : Lv 60 0) (hL3 : Lv 81 0) (hcc : cells + 60 ≤ 601024) (hss : slots + 3000 ≤ 7293034) (kk : ∀ (α1 : Nat → Nat → Nat) (Lv1 : Nat → Nat → Prop) (H1 : Heap) (locs1 : List Loc) (ls1 : Array Slot), Ex α Lv (1000, 0) α1 Lv1 (FL gN) → Cx p s m args meth c cL_law_ 8 "PumpCrossingLaw" D cs B0 kt Lv1 → Dy s D cs B0 α1 Lv1 o H1 locs1 → lv_has ls1 8 [(0, .ref b), (1, .ref (α1 0 0)), (2, .ref (α1 60 0)), (3, .ref (α1 81 0)), (4, .int x4)] → W p l e room_1 s m args below meth c H1 locs1 (cells + 40) (slots + 2000) Q (F0 m 2923 ls1 [])) {H : Heap} {locs : List Loc} {ls : Array Slot} (hf : fc_19 gN a1 a2 a3 a4 a5 S = some o) (hd : Dy s D cs B0 α Lv S H locs) (hl : lv_has ls 8 [(0, .ref b), (1, .ref (α 0 0)), (2, .ref (α 60 0)), (3, .ref (α 81 0)), (4, .int x4)]) : W p l e room_1 s m args below meth c H locs cells slots Q (F0 m 1333 ls []) := by
  unfold fc_19 at hf
  have hx : Ex α Lv (1000, 0) α Lv [] := Ex.start hlt
  refine lv_aload_n hc.x hc.b dL_law__1333 rfl (lv_at hl 1 rfl) ?_
  refine lv_aload_n hc.x hc.b dL_law__1334 rfl (lv_at hl 0 rfl) ?_
  refine lv_iload hc.x hc.b dL_law__1335 (lv_at hl 4 rfl) ?_
  refine lv_iconst (v := 1) hc.x hc.b dL_law__1337 (by decide) ?_
  refine lv_iadd hc.x hc.b dL_law__1338 ?_
  refine r_sld hc hX hbl hbA hd (hi.1) (ea.1) dL_law__1339 ?_
  refine lv_aload_n hc.x hc.b dL_law__1340 rfl (lv_at hl 3 rfl) ?_
  obtain ⟨r_1, S_2, hq_3, hf⟩ := on2_s hf
  refine k_i (k_runSW hc hck hd my_L_level tw_951 (c_L_level l D cs B0 kt α Lv S 0 a1 0 hc.cl hL1 hL3 hst hq_3) rfl rfl hl.1 (Nat.le_of_ble_eq_true rfl) ⟨Nat.le_of_ble_eq_true rfl, Nat.le_of_ble_eq_true rfl, by show _ ≤ 601024; omega, by show _ ≤ 7293034; omega⟩ dL_law__1341) hd (fun H locs hd => ?_)
  refine lv_istore (lv' := [(5, .int r_1), (0, .ref b), (1, .ref (α 0 0)), (2, .ref (α 60 0)), (3, .ref (α 81 0)), (4, .int x4)]) hc.x hc.b dL_law__1344 hl (by decide) rfl (fun ls hl => ?_)
  refine lv_aload_n hc.x hc.b dL_law__1346 rfl (lv_at hl 3 rfl) ?_
  refine lv_aload_n hc.x hc.b dL_law__1347 rfl (lv_at hl 1 rfl) ?_
  refine lv_iload hc.x hc.b dL_law__1348 (lv_at hl 5 rfl) ?_
  refine lv_iconst (v := 1) hc.x hc.b dL_law__1350 (by decide) ?_
  refine lv_iadd hc.x hc.b dL_law__1351 ?_
  refine r_sld hc hX hbl hbA hd (hi.1) (ea.1) dL_law__1352 ?_
  obtain ⟨r_6, S_5, hq_4, hf⟩ := on2_s hf
  refine k_i (k_runV hc hd my_X12_level tw_1716 hL2 rfl rfl rfl (c_X12_level l D cs B0 kt α Lv S_2 0 a1 hc.cl hL2  hq_4) rfl rfl hl.1 (Nat.le_of_ble_eq_true rfl) ⟨Nat.le_of_ble_eq_true rfl, Nat.le_of_ble_eq_true rfl, by show _ ≤ 601024; omega, by show _ ≤ 7293034; omega⟩ dL_law__1353) hd (fun H locs hd => ?_)
  refine lv_istore (lv' := [(6, .int r_6), (5, .int r_1), (0, .ref b), (1, .ref (α 0 0)), (2, .ref (α 60 0)), (3, .ref (α 81 0)), (4, .int x4)]) hc.x hc.b dL_law__1356 hl (by decide) rfl (fun ls hl => ?_)
  refine lv_aload_n hc.x hc.b dL_law__1358 rfl (lv_at hl 4 rfl) ?_
  obtain ⟨r_8, hq_7, hf⟩ := on_s hf
  refine k_i (k_runV hc hd my_X12_thrown tw_1431 hL2 rfl rfl rfl (c_X12_thrown l D cs B0 kt α Lv S_5 0 hc.cl hL2  hq_7) rfl rfl hl.1 (Nat.le_of_ble_eq_true rfl) ⟨Nat.le_of_ble_eq_true rfl, Nat.le_of_ble_eq_true rfl, by show _ ≤ 601024; omega, by show _ ≤ 7293034; omega⟩ dL_law__1359) hd (fun H locs hd => ?_)
  refine lv_iload hc.x hc.b dL_law__1362 (lv_at hl 1 rfl) ?_
  refine lv_icmp_eq (tgt := 1369) hc.x hc.b dL_law__1364 (by decide) (fun c_9 => ?_) (fun c_9 => ?_)
  · have hf := br_y c_9 hf
    refine lv_iload hc.x hc.b dL_law__1369 (lv_at hl 1 rfl) ?_
    refine jn_s (P := fun J_11 => ∀  (S_10 : St) (H : Heap) (locs : List Loc) (ls : Array Slot), J_11 S_10 = some o → Dy s D cs B0 α Lv S_10 H locs → lv_has ls 8 [(0, .ref b), (1, .ref (α 0 0)), (2, .ref (α 60 0)), (3, .ref (α 81 0)), (4, .int x4)] → W p l e room_1 s m args below meth c H locs (cells + 1) (slots + 6) Q (F0 m 1386 ls [])) hf ?_ (fun J_11 hJ_11 hf => ?_)
    · intro S_10 H locs ls hf hd hl
      refine lv_goto (tgt := 2923) hc.x hc.b dL_law__1386 (by decide) ?_
      cases hf
      refine W.widen (k := cells + 40) (n := slots + 2000) (by omega) (by omega) ?_
      exact kk _ _ _ _ _ (hx.mono (by first | exact fun _ h => absurd h List.not_mem_nil | exact fun _ h => List.mem_append_left _ h | exact fun _ h => List.mem_append_right _ (List.mem_append_left _ h) | exact fun _ h => List.mem_append_right _ (List.mem_append_right _ h))) hc hd (lv_sub hl [0, 1, 2, 3, 4] rfl)
    refine lv_if_ne (tgt := 1386) hc.x hc.b dL_law__1371 (by decide) (fun c_12 => ?_) (fun c_12 => ?_)
    · have hf := br_n c_12 hf
      exact hJ_11 S_5 _ _ _ hf hd (lv_sub hl [2, 3, 4, 5, 6] rfl)
    · have hf := br_y c_12 hf
      refine lv_aload_n hc.x hc.b dL_law__1374 rfl (lv_at hl 5 rfl) ?_
      refine lv_iconst (v := 0) hc.x hc.b dL_law__1375 (by decide) ?_
      obtain ⟨hi_13, hf⟩ := ck_s hf
      refine r_lald hc hd hL3 rfl hi_13 dL_law__1376 ?_
      refine lv_iload hc.x hc.b dL_law__1377 (lv_at hl 0 rfl) ?_
      refine lv_i2l (v := Int32.toInt64 r_6) hc.x hc.b dL_law__1379 rfl ?_
      refine W.lcmp hc.x hc.b dL_law__1380 ?_
      refine lv_if_eq (tgt := 1386) hc.x hc.b dL_law__1381 (by decide) (fun c_14 => ?_) (fun c_14 => ?_)
      · have hf := br_y c_14 hf
        exact hJ_11 S_5 _ _ _ hf hd (lv_sub hl [2, 3, 4, 5, 6] rfl)
      · have hf := br_n c_14 hf
        refine lv_iconst (v := 0) hc.x hc.b dL_law__1384 (by decide) ?_
        cases hf
  · have hf := br_n c_9 hf
    refine lv_iconst (v := 0) hc.x hc.b dL_law__1367 (by decide) ?_
    cases hf
def fc_20 (gN : Nat) (a1 a2 a3 a4 a5 : Int32) (S : St) : Option St := bv (fun (v_1 : Int32) (S_2 : St) => on2 (f_L_gain 0 a1 a2 a3 a4 v_1 0 S_2) (fun r_4 S_5 => bv (fun (v_7 : Int32) (S_8 : St) => on2 (f_X12_gain 0 a1 a2 a3 a4 v_7 S_8) (fun r_12 S_11 => on (f_X12_thrown 0 S_11) (fun r_14 => br (r_14 = r_4) (bv (fun  (S_16 : St) => some S_16) (fun J_17 => br (r_4 = 0) (ck (inb 0 1 = true) (br ((lg_cmp (gl S_11 81 0 (nn 0)) (Int32.toInt64 r_12)) = 0) (J_17 S_11) (none))) (J_17 S_11))) (none)))) (fun J_9 => br (a5 = 0) (J_9 0 S_5) (J_9 1 S_5)))) (fun J_3 => br (a5 = 0) (J_3 0 S) (J_3 1 S))
set_option maxRecDepth 100000 in
set_option maxHeartbeats 8000000 in
theorem lc_20 (hc : Cx p s m args meth c cL_law_ 8 "PumpCrossingLaw" D cs B0 kt Lv) (hck : CK cs s) (hst : l.stackTraces = false) {b L : Nat} {xs : Nat → Int32} (hX : va_X b L xs s s.heap) (hbl : b < s.heap.size) (hbA : ¬ B0 ≤ b) {x4 a1 a2 a3 a4 a5 : Int32} (hi : inb (x4 + 1) L = true ∧ inb (x4 + 2) L = true ∧ inb (x4 + 3) L = true ∧ inb (x4 + 4) L = true ∧ inb (x4 + 5) L = true) (ea : xs (nn (x4 + 1)) = a1 ∧ xs (nn (x4 + 2)) = a2 ∧ xs (nn (x4 + 3)) = a3 ∧ xs (nn (x4 + 4)) = a4 ∧ xs (nn (x4 + 5)) = a5) {o S : St} {gN : Nat} (hlt : ∀ k g, Lv k g → k < 1000) (hfr : ∀ x ∈ FL gN, ¬ Lv x.1 x.2) (hL1 : Lv 0 0) (hL2 : Lv 60 0) (hL3 : Lv 81 0) (hcc : cells + 60 ≤ 601024) (hss : slots + 3000 ≤ 7293034) (kk : ∀ (α1 : Nat → Nat → Nat) (Lv1 : Nat → Nat → Prop) (H1 : Heap) (locs1 : List Loc) (ls1 : Array Slot), Ex α Lv (1000, 0) α1 Lv1 (FL gN) → Cx p s m args meth c cL_law_ 8 "PumpCrossingLaw" D cs B0 kt Lv1 → Dy s D cs B0 α1 Lv1 o H1 locs1 → lv_has ls1 8 [(0, .ref b), (1, .ref (α1 0 0)), (2, .ref (α1 60 0)), (3, .ref (α1 81 0)), (4, .int x4)] → W p l e room_1 s m args below meth c H1 locs1 (cells + 40) (slots + 2000) Q (F0 m 2923 ls1 [])) {H : Heap} {locs : List Loc} {ls : Array Slot} (hf : fc_20 gN a1 a2 a3 a4 a5 S = some o) (hd : Dy s D cs B0 α Lv S H locs) (hl : lv_has ls 8 [(0, .ref b), (1, .ref (α 0 0)), (2, .ref (α 60 0)), (3, .ref (α 81 0)), (4, .int x4)]) : W p l e room_1 s m args below meth c H locs cells slots Q (F0 m 1389 ls []) := by
  unfold fc_20 at hf
  have hx : Ex α Lv (1000, 0) α Lv [] := Ex.start hlt
  refine lv_aload_n hc.x hc.b dL_law__1389 rfl (lv_at hl 1 rfl) ?_
  refine lv_aload_n hc.x hc.b dL_law__1390 rfl (lv_at hl 0 rfl) ?_
  refine lv_iload hc.x hc.b dL_law__1391 (lv_at hl 4 rfl) ?_
  refine lv_iconst (v := 1) hc.x hc.b dL_law__1393 (by decide) ?_
  refine lv_iadd hc.x hc.b dL_law__1394 ?_
  refine r_sld hc hX hbl hbA hd (hi.1) (ea.1) dL_law__1395 ?_
  refine lv_aload_n hc.x hc.b dL_law__1396 rfl (lv_at hl 0 rfl) ?_
  refine lv_iload hc.x hc.b dL_law__1397 (lv_at hl 4 rfl) ?_
  refine lv_iconst (v := 2) hc.x hc.b dL_law__1399 (by decide) ?_
  refine lv_iadd hc.x hc.b dL_law__1400 ?_
  refine r_sld hc hX hbl hbA hd (hi.2.1) (ea.2.1) dL_law__1401 ?_
  refine lv_aload_n hc.x hc.b dL_law__1402 rfl (lv_at hl 0 rfl) ?_
  refine lv_iload hc.x hc.b dL_law__1403 (lv_at hl 4 rfl) ?_
  refine lv_iconst (v := 3) hc.x hc.b dL_law__1405 (by decide) ?_
  refine lv_iadd hc.x hc.b dL_law__1406 ?_
  refine r_sld hc hX hbl hbA hd (hi.2.2.1) (ea.2.2.1) dL_law__1407 ?_
  refine lv_aload_n hc.x hc.b dL_law__1408 rfl (lv_at hl 0 rfl) ?_
  refine lv_iload hc.x hc.b dL_law__1409 (lv_at hl 4 rfl) ?_
  refine lv_iconst (v := 4) hc.x hc.b dL_law__1411 (by decide) ?_
  refine lv_iadd hc.x hc.b dL_law__1412 ?_
  refine r_sld hc hX hbl hbA hd (hi.2.2.2.1) (ea.2.2.2.1) dL_law__1413 ?_
  refine lv_aload_n hc.x hc.b dL_law__1414 rfl (lv_at hl 0 rfl) ?_
  refine lv_iload hc.x hc.b dL_law__1415 (lv_at hl 4 rfl) ?_
  refine lv_iconst (v := 5) hc.x hc.b dL_law__1417 (by decide) ?_
  refine lv_iadd hc.x hc.b dL_law__1418 ?_
  refine r_sld hc hX hbl hbA hd (hi.2.2.2.2) (ea.2.2.2.2) dL_law__1419 ?_
  refine jn_s (P := fun J_3 => ∀ (v_1 : Int32) (S_2 : St) (H : Heap) (locs : List Loc) (ls : Array Slot), J_3 v_1 S_2 = some o → Dy s D cs B0 α Lv S_2 H locs → lv_has ls 8 [(0, .ref b), (1, .ref (α 0 0)), (2, .ref (α 60 0)), (3, .ref (α 81 0)), (4, .int x4)] → W p l e room_1 s m args below meth c H locs (cells) (slots) Q (F0 m 1428 ls [.int v_1, .int a4, .int a3, .int a2, .int a1, .ref (α 0 0)])) hf ?_ (fun J_3 hJ_3 hf => ?_)
  · intro v_1 S_2 H locs ls hf hd hl
    refine lv_aload_n hc.x hc.b dL_law__1428 rfl (lv_at hl 3 rfl) ?_
    obtain ⟨r_4, S_5, hq_6, hf⟩ := on2_s hf
    refine k_i (k_runSW hc hck hd my_L_gain tw_963 (c_L_gain l D cs B0 kt α Lv S_2 0 a1 a2 a3 a4 v_1 0 hc.cl hL1 hL3 hst hq_6) rfl rfl hl.1 (Nat.le_of_ble_eq_true rfl) ⟨Nat.le_of_ble_eq_true rfl, Nat.le_of_ble_eq_true rfl, by show _ ≤ 601024; omega, by show _ ≤ 7293034; omega⟩ dL_law__1429) hd (fun H locs hd => ?_)
    refine lv_istore (lv' := [(5, .int r_4), (0, .ref b), (1, .ref (α 0 0)), (2, .ref (α 60 0)), (3, .ref (α 81 0)), (4, .int x4)]) hc.x hc.b dL_law__1432 hl (by decide) rfl (fun ls hl => ?_)
    refine lv_aload_n hc.x hc.b dL_law__1434 rfl (lv_at hl 3 rfl) ?_
    refine lv_aload_n hc.x hc.b dL_law__1435 rfl (lv_at hl 1 rfl) ?_
    refine lv_iload hc.x hc.b dL_law__1436 (lv_at hl 5 rfl) ?_
    refine lv_iconst (v := 1) hc.x hc.b dL_law__1438 (by decide) ?_
    refine lv_iadd hc.x hc.b dL_law__1439 ?_
    refine r_sld hc hX hbl hbA hd (hi.1) (ea.1) dL_law__1440 ?_
    refine lv_aload_n hc.x hc.b dL_law__1441 rfl (lv_at hl 1 rfl) ?_
    refine lv_iload hc.x hc.b dL_law__1442 (lv_at hl 5 rfl) ?_
    refine lv_iconst (v := 2) hc.x hc.b dL_law__1444 (by decide) ?_
    refine lv_iadd hc.x hc.b dL_law__1445 ?_
    refine r_sld hc hX hbl hbA hd (hi.2.1) (ea.2.1) dL_law__1446 ?_
    refine lv_aload_n hc.x hc.b dL_law__1447 rfl (lv_at hl 1 rfl) ?_
    refine lv_iload hc.x hc.b dL_law__1448 (lv_at hl 5 rfl) ?_
    refine lv_iconst (v := 3) hc.x hc.b dL_law__1450 (by decide) ?_
    refine lv_iadd hc.x hc.b dL_law__1451 ?_
    refine r_sld hc hX hbl hbA hd (hi.2.2.1) (ea.2.2.1) dL_law__1452 ?_
    refine lv_aload_n hc.x hc.b dL_law__1453 rfl (lv_at hl 1 rfl) ?_
    refine lv_iload hc.x hc.b dL_law__1454 (lv_at hl 5 rfl) ?_
    refine lv_iconst (v := 4) hc.x hc.b dL_law__1456 (by decide) ?_
    refine lv_iadd hc.x hc.b dL_law__1457 ?_
    refine r_sld hc hX hbl hbA hd (hi.2.2.2.1) (ea.2.2.2.1) dL_law__1458 ?_
    refine lv_aload_n hc.x hc.b dL_law__1459 rfl (lv_at hl 1 rfl) ?_
    refine lv_iload hc.x hc.b dL_law__1460 (lv_at hl 5 rfl) ?_
    refine lv_iconst (v := 5) hc.x hc.b dL_law__1462 (by decide) ?_
    refine lv_iadd hc.x hc.b dL_law__1463 ?_
    refine r_sld hc hX hbl hbA hd (hi.2.2.2.2) (ea.2.2.2.2) dL_law__1464 ?_
    refine jn_s (P := fun J_9 => ∀ (v_7 : Int32) (S_8 : St) (H : Heap) (locs : List Loc) (ls : Array Slot), J_9 v_7 S_8 = some o → Dy s D cs B0 α Lv S_8 H locs → lv_has ls 8 [(0, .ref b), (1, .ref (α 0 0)), (2, .ref (α 60 0)), (3, .ref (α 81 0)), (4, .int x4), (5, .int r_4)] → W p l e room_1 s m args below meth c H locs (cells + 1) (slots + 6) Q (F0 m 1473 ls [.int v_7, .int a4, .int a3, .int a2, .int a1, .ref (α 60 0)])) hf ?_ (fun J_9 hJ_9 hf => ?_)
    · intro v_7 S_8 H locs ls hf hd hl
      obtain ⟨r_12, S_11, hq_10, hf⟩ := on2_s hf
      refine k_i (k_runV hc hd my_X12_gain tw_1720 hL2 rfl rfl rfl (c_X12_gain l D cs B0 kt α Lv S_8 0 a1 a2 a3 a4 v_7 hc.cl hL2  hq_10) rfl rfl hl.1 (Nat.le_of_ble_eq_true rfl) ⟨Nat.le_of_ble_eq_true rfl, Nat.le_of_ble_eq_true rfl, by show _ ≤ 601024; omega, by show _ ≤ 7293034; omega⟩ dL_law__1473) hd (fun H locs hd => ?_)
      refine lv_istore (lv' := [(6, .int r_12), (0, .ref b), (1, .ref (α 0 0)), (2, .ref (α 60 0)), (3, .ref (α 81 0)), (4, .int x4), (5, .int r_4)]) hc.x hc.b dL_law__1476 hl (by decide) rfl (fun ls hl => ?_)
      refine lv_aload_n hc.x hc.b dL_law__1478 rfl (lv_at hl 3 rfl) ?_
      obtain ⟨r_14, hq_13, hf⟩ := on_s hf
      refine k_i (k_runV hc hd my_X12_thrown tw_1431 hL2 rfl rfl rfl (c_X12_thrown l D cs B0 kt α Lv S_11 0 hc.cl hL2  hq_13) rfl rfl hl.1 (Nat.le_of_ble_eq_true rfl) ⟨Nat.le_of_ble_eq_true rfl, Nat.le_of_ble_eq_true rfl, by show _ ≤ 601024; omega, by show _ ≤ 7293034; omega⟩ dL_law__1479) hd (fun H locs hd => ?_)
      refine lv_iload hc.x hc.b dL_law__1482 (lv_at hl 6 rfl) ?_
      refine lv_icmp_eq (tgt := 1489) hc.x hc.b dL_law__1484 (by decide) (fun c_15 => ?_) (fun c_15 => ?_)
      · have hf := br_y c_15 hf
        refine lv_iload hc.x hc.b dL_law__1489 (lv_at hl 6 rfl) ?_
        refine jn_s (P := fun J_17 => ∀  (S_16 : St) (H : Heap) (locs : List Loc) (ls : Array Slot), J_17 S_16 = some o → Dy s D cs B0 α Lv S_16 H locs → lv_has ls 8 [(0, .ref b), (1, .ref (α 0 0)), (2, .ref (α 60 0)), (3, .ref (α 81 0)), (4, .int x4)] → W p l e room_1 s m args below meth c H locs (cells + 1) (slots + 6) Q (F0 m 1506 ls [])) hf ?_ (fun J_17 hJ_17 hf => ?_)
        · intro S_16 H locs ls hf hd hl
          refine lv_goto (tgt := 2923) hc.x hc.b dL_law__1506 (by decide) ?_
          cases hf
          refine W.widen (k := cells + 40) (n := slots + 2000) (by omega) (by omega) ?_
          exact kk _ _ _ _ _ (hx.mono (by first | exact fun _ h => absurd h List.not_mem_nil | exact fun _ h => List.mem_append_left _ h | exact fun _ h => List.mem_append_right _ (List.mem_append_left _ h) | exact fun _ h => List.mem_append_right _ (List.mem_append_right _ h))) hc hd (lv_sub hl [0, 1, 2, 3, 4] rfl)
        refine lv_if_ne (tgt := 1506) hc.x hc.b dL_law__1491 (by decide) (fun c_18 => ?_) (fun c_18 => ?_)
        · have hf := br_n c_18 hf
          exact hJ_17 S_11 _ _ _ hf hd (lv_sub hl [1, 2, 3, 4, 5] rfl)
        · have hf := br_y c_18 hf
          refine lv_aload_n hc.x hc.b dL_law__1494 rfl (lv_at hl 4 rfl) ?_
          refine lv_iconst (v := 0) hc.x hc.b dL_law__1495 (by decide) ?_
          obtain ⟨hi_19, hf⟩ := ck_s hf
          refine r_lald hc hd hL3 rfl hi_19 dL_law__1496 ?_
          refine lv_iload hc.x hc.b dL_law__1497 (lv_at hl 0 rfl) ?_
          refine lv_i2l (v := Int32.toInt64 r_12) hc.x hc.b dL_law__1499 rfl ?_
          refine W.lcmp hc.x hc.b dL_law__1500 ?_
          refine lv_if_eq (tgt := 1506) hc.x hc.b dL_law__1501 (by decide) (fun c_20 => ?_) (fun c_20 => ?_)
          · have hf := br_y c_20 hf
            exact hJ_17 S_11 _ _ _ hf hd (lv_sub hl [1, 2, 3, 4, 5] rfl)
          · have hf := br_n c_20 hf
            refine lv_iconst (v := 0) hc.x hc.b dL_law__1504 (by decide) ?_
            cases hf
      · have hf := br_n c_15 hf
        refine lv_iconst (v := 0) hc.x hc.b dL_law__1487 (by decide) ?_
        cases hf
    refine lv_if_eq (tgt := 1472) hc.x hc.b dL_law__1465 (by decide) (fun c_21 => ?_) (fun c_21 => ?_)
    · have hf := br_y c_21 hf
      refine lv_iconst (v := 0) hc.x hc.b dL_law__1472 (by decide) ?_
      exact hJ_9 0 S_5 _ _ _ hf hd (lv_sub hl [1, 2, 3, 4, 5, 0] rfl)
    · have hf := br_n c_21 hf
      refine lv_iconst (v := 1) hc.x hc.b dL_law__1468 (by decide) ?_
      refine lv_goto (tgt := 1473) hc.x hc.b dL_law__1469 (by decide) ?_
      exact hJ_9 1 S_5 _ _ _ hf hd (lv_sub hl [1, 2, 3, 4, 5, 0] rfl)
  refine lv_if_eq (tgt := 1427) hc.x hc.b dL_law__1420 (by decide) (fun c_22 => ?_) (fun c_22 => ?_)
  · have hf := br_y c_22 hf
    refine lv_iconst (v := 0) hc.x hc.b dL_law__1427 (by decide) ?_
    exact hJ_3 0 S _ _ _ hf hd (lv_sub hl [0, 1, 2, 3, 4] rfl)
  · have hf := br_n c_22 hf
    refine lv_iconst (v := 1) hc.x hc.b dL_law__1423 (by decide) ?_
    refine lv_goto (tgt := 1428) hc.x hc.b dL_law__1424 (by decide) ?_
    exact hJ_3 1 S _ _ _ hf hd (lv_sub hl [0, 1, 2, 3, 4] rfl)
def fc_21 (gN : Nat) (a1 a2 a3 a4 a5 : Int32) (S : St) : Option St := on2 (f_L_reply 0 a1 a2 a3 0 S) (fun r_1 S_2 => on2 (f_X12_reply 0 a1 a2 a3 S_2) (fun r_6 S_5 => on (f_X12_thrown 0 S_5) (fun r_8 => br (r_8 = r_1) (bv (fun  (S_10 : St) => some S_10) (fun J_11 => br (r_1 = 0) (ck (inb 0 1 = true) (br ((lg_cmp (gl S_5 81 0 (nn 0)) (Int32.toInt64 r_6)) = 0) (J_11 S_5) (none))) (J_11 S_5))) (none))))
set_option maxRecDepth 100000 in
set_option maxHeartbeats 8000000 in
theorem lc_21 (hc : Cx p s m args meth c cL_law_ 8 "PumpCrossingLaw" D cs B0 kt Lv) (hck : CK cs s) (hst : l.stackTraces = false) {b L : Nat} {xs : Nat → Int32} (hX : va_X b L xs s s.heap) (hbl : b < s.heap.size) (hbA : ¬ B0 ≤ b) {x4 a1 a2 a3 a4 a5 : Int32} (hi : inb (x4 + 1) L = true ∧ inb (x4 + 2) L = true ∧ inb (x4 + 3) L = true ∧ inb (x4 + 4) L = true ∧ inb (x4 + 5) L = true) (ea : xs (nn (x4 + 1)) = a1 ∧ xs (nn (x4 + 2)) = a2 ∧ xs (nn (x4 + 3)) = a3 ∧ xs (nn (x4 + 4)) = a4 ∧ xs (nn (x4 + 5)) = a5) {o S : St} {gN : Nat} (hlt : ∀ k g, Lv k g → k < 1000) (hfr : ∀ x ∈ FL gN, ¬ Lv x.1 x.2) (hL1 : Lv 0 0) (hL2 : Lv 60 0) (hL3 : Lv 81 0) (hcc : cells + 60 ≤ 601024) (hss : slots + 3000 ≤ 7293034) (kk : ∀ (α1 : Nat → Nat → Nat) (Lv1 : Nat → Nat → Prop) (H1 : Heap) (locs1 : List Loc) (ls1 : Array Slot), Ex α Lv (1000, 0) α1 Lv1 (FL gN) → Cx p s m args meth c cL_law_ 8 "PumpCrossingLaw" D cs B0 kt Lv1 → Dy s D cs B0 α1 Lv1 o H1 locs1 → lv_has ls1 8 [(0, .ref b), (1, .ref (α1 0 0)), (2, .ref (α1 60 0)), (3, .ref (α1 81 0)), (4, .int x4)] → W p l e room_1 s m args below meth c H1 locs1 (cells + 40) (slots + 2000) Q (F0 m 2923 ls1 [])) {H : Heap} {locs : List Loc} {ls : Array Slot} (hf : fc_21 gN a1 a2 a3 a4 a5 S = some o) (hd : Dy s D cs B0 α Lv S H locs) (hl : lv_has ls 8 [(0, .ref b), (1, .ref (α 0 0)), (2, .ref (α 60 0)), (3, .ref (α 81 0)), (4, .int x4)]) : W p l e room_1 s m args below meth c H locs cells slots Q (F0 m 1509 ls []) := by
  unfold fc_21 at hf
  have hx : Ex α Lv (1000, 0) α Lv [] := Ex.start hlt
  refine lv_aload_n hc.x hc.b dL_law__1509 rfl (lv_at hl 1 rfl) ?_
  refine lv_aload_n hc.x hc.b dL_law__1510 rfl (lv_at hl 0 rfl) ?_
  refine lv_iload hc.x hc.b dL_law__1511 (lv_at hl 4 rfl) ?_
  refine lv_iconst (v := 1) hc.x hc.b dL_law__1513 (by decide) ?_
  refine lv_iadd hc.x hc.b dL_law__1514 ?_
  refine r_sld hc hX hbl hbA hd (hi.1) (ea.1) dL_law__1515 ?_
  refine lv_aload_n hc.x hc.b dL_law__1516 rfl (lv_at hl 0 rfl) ?_
  refine lv_iload hc.x hc.b dL_law__1517 (lv_at hl 4 rfl) ?_
  refine lv_iconst (v := 2) hc.x hc.b dL_law__1519 (by decide) ?_
  refine lv_iadd hc.x hc.b dL_law__1520 ?_
  refine r_sld hc hX hbl hbA hd (hi.2.1) (ea.2.1) dL_law__1521 ?_
  refine lv_aload_n hc.x hc.b dL_law__1522 rfl (lv_at hl 0 rfl) ?_
  refine lv_iload hc.x hc.b dL_law__1523 (lv_at hl 4 rfl) ?_
  refine lv_iconst (v := 3) hc.x hc.b dL_law__1525 (by decide) ?_
  refine lv_iadd hc.x hc.b dL_law__1526 ?_
  refine r_sld hc hX hbl hbA hd (hi.2.2.1) (ea.2.2.1) dL_law__1527 ?_
  refine lv_aload_n hc.x hc.b dL_law__1528 rfl (lv_at hl 3 rfl) ?_
  obtain ⟨r_1, S_2, hq_3, hf⟩ := on2_s hf
  refine k_i (k_runSW hc hck hd my_L_reply tw_1007 (c_L_reply l D cs B0 kt α Lv S 0 a1 a2 a3 0 hc.cl hL1 hL3 hst hq_3) rfl rfl hl.1 (Nat.le_of_ble_eq_true rfl) ⟨Nat.le_of_ble_eq_true rfl, Nat.le_of_ble_eq_true rfl, by show _ ≤ 601024; omega, by show _ ≤ 7293034; omega⟩ dL_law__1529) hd (fun H locs hd => ?_)
  refine lv_istore (lv' := [(5, .int r_1), (0, .ref b), (1, .ref (α 0 0)), (2, .ref (α 60 0)), (3, .ref (α 81 0)), (4, .int x4)]) hc.x hc.b dL_law__1532 hl (by decide) rfl (fun ls hl => ?_)
  refine lv_aload_n hc.x hc.b dL_law__1534 rfl (lv_at hl 3 rfl) ?_
  refine lv_aload_n hc.x hc.b dL_law__1535 rfl (lv_at hl 1 rfl) ?_
  refine lv_iload hc.x hc.b dL_law__1536 (lv_at hl 5 rfl) ?_
  refine lv_iconst (v := 1) hc.x hc.b dL_law__1538 (by decide) ?_
  refine lv_iadd hc.x hc.b dL_law__1539 ?_
  refine r_sld hc hX hbl hbA hd (hi.1) (ea.1) dL_law__1540 ?_
  refine lv_aload_n hc.x hc.b dL_law__1541 rfl (lv_at hl 1 rfl) ?_
  refine lv_iload hc.x hc.b dL_law__1542 (lv_at hl 5 rfl) ?_
  refine lv_iconst (v := 2) hc.x hc.b dL_law__1544 (by decide) ?_
  refine lv_iadd hc.x hc.b dL_law__1545 ?_
  refine r_sld hc hX hbl hbA hd (hi.2.1) (ea.2.1) dL_law__1546 ?_
  refine lv_aload_n hc.x hc.b dL_law__1547 rfl (lv_at hl 1 rfl) ?_
  refine lv_iload hc.x hc.b dL_law__1548 (lv_at hl 5 rfl) ?_
  refine lv_iconst (v := 3) hc.x hc.b dL_law__1550 (by decide) ?_
  refine lv_iadd hc.x hc.b dL_law__1551 ?_
  refine r_sld hc hX hbl hbA hd (hi.2.2.1) (ea.2.2.1) dL_law__1552 ?_
  obtain ⟨r_6, S_5, hq_4, hf⟩ := on2_s hf
  refine k_i (k_runV hc hd my_X12_reply tw_1744 hL2 rfl rfl rfl (c_X12_reply l D cs B0 kt α Lv S_2 0 a1 a2 a3 hc.cl hL2  hq_4) rfl rfl hl.1 (Nat.le_of_ble_eq_true rfl) ⟨Nat.le_of_ble_eq_true rfl, Nat.le_of_ble_eq_true rfl, by show _ ≤ 601024; omega, by show _ ≤ 7293034; omega⟩ dL_law__1553) hd (fun H locs hd => ?_)
  refine lv_istore (lv' := [(6, .int r_6), (5, .int r_1), (0, .ref b), (1, .ref (α 0 0)), (2, .ref (α 60 0)), (3, .ref (α 81 0)), (4, .int x4)]) hc.x hc.b dL_law__1556 hl (by decide) rfl (fun ls hl => ?_)
  refine lv_aload_n hc.x hc.b dL_law__1558 rfl (lv_at hl 4 rfl) ?_
  obtain ⟨r_8, hq_7, hf⟩ := on_s hf
  refine k_i (k_runV hc hd my_X12_thrown tw_1431 hL2 rfl rfl rfl (c_X12_thrown l D cs B0 kt α Lv S_5 0 hc.cl hL2  hq_7) rfl rfl hl.1 (Nat.le_of_ble_eq_true rfl) ⟨Nat.le_of_ble_eq_true rfl, Nat.le_of_ble_eq_true rfl, by show _ ≤ 601024; omega, by show _ ≤ 7293034; omega⟩ dL_law__1559) hd (fun H locs hd => ?_)
  refine lv_iload hc.x hc.b dL_law__1562 (lv_at hl 1 rfl) ?_
  refine lv_icmp_eq (tgt := 1569) hc.x hc.b dL_law__1564 (by decide) (fun c_9 => ?_) (fun c_9 => ?_)
  · have hf := br_y c_9 hf
    refine lv_iload hc.x hc.b dL_law__1569 (lv_at hl 1 rfl) ?_
    refine jn_s (P := fun J_11 => ∀  (S_10 : St) (H : Heap) (locs : List Loc) (ls : Array Slot), J_11 S_10 = some o → Dy s D cs B0 α Lv S_10 H locs → lv_has ls 8 [(0, .ref b), (1, .ref (α 0 0)), (2, .ref (α 60 0)), (3, .ref (α 81 0)), (4, .int x4)] → W p l e room_1 s m args below meth c H locs (cells + 1) (slots + 6) Q (F0 m 1586 ls [])) hf ?_ (fun J_11 hJ_11 hf => ?_)
    · intro S_10 H locs ls hf hd hl
      refine lv_goto (tgt := 2923) hc.x hc.b dL_law__1586 (by decide) ?_
      cases hf
      refine W.widen (k := cells + 40) (n := slots + 2000) (by omega) (by omega) ?_
      exact kk _ _ _ _ _ (hx.mono (by first | exact fun _ h => absurd h List.not_mem_nil | exact fun _ h => List.mem_append_left _ h | exact fun _ h => List.mem_append_right _ (List.mem_append_left _ h) | exact fun _ h => List.mem_append_right _ (List.mem_append_right _ h))) hc hd (lv_sub hl [0, 1, 2, 3, 4] rfl)
    refine lv_if_ne (tgt := 1586) hc.x hc.b dL_law__1571 (by decide) (fun c_12 => ?_) (fun c_12 => ?_)
    · have hf := br_n c_12 hf
      exact hJ_11 S_5 _ _ _ hf hd (lv_sub hl [2, 3, 4, 5, 6] rfl)
    · have hf := br_y c_12 hf
      refine lv_aload_n hc.x hc.b dL_law__1574 rfl (lv_at hl 5 rfl) ?_
      refine lv_iconst (v := 0) hc.x hc.b dL_law__1575 (by decide) ?_
      obtain ⟨hi_13, hf⟩ := ck_s hf
      refine r_lald hc hd hL3 rfl hi_13 dL_law__1576 ?_
      refine lv_iload hc.x hc.b dL_law__1577 (lv_at hl 0 rfl) ?_
      refine lv_i2l (v := Int32.toInt64 r_6) hc.x hc.b dL_law__1579 rfl ?_
      refine W.lcmp hc.x hc.b dL_law__1580 ?_
      refine lv_if_eq (tgt := 1586) hc.x hc.b dL_law__1581 (by decide) (fun c_14 => ?_) (fun c_14 => ?_)
      · have hf := br_y c_14 hf
        exact hJ_11 S_5 _ _ _ hf hd (lv_sub hl [2, 3, 4, 5, 6] rfl)
      · have hf := br_n c_14 hf
        refine lv_iconst (v := 0) hc.x hc.b dL_law__1584 (by decide) ?_
        cases hf
  · have hf := br_n c_9 hf
    refine lv_iconst (v := 0) hc.x hc.b dL_law__1567 (by decide) ?_
    cases hf
def fc_22 (gN : Nat) (a1 a2 a3 a4 a5 : Int32) (S : St) : Option St := on2 (f_L_even 0 a1 a2 a3 0 S) (fun r_1 S_2 => on2 (f_X12_even 0 a1 a2 a3 S_2) (fun r_6 S_5 => on (f_X12_thrown 0 S_5) (fun r_8 => br (r_8 = r_1) (bv (fun  (S_10 : St) => some S_10) (fun J_11 => br (r_1 = 0) (ck (inb 0 1 = true) (br ((lg_cmp (gl S_5 81 0 (nn 0)) (Int32.toInt64 r_6)) = 0) (J_11 S_5) (none))) (J_11 S_5))) (none))))
set_option maxRecDepth 100000 in
set_option maxHeartbeats 8000000 in
theorem lc_22 (hc : Cx p s m args meth c cL_law_ 8 "PumpCrossingLaw" D cs B0 kt Lv) (hck : CK cs s) (hst : l.stackTraces = false) {b L : Nat} {xs : Nat → Int32} (hX : va_X b L xs s s.heap) (hbl : b < s.heap.size) (hbA : ¬ B0 ≤ b) {x4 a1 a2 a3 a4 a5 : Int32} (hi : inb (x4 + 1) L = true ∧ inb (x4 + 2) L = true ∧ inb (x4 + 3) L = true ∧ inb (x4 + 4) L = true ∧ inb (x4 + 5) L = true) (ea : xs (nn (x4 + 1)) = a1 ∧ xs (nn (x4 + 2)) = a2 ∧ xs (nn (x4 + 3)) = a3 ∧ xs (nn (x4 + 4)) = a4 ∧ xs (nn (x4 + 5)) = a5) {o S : St} {gN : Nat} (hlt : ∀ k g, Lv k g → k < 1000) (hfr : ∀ x ∈ FL gN, ¬ Lv x.1 x.2) (hL1 : Lv 0 0) (hL2 : Lv 60 0) (hL3 : Lv 81 0) (hcc : cells + 60 ≤ 601024) (hss : slots + 3000 ≤ 7293034) (kk : ∀ (α1 : Nat → Nat → Nat) (Lv1 : Nat → Nat → Prop) (H1 : Heap) (locs1 : List Loc) (ls1 : Array Slot), Ex α Lv (1000, 0) α1 Lv1 (FL gN) → Cx p s m args meth c cL_law_ 8 "PumpCrossingLaw" D cs B0 kt Lv1 → Dy s D cs B0 α1 Lv1 o H1 locs1 → lv_has ls1 8 [(0, .ref b), (1, .ref (α1 0 0)), (2, .ref (α1 60 0)), (3, .ref (α1 81 0)), (4, .int x4)] → W p l e room_1 s m args below meth c H1 locs1 (cells + 40) (slots + 2000) Q (F0 m 2923 ls1 [])) {H : Heap} {locs : List Loc} {ls : Array Slot} (hf : fc_22 gN a1 a2 a3 a4 a5 S = some o) (hd : Dy s D cs B0 α Lv S H locs) (hl : lv_has ls 8 [(0, .ref b), (1, .ref (α 0 0)), (2, .ref (α 60 0)), (3, .ref (α 81 0)), (4, .int x4)]) : W p l e room_1 s m args below meth c H locs cells slots Q (F0 m 1589 ls []) := by
  unfold fc_22 at hf
  have hx : Ex α Lv (1000, 0) α Lv [] := Ex.start hlt
  refine lv_aload_n hc.x hc.b dL_law__1589 rfl (lv_at hl 1 rfl) ?_
  refine lv_aload_n hc.x hc.b dL_law__1590 rfl (lv_at hl 0 rfl) ?_
  refine lv_iload hc.x hc.b dL_law__1591 (lv_at hl 4 rfl) ?_
  refine lv_iconst (v := 1) hc.x hc.b dL_law__1593 (by decide) ?_
  refine lv_iadd hc.x hc.b dL_law__1594 ?_
  refine r_sld hc hX hbl hbA hd (hi.1) (ea.1) dL_law__1595 ?_
  refine lv_aload_n hc.x hc.b dL_law__1596 rfl (lv_at hl 0 rfl) ?_
  refine lv_iload hc.x hc.b dL_law__1597 (lv_at hl 4 rfl) ?_
  refine lv_iconst (v := 2) hc.x hc.b dL_law__1599 (by decide) ?_
  refine lv_iadd hc.x hc.b dL_law__1600 ?_
  refine r_sld hc hX hbl hbA hd (hi.2.1) (ea.2.1) dL_law__1601 ?_
  refine lv_aload_n hc.x hc.b dL_law__1602 rfl (lv_at hl 0 rfl) ?_
  refine lv_iload hc.x hc.b dL_law__1603 (lv_at hl 4 rfl) ?_
  refine lv_iconst (v := 3) hc.x hc.b dL_law__1605 (by decide) ?_
  refine lv_iadd hc.x hc.b dL_law__1606 ?_
  refine r_sld hc hX hbl hbA hd (hi.2.2.1) (ea.2.2.1) dL_law__1607 ?_
  refine lv_aload_n hc.x hc.b dL_law__1608 rfl (lv_at hl 3 rfl) ?_
  obtain ⟨r_1, S_2, hq_3, hf⟩ := on2_s hf
  refine k_i (k_runSW hc hck hd my_L_even tw_1018 (c_L_even l D cs B0 kt α Lv S 0 a1 a2 a3 0 hc.cl hL1 hL3 hst hq_3) rfl rfl hl.1 (Nat.le_of_ble_eq_true rfl) ⟨Nat.le_of_ble_eq_true rfl, Nat.le_of_ble_eq_true rfl, by show _ ≤ 601024; omega, by show _ ≤ 7293034; omega⟩ dL_law__1609) hd (fun H locs hd => ?_)
  refine lv_istore (lv' := [(5, .int r_1), (0, .ref b), (1, .ref (α 0 0)), (2, .ref (α 60 0)), (3, .ref (α 81 0)), (4, .int x4)]) hc.x hc.b dL_law__1612 hl (by decide) rfl (fun ls hl => ?_)
  refine lv_aload_n hc.x hc.b dL_law__1614 rfl (lv_at hl 3 rfl) ?_
  refine lv_aload_n hc.x hc.b dL_law__1615 rfl (lv_at hl 1 rfl) ?_
  refine lv_iload hc.x hc.b dL_law__1616 (lv_at hl 5 rfl) ?_
  refine lv_iconst (v := 1) hc.x hc.b dL_law__1618 (by decide) ?_
  refine lv_iadd hc.x hc.b dL_law__1619 ?_
  refine r_sld hc hX hbl hbA hd (hi.1) (ea.1) dL_law__1620 ?_
  refine lv_aload_n hc.x hc.b dL_law__1621 rfl (lv_at hl 1 rfl) ?_
  refine lv_iload hc.x hc.b dL_law__1622 (lv_at hl 5 rfl) ?_
  refine lv_iconst (v := 2) hc.x hc.b dL_law__1624 (by decide) ?_
  refine lv_iadd hc.x hc.b dL_law__1625 ?_
  refine r_sld hc hX hbl hbA hd (hi.2.1) (ea.2.1) dL_law__1626 ?_
  refine lv_aload_n hc.x hc.b dL_law__1627 rfl (lv_at hl 1 rfl) ?_
  refine lv_iload hc.x hc.b dL_law__1628 (lv_at hl 5 rfl) ?_
  refine lv_iconst (v := 3) hc.x hc.b dL_law__1630 (by decide) ?_
  refine lv_iadd hc.x hc.b dL_law__1631 ?_
  refine r_sld hc hX hbl hbA hd (hi.2.2.1) (ea.2.2.1) dL_law__1632 ?_
  obtain ⟨r_6, S_5, hq_4, hf⟩ := on2_s hf
  refine k_i (k_runV hc hd my_X12_even tw_1748 hL2 rfl rfl rfl (c_X12_even l D cs B0 kt α Lv S_2 0 a1 a2 a3 hc.cl hL2  hq_4) rfl rfl hl.1 (Nat.le_of_ble_eq_true rfl) ⟨Nat.le_of_ble_eq_true rfl, Nat.le_of_ble_eq_true rfl, by show _ ≤ 601024; omega, by show _ ≤ 7293034; omega⟩ dL_law__1633) hd (fun H locs hd => ?_)
  refine lv_istore (lv' := [(6, .int r_6), (5, .int r_1), (0, .ref b), (1, .ref (α 0 0)), (2, .ref (α 60 0)), (3, .ref (α 81 0)), (4, .int x4)]) hc.x hc.b dL_law__1636 hl (by decide) rfl (fun ls hl => ?_)
  refine lv_aload_n hc.x hc.b dL_law__1638 rfl (lv_at hl 4 rfl) ?_
  obtain ⟨r_8, hq_7, hf⟩ := on_s hf
  refine k_i (k_runV hc hd my_X12_thrown tw_1431 hL2 rfl rfl rfl (c_X12_thrown l D cs B0 kt α Lv S_5 0 hc.cl hL2  hq_7) rfl rfl hl.1 (Nat.le_of_ble_eq_true rfl) ⟨Nat.le_of_ble_eq_true rfl, Nat.le_of_ble_eq_true rfl, by show _ ≤ 601024; omega, by show _ ≤ 7293034; omega⟩ dL_law__1639) hd (fun H locs hd => ?_)
  refine lv_iload hc.x hc.b dL_law__1642 (lv_at hl 1 rfl) ?_
  refine lv_icmp_eq (tgt := 1649) hc.x hc.b dL_law__1644 (by decide) (fun c_9 => ?_) (fun c_9 => ?_)
  · have hf := br_y c_9 hf
    refine lv_iload hc.x hc.b dL_law__1649 (lv_at hl 1 rfl) ?_
    refine jn_s (P := fun J_11 => ∀  (S_10 : St) (H : Heap) (locs : List Loc) (ls : Array Slot), J_11 S_10 = some o → Dy s D cs B0 α Lv S_10 H locs → lv_has ls 8 [(0, .ref b), (1, .ref (α 0 0)), (2, .ref (α 60 0)), (3, .ref (α 81 0)), (4, .int x4)] → W p l e room_1 s m args below meth c H locs (cells + 1) (slots + 6) Q (F0 m 1666 ls [])) hf ?_ (fun J_11 hJ_11 hf => ?_)
    · intro S_10 H locs ls hf hd hl
      refine lv_goto (tgt := 2923) hc.x hc.b dL_law__1666 (by decide) ?_
      cases hf
      refine W.widen (k := cells + 40) (n := slots + 2000) (by omega) (by omega) ?_
      exact kk _ _ _ _ _ (hx.mono (by first | exact fun _ h => absurd h List.not_mem_nil | exact fun _ h => List.mem_append_left _ h | exact fun _ h => List.mem_append_right _ (List.mem_append_left _ h) | exact fun _ h => List.mem_append_right _ (List.mem_append_right _ h))) hc hd (lv_sub hl [0, 1, 2, 3, 4] rfl)
    refine lv_if_ne (tgt := 1666) hc.x hc.b dL_law__1651 (by decide) (fun c_12 => ?_) (fun c_12 => ?_)
    · have hf := br_n c_12 hf
      exact hJ_11 S_5 _ _ _ hf hd (lv_sub hl [2, 3, 4, 5, 6] rfl)
    · have hf := br_y c_12 hf
      refine lv_aload_n hc.x hc.b dL_law__1654 rfl (lv_at hl 5 rfl) ?_
      refine lv_iconst (v := 0) hc.x hc.b dL_law__1655 (by decide) ?_
      obtain ⟨hi_13, hf⟩ := ck_s hf
      refine r_lald hc hd hL3 rfl hi_13 dL_law__1656 ?_
      refine lv_iload hc.x hc.b dL_law__1657 (lv_at hl 0 rfl) ?_
      refine lv_i2l (v := Int32.toInt64 r_6) hc.x hc.b dL_law__1659 rfl ?_
      refine W.lcmp hc.x hc.b dL_law__1660 ?_
      refine lv_if_eq (tgt := 1666) hc.x hc.b dL_law__1661 (by decide) (fun c_14 => ?_) (fun c_14 => ?_)
      · have hf := br_y c_14 hf
        exact hJ_11 S_5 _ _ _ hf hd (lv_sub hl [2, 3, 4, 5, 6] rfl)
      · have hf := br_n c_14 hf
        refine lv_iconst (v := 0) hc.x hc.b dL_law__1664 (by decide) ?_
        cases hf
  · have hf := br_n c_9 hf
    refine lv_iconst (v := 0) hc.x hc.b dL_law__1647 (by decide) ?_
    cases hf
def fc_23 (gN : Nat) (a1 a2 a3 a4 a5 : Int32) (S : St) : Option St := on2 (f_L_joint 0 a1 a2 0 S) (fun r_1 S_2 => on2 (f_X12_joint 0 a1 a2 S_2) (fun r_6 S_5 => on (f_X12_thrown 0 S_5) (fun r_8 => br (r_8 = r_1) (bv (fun  (S_10 : St) => some S_10) (fun J_11 => br (r_1 = 0) (ck (inb 0 1 = true) (br ((lg_cmp (gl S_5 81 0 (nn 0)) (Int32.toInt64 r_6)) = 0) (J_11 S_5) (none))) (J_11 S_5))) (none))))
set_option maxRecDepth 100000 in
set_option maxHeartbeats 8000000 in
theorem lc_23 (hc : Cx p s m args meth c cL_law_ 8 "PumpCrossingLaw" D cs B0 kt Lv) (hck : CK cs s) (hst : l.stackTraces = false) {b L : Nat} {xs : Nat → Int32} (hX : va_X b L xs s s.heap) (hbl : b < s.heap.size) (hbA : ¬ B0 ≤ b) {x4 a1 a2 a3 a4 a5 : Int32} (hi : inb (x4 + 1) L = true ∧ inb (x4 + 2) L = true ∧ inb (x4 + 3) L = true ∧ inb (x4 + 4) L = true ∧ inb (x4 + 5) L = true) (ea : xs (nn (x4 + 1)) = a1 ∧ xs (nn (x4 + 2)) = a2 ∧ xs (nn (x4 + 3)) = a3 ∧ xs (nn (x4 + 4)) = a4 ∧ xs (nn (x4 + 5)) = a5) {o S : St} {gN : Nat} (hlt : ∀ k g, Lv k g → k < 1000) (hfr : ∀ x ∈ FL gN, ¬ Lv x.1 x.2) (hL1 : Lv 0 0) (hL2 : Lv 60 0) (hL3 : Lv 81 0) (hcc : cells + 60 ≤ 601024) (hss : slots + 3000 ≤ 7293034) (kk : ∀ (α1 : Nat → Nat → Nat) (Lv1 : Nat → Nat → Prop) (H1 : Heap) (locs1 : List Loc) (ls1 : Array Slot), Ex α Lv (1000, 0) α1 Lv1 (FL gN) → Cx p s m args meth c cL_law_ 8 "PumpCrossingLaw" D cs B0 kt Lv1 → Dy s D cs B0 α1 Lv1 o H1 locs1 → lv_has ls1 8 [(0, .ref b), (1, .ref (α1 0 0)), (2, .ref (α1 60 0)), (3, .ref (α1 81 0)), (4, .int x4)] → W p l e room_1 s m args below meth c H1 locs1 (cells + 40) (slots + 2000) Q (F0 m 2923 ls1 [])) {H : Heap} {locs : List Loc} {ls : Array Slot} (hf : fc_23 gN a1 a2 a3 a4 a5 S = some o) (hd : Dy s D cs B0 α Lv S H locs) (hl : lv_has ls 8 [(0, .ref b), (1, .ref (α 0 0)), (2, .ref (α 60 0)), (3, .ref (α 81 0)), (4, .int x4)]) : W p l e room_1 s m args below meth c H locs cells slots Q (F0 m 1669 ls []) := by
  unfold fc_23 at hf
  have hx : Ex α Lv (1000, 0) α Lv [] := Ex.start hlt
  refine lv_aload_n hc.x hc.b dL_law__1669 rfl (lv_at hl 1 rfl) ?_
  refine lv_aload_n hc.x hc.b dL_law__1670 rfl (lv_at hl 0 rfl) ?_
  refine lv_iload hc.x hc.b dL_law__1671 (lv_at hl 4 rfl) ?_
  refine lv_iconst (v := 1) hc.x hc.b dL_law__1673 (by decide) ?_
  refine lv_iadd hc.x hc.b dL_law__1674 ?_
  refine r_sld hc hX hbl hbA hd (hi.1) (ea.1) dL_law__1675 ?_
  refine lv_aload_n hc.x hc.b dL_law__1676 rfl (lv_at hl 0 rfl) ?_
  refine lv_iload hc.x hc.b dL_law__1677 (lv_at hl 4 rfl) ?_
  refine lv_iconst (v := 2) hc.x hc.b dL_law__1679 (by decide) ?_
  refine lv_iadd hc.x hc.b dL_law__1680 ?_
  refine r_sld hc hX hbl hbA hd (hi.2.1) (ea.2.1) dL_law__1681 ?_
  refine lv_aload_n hc.x hc.b dL_law__1682 rfl (lv_at hl 3 rfl) ?_
  obtain ⟨r_1, S_2, hq_3, hf⟩ := on2_s hf
  refine k_i (k_runSW hc hck hd my_L_joint tw_1040 (c_L_joint l D cs B0 kt α Lv S 0 a1 a2 0 hc.cl hL1 hL3 hst hq_3) rfl rfl hl.1 (Nat.le_of_ble_eq_true rfl) ⟨Nat.le_of_ble_eq_true rfl, Nat.le_of_ble_eq_true rfl, by show _ ≤ 601024; omega, by show _ ≤ 7293034; omega⟩ dL_law__1683) hd (fun H locs hd => ?_)
  refine lv_istore (lv' := [(5, .int r_1), (0, .ref b), (1, .ref (α 0 0)), (2, .ref (α 60 0)), (3, .ref (α 81 0)), (4, .int x4)]) hc.x hc.b dL_law__1686 hl (by decide) rfl (fun ls hl => ?_)
  refine lv_aload_n hc.x hc.b dL_law__1688 rfl (lv_at hl 3 rfl) ?_
  refine lv_aload_n hc.x hc.b dL_law__1689 rfl (lv_at hl 1 rfl) ?_
  refine lv_iload hc.x hc.b dL_law__1690 (lv_at hl 5 rfl) ?_
  refine lv_iconst (v := 1) hc.x hc.b dL_law__1692 (by decide) ?_
  refine lv_iadd hc.x hc.b dL_law__1693 ?_
  refine r_sld hc hX hbl hbA hd (hi.1) (ea.1) dL_law__1694 ?_
  refine lv_aload_n hc.x hc.b dL_law__1695 rfl (lv_at hl 1 rfl) ?_
  refine lv_iload hc.x hc.b dL_law__1696 (lv_at hl 5 rfl) ?_
  refine lv_iconst (v := 2) hc.x hc.b dL_law__1698 (by decide) ?_
  refine lv_iadd hc.x hc.b dL_law__1699 ?_
  refine r_sld hc hX hbl hbA hd (hi.2.1) (ea.2.1) dL_law__1700 ?_
  obtain ⟨r_6, S_5, hq_4, hf⟩ := on2_s hf
  refine k_i (k_runV hc hd my_X12_joint tw_1760 hL2 rfl rfl rfl (c_X12_joint l D cs B0 kt α Lv S_2 0 a1 a2 hc.cl hL2  hq_4) rfl rfl hl.1 (Nat.le_of_ble_eq_true rfl) ⟨Nat.le_of_ble_eq_true rfl, Nat.le_of_ble_eq_true rfl, by show _ ≤ 601024; omega, by show _ ≤ 7293034; omega⟩ dL_law__1701) hd (fun H locs hd => ?_)
  refine lv_istore (lv' := [(6, .int r_6), (5, .int r_1), (0, .ref b), (1, .ref (α 0 0)), (2, .ref (α 60 0)), (3, .ref (α 81 0)), (4, .int x4)]) hc.x hc.b dL_law__1704 hl (by decide) rfl (fun ls hl => ?_)
  refine lv_aload_n hc.x hc.b dL_law__1706 rfl (lv_at hl 4 rfl) ?_
  obtain ⟨r_8, hq_7, hf⟩ := on_s hf
  refine k_i (k_runV hc hd my_X12_thrown tw_1431 hL2 rfl rfl rfl (c_X12_thrown l D cs B0 kt α Lv S_5 0 hc.cl hL2  hq_7) rfl rfl hl.1 (Nat.le_of_ble_eq_true rfl) ⟨Nat.le_of_ble_eq_true rfl, Nat.le_of_ble_eq_true rfl, by show _ ≤ 601024; omega, by show _ ≤ 7293034; omega⟩ dL_law__1707) hd (fun H locs hd => ?_)
  refine lv_iload hc.x hc.b dL_law__1710 (lv_at hl 1 rfl) ?_
  refine lv_icmp_eq (tgt := 1717) hc.x hc.b dL_law__1712 (by decide) (fun c_9 => ?_) (fun c_9 => ?_)
  · have hf := br_y c_9 hf
    refine lv_iload hc.x hc.b dL_law__1717 (lv_at hl 1 rfl) ?_
    refine jn_s (P := fun J_11 => ∀  (S_10 : St) (H : Heap) (locs : List Loc) (ls : Array Slot), J_11 S_10 = some o → Dy s D cs B0 α Lv S_10 H locs → lv_has ls 8 [(0, .ref b), (1, .ref (α 0 0)), (2, .ref (α 60 0)), (3, .ref (α 81 0)), (4, .int x4)] → W p l e room_1 s m args below meth c H locs (cells + 1) (slots + 6) Q (F0 m 1734 ls [])) hf ?_ (fun J_11 hJ_11 hf => ?_)
    · intro S_10 H locs ls hf hd hl
      refine lv_goto (tgt := 2923) hc.x hc.b dL_law__1734 (by decide) ?_
      cases hf
      refine W.widen (k := cells + 40) (n := slots + 2000) (by omega) (by omega) ?_
      exact kk _ _ _ _ _ (hx.mono (by first | exact fun _ h => absurd h List.not_mem_nil | exact fun _ h => List.mem_append_left _ h | exact fun _ h => List.mem_append_right _ (List.mem_append_left _ h) | exact fun _ h => List.mem_append_right _ (List.mem_append_right _ h))) hc hd (lv_sub hl [0, 1, 2, 3, 4] rfl)
    refine lv_if_ne (tgt := 1734) hc.x hc.b dL_law__1719 (by decide) (fun c_12 => ?_) (fun c_12 => ?_)
    · have hf := br_n c_12 hf
      exact hJ_11 S_5 _ _ _ hf hd (lv_sub hl [2, 3, 4, 5, 6] rfl)
    · have hf := br_y c_12 hf
      refine lv_aload_n hc.x hc.b dL_law__1722 rfl (lv_at hl 5 rfl) ?_
      refine lv_iconst (v := 0) hc.x hc.b dL_law__1723 (by decide) ?_
      obtain ⟨hi_13, hf⟩ := ck_s hf
      refine r_lald hc hd hL3 rfl hi_13 dL_law__1724 ?_
      refine lv_iload hc.x hc.b dL_law__1725 (lv_at hl 0 rfl) ?_
      refine lv_i2l (v := Int32.toInt64 r_6) hc.x hc.b dL_law__1727 rfl ?_
      refine W.lcmp hc.x hc.b dL_law__1728 ?_
      refine lv_if_eq (tgt := 1734) hc.x hc.b dL_law__1729 (by decide) (fun c_14 => ?_) (fun c_14 => ?_)
      · have hf := br_y c_14 hf
        exact hJ_11 S_5 _ _ _ hf hd (lv_sub hl [2, 3, 4, 5, 6] rfl)
      · have hf := br_n c_14 hf
        refine lv_iconst (v := 0) hc.x hc.b dL_law__1732 (by decide) ?_
        cases hf
  · have hf := br_n c_9 hf
    refine lv_iconst (v := 0) hc.x hc.b dL_law__1715 (by decide) ?_
    cases hf
def fc_24 (gN : Nat) (a1 a2 a3 a4 a5 : Int32) (S : St) : Option St := on2 (f_L_turn 0 a1 a2 a3 a4 a5 0 S) (fun r_1 S_2 => on2 (f_X12_turn 0 a1 a2 a3 a4 a5 S_2) (fun r_6 S_5 => on (f_X12_thrown 0 S_5) (fun r_8 => br (r_8 = r_1) (bv (fun  (S_10 : St) => some S_10) (fun J_11 => br (r_1 = 0) (ck (inb 0 1 = true) (br ((lg_cmp (gl S_5 81 0 (nn 0)) (Int32.toInt64 r_6)) = 0) (J_11 S_5) (none))) (J_11 S_5))) (none))))
set_option maxRecDepth 100000 in
set_option maxHeartbeats 8000000 in
theorem lc_24 (hc : Cx p s m args meth c cL_law_ 8 "PumpCrossingLaw" D cs B0 kt Lv) (hck : CK cs s) (hst : l.stackTraces = false) {b L : Nat} {xs : Nat → Int32} (hX : va_X b L xs s s.heap) (hbl : b < s.heap.size) (hbA : ¬ B0 ≤ b) {x4 a1 a2 a3 a4 a5 : Int32} (hi : inb (x4 + 1) L = true ∧ inb (x4 + 2) L = true ∧ inb (x4 + 3) L = true ∧ inb (x4 + 4) L = true ∧ inb (x4 + 5) L = true) (ea : xs (nn (x4 + 1)) = a1 ∧ xs (nn (x4 + 2)) = a2 ∧ xs (nn (x4 + 3)) = a3 ∧ xs (nn (x4 + 4)) = a4 ∧ xs (nn (x4 + 5)) = a5) {o S : St} {gN : Nat} (hlt : ∀ k g, Lv k g → k < 1000) (hfr : ∀ x ∈ FL gN, ¬ Lv x.1 x.2) (hL1 : Lv 0 0) (hL2 : Lv 60 0) (hL3 : Lv 81 0) (hcc : cells + 60 ≤ 601024) (hss : slots + 3000 ≤ 7293034) (kk : ∀ (α1 : Nat → Nat → Nat) (Lv1 : Nat → Nat → Prop) (H1 : Heap) (locs1 : List Loc) (ls1 : Array Slot), Ex α Lv (1000, 0) α1 Lv1 (FL gN) → Cx p s m args meth c cL_law_ 8 "PumpCrossingLaw" D cs B0 kt Lv1 → Dy s D cs B0 α1 Lv1 o H1 locs1 → lv_has ls1 8 [(0, .ref b), (1, .ref (α1 0 0)), (2, .ref (α1 60 0)), (3, .ref (α1 81 0)), (4, .int x4)] → W p l e room_1 s m args below meth c H1 locs1 (cells + 40) (slots + 2000) Q (F0 m 2923 ls1 [])) {H : Heap} {locs : List Loc} {ls : Array Slot} (hf : fc_24 gN a1 a2 a3 a4 a5 S = some o) (hd : Dy s D cs B0 α Lv S H locs) (hl : lv_has ls 8 [(0, .ref b), (1, .ref (α 0 0)), (2, .ref (α 60 0)), (3, .ref (α 81 0)), (4, .int x4)]) : W p l e room_1 s m args below meth c H locs cells slots Q (F0 m 1737 ls []) := by
  unfold fc_24 at hf
  have hx : Ex α Lv (1000, 0) α Lv [] := Ex.start hlt
  refine lv_aload_n hc.x hc.b dL_law__1737 rfl (lv_at hl 1 rfl) ?_
  refine lv_aload_n hc.x hc.b dL_law__1738 rfl (lv_at hl 0 rfl) ?_
  refine lv_iload hc.x hc.b dL_law__1739 (lv_at hl 4 rfl) ?_
  refine lv_iconst (v := 1) hc.x hc.b dL_law__1741 (by decide) ?_
  refine lv_iadd hc.x hc.b dL_law__1742 ?_
  refine r_sld hc hX hbl hbA hd (hi.1) (ea.1) dL_law__1743 ?_
  refine lv_aload_n hc.x hc.b dL_law__1744 rfl (lv_at hl 0 rfl) ?_
  refine lv_iload hc.x hc.b dL_law__1745 (lv_at hl 4 rfl) ?_
  refine lv_iconst (v := 2) hc.x hc.b dL_law__1747 (by decide) ?_
  refine lv_iadd hc.x hc.b dL_law__1748 ?_
  refine r_sld hc hX hbl hbA hd (hi.2.1) (ea.2.1) dL_law__1749 ?_
  refine lv_aload_n hc.x hc.b dL_law__1750 rfl (lv_at hl 0 rfl) ?_
  refine lv_iload hc.x hc.b dL_law__1751 (lv_at hl 4 rfl) ?_
  refine lv_iconst (v := 3) hc.x hc.b dL_law__1753 (by decide) ?_
  refine lv_iadd hc.x hc.b dL_law__1754 ?_
  refine r_sld hc hX hbl hbA hd (hi.2.2.1) (ea.2.2.1) dL_law__1755 ?_
  refine lv_aload_n hc.x hc.b dL_law__1756 rfl (lv_at hl 0 rfl) ?_
  refine lv_iload hc.x hc.b dL_law__1757 (lv_at hl 4 rfl) ?_
  refine lv_iconst (v := 4) hc.x hc.b dL_law__1759 (by decide) ?_
  refine lv_iadd hc.x hc.b dL_law__1760 ?_
  refine r_sld hc hX hbl hbA hd (hi.2.2.2.1) (ea.2.2.2.1) dL_law__1761 ?_
  refine lv_aload_n hc.x hc.b dL_law__1762 rfl (lv_at hl 0 rfl) ?_
  refine lv_iload hc.x hc.b dL_law__1763 (lv_at hl 4 rfl) ?_
  refine lv_iconst (v := 5) hc.x hc.b dL_law__1765 (by decide) ?_
  refine lv_iadd hc.x hc.b dL_law__1766 ?_
  refine r_sld hc hX hbl hbA hd (hi.2.2.2.2) (ea.2.2.2.2) dL_law__1767 ?_
  refine lv_aload_n hc.x hc.b dL_law__1768 rfl (lv_at hl 3 rfl) ?_
  obtain ⟨r_1, S_2, hq_3, hf⟩ := on2_s hf
  refine k_i (k_runSW hc hck hd my_L_turn tw_1055 (c_L_turn l D cs B0 kt α Lv S 0 a1 a2 a3 a4 a5 0 hc.cl hL1 hL3 hst hq_3) rfl rfl hl.1 (Nat.le_of_ble_eq_true rfl) ⟨Nat.le_of_ble_eq_true rfl, Nat.le_of_ble_eq_true rfl, by show _ ≤ 601024; omega, by show _ ≤ 7293034; omega⟩ dL_law__1769) hd (fun H locs hd => ?_)
  refine lv_istore (lv' := [(5, .int r_1), (0, .ref b), (1, .ref (α 0 0)), (2, .ref (α 60 0)), (3, .ref (α 81 0)), (4, .int x4)]) hc.x hc.b dL_law__1772 hl (by decide) rfl (fun ls hl => ?_)
  refine lv_aload_n hc.x hc.b dL_law__1774 rfl (lv_at hl 3 rfl) ?_
  refine lv_aload_n hc.x hc.b dL_law__1775 rfl (lv_at hl 1 rfl) ?_
  refine lv_iload hc.x hc.b dL_law__1776 (lv_at hl 5 rfl) ?_
  refine lv_iconst (v := 1) hc.x hc.b dL_law__1778 (by decide) ?_
  refine lv_iadd hc.x hc.b dL_law__1779 ?_
  refine r_sld hc hX hbl hbA hd (hi.1) (ea.1) dL_law__1780 ?_
  refine lv_aload_n hc.x hc.b dL_law__1781 rfl (lv_at hl 1 rfl) ?_
  refine lv_iload hc.x hc.b dL_law__1782 (lv_at hl 5 rfl) ?_
  refine lv_iconst (v := 2) hc.x hc.b dL_law__1784 (by decide) ?_
  refine lv_iadd hc.x hc.b dL_law__1785 ?_
  refine r_sld hc hX hbl hbA hd (hi.2.1) (ea.2.1) dL_law__1786 ?_
  refine lv_aload_n hc.x hc.b dL_law__1787 rfl (lv_at hl 1 rfl) ?_
  refine lv_iload hc.x hc.b dL_law__1788 (lv_at hl 5 rfl) ?_
  refine lv_iconst (v := 3) hc.x hc.b dL_law__1790 (by decide) ?_
  refine lv_iadd hc.x hc.b dL_law__1791 ?_
  refine r_sld hc hX hbl hbA hd (hi.2.2.1) (ea.2.2.1) dL_law__1792 ?_
  refine lv_aload_n hc.x hc.b dL_law__1793 rfl (lv_at hl 1 rfl) ?_
  refine lv_iload hc.x hc.b dL_law__1794 (lv_at hl 5 rfl) ?_
  refine lv_iconst (v := 4) hc.x hc.b dL_law__1796 (by decide) ?_
  refine lv_iadd hc.x hc.b dL_law__1797 ?_
  refine r_sld hc hX hbl hbA hd (hi.2.2.2.1) (ea.2.2.2.1) dL_law__1798 ?_
  refine lv_aload_n hc.x hc.b dL_law__1799 rfl (lv_at hl 1 rfl) ?_
  refine lv_iload hc.x hc.b dL_law__1800 (lv_at hl 5 rfl) ?_
  refine lv_iconst (v := 5) hc.x hc.b dL_law__1802 (by decide) ?_
  refine lv_iadd hc.x hc.b dL_law__1803 ?_
  refine r_sld hc hX hbl hbA hd (hi.2.2.2.2) (ea.2.2.2.2) dL_law__1804 ?_
  obtain ⟨r_6, S_5, hq_4, hf⟩ := on2_s hf
  refine k_i (k_runV hc hd my_X12_turn tw_1768 hL2 rfl rfl rfl (c_X12_turn l D cs B0 kt α Lv S_2 0 a1 a2 a3 a4 a5 hc.cl hL2  hq_4) rfl rfl hl.1 (Nat.le_of_ble_eq_true rfl) ⟨Nat.le_of_ble_eq_true rfl, Nat.le_of_ble_eq_true rfl, by show _ ≤ 601024; omega, by show _ ≤ 7293034; omega⟩ dL_law__1805) hd (fun H locs hd => ?_)
  refine lv_istore (lv' := [(6, .int r_6), (5, .int r_1), (0, .ref b), (1, .ref (α 0 0)), (2, .ref (α 60 0)), (3, .ref (α 81 0)), (4, .int x4)]) hc.x hc.b dL_law__1808 hl (by decide) rfl (fun ls hl => ?_)
  refine lv_aload_n hc.x hc.b dL_law__1810 rfl (lv_at hl 4 rfl) ?_
  obtain ⟨r_8, hq_7, hf⟩ := on_s hf
  refine k_i (k_runV hc hd my_X12_thrown tw_1431 hL2 rfl rfl rfl (c_X12_thrown l D cs B0 kt α Lv S_5 0 hc.cl hL2  hq_7) rfl rfl hl.1 (Nat.le_of_ble_eq_true rfl) ⟨Nat.le_of_ble_eq_true rfl, Nat.le_of_ble_eq_true rfl, by show _ ≤ 601024; omega, by show _ ≤ 7293034; omega⟩ dL_law__1811) hd (fun H locs hd => ?_)
  refine lv_iload hc.x hc.b dL_law__1814 (lv_at hl 1 rfl) ?_
  refine lv_icmp_eq (tgt := 1821) hc.x hc.b dL_law__1816 (by decide) (fun c_9 => ?_) (fun c_9 => ?_)
  · have hf := br_y c_9 hf
    refine lv_iload hc.x hc.b dL_law__1821 (lv_at hl 1 rfl) ?_
    refine jn_s (P := fun J_11 => ∀  (S_10 : St) (H : Heap) (locs : List Loc) (ls : Array Slot), J_11 S_10 = some o → Dy s D cs B0 α Lv S_10 H locs → lv_has ls 8 [(0, .ref b), (1, .ref (α 0 0)), (2, .ref (α 60 0)), (3, .ref (α 81 0)), (4, .int x4)] → W p l e room_1 s m args below meth c H locs (cells + 1) (slots + 6) Q (F0 m 1838 ls [])) hf ?_ (fun J_11 hJ_11 hf => ?_)
    · intro S_10 H locs ls hf hd hl
      refine lv_goto (tgt := 2923) hc.x hc.b dL_law__1838 (by decide) ?_
      cases hf
      refine W.widen (k := cells + 40) (n := slots + 2000) (by omega) (by omega) ?_
      exact kk _ _ _ _ _ (hx.mono (by first | exact fun _ h => absurd h List.not_mem_nil | exact fun _ h => List.mem_append_left _ h | exact fun _ h => List.mem_append_right _ (List.mem_append_left _ h) | exact fun _ h => List.mem_append_right _ (List.mem_append_right _ h))) hc hd (lv_sub hl [0, 1, 2, 3, 4] rfl)
    refine lv_if_ne (tgt := 1838) hc.x hc.b dL_law__1823 (by decide) (fun c_12 => ?_) (fun c_12 => ?_)
    · have hf := br_n c_12 hf
      exact hJ_11 S_5 _ _ _ hf hd (lv_sub hl [2, 3, 4, 5, 6] rfl)
    · have hf := br_y c_12 hf
      refine lv_aload_n hc.x hc.b dL_law__1826 rfl (lv_at hl 5 rfl) ?_
      refine lv_iconst (v := 0) hc.x hc.b dL_law__1827 (by decide) ?_
      obtain ⟨hi_13, hf⟩ := ck_s hf
      refine r_lald hc hd hL3 rfl hi_13 dL_law__1828 ?_
      refine lv_iload hc.x hc.b dL_law__1829 (lv_at hl 0 rfl) ?_
      refine lv_i2l (v := Int32.toInt64 r_6) hc.x hc.b dL_law__1831 rfl ?_
      refine W.lcmp hc.x hc.b dL_law__1832 ?_
      refine lv_if_eq (tgt := 1838) hc.x hc.b dL_law__1833 (by decide) (fun c_14 => ?_) (fun c_14 => ?_)
      · have hf := br_y c_14 hf
        exact hJ_11 S_5 _ _ _ hf hd (lv_sub hl [2, 3, 4, 5, 6] rfl)
      · have hf := br_n c_14 hf
        refine lv_iconst (v := 0) hc.x hc.b dL_law__1836 (by decide) ?_
        cases hf
  · have hf := br_n c_9 hf
    refine lv_iconst (v := 0) hc.x hc.b dL_law__1819 (by decide) ?_
    cases hf
def fc_25 (gN : Nat) (a1 a2 a3 a4 a5 : Int32) (S : St) : Option St := bv (fun (v_1 : Int32) (S_2 : St) => on2 (f_L_gains 0 a1 a2 a3 a4 v_1 0 S_2) (fun r_4 S_5 => bv (fun (v_7 : Int32) (S_8 : St) => on2 (f_X12_gains 0 a1 a2 a3 a4 v_7 S_8) (fun r_12 S_11 => on (f_X12_thrown 0 S_11) (fun r_14 => br (r_14 = r_4) (bv (fun  (S_16 : St) => some S_16) (fun J_17 => br (r_4 = 0) (ck (inb 0 1 = true) (br ((lg_cmp (gl S_11 81 0 (nn 0)) r_12) = 0) (J_17 S_11) (none))) (J_17 S_11))) (none)))) (fun J_9 => br (a5 = 0) (J_9 0 S_5) (J_9 1 S_5)))) (fun J_3 => br (a5 = 0) (J_3 0 S) (J_3 1 S))
set_option maxRecDepth 100000 in
set_option maxHeartbeats 8000000 in
theorem lc_25 (hc : Cx p s m args meth c cL_law_ 8 "PumpCrossingLaw" D cs B0 kt Lv) (hck : CK cs s) (hst : l.stackTraces = false) {b L : Nat} {xs : Nat → Int32} (hX : va_X b L xs s s.heap) (hbl : b < s.heap.size) (hbA : ¬ B0 ≤ b) {x4 a1 a2 a3 a4 a5 : Int32} (hi : inb (x4 + 1) L = true ∧ inb (x4 + 2) L = true ∧ inb (x4 + 3) L = true ∧ inb (x4 + 4) L = true ∧ inb (x4 + 5) L = true) (ea : xs (nn (x4 + 1)) = a1 ∧ xs (nn (x4 + 2)) = a2 ∧ xs (nn (x4 + 3)) = a3 ∧ xs (nn (x4 + 4)) = a4 ∧ xs (nn (x4 + 5)) = a5) {o S : St} {gN : Nat} (hlt : ∀ k g, Lv k g → k < 1000) (hfr : ∀ x ∈ FL gN, ¬ Lv x.1 x.2) (hL1 : Lv 0 0) (hL2 : Lv 60 0) (hL3 : Lv 81 0) (hcc : cells + 60 ≤ 601024) (hss : slots + 3000 ≤ 7293034) (kk : ∀ (α1 : Nat → Nat → Nat) (Lv1 : Nat → Nat → Prop) (H1 : Heap) (locs1 : List Loc) (ls1 : Array Slot), Ex α Lv (1000, 0) α1 Lv1 (FL gN) → Cx p s m args meth c cL_law_ 8 "PumpCrossingLaw" D cs B0 kt Lv1 → Dy s D cs B0 α1 Lv1 o H1 locs1 → lv_has ls1 8 [(0, .ref b), (1, .ref (α1 0 0)), (2, .ref (α1 60 0)), (3, .ref (α1 81 0)), (4, .int x4)] → W p l e room_1 s m args below meth c H1 locs1 (cells + 40) (slots + 2000) Q (F0 m 2923 ls1 [])) {H : Heap} {locs : List Loc} {ls : Array Slot} (hf : fc_25 gN a1 a2 a3 a4 a5 S = some o) (hd : Dy s D cs B0 α Lv S H locs) (hl : lv_has ls 8 [(0, .ref b), (1, .ref (α 0 0)), (2, .ref (α 60 0)), (3, .ref (α 81 0)), (4, .int x4)]) : W p l e room_1 s m args below meth c H locs cells slots Q (F0 m 1841 ls []) := by
  unfold fc_25 at hf
  have hx : Ex α Lv (1000, 0) α Lv [] := Ex.start hlt
  refine lv_aload_n hc.x hc.b dL_law__1841 rfl (lv_at hl 1 rfl) ?_
  refine lv_aload_n hc.x hc.b dL_law__1842 rfl (lv_at hl 0 rfl) ?_
  refine lv_iload hc.x hc.b dL_law__1843 (lv_at hl 4 rfl) ?_
  refine lv_iconst (v := 1) hc.x hc.b dL_law__1845 (by decide) ?_
  refine lv_iadd hc.x hc.b dL_law__1846 ?_
  refine r_sld hc hX hbl hbA hd (hi.1) (ea.1) dL_law__1847 ?_
  refine lv_aload_n hc.x hc.b dL_law__1848 rfl (lv_at hl 0 rfl) ?_
  refine lv_iload hc.x hc.b dL_law__1849 (lv_at hl 4 rfl) ?_
  refine lv_iconst (v := 2) hc.x hc.b dL_law__1851 (by decide) ?_
  refine lv_iadd hc.x hc.b dL_law__1852 ?_
  refine r_sld hc hX hbl hbA hd (hi.2.1) (ea.2.1) dL_law__1853 ?_
  refine lv_aload_n hc.x hc.b dL_law__1854 rfl (lv_at hl 0 rfl) ?_
  refine lv_iload hc.x hc.b dL_law__1855 (lv_at hl 4 rfl) ?_
  refine lv_iconst (v := 3) hc.x hc.b dL_law__1857 (by decide) ?_
  refine lv_iadd hc.x hc.b dL_law__1858 ?_
  refine r_sld hc hX hbl hbA hd (hi.2.2.1) (ea.2.2.1) dL_law__1859 ?_
  refine lv_aload_n hc.x hc.b dL_law__1860 rfl (lv_at hl 0 rfl) ?_
  refine lv_iload hc.x hc.b dL_law__1861 (lv_at hl 4 rfl) ?_
  refine lv_iconst (v := 4) hc.x hc.b dL_law__1863 (by decide) ?_
  refine lv_iadd hc.x hc.b dL_law__1864 ?_
  refine r_sld hc hX hbl hbA hd (hi.2.2.2.1) (ea.2.2.2.1) dL_law__1865 ?_
  refine lv_aload_n hc.x hc.b dL_law__1866 rfl (lv_at hl 0 rfl) ?_
  refine lv_iload hc.x hc.b dL_law__1867 (lv_at hl 4 rfl) ?_
  refine lv_iconst (v := 5) hc.x hc.b dL_law__1869 (by decide) ?_
  refine lv_iadd hc.x hc.b dL_law__1870 ?_
  refine r_sld hc hX hbl hbA hd (hi.2.2.2.2) (ea.2.2.2.2) dL_law__1871 ?_
  refine jn_s (P := fun J_3 => ∀ (v_1 : Int32) (S_2 : St) (H : Heap) (locs : List Loc) (ls : Array Slot), J_3 v_1 S_2 = some o → Dy s D cs B0 α Lv S_2 H locs → lv_has ls 8 [(0, .ref b), (1, .ref (α 0 0)), (2, .ref (α 60 0)), (3, .ref (α 81 0)), (4, .int x4)] → W p l e room_1 s m args below meth c H locs (cells) (slots) Q (F0 m 1880 ls [.int v_1, .int a4, .int a3, .int a2, .int a1, .ref (α 0 0)])) hf ?_ (fun J_3 hJ_3 hf => ?_)
  · intro v_1 S_2 H locs ls hf hd hl
    refine lv_aload_n hc.x hc.b dL_law__1880 rfl (lv_at hl 3 rfl) ?_
    obtain ⟨r_4, S_5, hq_6, hf⟩ := on2_s hf
    refine k_i (k_runSW hc hck hd my_L_gains tw_1082 (c_L_gains l D cs B0 kt α Lv S_2 0 a1 a2 a3 a4 v_1 0 hc.cl hL1 hL3 hst hq_6) rfl rfl hl.1 (Nat.le_of_ble_eq_true rfl) ⟨Nat.le_of_ble_eq_true rfl, Nat.le_of_ble_eq_true rfl, by show _ ≤ 601024; omega, by show _ ≤ 7293034; omega⟩ dL_law__1881) hd (fun H locs hd => ?_)
    refine lv_istore (lv' := [(5, .int r_4), (0, .ref b), (1, .ref (α 0 0)), (2, .ref (α 60 0)), (3, .ref (α 81 0)), (4, .int x4)]) hc.x hc.b dL_law__1884 hl (by decide) rfl (fun ls hl => ?_)
    refine lv_aload_n hc.x hc.b dL_law__1886 rfl (lv_at hl 3 rfl) ?_
    refine lv_aload_n hc.x hc.b dL_law__1887 rfl (lv_at hl 1 rfl) ?_
    refine lv_iload hc.x hc.b dL_law__1888 (lv_at hl 5 rfl) ?_
    refine lv_iconst (v := 1) hc.x hc.b dL_law__1890 (by decide) ?_
    refine lv_iadd hc.x hc.b dL_law__1891 ?_
    refine r_sld hc hX hbl hbA hd (hi.1) (ea.1) dL_law__1892 ?_
    refine lv_aload_n hc.x hc.b dL_law__1893 rfl (lv_at hl 1 rfl) ?_
    refine lv_iload hc.x hc.b dL_law__1894 (lv_at hl 5 rfl) ?_
    refine lv_iconst (v := 2) hc.x hc.b dL_law__1896 (by decide) ?_
    refine lv_iadd hc.x hc.b dL_law__1897 ?_
    refine r_sld hc hX hbl hbA hd (hi.2.1) (ea.2.1) dL_law__1898 ?_
    refine lv_aload_n hc.x hc.b dL_law__1899 rfl (lv_at hl 1 rfl) ?_
    refine lv_iload hc.x hc.b dL_law__1900 (lv_at hl 5 rfl) ?_
    refine lv_iconst (v := 3) hc.x hc.b dL_law__1902 (by decide) ?_
    refine lv_iadd hc.x hc.b dL_law__1903 ?_
    refine r_sld hc hX hbl hbA hd (hi.2.2.1) (ea.2.2.1) dL_law__1904 ?_
    refine lv_aload_n hc.x hc.b dL_law__1905 rfl (lv_at hl 1 rfl) ?_
    refine lv_iload hc.x hc.b dL_law__1906 (lv_at hl 5 rfl) ?_
    refine lv_iconst (v := 4) hc.x hc.b dL_law__1908 (by decide) ?_
    refine lv_iadd hc.x hc.b dL_law__1909 ?_
    refine r_sld hc hX hbl hbA hd (hi.2.2.2.1) (ea.2.2.2.1) dL_law__1910 ?_
    refine lv_aload_n hc.x hc.b dL_law__1911 rfl (lv_at hl 1 rfl) ?_
    refine lv_iload hc.x hc.b dL_law__1912 (lv_at hl 5 rfl) ?_
    refine lv_iconst (v := 5) hc.x hc.b dL_law__1914 (by decide) ?_
    refine lv_iadd hc.x hc.b dL_law__1915 ?_
    refine r_sld hc hX hbl hbA hd (hi.2.2.2.2) (ea.2.2.2.2) dL_law__1916 ?_
    refine jn_s (P := fun J_9 => ∀ (v_7 : Int32) (S_8 : St) (H : Heap) (locs : List Loc) (ls : Array Slot), J_9 v_7 S_8 = some o → Dy s D cs B0 α Lv S_8 H locs → lv_has ls 8 [(0, .ref b), (1, .ref (α 0 0)), (2, .ref (α 60 0)), (3, .ref (α 81 0)), (4, .int x4), (5, .int r_4)] → W p l e room_1 s m args below meth c H locs (cells + 1) (slots + 6) Q (F0 m 1925 ls [.int v_7, .int a4, .int a3, .int a2, .int a1, .ref (α 60 0)])) hf ?_ (fun J_9 hJ_9 hf => ?_)
    · intro v_7 S_8 H locs ls hf hd hl
      obtain ⟨r_12, S_11, hq_10, hf⟩ := on2_s hf
      refine k_l (k_runV hc hd my_X12_gains tw_1781 hL2 rfl rfl rfl (c_X12_gains l D cs B0 kt α Lv S_8 0 a1 a2 a3 a4 v_7 hc.cl hL2  hq_10) rfl rfl hl.1 (Nat.le_of_ble_eq_true rfl) ⟨Nat.le_of_ble_eq_true rfl, Nat.le_of_ble_eq_true rfl, by show _ ≤ 601024; omega, by show _ ≤ 7293034; omega⟩ dL_law__1925) hd (fun H locs hd => ?_)
      refine lv_lstore (lv' := [(6, .long r_12), (0, .ref b), (1, .ref (α 0 0)), (2, .ref (α 60 0)), (3, .ref (α 81 0)), (4, .int x4), (5, .int r_4)]) hc.x hc.b dL_law__1928 hl (by decide) rfl (fun ls hl => ?_)
      refine lv_aload_n hc.x hc.b dL_law__1930 rfl (lv_at hl 3 rfl) ?_
      obtain ⟨r_14, hq_13, hf⟩ := on_s hf
      refine k_i (k_runV hc hd my_X12_thrown tw_1431 hL2 rfl rfl rfl (c_X12_thrown l D cs B0 kt α Lv S_11 0 hc.cl hL2  hq_13) rfl rfl hl.1 (Nat.le_of_ble_eq_true rfl) ⟨Nat.le_of_ble_eq_true rfl, Nat.le_of_ble_eq_true rfl, by show _ ≤ 601024; omega, by show _ ≤ 7293034; omega⟩ dL_law__1931) hd (fun H locs hd => ?_)
      refine lv_iload hc.x hc.b dL_law__1934 (lv_at hl 6 rfl) ?_
      refine lv_icmp_eq (tgt := 1941) hc.x hc.b dL_law__1936 (by decide) (fun c_15 => ?_) (fun c_15 => ?_)
      · have hf := br_y c_15 hf
        refine lv_iload hc.x hc.b dL_law__1941 (lv_at hl 6 rfl) ?_
        refine jn_s (P := fun J_17 => ∀  (S_16 : St) (H : Heap) (locs : List Loc) (ls : Array Slot), J_17 S_16 = some o → Dy s D cs B0 α Lv S_16 H locs → lv_has ls 8 [(0, .ref b), (1, .ref (α 0 0)), (2, .ref (α 60 0)), (3, .ref (α 81 0)), (4, .int x4)] → W p l e room_1 s m args below meth c H locs (cells + 1) (slots + 6) Q (F0 m 1957 ls [])) hf ?_ (fun J_17 hJ_17 hf => ?_)
        · intro S_16 H locs ls hf hd hl
          refine lv_goto (tgt := 2923) hc.x hc.b dL_law__1957 (by decide) ?_
          cases hf
          refine W.widen (k := cells + 40) (n := slots + 2000) (by omega) (by omega) ?_
          exact kk _ _ _ _ _ (hx.mono (by first | exact fun _ h => absurd h List.not_mem_nil | exact fun _ h => List.mem_append_left _ h | exact fun _ h => List.mem_append_right _ (List.mem_append_left _ h) | exact fun _ h => List.mem_append_right _ (List.mem_append_right _ h))) hc hd (lv_sub hl [0, 1, 2, 3, 4] rfl)
        refine lv_if_ne (tgt := 1957) hc.x hc.b dL_law__1943 (by decide) (fun c_18 => ?_) (fun c_18 => ?_)
        · have hf := br_n c_18 hf
          exact hJ_17 S_11 _ _ _ hf hd (lv_sub hl [1, 2, 3, 4, 5] rfl)
        · have hf := br_y c_18 hf
          refine lv_aload_n hc.x hc.b dL_law__1946 rfl (lv_at hl 4 rfl) ?_
          refine lv_iconst (v := 0) hc.x hc.b dL_law__1947 (by decide) ?_
          obtain ⟨hi_19, hf⟩ := ck_s hf
          refine r_lald hc hd hL3 rfl hi_19 dL_law__1948 ?_
          refine lv_lload hc.x hc.b dL_law__1949 (lv_at hl 0 rfl) ?_
          refine W.lcmp hc.x hc.b dL_law__1951 ?_
          refine lv_if_eq (tgt := 1957) hc.x hc.b dL_law__1952 (by decide) (fun c_20 => ?_) (fun c_20 => ?_)
          · have hf := br_y c_20 hf
            exact hJ_17 S_11 _ _ _ hf hd (lv_sub hl [1, 2, 3, 4, 5] rfl)
          · have hf := br_n c_20 hf
            refine lv_iconst (v := 0) hc.x hc.b dL_law__1955 (by decide) ?_
            cases hf
      · have hf := br_n c_15 hf
        refine lv_iconst (v := 0) hc.x hc.b dL_law__1939 (by decide) ?_
        cases hf
    refine lv_if_eq (tgt := 1924) hc.x hc.b dL_law__1917 (by decide) (fun c_21 => ?_) (fun c_21 => ?_)
    · have hf := br_y c_21 hf
      refine lv_iconst (v := 0) hc.x hc.b dL_law__1924 (by decide) ?_
      exact hJ_9 0 S_5 _ _ _ hf hd (lv_sub hl [1, 2, 3, 4, 5, 0] rfl)
    · have hf := br_n c_21 hf
      refine lv_iconst (v := 1) hc.x hc.b dL_law__1920 (by decide) ?_
      refine lv_goto (tgt := 1925) hc.x hc.b dL_law__1921 (by decide) ?_
      exact hJ_9 1 S_5 _ _ _ hf hd (lv_sub hl [1, 2, 3, 4, 5, 0] rfl)
  refine lv_if_eq (tgt := 1879) hc.x hc.b dL_law__1872 (by decide) (fun c_22 => ?_) (fun c_22 => ?_)
  · have hf := br_y c_22 hf
    refine lv_iconst (v := 0) hc.x hc.b dL_law__1879 (by decide) ?_
    exact hJ_3 0 S _ _ _ hf hd (lv_sub hl [0, 1, 2, 3, 4] rfl)
  · have hf := br_n c_22 hf
    refine lv_iconst (v := 1) hc.x hc.b dL_law__1875 (by decide) ?_
    refine lv_goto (tgt := 1880) hc.x hc.b dL_law__1876 (by decide) ?_
    exact hJ_3 1 S _ _ _ hf hd (lv_sub hl [0, 1, 2, 3, 4] rfl)
def fc_26 (gN : Nat) (a1 a2 a3 a4 a5 : Int32) (S : St) : Option St := on2 (f_L_learn 0 a1 a2 a3 a4 0 S) (fun r_1 S_2 => on2 (f_X12_learn 0 a1 a2 a3 a4 S_2) (fun r_6 S_5 => on (f_X12_thrown 0 S_5) (fun r_8 => br (r_8 = r_1) (bv (fun  (S_10 : St) => some S_10) (fun J_11 => br (r_1 = 0) (ck (inb 0 1 = true) (br ((lg_cmp (gl S_5 81 0 (nn 0)) (Int32.toInt64 r_6)) = 0) (J_11 S_5) (none))) (J_11 S_5))) (none))))
set_option maxRecDepth 100000 in
set_option maxHeartbeats 8000000 in
theorem lc_26 (hc : Cx p s m args meth c cL_law_ 8 "PumpCrossingLaw" D cs B0 kt Lv) (hck : CK cs s) (hst : l.stackTraces = false) {b L : Nat} {xs : Nat → Int32} (hX : va_X b L xs s s.heap) (hbl : b < s.heap.size) (hbA : ¬ B0 ≤ b) {x4 a1 a2 a3 a4 a5 : Int32} (hi : inb (x4 + 1) L = true ∧ inb (x4 + 2) L = true ∧ inb (x4 + 3) L = true ∧ inb (x4 + 4) L = true ∧ inb (x4 + 5) L = true) (ea : xs (nn (x4 + 1)) = a1 ∧ xs (nn (x4 + 2)) = a2 ∧ xs (nn (x4 + 3)) = a3 ∧ xs (nn (x4 + 4)) = a4 ∧ xs (nn (x4 + 5)) = a5) {o S : St} {gN : Nat} (hlt : ∀ k g, Lv k g → k < 1000) (hfr : ∀ x ∈ FL gN, ¬ Lv x.1 x.2) (hL1 : Lv 0 0) (hL2 : Lv 60 0) (hL3 : Lv 81 0) (hcc : cells + 60 ≤ 601024) (hss : slots + 3000 ≤ 7293034) (kk : ∀ (α1 : Nat → Nat → Nat) (Lv1 : Nat → Nat → Prop) (H1 : Heap) (locs1 : List Loc) (ls1 : Array Slot), Ex α Lv (1000, 0) α1 Lv1 (FL gN) → Cx p s m args meth c cL_law_ 8 "PumpCrossingLaw" D cs B0 kt Lv1 → Dy s D cs B0 α1 Lv1 o H1 locs1 → lv_has ls1 8 [(0, .ref b), (1, .ref (α1 0 0)), (2, .ref (α1 60 0)), (3, .ref (α1 81 0)), (4, .int x4)] → W p l e room_1 s m args below meth c H1 locs1 (cells + 40) (slots + 2000) Q (F0 m 2923 ls1 [])) {H : Heap} {locs : List Loc} {ls : Array Slot} (hf : fc_26 gN a1 a2 a3 a4 a5 S = some o) (hd : Dy s D cs B0 α Lv S H locs) (hl : lv_has ls 8 [(0, .ref b), (1, .ref (α 0 0)), (2, .ref (α 60 0)), (3, .ref (α 81 0)), (4, .int x4)]) : W p l e room_1 s m args below meth c H locs cells slots Q (F0 m 1960 ls []) := by
  unfold fc_26 at hf
  have hx : Ex α Lv (1000, 0) α Lv [] := Ex.start hlt
  refine lv_aload_n hc.x hc.b dL_law__1960 rfl (lv_at hl 1 rfl) ?_
  refine lv_aload_n hc.x hc.b dL_law__1961 rfl (lv_at hl 0 rfl) ?_
  refine lv_iload hc.x hc.b dL_law__1962 (lv_at hl 4 rfl) ?_
  refine lv_iconst (v := 1) hc.x hc.b dL_law__1964 (by decide) ?_
  refine lv_iadd hc.x hc.b dL_law__1965 ?_
  refine r_sld hc hX hbl hbA hd (hi.1) (ea.1) dL_law__1966 ?_
  refine lv_aload_n hc.x hc.b dL_law__1967 rfl (lv_at hl 0 rfl) ?_
  refine lv_iload hc.x hc.b dL_law__1968 (lv_at hl 4 rfl) ?_
  refine lv_iconst (v := 2) hc.x hc.b dL_law__1970 (by decide) ?_
  refine lv_iadd hc.x hc.b dL_law__1971 ?_
  refine r_sld hc hX hbl hbA hd (hi.2.1) (ea.2.1) dL_law__1972 ?_
  refine lv_aload_n hc.x hc.b dL_law__1973 rfl (lv_at hl 0 rfl) ?_
  refine lv_iload hc.x hc.b dL_law__1974 (lv_at hl 4 rfl) ?_
  refine lv_iconst (v := 3) hc.x hc.b dL_law__1976 (by decide) ?_
  refine lv_iadd hc.x hc.b dL_law__1977 ?_
  refine r_sld hc hX hbl hbA hd (hi.2.2.1) (ea.2.2.1) dL_law__1978 ?_
  refine lv_aload_n hc.x hc.b dL_law__1979 rfl (lv_at hl 0 rfl) ?_
  refine lv_iload hc.x hc.b dL_law__1980 (lv_at hl 4 rfl) ?_
  refine lv_iconst (v := 4) hc.x hc.b dL_law__1982 (by decide) ?_
  refine lv_iadd hc.x hc.b dL_law__1983 ?_
  refine r_sld hc hX hbl hbA hd (hi.2.2.2.1) (ea.2.2.2.1) dL_law__1984 ?_
  refine lv_aload_n hc.x hc.b dL_law__1985 rfl (lv_at hl 3 rfl) ?_
  obtain ⟨r_1, S_2, hq_3, hf⟩ := on2_s hf
  refine k_i (k_runSW hc hck hd my_L_learn tw_1089 (c_L_learn l D cs B0 kt α Lv S 0 a1 a2 a3 a4 0 hc.cl hL1 hL3 hst hq_3) rfl rfl hl.1 (Nat.le_of_ble_eq_true rfl) ⟨Nat.le_of_ble_eq_true rfl, Nat.le_of_ble_eq_true rfl, by show _ ≤ 601024; omega, by show _ ≤ 7293034; omega⟩ dL_law__1986) hd (fun H locs hd => ?_)
  refine lv_istore (lv' := [(5, .int r_1), (0, .ref b), (1, .ref (α 0 0)), (2, .ref (α 60 0)), (3, .ref (α 81 0)), (4, .int x4)]) hc.x hc.b dL_law__1989 hl (by decide) rfl (fun ls hl => ?_)
  refine lv_aload_n hc.x hc.b dL_law__1991 rfl (lv_at hl 3 rfl) ?_
  refine lv_aload_n hc.x hc.b dL_law__1992 rfl (lv_at hl 1 rfl) ?_
  refine lv_iload hc.x hc.b dL_law__1993 (lv_at hl 5 rfl) ?_
  refine lv_iconst (v := 1) hc.x hc.b dL_law__1995 (by decide) ?_
  refine lv_iadd hc.x hc.b dL_law__1996 ?_
  refine r_sld hc hX hbl hbA hd (hi.1) (ea.1) dL_law__1997 ?_
  refine lv_aload_n hc.x hc.b dL_law__1998 rfl (lv_at hl 1 rfl) ?_
  refine lv_iload hc.x hc.b dL_law__1999 (lv_at hl 5 rfl) ?_
  refine lv_iconst (v := 2) hc.x hc.b dL_law__2001 (by decide) ?_
  refine lv_iadd hc.x hc.b dL_law__2002 ?_
  refine r_sld hc hX hbl hbA hd (hi.2.1) (ea.2.1) dL_law__2003 ?_
  refine lv_aload_n hc.x hc.b dL_law__2004 rfl (lv_at hl 1 rfl) ?_
  refine lv_iload hc.x hc.b dL_law__2005 (lv_at hl 5 rfl) ?_
  refine lv_iconst (v := 3) hc.x hc.b dL_law__2007 (by decide) ?_
  refine lv_iadd hc.x hc.b dL_law__2008 ?_
  refine r_sld hc hX hbl hbA hd (hi.2.2.1) (ea.2.2.1) dL_law__2009 ?_
  refine lv_aload_n hc.x hc.b dL_law__2010 rfl (lv_at hl 1 rfl) ?_
  refine lv_iload hc.x hc.b dL_law__2011 (lv_at hl 5 rfl) ?_
  refine lv_iconst (v := 4) hc.x hc.b dL_law__2013 (by decide) ?_
  refine lv_iadd hc.x hc.b dL_law__2014 ?_
  refine r_sld hc hX hbl hbA hd (hi.2.2.2.1) (ea.2.2.2.1) dL_law__2015 ?_
  obtain ⟨r_6, S_5, hq_4, hf⟩ := on2_s hf
  refine k_i (k_runV hc hd my_X12_learn tw_1785 hL2 rfl rfl rfl (c_X12_learn l D cs B0 kt α Lv S_2 0 a1 a2 a3 a4 hc.cl hL2  hq_4) rfl rfl hl.1 (Nat.le_of_ble_eq_true rfl) ⟨Nat.le_of_ble_eq_true rfl, Nat.le_of_ble_eq_true rfl, by show _ ≤ 601024; omega, by show _ ≤ 7293034; omega⟩ dL_law__2016) hd (fun H locs hd => ?_)
  refine lv_istore (lv' := [(6, .int r_6), (5, .int r_1), (0, .ref b), (1, .ref (α 0 0)), (2, .ref (α 60 0)), (3, .ref (α 81 0)), (4, .int x4)]) hc.x hc.b dL_law__2019 hl (by decide) rfl (fun ls hl => ?_)
  refine lv_aload_n hc.x hc.b dL_law__2021 rfl (lv_at hl 4 rfl) ?_
  obtain ⟨r_8, hq_7, hf⟩ := on_s hf
  refine k_i (k_runV hc hd my_X12_thrown tw_1431 hL2 rfl rfl rfl (c_X12_thrown l D cs B0 kt α Lv S_5 0 hc.cl hL2  hq_7) rfl rfl hl.1 (Nat.le_of_ble_eq_true rfl) ⟨Nat.le_of_ble_eq_true rfl, Nat.le_of_ble_eq_true rfl, by show _ ≤ 601024; omega, by show _ ≤ 7293034; omega⟩ dL_law__2022) hd (fun H locs hd => ?_)
  refine lv_iload hc.x hc.b dL_law__2025 (lv_at hl 1 rfl) ?_
  refine lv_icmp_eq (tgt := 2032) hc.x hc.b dL_law__2027 (by decide) (fun c_9 => ?_) (fun c_9 => ?_)
  · have hf := br_y c_9 hf
    refine lv_iload hc.x hc.b dL_law__2032 (lv_at hl 1 rfl) ?_
    refine jn_s (P := fun J_11 => ∀  (S_10 : St) (H : Heap) (locs : List Loc) (ls : Array Slot), J_11 S_10 = some o → Dy s D cs B0 α Lv S_10 H locs → lv_has ls 8 [(0, .ref b), (1, .ref (α 0 0)), (2, .ref (α 60 0)), (3, .ref (α 81 0)), (4, .int x4)] → W p l e room_1 s m args below meth c H locs (cells + 1) (slots + 6) Q (F0 m 2049 ls [])) hf ?_ (fun J_11 hJ_11 hf => ?_)
    · intro S_10 H locs ls hf hd hl
      refine lv_goto (tgt := 2923) hc.x hc.b dL_law__2049 (by decide) ?_
      cases hf
      refine W.widen (k := cells + 40) (n := slots + 2000) (by omega) (by omega) ?_
      exact kk _ _ _ _ _ (hx.mono (by first | exact fun _ h => absurd h List.not_mem_nil | exact fun _ h => List.mem_append_left _ h | exact fun _ h => List.mem_append_right _ (List.mem_append_left _ h) | exact fun _ h => List.mem_append_right _ (List.mem_append_right _ h))) hc hd (lv_sub hl [0, 1, 2, 3, 4] rfl)
    refine lv_if_ne (tgt := 2049) hc.x hc.b dL_law__2034 (by decide) (fun c_12 => ?_) (fun c_12 => ?_)
    · have hf := br_n c_12 hf
      exact hJ_11 S_5 _ _ _ hf hd (lv_sub hl [2, 3, 4, 5, 6] rfl)
    · have hf := br_y c_12 hf
      refine lv_aload_n hc.x hc.b dL_law__2037 rfl (lv_at hl 5 rfl) ?_
      refine lv_iconst (v := 0) hc.x hc.b dL_law__2038 (by decide) ?_
      obtain ⟨hi_13, hf⟩ := ck_s hf
      refine r_lald hc hd hL3 rfl hi_13 dL_law__2039 ?_
      refine lv_iload hc.x hc.b dL_law__2040 (lv_at hl 0 rfl) ?_
      refine lv_i2l (v := Int32.toInt64 r_6) hc.x hc.b dL_law__2042 rfl ?_
      refine W.lcmp hc.x hc.b dL_law__2043 ?_
      refine lv_if_eq (tgt := 2049) hc.x hc.b dL_law__2044 (by decide) (fun c_14 => ?_) (fun c_14 => ?_)
      · have hf := br_y c_14 hf
        exact hJ_11 S_5 _ _ _ hf hd (lv_sub hl [2, 3, 4, 5, 6] rfl)
      · have hf := br_n c_14 hf
        refine lv_iconst (v := 0) hc.x hc.b dL_law__2047 (by decide) ?_
        cases hf
  · have hf := br_n c_9 hf
    refine lv_iconst (v := 0) hc.x hc.b dL_law__2030 (by decide) ?_
    cases hf
def fc_27 (gN : Nat) (a1 a2 a3 a4 a5 : Int32) (S : St) : Option St := on2 (f_L_above 0 a1 a2 a3 a4 0 S) (fun r_1 S_2 => on2 (f_X12_above 0 a1 a2 a3 a4 S_2) (fun r_6 S_5 => on (f_X12_thrown 0 S_5) (fun r_8 => br (r_8 = r_1) (bv (fun  (S_10 : St) => some S_10) (fun J_11 => br (r_1 = 0) (ck (inb 0 1 = true) (br ((lg_cmp (gl S_5 81 0 (nn 0)) (Int32.toInt64 r_6)) = 0) (J_11 S_5) (none))) (J_11 S_5))) (none))))
set_option maxRecDepth 100000 in
set_option maxHeartbeats 8000000 in
theorem lc_27 (hc : Cx p s m args meth c cL_law_ 8 "PumpCrossingLaw" D cs B0 kt Lv) (hck : CK cs s) (hst : l.stackTraces = false) {b L : Nat} {xs : Nat → Int32} (hX : va_X b L xs s s.heap) (hbl : b < s.heap.size) (hbA : ¬ B0 ≤ b) {x4 a1 a2 a3 a4 a5 : Int32} (hi : inb (x4 + 1) L = true ∧ inb (x4 + 2) L = true ∧ inb (x4 + 3) L = true ∧ inb (x4 + 4) L = true ∧ inb (x4 + 5) L = true) (ea : xs (nn (x4 + 1)) = a1 ∧ xs (nn (x4 + 2)) = a2 ∧ xs (nn (x4 + 3)) = a3 ∧ xs (nn (x4 + 4)) = a4 ∧ xs (nn (x4 + 5)) = a5) {o S : St} {gN : Nat} (hlt : ∀ k g, Lv k g → k < 1000) (hfr : ∀ x ∈ FL gN, ¬ Lv x.1 x.2) (hL1 : Lv 0 0) (hL2 : Lv 60 0) (hL3 : Lv 81 0) (hcc : cells + 60 ≤ 601024) (hss : slots + 3000 ≤ 7293034) (kk : ∀ (α1 : Nat → Nat → Nat) (Lv1 : Nat → Nat → Prop) (H1 : Heap) (locs1 : List Loc) (ls1 : Array Slot), Ex α Lv (1000, 0) α1 Lv1 (FL gN) → Cx p s m args meth c cL_law_ 8 "PumpCrossingLaw" D cs B0 kt Lv1 → Dy s D cs B0 α1 Lv1 o H1 locs1 → lv_has ls1 8 [(0, .ref b), (1, .ref (α1 0 0)), (2, .ref (α1 60 0)), (3, .ref (α1 81 0)), (4, .int x4)] → W p l e room_1 s m args below meth c H1 locs1 (cells + 40) (slots + 2000) Q (F0 m 2923 ls1 [])) {H : Heap} {locs : List Loc} {ls : Array Slot} (hf : fc_27 gN a1 a2 a3 a4 a5 S = some o) (hd : Dy s D cs B0 α Lv S H locs) (hl : lv_has ls 8 [(0, .ref b), (1, .ref (α 0 0)), (2, .ref (α 60 0)), (3, .ref (α 81 0)), (4, .int x4)]) : W p l e room_1 s m args below meth c H locs cells slots Q (F0 m 2052 ls []) := by
  unfold fc_27 at hf
  have hx : Ex α Lv (1000, 0) α Lv [] := Ex.start hlt
  refine lv_aload_n hc.x hc.b dL_law__2052 rfl (lv_at hl 1 rfl) ?_
  refine lv_aload_n hc.x hc.b dL_law__2053 rfl (lv_at hl 0 rfl) ?_
  refine lv_iload hc.x hc.b dL_law__2054 (lv_at hl 4 rfl) ?_
  refine lv_iconst (v := 1) hc.x hc.b dL_law__2056 (by decide) ?_
  refine lv_iadd hc.x hc.b dL_law__2057 ?_
  refine r_sld hc hX hbl hbA hd (hi.1) (ea.1) dL_law__2058 ?_
  refine lv_aload_n hc.x hc.b dL_law__2059 rfl (lv_at hl 0 rfl) ?_
  refine lv_iload hc.x hc.b dL_law__2060 (lv_at hl 4 rfl) ?_
  refine lv_iconst (v := 2) hc.x hc.b dL_law__2062 (by decide) ?_
  refine lv_iadd hc.x hc.b dL_law__2063 ?_
  refine r_sld hc hX hbl hbA hd (hi.2.1) (ea.2.1) dL_law__2064 ?_
  refine lv_aload_n hc.x hc.b dL_law__2065 rfl (lv_at hl 0 rfl) ?_
  refine lv_iload hc.x hc.b dL_law__2066 (lv_at hl 4 rfl) ?_
  refine lv_iconst (v := 3) hc.x hc.b dL_law__2068 (by decide) ?_
  refine lv_iadd hc.x hc.b dL_law__2069 ?_
  refine r_sld hc hX hbl hbA hd (hi.2.2.1) (ea.2.2.1) dL_law__2070 ?_
  refine lv_aload_n hc.x hc.b dL_law__2071 rfl (lv_at hl 0 rfl) ?_
  refine lv_iload hc.x hc.b dL_law__2072 (lv_at hl 4 rfl) ?_
  refine lv_iconst (v := 4) hc.x hc.b dL_law__2074 (by decide) ?_
  refine lv_iadd hc.x hc.b dL_law__2075 ?_
  refine r_sld hc hX hbl hbA hd (hi.2.2.2.1) (ea.2.2.2.1) dL_law__2076 ?_
  refine lv_aload_n hc.x hc.b dL_law__2077 rfl (lv_at hl 3 rfl) ?_
  obtain ⟨r_1, S_2, hq_3, hf⟩ := on2_s hf
  refine k_i (k_runSW hc hck hd my_L_above tw_1123 (c_L_above l D cs B0 kt α Lv S 0 a1 a2 a3 a4 0 hc.cl hL1 hL3 hst hq_3) rfl rfl hl.1 (Nat.le_of_ble_eq_true rfl) ⟨Nat.le_of_ble_eq_true rfl, Nat.le_of_ble_eq_true rfl, by show _ ≤ 601024; omega, by show _ ≤ 7293034; omega⟩ dL_law__2078) hd (fun H locs hd => ?_)
  refine lv_istore (lv' := [(5, .int r_1), (0, .ref b), (1, .ref (α 0 0)), (2, .ref (α 60 0)), (3, .ref (α 81 0)), (4, .int x4)]) hc.x hc.b dL_law__2081 hl (by decide) rfl (fun ls hl => ?_)
  refine lv_aload_n hc.x hc.b dL_law__2083 rfl (lv_at hl 3 rfl) ?_
  refine lv_aload_n hc.x hc.b dL_law__2084 rfl (lv_at hl 1 rfl) ?_
  refine lv_iload hc.x hc.b dL_law__2085 (lv_at hl 5 rfl) ?_
  refine lv_iconst (v := 1) hc.x hc.b dL_law__2087 (by decide) ?_
  refine lv_iadd hc.x hc.b dL_law__2088 ?_
  refine r_sld hc hX hbl hbA hd (hi.1) (ea.1) dL_law__2089 ?_
  refine lv_aload_n hc.x hc.b dL_law__2090 rfl (lv_at hl 1 rfl) ?_
  refine lv_iload hc.x hc.b dL_law__2091 (lv_at hl 5 rfl) ?_
  refine lv_iconst (v := 2) hc.x hc.b dL_law__2093 (by decide) ?_
  refine lv_iadd hc.x hc.b dL_law__2094 ?_
  refine r_sld hc hX hbl hbA hd (hi.2.1) (ea.2.1) dL_law__2095 ?_
  refine lv_aload_n hc.x hc.b dL_law__2096 rfl (lv_at hl 1 rfl) ?_
  refine lv_iload hc.x hc.b dL_law__2097 (lv_at hl 5 rfl) ?_
  refine lv_iconst (v := 3) hc.x hc.b dL_law__2099 (by decide) ?_
  refine lv_iadd hc.x hc.b dL_law__2100 ?_
  refine r_sld hc hX hbl hbA hd (hi.2.2.1) (ea.2.2.1) dL_law__2101 ?_
  refine lv_aload_n hc.x hc.b dL_law__2102 rfl (lv_at hl 1 rfl) ?_
  refine lv_iload hc.x hc.b dL_law__2103 (lv_at hl 5 rfl) ?_
  refine lv_iconst (v := 4) hc.x hc.b dL_law__2105 (by decide) ?_
  refine lv_iadd hc.x hc.b dL_law__2106 ?_
  refine r_sld hc hX hbl hbA hd (hi.2.2.2.1) (ea.2.2.2.1) dL_law__2107 ?_
  obtain ⟨r_6, S_5, hq_4, hf⟩ := on2_s hf
  refine k_i (k_runV hc hd my_X12_above tw_1814 hL2 rfl rfl rfl (c_X12_above l D cs B0 kt α Lv S_2 0 a1 a2 a3 a4 hc.cl hL2  hq_4) rfl rfl hl.1 (Nat.le_of_ble_eq_true rfl) ⟨Nat.le_of_ble_eq_true rfl, Nat.le_of_ble_eq_true rfl, by show _ ≤ 601024; omega, by show _ ≤ 7293034; omega⟩ dL_law__2108) hd (fun H locs hd => ?_)
  refine lv_istore (lv' := [(6, .int r_6), (5, .int r_1), (0, .ref b), (1, .ref (α 0 0)), (2, .ref (α 60 0)), (3, .ref (α 81 0)), (4, .int x4)]) hc.x hc.b dL_law__2111 hl (by decide) rfl (fun ls hl => ?_)
  refine lv_aload_n hc.x hc.b dL_law__2113 rfl (lv_at hl 4 rfl) ?_
  obtain ⟨r_8, hq_7, hf⟩ := on_s hf
  refine k_i (k_runV hc hd my_X12_thrown tw_1431 hL2 rfl rfl rfl (c_X12_thrown l D cs B0 kt α Lv S_5 0 hc.cl hL2  hq_7) rfl rfl hl.1 (Nat.le_of_ble_eq_true rfl) ⟨Nat.le_of_ble_eq_true rfl, Nat.le_of_ble_eq_true rfl, by show _ ≤ 601024; omega, by show _ ≤ 7293034; omega⟩ dL_law__2114) hd (fun H locs hd => ?_)
  refine lv_iload hc.x hc.b dL_law__2117 (lv_at hl 1 rfl) ?_
  refine lv_icmp_eq (tgt := 2124) hc.x hc.b dL_law__2119 (by decide) (fun c_9 => ?_) (fun c_9 => ?_)
  · have hf := br_y c_9 hf
    refine lv_iload hc.x hc.b dL_law__2124 (lv_at hl 1 rfl) ?_
    refine jn_s (P := fun J_11 => ∀  (S_10 : St) (H : Heap) (locs : List Loc) (ls : Array Slot), J_11 S_10 = some o → Dy s D cs B0 α Lv S_10 H locs → lv_has ls 8 [(0, .ref b), (1, .ref (α 0 0)), (2, .ref (α 60 0)), (3, .ref (α 81 0)), (4, .int x4)] → W p l e room_1 s m args below meth c H locs (cells + 1) (slots + 6) Q (F0 m 2141 ls [])) hf ?_ (fun J_11 hJ_11 hf => ?_)
    · intro S_10 H locs ls hf hd hl
      refine lv_goto (tgt := 2923) hc.x hc.b dL_law__2141 (by decide) ?_
      cases hf
      refine W.widen (k := cells + 40) (n := slots + 2000) (by omega) (by omega) ?_
      exact kk _ _ _ _ _ (hx.mono (by first | exact fun _ h => absurd h List.not_mem_nil | exact fun _ h => List.mem_append_left _ h | exact fun _ h => List.mem_append_right _ (List.mem_append_left _ h) | exact fun _ h => List.mem_append_right _ (List.mem_append_right _ h))) hc hd (lv_sub hl [0, 1, 2, 3, 4] rfl)
    refine lv_if_ne (tgt := 2141) hc.x hc.b dL_law__2126 (by decide) (fun c_12 => ?_) (fun c_12 => ?_)
    · have hf := br_n c_12 hf
      exact hJ_11 S_5 _ _ _ hf hd (lv_sub hl [2, 3, 4, 5, 6] rfl)
    · have hf := br_y c_12 hf
      refine lv_aload_n hc.x hc.b dL_law__2129 rfl (lv_at hl 5 rfl) ?_
      refine lv_iconst (v := 0) hc.x hc.b dL_law__2130 (by decide) ?_
      obtain ⟨hi_13, hf⟩ := ck_s hf
      refine r_lald hc hd hL3 rfl hi_13 dL_law__2131 ?_
      refine lv_iload hc.x hc.b dL_law__2132 (lv_at hl 0 rfl) ?_
      refine lv_i2l (v := Int32.toInt64 r_6) hc.x hc.b dL_law__2134 rfl ?_
      refine W.lcmp hc.x hc.b dL_law__2135 ?_
      refine lv_if_eq (tgt := 2141) hc.x hc.b dL_law__2136 (by decide) (fun c_14 => ?_) (fun c_14 => ?_)
      · have hf := br_y c_14 hf
        exact hJ_11 S_5 _ _ _ hf hd (lv_sub hl [2, 3, 4, 5, 6] rfl)
      · have hf := br_n c_14 hf
        refine lv_iconst (v := 0) hc.x hc.b dL_law__2139 (by decide) ?_
        cases hf
  · have hf := br_n c_9 hf
    refine lv_iconst (v := 0) hc.x hc.b dL_law__2122 (by decide) ?_
    cases hf
def fc_28 (gN : Nat) (a1 a2 a3 a4 a5 : Int32) (S : St) : Option St := on2 (f_L_punish 0 a1 a2 a3 a4 a5 0 S) (fun r_1 S_2 => on2 (f_X12_punish 0 a1 a2 a3 a4 a5 S_2) (fun r_6 S_5 => on (f_X12_thrown 0 S_5) (fun r_8 => br (r_8 = r_1) (bv (fun  (S_10 : St) => some S_10) (fun J_11 => br (r_1 = 0) (ck (inb 0 1 = true) (br ((lg_cmp (gl S_5 81 0 (nn 0)) (Int32.toInt64 r_6)) = 0) (J_11 S_5) (none))) (J_11 S_5))) (none))))
set_option maxRecDepth 100000 in
set_option maxHeartbeats 8000000 in
theorem lc_28 (hc : Cx p s m args meth c cL_law_ 8 "PumpCrossingLaw" D cs B0 kt Lv) (hck : CK cs s) (hst : l.stackTraces = false) {b L : Nat} {xs : Nat → Int32} (hX : va_X b L xs s s.heap) (hbl : b < s.heap.size) (hbA : ¬ B0 ≤ b) {x4 a1 a2 a3 a4 a5 : Int32} (hi : inb (x4 + 1) L = true ∧ inb (x4 + 2) L = true ∧ inb (x4 + 3) L = true ∧ inb (x4 + 4) L = true ∧ inb (x4 + 5) L = true) (ea : xs (nn (x4 + 1)) = a1 ∧ xs (nn (x4 + 2)) = a2 ∧ xs (nn (x4 + 3)) = a3 ∧ xs (nn (x4 + 4)) = a4 ∧ xs (nn (x4 + 5)) = a5) {o S : St} {gN : Nat} (hlt : ∀ k g, Lv k g → k < 1000) (hfr : ∀ x ∈ FL gN, ¬ Lv x.1 x.2) (hL1 : Lv 0 0) (hL2 : Lv 60 0) (hL3 : Lv 81 0) (hcc : cells + 60 ≤ 601024) (hss : slots + 3000 ≤ 7293034) (kk : ∀ (α1 : Nat → Nat → Nat) (Lv1 : Nat → Nat → Prop) (H1 : Heap) (locs1 : List Loc) (ls1 : Array Slot), Ex α Lv (1000, 0) α1 Lv1 (FL gN) → Cx p s m args meth c cL_law_ 8 "PumpCrossingLaw" D cs B0 kt Lv1 → Dy s D cs B0 α1 Lv1 o H1 locs1 → lv_has ls1 8 [(0, .ref b), (1, .ref (α1 0 0)), (2, .ref (α1 60 0)), (3, .ref (α1 81 0)), (4, .int x4)] → W p l e room_1 s m args below meth c H1 locs1 (cells + 40) (slots + 2000) Q (F0 m 2923 ls1 [])) {H : Heap} {locs : List Loc} {ls : Array Slot} (hf : fc_28 gN a1 a2 a3 a4 a5 S = some o) (hd : Dy s D cs B0 α Lv S H locs) (hl : lv_has ls 8 [(0, .ref b), (1, .ref (α 0 0)), (2, .ref (α 60 0)), (3, .ref (α 81 0)), (4, .int x4)]) : W p l e room_1 s m args below meth c H locs cells slots Q (F0 m 2144 ls []) := by
  unfold fc_28 at hf
  have hx : Ex α Lv (1000, 0) α Lv [] := Ex.start hlt
  refine lv_aload_n hc.x hc.b dL_law__2144 rfl (lv_at hl 1 rfl) ?_
  refine lv_aload_n hc.x hc.b dL_law__2145 rfl (lv_at hl 0 rfl) ?_
  refine lv_iload hc.x hc.b dL_law__2146 (lv_at hl 4 rfl) ?_
  refine lv_iconst (v := 1) hc.x hc.b dL_law__2148 (by decide) ?_
  refine lv_iadd hc.x hc.b dL_law__2149 ?_
  refine r_sld hc hX hbl hbA hd (hi.1) (ea.1) dL_law__2150 ?_
  refine lv_aload_n hc.x hc.b dL_law__2151 rfl (lv_at hl 0 rfl) ?_
  refine lv_iload hc.x hc.b dL_law__2152 (lv_at hl 4 rfl) ?_
  refine lv_iconst (v := 2) hc.x hc.b dL_law__2154 (by decide) ?_
  refine lv_iadd hc.x hc.b dL_law__2155 ?_
  refine r_sld hc hX hbl hbA hd (hi.2.1) (ea.2.1) dL_law__2156 ?_
  refine lv_aload_n hc.x hc.b dL_law__2157 rfl (lv_at hl 0 rfl) ?_
  refine lv_iload hc.x hc.b dL_law__2158 (lv_at hl 4 rfl) ?_
  refine lv_iconst (v := 3) hc.x hc.b dL_law__2160 (by decide) ?_
  refine lv_iadd hc.x hc.b dL_law__2161 ?_
  refine r_sld hc hX hbl hbA hd (hi.2.2.1) (ea.2.2.1) dL_law__2162 ?_
  refine lv_aload_n hc.x hc.b dL_law__2163 rfl (lv_at hl 0 rfl) ?_
  refine lv_iload hc.x hc.b dL_law__2164 (lv_at hl 4 rfl) ?_
  refine lv_iconst (v := 4) hc.x hc.b dL_law__2166 (by decide) ?_
  refine lv_iadd hc.x hc.b dL_law__2167 ?_
  refine r_sld hc hX hbl hbA hd (hi.2.2.2.1) (ea.2.2.2.1) dL_law__2168 ?_
  refine lv_aload_n hc.x hc.b dL_law__2169 rfl (lv_at hl 0 rfl) ?_
  refine lv_iload hc.x hc.b dL_law__2170 (lv_at hl 4 rfl) ?_
  refine lv_iconst (v := 5) hc.x hc.b dL_law__2172 (by decide) ?_
  refine lv_iadd hc.x hc.b dL_law__2173 ?_
  refine r_sld hc hX hbl hbA hd (hi.2.2.2.2) (ea.2.2.2.2) dL_law__2174 ?_
  refine lv_aload_n hc.x hc.b dL_law__2175 rfl (lv_at hl 3 rfl) ?_
  obtain ⟨r_1, S_2, hq_3, hf⟩ := on2_s hf
  refine k_i (k_runSW hc hck hd my_L_punish tw_1131 (c_L_punish l D cs B0 kt α Lv S 0 a1 a2 a3 a4 a5 0 hc.cl hL1 hL3 hst hq_3) rfl rfl hl.1 (Nat.le_of_ble_eq_true rfl) ⟨Nat.le_of_ble_eq_true rfl, Nat.le_of_ble_eq_true rfl, by show _ ≤ 601024; omega, by show _ ≤ 7293034; omega⟩ dL_law__2176) hd (fun H locs hd => ?_)
  refine lv_istore (lv' := [(5, .int r_1), (0, .ref b), (1, .ref (α 0 0)), (2, .ref (α 60 0)), (3, .ref (α 81 0)), (4, .int x4)]) hc.x hc.b dL_law__2179 hl (by decide) rfl (fun ls hl => ?_)
  refine lv_aload_n hc.x hc.b dL_law__2181 rfl (lv_at hl 3 rfl) ?_
  refine lv_aload_n hc.x hc.b dL_law__2182 rfl (lv_at hl 1 rfl) ?_
  refine lv_iload hc.x hc.b dL_law__2183 (lv_at hl 5 rfl) ?_
  refine lv_iconst (v := 1) hc.x hc.b dL_law__2185 (by decide) ?_
  refine lv_iadd hc.x hc.b dL_law__2186 ?_
  refine r_sld hc hX hbl hbA hd (hi.1) (ea.1) dL_law__2187 ?_
  refine lv_aload_n hc.x hc.b dL_law__2188 rfl (lv_at hl 1 rfl) ?_
  refine lv_iload hc.x hc.b dL_law__2189 (lv_at hl 5 rfl) ?_
  refine lv_iconst (v := 2) hc.x hc.b dL_law__2191 (by decide) ?_
  refine lv_iadd hc.x hc.b dL_law__2192 ?_
  refine r_sld hc hX hbl hbA hd (hi.2.1) (ea.2.1) dL_law__2193 ?_
  refine lv_aload_n hc.x hc.b dL_law__2194 rfl (lv_at hl 1 rfl) ?_
  refine lv_iload hc.x hc.b dL_law__2195 (lv_at hl 5 rfl) ?_
  refine lv_iconst (v := 3) hc.x hc.b dL_law__2197 (by decide) ?_
  refine lv_iadd hc.x hc.b dL_law__2198 ?_
  refine r_sld hc hX hbl hbA hd (hi.2.2.1) (ea.2.2.1) dL_law__2199 ?_
  refine lv_aload_n hc.x hc.b dL_law__2200 rfl (lv_at hl 1 rfl) ?_
  refine lv_iload hc.x hc.b dL_law__2201 (lv_at hl 5 rfl) ?_
  refine lv_iconst (v := 4) hc.x hc.b dL_law__2203 (by decide) ?_
  refine lv_iadd hc.x hc.b dL_law__2204 ?_
  refine r_sld hc hX hbl hbA hd (hi.2.2.2.1) (ea.2.2.2.1) dL_law__2205 ?_
  refine lv_aload_n hc.x hc.b dL_law__2206 rfl (lv_at hl 1 rfl) ?_
  refine lv_iload hc.x hc.b dL_law__2207 (lv_at hl 5 rfl) ?_
  refine lv_iconst (v := 5) hc.x hc.b dL_law__2209 (by decide) ?_
  refine lv_iadd hc.x hc.b dL_law__2210 ?_
  refine r_sld hc hX hbl hbA hd (hi.2.2.2.2) (ea.2.2.2.2) dL_law__2211 ?_
  obtain ⟨r_6, S_5, hq_4, hf⟩ := on2_s hf
  refine k_i (k_runV hc hd my_X12_punish tw_1818 hL2 rfl rfl rfl (c_X12_punish l D cs B0 kt α Lv S_2 0 a1 a2 a3 a4 a5 hc.cl hL2  hq_4) rfl rfl hl.1 (Nat.le_of_ble_eq_true rfl) ⟨Nat.le_of_ble_eq_true rfl, Nat.le_of_ble_eq_true rfl, by show _ ≤ 601024; omega, by show _ ≤ 7293034; omega⟩ dL_law__2212) hd (fun H locs hd => ?_)
  refine lv_istore (lv' := [(6, .int r_6), (5, .int r_1), (0, .ref b), (1, .ref (α 0 0)), (2, .ref (α 60 0)), (3, .ref (α 81 0)), (4, .int x4)]) hc.x hc.b dL_law__2215 hl (by decide) rfl (fun ls hl => ?_)
  refine lv_aload_n hc.x hc.b dL_law__2217 rfl (lv_at hl 4 rfl) ?_
  obtain ⟨r_8, hq_7, hf⟩ := on_s hf
  refine k_i (k_runV hc hd my_X12_thrown tw_1431 hL2 rfl rfl rfl (c_X12_thrown l D cs B0 kt α Lv S_5 0 hc.cl hL2  hq_7) rfl rfl hl.1 (Nat.le_of_ble_eq_true rfl) ⟨Nat.le_of_ble_eq_true rfl, Nat.le_of_ble_eq_true rfl, by show _ ≤ 601024; omega, by show _ ≤ 7293034; omega⟩ dL_law__2218) hd (fun H locs hd => ?_)
  refine lv_iload hc.x hc.b dL_law__2221 (lv_at hl 1 rfl) ?_
  refine lv_icmp_eq (tgt := 2228) hc.x hc.b dL_law__2223 (by decide) (fun c_9 => ?_) (fun c_9 => ?_)
  · have hf := br_y c_9 hf
    refine lv_iload hc.x hc.b dL_law__2228 (lv_at hl 1 rfl) ?_
    refine jn_s (P := fun J_11 => ∀  (S_10 : St) (H : Heap) (locs : List Loc) (ls : Array Slot), J_11 S_10 = some o → Dy s D cs B0 α Lv S_10 H locs → lv_has ls 8 [(0, .ref b), (1, .ref (α 0 0)), (2, .ref (α 60 0)), (3, .ref (α 81 0)), (4, .int x4)] → W p l e room_1 s m args below meth c H locs (cells + 1) (slots + 6) Q (F0 m 2245 ls [])) hf ?_ (fun J_11 hJ_11 hf => ?_)
    · intro S_10 H locs ls hf hd hl
      refine lv_goto (tgt := 2923) hc.x hc.b dL_law__2245 (by decide) ?_
      cases hf
      refine W.widen (k := cells + 40) (n := slots + 2000) (by omega) (by omega) ?_
      exact kk _ _ _ _ _ (hx.mono (by first | exact fun _ h => absurd h List.not_mem_nil | exact fun _ h => List.mem_append_left _ h | exact fun _ h => List.mem_append_right _ (List.mem_append_left _ h) | exact fun _ h => List.mem_append_right _ (List.mem_append_right _ h))) hc hd (lv_sub hl [0, 1, 2, 3, 4] rfl)
    refine lv_if_ne (tgt := 2245) hc.x hc.b dL_law__2230 (by decide) (fun c_12 => ?_) (fun c_12 => ?_)
    · have hf := br_n c_12 hf
      exact hJ_11 S_5 _ _ _ hf hd (lv_sub hl [2, 3, 4, 5, 6] rfl)
    · have hf := br_y c_12 hf
      refine lv_aload_n hc.x hc.b dL_law__2233 rfl (lv_at hl 5 rfl) ?_
      refine lv_iconst (v := 0) hc.x hc.b dL_law__2234 (by decide) ?_
      obtain ⟨hi_13, hf⟩ := ck_s hf
      refine r_lald hc hd hL3 rfl hi_13 dL_law__2235 ?_
      refine lv_iload hc.x hc.b dL_law__2236 (lv_at hl 0 rfl) ?_
      refine lv_i2l (v := Int32.toInt64 r_6) hc.x hc.b dL_law__2238 rfl ?_
      refine W.lcmp hc.x hc.b dL_law__2239 ?_
      refine lv_if_eq (tgt := 2245) hc.x hc.b dL_law__2240 (by decide) (fun c_14 => ?_) (fun c_14 => ?_)
      · have hf := br_y c_14 hf
        exact hJ_11 S_5 _ _ _ hf hd (lv_sub hl [2, 3, 4, 5, 6] rfl)
      · have hf := br_n c_14 hf
        refine lv_iconst (v := 0) hc.x hc.b dL_law__2243 (by decide) ?_
        cases hf
  · have hf := br_n c_9 hf
    refine lv_iconst (v := 0) hc.x hc.b dL_law__2226 (by decide) ?_
    cases hf
def fc_29 (gN : Nat) (a1 a2 a3 a4 a5 : Int32) (S : St) : Option St := on2 (f_L_story 0 a1 a2 0 S) (fun r_1 S_2 => on2 (f_X12_story 0 a1 a2 S_2) (fun r_6 S_5 => on (f_X12_thrown 0 S_5) (fun r_8 => br (r_8 = r_1) (bv (fun  (S_10 : St) => some S_10) (fun J_11 => br (r_1 = 0) (ck (inb 0 1 = true) (bv (fun (v_14 : Int64) (S_15 : St) => br ((lg_cmp (gl S_5 81 0 (nn 0)) v_14) = 0) (J_11 S_15) (none)) (fun J_16 => br (r_6 = 0) (J_16 0 S_5) (J_16 1 S_5)))) (J_11 S_5))) (none))))
set_option maxRecDepth 100000 in
set_option maxHeartbeats 8000000 in
theorem lc_29 (hc : Cx p s m args meth c cL_law_ 8 "PumpCrossingLaw" D cs B0 kt Lv) (hck : CK cs s) (hst : l.stackTraces = false) {b L : Nat} {xs : Nat → Int32} (hX : va_X b L xs s s.heap) (hbl : b < s.heap.size) (hbA : ¬ B0 ≤ b) {x4 a1 a2 a3 a4 a5 : Int32} (hi : inb (x4 + 1) L = true ∧ inb (x4 + 2) L = true ∧ inb (x4 + 3) L = true ∧ inb (x4 + 4) L = true ∧ inb (x4 + 5) L = true) (ea : xs (nn (x4 + 1)) = a1 ∧ xs (nn (x4 + 2)) = a2 ∧ xs (nn (x4 + 3)) = a3 ∧ xs (nn (x4 + 4)) = a4 ∧ xs (nn (x4 + 5)) = a5) {o S : St} {gN : Nat} (hlt : ∀ k g, Lv k g → k < 1000) (hfr : ∀ x ∈ FL gN, ¬ Lv x.1 x.2) (hL1 : Lv 0 0) (hL2 : Lv 60 0) (hL3 : Lv 81 0) (hcc : cells + 60 ≤ 601024) (hss : slots + 3000 ≤ 7293034) (kk : ∀ (α1 : Nat → Nat → Nat) (Lv1 : Nat → Nat → Prop) (H1 : Heap) (locs1 : List Loc) (ls1 : Array Slot), Ex α Lv (1000, 0) α1 Lv1 (FL gN) → Cx p s m args meth c cL_law_ 8 "PumpCrossingLaw" D cs B0 kt Lv1 → Dy s D cs B0 α1 Lv1 o H1 locs1 → lv_has ls1 8 [(0, .ref b), (1, .ref (α1 0 0)), (2, .ref (α1 60 0)), (3, .ref (α1 81 0)), (4, .int x4)] → W p l e room_1 s m args below meth c H1 locs1 (cells + 40) (slots + 2000) Q (F0 m 2923 ls1 [])) {H : Heap} {locs : List Loc} {ls : Array Slot} (hf : fc_29 gN a1 a2 a3 a4 a5 S = some o) (hd : Dy s D cs B0 α Lv S H locs) (hl : lv_has ls 8 [(0, .ref b), (1, .ref (α 0 0)), (2, .ref (α 60 0)), (3, .ref (α 81 0)), (4, .int x4)]) : W p l e room_1 s m args below meth c H locs cells slots Q (F0 m 2248 ls []) := by
  unfold fc_29 at hf
  have hx : Ex α Lv (1000, 0) α Lv [] := Ex.start hlt
  refine lv_aload_n hc.x hc.b dL_law__2248 rfl (lv_at hl 1 rfl) ?_
  refine lv_aload_n hc.x hc.b dL_law__2249 rfl (lv_at hl 0 rfl) ?_
  refine lv_iload hc.x hc.b dL_law__2250 (lv_at hl 4 rfl) ?_
  refine lv_iconst (v := 1) hc.x hc.b dL_law__2252 (by decide) ?_
  refine lv_iadd hc.x hc.b dL_law__2253 ?_
  refine r_sld hc hX hbl hbA hd (hi.1) (ea.1) dL_law__2254 ?_
  refine lv_aload_n hc.x hc.b dL_law__2255 rfl (lv_at hl 0 rfl) ?_
  refine lv_iload hc.x hc.b dL_law__2256 (lv_at hl 4 rfl) ?_
  refine lv_iconst (v := 2) hc.x hc.b dL_law__2258 (by decide) ?_
  refine lv_iadd hc.x hc.b dL_law__2259 ?_
  refine r_sld hc hX hbl hbA hd (hi.2.1) (ea.2.1) dL_law__2260 ?_
  refine lv_aload_n hc.x hc.b dL_law__2261 rfl (lv_at hl 3 rfl) ?_
  obtain ⟨r_1, S_2, hq_3, hf⟩ := on2_s hf
  refine k_i (k_runSW hc hck hd my_L_story tw_1142 (c_L_story l D cs B0 kt α Lv S 0 a1 a2 0 hc.cl hL1 hL3 hst hq_3) rfl rfl hl.1 (Nat.le_of_ble_eq_true rfl) ⟨Nat.le_of_ble_eq_true rfl, Nat.le_of_ble_eq_true rfl, by show _ ≤ 601024; omega, by show _ ≤ 7293034; omega⟩ dL_law__2262) hd (fun H locs hd => ?_)
  refine lv_istore (lv' := [(5, .int r_1), (0, .ref b), (1, .ref (α 0 0)), (2, .ref (α 60 0)), (3, .ref (α 81 0)), (4, .int x4)]) hc.x hc.b dL_law__2265 hl (by decide) rfl (fun ls hl => ?_)
  refine lv_aload_n hc.x hc.b dL_law__2267 rfl (lv_at hl 3 rfl) ?_
  refine lv_aload_n hc.x hc.b dL_law__2268 rfl (lv_at hl 1 rfl) ?_
  refine lv_iload hc.x hc.b dL_law__2269 (lv_at hl 5 rfl) ?_
  refine lv_iconst (v := 1) hc.x hc.b dL_law__2271 (by decide) ?_
  refine lv_iadd hc.x hc.b dL_law__2272 ?_
  refine r_sld hc hX hbl hbA hd (hi.1) (ea.1) dL_law__2273 ?_
  refine lv_aload_n hc.x hc.b dL_law__2274 rfl (lv_at hl 1 rfl) ?_
  refine lv_iload hc.x hc.b dL_law__2275 (lv_at hl 5 rfl) ?_
  refine lv_iconst (v := 2) hc.x hc.b dL_law__2277 (by decide) ?_
  refine lv_iadd hc.x hc.b dL_law__2278 ?_
  refine r_sld hc hX hbl hbA hd (hi.2.1) (ea.2.1) dL_law__2279 ?_
  obtain ⟨r_6, S_5, hq_4, hf⟩ := on2_s hf
  refine k_i (k_runV hc hd my_X12_story tw_1822 hL2 rfl rfl rfl (c_X12_story l D cs B0 kt α Lv S_2 0 a1 a2 hc.cl hL2  hq_4) rfl rfl hl.1 (Nat.le_of_ble_eq_true rfl) ⟨Nat.le_of_ble_eq_true rfl, Nat.le_of_ble_eq_true rfl, by show _ ≤ 601024; omega, by show _ ≤ 7293034; omega⟩ dL_law__2280) hd (fun H locs hd => ?_)
  refine lv_istore (lv' := [(6, .int r_6), (5, .int r_1), (0, .ref b), (1, .ref (α 0 0)), (2, .ref (α 60 0)), (3, .ref (α 81 0)), (4, .int x4)]) hc.x hc.b dL_law__2283 hl (by decide) rfl (fun ls hl => ?_)
  refine lv_aload_n hc.x hc.b dL_law__2285 rfl (lv_at hl 4 rfl) ?_
  obtain ⟨r_8, hq_7, hf⟩ := on_s hf
  refine k_i (k_runV hc hd my_X12_thrown tw_1431 hL2 rfl rfl rfl (c_X12_thrown l D cs B0 kt α Lv S_5 0 hc.cl hL2  hq_7) rfl rfl hl.1 (Nat.le_of_ble_eq_true rfl) ⟨Nat.le_of_ble_eq_true rfl, Nat.le_of_ble_eq_true rfl, by show _ ≤ 601024; omega, by show _ ≤ 7293034; omega⟩ dL_law__2286) hd (fun H locs hd => ?_)
  refine lv_iload hc.x hc.b dL_law__2289 (lv_at hl 1 rfl) ?_
  refine lv_icmp_eq (tgt := 2296) hc.x hc.b dL_law__2291 (by decide) (fun c_9 => ?_) (fun c_9 => ?_)
  · have hf := br_y c_9 hf
    refine lv_iload hc.x hc.b dL_law__2296 (lv_at hl 1 rfl) ?_
    refine jn_s (P := fun J_11 => ∀  (S_10 : St) (H : Heap) (locs : List Loc) (ls : Array Slot), J_11 S_10 = some o → Dy s D cs B0 α Lv S_10 H locs → lv_has ls 8 [(0, .ref b), (1, .ref (α 0 0)), (2, .ref (α 60 0)), (3, .ref (α 81 0)), (4, .int x4)] → W p l e room_1 s m args below meth c H locs (cells + 1) (slots + 6) Q (F0 m 2320 ls [])) hf ?_ (fun J_11 hJ_11 hf => ?_)
    · intro S_10 H locs ls hf hd hl
      refine lv_goto (tgt := 2923) hc.x hc.b dL_law__2320 (by decide) ?_
      cases hf
      refine W.widen (k := cells + 40) (n := slots + 2000) (by omega) (by omega) ?_
      exact kk _ _ _ _ _ (hx.mono (by first | exact fun _ h => absurd h List.not_mem_nil | exact fun _ h => List.mem_append_left _ h | exact fun _ h => List.mem_append_right _ (List.mem_append_left _ h) | exact fun _ h => List.mem_append_right _ (List.mem_append_right _ h))) hc hd (lv_sub hl [0, 1, 2, 3, 4] rfl)
    refine lv_if_ne (tgt := 2320) hc.x hc.b dL_law__2298 (by decide) (fun c_12 => ?_) (fun c_12 => ?_)
    · have hf := br_n c_12 hf
      exact hJ_11 S_5 _ _ _ hf hd (lv_sub hl [2, 3, 4, 5, 6] rfl)
    · have hf := br_y c_12 hf
      refine lv_aload_n hc.x hc.b dL_law__2301 rfl (lv_at hl 5 rfl) ?_
      refine lv_iconst (v := 0) hc.x hc.b dL_law__2302 (by decide) ?_
      obtain ⟨hi_13, hf⟩ := ck_s hf
      refine r_lald hc hd hL3 rfl hi_13 dL_law__2303 ?_
      refine lv_iload hc.x hc.b dL_law__2304 (lv_at hl 0 rfl) ?_
      refine jn_s (P := fun J_16 => ∀ (v_14 : Int64) (S_15 : St) (H : Heap) (locs : List Loc) (ls : Array Slot), J_16 v_14 S_15 = some o → Dy s D cs B0 α Lv S_15 H locs → lv_has ls 8 [(0, .ref b), (1, .ref (α 0 0)), (2, .ref (α 60 0)), (3, .ref (α 81 0)), (4, .int x4)] → W p l e room_1 s m args below meth c H locs (cells + 1) (slots + 6) Q (F0 m 2314 ls [.long v_14, .long (gl S_5 81 0 (nn 0))])) hf ?_ (fun J_16 hJ_16 hf => ?_)
      · intro v_14 S_15 H locs ls hf hd hl
        refine W.lcmp hc.x hc.b dL_law__2314 ?_
        refine lv_if_eq (tgt := 2320) hc.x hc.b dL_law__2315 (by decide) (fun c_17 => ?_) (fun c_17 => ?_)
        · have hf := br_y c_17 hf
          exact hJ_11 S_15 _ _ _ hf hd (lv_sub hl [0, 1, 2, 3, 4] rfl)
        · have hf := br_n c_17 hf
          refine lv_iconst (v := 0) hc.x hc.b dL_law__2318 (by decide) ?_
          cases hf
      refine lv_if_eq (tgt := 2313) hc.x hc.b dL_law__2306 (by decide) (fun c_18 => ?_) (fun c_18 => ?_)
      · have hf := br_y c_18 hf
        refine lv_lconst (v := 0) hc.x hc.b dL_law__2313 (by decide) ?_
        exact hJ_16 0 S_5 _ _ _ hf hd (lv_sub hl [2, 3, 4, 5, 6] rfl)
      · have hf := br_n c_18 hf
        refine lv_lconst (v := 1) hc.x hc.b dL_law__2309 (by decide) ?_
        refine lv_goto (tgt := 2314) hc.x hc.b dL_law__2310 (by decide) ?_
        exact hJ_16 1 S_5 _ _ _ hf hd (lv_sub hl [2, 3, 4, 5, 6] rfl)
  · have hf := br_n c_9 hf
    refine lv_iconst (v := 0) hc.x hc.b dL_law__2294 (by decide) ?_
    cases hf
def fc_30 (gN : Nat) (a1 a2 a3 a4 a5 : Int32) (S : St) : Option St := on2 (f_L_rise 0 a1 a2 a3 0 S) (fun r_1 S_2 => on2 (f_X12_rise 0 a1 a2 a3 S_2) (fun r_6 S_5 => on (f_X12_thrown 0 S_5) (fun r_8 => br (r_8 = r_1) (bv (fun  (S_10 : St) => some S_10) (fun J_11 => br (r_1 = 0) (ck (inb 0 1 = true) (br ((lg_cmp (gl S_5 81 0 (nn 0)) (Int32.toInt64 r_6)) = 0) (J_11 S_5) (none))) (J_11 S_5))) (none))))
set_option maxRecDepth 100000 in
set_option maxHeartbeats 8000000 in
theorem lc_30 (hc : Cx p s m args meth c cL_law_ 8 "PumpCrossingLaw" D cs B0 kt Lv) (hck : CK cs s) (hst : l.stackTraces = false) {b L : Nat} {xs : Nat → Int32} (hX : va_X b L xs s s.heap) (hbl : b < s.heap.size) (hbA : ¬ B0 ≤ b) {x4 a1 a2 a3 a4 a5 : Int32} (hi : inb (x4 + 1) L = true ∧ inb (x4 + 2) L = true ∧ inb (x4 + 3) L = true ∧ inb (x4 + 4) L = true ∧ inb (x4 + 5) L = true) (ea : xs (nn (x4 + 1)) = a1 ∧ xs (nn (x4 + 2)) = a2 ∧ xs (nn (x4 + 3)) = a3 ∧ xs (nn (x4 + 4)) = a4 ∧ xs (nn (x4 + 5)) = a5) {o S : St} {gN : Nat} (hlt : ∀ k g, Lv k g → k < 1000) (hfr : ∀ x ∈ FL gN, ¬ Lv x.1 x.2) (hL1 : Lv 0 0) (hL2 : Lv 60 0) (hL3 : Lv 81 0) (hcc : cells + 60 ≤ 601024) (hss : slots + 3000 ≤ 7293034) (kk : ∀ (α1 : Nat → Nat → Nat) (Lv1 : Nat → Nat → Prop) (H1 : Heap) (locs1 : List Loc) (ls1 : Array Slot), Ex α Lv (1000, 0) α1 Lv1 (FL gN) → Cx p s m args meth c cL_law_ 8 "PumpCrossingLaw" D cs B0 kt Lv1 → Dy s D cs B0 α1 Lv1 o H1 locs1 → lv_has ls1 8 [(0, .ref b), (1, .ref (α1 0 0)), (2, .ref (α1 60 0)), (3, .ref (α1 81 0)), (4, .int x4)] → W p l e room_1 s m args below meth c H1 locs1 (cells + 40) (slots + 2000) Q (F0 m 2923 ls1 [])) {H : Heap} {locs : List Loc} {ls : Array Slot} (hf : fc_30 gN a1 a2 a3 a4 a5 S = some o) (hd : Dy s D cs B0 α Lv S H locs) (hl : lv_has ls 8 [(0, .ref b), (1, .ref (α 0 0)), (2, .ref (α 60 0)), (3, .ref (α 81 0)), (4, .int x4)]) : W p l e room_1 s m args below meth c H locs cells slots Q (F0 m 2323 ls []) := by
  unfold fc_30 at hf
  have hx : Ex α Lv (1000, 0) α Lv [] := Ex.start hlt
  refine lv_aload_n hc.x hc.b dL_law__2323 rfl (lv_at hl 1 rfl) ?_
  refine lv_aload_n hc.x hc.b dL_law__2324 rfl (lv_at hl 0 rfl) ?_
  refine lv_iload hc.x hc.b dL_law__2325 (lv_at hl 4 rfl) ?_
  refine lv_iconst (v := 1) hc.x hc.b dL_law__2327 (by decide) ?_
  refine lv_iadd hc.x hc.b dL_law__2328 ?_
  refine r_sld hc hX hbl hbA hd (hi.1) (ea.1) dL_law__2329 ?_
  refine lv_aload_n hc.x hc.b dL_law__2330 rfl (lv_at hl 0 rfl) ?_
  refine lv_iload hc.x hc.b dL_law__2331 (lv_at hl 4 rfl) ?_
  refine lv_iconst (v := 2) hc.x hc.b dL_law__2333 (by decide) ?_
  refine lv_iadd hc.x hc.b dL_law__2334 ?_
  refine r_sld hc hX hbl hbA hd (hi.2.1) (ea.2.1) dL_law__2335 ?_
  refine lv_aload_n hc.x hc.b dL_law__2336 rfl (lv_at hl 0 rfl) ?_
  refine lv_iload hc.x hc.b dL_law__2337 (lv_at hl 4 rfl) ?_
  refine lv_iconst (v := 3) hc.x hc.b dL_law__2339 (by decide) ?_
  refine lv_iadd hc.x hc.b dL_law__2340 ?_
  refine r_sld hc hX hbl hbA hd (hi.2.2.1) (ea.2.2.1) dL_law__2341 ?_
  refine lv_aload_n hc.x hc.b dL_law__2342 rfl (lv_at hl 3 rfl) ?_
  obtain ⟨r_1, S_2, hq_3, hf⟩ := on2_s hf
  refine k_i (k_runSW hc hck hd my_L_rise tw_1172 (c_L_rise l D cs B0 kt α Lv S 0 a1 a2 a3 0 hc.cl hL1 hL3 hst hq_3) rfl rfl hl.1 (Nat.le_of_ble_eq_true rfl) ⟨Nat.le_of_ble_eq_true rfl, Nat.le_of_ble_eq_true rfl, by show _ ≤ 601024; omega, by show _ ≤ 7293034; omega⟩ dL_law__2343) hd (fun H locs hd => ?_)
  refine lv_istore (lv' := [(5, .int r_1), (0, .ref b), (1, .ref (α 0 0)), (2, .ref (α 60 0)), (3, .ref (α 81 0)), (4, .int x4)]) hc.x hc.b dL_law__2346 hl (by decide) rfl (fun ls hl => ?_)
  refine lv_aload_n hc.x hc.b dL_law__2348 rfl (lv_at hl 3 rfl) ?_
  refine lv_aload_n hc.x hc.b dL_law__2349 rfl (lv_at hl 1 rfl) ?_
  refine lv_iload hc.x hc.b dL_law__2350 (lv_at hl 5 rfl) ?_
  refine lv_iconst (v := 1) hc.x hc.b dL_law__2352 (by decide) ?_
  refine lv_iadd hc.x hc.b dL_law__2353 ?_
  refine r_sld hc hX hbl hbA hd (hi.1) (ea.1) dL_law__2354 ?_
  refine lv_aload_n hc.x hc.b dL_law__2355 rfl (lv_at hl 1 rfl) ?_
  refine lv_iload hc.x hc.b dL_law__2356 (lv_at hl 5 rfl) ?_
  refine lv_iconst (v := 2) hc.x hc.b dL_law__2358 (by decide) ?_
  refine lv_iadd hc.x hc.b dL_law__2359 ?_
  refine r_sld hc hX hbl hbA hd (hi.2.1) (ea.2.1) dL_law__2360 ?_
  refine lv_aload_n hc.x hc.b dL_law__2361 rfl (lv_at hl 1 rfl) ?_
  refine lv_iload hc.x hc.b dL_law__2362 (lv_at hl 5 rfl) ?_
  refine lv_iconst (v := 3) hc.x hc.b dL_law__2364 (by decide) ?_
  refine lv_iadd hc.x hc.b dL_law__2365 ?_
  refine r_sld hc hX hbl hbA hd (hi.2.2.1) (ea.2.2.1) dL_law__2366 ?_
  obtain ⟨r_6, S_5, hq_4, hf⟩ := on2_s hf
  refine k_i (k_runV hc hd my_X12_rise tw_1830 hL2 rfl rfl rfl (c_X12_rise l D cs B0 kt α Lv S_2 0 a1 a2 a3 hc.cl hL2  hq_4) rfl rfl hl.1 (Nat.le_of_ble_eq_true rfl) ⟨Nat.le_of_ble_eq_true rfl, Nat.le_of_ble_eq_true rfl, by show _ ≤ 601024; omega, by show _ ≤ 7293034; omega⟩ dL_law__2367) hd (fun H locs hd => ?_)
  refine lv_istore (lv' := [(6, .int r_6), (5, .int r_1), (0, .ref b), (1, .ref (α 0 0)), (2, .ref (α 60 0)), (3, .ref (α 81 0)), (4, .int x4)]) hc.x hc.b dL_law__2370 hl (by decide) rfl (fun ls hl => ?_)
  refine lv_aload_n hc.x hc.b dL_law__2372 rfl (lv_at hl 4 rfl) ?_
  obtain ⟨r_8, hq_7, hf⟩ := on_s hf
  refine k_i (k_runV hc hd my_X12_thrown tw_1431 hL2 rfl rfl rfl (c_X12_thrown l D cs B0 kt α Lv S_5 0 hc.cl hL2  hq_7) rfl rfl hl.1 (Nat.le_of_ble_eq_true rfl) ⟨Nat.le_of_ble_eq_true rfl, Nat.le_of_ble_eq_true rfl, by show _ ≤ 601024; omega, by show _ ≤ 7293034; omega⟩ dL_law__2373) hd (fun H locs hd => ?_)
  refine lv_iload hc.x hc.b dL_law__2376 (lv_at hl 1 rfl) ?_
  refine lv_icmp_eq (tgt := 2383) hc.x hc.b dL_law__2378 (by decide) (fun c_9 => ?_) (fun c_9 => ?_)
  · have hf := br_y c_9 hf
    refine lv_iload hc.x hc.b dL_law__2383 (lv_at hl 1 rfl) ?_
    refine jn_s (P := fun J_11 => ∀  (S_10 : St) (H : Heap) (locs : List Loc) (ls : Array Slot), J_11 S_10 = some o → Dy s D cs B0 α Lv S_10 H locs → lv_has ls 8 [(0, .ref b), (1, .ref (α 0 0)), (2, .ref (α 60 0)), (3, .ref (α 81 0)), (4, .int x4)] → W p l e room_1 s m args below meth c H locs (cells + 1) (slots + 6) Q (F0 m 2400 ls [])) hf ?_ (fun J_11 hJ_11 hf => ?_)
    · intro S_10 H locs ls hf hd hl
      refine lv_goto (tgt := 2923) hc.x hc.b dL_law__2400 (by decide) ?_
      cases hf
      refine W.widen (k := cells + 40) (n := slots + 2000) (by omega) (by omega) ?_
      exact kk _ _ _ _ _ (hx.mono (by first | exact fun _ h => absurd h List.not_mem_nil | exact fun _ h => List.mem_append_left _ h | exact fun _ h => List.mem_append_right _ (List.mem_append_left _ h) | exact fun _ h => List.mem_append_right _ (List.mem_append_right _ h))) hc hd (lv_sub hl [0, 1, 2, 3, 4] rfl)
    refine lv_if_ne (tgt := 2400) hc.x hc.b dL_law__2385 (by decide) (fun c_12 => ?_) (fun c_12 => ?_)
    · have hf := br_n c_12 hf
      exact hJ_11 S_5 _ _ _ hf hd (lv_sub hl [2, 3, 4, 5, 6] rfl)
    · have hf := br_y c_12 hf
      refine lv_aload_n hc.x hc.b dL_law__2388 rfl (lv_at hl 5 rfl) ?_
      refine lv_iconst (v := 0) hc.x hc.b dL_law__2389 (by decide) ?_
      obtain ⟨hi_13, hf⟩ := ck_s hf
      refine r_lald hc hd hL3 rfl hi_13 dL_law__2390 ?_
      refine lv_iload hc.x hc.b dL_law__2391 (lv_at hl 0 rfl) ?_
      refine lv_i2l (v := Int32.toInt64 r_6) hc.x hc.b dL_law__2393 rfl ?_
      refine W.lcmp hc.x hc.b dL_law__2394 ?_
      refine lv_if_eq (tgt := 2400) hc.x hc.b dL_law__2395 (by decide) (fun c_14 => ?_) (fun c_14 => ?_)
      · have hf := br_y c_14 hf
        exact hJ_11 S_5 _ _ _ hf hd (lv_sub hl [2, 3, 4, 5, 6] rfl)
      · have hf := br_n c_14 hf
        refine lv_iconst (v := 0) hc.x hc.b dL_law__2398 (by decide) ?_
        cases hf
  · have hf := br_n c_9 hf
    refine lv_iconst (v := 0) hc.x hc.b dL_law__2381 (by decide) ?_
    cases hf
def fc_31 (gN : Nat) (a1 a2 a3 a4 a5 : Int32) (S : St) : Option St := on (f_X11_odds 0 S) (fun S_2 => on (f_X12_odds 0 S_2) (fun S_4 => some S_4))
set_option maxRecDepth 100000 in
set_option maxHeartbeats 8000000 in
theorem lc_31 (hc : Cx p s m args meth c cL_law_ 8 "PumpCrossingLaw" D cs B0 kt Lv) (hck : CK cs s) (hst : l.stackTraces = false) {b L : Nat} {xs : Nat → Int32} (hX : va_X b L xs s s.heap) (hbl : b < s.heap.size) (hbA : ¬ B0 ≤ b) {x4 a1 a2 a3 a4 a5 : Int32} (hi : inb (x4 + 1) L = true ∧ inb (x4 + 2) L = true ∧ inb (x4 + 3) L = true ∧ inb (x4 + 4) L = true ∧ inb (x4 + 5) L = true) (ea : xs (nn (x4 + 1)) = a1 ∧ xs (nn (x4 + 2)) = a2 ∧ xs (nn (x4 + 3)) = a3 ∧ xs (nn (x4 + 4)) = a4 ∧ xs (nn (x4 + 5)) = a5) {o S : St} {gN : Nat} (hlt : ∀ k g, Lv k g → k < 1000) (hfr : ∀ x ∈ FL gN, ¬ Lv x.1 x.2) (hL1 : Lv 0 0) (hL2 : Lv 60 0) (hL3 : Lv 81 0) (hcc : cells + 60 ≤ 601024) (hss : slots + 3000 ≤ 7293034) (kk : ∀ (α1 : Nat → Nat → Nat) (Lv1 : Nat → Nat → Prop) (H1 : Heap) (locs1 : List Loc) (ls1 : Array Slot), Ex α Lv (1000, 0) α1 Lv1 (FL gN) → Cx p s m args meth c cL_law_ 8 "PumpCrossingLaw" D cs B0 kt Lv1 → Dy s D cs B0 α1 Lv1 o H1 locs1 → lv_has ls1 8 [(0, .ref b), (1, .ref (α1 0 0)), (2, .ref (α1 60 0)), (3, .ref (α1 81 0)), (4, .int x4)] → W p l e room_1 s m args below meth c H1 locs1 (cells + 40) (slots + 2000) Q (F0 m 2923 ls1 [])) {H : Heap} {locs : List Loc} {ls : Array Slot} (hf : fc_31 gN a1 a2 a3 a4 a5 S = some o) (hd : Dy s D cs B0 α Lv S H locs) (hl : lv_has ls 8 [(0, .ref b), (1, .ref (α 0 0)), (2, .ref (α 60 0)), (3, .ref (α 81 0)), (4, .int x4)]) : W p l e room_1 s m args below meth c H locs cells slots Q (F0 m 2403 ls []) := by
  unfold fc_31 at hf
  have hx : Ex α Lv (1000, 0) α Lv [] := Ex.start hlt
  refine lv_aload_n hc.x hc.b dL_law__2403 rfl (lv_at hl 1 rfl) ?_
  obtain ⟨S_2, hq_1, hf⟩ := on_s hf
  refine k_v (k_runV hc hd my_X11_odds tw_425 hL1 rfl rfl rfl (c_X11_odds l D cs B0 kt α Lv S 0 hc.cl hL1  hq_1) rfl rfl hl.1 (Nat.le_of_ble_eq_true rfl) ⟨Nat.le_of_ble_eq_true rfl, Nat.le_of_ble_eq_true rfl, by show _ ≤ 601024; omega, by show _ ≤ 7293034; omega⟩ dL_law__2404) hd (fun H locs hd => ?_)
  refine lv_aload_n hc.x hc.b dL_law__2407 rfl (lv_at hl 2 rfl) ?_
  obtain ⟨S_4, hq_3, hf⟩ := on_s hf
  refine k_v (k_runV hc hd my_X12_odds tw_1837 hL2 rfl rfl rfl (c_X12_odds l D cs B0 kt α Lv S_2 0 hc.cl hL2  hq_3) rfl rfl hl.1 (Nat.le_of_ble_eq_true rfl) ⟨Nat.le_of_ble_eq_true rfl, Nat.le_of_ble_eq_true rfl, by show _ ≤ 601024; omega, by show _ ≤ 7293034; omega⟩ dL_law__2408) hd (fun H locs hd => ?_)
  refine lv_goto (tgt := 2923) hc.x hc.b dL_law__2411 (by decide) ?_
  cases hf
  refine W.widen (k := cells + 40) (n := slots + 2000) (by omega) (by omega) ?_
  exact kk _ _ _ _ _ (hx.mono (by first | exact fun _ h => absurd h List.not_mem_nil | exact fun _ h => List.mem_append_left _ h | exact fun _ h => List.mem_append_right _ (List.mem_append_left _ h) | exact fun _ h => List.mem_append_right _ (List.mem_append_right _ h))) hc hd (lv_sub hl [0, 1, 2, 3, 4] rfl)
def fc_32 (gN : Nat) (a1 a2 a3 a4 a5 : Int32) (S : St) : Option St := on2 (f_L_fill 0 a1 a2 a3 a4 0 S) (fun r_1 S_2 => on2 (f_X12_fill 0 a1 a2 a3 a4 S_2) (fun r_6 S_5 => on (f_X12_thrown 0 S_5) (fun r_8 => br (r_8 = r_1) (bv (fun  (S_10 : St) => some S_10) (fun J_11 => br (r_1 = 0) (ck (inb 0 1 = true) (br ((lg_cmp (gl S_5 81 0 (nn 0)) (Int32.toInt64 r_6)) = 0) (J_11 S_5) (none))) (J_11 S_5))) (none))))
set_option maxRecDepth 100000 in
set_option maxHeartbeats 8000000 in
theorem lc_32 (hc : Cx p s m args meth c cL_law_ 8 "PumpCrossingLaw" D cs B0 kt Lv) (hck : CK cs s) (hst : l.stackTraces = false) {b L : Nat} {xs : Nat → Int32} (hX : va_X b L xs s s.heap) (hbl : b < s.heap.size) (hbA : ¬ B0 ≤ b) {x4 a1 a2 a3 a4 a5 : Int32} (hi : inb (x4 + 1) L = true ∧ inb (x4 + 2) L = true ∧ inb (x4 + 3) L = true ∧ inb (x4 + 4) L = true ∧ inb (x4 + 5) L = true) (ea : xs (nn (x4 + 1)) = a1 ∧ xs (nn (x4 + 2)) = a2 ∧ xs (nn (x4 + 3)) = a3 ∧ xs (nn (x4 + 4)) = a4 ∧ xs (nn (x4 + 5)) = a5) {o S : St} {gN : Nat} (hlt : ∀ k g, Lv k g → k < 1000) (hfr : ∀ x ∈ FL gN, ¬ Lv x.1 x.2) (hL1 : Lv 0 0) (hL2 : Lv 60 0) (hL3 : Lv 81 0) (hcc : cells + 60 ≤ 601024) (hss : slots + 3000 ≤ 7293034) (kk : ∀ (α1 : Nat → Nat → Nat) (Lv1 : Nat → Nat → Prop) (H1 : Heap) (locs1 : List Loc) (ls1 : Array Slot), Ex α Lv (1000, 0) α1 Lv1 (FL gN) → Cx p s m args meth c cL_law_ 8 "PumpCrossingLaw" D cs B0 kt Lv1 → Dy s D cs B0 α1 Lv1 o H1 locs1 → lv_has ls1 8 [(0, .ref b), (1, .ref (α1 0 0)), (2, .ref (α1 60 0)), (3, .ref (α1 81 0)), (4, .int x4)] → W p l e room_1 s m args below meth c H1 locs1 (cells + 40) (slots + 2000) Q (F0 m 2923 ls1 [])) {H : Heap} {locs : List Loc} {ls : Array Slot} (hf : fc_32 gN a1 a2 a3 a4 a5 S = some o) (hd : Dy s D cs B0 α Lv S H locs) (hl : lv_has ls 8 [(0, .ref b), (1, .ref (α 0 0)), (2, .ref (α 60 0)), (3, .ref (α 81 0)), (4, .int x4)]) : W p l e room_1 s m args below meth c H locs cells slots Q (F0 m 2414 ls []) := by
  unfold fc_32 at hf
  have hx : Ex α Lv (1000, 0) α Lv [] := Ex.start hlt
  refine lv_aload_n hc.x hc.b dL_law__2414 rfl (lv_at hl 1 rfl) ?_
  refine lv_aload_n hc.x hc.b dL_law__2415 rfl (lv_at hl 0 rfl) ?_
  refine lv_iload hc.x hc.b dL_law__2416 (lv_at hl 4 rfl) ?_
  refine lv_iconst (v := 1) hc.x hc.b dL_law__2418 (by decide) ?_
  refine lv_iadd hc.x hc.b dL_law__2419 ?_
  refine r_sld hc hX hbl hbA hd (hi.1) (ea.1) dL_law__2420 ?_
  refine lv_aload_n hc.x hc.b dL_law__2421 rfl (lv_at hl 0 rfl) ?_
  refine lv_iload hc.x hc.b dL_law__2422 (lv_at hl 4 rfl) ?_
  refine lv_iconst (v := 2) hc.x hc.b dL_law__2424 (by decide) ?_
  refine lv_iadd hc.x hc.b dL_law__2425 ?_
  refine r_sld hc hX hbl hbA hd (hi.2.1) (ea.2.1) dL_law__2426 ?_
  refine lv_aload_n hc.x hc.b dL_law__2427 rfl (lv_at hl 0 rfl) ?_
  refine lv_iload hc.x hc.b dL_law__2428 (lv_at hl 4 rfl) ?_
  refine lv_iconst (v := 3) hc.x hc.b dL_law__2430 (by decide) ?_
  refine lv_iadd hc.x hc.b dL_law__2431 ?_
  refine r_sld hc hX hbl hbA hd (hi.2.2.1) (ea.2.2.1) dL_law__2432 ?_
  refine lv_aload_n hc.x hc.b dL_law__2433 rfl (lv_at hl 0 rfl) ?_
  refine lv_iload hc.x hc.b dL_law__2434 (lv_at hl 4 rfl) ?_
  refine lv_iconst (v := 4) hc.x hc.b dL_law__2436 (by decide) ?_
  refine lv_iadd hc.x hc.b dL_law__2437 ?_
  refine r_sld hc hX hbl hbA hd (hi.2.2.2.1) (ea.2.2.2.1) dL_law__2438 ?_
  refine lv_aload_n hc.x hc.b dL_law__2439 rfl (lv_at hl 3 rfl) ?_
  obtain ⟨r_1, S_2, hq_3, hf⟩ := on2_s hf
  refine k_i (k_runSW hc hck hd my_L_fill tw_1187 (c_L_fill l D cs B0 kt α Lv S 0 a1 a2 a3 a4 0 hc.cl hL1 hL3 hst hq_3) rfl rfl hl.1 (Nat.le_of_ble_eq_true rfl) ⟨Nat.le_of_ble_eq_true rfl, Nat.le_of_ble_eq_true rfl, by show _ ≤ 601024; omega, by show _ ≤ 7293034; omega⟩ dL_law__2440) hd (fun H locs hd => ?_)
  refine lv_istore (lv' := [(5, .int r_1), (0, .ref b), (1, .ref (α 0 0)), (2, .ref (α 60 0)), (3, .ref (α 81 0)), (4, .int x4)]) hc.x hc.b dL_law__2443 hl (by decide) rfl (fun ls hl => ?_)
  refine lv_aload_n hc.x hc.b dL_law__2445 rfl (lv_at hl 3 rfl) ?_
  refine lv_aload_n hc.x hc.b dL_law__2446 rfl (lv_at hl 1 rfl) ?_
  refine lv_iload hc.x hc.b dL_law__2447 (lv_at hl 5 rfl) ?_
  refine lv_iconst (v := 1) hc.x hc.b dL_law__2449 (by decide) ?_
  refine lv_iadd hc.x hc.b dL_law__2450 ?_
  refine r_sld hc hX hbl hbA hd (hi.1) (ea.1) dL_law__2451 ?_
  refine lv_aload_n hc.x hc.b dL_law__2452 rfl (lv_at hl 1 rfl) ?_
  refine lv_iload hc.x hc.b dL_law__2453 (lv_at hl 5 rfl) ?_
  refine lv_iconst (v := 2) hc.x hc.b dL_law__2455 (by decide) ?_
  refine lv_iadd hc.x hc.b dL_law__2456 ?_
  refine r_sld hc hX hbl hbA hd (hi.2.1) (ea.2.1) dL_law__2457 ?_
  refine lv_aload_n hc.x hc.b dL_law__2458 rfl (lv_at hl 1 rfl) ?_
  refine lv_iload hc.x hc.b dL_law__2459 (lv_at hl 5 rfl) ?_
  refine lv_iconst (v := 3) hc.x hc.b dL_law__2461 (by decide) ?_
  refine lv_iadd hc.x hc.b dL_law__2462 ?_
  refine r_sld hc hX hbl hbA hd (hi.2.2.1) (ea.2.2.1) dL_law__2463 ?_
  refine lv_aload_n hc.x hc.b dL_law__2464 rfl (lv_at hl 1 rfl) ?_
  refine lv_iload hc.x hc.b dL_law__2465 (lv_at hl 5 rfl) ?_
  refine lv_iconst (v := 4) hc.x hc.b dL_law__2467 (by decide) ?_
  refine lv_iadd hc.x hc.b dL_law__2468 ?_
  refine r_sld hc hX hbl hbA hd (hi.2.2.2.1) (ea.2.2.2.1) dL_law__2469 ?_
  obtain ⟨r_6, S_5, hq_4, hf⟩ := on2_s hf
  refine k_i (k_runV hc hd my_X12_fill tw_1841 hL2 rfl rfl rfl (c_X12_fill l D cs B0 kt α Lv S_2 0 a1 a2 a3 a4 hc.cl hL2  hq_4) rfl rfl hl.1 (Nat.le_of_ble_eq_true rfl) ⟨Nat.le_of_ble_eq_true rfl, Nat.le_of_ble_eq_true rfl, by show _ ≤ 601024; omega, by show _ ≤ 7293034; omega⟩ dL_law__2470) hd (fun H locs hd => ?_)
  refine lv_istore (lv' := [(6, .int r_6), (5, .int r_1), (0, .ref b), (1, .ref (α 0 0)), (2, .ref (α 60 0)), (3, .ref (α 81 0)), (4, .int x4)]) hc.x hc.b dL_law__2473 hl (by decide) rfl (fun ls hl => ?_)
  refine lv_aload_n hc.x hc.b dL_law__2475 rfl (lv_at hl 4 rfl) ?_
  obtain ⟨r_8, hq_7, hf⟩ := on_s hf
  refine k_i (k_runV hc hd my_X12_thrown tw_1431 hL2 rfl rfl rfl (c_X12_thrown l D cs B0 kt α Lv S_5 0 hc.cl hL2  hq_7) rfl rfl hl.1 (Nat.le_of_ble_eq_true rfl) ⟨Nat.le_of_ble_eq_true rfl, Nat.le_of_ble_eq_true rfl, by show _ ≤ 601024; omega, by show _ ≤ 7293034; omega⟩ dL_law__2476) hd (fun H locs hd => ?_)
  refine lv_iload hc.x hc.b dL_law__2479 (lv_at hl 1 rfl) ?_
  refine lv_icmp_eq (tgt := 2486) hc.x hc.b dL_law__2481 (by decide) (fun c_9 => ?_) (fun c_9 => ?_)
  · have hf := br_y c_9 hf
    refine lv_iload hc.x hc.b dL_law__2486 (lv_at hl 1 rfl) ?_
    refine jn_s (P := fun J_11 => ∀  (S_10 : St) (H : Heap) (locs : List Loc) (ls : Array Slot), J_11 S_10 = some o → Dy s D cs B0 α Lv S_10 H locs → lv_has ls 8 [(0, .ref b), (1, .ref (α 0 0)), (2, .ref (α 60 0)), (3, .ref (α 81 0)), (4, .int x4)] → W p l e room_1 s m args below meth c H locs (cells + 1) (slots + 6) Q (F0 m 2503 ls [])) hf ?_ (fun J_11 hJ_11 hf => ?_)
    · intro S_10 H locs ls hf hd hl
      refine lv_goto (tgt := 2923) hc.x hc.b dL_law__2503 (by decide) ?_
      cases hf
      refine W.widen (k := cells + 40) (n := slots + 2000) (by omega) (by omega) ?_
      exact kk _ _ _ _ _ (hx.mono (by first | exact fun _ h => absurd h List.not_mem_nil | exact fun _ h => List.mem_append_left _ h | exact fun _ h => List.mem_append_right _ (List.mem_append_left _ h) | exact fun _ h => List.mem_append_right _ (List.mem_append_right _ h))) hc hd (lv_sub hl [0, 1, 2, 3, 4] rfl)
    refine lv_if_ne (tgt := 2503) hc.x hc.b dL_law__2488 (by decide) (fun c_12 => ?_) (fun c_12 => ?_)
    · have hf := br_n c_12 hf
      exact hJ_11 S_5 _ _ _ hf hd (lv_sub hl [2, 3, 4, 5, 6] rfl)
    · have hf := br_y c_12 hf
      refine lv_aload_n hc.x hc.b dL_law__2491 rfl (lv_at hl 5 rfl) ?_
      refine lv_iconst (v := 0) hc.x hc.b dL_law__2492 (by decide) ?_
      obtain ⟨hi_13, hf⟩ := ck_s hf
      refine r_lald hc hd hL3 rfl hi_13 dL_law__2493 ?_
      refine lv_iload hc.x hc.b dL_law__2494 (lv_at hl 0 rfl) ?_
      refine lv_i2l (v := Int32.toInt64 r_6) hc.x hc.b dL_law__2496 rfl ?_
      refine W.lcmp hc.x hc.b dL_law__2497 ?_
      refine lv_if_eq (tgt := 2503) hc.x hc.b dL_law__2498 (by decide) (fun c_14 => ?_) (fun c_14 => ?_)
      · have hf := br_y c_14 hf
        exact hJ_11 S_5 _ _ _ hf hd (lv_sub hl [2, 3, 4, 5, 6] rfl)
      · have hf := br_n c_14 hf
        refine lv_iconst (v := 0) hc.x hc.b dL_law__2501 (by decide) ?_
        cases hf
  · have hf := br_n c_9 hf
    refine lv_iconst (v := 0) hc.x hc.b dL_law__2484 (by decide) ?_
    cases hf
def fc_33 (gN : Nat) (a1 a2 a3 a4 a5 : Int32) (S : St) : Option St := on2 (f_L_told 0 a1 a2 a3 a4 0 S) (fun r_1 S_2 => on2 (f_X12_told 0 a1 a2 a3 a4 S_2) (fun r_6 S_5 => on (f_X12_thrown 0 S_5) (fun r_8 => br (r_8 = r_1) (bv (fun  (S_10 : St) => some S_10) (fun J_11 => br (r_1 = 0) (ck (inb 0 1 = true) (br ((lg_cmp (gl S_5 81 0 (nn 0)) (Int32.toInt64 r_6)) = 0) (J_11 S_5) (none))) (J_11 S_5))) (none))))
set_option maxRecDepth 100000 in
set_option maxHeartbeats 8000000 in
theorem lc_33 (hc : Cx p s m args meth c cL_law_ 8 "PumpCrossingLaw" D cs B0 kt Lv) (hck : CK cs s) (hst : l.stackTraces = false) {b L : Nat} {xs : Nat → Int32} (hX : va_X b L xs s s.heap) (hbl : b < s.heap.size) (hbA : ¬ B0 ≤ b) {x4 a1 a2 a3 a4 a5 : Int32} (hi : inb (x4 + 1) L = true ∧ inb (x4 + 2) L = true ∧ inb (x4 + 3) L = true ∧ inb (x4 + 4) L = true ∧ inb (x4 + 5) L = true) (ea : xs (nn (x4 + 1)) = a1 ∧ xs (nn (x4 + 2)) = a2 ∧ xs (nn (x4 + 3)) = a3 ∧ xs (nn (x4 + 4)) = a4 ∧ xs (nn (x4 + 5)) = a5) {o S : St} {gN : Nat} (hlt : ∀ k g, Lv k g → k < 1000) (hfr : ∀ x ∈ FL gN, ¬ Lv x.1 x.2) (hL1 : Lv 0 0) (hL2 : Lv 60 0) (hL3 : Lv 81 0) (hcc : cells + 60 ≤ 601024) (hss : slots + 3000 ≤ 7293034) (kk : ∀ (α1 : Nat → Nat → Nat) (Lv1 : Nat → Nat → Prop) (H1 : Heap) (locs1 : List Loc) (ls1 : Array Slot), Ex α Lv (1000, 0) α1 Lv1 (FL gN) → Cx p s m args meth c cL_law_ 8 "PumpCrossingLaw" D cs B0 kt Lv1 → Dy s D cs B0 α1 Lv1 o H1 locs1 → lv_has ls1 8 [(0, .ref b), (1, .ref (α1 0 0)), (2, .ref (α1 60 0)), (3, .ref (α1 81 0)), (4, .int x4)] → W p l e room_1 s m args below meth c H1 locs1 (cells + 40) (slots + 2000) Q (F0 m 2923 ls1 [])) {H : Heap} {locs : List Loc} {ls : Array Slot} (hf : fc_33 gN a1 a2 a3 a4 a5 S = some o) (hd : Dy s D cs B0 α Lv S H locs) (hl : lv_has ls 8 [(0, .ref b), (1, .ref (α 0 0)), (2, .ref (α 60 0)), (3, .ref (α 81 0)), (4, .int x4)]) : W p l e room_1 s m args below meth c H locs cells slots Q (F0 m 2506 ls []) := by
  unfold fc_33 at hf
  have hx : Ex α Lv (1000, 0) α Lv [] := Ex.start hlt
  refine lv_aload_n hc.x hc.b dL_law__2506 rfl (lv_at hl 1 rfl) ?_
  refine lv_aload_n hc.x hc.b dL_law__2507 rfl (lv_at hl 0 rfl) ?_
  refine lv_iload hc.x hc.b dL_law__2508 (lv_at hl 4 rfl) ?_
  refine lv_iconst (v := 1) hc.x hc.b dL_law__2510 (by decide) ?_
  refine lv_iadd hc.x hc.b dL_law__2511 ?_
  refine r_sld hc hX hbl hbA hd (hi.1) (ea.1) dL_law__2512 ?_
  refine lv_aload_n hc.x hc.b dL_law__2513 rfl (lv_at hl 0 rfl) ?_
  refine lv_iload hc.x hc.b dL_law__2514 (lv_at hl 4 rfl) ?_
  refine lv_iconst (v := 2) hc.x hc.b dL_law__2516 (by decide) ?_
  refine lv_iadd hc.x hc.b dL_law__2517 ?_
  refine r_sld hc hX hbl hbA hd (hi.2.1) (ea.2.1) dL_law__2518 ?_
  refine lv_aload_n hc.x hc.b dL_law__2519 rfl (lv_at hl 0 rfl) ?_
  refine lv_iload hc.x hc.b dL_law__2520 (lv_at hl 4 rfl) ?_
  refine lv_iconst (v := 3) hc.x hc.b dL_law__2522 (by decide) ?_
  refine lv_iadd hc.x hc.b dL_law__2523 ?_
  refine r_sld hc hX hbl hbA hd (hi.2.2.1) (ea.2.2.1) dL_law__2524 ?_
  refine lv_aload_n hc.x hc.b dL_law__2525 rfl (lv_at hl 0 rfl) ?_
  refine lv_iload hc.x hc.b dL_law__2526 (lv_at hl 4 rfl) ?_
  refine lv_iconst (v := 4) hc.x hc.b dL_law__2528 (by decide) ?_
  refine lv_iadd hc.x hc.b dL_law__2529 ?_
  refine r_sld hc hX hbl hbA hd (hi.2.2.2.1) (ea.2.2.2.1) dL_law__2530 ?_
  refine lv_aload_n hc.x hc.b dL_law__2531 rfl (lv_at hl 3 rfl) ?_
  obtain ⟨r_1, S_2, hq_3, hf⟩ := on2_s hf
  refine k_i (k_runSW hc hck hd my_L_told tw_1211 (c_L_told l D cs B0 kt α Lv S 0 a1 a2 a3 a4 0 hc.cl hL1 hL3 hst hq_3) rfl rfl hl.1 (Nat.le_of_ble_eq_true rfl) ⟨Nat.le_of_ble_eq_true rfl, Nat.le_of_ble_eq_true rfl, by show _ ≤ 601024; omega, by show _ ≤ 7293034; omega⟩ dL_law__2532) hd (fun H locs hd => ?_)
  refine lv_istore (lv' := [(5, .int r_1), (0, .ref b), (1, .ref (α 0 0)), (2, .ref (α 60 0)), (3, .ref (α 81 0)), (4, .int x4)]) hc.x hc.b dL_law__2535 hl (by decide) rfl (fun ls hl => ?_)
  refine lv_aload_n hc.x hc.b dL_law__2537 rfl (lv_at hl 3 rfl) ?_
  refine lv_aload_n hc.x hc.b dL_law__2538 rfl (lv_at hl 1 rfl) ?_
  refine lv_iload hc.x hc.b dL_law__2539 (lv_at hl 5 rfl) ?_
  refine lv_iconst (v := 1) hc.x hc.b dL_law__2541 (by decide) ?_
  refine lv_iadd hc.x hc.b dL_law__2542 ?_
  refine r_sld hc hX hbl hbA hd (hi.1) (ea.1) dL_law__2543 ?_
  refine lv_aload_n hc.x hc.b dL_law__2544 rfl (lv_at hl 1 rfl) ?_
  refine lv_iload hc.x hc.b dL_law__2545 (lv_at hl 5 rfl) ?_
  refine lv_iconst (v := 2) hc.x hc.b dL_law__2547 (by decide) ?_
  refine lv_iadd hc.x hc.b dL_law__2548 ?_
  refine r_sld hc hX hbl hbA hd (hi.2.1) (ea.2.1) dL_law__2549 ?_
  refine lv_aload_n hc.x hc.b dL_law__2550 rfl (lv_at hl 1 rfl) ?_
  refine lv_iload hc.x hc.b dL_law__2551 (lv_at hl 5 rfl) ?_
  refine lv_iconst (v := 3) hc.x hc.b dL_law__2553 (by decide) ?_
  refine lv_iadd hc.x hc.b dL_law__2554 ?_
  refine r_sld hc hX hbl hbA hd (hi.2.2.1) (ea.2.2.1) dL_law__2555 ?_
  refine lv_aload_n hc.x hc.b dL_law__2556 rfl (lv_at hl 1 rfl) ?_
  refine lv_iload hc.x hc.b dL_law__2557 (lv_at hl 5 rfl) ?_
  refine lv_iconst (v := 4) hc.x hc.b dL_law__2559 (by decide) ?_
  refine lv_iadd hc.x hc.b dL_law__2560 ?_
  refine r_sld hc hX hbl hbA hd (hi.2.2.2.1) (ea.2.2.2.1) dL_law__2561 ?_
  obtain ⟨r_6, S_5, hq_4, hf⟩ := on2_s hf
  refine k_i (k_runV hc hd my_X12_told tw_1850 hL2 rfl rfl rfl (c_X12_told l D cs B0 kt α Lv S_2 0 a1 a2 a3 a4 hc.cl hL2  hq_4) rfl rfl hl.1 (Nat.le_of_ble_eq_true rfl) ⟨Nat.le_of_ble_eq_true rfl, Nat.le_of_ble_eq_true rfl, by show _ ≤ 601024; omega, by show _ ≤ 7293034; omega⟩ dL_law__2562) hd (fun H locs hd => ?_)
  refine lv_istore (lv' := [(6, .int r_6), (5, .int r_1), (0, .ref b), (1, .ref (α 0 0)), (2, .ref (α 60 0)), (3, .ref (α 81 0)), (4, .int x4)]) hc.x hc.b dL_law__2565 hl (by decide) rfl (fun ls hl => ?_)
  refine lv_aload_n hc.x hc.b dL_law__2567 rfl (lv_at hl 4 rfl) ?_
  obtain ⟨r_8, hq_7, hf⟩ := on_s hf
  refine k_i (k_runV hc hd my_X12_thrown tw_1431 hL2 rfl rfl rfl (c_X12_thrown l D cs B0 kt α Lv S_5 0 hc.cl hL2  hq_7) rfl rfl hl.1 (Nat.le_of_ble_eq_true rfl) ⟨Nat.le_of_ble_eq_true rfl, Nat.le_of_ble_eq_true rfl, by show _ ≤ 601024; omega, by show _ ≤ 7293034; omega⟩ dL_law__2568) hd (fun H locs hd => ?_)
  refine lv_iload hc.x hc.b dL_law__2571 (lv_at hl 1 rfl) ?_
  refine lv_icmp_eq (tgt := 2578) hc.x hc.b dL_law__2573 (by decide) (fun c_9 => ?_) (fun c_9 => ?_)
  · have hf := br_y c_9 hf
    refine lv_iload hc.x hc.b dL_law__2578 (lv_at hl 1 rfl) ?_
    refine jn_s (P := fun J_11 => ∀  (S_10 : St) (H : Heap) (locs : List Loc) (ls : Array Slot), J_11 S_10 = some o → Dy s D cs B0 α Lv S_10 H locs → lv_has ls 8 [(0, .ref b), (1, .ref (α 0 0)), (2, .ref (α 60 0)), (3, .ref (α 81 0)), (4, .int x4)] → W p l e room_1 s m args below meth c H locs (cells + 1) (slots + 6) Q (F0 m 2595 ls [])) hf ?_ (fun J_11 hJ_11 hf => ?_)
    · intro S_10 H locs ls hf hd hl
      refine lv_goto (tgt := 2923) hc.x hc.b dL_law__2595 (by decide) ?_
      cases hf
      refine W.widen (k := cells + 40) (n := slots + 2000) (by omega) (by omega) ?_
      exact kk _ _ _ _ _ (hx.mono (by first | exact fun _ h => absurd h List.not_mem_nil | exact fun _ h => List.mem_append_left _ h | exact fun _ h => List.mem_append_right _ (List.mem_append_left _ h) | exact fun _ h => List.mem_append_right _ (List.mem_append_right _ h))) hc hd (lv_sub hl [0, 1, 2, 3, 4] rfl)
    refine lv_if_ne (tgt := 2595) hc.x hc.b dL_law__2580 (by decide) (fun c_12 => ?_) (fun c_12 => ?_)
    · have hf := br_n c_12 hf
      exact hJ_11 S_5 _ _ _ hf hd (lv_sub hl [2, 3, 4, 5, 6] rfl)
    · have hf := br_y c_12 hf
      refine lv_aload_n hc.x hc.b dL_law__2583 rfl (lv_at hl 5 rfl) ?_
      refine lv_iconst (v := 0) hc.x hc.b dL_law__2584 (by decide) ?_
      obtain ⟨hi_13, hf⟩ := ck_s hf
      refine r_lald hc hd hL3 rfl hi_13 dL_law__2585 ?_
      refine lv_iload hc.x hc.b dL_law__2586 (lv_at hl 0 rfl) ?_
      refine lv_i2l (v := Int32.toInt64 r_6) hc.x hc.b dL_law__2588 rfl ?_
      refine W.lcmp hc.x hc.b dL_law__2589 ?_
      refine lv_if_eq (tgt := 2595) hc.x hc.b dL_law__2590 (by decide) (fun c_14 => ?_) (fun c_14 => ?_)
      · have hf := br_y c_14 hf
        exact hJ_11 S_5 _ _ _ hf hd (lv_sub hl [2, 3, 4, 5, 6] rfl)
      · have hf := br_n c_14 hf
        refine lv_iconst (v := 0) hc.x hc.b dL_law__2593 (by decide) ?_
        cases hf
  · have hf := br_n c_9 hf
    refine lv_iconst (v := 0) hc.x hc.b dL_law__2576 (by decide) ?_
    cases hf
def fc_34 (gN : Nat) (a1 a2 a3 a4 a5 : Int32) (S : St) : Option St := on2 (f_L_fit 0 a1 0 S) (fun r_1 S_2 => on2 (f_X12_fit 0 a1 S_2) (fun r_6 S_5 => on (f_X12_thrown 0 S_5) (fun r_8 => br (r_8 = r_1) (bv (fun  (S_10 : St) => some S_10) (fun J_11 => br (r_1 = 0) (ck (inb 0 1 = true) (br ((lg_cmp (gl S_5 81 0 (nn 0)) (Int32.toInt64 r_6)) = 0) (J_11 S_5) (none))) (J_11 S_5))) (none))))
set_option maxRecDepth 100000 in
set_option maxHeartbeats 8000000 in
theorem lc_34 (hc : Cx p s m args meth c cL_law_ 8 "PumpCrossingLaw" D cs B0 kt Lv) (hck : CK cs s) (hst : l.stackTraces = false) {b L : Nat} {xs : Nat → Int32} (hX : va_X b L xs s s.heap) (hbl : b < s.heap.size) (hbA : ¬ B0 ≤ b) {x4 a1 a2 a3 a4 a5 : Int32} (hi : inb (x4 + 1) L = true ∧ inb (x4 + 2) L = true ∧ inb (x4 + 3) L = true ∧ inb (x4 + 4) L = true ∧ inb (x4 + 5) L = true) (ea : xs (nn (x4 + 1)) = a1 ∧ xs (nn (x4 + 2)) = a2 ∧ xs (nn (x4 + 3)) = a3 ∧ xs (nn (x4 + 4)) = a4 ∧ xs (nn (x4 + 5)) = a5) {o S : St} {gN : Nat} (hlt : ∀ k g, Lv k g → k < 1000) (hfr : ∀ x ∈ FL gN, ¬ Lv x.1 x.2) (hL1 : Lv 0 0) (hL2 : Lv 60 0) (hL3 : Lv 81 0) (hcc : cells + 60 ≤ 601024) (hss : slots + 3000 ≤ 7293034) (kk : ∀ (α1 : Nat → Nat → Nat) (Lv1 : Nat → Nat → Prop) (H1 : Heap) (locs1 : List Loc) (ls1 : Array Slot), Ex α Lv (1000, 0) α1 Lv1 (FL gN) → Cx p s m args meth c cL_law_ 8 "PumpCrossingLaw" D cs B0 kt Lv1 → Dy s D cs B0 α1 Lv1 o H1 locs1 → lv_has ls1 8 [(0, .ref b), (1, .ref (α1 0 0)), (2, .ref (α1 60 0)), (3, .ref (α1 81 0)), (4, .int x4)] → W p l e room_1 s m args below meth c H1 locs1 (cells + 40) (slots + 2000) Q (F0 m 2923 ls1 [])) {H : Heap} {locs : List Loc} {ls : Array Slot} (hf : fc_34 gN a1 a2 a3 a4 a5 S = some o) (hd : Dy s D cs B0 α Lv S H locs) (hl : lv_has ls 8 [(0, .ref b), (1, .ref (α 0 0)), (2, .ref (α 60 0)), (3, .ref (α 81 0)), (4, .int x4)]) : W p l e room_1 s m args below meth c H locs cells slots Q (F0 m 2598 ls []) := by
  unfold fc_34 at hf
  have hx : Ex α Lv (1000, 0) α Lv [] := Ex.start hlt
  refine lv_aload_n hc.x hc.b dL_law__2598 rfl (lv_at hl 1 rfl) ?_
  refine lv_aload_n hc.x hc.b dL_law__2599 rfl (lv_at hl 0 rfl) ?_
  refine lv_iload hc.x hc.b dL_law__2600 (lv_at hl 4 rfl) ?_
  refine lv_iconst (v := 1) hc.x hc.b dL_law__2602 (by decide) ?_
  refine lv_iadd hc.x hc.b dL_law__2603 ?_
  refine r_sld hc hX hbl hbA hd (hi.1) (ea.1) dL_law__2604 ?_
  refine lv_aload_n hc.x hc.b dL_law__2605 rfl (lv_at hl 3 rfl) ?_
  obtain ⟨r_1, S_2, hq_3, hf⟩ := on2_s hf
  refine k_i (k_runSW hc hck hd my_L_fit tw_1224 (c_L_fit l D cs B0 kt α Lv S 0 a1 0 hc.cl hL1 hL3 hst hq_3) rfl rfl hl.1 (Nat.le_of_ble_eq_true rfl) ⟨Nat.le_of_ble_eq_true rfl, Nat.le_of_ble_eq_true rfl, by show _ ≤ 601024; omega, by show _ ≤ 7293034; omega⟩ dL_law__2606) hd (fun H locs hd => ?_)
  refine lv_istore (lv' := [(5, .int r_1), (0, .ref b), (1, .ref (α 0 0)), (2, .ref (α 60 0)), (3, .ref (α 81 0)), (4, .int x4)]) hc.x hc.b dL_law__2609 hl (by decide) rfl (fun ls hl => ?_)
  refine lv_aload_n hc.x hc.b dL_law__2611 rfl (lv_at hl 3 rfl) ?_
  refine lv_aload_n hc.x hc.b dL_law__2612 rfl (lv_at hl 1 rfl) ?_
  refine lv_iload hc.x hc.b dL_law__2613 (lv_at hl 5 rfl) ?_
  refine lv_iconst (v := 1) hc.x hc.b dL_law__2615 (by decide) ?_
  refine lv_iadd hc.x hc.b dL_law__2616 ?_
  refine r_sld hc hX hbl hbA hd (hi.1) (ea.1) dL_law__2617 ?_
  obtain ⟨r_6, S_5, hq_4, hf⟩ := on2_s hf
  refine k_i (k_runV hc hd my_X12_fit tw_1854 hL2 rfl rfl rfl (c_X12_fit l D cs B0 kt α Lv S_2 0 a1 hc.cl hL2  hq_4) rfl rfl hl.1 (Nat.le_of_ble_eq_true rfl) ⟨Nat.le_of_ble_eq_true rfl, Nat.le_of_ble_eq_true rfl, by show _ ≤ 601024; omega, by show _ ≤ 7293034; omega⟩ dL_law__2618) hd (fun H locs hd => ?_)
  refine lv_istore (lv' := [(6, .int r_6), (5, .int r_1), (0, .ref b), (1, .ref (α 0 0)), (2, .ref (α 60 0)), (3, .ref (α 81 0)), (4, .int x4)]) hc.x hc.b dL_law__2621 hl (by decide) rfl (fun ls hl => ?_)
  refine lv_aload_n hc.x hc.b dL_law__2623 rfl (lv_at hl 4 rfl) ?_
  obtain ⟨r_8, hq_7, hf⟩ := on_s hf
  refine k_i (k_runV hc hd my_X12_thrown tw_1431 hL2 rfl rfl rfl (c_X12_thrown l D cs B0 kt α Lv S_5 0 hc.cl hL2  hq_7) rfl rfl hl.1 (Nat.le_of_ble_eq_true rfl) ⟨Nat.le_of_ble_eq_true rfl, Nat.le_of_ble_eq_true rfl, by show _ ≤ 601024; omega, by show _ ≤ 7293034; omega⟩ dL_law__2624) hd (fun H locs hd => ?_)
  refine lv_iload hc.x hc.b dL_law__2627 (lv_at hl 1 rfl) ?_
  refine lv_icmp_eq (tgt := 2634) hc.x hc.b dL_law__2629 (by decide) (fun c_9 => ?_) (fun c_9 => ?_)
  · have hf := br_y c_9 hf
    refine lv_iload hc.x hc.b dL_law__2634 (lv_at hl 1 rfl) ?_
    refine jn_s (P := fun J_11 => ∀  (S_10 : St) (H : Heap) (locs : List Loc) (ls : Array Slot), J_11 S_10 = some o → Dy s D cs B0 α Lv S_10 H locs → lv_has ls 8 [(0, .ref b), (1, .ref (α 0 0)), (2, .ref (α 60 0)), (3, .ref (α 81 0)), (4, .int x4)] → W p l e room_1 s m args below meth c H locs (cells + 1) (slots + 6) Q (F0 m 2651 ls [])) hf ?_ (fun J_11 hJ_11 hf => ?_)
    · intro S_10 H locs ls hf hd hl
      refine lv_goto (tgt := 2923) hc.x hc.b dL_law__2651 (by decide) ?_
      cases hf
      refine W.widen (k := cells + 40) (n := slots + 2000) (by omega) (by omega) ?_
      exact kk _ _ _ _ _ (hx.mono (by first | exact fun _ h => absurd h List.not_mem_nil | exact fun _ h => List.mem_append_left _ h | exact fun _ h => List.mem_append_right _ (List.mem_append_left _ h) | exact fun _ h => List.mem_append_right _ (List.mem_append_right _ h))) hc hd (lv_sub hl [0, 1, 2, 3, 4] rfl)
    refine lv_if_ne (tgt := 2651) hc.x hc.b dL_law__2636 (by decide) (fun c_12 => ?_) (fun c_12 => ?_)
    · have hf := br_n c_12 hf
      exact hJ_11 S_5 _ _ _ hf hd (lv_sub hl [2, 3, 4, 5, 6] rfl)
    · have hf := br_y c_12 hf
      refine lv_aload_n hc.x hc.b dL_law__2639 rfl (lv_at hl 5 rfl) ?_
      refine lv_iconst (v := 0) hc.x hc.b dL_law__2640 (by decide) ?_
      obtain ⟨hi_13, hf⟩ := ck_s hf
      refine r_lald hc hd hL3 rfl hi_13 dL_law__2641 ?_
      refine lv_iload hc.x hc.b dL_law__2642 (lv_at hl 0 rfl) ?_
      refine lv_i2l (v := Int32.toInt64 r_6) hc.x hc.b dL_law__2644 rfl ?_
      refine W.lcmp hc.x hc.b dL_law__2645 ?_
      refine lv_if_eq (tgt := 2651) hc.x hc.b dL_law__2646 (by decide) (fun c_14 => ?_) (fun c_14 => ?_)
      · have hf := br_y c_14 hf
        exact hJ_11 S_5 _ _ _ hf hd (lv_sub hl [2, 3, 4, 5, 6] rfl)
      · have hf := br_n c_14 hf
        refine lv_iconst (v := 0) hc.x hc.b dL_law__2649 (by decide) ?_
        cases hf
  · have hf := br_n c_9 hf
    refine lv_iconst (v := 0) hc.x hc.b dL_law__2632 (by decide) ?_
    cases hf
def fc_35 (gN : Nat) (a1 a2 a3 a4 a5 : Int32) (S : St) : Option St := on2 (f_L_tray 0 a1 a2 a3 S) (fun r_1 S_2 => on (f_X12_tray 0 a1 a2 a3 S_2) (fun S_5 => on (f_X12_thrown 0 S_5) (fun r_7 => br (r_7 = r_1) (some S_5) (none))))
set_option maxRecDepth 100000 in
set_option maxHeartbeats 8000000 in
theorem lc_35 (hc : Cx p s m args meth c cL_law_ 8 "PumpCrossingLaw" D cs B0 kt Lv) (hck : CK cs s) (hst : l.stackTraces = false) {b L : Nat} {xs : Nat → Int32} (hX : va_X b L xs s s.heap) (hbl : b < s.heap.size) (hbA : ¬ B0 ≤ b) {x4 a1 a2 a3 a4 a5 : Int32} (hi : inb (x4 + 1) L = true ∧ inb (x4 + 2) L = true ∧ inb (x4 + 3) L = true ∧ inb (x4 + 4) L = true ∧ inb (x4 + 5) L = true) (ea : xs (nn (x4 + 1)) = a1 ∧ xs (nn (x4 + 2)) = a2 ∧ xs (nn (x4 + 3)) = a3 ∧ xs (nn (x4 + 4)) = a4 ∧ xs (nn (x4 + 5)) = a5) {o S : St} {gN : Nat} (hlt : ∀ k g, Lv k g → k < 1000) (hfr : ∀ x ∈ FL gN, ¬ Lv x.1 x.2) (hL1 : Lv 0 0) (hL2 : Lv 60 0) (hL3 : Lv 81 0) (hcc : cells + 60 ≤ 601024) (hss : slots + 3000 ≤ 7293034) (kk : ∀ (α1 : Nat → Nat → Nat) (Lv1 : Nat → Nat → Prop) (H1 : Heap) (locs1 : List Loc) (ls1 : Array Slot), Ex α Lv (1000, 0) α1 Lv1 (FL gN) → Cx p s m args meth c cL_law_ 8 "PumpCrossingLaw" D cs B0 kt Lv1 → Dy s D cs B0 α1 Lv1 o H1 locs1 → lv_has ls1 8 [(0, .ref b), (1, .ref (α1 0 0)), (2, .ref (α1 60 0)), (3, .ref (α1 81 0)), (4, .int x4)] → W p l e room_1 s m args below meth c H1 locs1 (cells + 40) (slots + 2000) Q (F0 m 2923 ls1 [])) {H : Heap} {locs : List Loc} {ls : Array Slot} (hf : fc_35 gN a1 a2 a3 a4 a5 S = some o) (hd : Dy s D cs B0 α Lv S H locs) (hl : lv_has ls 8 [(0, .ref b), (1, .ref (α 0 0)), (2, .ref (α 60 0)), (3, .ref (α 81 0)), (4, .int x4)]) : W p l e room_1 s m args below meth c H locs cells slots Q (F0 m 2654 ls []) := by
  unfold fc_35 at hf
  have hx : Ex α Lv (1000, 0) α Lv [] := Ex.start hlt
  refine lv_aload_n hc.x hc.b dL_law__2654 rfl (lv_at hl 1 rfl) ?_
  refine lv_aload_n hc.x hc.b dL_law__2655 rfl (lv_at hl 0 rfl) ?_
  refine lv_iload hc.x hc.b dL_law__2656 (lv_at hl 4 rfl) ?_
  refine lv_iconst (v := 1) hc.x hc.b dL_law__2658 (by decide) ?_
  refine lv_iadd hc.x hc.b dL_law__2659 ?_
  refine r_sld hc hX hbl hbA hd (hi.1) (ea.1) dL_law__2660 ?_
  refine lv_aload_n hc.x hc.b dL_law__2661 rfl (lv_at hl 0 rfl) ?_
  refine lv_iload hc.x hc.b dL_law__2662 (lv_at hl 4 rfl) ?_
  refine lv_iconst (v := 2) hc.x hc.b dL_law__2664 (by decide) ?_
  refine lv_iadd hc.x hc.b dL_law__2665 ?_
  refine r_sld hc hX hbl hbA hd (hi.2.1) (ea.2.1) dL_law__2666 ?_
  refine lv_aload_n hc.x hc.b dL_law__2667 rfl (lv_at hl 0 rfl) ?_
  refine lv_iload hc.x hc.b dL_law__2668 (lv_at hl 4 rfl) ?_
  refine lv_iconst (v := 3) hc.x hc.b dL_law__2670 (by decide) ?_
  refine lv_iadd hc.x hc.b dL_law__2671 ?_
  refine r_sld hc hX hbl hbA hd (hi.2.2.1) (ea.2.2.1) dL_law__2672 ?_
  obtain ⟨r_1, S_2, hq_3, hf⟩ := on2_s hf
  refine k_i (k_runSW hc hck hd my_L_tray tw_1235 (c_L_tray l D cs B0 kt α Lv S 0 a1 a2 a3 hc.cl hL1 hst hq_3) rfl rfl hl.1 (Nat.le_of_ble_eq_true rfl) ⟨Nat.le_of_ble_eq_true rfl, Nat.le_of_ble_eq_true rfl, by show _ ≤ 601024; omega, by show _ ≤ 7293034; omega⟩ dL_law__2673) hd (fun H locs hd => ?_)
  refine lv_istore (lv' := [(5, .int r_1), (0, .ref b), (1, .ref (α 0 0)), (2, .ref (α 60 0)), (3, .ref (α 81 0)), (4, .int x4)]) hc.x hc.b dL_law__2676 hl (by decide) rfl (fun ls hl => ?_)
  refine lv_aload_n hc.x hc.b dL_law__2678 rfl (lv_at hl 3 rfl) ?_
  refine lv_aload_n hc.x hc.b dL_law__2679 rfl (lv_at hl 1 rfl) ?_
  refine lv_iload hc.x hc.b dL_law__2680 (lv_at hl 5 rfl) ?_
  refine lv_iconst (v := 1) hc.x hc.b dL_law__2682 (by decide) ?_
  refine lv_iadd hc.x hc.b dL_law__2683 ?_
  refine r_sld hc hX hbl hbA hd (hi.1) (ea.1) dL_law__2684 ?_
  refine lv_aload_n hc.x hc.b dL_law__2685 rfl (lv_at hl 1 rfl) ?_
  refine lv_iload hc.x hc.b dL_law__2686 (lv_at hl 5 rfl) ?_
  refine lv_iconst (v := 2) hc.x hc.b dL_law__2688 (by decide) ?_
  refine lv_iadd hc.x hc.b dL_law__2689 ?_
  refine r_sld hc hX hbl hbA hd (hi.2.1) (ea.2.1) dL_law__2690 ?_
  refine lv_aload_n hc.x hc.b dL_law__2691 rfl (lv_at hl 1 rfl) ?_
  refine lv_iload hc.x hc.b dL_law__2692 (lv_at hl 5 rfl) ?_
  refine lv_iconst (v := 3) hc.x hc.b dL_law__2694 (by decide) ?_
  refine lv_iadd hc.x hc.b dL_law__2695 ?_
  refine r_sld hc hX hbl hbA hd (hi.2.2.1) (ea.2.2.1) dL_law__2696 ?_
  obtain ⟨S_5, hq_4, hf⟩ := on_s hf
  refine k_v (k_runV hc hd my_X12_tray tw_1858 hL2 rfl rfl rfl (c_X12_tray l D cs B0 kt α Lv S_2 0 a1 a2 a3 hc.cl hL2  hq_4) rfl rfl hl.1 (Nat.le_of_ble_eq_true rfl) ⟨Nat.le_of_ble_eq_true rfl, Nat.le_of_ble_eq_true rfl, by show _ ≤ 601024; omega, by show _ ≤ 7293034; omega⟩ dL_law__2697) hd (fun H locs hd => ?_)
  refine lv_aload_n hc.x hc.b dL_law__2700 rfl (lv_at hl 3 rfl) ?_
  obtain ⟨r_7, hq_6, hf⟩ := on_s hf
  refine k_i (k_runV hc hd my_X12_thrown tw_1431 hL2 rfl rfl rfl (c_X12_thrown l D cs B0 kt α Lv S_5 0 hc.cl hL2  hq_6) rfl rfl hl.1 (Nat.le_of_ble_eq_true rfl) ⟨Nat.le_of_ble_eq_true rfl, Nat.le_of_ble_eq_true rfl, by show _ ≤ 601024; omega, by show _ ≤ 7293034; omega⟩ dL_law__2701) hd (fun H locs hd => ?_)
  refine lv_iload hc.x hc.b dL_law__2704 (lv_at hl 0 rfl) ?_
  refine lv_icmp_eq (tgt := 2711) hc.x hc.b dL_law__2706 (by decide) (fun c_8 => ?_) (fun c_8 => ?_)
  · have hf := br_y c_8 hf
    refine lv_goto (tgt := 2923) hc.x hc.b dL_law__2711 (by decide) ?_
    cases hf
    refine W.widen (k := cells + 40) (n := slots + 2000) (by omega) (by omega) ?_
    exact kk _ _ _ _ _ (hx.mono (by first | exact fun _ h => absurd h List.not_mem_nil | exact fun _ h => List.mem_append_left _ h | exact fun _ h => List.mem_append_right _ (List.mem_append_left _ h) | exact fun _ h => List.mem_append_right _ (List.mem_append_right _ h))) hc hd (lv_sub hl [1, 2, 3, 4, 5] rfl)
  · have hf := br_n c_8 hf
    refine lv_iconst (v := 0) hc.x hc.b dL_law__2709 (by decide) ?_
    cases hf
def fc_36 (gN : Nat) (a1 a2 a3 a4 a5 : Int32) (S : St) : Option St := bv (slL (Int32.toInt64 a3) 32) (fun q_1 => on2 (f_L_write 0 a1 a2 (q_1 ||| ((Int32.toInt64 a4) &&& 4294967295)) 0 S) (fun r_2 S_3 => bv (slL (Int32.toInt64 a3) 32) (fun q_5 => on2 (f_X12_write 0 a1 a2 (q_5 ||| ((Int32.toInt64 a4) &&& 4294967295)) S_3) (fun r_8 S_7 => on (f_X12_thrown 0 S_7) (fun r_10 => br (r_10 = r_2) (bv (fun  (S_12 : St) => some S_12) (fun J_13 => br (r_2 = 0) (ck (inb 0 1 = true) (br ((lg_cmp (gl S_7 81 0 (nn 0)) r_8) = 0) (J_13 S_7) (none))) (J_13 S_7))) (none))))))
set_option maxRecDepth 100000 in
set_option maxHeartbeats 8000000 in
theorem lc_36 (hc : Cx p s m args meth c cL_law_ 8 "PumpCrossingLaw" D cs B0 kt Lv) (hck : CK cs s) (hst : l.stackTraces = false) {b L : Nat} {xs : Nat → Int32} (hX : va_X b L xs s s.heap) (hbl : b < s.heap.size) (hbA : ¬ B0 ≤ b) {x4 a1 a2 a3 a4 a5 : Int32} (hi : inb (x4 + 1) L = true ∧ inb (x4 + 2) L = true ∧ inb (x4 + 3) L = true ∧ inb (x4 + 4) L = true ∧ inb (x4 + 5) L = true) (ea : xs (nn (x4 + 1)) = a1 ∧ xs (nn (x4 + 2)) = a2 ∧ xs (nn (x4 + 3)) = a3 ∧ xs (nn (x4 + 4)) = a4 ∧ xs (nn (x4 + 5)) = a5) {o S : St} {gN : Nat} (hlt : ∀ k g, Lv k g → k < 1000) (hfr : ∀ x ∈ FL gN, ¬ Lv x.1 x.2) (hL1 : Lv 0 0) (hL2 : Lv 60 0) (hL3 : Lv 81 0) (hcc : cells + 60 ≤ 601024) (hss : slots + 3000 ≤ 7293034) (kk : ∀ (α1 : Nat → Nat → Nat) (Lv1 : Nat → Nat → Prop) (H1 : Heap) (locs1 : List Loc) (ls1 : Array Slot), Ex α Lv (1000, 0) α1 Lv1 (FL gN) → Cx p s m args meth c cL_law_ 8 "PumpCrossingLaw" D cs B0 kt Lv1 → Dy s D cs B0 α1 Lv1 o H1 locs1 → lv_has ls1 8 [(0, .ref b), (1, .ref (α1 0 0)), (2, .ref (α1 60 0)), (3, .ref (α1 81 0)), (4, .int x4)] → W p l e room_1 s m args below meth c H1 locs1 (cells + 40) (slots + 2000) Q (F0 m 2923 ls1 [])) {H : Heap} {locs : List Loc} {ls : Array Slot} (hf : fc_36 gN a1 a2 a3 a4 a5 S = some o) (hd : Dy s D cs B0 α Lv S H locs) (hl : lv_has ls 8 [(0, .ref b), (1, .ref (α 0 0)), (2, .ref (α 60 0)), (3, .ref (α 81 0)), (4, .int x4)]) : W p l e room_1 s m args below meth c H locs cells slots Q (F0 m 2714 ls []) := by
  unfold fc_36 at hf
  have hx : Ex α Lv (1000, 0) α Lv [] := Ex.start hlt
  refine lv_aload_n hc.x hc.b dL_law__2714 rfl (lv_at hl 1 rfl) ?_
  refine lv_aload_n hc.x hc.b dL_law__2715 rfl (lv_at hl 0 rfl) ?_
  refine lv_iload hc.x hc.b dL_law__2716 (lv_at hl 4 rfl) ?_
  refine lv_iconst (v := 1) hc.x hc.b dL_law__2718 (by decide) ?_
  refine lv_iadd hc.x hc.b dL_law__2719 ?_
  refine r_sld hc hX hbl hbA hd (hi.1) (ea.1) dL_law__2720 ?_
  refine lv_aload_n hc.x hc.b dL_law__2721 rfl (lv_at hl 0 rfl) ?_
  refine lv_iload hc.x hc.b dL_law__2722 (lv_at hl 4 rfl) ?_
  refine lv_iconst (v := 2) hc.x hc.b dL_law__2724 (by decide) ?_
  refine lv_iadd hc.x hc.b dL_law__2725 ?_
  refine r_sld hc hX hbl hbA hd (hi.2.1) (ea.2.1) dL_law__2726 ?_
  refine lv_aload_n hc.x hc.b dL_law__2727 rfl (lv_at hl 0 rfl) ?_
  refine lv_iload hc.x hc.b dL_law__2728 (lv_at hl 4 rfl) ?_
  refine lv_iconst (v := 3) hc.x hc.b dL_law__2730 (by decide) ?_
  refine lv_iadd hc.x hc.b dL_law__2731 ?_
  refine r_sld hc hX hbl hbA hd (hi.2.2.1) (ea.2.2.1) dL_law__2732 ?_
  refine lv_i2l (v := Int32.toInt64 a3) hc.x hc.b dL_law__2733 rfl ?_
  refine lv_bipush (v := 32) hc.x hc.b dL_law__2734 (by decide) ?_
  refine lv_lshl (v := slL (Int32.toInt64 a3) 32) hc.x hc.b dL_law__2736 rfl ?_
  refine lv_topl (fun q_1 eq_1 => ?_)
  have hf := bv_n eq_1 hf
  refine lv_aload_n hc.x hc.b dL_law__2737 rfl (lv_at hl 0 rfl) ?_
  refine lv_iload hc.x hc.b dL_law__2738 (lv_at hl 4 rfl) ?_
  refine lv_iconst (v := 4) hc.x hc.b dL_law__2740 (by decide) ?_
  refine lv_iadd hc.x hc.b dL_law__2741 ?_
  refine r_sld hc hX hbl hbA hd (hi.2.2.2.1) (ea.2.2.2.1) dL_law__2742 ?_
  refine lv_i2l (v := Int32.toInt64 a4) hc.x hc.b dL_law__2743 rfl ?_
  refine lv_ldc2 (v := 4294967295) hc.x hc.b hc.ow (hc.ts tw_1880) dL_law__2744 ?_
  refine lv_land hc.x hc.b dL_law__2747 ?_
  refine lv_lor hc.x hc.b dL_law__2748 ?_
  refine lv_aload_n hc.x hc.b dL_law__2749 rfl (lv_at hl 3 rfl) ?_
  obtain ⟨r_2, S_3, hq_4, hf⟩ := on2_s hf
  refine k_i (k_runSW hc hck hd my_L_write tw_1246 (c_L_write l D cs B0 kt α Lv S 0 a1 a2 (q_1 ||| ((Int32.toInt64 a4) &&& 4294967295)) 0 hc.cl hL1 hL3 hst hq_4) rfl rfl hl.1 (Nat.le_of_ble_eq_true rfl) ⟨Nat.le_of_ble_eq_true rfl, Nat.le_of_ble_eq_true rfl, by show _ ≤ 601024; omega, by show _ ≤ 7293034; omega⟩ dL_law__2750) hd (fun H locs hd => ?_)
  refine lv_istore (lv' := [(5, .int r_2), (0, .ref b), (1, .ref (α 0 0)), (2, .ref (α 60 0)), (3, .ref (α 81 0)), (4, .int x4)]) hc.x hc.b dL_law__2753 hl (by decide) rfl (fun ls hl => ?_)
  refine lv_aload_n hc.x hc.b dL_law__2755 rfl (lv_at hl 3 rfl) ?_
  refine lv_aload_n hc.x hc.b dL_law__2756 rfl (lv_at hl 1 rfl) ?_
  refine lv_iload hc.x hc.b dL_law__2757 (lv_at hl 5 rfl) ?_
  refine lv_iconst (v := 1) hc.x hc.b dL_law__2759 (by decide) ?_
  refine lv_iadd hc.x hc.b dL_law__2760 ?_
  refine r_sld hc hX hbl hbA hd (hi.1) (ea.1) dL_law__2761 ?_
  refine lv_aload_n hc.x hc.b dL_law__2762 rfl (lv_at hl 1 rfl) ?_
  refine lv_iload hc.x hc.b dL_law__2763 (lv_at hl 5 rfl) ?_
  refine lv_iconst (v := 2) hc.x hc.b dL_law__2765 (by decide) ?_
  refine lv_iadd hc.x hc.b dL_law__2766 ?_
  refine r_sld hc hX hbl hbA hd (hi.2.1) (ea.2.1) dL_law__2767 ?_
  refine lv_aload_n hc.x hc.b dL_law__2768 rfl (lv_at hl 1 rfl) ?_
  refine lv_iload hc.x hc.b dL_law__2769 (lv_at hl 5 rfl) ?_
  refine lv_iconst (v := 3) hc.x hc.b dL_law__2771 (by decide) ?_
  refine lv_iadd hc.x hc.b dL_law__2772 ?_
  refine r_sld hc hX hbl hbA hd (hi.2.2.1) (ea.2.2.1) dL_law__2773 ?_
  refine lv_i2l (v := Int32.toInt64 a3) hc.x hc.b dL_law__2774 rfl ?_
  refine lv_bipush (v := 32) hc.x hc.b dL_law__2775 (by decide) ?_
  refine lv_lshl (v := slL (Int32.toInt64 a3) 32) hc.x hc.b dL_law__2777 rfl ?_
  refine lv_topl (fun q_5 eq_5 => ?_)
  have hf := bv_n eq_5 hf
  refine lv_aload_n hc.x hc.b dL_law__2778 rfl (lv_at hl 1 rfl) ?_
  refine lv_iload hc.x hc.b dL_law__2779 (lv_at hl 5 rfl) ?_
  refine lv_iconst (v := 4) hc.x hc.b dL_law__2781 (by decide) ?_
  refine lv_iadd hc.x hc.b dL_law__2782 ?_
  refine r_sld hc hX hbl hbA hd (hi.2.2.2.1) (ea.2.2.2.1) dL_law__2783 ?_
  refine lv_i2l (v := Int32.toInt64 a4) hc.x hc.b dL_law__2784 rfl ?_
  refine lv_ldc2 (v := 4294967295) hc.x hc.b hc.ow (hc.ts tw_1880) dL_law__2785 ?_
  refine lv_land hc.x hc.b dL_law__2788 ?_
  refine lv_lor hc.x hc.b dL_law__2789 ?_
  obtain ⟨r_8, S_7, hq_6, hf⟩ := on2_s hf
  refine k_l (k_runV hc hd my_X12_write tw_1863 hL2 rfl rfl rfl (c_X12_write l D cs B0 kt α Lv S_3 0 a1 a2 (q_5 ||| ((Int32.toInt64 a4) &&& 4294967295)) hc.cl hL2  hq_6) rfl rfl hl.1 (Nat.le_of_ble_eq_true rfl) ⟨Nat.le_of_ble_eq_true rfl, Nat.le_of_ble_eq_true rfl, by show _ ≤ 601024; omega, by show _ ≤ 7293034; omega⟩ dL_law__2790) hd (fun H locs hd => ?_)
  refine lv_lstore (lv' := [(6, .long r_8), (5, .int r_2), (0, .ref b), (1, .ref (α 0 0)), (2, .ref (α 60 0)), (3, .ref (α 81 0)), (4, .int x4)]) hc.x hc.b dL_law__2793 hl (by decide) rfl (fun ls hl => ?_)
  refine lv_aload_n hc.x hc.b dL_law__2795 rfl (lv_at hl 4 rfl) ?_
  obtain ⟨r_10, hq_9, hf⟩ := on_s hf
  refine k_i (k_runV hc hd my_X12_thrown tw_1431 hL2 rfl rfl rfl (c_X12_thrown l D cs B0 kt α Lv S_7 0 hc.cl hL2  hq_9) rfl rfl hl.1 (Nat.le_of_ble_eq_true rfl) ⟨Nat.le_of_ble_eq_true rfl, Nat.le_of_ble_eq_true rfl, by show _ ≤ 601024; omega, by show _ ≤ 7293034; omega⟩ dL_law__2796) hd (fun H locs hd => ?_)
  refine lv_iload hc.x hc.b dL_law__2799 (lv_at hl 1 rfl) ?_
  refine lv_icmp_eq (tgt := 2806) hc.x hc.b dL_law__2801 (by decide) (fun c_11 => ?_) (fun c_11 => ?_)
  · have hf := br_y c_11 hf
    refine lv_iload hc.x hc.b dL_law__2806 (lv_at hl 1 rfl) ?_
    refine jn_s (P := fun J_13 => ∀  (S_12 : St) (H : Heap) (locs : List Loc) (ls : Array Slot), J_13 S_12 = some o → Dy s D cs B0 α Lv S_12 H locs → lv_has ls 8 [(0, .ref b), (1, .ref (α 0 0)), (2, .ref (α 60 0)), (3, .ref (α 81 0)), (4, .int x4)] → W p l e room_1 s m args below meth c H locs (cells + 1) (slots + 6) Q (F0 m 2822 ls [])) hf ?_ (fun J_13 hJ_13 hf => ?_)
    · intro S_12 H locs ls hf hd hl
      refine lv_goto (tgt := 2923) hc.x hc.b dL_law__2822 (by decide) ?_
      cases hf
      refine W.widen (k := cells + 40) (n := slots + 2000) (by omega) (by omega) ?_
      exact kk _ _ _ _ _ (hx.mono (by first | exact fun _ h => absurd h List.not_mem_nil | exact fun _ h => List.mem_append_left _ h | exact fun _ h => List.mem_append_right _ (List.mem_append_left _ h) | exact fun _ h => List.mem_append_right _ (List.mem_append_right _ h))) hc hd (lv_sub hl [0, 1, 2, 3, 4] rfl)
    refine lv_if_ne (tgt := 2822) hc.x hc.b dL_law__2808 (by decide) (fun c_14 => ?_) (fun c_14 => ?_)
    · have hf := br_n c_14 hf
      exact hJ_13 S_7 _ _ _ hf hd (lv_sub hl [2, 3, 4, 5, 6] rfl)
    · have hf := br_y c_14 hf
      refine lv_aload_n hc.x hc.b dL_law__2811 rfl (lv_at hl 5 rfl) ?_
      refine lv_iconst (v := 0) hc.x hc.b dL_law__2812 (by decide) ?_
      obtain ⟨hi_15, hf⟩ := ck_s hf
      refine r_lald hc hd hL3 rfl hi_15 dL_law__2813 ?_
      refine lv_lload hc.x hc.b dL_law__2814 (lv_at hl 0 rfl) ?_
      refine W.lcmp hc.x hc.b dL_law__2816 ?_
      refine lv_if_eq (tgt := 2822) hc.x hc.b dL_law__2817 (by decide) (fun c_16 => ?_) (fun c_16 => ?_)
      · have hf := br_y c_16 hf
        exact hJ_13 S_7 _ _ _ hf hd (lv_sub hl [2, 3, 4, 5, 6] rfl)
      · have hf := br_n c_16 hf
        refine lv_iconst (v := 0) hc.x hc.b dL_law__2820 (by decide) ?_
        cases hf
  · have hf := br_n c_11 hf
    refine lv_iconst (v := 0) hc.x hc.b dL_law__2804 (by decide) ?_
    cases hf
def fc_37 (gN : Nat) (a1 a2 a3 a4 a5 : Int32) (S : St) : Option St := on2 (f_L_image 0 gN a1 S) (fun r_1 S_2 => on (f_X12_image 0 a1 S_2) (fun S_5 => on (f_X12_thrown 0 S_5) (fun r_7 => br (r_7 = r_1) (some S_5) (none))))
set_option maxRecDepth 100000 in
set_option maxHeartbeats 8000000 in
theorem lc_37 (hc : Cx p s m args meth c cL_law_ 8 "PumpCrossingLaw" D cs B0 kt Lv) (hck : CK cs s) (hst : l.stackTraces = false) {b L : Nat} {xs : Nat → Int32} (hX : va_X b L xs s s.heap) (hbl : b < s.heap.size) (hbA : ¬ B0 ≤ b) {x4 a1 a2 a3 a4 a5 : Int32} (hi : inb (x4 + 1) L = true ∧ inb (x4 + 2) L = true ∧ inb (x4 + 3) L = true ∧ inb (x4 + 4) L = true ∧ inb (x4 + 5) L = true) (ea : xs (nn (x4 + 1)) = a1 ∧ xs (nn (x4 + 2)) = a2 ∧ xs (nn (x4 + 3)) = a3 ∧ xs (nn (x4 + 4)) = a4 ∧ xs (nn (x4 + 5)) = a5) {o S : St} {gN : Nat} (hlt : ∀ k g, Lv k g → k < 1000) (hfr : ∀ x ∈ FL gN, ¬ Lv x.1 x.2) (hL1 : Lv 0 0) (hL2 : Lv 60 0) (hL3 : Lv 81 0) (hcc : cells + 60 ≤ 601024) (hss : slots + 3000 ≤ 7293034) (kk : ∀ (α1 : Nat → Nat → Nat) (Lv1 : Nat → Nat → Prop) (H1 : Heap) (locs1 : List Loc) (ls1 : Array Slot), Ex α Lv (1000, 0) α1 Lv1 (FL gN) → Cx p s m args meth c cL_law_ 8 "PumpCrossingLaw" D cs B0 kt Lv1 → Dy s D cs B0 α1 Lv1 o H1 locs1 → lv_has ls1 8 [(0, .ref b), (1, .ref (α1 0 0)), (2, .ref (α1 60 0)), (3, .ref (α1 81 0)), (4, .int x4)] → W p l e room_1 s m args below meth c H1 locs1 (cells + 40) (slots + 2000) Q (F0 m 2923 ls1 [])) {H : Heap} {locs : List Loc} {ls : Array Slot} (hf : fc_37 gN a1 a2 a3 a4 a5 S = some o) (hd : Dy s D cs B0 α Lv S H locs) (hl : lv_has ls 8 [(0, .ref b), (1, .ref (α 0 0)), (2, .ref (α 60 0)), (3, .ref (α 81 0)), (4, .int x4)]) : W p l e room_1 s m args below meth c H locs cells slots Q (F0 m 2825 ls []) := by
  unfold fc_37 at hf
  have hx : Ex α Lv (1000, 0) α Lv [] := Ex.start hlt
  refine lv_aload_n hc.x hc.b dL_law__2825 rfl (lv_at hl 1 rfl) ?_
  refine lv_aload_n hc.x hc.b dL_law__2826 rfl (lv_at hl 0 rfl) ?_
  refine lv_iload hc.x hc.b dL_law__2827 (lv_at hl 4 rfl) ?_
  refine lv_iconst (v := 1) hc.x hc.b dL_law__2829 (by decide) ?_
  refine lv_iadd hc.x hc.b dL_law__2830 ?_
  refine r_sld hc hX hbl hbA hd (hi.1) (ea.1) dL_law__2831 ?_
  obtain ⟨r_1, S_2, hq_3, hf⟩ := on2_s hf
  refine k_iA hc (k_runSW hc hck hd my_L_image tw_1261 (c_L_image l D cs B0 kt α Lv S 0 gN a1 hc.cl hlt (fun x h => hfr x (List.mem_append_right _ (List.mem_append_right _ h))) hL1 hst hq_3) rfl rfl hl.1 (Nat.le_of_ble_eq_true rfl) ⟨Nat.le_of_ble_eq_true rfl, Nat.le_of_ble_eq_true rfl, by show _ ≤ 601024; omega, by show _ ≤ 7293034; omega⟩ dL_law__2832) hd (fun α Lv H locs ho ha hc hd hx => ?_)
  have hl : lv_has ls 8 [(0, .ref b), (1, .ref (α 0 0)), (2, .ref (α 60 0)), (3, .ref (α 81 0)), (4, .int x4)] := by rw [ha _ _ hL1, ha _ _ hL2, ha _ _ hL3]; exact hl
  have hL1 := ho _ _ hL1
  have hL2 := ho _ _ hL2
  have hL3 := ho _ _ hL3
  refine lv_istore (lv' := [(5, .int r_1), (0, .ref b), (1, .ref (α 0 0)), (2, .ref (α 60 0)), (3, .ref (α 81 0)), (4, .int x4)]) hc.x hc.b dL_law__2835 hl (by decide) rfl (fun ls hl => ?_)
  refine lv_aload_n hc.x hc.b dL_law__2837 rfl (lv_at hl 3 rfl) ?_
  refine lv_aload_n hc.x hc.b dL_law__2838 rfl (lv_at hl 1 rfl) ?_
  refine lv_iload hc.x hc.b dL_law__2839 (lv_at hl 5 rfl) ?_
  refine lv_iconst (v := 1) hc.x hc.b dL_law__2841 (by decide) ?_
  refine lv_iadd hc.x hc.b dL_law__2842 ?_
  refine r_sld hc hX hbl hbA hd (hi.1) (ea.1) dL_law__2843 ?_
  obtain ⟨S_5, hq_4, hf⟩ := on_s hf
  refine k_v (k_runV hc hd my_X12_image tw_1867 hL2 rfl rfl rfl (c_X12_image l D cs B0 kt α Lv S_2 0 a1 hc.cl hL2  hq_4) rfl rfl hl.1 (Nat.le_of_ble_eq_true rfl) ⟨Nat.le_of_ble_eq_true rfl, Nat.le_of_ble_eq_true rfl, by show _ ≤ 601024; omega, by show _ ≤ 7293034; omega⟩ dL_law__2844) hd (fun H locs hd => ?_)
  refine lv_aload_n hc.x hc.b dL_law__2847 rfl (lv_at hl 3 rfl) ?_
  obtain ⟨r_7, hq_6, hf⟩ := on_s hf
  refine k_i (k_runV hc hd my_X12_thrown tw_1431 hL2 rfl rfl rfl (c_X12_thrown l D cs B0 kt α Lv S_5 0 hc.cl hL2  hq_6) rfl rfl hl.1 (Nat.le_of_ble_eq_true rfl) ⟨Nat.le_of_ble_eq_true rfl, Nat.le_of_ble_eq_true rfl, by show _ ≤ 601024; omega, by show _ ≤ 7293034; omega⟩ dL_law__2848) hd (fun H locs hd => ?_)
  refine lv_iload hc.x hc.b dL_law__2851 (lv_at hl 0 rfl) ?_
  refine lv_icmp_eq (tgt := 2858) hc.x hc.b dL_law__2853 (by decide) (fun c_8 => ?_) (fun c_8 => ?_)
  · have hf := br_y c_8 hf
    refine lv_goto (tgt := 2923) hc.x hc.b dL_law__2858 (by decide) ?_
    cases hf
    refine W.widen (k := cells + 40) (n := slots + 2000) (by omega) (by omega) ?_
    exact kk _ _ _ _ _ (hx.mono (by first | exact fun _ h => absurd h List.not_mem_nil | exact fun _ h => List.mem_append_left _ h | exact fun _ h => List.mem_append_right _ (List.mem_append_left _ h) | exact fun _ h => List.mem_append_right _ (List.mem_append_right _ h))) hc hd (lv_sub hl [1, 2, 3, 4, 5] rfl)
  · have hf := br_n c_8 hf
    refine lv_iconst (v := 0) hc.x hc.b dL_law__2856 (by decide) ?_
    cases hf
def fc_38 (gN : Nat) (a1 a2 a3 a4 a5 : Int32) (S : St) : Option St := on2 (f_L_restore 0 a1 S) (fun r_1 S_2 => on (f_X12_restore 0 a1 S_2) (fun S_5 => on (f_X12_thrown 0 S_5) (fun r_7 => br (r_7 = r_1) (some S_5) (none))))
set_option maxRecDepth 100000 in
set_option maxHeartbeats 8000000 in
theorem lc_38 (hc : Cx p s m args meth c cL_law_ 8 "PumpCrossingLaw" D cs B0 kt Lv) (hck : CK cs s) (hst : l.stackTraces = false) {b L : Nat} {xs : Nat → Int32} (hX : va_X b L xs s s.heap) (hbl : b < s.heap.size) (hbA : ¬ B0 ≤ b) {x4 a1 a2 a3 a4 a5 : Int32} (hi : inb (x4 + 1) L = true ∧ inb (x4 + 2) L = true ∧ inb (x4 + 3) L = true ∧ inb (x4 + 4) L = true ∧ inb (x4 + 5) L = true) (ea : xs (nn (x4 + 1)) = a1 ∧ xs (nn (x4 + 2)) = a2 ∧ xs (nn (x4 + 3)) = a3 ∧ xs (nn (x4 + 4)) = a4 ∧ xs (nn (x4 + 5)) = a5) {o S : St} {gN : Nat} (hlt : ∀ k g, Lv k g → k < 1000) (hfr : ∀ x ∈ FL gN, ¬ Lv x.1 x.2) (hL1 : Lv 0 0) (hL2 : Lv 60 0) (hL3 : Lv 81 0) (hcc : cells + 60 ≤ 601024) (hss : slots + 3000 ≤ 7293034) (kk : ∀ (α1 : Nat → Nat → Nat) (Lv1 : Nat → Nat → Prop) (H1 : Heap) (locs1 : List Loc) (ls1 : Array Slot), Ex α Lv (1000, 0) α1 Lv1 (FL gN) → Cx p s m args meth c cL_law_ 8 "PumpCrossingLaw" D cs B0 kt Lv1 → Dy s D cs B0 α1 Lv1 o H1 locs1 → lv_has ls1 8 [(0, .ref b), (1, .ref (α1 0 0)), (2, .ref (α1 60 0)), (3, .ref (α1 81 0)), (4, .int x4)] → W p l e room_1 s m args below meth c H1 locs1 (cells + 40) (slots + 2000) Q (F0 m 2923 ls1 [])) {H : Heap} {locs : List Loc} {ls : Array Slot} (hf : fc_38 gN a1 a2 a3 a4 a5 S = some o) (hd : Dy s D cs B0 α Lv S H locs) (hl : lv_has ls 8 [(0, .ref b), (1, .ref (α 0 0)), (2, .ref (α 60 0)), (3, .ref (α 81 0)), (4, .int x4)]) : W p l e room_1 s m args below meth c H locs cells slots Q (F0 m 2861 ls []) := by
  unfold fc_38 at hf
  have hx : Ex α Lv (1000, 0) α Lv [] := Ex.start hlt
  refine lv_aload_n hc.x hc.b dL_law__2861 rfl (lv_at hl 1 rfl) ?_
  refine lv_aload_n hc.x hc.b dL_law__2862 rfl (lv_at hl 0 rfl) ?_
  refine lv_iload hc.x hc.b dL_law__2863 (lv_at hl 4 rfl) ?_
  refine lv_iconst (v := 1) hc.x hc.b dL_law__2865 (by decide) ?_
  refine lv_iadd hc.x hc.b dL_law__2866 ?_
  refine r_sld hc hX hbl hbA hd (hi.1) (ea.1) dL_law__2867 ?_
  obtain ⟨r_1, S_2, hq_3, hf⟩ := on2_s hf
  refine k_i (k_runSW hc hck hd my_L_restore tw_1295 (c_L_restore l D cs B0 kt α Lv S 0 a1 hc.cl hL1 hst hq_3) rfl rfl hl.1 (Nat.le_of_ble_eq_true rfl) ⟨Nat.le_of_ble_eq_true rfl, Nat.le_of_ble_eq_true rfl, by show _ ≤ 601024; omega, by show _ ≤ 7293034; omega⟩ dL_law__2868) hd (fun H locs hd => ?_)
  refine lv_istore (lv' := [(5, .int r_1), (0, .ref b), (1, .ref (α 0 0)), (2, .ref (α 60 0)), (3, .ref (α 81 0)), (4, .int x4)]) hc.x hc.b dL_law__2871 hl (by decide) rfl (fun ls hl => ?_)
  refine lv_aload_n hc.x hc.b dL_law__2873 rfl (lv_at hl 3 rfl) ?_
  refine lv_aload_n hc.x hc.b dL_law__2874 rfl (lv_at hl 1 rfl) ?_
  refine lv_iload hc.x hc.b dL_law__2875 (lv_at hl 5 rfl) ?_
  refine lv_iconst (v := 1) hc.x hc.b dL_law__2877 (by decide) ?_
  refine lv_iadd hc.x hc.b dL_law__2878 ?_
  refine r_sld hc hX hbl hbA hd (hi.1) (ea.1) dL_law__2879 ?_
  obtain ⟨S_5, hq_4, hf⟩ := on_s hf
  refine k_v (k_runV hc hd my_X12_restore tw_1871 hL2 rfl rfl rfl (c_X12_restore l D cs B0 kt α Lv S_2 0 a1 hc.cl hL2  hq_4) rfl rfl hl.1 (Nat.le_of_ble_eq_true rfl) ⟨Nat.le_of_ble_eq_true rfl, Nat.le_of_ble_eq_true rfl, by show _ ≤ 601024; omega, by show _ ≤ 7293034; omega⟩ dL_law__2880) hd (fun H locs hd => ?_)
  refine lv_aload_n hc.x hc.b dL_law__2883 rfl (lv_at hl 3 rfl) ?_
  obtain ⟨r_7, hq_6, hf⟩ := on_s hf
  refine k_i (k_runV hc hd my_X12_thrown tw_1431 hL2 rfl rfl rfl (c_X12_thrown l D cs B0 kt α Lv S_5 0 hc.cl hL2  hq_6) rfl rfl hl.1 (Nat.le_of_ble_eq_true rfl) ⟨Nat.le_of_ble_eq_true rfl, Nat.le_of_ble_eq_true rfl, by show _ ≤ 601024; omega, by show _ ≤ 7293034; omega⟩ dL_law__2884) hd (fun H locs hd => ?_)
  refine lv_iload hc.x hc.b dL_law__2887 (lv_at hl 0 rfl) ?_
  refine lv_icmp_eq (tgt := 2894) hc.x hc.b dL_law__2889 (by decide) (fun c_8 => ?_) (fun c_8 => ?_)
  · have hf := br_y c_8 hf
    refine lv_goto (tgt := 2923) hc.x hc.b dL_law__2894 (by decide) ?_
    cases hf
    refine W.widen (k := cells + 40) (n := slots + 2000) (by omega) (by omega) ?_
    exact kk _ _ _ _ _ (hx.mono (by first | exact fun _ h => absurd h List.not_mem_nil | exact fun _ h => List.mem_append_left _ h | exact fun _ h => List.mem_append_right _ (List.mem_append_left _ h) | exact fun _ h => List.mem_append_right _ (List.mem_append_right _ h))) hc hd (lv_sub hl [1, 2, 3, 4, 5] rfl)
  · have hf := br_n c_8 hf
    refine lv_iconst (v := 0) hc.x hc.b dL_law__2892 (by decide) ?_
    cases hf
def fc_39 (gN : Nat) (a1 a2 a3 a4 a5 : Int32) (S : St) : Option St := on (f_X11_count 0 a1 S) (fun r_2 => on2 (f_X12_count 0 a1 S) (fun r_5 S_4 => br ((lg_cmp r_2 r_5) = 0) (some S_4) (none)))
set_option maxRecDepth 100000 in
set_option maxHeartbeats 8000000 in
theorem lc_39 (hc : Cx p s m args meth c cL_law_ 8 "PumpCrossingLaw" D cs B0 kt Lv) (hck : CK cs s) (hst : l.stackTraces = false) {b L : Nat} {xs : Nat → Int32} (hX : va_X b L xs s s.heap) (hbl : b < s.heap.size) (hbA : ¬ B0 ≤ b) {x4 a1 a2 a3 a4 a5 : Int32} (hi : inb (x4 + 1) L = true ∧ inb (x4 + 2) L = true ∧ inb (x4 + 3) L = true ∧ inb (x4 + 4) L = true ∧ inb (x4 + 5) L = true) (ea : xs (nn (x4 + 1)) = a1 ∧ xs (nn (x4 + 2)) = a2 ∧ xs (nn (x4 + 3)) = a3 ∧ xs (nn (x4 + 4)) = a4 ∧ xs (nn (x4 + 5)) = a5) {o S : St} {gN : Nat} (hlt : ∀ k g, Lv k g → k < 1000) (hfr : ∀ x ∈ FL gN, ¬ Lv x.1 x.2) (hL1 : Lv 0 0) (hL2 : Lv 60 0) (hL3 : Lv 81 0) (hcc : cells + 60 ≤ 601024) (hss : slots + 3000 ≤ 7293034) (kk : ∀ (α1 : Nat → Nat → Nat) (Lv1 : Nat → Nat → Prop) (H1 : Heap) (locs1 : List Loc) (ls1 : Array Slot), Ex α Lv (1000, 0) α1 Lv1 (FL gN) → Cx p s m args meth c cL_law_ 8 "PumpCrossingLaw" D cs B0 kt Lv1 → Dy s D cs B0 α1 Lv1 o H1 locs1 → lv_has ls1 8 [(0, .ref b), (1, .ref (α1 0 0)), (2, .ref (α1 60 0)), (3, .ref (α1 81 0)), (4, .int x4)] → W p l e room_1 s m args below meth c H1 locs1 (cells + 40) (slots + 2000) Q (F0 m 2923 ls1 [])) {H : Heap} {locs : List Loc} {ls : Array Slot} (hf : fc_39 gN a1 a2 a3 a4 a5 S = some o) (hd : Dy s D cs B0 α Lv S H locs) (hl : lv_has ls 8 [(0, .ref b), (1, .ref (α 0 0)), (2, .ref (α 60 0)), (3, .ref (α 81 0)), (4, .int x4)]) : W p l e room_1 s m args below meth c H locs cells slots Q (F0 m 2897 ls []) := by
  unfold fc_39 at hf
  have hx : Ex α Lv (1000, 0) α Lv [] := Ex.start hlt
  refine lv_aload_n hc.x hc.b dL_law__2897 rfl (lv_at hl 1 rfl) ?_
  refine lv_aload_n hc.x hc.b dL_law__2898 rfl (lv_at hl 0 rfl) ?_
  refine lv_iload hc.x hc.b dL_law__2899 (lv_at hl 4 rfl) ?_
  refine lv_iconst (v := 1) hc.x hc.b dL_law__2901 (by decide) ?_
  refine lv_iadd hc.x hc.b dL_law__2902 ?_
  refine r_sld hc hX hbl hbA hd (hi.1) (ea.1) dL_law__2903 ?_
  obtain ⟨r_2, hq_1, hf⟩ := on_s hf
  refine k_l (k_runV hc hd my_X11_count tw_440 hL1 rfl rfl rfl (c_X11_count l D cs B0 kt α Lv S 0 a1 hc.cl hL1  hq_1) rfl rfl hl.1 (Nat.le_of_ble_eq_true rfl) ⟨Nat.le_of_ble_eq_true rfl, Nat.le_of_ble_eq_true rfl, by show _ ≤ 601024; omega, by show _ ≤ 7293034; omega⟩ dL_law__2904) hd (fun H locs hd => ?_)
  refine lv_aload_n hc.x hc.b dL_law__2907 rfl (lv_at hl 2 rfl) ?_
  refine lv_aload_n hc.x hc.b dL_law__2908 rfl (lv_at hl 0 rfl) ?_
  refine lv_iload hc.x hc.b dL_law__2909 (lv_at hl 4 rfl) ?_
  refine lv_iconst (v := 1) hc.x hc.b dL_law__2911 (by decide) ?_
  refine lv_iadd hc.x hc.b dL_law__2912 ?_
  refine r_sld hc hX hbl hbA hd (hi.1) (ea.1) dL_law__2913 ?_
  obtain ⟨r_5, S_4, hq_3, hf⟩ := on2_s hf
  refine k_l (k_runV hc hd my_X12_count tw_1875 hL2 rfl rfl rfl (c_X12_count l D cs B0 kt α Lv S 0 a1 hc.cl hL2  hq_3) rfl rfl hl.1 (Nat.le_of_ble_eq_true rfl) ⟨Nat.le_of_ble_eq_true rfl, Nat.le_of_ble_eq_true rfl, by show _ ≤ 601024; omega, by show _ ≤ 7293034; omega⟩ dL_law__2914) hd (fun H locs hd => ?_)
  refine W.lcmp hc.x hc.b dL_law__2917 ?_
  refine lv_if_eq (tgt := 2923) hc.x hc.b dL_law__2918 (by decide) (fun c_6 => ?_) (fun c_6 => ?_)
  · have hf := br_y c_6 hf
    cases hf
    refine W.widen (k := cells + 40) (n := slots + 2000) (by omega) (by omega) ?_
    exact kk _ _ _ _ _ (hx.mono (by first | exact fun _ h => absurd h List.not_mem_nil | exact fun _ h => List.mem_append_left _ h | exact fun _ h => List.mem_append_right _ (List.mem_append_left _ h) | exact fun _ h => List.mem_append_right _ (List.mem_append_right _ h))) hc hd (lv_sub hl [0, 1, 2, 3, 4] rfl)
  · have hf := br_n c_6 hf
    refine lv_iconst (v := 0) hc.x hc.b dL_law__2921 (by decide) ?_
    cases hf
def stepf (gN : Nat) (a0 a1 a2 a3 a4 a5 : Int32) (S : St) : Option St := bv (a0 &&& 63) (fun q => br (q = 0) (fc_0 gN a1 a2 a3 a4 a5 S) (br (q = 1) (fc_1 gN a1 a2 a3 a4 a5 S) (br (q = 2) (fc_2 gN a1 a2 a3 a4 a5 S) (br (q = 3) (fc_3 gN a1 a2 a3 a4 a5 S) (br (q = 4) (fc_4 gN a1 a2 a3 a4 a5 S) (br (q = 5) (fc_5 gN a1 a2 a3 a4 a5 S) (br (q = 6) (fc_6 gN a1 a2 a3 a4 a5 S) (br (q = 7) (fc_7 gN a1 a2 a3 a4 a5 S) (br (q = 8) (fc_8 gN a1 a2 a3 a4 a5 S) (br (q = 9) (fc_9 gN a1 a2 a3 a4 a5 S) (br (q = 10) (fc_10 gN a1 a2 a3 a4 a5 S) (br (q = 11) (fc_11 gN a1 a2 a3 a4 a5 S) (br (q = 12) (fc_12 gN a1 a2 a3 a4 a5 S) (br (q = 13) (fc_13 gN a1 a2 a3 a4 a5 S) (br (q = 14) (fc_14 gN a1 a2 a3 a4 a5 S) (br (q = 15) (fc_15 gN a1 a2 a3 a4 a5 S) (br (q = 16) (fc_16 gN a1 a2 a3 a4 a5 S) (br (q = 17) (fc_17 gN a1 a2 a3 a4 a5 S) (br (q = 18) (fc_18 gN a1 a2 a3 a4 a5 S) (br (q = 19) (fc_19 gN a1 a2 a3 a4 a5 S) (br (q = 20) (fc_20 gN a1 a2 a3 a4 a5 S) (br (q = 21) (fc_21 gN a1 a2 a3 a4 a5 S) (br (q = 22) (fc_22 gN a1 a2 a3 a4 a5 S) (br (q = 23) (fc_23 gN a1 a2 a3 a4 a5 S) (br (q = 24) (fc_24 gN a1 a2 a3 a4 a5 S) (br (q = 25) (fc_25 gN a1 a2 a3 a4 a5 S) (br (q = 26) (fc_26 gN a1 a2 a3 a4 a5 S) (br (q = 27) (fc_27 gN a1 a2 a3 a4 a5 S) (br (q = 28) (fc_28 gN a1 a2 a3 a4 a5 S) (br (q = 29) (fc_29 gN a1 a2 a3 a4 a5 S) (br (q = 30) (fc_30 gN a1 a2 a3 a4 a5 S) (br (q = 31) (fc_31 gN a1 a2 a3 a4 a5 S) (br (q = 32) (fc_32 gN a1 a2 a3 a4 a5 S) (br (q = 33) (fc_33 gN a1 a2 a3 a4 a5 S) (br (q = 34) (fc_34 gN a1 a2 a3 a4 a5 S) (br (q = 35) (fc_35 gN a1 a2 a3 a4 a5 S) (br (q = 36) (fc_36 gN a1 a2 a3 a4 a5 S) (br (q = 37) (fc_37 gN a1 a2 a3 a4 a5 S) (br (q = 38) (fc_38 gN a1 a2 a3 a4 a5 S) (br (q = 39) (fc_39 gN a1 a2 a3 a4 a5 S) (some S)))))))))))))))))))))))))))))))))))))))))
end
