def slen (i : Nat) : Int32 := Int32.ofNat (sby i).length
def schr (i : Nat) (j : Int32) : Int32 := (sby i).getD (nn j) 0 &&& 255
theorem str_at {i : Nat} (h : i < 41) : ∃ q, strT[i]? = some q := ⟨strT[i]'(by show i < 41; exact h), List.getElem?_eq_getElem (by show i < 41; exact h)⟩
section STR
variable {p : Program} {l : Launch} {e : Env} {R : Room} {s : State} {m : MethodId} {args : Array Value} {below : List Frame} {meth : Method} {c : Code} {H : Heap} {locs : List Loc} {cells slots : Nat} {Q : State → Prop}
variable {cc : ByteArray} {pc : Nat} {ls : Array Slot} {rest : List Value} {nL : Nat} {own : String} {D : va_G} {cs : Nat → ClassId} {B0 : Nat} {kt : (Nat → Nat) × (Nat → Nat)} {α : Nat → Nat → Nat} {Lv : Nat → Nat → Prop} {S : St}
theorem Cx.str (hc : Cx p s m args meth c cc nL own D cs B0 kt Lv) {i : Nat} (hi : i < 41) : vS (AB B0) (sby i) (kt.1 i) (kt.2 i) s s.heap := by
  obtain ⟨q, hq⟩ := str_at hi
  exact (hc.kc.2.2.2.1 i q hq).2
theorem r_tret (hc : Cx p s m args meth c cc nL own D cs B0 kt Lv) (hd : Dy s D cs B0 α Lv S H locs) {ty : FieldType} (hr : meth.sig.returnType = some ty) {v : Int32} (hn : narrow ty (.int v) = .int v) (hdg : decode cc pc = .ok (.ireturn, 1)) : W p l e R s m args below meth c H locs cells slots (MQ below (Qi D cs B0 α Lv v S) args s cells slots (AB B0)) (F0 m pc ls [.int v]) :=
  W.zret hc.x hc.b hr hn (fun t ht hW => ⟨⟨v, (), rfl, rfl, wd_eq ht hd.2⟩, hd.1.F ht⟩) hd.1.2.2 hdg hc.lk
theorem k_runVs (hc : Cx p s m args meth c cc nL own D cs B0 kt Lv) (hd : Dy s D cs B0 α Lv S H locs) {y : MethodName} {b : ByteArray} {n d mc ms kn index : Nat} {r : Option FieldType} (my : MyV y "java/lang/String" b n r kn) (hlk : Cond.methodLink own index y ∈ lw_good) {i : Nat} (hi : i < 41) {As : List Value} {Qc : Array Value → State → Outcome → State → Prop}
    (hM : Met l y (wz y b n r) (Rm d mc ms) (Pz D cs B0 kt α Lv S (.ref (kt.1 i) :: As)) Qc mc ms (AB B0)) (hn : As.length = kn) {st0 : List Value} (hst : st0 = As.reverse ++ .ref (kt.1 i) :: rest) (hls : ls.size = nL) (hw : (rest.map fun v => v.category).sum ≤ 8) (hR : d + 1 ≤ R.frames ∧ 8 + (n + 11) + 40 * d ≤ R.locals ∧ cells + mc ≤ R.cells ∧ slots + ms ≤ R.slots) (hdg : decode cc pc = .ok (.invokevirtual index, 3)) :
    va_Run p l e R s m args below meth c H locs cells slots mc ms (F0 m pc ls st0) rest (Qc (.ref (kt.1 i) :: As).toArray) (AB B0) := by
  obtain ⟨m1, m2, m3, m4, m5⟩ := my
  have hG : GoodIn lw_good (wsV own index "java/lang/String" y (wz y b n r)) := by
    intro w hw
    rcases List.mem_append.mp hw with h | h
    · have hm : w ∈ lw_good := by
        simp only [List.mem_cons, List.mem_nil_iff, or_false] at h
        rcases h with rfl | rfl | rfl | rfl
        · exact hlk
        · exact m1
        · exact m2
        · exact m3
      exact ⟨hm, good_of_word (List.mem_filter.mp hm).2⟩
    · exact good_1 m4 w h
  refine va_runV (nL := nL) (cc := cc) (own := own) (Ts := lw_good) ⟨hc.x, hc.b, hc.ml, hc.ow, fun w hw => hc.ts hw⟩ hM (cwV kn (fun w hw => hc.ts hw) hG rfl rfl rfl m5 ⟨hR.1, hR.2.1⟩) ⟨Pz.blind, ?_, Pz.at hc hd _⟩ rfl hn hls hst (lv_room hw) hdg ⟨hR.2.2.1, hR.2.2.2⟩
  obtain ⟨cell, h1, h2, h3, -⟩ := (hc.str hi).1.kept hd.1.2.1
  exact ⟨cell, h1, h2, h3⟩
theorem r_ldcS (hc : Cx p s m args meth c cc nL own D cs B0 kt Lv) {i index : Nat} {tx : String} (hs : strT[i]? = some (own, index, tx)) (hdg : decode cc pc = .ok (.ldc index, 2)) (kk : W p l e R s m args below meth c H locs cells slots Q (F0 m (pc + 2) ls (.ref (kt.1 i) :: rest))) : W p l e R s m args below meth c H locs cells slots Q (F0 m pc ls rest) :=
  va_ldcS hc.x hc.b hc.ow (hc.kc.2.2.2.1 i _ hs).1 hdg kk
theorem r_ldcSw (hc : Cx p s m args meth c cc nL own D cs B0 kt Lv) {i index : Nat} {tx : String} (hs : strT[i]? = some (own, index, tx)) (hdg : decode cc pc = .ok (.ldc_w index, 3)) (kk : W p l e R s m args below meth c H locs cells slots Q (F0 m (pc + 3) ls (.ref (kt.1 i) :: rest))) : W p l e R s m args below meth c H locs cells slots Q (F0 m pc ls rest) := by
  have hZ := (hc.kc.2.2.2.1 i _ hs).1
  intro T hT X
  obtain ⟨t, a1, b1⟩ := kk T hT X
  exact ⟨t, X.ldcStringW hc.x hc.ow (text := tx) (a := kt.1 i) hZ.1 hZ.2 (g := F0 m pc ls rest) rfl (by rw [hc.b]; exact hdg) t a1, b1⟩
end STR
theorem my_J0_coder_7d493 : MyV yJ0_coder_7d493 "java/lang/String" cJ0_coder_7d493 1 (some .byte) 0 := ⟨tw_636, tw_637, tw_19, tw_638, by decide +kernel⟩
theorem my_J0_isLatin1_aae02 : MyV yJ0_isLatin1_aae02 "java/lang/String" cJ0_isLatin1_aae02 1 (some .boolean) 0 := ⟨tw_646, tw_647, tw_19, tw_648, by decide +kernel⟩
theorem my_J0_length_8abf5 : MyV yJ0_length_8abf5 "java/lang/String" cJ0_length_8abf5 1 (some .int) 0 := ⟨tw_632, tw_633, tw_19, tw_634, by decide +kernel⟩
theorem my_J3_checkIndex_8e157 : MyS yJ3_checkIndex_8e157 cJ3_checkIndex_8e157 3 (some .int) 3 := ⟨tw_658, tw_21, tw_659, by decide +kernel⟩
theorem my_J0_checkIndex_df160 : MyS yJ0_checkIndex_df160 cJ0_checkIndex_df160 2 none 2 := ⟨tw_653, tw_19, tw_654, by decide +kernel⟩
theorem my_J1_charAt_3b067 : MyS yJ1_charAt_3b067 cJ1_charAt_3b067 2 (some .char) 2 := ⟨tw_650, tw_20, tw_651, by decide +kernel⟩
theorem my_J0_charAt_5068e : MyV yJ0_charAt_5068e "java/lang/String" cJ0_charAt_5068e 2 (some .char) 1 := ⟨tw_642, tw_643, tw_19, tw_644, by decide +kernel⟩
theorem c_coder (l : Launch) (D : va_G) (cs : Nat → ClassId) (B0 : Nat) (kt : (Nat → Nat) × (Nat → Nat)) (α : Nat → Nat → Nat) (Lv : Nat → Nat → Prop) (S : St) (i : Nat) (hi : i < 41) (hcl : Cl Lv) : Met l yJ0_coder_7d493 (wz yJ0_coder_7d493 cJ0_coder_7d493 1 (some .byte)) (Rm 0 0 0) (Pz D cs B0 kt α Lv S [.ref (kt.1 i)]) (Qi D cs B0 α Lv 0 S) 0 0 (AB B0) := met_of (by decide) rfl hcl (Nat.le_of_ble_eq_true rfl) (fun p e s m below meth c hc hr hd ls hl => by

  refine va_gets hc.x hc.b hc.kc.2.2.1 hd.1 hc.ow (hc.ts tw_639) (fun _ h => h) dJ0_coder_7d493_0 ?_
  refine lv_if_eq (tgt := 13) hc.x hc.b dJ0_coder_7d493_3 (by decide) (fun h => absurd h (by decide)) (fun _ => ?_)
  refine lv_aload_n hc.x hc.b dJ0_coder_7d493_6 rfl (lv_at hl 0 rfl) ?_
  refine vk_getf hc.x hc.b (hc.str hi).2.1 hd.1 hc.ow (hc.ts tw_1902) (fun _ h => h) dJ0_coder_7d493_7 ?_
  refine lv_goto (tgt := 14) hc.x hc.b dJ0_coder_7d493_10 (by decide) ?_
  exact r_tret hc hd hr rfl dJ0_coder_7d493_14)
theorem c_isLatin1 (l : Launch) (D : va_G) (cs : Nat → ClassId) (B0 : Nat) (kt : (Nat → Nat) × (Nat → Nat)) (α : Nat → Nat → Nat) (Lv : Nat → Nat → Prop) (S : St) (i : Nat) (hi : i < 41) (hcl : Cl Lv) : Met l yJ0_isLatin1_aae02 (wz yJ0_isLatin1_aae02 cJ0_isLatin1_aae02 1 (some .boolean)) (Rm 0 0 0) (Pz D cs B0 kt α Lv S [.ref (kt.1 i)]) (Qi D cs B0 α Lv 1 S) 0 0 (AB B0) := met_of (by decide) rfl hcl (Nat.le_of_ble_eq_true rfl) (fun p e s m below meth c hc hr hd ls hl => by

  refine va_gets hc.x hc.b hc.kc.2.2.1 hd.1 hc.ow (hc.ts tw_639) (fun _ h => h) dJ0_isLatin1_aae02_0 ?_
  refine lv_if_eq (tgt := 17) hc.x hc.b dJ0_isLatin1_aae02_3 (by decide) (fun h => absurd h (by decide)) (fun _ => ?_)
  refine lv_aload_n hc.x hc.b dJ0_isLatin1_aae02_6 rfl (lv_at hl 0 rfl) ?_
  refine vk_getf hc.x hc.b (hc.str hi).2.1 hd.1 hc.ow (hc.ts tw_1902) (fun _ h => h) dJ0_isLatin1_aae02_7 ?_
  refine lv_if_ne (tgt := 17) hc.x hc.b dJ0_isLatin1_aae02_10 (by decide) (fun h => absurd rfl h) (fun _ => ?_)
  refine lv_iconst (v := 1) hc.x hc.b dJ0_isLatin1_aae02_13 (by decide) ?_
  refine lv_goto (tgt := 18) hc.x hc.b dJ0_isLatin1_aae02_14 (by decide) ?_
  exact r_zret hc hd hr (Or.inr rfl) dJ0_isLatin1_aae02_18)
theorem c_slen (l : Launch) (D : va_G) (cs : Nat → ClassId) (B0 : Nat) (kt : (Nat → Nat) × (Nat → Nat)) (α : Nat → Nat → Nat) (Lv : Nat → Nat → Prop) (S : St) (i : Nat) (hi : i < 41) (hcl : Cl Lv) : Met l yJ0_length_8abf5 (wz yJ0_length_8abf5 cJ0_length_8abf5 1 (some .int)) (Rm 1 0 0) (Pz D cs B0 kt α Lv S [.ref (kt.1 i)]) (Qi D cs B0 α Lv (slen i) S) 0 0 (AB B0) := met_of (by decide) rfl hcl (Nat.le_of_ble_eq_true rfl) (fun p e s m below meth c hc hr hd ls hl => by

  refine lv_aload_n hc.x hc.b dJ0_length_8abf5_0 rfl (lv_at hl 0 rfl) ?_
  refine vk_getf hc.x hc.b (hc.str hi).2.2.1 hd.1 hc.ow (hc.ts tw_1901) (fun _ h => h) dJ0_length_8abf5_1 ?_
  refine va_tlen hc.x hc.b (hc.str hi).2.2.2 hd.1 (v := slen i) rfl dJ0_length_8abf5_4 ?_
  refine lv_aload_n hc.x hc.b dJ0_length_8abf5_5 rfl (lv_at hl 0 rfl) ?_
  refine k_i (k_runVs hc hd my_J0_coder_7d493 tw_635 hi (c_coder l D cs B0 kt α Lv S i hi hcl) rfl rfl hl.1 (Nat.le_of_ble_eq_true rfl) ⟨Nat.le_of_ble_eq_true rfl, Nat.le_of_ble_eq_true rfl, Nat.zero_le _, Nat.zero_le _⟩ dJ0_length_8abf5_6) hd (fun H locs hd => ?_)
  refine lv_ishr hc.x hc.b dJ0_length_8abf5_9 ?_
  rw [sb_shr0]
  exact r_iret hc hd hr dJ0_length_8abf5_10)
theorem c_pre (l : Launch) (D : va_G) (cs : Nat → ClassId) (B0 : Nat) (kt : (Nat → Nat) × (Nat → Nat)) (α : Nat → Nat → Nat) (Lv : Nat → Nat → Prop) (S : St) (j n : Int32) (v : Option Nat) (h0 : ¬ j < 0) (h1 : j < n) (hcl : Cl Lv) : Met l yJ3_checkIndex_8e157 (wz yJ3_checkIndex_8e157 cJ3_checkIndex_8e157 3 (some .int)) (Rm 0 0 0) (Pz D cs B0 kt α Lv S [.int j, .int n, va_rf v]) (Qi D cs B0 α Lv j S) 0 0 (AB B0) := by
  have hs : (lg_sl [.int j, .int n, va_rf v]).length ≤ 3 := by cases v <;> exact Nat.le_of_ble_eq_true rfl
  refine met_of (by decide) rfl hcl hs (fun p e s m below meth c hc hr hd ls hl => ?_)
  have hl : lv_has ls 3 [(0, .int j), (1, .int n), (2, va_rf v)] := by cases v <;> exact hl
  refine lv_iload_n hc.x hc.b dJ3_checkIndex_8e157_0 rfl (lv_at hl 0 rfl) ?_
  refine lv_if_lt (tgt := 9) hc.x hc.b dJ3_checkIndex_8e157_1 (by decide) (fun h => absurd h h0) (fun _ => ?_)
  refine lv_iload_n hc.x hc.b dJ3_checkIndex_8e157_4 rfl (lv_at hl 0 rfl) ?_
  refine lv_iload_n hc.x hc.b dJ3_checkIndex_8e157_5 rfl (lv_at hl 1 rfl) ?_
  refine lv_icmp_lt (tgt := 16) hc.x hc.b dJ3_checkIndex_8e157_6 (by decide) (fun _ => ?_) (fun h => absurd h1 h)
  refine lv_iload_n hc.x hc.b dJ3_checkIndex_8e157_16 rfl (lv_at hl 0 rfl) ?_
  exact r_iret hc hd hr dJ3_checkIndex_8e157_17
theorem c_chk (l : Launch) (D : va_G) (cs : Nat → ClassId) (B0 : Nat) (kt : (Nat → Nat) × (Nat → Nat)) (α : Nat → Nat → Nat) (Lv : Nat → Nat → Prop) (S : St) (j n : Int32) (h0 : ¬ j < 0) (h1 : j < n) (hcl : Cl Lv) : Met l yJ0_checkIndex_df160 (wz yJ0_checkIndex_df160 cJ0_checkIndex_df160 2 none) (Rm 1 0 0) (Pz D cs B0 kt α Lv S [.int j, .int n]) (Qv D cs B0 α Lv S) 0 0 (AB B0) := met_of (by decide) rfl hcl (Nat.le_of_ble_eq_true rfl) (fun p e s m below meth c hc hr hd ls hl => by

  refine lv_iload_n hc.x hc.b dJ0_checkIndex_df160_0 rfl (lv_at hl 0 rfl) ?_
  refine lv_iload_n hc.x hc.b dJ0_checkIndex_df160_1 rfl (lv_at hl 1 rfl) ?_
  obtain ⟨v, hv⟩ : ∃ v : Option Nat, va_Z "jdk/internal/util/Preconditions" "SIOOBE_FORMATTER" "Ljava/util/function/BiFunction;" (va_rf v) (AB B0) s s.heap := by
    rcases hc.kc.2.2.2.2.2.2.2.2.2.2.2.2 with h | ⟨q, h⟩
    · exact ⟨none, h⟩
    · exact ⟨some q, h⟩
  refine va_gets hc.x hc.b hv hd.1 hc.ow (hc.ts tw_655) (fun _ h => h) dJ0_checkIndex_df160_2 ?_
  refine k_i (k_runS hc hd my_J3_checkIndex_8e157 tw_657 (c_pre l D cs B0 kt α Lv S j n v h0 h1 hcl) rfl rfl hl.1 (Nat.le_of_ble_eq_true rfl) ⟨Nat.le_of_ble_eq_true rfl, Nat.le_of_ble_eq_true rfl, Nat.zero_le _, Nat.zero_le _⟩ dJ0_checkIndex_df160_5) hd (fun H locs hd => ?_)
  refine lv_pop hc.x hc.b dJ0_checkIndex_df160_8 rfl ?_
  exact r_vret hc hd hr dJ0_checkIndex_df160_9)
theorem str_idx {i : Nat} {j : Int32} (hi : i < 41) (h : inb j (sby i).length = true) : ¬ j < 0 ∧ j < slen i := by
  have h9 := vp_in_iff.mp (inb_in h)
  refine ⟨fun q => (inb_in h) (Or.inl q), ?_⟩
  have hb : (sby i).length < 2 ^ 31 := by
    have : ∀ k, k < 41 → (sby k).length < 2 ^ 31 := by decide +kernel
    exact this i hi
  rw [Int32.lt_iff_toInt_lt]
  have e : (slen i).toInt = ((sby i).length : Int) := nI_toInt hb
  omega
theorem c_l1 (l : Launch) (D : va_G) (cs : Nat → ClassId) (B0 : Nat) (kt : (Nat → Nat) × (Nat → Nat)) (α : Nat → Nat → Nat) (Lv : Nat → Nat → Prop) (S : St) (i : Nat) (j : Int32) (hi : i < 41) (hj : inb j (sby i).length = true) (hcl : Cl Lv) : Met l yJ1_charAt_3b067 (wz yJ1_charAt_3b067 cJ1_charAt_3b067 2 (some .char)) (Rm 2 0 0) (Pz D cs B0 kt α Lv S [.ref (kt.2 i), .int j]) (Qi D cs B0 α Lv (schr i j) S) 0 0 (AB B0) := met_of (by decide) rfl hcl (Nat.le_of_ble_eq_true rfl) (fun p e s m below meth c hc hr hd ls hl => by

  refine lv_iload_n hc.x hc.b dJ1_charAt_3b067_0 rfl (lv_at hl 1 rfl) ?_
  refine lv_aload_n hc.x hc.b dJ1_charAt_3b067_1 rfl (lv_at hl 0 rfl) ?_
  refine va_tlen hc.x hc.b (hc.str hi).2.2.2 hd.1 (v := slen i) rfl dJ1_charAt_3b067_2 ?_
  refine k_v (k_runS hc hd my_J0_checkIndex_df160 tw_652 (c_chk l D cs B0 kt α Lv S j (slen i) (str_idx hi hj).1 (str_idx hi hj).2 hcl) rfl rfl hl.1 (Nat.le_of_ble_eq_true rfl) ⟨Nat.le_of_ble_eq_true rfl, Nat.le_of_ble_eq_true rfl, Nat.zero_le _, Nat.zero_le _⟩ dJ1_charAt_3b067_3) hd (fun H locs hd => ?_)
  refine lv_aload_n hc.x hc.b dJ1_charAt_3b067_6 rfl (lv_at hl 0 rfl) ?_
  refine lv_iload_n hc.x hc.b dJ1_charAt_3b067_7 rfl (lv_at hl 1 rfl) ?_
  refine va_tb hc.x hc.b (hc.str hi).2.2.2 hd.1 (inb_in hj) rfl dJ1_charAt_3b067_8 ?_
  refine lv_sipush (v := 255) hc.x hc.b dJ1_charAt_3b067_9 (by decide) ?_
  refine lv_iand hc.x hc.b dJ1_charAt_3b067_12 ?_
  refine lv_i2c (v := schr i j) hc.x hc.b dJ1_charAt_3b067_13 (sc_c2 _) ?_
  exact r_tret hc hd hr (sc_nar _) dJ1_charAt_3b067_14)
theorem c_schr (l : Launch) (D : va_G) (cs : Nat → ClassId) (B0 : Nat) (kt : (Nat → Nat) × (Nat → Nat)) (α : Nat → Nat → Nat) (Lv : Nat → Nat → Prop) (S : St) (i : Nat) (j : Int32) (hi : i < 41) (hj : inb j (sby i).length = true) (hcl : Cl Lv) : Met l yJ0_charAt_5068e (wz yJ0_charAt_5068e cJ0_charAt_5068e 2 (some .char)) (Rm 3 0 0) (Pz D cs B0 kt α Lv S [.ref (kt.1 i), .int j]) (Qi D cs B0 α Lv (schr i j) S) 0 0 (AB B0) := met_of (by decide) rfl hcl (Nat.le_of_ble_eq_true rfl) (fun p e s m below meth c hc hr hd ls hl => by

  refine lv_aload_n hc.x hc.b dJ0_charAt_5068e_0 rfl (lv_at hl 0 rfl) ?_
  refine k_i (k_runVs hc hd my_J0_isLatin1_aae02 tw_645 hi (c_isLatin1 l D cs B0 kt α Lv S i hi hcl) rfl rfl hl.1 (Nat.le_of_ble_eq_true rfl) ⟨Nat.le_of_ble_eq_true rfl, Nat.le_of_ble_eq_true rfl, Nat.zero_le _, Nat.zero_le _⟩ dJ0_charAt_5068e_1) hd (fun H locs hd => ?_)
  refine lv_if_eq (tgt := 16) hc.x hc.b dJ0_charAt_5068e_4 (by decide) (fun h => absurd h (by decide)) (fun _ => ?_)
  refine lv_aload_n hc.x hc.b dJ0_charAt_5068e_7 rfl (lv_at hl 0 rfl) ?_
  refine vk_getf hc.x hc.b (hc.str hi).2.2.1 hd.1 hc.ow (hc.ts tw_1901) (fun _ h => h) dJ0_charAt_5068e_8 ?_
  refine lv_iload_n hc.x hc.b dJ0_charAt_5068e_11 rfl (lv_at hl 1 rfl) ?_
  refine k_i (k_runS hc hd my_J1_charAt_3b067 tw_649 (c_l1 l D cs B0 kt α Lv S i j hi hj hcl) rfl rfl hl.1 (Nat.le_of_ble_eq_true rfl) ⟨Nat.le_of_ble_eq_true rfl, Nat.le_of_ble_eq_true rfl, Nat.zero_le _, Nat.zero_le _⟩ dJ0_charAt_5068e_12) hd (fun H locs hd => ?_)
  exact r_tret hc hd hr (sc_nar _) dJ0_charAt_5068e_15)
