-- METHODS THAT MAKE OBJECTS: the book and the live ids grow
def QAi (D : va_G) (cs : Nat → ClassId) (B0 : Nat) (α : Nat → Nat → Nat) (Lv : Nat → Nat → Prop) (F : List (Nat × Nat)) (r : Int32) (S : St) : Array Value → State → Outcome → State → Prop := va_Qi (fun (r' : Int32) (u : (Nat → Nat → Nat) × (Nat → Nat → Prop)) => r' = r ∧ Ex α Lv (1000, 0) u.1 u.2 F ∧ Cl u.2) (fun u t => Wd D cs B0 u.1 u.2 S t.heap) (AB B0)
def QAv (D : va_G) (cs : Nat → ClassId) (B0 : Nat) (α : Nat → Nat → Nat) (Lv : Nat → Nat → Prop) (F : List (Nat × Nat)) (S : St) : Array Value → State → Outcome → State → Prop := va_Qv (fun (u : (Nat → Nat → Nat) × (Nat → Nat → Prop)) => Ex α Lv (1000, 0) u.1 u.2 F ∧ Cl u.2) (fun u t => Wd D cs B0 u.1 u.2 S t.heap) (AB B0)
theorem Ex.mono {α α0 : Nat → Nat → Nat} {Lv Lv0 : Nat → Nat → Prop} {X : Nat × Nat} {F F' : List (Nat × Nat)} (h : Ex α0 Lv0 X α Lv F') (hF : ∀ x ∈ F', x ∈ F) : Ex α0 Lv0 X α Lv F := ⟨h.1, h.2.1, fun k g hl => (h.2.2.1 k g hl).imp id (hF _), h.2.2.2⟩
section GRW
variable {p : Program} {l : Launch} {e : Env} {R : Room} {s : State} {m : MethodId} {args : Array Value} {below : List Frame} {meth : Method} {c : Code} {H : Heap} {locs : List Loc} {cells slots : Nat} {Q : State → Prop}
variable {cc : ByteArray} {pc : Nat} {ls : Array Slot} {rest : List Value} {nL : Nat} {own : String} {D : va_G} {cs : Nat → ClassId} {B0 : Nat} {kt : (Nat → Nat) × (Nat → Nat)} {α α0 : Nat → Nat → Nat} {Lv Lv0 : Nat → Nat → Prop} {S S' : St} {F F' : List (Nat × Nat)}
theorem q_iretA (hc : Cx p s m args meth c cc nL own D cs B0 kt Lv) (hd : Dy s D cs B0 α Lv S H locs) (hr : meth.sig.returnType = some .int) (hx : Ex α0 Lv0 (1000, 0) α Lv F') (hF : ∀ x ∈ F', x ∈ F) {v : Int32} (hdg : decode cc pc = .ok (.ireturn, 1)) : W p l e R s m args below meth c H locs cells slots (MQ below (QAi D cs B0 α0 Lv0 F v S) args s cells slots (AB B0)) (F0 m pc ls [.int v]) :=
  W.iret hc.x hc.b hr (fun t ht hW => ⟨⟨v, (α, Lv), rfl, ⟨rfl, hx.mono hF, hc.cl⟩, wd_eq ht hd.2⟩, hd.1.F ht⟩) hd.1.2.2 hdg hc.lk
theorem q_vretA (hc : Cx p s m args meth c cc nL own D cs B0 kt Lv) (hd : Dy s D cs B0 α Lv S H locs) (hr : meth.sig.returnType = none) (hx : Ex α0 Lv0 (1000, 0) α Lv F') (hF : ∀ x ∈ F', x ∈ F) (hdg : decode cc pc = .ok (.return_, 1)) : W p l e R s m args below meth c H locs cells slots (MQ below (QAv D cs B0 α0 Lv0 F S) args s cells slots (AB B0)) (F0 m pc ls []) :=
  W.vret hc.x hc.b hr (fun t ht hW => ⟨⟨(α, Lv), rfl, ⟨hx.mono hF, hc.cl⟩, wd_eq ht hd.2⟩, hd.1.F ht⟩) hd.1.2.2 hdg hc.lk
theorem k_runVN (hc : Cx p s m args meth c cc nL own D cs B0 kt Lv) (hck : CK cs s) (hd : Dy s D cs B0 α Lv S H locs) {y : MethodName} {C : String} {b : ByteArray} {n d mc ms kn index : Nat} {r : Option FieldType} (my : MyV y C b n r kn) (hlk : Cond.methodLink own index y ∈ lw_good) {k g : Nat} (hl : Lv k g) {ci : Nat} {fs : List Value} {q : vw_C} (hce : ce cs α S k g = .inr (ci, fs)) (hcl : vwCl[ci]? = some q) (hq : q.1 = C) {As : List Value} {Qc : Array Value → State → Outcome → State → Prop}
    (hM : Met l y (wz y b n r) (Rm d mc ms) (PzN D cs B0 kt α Lv S (.ref (α k g) :: As)) Qc mc ms (AB B0)) (hn : As.length = kn) {st0 : List Value} (hst : st0 = As.reverse ++ .ref (α k g) :: rest) (hls : ls.size = nL) (hw : (rest.map fun v => v.category).sum ≤ 8) (hR : d + 1 ≤ R.frames ∧ 8 + (n + 11) + 40 * d ≤ R.locals ∧ cells + mc ≤ R.cells ∧ slots + ms ≤ R.slots) (hdg : decode cc pc = .ok (.invokevirtual index, 3)) :
    va_Run p l e R s m args below meth c H locs cells slots mc ms (F0 m pc ls st0) rest (Qc (.ref (α k g) :: As).toArray) (AB B0) := by
  obtain ⟨m1, m2, m3, m4, m5⟩ := my
  have hG : GoodIn lw_good (wsV own index C y (wz y b n r)) := by
    intro w hw
    rcases List.mem_append.mp hw with h | h
    · have hm : w ∈ lw_good := by
        simp only [List.mem_cons, List.mem_nil_iff, or_false] at h
        rcases h with rfl | rfl | rfl | rfl
        · exact hlk
        · exact m1
        · exact m2
        · exact m3
      exact ⟨hm, good_of_word (List.mem_filter.mp hm).2⟩
    · exact good_1 m4 w h
  refine va_runV (nL := nL) (cc := cc) (own := own) (Ts := lw_good) ⟨hc.x, hc.b, hc.ml, hc.ow, fun w hw => hc.ts hw⟩ hM (cwV kn (fun w hw => hc.ts hw) hG rfl rfl rfl m5 ⟨hR.1, hR.2.1⟩) ⟨PzN.blind, ?_, PzN.at hc hck hd _⟩ rfl hn hls hst (lv_room hw) hdg ⟨hR.2.2.1, hR.2.2.2⟩
  have hP := hd.at hl
  rw [hce] at hP
  obtain ⟨cell, a1, a2, a3⟩ := va_recv hc.K hP (q0 := 0) hcl rfl
  exact ⟨cell, a1, a2, by rw [← hq]; exact a3⟩
/-- behind a call that made objects -/
theorem k_iA (hc : Cx p s m args meth c cc nL own D cs B0 kt Lv) {st0 : List Value} {a : Array Value} {v : Int32} {mc ms : Nat} (hr : va_Run p l e R s m args below meth c H locs cells slots mc ms (F0 m pc ls st0) rest (QAi D cs B0 α Lv F v S' a) (AB B0)) (hd : Dy s D cs B0 α Lv S H locs)
    (kk : ∀ (α' : Nat → Nat → Nat) (Lv' : Nat → Nat → Prop) (H1 : Heap) (locs1 : List Loc), (∀ k g, Lv k g → Lv' k g) → (∀ k g, Lv k g → α' k g = α k g) → Cx p s m args meth c cc nL own D cs B0 kt Lv' → Dy s D cs B0 α' Lv' S' H1 locs1 → Ex α Lv (1000, 0) α' Lv' F → W p l e R s m args below meth c H1 locs1 (cells + mc) (slots + ms) Q (F0 m (pc + 3) ls (.int v :: rest))) : W p l e R s m args below meth c H locs cells slots Q (F0 m pc ls st0) :=
  va_calli hr hd.1 (fun q _ h => h) (fun q h => h) (fun r u t H1 locs1 ht hvm hw hB hz1 hk1 hS => by
    obtain ⟨e, hx, hcl⟩ := hw
    subst e
    exact kk u.1 u.2 H1 locs1 (fun k g hl => hx.2.1 k g hl (fun h => by injection h with h1 h2; have := hx.2.2.2.2 k g hl; omega)) hx.1 (hc.lv hcl) ⟨hS, by rw [← ht]; exact hB⟩ hx)
theorem k_vA (hc : Cx p s m args meth c cc nL own D cs B0 kt Lv) {st0 : List Value} {a : Array Value} {mc ms : Nat} (hr : va_Run p l e R s m args below meth c H locs cells slots mc ms (F0 m pc ls st0) rest (QAv D cs B0 α Lv F S' a) (AB B0)) (hd : Dy s D cs B0 α Lv S H locs)
    (kk : ∀ (α' : Nat → Nat → Nat) (Lv' : Nat → Nat → Prop) (H1 : Heap) (locs1 : List Loc), (∀ k g, Lv k g → Lv' k g) → (∀ k g, Lv k g → α' k g = α k g) → Cx p s m args meth c cc nL own D cs B0 kt Lv' → Dy s D cs B0 α' Lv' S' H1 locs1 → Ex α Lv (1000, 0) α' Lv' F → W p l e R s m args below meth c H1 locs1 (cells + mc) (slots + ms) Q (F0 m (pc + 3) ls rest)) : W p l e R s m args below meth c H locs cells slots Q (F0 m pc ls st0) :=
  va_callv hr hd.1 (fun q _ h => h) (fun q h => h) (fun u t H1 locs1 ht hvm hw hB hz1 hk1 hS => by
    obtain ⟨hx, hcl⟩ := hw
    exact kk u.1 u.2 H1 locs1 (fun k g hl => hx.2.1 k g hl (fun h => by injection h with h1 h2; have := hx.2.2.2.2 k g hl; omega)) hx.1 (hc.lv hcl) ⟨hS, by rw [← ht]; exact hB⟩ hx)
end GRW
section
variable {p : Program} {l : Launch} {e : Env} {s : State} {m : MethodId} {args : Array Value} {below : List Frame} {meth : Method} {c : Code} {D : va_G} {cs : Nat → ClassId} {B0 : Nat} {kt : (Nat → Nat) × (Nat → Nat)} {α : Nat → Nat → Nat} {Lv : Nat → Nat → Prop}
abbrev F_X11_rules (gN : Nat) : List (Nat × Nat) := F_X7_init gN ++ [(132, gN)]
def f_X11_rules (g0 gN : Nat) (x1 : Int32) (x2 : Int32) (S : St) : Option ((Nat ⊕ Int32) × St) := xb (τ := Unit) (f_X11_needStation g0 x1 S) (fun _u S_2 => xb (τ := Unit) (f_X11_needWithin g0 x2 0 (gi S_2 28 0 1) S_2) (fun _u S_4 => on (f_X9_read 0 x2 1 S_4) (fun S_6 => br ((gi S_6 28 0 6) = 0) (bv (zr S_6 132 gN 0) (fun S_10 => on (f_X7_init gN 0 S_10) (fun S_11 => ck (inb x1 4 = true) (bv (sr S_11 8 0 (nn x1) (some gN)) (fun S_14 => on (f_X9_answer 0 S_14) (fun r_16 => some (.inr r_16, S_14))))))) (on (f_X9_answer 0 S_6) (fun r_9 => some (.inr r_9, S_6))))))
set_option maxRecDepth 100000 in
set_option maxHeartbeats 8000000 in
theorem b_X11_rules (hc : Cx p s m args meth c cX11_rules 3 "PumpCrossing" D cs B0 kt Lv) (hck : CK cs s) (hr : meth.sig.returnType = some .int) {r : Int32} {S S1 : St} {g0 gN : Nat} {x1 : Int32} {x2 : Int32} (hlt : ∀ k g, Lv k g → k < 1000) (hfr : ∀ x ∈ F_X11_rules gN, ¬ Lv x.1 x.2) (hL0 : Lv 0 g0) {H : Heap} {locs : List Loc} {ls : Array Slot} (hf : f_X11_rules g0 gN x1 x2 S = some (.inr r, S1)) (hd : Dy s D cs B0 α Lv S H locs) (hl : lv_has ls 3 [(0, .ref (α 0 g0)), (1, .int x1), (2, .int x2)]) : W p l e (Rm 9 3 414) s m args below meth c H locs 0 0 (MQ below (QAi D cs B0 α Lv (F_X11_rules gN) r S1) args s 3 414 (AB B0)) (F0 m 0 ls []) := by
  unfold f_X11_rules at hf
  have hx : Ex α Lv (1000, 0) α Lv [] := Ex.start hlt
  have hm : Mk α [32] α := Mk.start
  refine lv_aload_n hc.x hc.b dX11_rules_0 rfl (lv_at hl 0 rfl) ?_
  refine lv_iload_n hc.x hc.b dX11_rules_1 rfl (lv_at hl 1 rfl) ?_
  rcases xb_s hf with ⟨k9, S9, hq_1, h9⟩ | ⟨_u, S_2, hq_1, hf⟩
  · cases h9
  refine k_v (k_runV hc hd my_X11_needStation tw_559 hL0 rfl rfl rfl (c_X11_needStation l D cs B0 kt α Lv S g0 x1 hc.cl hL0  hq_1) rfl rfl hl.1 (Nat.le_of_ble_eq_true rfl) ⟨Nat.le_of_ble_eq_true rfl, Nat.le_of_ble_eq_true rfl, Nat.le_of_ble_eq_true rfl, Nat.le_of_ble_eq_true rfl⟩ dX11_rules_2) hd (fun H locs hd => ?_)
  refine lv_aload_n hc.x hc.b dX11_rules_5 rfl (lv_at hl 0 rfl) ?_
  refine lv_iload_n hc.x hc.b dX11_rules_6 rfl (lv_at hl 2 rfl) ?_
  refine lv_iconst (v := 0) hc.x hc.b dX11_rules_7 (by decide) ?_
  refine lv_aload_n hc.x hc.b dX11_rules_8 rfl (lv_at hl 0 rfl) ?_
  refine fg_0_2 hc hd hL0 tw_355 dX11_rules_9 ?_
  refine fg_28_1 hc hd (cl_0_reader hc.cl hL0) tw_220 dX11_rules_12 ?_
  rcases xb_s hf with ⟨k9, S9, hq_3, h9⟩ | ⟨_u, S_4, hq_3, hf⟩
  · cases h9
  refine k_v (k_runV hc hd my_X11_needWithin tw_527 hL0 rfl rfl rfl (c_X11_needWithin l D cs B0 kt α Lv S_2 g0 x2 0 (gi S_2 28 0 1) hc.cl hL0  hq_3) rfl rfl hl.1 (Nat.le_of_ble_eq_true rfl) ⟨Nat.le_of_ble_eq_true rfl, Nat.le_of_ble_eq_true rfl, Nat.le_of_ble_eq_true rfl, Nat.le_of_ble_eq_true rfl⟩ dX11_rules_15) hd (fun H locs hd => ?_)
  refine lv_aload_n hc.x hc.b dX11_rules_18 rfl (lv_at hl 0 rfl) ?_
  refine fg_0_2 hc hd hL0 tw_355 dX11_rules_19 ?_
  refine lv_iload_n hc.x hc.b dX11_rules_22 rfl (lv_at hl 2 rfl) ?_
  refine lv_iconst (v := 1) hc.x hc.b dX11_rules_23 (by decide) ?_
  obtain ⟨S_6, hq_5, hf⟩ := on_s hf
  refine k_v (k_runV hc hd my_X9_read tw_615 (cl_0_reader hc.cl hL0) rfl rfl rfl (c_X9_read l D cs B0 kt α Lv S_4 0 x2 1 hc.cl (cl_0_reader hc.cl hL0)  hq_5) rfl rfl hl.1 (Nat.le_of_ble_eq_true rfl) ⟨Nat.le_of_ble_eq_true rfl, Nat.le_of_ble_eq_true rfl, Nat.le_of_ble_eq_true rfl, Nat.le_of_ble_eq_true rfl⟩ dX11_rules_24) hd (fun H locs hd => ?_)
  refine lv_aload_n hc.x hc.b dX11_rules_27 rfl (lv_at hl 0 rfl) ?_
  refine fg_0_2 hc hd hL0 tw_355 dX11_rules_28 ?_
  refine fg_28_6 hc hd (cl_0_reader hc.cl hL0) tw_232 dX11_rules_31 ?_
  refine lv_if_ne (tgt := 57) hc.x hc.b dX11_rules_34 (by decide) (fun c_7 => ?_) (fun c_7 => ?_)
  · have hf := br_n c_7 hf
    refine lv_aload_n hc.x hc.b dX11_rules_57 rfl (lv_at hl 0 rfl) ?_
    refine fg_0_2 hc hd hL0 tw_355 dX11_rules_58 ?_
    obtain ⟨r_9, hq_8, hf⟩ := on_s hf
    refine k_i (k_runV hc hd my_X9_answer tw_727 (cl_0_reader hc.cl hL0) rfl rfl rfl (c_X9_answer l D cs B0 kt α Lv S_6 0 hc.cl (cl_0_reader hc.cl hL0)  hq_8) rfl rfl hl.1 (Nat.le_of_ble_eq_true rfl) ⟨Nat.le_of_ble_eq_true rfl, Nat.le_of_ble_eq_true rfl, Nat.le_of_ble_eq_true rfl, Nat.le_of_ble_eq_true rfl⟩ dX11_rules_61) hd (fun H locs hd => ?_)
    refine W.widen (k := 3) (n := 414) (Nat.le_of_ble_eq_true rfl) (Nat.le_of_ble_eq_true rfl) ?_
    cases hf
    exact q_iretA hc hd hr hx (by first | exact fun _ h => h | exact fun _ h => absurd h List.not_mem_nil) dX11_rules_64
  · have hf := br_y c_7 hf
    refine lv_aload_n hc.x hc.b dX11_rules_37 rfl (lv_at hl 0 rfl) ?_
    refine fg_0_0 hc hd hL0 tw_353 dX11_rules_38 ?_
    refine fg_2_7 hc hd (cl_0_now hc.cl hL0) tw_151 dX11_rules_41 ?_
    refine lv_iload_n hc.x hc.b dX11_rules_44 rfl (lv_at hl 1 rfl) ?_
    have hT1 : Lv 8 0 := (cl_2_rules hc.cl (cl_0_now hc.cl hL0))
    refine q_newO (K := 132) (k := 32) (G := gN) (fs := [.null, .null]) hc hd hx hm (by decide) rfl (by decide) (hfr _ (List.mem_append_right _ (List.mem_cons_self))) List.not_mem_nil inX7 tyX7 tyX7_ok tw_712 tw_713 tw_23 rfl (fun β h => by
      show (.inr (7, [r0 (β 4200 gN), r0 (β 4201 gN)]) : va_E) = .inr (7, [.null, .null])
      rw [(h 0 (by decide) : β 4200 gN = 0), (h 1 (by decide) : β 4201 gN = 0)]; rfl) (fun j hj => by
      match j, hj with
      | 0, _ => rfl
      | 1, _ => rfl
      | n + 2, h => exact absurd h (by omega)) ⟨Nat.le_of_ble_eq_true rfl, Nat.le_of_ble_eq_true rfl⟩ dX11_rules_45 (fun α Lv H ho ha hv hN hc hd hx hm => ?_)
    obtain ⟨S_10, hd, hf⟩ := nmD hd hf
    refine w_st (st' := [.ref (α 132 gN), .int x1, .ref (α 8 0)]) (by rw [ha _ _ hT1]) ?_
    have hl : lv_has ls 3 [(0, .ref (α 0 g0)), (1, .int x1), (2, .int x2)] := by rw [ha _ _ hL0]; exact hl
    have hT1 := ho _ _ hT1
    have hL0 := ho _ _ hL0
    refine lv_dup hc.x hc.b dX11_rules_48 rfl ?_
    refine lv_aload_n hc.x hc.b dX11_rules_49 rfl (lv_at hl 0 rfl) ?_
    refine fg_0_2 hc hd hL0 tw_355 dX11_rules_50 ?_
    obtain ⟨S_11, hq_12, hf⟩ := on_s hf
    refine q_c hc (k_runI hc hck hd my_X7_init tw_714 (c_X7_init l D cs B0 kt α Lv S_10 gN 0 hc.cl hx.2.2.2.1 hN (cl_0_reader hc.cl hL0) (fun x h => hx.nl (K := x.1) (G := x.2) (hfr x (List.mem_append_left _ h)) ((by simp only [F_X7_init, List.cons_append, List.nil_append, List.forall_mem_cons, List.forall_mem_append, List.forall_mem_map]; simp [F_X7_init] <;> omega : ∀ x ∈ F_X7_init gN, x ∉ _) x h)) hq_12) rfl rfl hl.1 (Nat.le_of_ble_eq_true rfl) ⟨Nat.le_of_ble_eq_true rfl, Nat.le_of_ble_eq_true rfl, Nat.le_of_ble_eq_true rfl, Nat.le_of_ble_eq_true rfl⟩ dX11_rules_53) rfl hd hx hm (by decide) (hfr _ (List.mem_append_right _ (List.mem_cons_self))) (fun k9 g9 h9 h8 => by cases h9; exact absurd (hlt _ _ h8) (by decide)) (fun α Lv H locs ho ha hv hN hc hd hx hm => ?_)
    refine w_st (st' := [.ref (α 32 gN), .int x1, .ref (α 8 0)]) (by rw [ha _ _ hT1]) ?_
    have hl : lv_has ls 3 [(0, .ref (α 0 g0)), (1, .int x1), (2, .int x2)] := by rw [ha _ _ hL0]; exact hl
    have hT1 := ho _ _ hT1 (by decide)
    have hL0 := ho _ _ hL0 (by decide)
    obtain ⟨hi_13, hf⟩ := ck_s hf
    refine r_aast (v := some gN) hc hd hT1 (t0 := 5) (kt' := 32) (ci := 7) (rC := (RX7, TX7, 2)) (Or.inr (Or.inr ⟨rfl, rfl⟩)) (fun _ => rfl) rfl rfl (fun _ => ⟨_, rfl⟩) (fun r h => by cases h; exact hN) hi_13 dX11_rules_56 (fun H locs hd => ?_)
    obtain ⟨S_14, hd, hf⟩ := nmD hd hf
    refine lv_aload_n hc.x hc.b dX11_rules_57 rfl (lv_at hl 0 rfl) ?_
    refine fg_0_2 hc hd hL0 tw_355 dX11_rules_58 ?_
    obtain ⟨r_16, hq_15, hf⟩ := on_s hf
    refine k_i (k_runV hc hd my_X9_answer tw_727 (cl_0_reader hc.cl hL0) rfl rfl rfl (c_X9_answer l D cs B0 kt α Lv S_14 0 hc.cl (cl_0_reader hc.cl hL0)  hq_15) rfl rfl hl.1 (Nat.le_of_ble_eq_true rfl) ⟨Nat.le_of_ble_eq_true rfl, Nat.le_of_ble_eq_true rfl, Nat.le_of_ble_eq_true rfl, Nat.le_of_ble_eq_true rfl⟩ dX11_rules_61) hd (fun H locs hd => ?_)
    refine W.widen (k := 3) (n := 414) (Nat.le_of_ble_eq_true rfl) (Nat.le_of_ble_eq_true rfl) ?_
    cases hf
    exact q_iretA hc hd hr hx (by first | exact fun _ h => h | exact fun _ h => absurd h List.not_mem_nil) dX11_rules_64
theorem X11_rules_nt {g0 gN : Nat} {x1 : Int32} {x2 : Int32} {S_4 S1 : St} {k : Nat} (hf : (on (f_X9_read 0 x2 1 S_4) (fun S_6 => br ((gi S_6 28 0 6) = 0) (bv (zr S_6 132 gN 0) (fun S_10 => on (f_X7_init gN 0 S_10) (fun S_11 => ck (inb x1 4 = true) (bv (sr S_11 8 0 (nn x1) (some gN)) (fun S_14 => on (f_X9_answer 0 S_14) (fun r_16 => some (.inr r_16, S_14))))))) (on (f_X9_answer 0 S_6) (fun r_9 => some (.inr r_9, S_6)))) : Option ((Nat ⊕ Int32) × St)) = some (.inl k, S1)) : False := by
  obtain ⟨_, _, hf⟩ := on_s hf
  unfold br at hf
  split at hf
  · skip
    have hf := bv_e hf
    obtain ⟨_, _, hf⟩ := on_s hf
    obtain ⟨_, hf⟩ := ck_s hf
    have hf := bv_e hf
    obtain ⟨_, _, hf⟩ := on_s hf
    cases hf
  · skip
    obtain ⟨_, _, hf⟩ := on_s hf
    cases hf
set_option maxRecDepth 100000 in
set_option maxHeartbeats 8000000 in
theorem xb_X11_rules (hc : Cx p s m args meth c cX11_rules 3 "PumpCrossing" D cs B0 kt Lv) (hst : l.stackTraces = false) (hX : ∀ x ∈ c.exceptionTable.toList, False) {k : Nat} {S S1 : St} {g0 gN : Nat} {x1 : Int32} {x2 : Int32} (hL0 : Lv 0 g0) {H : Heap} {locs : List Loc} {ls : Array Slot} (hf : f_X11_rules g0 gN x1 x2 S = some (.inl k, S1)) (hd : Dy s D cs B0 α Lv S H locs) (hl : lv_has ls 3 [(0, .ref (α 0 g0)), (1, .int x1), (2, .int x2)]) : W p l e (Rm 9 1 6) s m args below meth c H locs 0 0 (vx_MQ below QF (XQ D cs B0 α Lv k S1) args s 1 6 (AB B0)) (F0 m 0 ls []) := by
  unfold f_X11_rules at hf
  refine lv_aload_n hc.x hc.b dX11_rules_0 rfl (lv_at hl 0 rfl) ?_
  refine lv_iload_n hc.x hc.b dX11_rules_1 rfl (lv_at hl 1 rfl) ?_
  rcases xb_s hf with ⟨k9, S9, hq_1, h9⟩ | ⟨_u, S_2, hq_1, hf⟩
  · cases h9
    exact x_go (x_runV hc hd my_X11_needStation tw_559 hL0 rfl rfl rfl (xc_X11_needStation l D cs B0 kt α Lv S g0 x1 hc.cl hL0  hq_1 hst) rfl rfl hl.1 (Nat.le_of_ble_eq_true rfl) ⟨Nat.le_of_ble_eq_true rfl, Nat.le_of_ble_eq_true rfl, Nat.le_of_ble_eq_true rfl, Nat.le_of_ble_eq_true rfl⟩ dX11_rules_2) hd hX hc.lk
  refine k_v (k_runV hc hd my_X11_needStation tw_559 hL0 rfl rfl rfl (c_X11_needStation l D cs B0 kt α Lv S g0 x1 hc.cl hL0  hq_1) rfl rfl hl.1 (Nat.le_of_ble_eq_true rfl) ⟨Nat.le_of_ble_eq_true rfl, Nat.le_of_ble_eq_true rfl, Nat.le_of_ble_eq_true rfl, Nat.le_of_ble_eq_true rfl⟩ dX11_rules_2) hd (fun H locs hd => ?_)
  refine lv_aload_n hc.x hc.b dX11_rules_5 rfl (lv_at hl 0 rfl) ?_
  refine lv_iload_n hc.x hc.b dX11_rules_6 rfl (lv_at hl 2 rfl) ?_
  refine lv_iconst (v := 0) hc.x hc.b dX11_rules_7 (by decide) ?_
  refine lv_aload_n hc.x hc.b dX11_rules_8 rfl (lv_at hl 0 rfl) ?_
  refine fg_0_2 hc hd hL0 tw_355 dX11_rules_9 ?_
  refine fg_28_1 hc hd (cl_0_reader hc.cl hL0) tw_220 dX11_rules_12 ?_
  rcases xb_s hf with ⟨k9, S9, hq_3, h9⟩ | ⟨_u, S_4, hq_3, hf⟩
  · cases h9
    exact x_go (x_runV hc hd my_X11_needWithin tw_527 hL0 rfl rfl rfl (xc_X11_needWithin l D cs B0 kt α Lv S_2 g0 x2 0 (gi S_2 28 0 1) hc.cl hL0  hq_3 hst) rfl rfl hl.1 (Nat.le_of_ble_eq_true rfl) ⟨Nat.le_of_ble_eq_true rfl, Nat.le_of_ble_eq_true rfl, Nat.le_of_ble_eq_true rfl, Nat.le_of_ble_eq_true rfl⟩ dX11_rules_15) hd hX hc.lk
  exact (X11_rules_nt (g0 := g0) hf).elim
theorem c_X11_rules (l : Launch) (D : va_G) (cs : Nat → ClassId) (B0 : Nat) (kt : (Nat → Nat) × (Nat → Nat)) (α : Nat → Nat → Nat) (Lv : Nat → Nat → Prop) (S : St) (g0 gN : Nat) (x1 : Int32) (x2 : Int32) (hcl : Cl Lv) (hlt : ∀ k g, Lv k g → k < 1000) (hfr : ∀ x ∈ F_X11_rules gN, ¬ Lv x.1 x.2) (hL0 : Lv 0 g0) {r : Int32} {S1 : St} (hf : f_X11_rules g0 gN x1 x2 S = some (.inr r, S1)) : Met l yX11_rules (wz yX11_rules cX11_rules 3 (some .int)) (Rm 9 3 414) (PzN D cs B0 kt α Lv S [.ref (α 0 g0), .int x1, .int x2]) (QAi D cs B0 α Lv (F_X11_rules gN) r S1) 3 414 (AB B0) := met_ofI (by decide) rfl hcl (Nat.le_of_ble_eq_true rfl) (fun p e s m below meth c hc hck _ hr hd ls hl => b_X11_rules hc hck hr hlt hfr hL0 hf hd hl)
theorem xc_X11_rules (l : Launch) (D : va_G) (cs : Nat → ClassId) (B0 : Nat) (kt : (Nat → Nat) × (Nat → Nat)) (α : Nat → Nat → Nat) (Lv : Nat → Nat → Prop) (S : St) (g0 gN : Nat) (x1 : Int32) (x2 : Int32) (hcl : Cl Lv) (hL0 : Lv 0 g0) {k : Nat} {S1 : St} (hf : f_X11_rules g0 gN x1 x2 S = some (.inl k, S1)) (hst : l.stackTraces = false) : vx_Met l yX11_rules (wz yX11_rules cX11_rules 3 (some .int)) (Rm 9 1 6) (Pz D cs B0 kt α Lv S [.ref (α 0 g0), .int x1, .int x2]) QF (XQ D cs B0 α Lv k S1) 1 6 (AB B0) := xmet_of (by decide) rfl hcl (Nat.le_of_ble_eq_true rfl) (fun p e s m below meth c hc hr hex hd ls hl => xb_X11_rules hc hst hex hL0 hf hd hl)
theorem my_X11_rules : MyV yX11_rules "PumpCrossing" cX11_rules 3 (some .int) 2 := ⟨tw_612, tw_613, tw_1, tw_614, by decide +kernel⟩
abbrev F_X11_law (gN : Nat) : List (Nat × Nat) := F_X5_init gN ++ [(135, gN)]
def f_X11_law (g0 gN : Nat) (x1 : Int32) (S : St) : Option ((Nat ⊕ Int32) × St) := xb (τ := Unit) (f_X11_needWithin g0 x1 0 (gi S 28 0 1) S) (fun _u S_2 => on (f_X9_read 0 x1 0 S_2) (fun S_4 => br ((gi S_4 28 0 6) = 0) (bv (zr S_4 135 gN 0) (fun S_8 => on (f_X5_init gN 0 S_8) (fun S_9 => bv (sr S_9 2 0 8 (some gN)) (fun S_11 => on (f_X9_answer 0 S_11) (fun r_13 => some (.inr r_13, S_11)))))) (on (f_X9_answer 0 S_4) (fun r_7 => some (.inr r_7, S_4)))))
set_option maxRecDepth 100000 in
set_option maxHeartbeats 8000000 in
theorem b_X11_law (hc : Cx p s m args meth c cX11_law 2 "PumpCrossing" D cs B0 kt Lv) (hck : CK cs s) (hr : meth.sig.returnType = some .int) {r : Int32} {S S1 : St} {g0 gN : Nat} {x1 : Int32} (hlt : ∀ k g, Lv k g → k < 1000) (hfr : ∀ x ∈ F_X11_law gN, ¬ Lv x.1 x.2) (hL0 : Lv 0 g0) {H : Heap} {locs : List Loc} {ls : Array Slot} (hf : f_X11_law g0 gN x1 S = some (.inr r, S1)) (hd : Dy s D cs B0 α Lv S H locs) (hl : lv_has ls 2 [(0, .ref (α 0 g0)), (1, .int x1)]) : W p l e (Rm 9 1 5) s m args below meth c H locs 0 0 (MQ below (QAi D cs B0 α Lv (F_X11_law gN) r S1) args s 1 5 (AB B0)) (F0 m 0 ls []) := by
  unfold f_X11_law at hf
  have hx : Ex α Lv (1000, 0) α Lv [] := Ex.start hlt
  have hm : Mk α [35] α := Mk.start
  refine lv_aload_n hc.x hc.b dX11_law_0 rfl (lv_at hl 0 rfl) ?_
  refine lv_iload_n hc.x hc.b dX11_law_1 rfl (lv_at hl 1 rfl) ?_
  refine lv_iconst (v := 0) hc.x hc.b dX11_law_2 (by decide) ?_
  refine lv_aload_n hc.x hc.b dX11_law_3 rfl (lv_at hl 0 rfl) ?_
  refine fg_0_2 hc hd hL0 tw_355 dX11_law_4 ?_
  refine fg_28_1 hc hd (cl_0_reader hc.cl hL0) tw_220 dX11_law_7 ?_
  rcases xb_s hf with ⟨k9, S9, hq_1, h9⟩ | ⟨_u, S_2, hq_1, hf⟩
  · cases h9
  refine k_v (k_runV hc hd my_X11_needWithin tw_527 hL0 rfl rfl rfl (c_X11_needWithin l D cs B0 kt α Lv S g0 x1 0 (gi S 28 0 1) hc.cl hL0  hq_1) rfl rfl hl.1 (Nat.le_of_ble_eq_true rfl) ⟨Nat.le_of_ble_eq_true rfl, Nat.le_of_ble_eq_true rfl, Nat.le_of_ble_eq_true rfl, Nat.le_of_ble_eq_true rfl⟩ dX11_law_10) hd (fun H locs hd => ?_)
  refine lv_aload_n hc.x hc.b dX11_law_13 rfl (lv_at hl 0 rfl) ?_
  refine fg_0_2 hc hd hL0 tw_355 dX11_law_14 ?_
  refine lv_iload_n hc.x hc.b dX11_law_17 rfl (lv_at hl 1 rfl) ?_
  refine lv_iconst (v := 0) hc.x hc.b dX11_law_18 (by decide) ?_
  obtain ⟨S_4, hq_3, hf⟩ := on_s hf
  refine k_v (k_runV hc hd my_X9_read tw_615 (cl_0_reader hc.cl hL0) rfl rfl rfl (c_X9_read l D cs B0 kt α Lv S_2 0 x1 0 hc.cl (cl_0_reader hc.cl hL0)  hq_3) rfl rfl hl.1 (Nat.le_of_ble_eq_true rfl) ⟨Nat.le_of_ble_eq_true rfl, Nat.le_of_ble_eq_true rfl, Nat.le_of_ble_eq_true rfl, Nat.le_of_ble_eq_true rfl⟩ dX11_law_19) hd (fun H locs hd => ?_)
  refine lv_aload_n hc.x hc.b dX11_law_22 rfl (lv_at hl 0 rfl) ?_
  refine fg_0_2 hc hd hL0 tw_355 dX11_law_23 ?_
  refine fg_28_6 hc hd (cl_0_reader hc.cl hL0) tw_232 dX11_law_26 ?_
  refine lv_if_ne (tgt := 50) hc.x hc.b dX11_law_29 (by decide) (fun c_5 => ?_) (fun c_5 => ?_)
  · have hf := br_n c_5 hf
    refine lv_aload_n hc.x hc.b dX11_law_50 rfl (lv_at hl 0 rfl) ?_
    refine fg_0_2 hc hd hL0 tw_355 dX11_law_51 ?_
    obtain ⟨r_7, hq_6, hf⟩ := on_s hf
    refine k_i (k_runV hc hd my_X9_answer tw_727 (cl_0_reader hc.cl hL0) rfl rfl rfl (c_X9_answer l D cs B0 kt α Lv S_4 0 hc.cl (cl_0_reader hc.cl hL0)  hq_6) rfl rfl hl.1 (Nat.le_of_ble_eq_true rfl) ⟨Nat.le_of_ble_eq_true rfl, Nat.le_of_ble_eq_true rfl, Nat.le_of_ble_eq_true rfl, Nat.le_of_ble_eq_true rfl⟩ dX11_law_54) hd (fun H locs hd => ?_)
    refine W.widen (k := 1) (n := 5) (Nat.le_of_ble_eq_true rfl) (Nat.le_of_ble_eq_true rfl) ?_
    cases hf
    exact q_iretA hc hd hr hx (by first | exact fun _ h => h | exact fun _ h => absurd h List.not_mem_nil) dX11_law_57
  · have hf := br_y c_5 hf
    refine lv_aload_n hc.x hc.b dX11_law_32 rfl (lv_at hl 0 rfl) ?_
    refine fg_0_0 hc hd hL0 tw_353 dX11_law_33 ?_
    have hT0 : Lv 2 0 := (cl_0_now hc.cl hL0)
    refine q_newO (K := 135) (k := 35) (G := gN) (fs := [.int 0, .int 0, .int 0, .int 0, .int 0]) hc hd hx hm (by decide) rfl (by decide) (hfr _ (List.mem_append_right _ (List.mem_cons_self))) List.not_mem_nil inX5 tyX5 tyX5_ok tw_738 tw_739 tw_25 rfl (fun _ _ => rfl) (fun j hj => by
      match j, hj with
      | 0, _ => rfl
      | 1, _ => rfl
      | 2, _ => rfl
      | 3, _ => rfl
      | 4, _ => rfl
      | n + 5, h => exact absurd h (by omega)) ⟨Nat.le_of_ble_eq_true rfl, Nat.le_of_ble_eq_true rfl⟩ dX11_law_36 (fun α Lv H ho ha hv hN hc hd hx hm => ?_)
    obtain ⟨S_8, hd, hf⟩ := nmD hd hf
    refine w_st (st' := [.ref (α 135 gN), .ref (α 2 0)]) (by rw [ha _ _ hT0]) ?_
    have hl : lv_has ls 2 [(0, .ref (α 0 g0)), (1, .int x1)] := by rw [ha _ _ hL0]; exact hl
    have hT0 := ho _ _ hT0
    have hL0 := ho _ _ hL0
    refine lv_dup hc.x hc.b dX11_law_39 rfl ?_
    refine lv_aload_n hc.x hc.b dX11_law_40 rfl (lv_at hl 0 rfl) ?_
    refine fg_0_2 hc hd hL0 tw_355 dX11_law_41 ?_
    obtain ⟨S_9, hq_10, hf⟩ := on_s hf
    refine q_c hc (k_runI hc hck hd my_X5_init tw_740 (c_X5_init l D cs B0 kt α Lv S_8 gN 0 hc.cl hx.2.2.2.1 hN (cl_0_reader hc.cl hL0) (fun x h => hx.nl (K := x.1) (G := x.2) (hfr x (List.mem_append_left _ h)) ((by simp only [F_X5_init, List.cons_append, List.nil_append, List.forall_mem_cons, List.forall_mem_append, List.forall_mem_map]; simp [F_X5_init] <;> omega : ∀ x ∈ F_X5_init gN, x ∉ _) x h)) hq_10) rfl rfl hl.1 (Nat.le_of_ble_eq_true rfl) ⟨Nat.le_of_ble_eq_true rfl, Nat.le_of_ble_eq_true rfl, Nat.le_of_ble_eq_true rfl, Nat.le_of_ble_eq_true rfl⟩ dX11_law_44) rfl hd hx hm (by decide) (hfr _ (List.mem_append_right _ (List.mem_cons_self))) (fun k9 g9 h9 h8 => by cases h9; exact absurd (hlt _ _ h8) (by decide)) (fun α Lv H locs ho ha hv hN hc hd hx hm => ?_)
    refine w_st (st' := [.ref (α 35 gN), .ref (α 2 0)]) (by rw [ha _ _ hT0]) ?_
    have hl : lv_has ls 2 [(0, .ref (α 0 g0)), (1, .int x1)] := by rw [ha _ _ hL0]; exact hl
    have hT0 := ho _ _ hT0 (by decide)
    have hL0 := ho _ _ hL0 (by decide)
    refine fp_2_8 (v := some gN) hc hd hT0 tw_153 (fun r h => by cases h; exact hN) dX11_law_47 (fun H locs hd => ?_)
    obtain ⟨S_11, hd, hf⟩ := nmD hd hf
    refine lv_aload_n hc.x hc.b dX11_law_50 rfl (lv_at hl 0 rfl) ?_
    refine fg_0_2 hc hd hL0 tw_355 dX11_law_51 ?_
    obtain ⟨r_13, hq_12, hf⟩ := on_s hf
    refine k_i (k_runV hc hd my_X9_answer tw_727 (cl_0_reader hc.cl hL0) rfl rfl rfl (c_X9_answer l D cs B0 kt α Lv S_11 0 hc.cl (cl_0_reader hc.cl hL0)  hq_12) rfl rfl hl.1 (Nat.le_of_ble_eq_true rfl) ⟨Nat.le_of_ble_eq_true rfl, Nat.le_of_ble_eq_true rfl, Nat.le_of_ble_eq_true rfl, Nat.le_of_ble_eq_true rfl⟩ dX11_law_54) hd (fun H locs hd => ?_)
    refine W.widen (k := 1) (n := 5) (Nat.le_of_ble_eq_true rfl) (Nat.le_of_ble_eq_true rfl) ?_
    cases hf
    exact q_iretA hc hd hr hx (by first | exact fun _ h => h | exact fun _ h => absurd h List.not_mem_nil) dX11_law_57
theorem X11_law_nt {g0 gN : Nat} {x1 : Int32} {S_2 S1 : St} {k : Nat} (hf : (on (f_X9_read 0 x1 0 S_2) (fun S_4 => br ((gi S_4 28 0 6) = 0) (bv (zr S_4 135 gN 0) (fun S_8 => on (f_X5_init gN 0 S_8) (fun S_9 => bv (sr S_9 2 0 8 (some gN)) (fun S_11 => on (f_X9_answer 0 S_11) (fun r_13 => some (.inr r_13, S_11)))))) (on (f_X9_answer 0 S_4) (fun r_7 => some (.inr r_7, S_4)))) : Option ((Nat ⊕ Int32) × St)) = some (.inl k, S1)) : False := by
  obtain ⟨_, _, hf⟩ := on_s hf
  unfold br at hf
  split at hf
  · skip
    have hf := bv_e hf
    obtain ⟨_, _, hf⟩ := on_s hf
    have hf := bv_e hf
    obtain ⟨_, _, hf⟩ := on_s hf
    cases hf
  · skip
    obtain ⟨_, _, hf⟩ := on_s hf
    cases hf
set_option maxRecDepth 100000 in
set_option maxHeartbeats 8000000 in
theorem xb_X11_law (hc : Cx p s m args meth c cX11_law 2 "PumpCrossing" D cs B0 kt Lv) (hst : l.stackTraces = false) (hX : ∀ x ∈ c.exceptionTable.toList, False) {k : Nat} {S S1 : St} {g0 gN : Nat} {x1 : Int32} (hL0 : Lv 0 g0) {H : Heap} {locs : List Loc} {ls : Array Slot} (hf : f_X11_law g0 gN x1 S = some (.inl k, S1)) (hd : Dy s D cs B0 α Lv S H locs) (hl : lv_has ls 2 [(0, .ref (α 0 g0)), (1, .int x1)]) : W p l e (Rm 9 1 6) s m args below meth c H locs 0 0 (vx_MQ below QF (XQ D cs B0 α Lv k S1) args s 1 6 (AB B0)) (F0 m 0 ls []) := by
  unfold f_X11_law at hf
  refine lv_aload_n hc.x hc.b dX11_law_0 rfl (lv_at hl 0 rfl) ?_
  refine lv_iload_n hc.x hc.b dX11_law_1 rfl (lv_at hl 1 rfl) ?_
  refine lv_iconst (v := 0) hc.x hc.b dX11_law_2 (by decide) ?_
  refine lv_aload_n hc.x hc.b dX11_law_3 rfl (lv_at hl 0 rfl) ?_
  refine fg_0_2 hc hd hL0 tw_355 dX11_law_4 ?_
  refine fg_28_1 hc hd (cl_0_reader hc.cl hL0) tw_220 dX11_law_7 ?_
  rcases xb_s hf with ⟨k9, S9, hq_1, h9⟩ | ⟨_u, S_2, hq_1, hf⟩
  · cases h9
    exact x_go (x_runV hc hd my_X11_needWithin tw_527 hL0 rfl rfl rfl (xc_X11_needWithin l D cs B0 kt α Lv S g0 x1 0 (gi S 28 0 1) hc.cl hL0  hq_1 hst) rfl rfl hl.1 (Nat.le_of_ble_eq_true rfl) ⟨Nat.le_of_ble_eq_true rfl, Nat.le_of_ble_eq_true rfl, Nat.le_of_ble_eq_true rfl, Nat.le_of_ble_eq_true rfl⟩ dX11_law_10) hd hX hc.lk
  exact (X11_law_nt (g0 := g0) hf).elim
theorem c_X11_law (l : Launch) (D : va_G) (cs : Nat → ClassId) (B0 : Nat) (kt : (Nat → Nat) × (Nat → Nat)) (α : Nat → Nat → Nat) (Lv : Nat → Nat → Prop) (S : St) (g0 gN : Nat) (x1 : Int32) (hcl : Cl Lv) (hlt : ∀ k g, Lv k g → k < 1000) (hfr : ∀ x ∈ F_X11_law gN, ¬ Lv x.1 x.2) (hL0 : Lv 0 g0) {r : Int32} {S1 : St} (hf : f_X11_law g0 gN x1 S = some (.inr r, S1)) : Met l yX11_law (wz yX11_law cX11_law 2 (some .int)) (Rm 9 1 5) (PzN D cs B0 kt α Lv S [.ref (α 0 g0), .int x1]) (QAi D cs B0 α Lv (F_X11_law gN) r S1) 1 5 (AB B0) := met_ofI (by decide) rfl hcl (Nat.le_of_ble_eq_true rfl) (fun p e s m below meth c hc hck _ hr hd ls hl => b_X11_law hc hck hr hlt hfr hL0 hf hd hl)
theorem xc_X11_law (l : Launch) (D : va_G) (cs : Nat → ClassId) (B0 : Nat) (kt : (Nat → Nat) × (Nat → Nat)) (α : Nat → Nat → Nat) (Lv : Nat → Nat → Prop) (S : St) (g0 gN : Nat) (x1 : Int32) (hcl : Cl Lv) (hL0 : Lv 0 g0) {k : Nat} {S1 : St} (hf : f_X11_law g0 gN x1 S = some (.inl k, S1)) (hst : l.stackTraces = false) : vx_Met l yX11_law (wz yX11_law cX11_law 2 (some .int)) (Rm 9 1 6) (Pz D cs B0 kt α Lv S [.ref (α 0 g0), .int x1]) QF (XQ D cs B0 α Lv k S1) 1 6 (AB B0) := xmet_of (by decide) rfl hcl (Nat.le_of_ble_eq_true rfl) (fun p e s m below meth c hc hr hex hd ls hl => xb_X11_law hc hst hex hL0 hf hd hl)
theorem my_X11_law : MyV yX11_law "PumpCrossing" cX11_law 2 (some .int) 1 := ⟨tw_735, tw_736, tw_1, tw_737, by decide +kernel⟩
abbrev F_X11_image (gN : Nat) : List (Nat × Nat) := F_X2_init gN ++ [(102, gN)]
def f_X11_image (g0 gN : Nat) (x1 : Int32) (S : St) : Option ((Nat ⊕ Unit) × St) := xb (τ := Unit) (f_X11_needImage g0 x1 S) (fun _u S_2 => ck (inb x1 3 = true) (oz (gr S_2 1 0 (nn x1)) (bv (zr S_2 102 gN 0) (fun S_7 => on (f_X2_init gN S_7) (fun S_8 => ck (inb x1 3 = true) (bv (sr S_8 1 0 (nn x1) (some gN)) (fun S_11 => ck (inb x1 3 = true) (on (gr S_11 1 0 (nn x1)) (fun g_13 => on (f_X2_copyFrom g_13 0 S_11) (fun S_17 => some (.inr (), S_17))))))))) (fun g_5 => ck (inb x1 3 = true) (on (f_X2_copyFrom g_5 0 S_2) (fun S_20 => some (.inr (), S_20))))))
set_option maxRecDepth 100000 in
set_option maxHeartbeats 8000000 in
theorem b_X11_image (hc : Cx p s m args meth c cX11_image 2 "PumpCrossing" D cs B0 kt Lv) (hck : CK cs s) (hr : meth.sig.returnType = none) {S S1 : St} {g0 gN : Nat} {x1 : Int32} (hlt : ∀ k g, Lv k g → k < 1000) (hfr : ∀ x ∈ F_X11_image gN, ¬ Lv x.1 x.2) (hL0 : Lv 0 g0) {H : Heap} {locs : List Loc} {ls : Array Slot} (hf : f_X11_image g0 gN x1 S = some (.inr (), S1)) (hd : Dy s D cs B0 α Lv S H locs) (hl : lv_has ls 2 [(0, .ref (α 0 g0)), (1, .int x1)]) : W p l e (Rm 9 30 1472) s m args below meth c H locs 0 0 (MQ below (QAv D cs B0 α Lv (F_X11_image gN) S1) args s 30 1472 (AB B0)) (F0 m 0 ls []) := by
  unfold f_X11_image at hf
  have hx : Ex α Lv (1000, 0) α Lv [] := Ex.start hlt
  have hm : Mk α [2, 9, 14, 17, 22] α := Mk.start
  refine lv_aload_n hc.x hc.b dX11_image_0 rfl (lv_at hl 0 rfl) ?_
  refine lv_iload_n hc.x hc.b dX11_image_1 rfl (lv_at hl 1 rfl) ?_
  rcases xb_s hf with ⟨k9, S9, hq_1, h9⟩ | ⟨_u, S_2, hq_1, hf⟩
  · cases h9
  refine k_v (k_runV hc hd my_X11_needImage tw_1268 hL0 rfl rfl rfl (c_X11_needImage l D cs B0 kt α Lv S g0 x1 hc.cl hL0  hq_1) rfl rfl hl.1 (Nat.le_of_ble_eq_true rfl) ⟨Nat.le_of_ble_eq_true rfl, Nat.le_of_ble_eq_true rfl, Nat.le_of_ble_eq_true rfl, Nat.le_of_ble_eq_true rfl⟩ dX11_image_2) hd (fun H locs hd => ?_)
  refine lv_aload_n hc.x hc.b dX11_image_5 rfl (lv_at hl 0 rfl) ?_
  refine fg_0_1 hc hd hL0 tw_354 dX11_image_6 ?_
  refine lv_iload_n hc.x hc.b dX11_image_9 rfl (lv_at hl 1 rfl) ?_
  obtain ⟨hi_3, hf⟩ := ck_s hf
  refine r_aald hc hd (cl_0_images hc.cl hL0) (t0 := 4) rfl rfl rfl hi_3 dX11_image_10 ?_
  refine r_ifnonnull (tgt := 27) hc dX11_image_11 (by decide) (fun c_4 => ?_) (fun g_5 c_4 => ?_)
  · have hf := oz_n c_4 hf
    have hl := lv_sub hl [0, 1] rfl
    refine lv_aload_n hc.x hc.b dX11_image_14 rfl (lv_at hl 0 rfl) ?_
    refine fg_0_1 hc hd hL0 tw_354 dX11_image_15 ?_
    refine lv_iload_n hc.x hc.b dX11_image_18 rfl (lv_at hl 1 rfl) ?_
    have hT1 : Lv 1 0 := (cl_0_images hc.cl hL0)
    refine q_newO (K := 102) (k := 2) (G := gN) (fs := [.int 0, .null, .null, .null, .null, .null, .long 0, .null, .null, .null, .null, .null, .null, .null, .int 0, .null, .null, .null]) hc hd hx hm (by decide) rfl (by decide) (hfr _ (List.mem_append_right _ (List.mem_cons_self))) List.not_mem_nil inX2 tyX2 tyX2_ok tw_35 tw_36 tw_2 rfl (fun β h => by
      show (.inr (2, [.int 0, r0 (β 1201 gN), r0 (β 1202 gN), r0 (β 1203 gN), r0 (β 1204 gN), r0 (β 1205 gN), .long 0, r0 (β 1207 gN), .null, r0 (β 1209 gN), r0 (β 1210 gN), r0 (β 1211 gN), r0 (β 1212 gN), r0 (β 1213 gN), .int 0, r0 (β 1215 gN), r0 (β 1216 gN), r0 (β 1217 gN)]) : va_E) = .inr (2, [.int 0, .null, .null, .null, .null, .null, .long 0, .null, .null, .null, .null, .null, .null, .null, .int 0, .null, .null, .null])
      rw [(h 1 (by decide) : β 1201 gN = 0), (h 2 (by decide) : β 1202 gN = 0), (h 3 (by decide) : β 1203 gN = 0), (h 4 (by decide) : β 1204 gN = 0), (h 5 (by decide) : β 1205 gN = 0), (h 7 (by decide) : β 1207 gN = 0), (h 9 (by decide) : β 1209 gN = 0), (h 10 (by decide) : β 1210 gN = 0), (h 11 (by decide) : β 1211 gN = 0), (h 12 (by decide) : β 1212 gN = 0), (h 13 (by decide) : β 1213 gN = 0), (h 15 (by decide) : β 1215 gN = 0), (h 16 (by decide) : β 1216 gN = 0), (h 17 (by decide) : β 1217 gN = 0)]; rfl) (fun j hj => by
      match j, hj with
      | 0, _ => rfl
      | 1, _ => rfl
      | 2, _ => rfl
      | 3, _ => rfl
      | 4, _ => rfl
      | 5, _ => rfl
      | 6, _ => rfl
      | 7, _ => rfl
      | 8, _ => rfl
      | 9, _ => rfl
      | 10, _ => rfl
      | 11, _ => rfl
      | 12, _ => rfl
      | 13, _ => rfl
      | 14, _ => rfl
      | 15, _ => rfl
      | 16, _ => rfl
      | 17, _ => rfl
      | n + 18, h => exact absurd h (by omega)) ⟨Nat.le_of_ble_eq_true rfl, Nat.le_of_ble_eq_true rfl⟩ dX11_image_19 (fun α Lv H ho ha hv hN hc hd hx hm => ?_)
    obtain ⟨S_7, hd, hf⟩ := nmD hd hf
    refine w_st (st' := [.ref (α 102 gN), .int x1, .ref (α 1 0)]) (by rw [ha _ _ hT1]) ?_
    have hl : lv_has ls 2 [(0, .ref (α 0 g0)), (1, .int x1)] := by rw [ha _ _ hL0]; exact hl
    have hT1 := ho _ _ hT1
    have hL0 := ho _ _ hL0
    refine lv_dup hc.x hc.b dX11_image_22 rfl ?_
    obtain ⟨S_8, hq_9, hf⟩ := on_s hf
    refine q_c hc (k_runI hc hck hd my_X2_init tw_37 (c_X2_init l D cs B0 kt α Lv S_7 gN hc.cl hx.2.2.2.1 hN (fun x h => hx.nl (K := x.1) (G := x.2) (hfr x (List.mem_append_left _ h)) ((by simp only [F_X0_init_256, F_X0_init_60, F_X1_init, F_X2_init, F_X3_init, F_X8_init, mF, List.cons_append, List.nil_append, List.forall_mem_cons, List.forall_mem_append, List.forall_mem_map]; simp [F_X0_init_256, F_X0_init_60, F_X1_init, F_X2_init, F_X3_init, F_X8_init, mF] <;> omega : ∀ x ∈ F_X2_init gN, x ∉ _) x h)) hq_9) rfl rfl hl.1 (Nat.le_of_ble_eq_true rfl) ⟨Nat.le_of_ble_eq_true rfl, Nat.le_of_ble_eq_true rfl, Nat.le_of_ble_eq_true rfl, Nat.le_of_ble_eq_true rfl⟩ dX11_image_23) rfl hd hx hm (by decide) (hfr _ (List.mem_append_right _ (List.mem_cons_self))) (fun k9 g9 h9 h8 => by cases h9; exact absurd (hlt _ _ h8) (by decide)) (fun α Lv H locs ho ha hv hN hc hd hx hm => ?_)
    refine w_st (st' := [.ref (α 2 gN), .int x1, .ref (α 1 0)]) (by rw [ha _ _ hT1]) ?_
    have hl : lv_has ls 2 [(0, .ref (α 0 g0)), (1, .int x1)] := by rw [ha _ _ hL0]; exact hl
    have hT1 := ho _ _ hT1 (by decide)
    have hL0 := ho _ _ hL0 (by decide)
    obtain ⟨hi_10, hf⟩ := ck_s hf
    refine r_aast (v := some gN) hc hd hT1 (t0 := 4) (kt' := 2) (ci := 2) (rC := (RX2, TX2, 18)) (Or.inl ⟨rfl, rfl⟩) (fun _ => rfl) rfl rfl (fun _ => ⟨_, rfl⟩) (fun r h => by cases h; exact hN) hi_10 dX11_image_26 (fun H locs hd => ?_)
    obtain ⟨S_11, hd, hf⟩ := nmD hd hf
    refine lv_aload_n hc.x hc.b dX11_image_27 rfl (lv_at hl 0 rfl) ?_
    refine fg_0_1 hc hd hL0 tw_354 dX11_image_28 ?_
    refine lv_iload_n hc.x hc.b dX11_image_31 rfl (lv_at hl 1 rfl) ?_
    obtain ⟨hi_12, hf⟩ := ck_s hf
    refine r_aald hc hd (cl_0_images hc.cl hL0) (t0 := 4) rfl rfl rfl hi_12 dX11_image_32 ?_
    refine lv_aload_n hc.x hc.b dX11_image_33 rfl (lv_at hl 0 rfl) ?_
    refine fg_0_0 hc hd hL0 tw_353 dX11_image_34 ?_
    obtain ⟨g_13, hg_14, hf⟩ := on_s hf
    have hL_15 := hd.2.2.2.2.1 _ _ _ (cl_0_images hc.cl hL0) hg_14
    rw [hg_14]
    show W p l e _ s m args below meth c H locs _ _ _ (F0 m 37 ls [.ref (α 2 0), .ref (α 2 g_13)])
    obtain ⟨S_17, hq_16, hf⟩ := on_s hf
    refine k_v (k_runV hc hd my_X2_copyFrom tw_1273 hL_15 rfl rfl rfl (c_X2_copyFrom l D cs B0 kt α Lv S_11 g_13 0 hc.cl hL_15 (cl_0_now hc.cl hL0)  hq_16) rfl rfl hl.1 (Nat.le_of_ble_eq_true rfl) ⟨Nat.le_of_ble_eq_true rfl, Nat.le_of_ble_eq_true rfl, Nat.le_of_ble_eq_true rfl, Nat.le_of_ble_eq_true rfl⟩ dX11_image_37) hd (fun H locs hd => ?_)
    refine W.widen (k := 30) (n := 1472) (Nat.le_of_ble_eq_true rfl) (Nat.le_of_ble_eq_true rfl) ?_
    cases hf
    exact q_vretA hc hd hr hx (by first | exact fun _ h => h | exact fun _ h => absurd h List.not_mem_nil) dX11_image_40
  · have hf := oz_s c_4 hf
    have hL_6 := (hd.2.2.2.2.1 _ _ _ (cl_0_images hc.cl hL0) c_4)
    refine lv_aload_n hc.x hc.b dX11_image_27 rfl (lv_at hl 0 rfl) ?_
    refine fg_0_1 hc hd hL0 tw_354 dX11_image_28 ?_
    refine lv_iload_n hc.x hc.b dX11_image_31 rfl (lv_at hl 1 rfl) ?_
    obtain ⟨hi_18, hf⟩ := ck_s hf
    refine r_aald hc hd (cl_0_images hc.cl hL0) (t0 := 4) rfl rfl rfl hi_18 dX11_image_32 ?_
    show W p l e _ s m args below meth c H locs _ _ _ (F0 m 33 ls [va_rf (Option.map (α 2) (gr S_2 1 0 (nn x1)))])
    rw [c_4]
    show W p l e _ s m args below meth c H locs _ _ _ (F0 m 33 ls [.ref (α 2 g_5)])
    refine lv_aload_n hc.x hc.b dX11_image_33 rfl (lv_at hl 0 rfl) ?_
    refine fg_0_0 hc hd hL0 tw_353 dX11_image_34 ?_
    obtain ⟨S_20, hq_19, hf⟩ := on_s hf
    refine k_v (k_runV hc hd my_X2_copyFrom tw_1273 hL_6 rfl rfl rfl (c_X2_copyFrom l D cs B0 kt α Lv S_2 g_5 0 hc.cl hL_6 (cl_0_now hc.cl hL0)  hq_19) rfl rfl hl.1 (Nat.le_of_ble_eq_true rfl) ⟨Nat.le_of_ble_eq_true rfl, Nat.le_of_ble_eq_true rfl, Nat.le_of_ble_eq_true rfl, Nat.le_of_ble_eq_true rfl⟩ dX11_image_37) hd (fun H locs hd => ?_)
    refine W.widen (k := 30) (n := 1472) (Nat.le_of_ble_eq_true rfl) (Nat.le_of_ble_eq_true rfl) ?_
    cases hf
    exact q_vretA hc hd hr hx (by first | exact fun _ h => h | exact fun _ h => absurd h List.not_mem_nil) dX11_image_40
theorem X11_image_nt {g0 gN : Nat} {x1 : Int32} {S_2 S1 : St} {k : Nat} (hf : (ck (inb x1 3 = true) (oz (gr S_2 1 0 (nn x1)) (bv (zr S_2 102 gN 0) (fun S_7 => on (f_X2_init gN S_7) (fun S_8 => ck (inb x1 3 = true) (bv (sr S_8 1 0 (nn x1) (some gN)) (fun S_11 => ck (inb x1 3 = true) (on (gr S_11 1 0 (nn x1)) (fun g_13 => on (f_X2_copyFrom g_13 0 S_11) (fun S_17 => some (.inr (), S_17))))))))) (fun g_5 => ck (inb x1 3 = true) (on (f_X2_copyFrom g_5 0 S_2) (fun S_20 => some (.inr (), S_20))))) : Option ((Nat ⊕ Unit) × St)) = some (.inl k, S1)) : False := by
  obtain ⟨_, hf⟩ := ck_s hf
  unfold oz at hf
  split at hf
  · skip
    have hf := bv_e hf
    obtain ⟨_, _, hf⟩ := on_s hf
    obtain ⟨_, hf⟩ := ck_s hf
    have hf := bv_e hf
    obtain ⟨_, hf⟩ := ck_s hf
    obtain ⟨_, _, hf⟩ := on_s hf
    obtain ⟨_, _, hf⟩ := on_s hf
    cases hf
  · skip
    obtain ⟨_, hf⟩ := ck_s hf
    obtain ⟨_, _, hf⟩ := on_s hf
    cases hf
set_option maxRecDepth 100000 in
set_option maxHeartbeats 8000000 in
theorem xb_X11_image (hc : Cx p s m args meth c cX11_image 2 "PumpCrossing" D cs B0 kt Lv) (hst : l.stackTraces = false) (hX : ∀ x ∈ c.exceptionTable.toList, False) {k : Nat} {S S1 : St} {g0 gN : Nat} {x1 : Int32} (hL0 : Lv 0 g0) {H : Heap} {locs : List Loc} {ls : Array Slot} (hf : f_X11_image g0 gN x1 S = some (.inl k, S1)) (hd : Dy s D cs B0 α Lv S H locs) (hl : lv_has ls 2 [(0, .ref (α 0 g0)), (1, .int x1)]) : W p l e (Rm 9 1 6) s m args below meth c H locs 0 0 (vx_MQ below QF (XQ D cs B0 α Lv k S1) args s 1 6 (AB B0)) (F0 m 0 ls []) := by
  unfold f_X11_image at hf
  refine lv_aload_n hc.x hc.b dX11_image_0 rfl (lv_at hl 0 rfl) ?_
  refine lv_iload_n hc.x hc.b dX11_image_1 rfl (lv_at hl 1 rfl) ?_
  rcases xb_s hf with ⟨k9, S9, hq_1, h9⟩ | ⟨_u, S_2, hq_1, hf⟩
  · cases h9
    exact x_go (x_runV hc hd my_X11_needImage tw_1268 hL0 rfl rfl rfl (xc_X11_needImage l D cs B0 kt α Lv S g0 x1 hc.cl hL0  hq_1 hst) rfl rfl hl.1 (Nat.le_of_ble_eq_true rfl) ⟨Nat.le_of_ble_eq_true rfl, Nat.le_of_ble_eq_true rfl, Nat.le_of_ble_eq_true rfl, Nat.le_of_ble_eq_true rfl⟩ dX11_image_2) hd hX hc.lk
  exact (X11_image_nt (g0 := g0) hf).elim
theorem c_X11_image (l : Launch) (D : va_G) (cs : Nat → ClassId) (B0 : Nat) (kt : (Nat → Nat) × (Nat → Nat)) (α : Nat → Nat → Nat) (Lv : Nat → Nat → Prop) (S : St) (g0 gN : Nat) (x1 : Int32) (hcl : Cl Lv) (hlt : ∀ k g, Lv k g → k < 1000) (hfr : ∀ x ∈ F_X11_image gN, ¬ Lv x.1 x.2) (hL0 : Lv 0 g0) {S1 : St} (hf : f_X11_image g0 gN x1 S = some (.inr (), S1)) : Met l yX11_image (wz yX11_image cX11_image 2 none) (Rm 9 30 1472) (PzN D cs B0 kt α Lv S [.ref (α 0 g0), .int x1]) (QAv D cs B0 α Lv (F_X11_image gN) S1) 30 1472 (AB B0) := met_ofI (by decide) rfl hcl (Nat.le_of_ble_eq_true rfl) (fun p e s m below meth c hc hck _ hr hd ls hl => b_X11_image hc hck hr hlt hfr hL0 hf hd hl)
theorem xc_X11_image (l : Launch) (D : va_G) (cs : Nat → ClassId) (B0 : Nat) (kt : (Nat → Nat) × (Nat → Nat)) (α : Nat → Nat → Nat) (Lv : Nat → Nat → Prop) (S : St) (g0 gN : Nat) (x1 : Int32) (hcl : Cl Lv) (hL0 : Lv 0 g0) {k : Nat} {S1 : St} (hf : f_X11_image g0 gN x1 S = some (.inl k, S1)) (hst : l.stackTraces = false) : vx_Met l yX11_image (wz yX11_image cX11_image 2 none) (Rm 9 1 6) (Pz D cs B0 kt α Lv S [.ref (α 0 g0), .int x1]) QF (XQ D cs B0 α Lv k S1) 1 6 (AB B0) := xmet_of (by decide) rfl hcl (Nat.le_of_ble_eq_true rfl) (fun p e s m below meth c hc hr hex hd ls hl => xb_X11_image hc hst hex hL0 hf hd hl)
theorem my_X11_image : MyV yX11_image "PumpCrossing" cX11_image 2 none 1 := ⟨tw_1265, tw_1266, tw_1, tw_1267, by decide +kernel⟩
end
