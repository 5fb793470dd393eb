section
variable {p : Program} {l : Launch} {e : Env} {s : State} {m : MethodId} {args : Array Value} {below : List Frame} {meth : Method} {c : Code} {D : va_G} {cs : Nat → ClassId} {B0 : Nat} {kt : (Nat → Nat) × (Nat → Nat)} {α : Nat → Nat → Nat} {Lv : Nat → Nat → Prop}
def f_X11_needStation (g0 : Nat) (x1 : Int32) (S : St) : Option ((Nat ⊕ Unit) × St) := bv (fun  (S_1 : St) => some (.inl 3, S_1)) (fun J_2 => br (x1 < 0) (J_2 S) (br (x1 < (gi S 2 0 0)) (some (.inr (), S)) (J_2 S)))
set_option maxRecDepth 100000 in
set_option maxHeartbeats 4000000 in
theorem b_X11_needStation (hc : Cx p s m args meth c cX11_needStation 2 "PumpCrossing" D cs B0 kt Lv) (hr : meth.sig.returnType = none)  {o : (Nat ⊕ Unit) × St} (hex : XH l c o) {S : St} {g0 : Nat} {x1 : Int32} (hL0 : Lv 0 g0) {H : Heap} {locs : List Loc} {ls : Array Slot} (hf : f_X11_needStation g0 x1 S = some o) (hd : Dy s D cs B0 α Lv S H locs) (hl : lv_has ls 2 [(0, .ref (α 0 g0)), (1, .int x1)]) : W p l e (RX 8 o) s m args below meth c H locs 0 0 (QXv D cs B0 α Lv o below args s) (F0 m 0 ls []) := by
  unfold f_X11_needStation at hf
  refine lv_iload_n hc.x hc.b dX11_needStation_0 rfl (lv_at hl 1 rfl) ?_
  refine jn_s (P := fun J_2 => ∀  (S_1 : St) (H : Heap) (locs : List Loc) (ls : Array Slot), J_2 S_1 = some o → Dy s D cs B0 α Lv S_1 H locs → lv_has ls 2 [] → W p l e (RX 8 o) s m args below meth c H locs 0 0 (QXv D cs B0 α Lv o below args s) (F0 m 15 ls [])) hf ?_ (fun J_2 hJ_2 hf => ?_)
  · intro S_1 H locs ls hf hd hl
    cases hf
    exact r_thrw_3 hc hd hl.1 hex.1 hex.2 tw_563 (i := 2) rfl (Nat.le_of_ble_eq_true rfl) (Nat.le_of_ble_eq_true rfl) (Nat.le_of_ble_eq_true rfl) (Nat.le_of_ble_eq_true rfl) dX11_needStation_15 dX11_needStation_18 dX11_needStation_19 dX11_needStation_22 dX11_needStation_25
  refine lv_if_lt (tgt := 15) hc.x hc.b dX11_needStation_1 (by decide) (fun c_3 => ?_) (fun c_3 => ?_)
  · have hf := br_y c_3 hf
    exact hJ_2 S _ _ _ hf hd (lv_sub hl [] rfl)
  · have hf := br_n c_3 hf
    refine lv_iload_n hc.x hc.b dX11_needStation_4 rfl (lv_at hl 1 rfl) ?_
    refine lv_aload_n hc.x hc.b dX11_needStation_5 rfl (lv_at hl 0 rfl) ?_
    refine fg_0_0 hc hd hL0 tw_353 dX11_needStation_6 ?_
    refine fg_2_0 hc hd (cl_0_now hc.cl hL0) tw_136 dX11_needStation_9 ?_
    refine lv_icmp_lt (tgt := 26) hc.x hc.b dX11_needStation_12 (by decide) (fun c_4 => ?_) (fun c_4 => ?_)
    · have hf := br_y c_4 hf
      cases hf
      exact r_vret hc hd hr dX11_needStation_26
    · have hf := br_n c_4 hf
      exact hJ_2 S _ _ _ hf hd (lv_sub hl [] rfl)
theorem c_X11_needStation (l : Launch) (D : va_G) (cs : Nat → ClassId) (B0 : Nat) (kt : (Nat → Nat) × (Nat → Nat)) (α : Nat → Nat → Nat) (Lv : Nat → Nat → Prop) (S : St) (g0 : Nat) (x1 : Int32) (hcl : Cl Lv) (hL0 : Lv 0 g0) {S1 : St} (hf : f_X11_needStation g0 x1 S = some (.inr (), S1)) : Met l yX11_needStation (wz yX11_needStation cX11_needStation 2 none) (Rm 8 0 0) (Pz D cs B0 kt α Lv S [.ref (α 0 g0), .int x1]) (Qv D cs B0 α Lv S1) 0 0 (AB B0) := met_of (by decide) rfl hcl (Nat.le_of_ble_eq_true rfl) (fun p e s m below meth c hc hr hd ls hl => b_X11_needStation hc hr XH.r hL0 hf hd hl)
theorem xc_X11_needStation (l : Launch) (D : va_G) (cs : Nat → ClassId) (B0 : Nat) (kt : (Nat → Nat) × (Nat → Nat)) (α : Nat → Nat → Nat) (Lv : Nat → Nat → Prop) (S : St) (g0 : Nat) (x1 : Int32) (hcl : Cl Lv) (hL0 : Lv 0 g0) {k : Nat} {S1 : St} (hf : f_X11_needStation g0 x1 S = some (.inl k, S1)) (hst : l.stackTraces = false) : vx_Met l yX11_needStation (wz yX11_needStation cX11_needStation 2 none) (Rm 8 1 6) (Pz D cs B0 kt α Lv S [.ref (α 0 g0), .int x1]) QF (XQ D cs B0 α Lv k S1) 1 6 (AB B0) := xmet_of (by decide) rfl hcl (Nat.le_of_ble_eq_true rfl) (fun p e s m below meth c hc hr hex hd ls hl => b_X11_needStation hc hr (XH.l hst hex) hL0 hf hd hl)
theorem my_X11_needStation : MyV yX11_needStation "PumpCrossing" cX11_needStation 2 none 1 := ⟨tw_561, (in_sel 5 (by decide +kernel) (by decide +kernel)), tw_1, tw_562, by decide +kernel⟩
def f_X11_needTwo (g0 : Nat) (x1 : Int32) (x2 : Int32) (S : St) : Option ((Nat ⊕ Unit) × St) := xb (τ := Unit) (f_X11_needStation g0 x1 S) (fun _u S_2 => xb (τ := Unit) (f_X11_needStation g0 x2 S_2) (fun _u S_4 => br (x1 = x2) (some (.inl 2, S_4)) (some (.inr (), S_4))))
set_option maxRecDepth 100000 in
set_option maxHeartbeats 4000000 in
theorem b_X11_needTwo (hc : Cx p s m args meth c cX11_needTwo 3 "PumpCrossing" D cs B0 kt Lv) (hr : meth.sig.returnType = none)  {o : (Nat ⊕ Unit) × St} (hex : XH l c o) {S : St} {g0 : Nat} {x1 : Int32} {x2 : Int32} (hL0 : Lv 0 g0) {H : Heap} {locs : List Loc} {ls : Array Slot} (hf : f_X11_needTwo g0 x1 x2 S = some o) (hd : Dy s D cs B0 α Lv S H locs) (hl : lv_has ls 3 [(0, .ref (α 0 g0)), (1, .int x1), (2, .int x2)]) : W p l e (RX 9 o) s m args below meth c H locs 0 0 (QXv D cs B0 α Lv o below args s) (F0 m 0 ls []) := by
  unfold f_X11_needTwo at hf
  refine lv_aload_n hc.x hc.b dX11_needTwo_0 rfl (lv_at hl 0 rfl) ?_
  refine lv_iload_n hc.x hc.b dX11_needTwo_1 rfl (lv_at hl 1 rfl) ?_
  rcases xb_s hf with ⟨k9, S9, hq_1, rfl⟩ | ⟨_u, S_2, hq_1, hf⟩
  · exact x_go (x_runV hc hd my_X11_needStation tw_559 hL0 rfl rfl rfl (xc_X11_needStation l D cs B0 kt α Lv S g0 x1 hc.cl hL0  hq_1 hex.1) rfl rfl hl.1 (Nat.le_of_ble_eq_true rfl) ⟨Nat.le_of_ble_eq_true rfl, Nat.le_of_ble_eq_true rfl, Nat.le_of_ble_eq_true rfl, Nat.le_of_ble_eq_true rfl⟩ dX11_needTwo_2) hd hex.2 hc.lk
  refine k_v (k_runV hc hd my_X11_needStation tw_559 hL0 rfl rfl rfl (c_X11_needStation l D cs B0 kt α Lv S g0 x1 hc.cl hL0  hq_1) rfl rfl hl.1 (Nat.le_of_ble_eq_true rfl) ⟨Nat.le_of_ble_eq_true rfl, Nat.le_of_ble_eq_true rfl, Nat.zero_le _, Nat.zero_le _⟩ dX11_needTwo_2) hd (fun H locs hd => ?_)
  refine lv_aload_n hc.x hc.b dX11_needTwo_5 rfl (lv_at hl 0 rfl) ?_
  refine lv_iload_n hc.x hc.b dX11_needTwo_6 rfl (lv_at hl 2 rfl) ?_
  rcases xb_s hf with ⟨k9, S9, hq_3, rfl⟩ | ⟨_u, S_4, hq_3, hf⟩
  · exact x_go (x_runV hc hd my_X11_needStation tw_559 hL0 rfl rfl rfl (xc_X11_needStation l D cs B0 kt α Lv S_2 g0 x2 hc.cl hL0  hq_3 hex.1) rfl rfl hl.1 (Nat.le_of_ble_eq_true rfl) ⟨Nat.le_of_ble_eq_true rfl, Nat.le_of_ble_eq_true rfl, Nat.le_of_ble_eq_true rfl, Nat.le_of_ble_eq_true rfl⟩ dX11_needTwo_7) hd hex.2 hc.lk
  refine k_v (k_runV hc hd my_X11_needStation tw_559 hL0 rfl rfl rfl (c_X11_needStation l D cs B0 kt α Lv S_2 g0 x2 hc.cl hL0  hq_3) rfl rfl hl.1 (Nat.le_of_ble_eq_true rfl) ⟨Nat.le_of_ble_eq_true rfl, Nat.le_of_ble_eq_true rfl, Nat.zero_le _, Nat.zero_le _⟩ dX11_needTwo_7) hd (fun H locs hd => ?_)
  refine lv_iload_n hc.x hc.b dX11_needTwo_10 rfl (lv_at hl 1 rfl) ?_
  refine lv_iload_n hc.x hc.b dX11_needTwo_11 rfl (lv_at hl 2 rfl) ?_
  refine lv_icmp_ne (tgt := 26) hc.x hc.b dX11_needTwo_12 (by decide) (fun c_5 => ?_) (fun c_5 => ?_)
  · have hf := br_n c_5 hf
    cases hf
    exact r_vret hc hd hr dX11_needTwo_26
  · have hf := br_y c_5 hf
    cases hf
    exact r_thrw_2 hc hd hl.1 hex.1 hex.2 tw_531 (i := 8) rfl (Nat.le_of_ble_eq_true rfl) (Nat.le_of_ble_eq_true rfl) (Nat.le_of_ble_eq_true rfl) (Nat.le_of_ble_eq_true rfl) dX11_needTwo_15 dX11_needTwo_18 dX11_needTwo_19 dX11_needTwo_22 dX11_needTwo_25
theorem c_X11_needTwo (l : Launch) (D : va_G) (cs : Nat → ClassId) (B0 : Nat) (kt : (Nat → Nat) × (Nat → Nat)) (α : Nat → Nat → Nat) (Lv : Nat → Nat → Prop) (S : St) (g0 : Nat) (x1 : Int32) (x2 : Int32) (hcl : Cl Lv) (hL0 : Lv 0 g0) {S1 : St} (hf : f_X11_needTwo g0 x1 x2 S = some (.inr (), S1)) : Met l yX11_needTwo (wz yX11_needTwo cX11_needTwo 3 none) (Rm 9 0 0) (Pz D cs B0 kt α Lv S [.ref (α 0 g0), .int x1, .int x2]) (Qv D cs B0 α Lv S1) 0 0 (AB B0) := met_of (by decide) rfl hcl (Nat.le_of_ble_eq_true rfl) (fun p e s m below meth c hc hr hd ls hl => b_X11_needTwo hc hr XH.r hL0 hf hd hl)
theorem xc_X11_needTwo (l : Launch) (D : va_G) (cs : Nat → ClassId) (B0 : Nat) (kt : (Nat → Nat) × (Nat → Nat)) (α : Nat → Nat → Nat) (Lv : Nat → Nat → Prop) (S : St) (g0 : Nat) (x1 : Int32) (x2 : Int32) (hcl : Cl Lv) (hL0 : Lv 0 g0) {k : Nat} {S1 : St} (hf : f_X11_needTwo g0 x1 x2 S = some (.inl k, S1)) (hst : l.stackTraces = false) : vx_Met l yX11_needTwo (wz yX11_needTwo cX11_needTwo 3 none) (Rm 9 1 6) (Pz D cs B0 kt α Lv S [.ref (α 0 g0), .int x1, .int x2]) QF (XQ D cs B0 α Lv k S1) 1 6 (AB B0) := xmet_of (by decide) rfl hcl (Nat.le_of_ble_eq_true rfl) (fun p e s m below meth c hc hr hex hd ls hl => b_X11_needTwo hc hr (XH.l hst hex) hL0 hf hd hl)
theorem my_X11_needTwo : MyV yX11_needTwo "PumpCrossing" cX11_needTwo 3 none 2 := ⟨tw_973, (in_sel 19 (by decide +kernel) (by decide +kernel)), tw_1, tw_974, by decide +kernel⟩
def f_X11_needWithin (g0 : Nat) (x1 : Int32) (x2 : Int32) (x3 : Int32) (S : St) : Option ((Nat ⊕ Unit) × St) := bv (fun  (S_1 : St) => some (.inl 2, S_1)) (fun J_2 => br (x1 < x2) (J_2 S) (br (x1 ≤ x3) (some (.inr (), S)) (J_2 S)))
set_option maxRecDepth 100000 in
set_option maxHeartbeats 4000000 in
theorem b_X11_needWithin (hc : Cx p s m args meth c cX11_needWithin 4 "PumpCrossing" D cs B0 kt Lv) (hr : meth.sig.returnType = none)  {o : (Nat ⊕ Unit) × St} (hex : XH l c o) {S : St} {g0 : Nat} {x1 : Int32} {x2 : Int32} {x3 : Int32} (hL0 : Lv 0 g0) {H : Heap} {locs : List Loc} {ls : Array Slot} (hf : f_X11_needWithin g0 x1 x2 x3 S = some o) (hd : Dy s D cs B0 α Lv S H locs) (hl : lv_has ls 4 [(0, .ref (α 0 g0)), (1, .int x1), (2, .int x2), (3, .int x3)]) : W p l e (RX 8 o) s m args below meth c H locs 0 0 (QXv D cs B0 α Lv o below args s) (F0 m 0 ls []) := by
  unfold f_X11_needWithin at hf
  refine lv_iload_n hc.x hc.b dX11_needWithin_0 rfl (lv_at hl 1 rfl) ?_
  refine lv_iload_n hc.x hc.b dX11_needWithin_1 rfl (lv_at hl 2 rfl) ?_
  refine jn_s (P := fun J_2 => ∀  (S_1 : St) (H : Heap) (locs : List Loc) (ls : Array Slot), J_2 S_1 = some o → Dy s D cs B0 α Lv S_1 H locs → lv_has ls 4 [] → W p l e (RX 8 o) s m args below meth c H locs 0 0 (QXv D cs B0 α Lv o below args s) (F0 m 10 ls [])) hf ?_ (fun J_2 hJ_2 hf => ?_)
  · intro S_1 H locs ls hf hd hl
    cases hf
    exact r_thrw_2 hc hd hl.1 hex.1 hex.2 tw_531 (i := 1) rfl (Nat.le_of_ble_eq_true rfl) (Nat.le_of_ble_eq_true rfl) (Nat.le_of_ble_eq_true rfl) (Nat.le_of_ble_eq_true rfl) dX11_needWithin_10 dX11_needWithin_13 dX11_needWithin_14 dX11_needWithin_17 dX11_needWithin_20
  refine lv_icmp_lt (tgt := 10) hc.x hc.b dX11_needWithin_2 (by decide) (fun c_3 => ?_) (fun c_3 => ?_)
  · have hf := br_y c_3 hf
    exact hJ_2 S _ _ _ hf hd (lv_sub hl [] rfl)
  · have hf := br_n c_3 hf
    refine lv_iload_n hc.x hc.b dX11_needWithin_5 rfl (lv_at hl 1 rfl) ?_
    refine lv_iload_n hc.x hc.b dX11_needWithin_6 rfl (lv_at hl 3 rfl) ?_
    refine lv_icmp_le (tgt := 21) hc.x hc.b dX11_needWithin_7 (by decide) (fun c_4 => ?_) (fun c_4 => ?_)
    · have hf := br_y c_4 hf
      cases hf
      exact r_vret hc hd hr dX11_needWithin_21
    · have hf := br_n c_4 hf
      exact hJ_2 S _ _ _ hf hd (lv_sub hl [] rfl)
theorem c_X11_needWithin (l : Launch) (D : va_G) (cs : Nat → ClassId) (B0 : Nat) (kt : (Nat → Nat) × (Nat → Nat)) (α : Nat → Nat → Nat) (Lv : Nat → Nat → Prop) (S : St) (g0 : Nat) (x1 : Int32) (x2 : Int32) (x3 : Int32) (hcl : Cl Lv) (hL0 : Lv 0 g0) {S1 : St} (hf : f_X11_needWithin g0 x1 x2 x3 S = some (.inr (), S1)) : Met l yX11_needWithin (wz yX11_needWithin cX11_needWithin 4 none) (Rm 8 0 0) (Pz D cs B0 kt α Lv S [.ref (α 0 g0), .int x1, .int x2, .int x3]) (Qv D cs B0 α Lv S1) 0 0 (AB B0) := met_of (by decide) rfl hcl (Nat.le_of_ble_eq_true rfl) (fun p e s m below meth c hc hr hd ls hl => b_X11_needWithin hc hr XH.r hL0 hf hd hl)
theorem xc_X11_needWithin (l : Launch) (D : va_G) (cs : Nat → ClassId) (B0 : Nat) (kt : (Nat → Nat) × (Nat → Nat)) (α : Nat → Nat → Nat) (Lv : Nat → Nat → Prop) (S : St) (g0 : Nat) (x1 : Int32) (x2 : Int32) (x3 : Int32) (hcl : Cl Lv) (hL0 : Lv 0 g0) {k : Nat} {S1 : St} (hf : f_X11_needWithin g0 x1 x2 x3 S = some (.inl k, S1)) (hst : l.stackTraces = false) : vx_Met l yX11_needWithin (wz yX11_needWithin cX11_needWithin 4 none) (Rm 8 1 6) (Pz D cs B0 kt α Lv S [.ref (α 0 g0), .int x1, .int x2, .int x3]) QF (XQ D cs B0 α Lv k S1) 1 6 (AB B0) := xmet_of (by decide) rfl hcl (Nat.le_of_ble_eq_true rfl) (fun p e s m below meth c hc hr hex hd ls hl => b_X11_needWithin hc hr (XH.l hst hex) hL0 hf hd hl)
theorem my_X11_needWithin : MyV yX11_needWithin "PumpCrossing" cX11_needWithin 4 none 3 := ⟨tw_529, (in_sel 4 (by decide +kernel) (by decide +kernel)), tw_1, tw_530, by decide +kernel⟩
def f_X11_above_80 (g0 : Nat) (x3 : Int32) (x4 : Int32) (x6 : Int32) (K : Int32 → St → Option ((Nat ⊕ Int32) × St)) : Nat → Int32 → Int32 → St → Option ((Nat ⊕ Int32) × St)
  | 0, _, _, _ => none
  | n + 1, x7, x8, S => br (x4 < x8) (K x7 S) (on (f_X6_letGo 0 0 x3 x8 S) (fun S_18 => on (f_X4_together 0 (gi S_18 44 0 3) (gi S_18 44 0 4) S_18) (fun r_20 => bv (fun (x7_21 : Int32) (S_22 : St) => bv (x8 + 1) (fun x8_24 => f_X11_above_80 g0 x3 x4 x6 K n x7_21 x8_24 S_22)) (fun J_23 => br (r_20 ≤ x6) (J_23 x7 S_18) (bv (x7 + 1) (fun x7_26 => J_23 x7_26 S_18))))))
def f_X11_above (g0 : Nat) (x1 : Int32) (x2 : Int32) (x3 : Int32) (x4 : Int32) (S : St) : Option ((Nat ⊕ Int32) × St) := xb (τ := Unit) (f_X11_needTwo g0 x1 x2 S) (fun _u S_2 => xb (τ := Unit) (f_X11_needWithin g0 x3 1 300 S_2) (fun _u S_4 => xb (τ := Unit) (f_X11_needWithin g0 x4 1 20 S_4) (fun _u S_6 => on (f_X4_begin 0 0 x1 x2 S_6) (fun S_8 => on (f_X4_evenPair 0 0 S_8) (fun r_10 => br (r_10 = ((-1))) (some (.inr ((-1)), S_8)) (bv (dvI r_10 10) (fun q_12 => bv (rmI r_10 10) (fun q_13 => on (f_X4_together 0 q_12 q_13 S_8) (fun r_15 => f_X11_above_80 g0 x3 x4 r_15 (fun (x7_27 : Int32) (S_28 : St) => some (.inr x7_27, S_28)) FU 0 1 S_8)))))))))
set_option maxRecDepth 100000 in
set_option maxHeartbeats 4000000 in
theorem w_X11_above_80 (hc : Cx p s m args meth c cX11_above 9 "PumpCrossing" D cs B0 kt Lv) (hr : meth.sig.returnType = some .int) {o : (Nat ⊕ Int32) × St} (hex : XH l c o) {g0 : Nat} {x3 : Int32} {x4 : Int32} {x6 : Int32} {K : Int32 → St → Option ((Nat ⊕ Int32) × St)} (hL0 : Lv 0 g0) (hK : ∀ (k7 : Int32) (S : St) (H : Heap) (locs : List Loc) (ls : Array Slot), K k7 S = some o → Dy s D cs B0 α Lv S H locs → lv_has ls 9 [(7, .int k7)] → W p l e (RX 10 o) s m args below meth c H locs 0 0 (QXi D cs B0 α Lv o below args s) (F0 m 136 ls [])) : ∀ (n : Nat) (x7 : Int32) (x8 : Int32) (S : St) (H : Heap) (locs : List Loc) (ls : Array Slot), f_X11_above_80 g0 x3 x4 x6 K n x7 x8 S = some o → Dy s D cs B0 α Lv S H locs → lv_has ls 9 [(0, .ref (α 0 g0)), (3, .int x3), (4, .int x4), (6, .int x6), (7, .int x7), (8, .int x8)] → W p l e (RX 10 o) s m args below meth c H locs 0 0 (QXi D cs B0 α Lv o below args s) (F0 m 80 ls []) := by
  intro n
  induction n with
  | zero =>
    intro x7 x8 S H locs ls hf
    rw [f_X11_above_80] at hf
    cases hf
  | succ n ih =>
    intro x7 x8 S H locs ls hf hd hl
    rw [f_X11_above_80] at hf
    refine lv_iload hc.x hc.b dX11_above_80 (lv_at hl 5 rfl) ?_
    refine lv_iload hc.x hc.b dX11_above_82 (lv_at hl 2 rfl) ?_
    refine lv_icmp_gt (tgt := 136) hc.x hc.b dX11_above_84 (by decide) (fun c_16 => ?_) (fun c_16 => ?_)
    · have hf := br_y c_16 hf
      exact hK x7 S _ _ _ hf hd (lv_sub hl [4] rfl)
    · have hf := br_n c_16 hf
      refine lv_aload_n hc.x hc.b dX11_above_87 rfl (lv_at hl 0 rfl) ?_
      refine fg_0_5 hc hd hL0 tw_358 dX11_above_88 ?_
      refine lv_aload_n hc.x hc.b dX11_above_91 rfl (lv_at hl 0 rfl) ?_
      refine fg_0_4 hc hd hL0 tw_357 dX11_above_92 ?_
      refine lv_iload_n hc.x hc.b dX11_above_95 rfl (lv_at hl 1 rfl) ?_
      refine lv_iload hc.x hc.b dX11_above_96 (lv_at hl 5 rfl) ?_
      obtain ⟨S_18, hq_17, hf⟩ := on_s hf
      refine k_v (k_runV hc hd my_X6_letGo tw_1096 (cl_0_learners hc.cl hL0) rfl rfl rfl (c_X6_letGo l D cs B0 kt α Lv S 0 0 x3 x8 hc.cl (cl_0_learners hc.cl hL0) (cl_0_game hc.cl hL0)  hq_17) rfl rfl hl.1 (Nat.le_of_ble_eq_true rfl) ⟨Nat.le_of_ble_eq_true rfl, Nat.le_of_ble_eq_true rfl, Nat.zero_le _, Nat.zero_le _⟩ dX11_above_98) hd (fun H locs hd => ?_)
      refine lv_aload_n hc.x hc.b dX11_above_101 rfl (lv_at hl 0 rfl) ?_
      refine fg_0_4 hc hd hL0 tw_357 dX11_above_102 ?_
      refine lv_aload_n hc.x hc.b dX11_above_105 rfl (lv_at hl 0 rfl) ?_
      refine fg_0_5 hc hd hL0 tw_358 dX11_above_106 ?_
      refine fg_44_3 hc hd (cl_0_learners hc.cl hL0) tw_336 dX11_above_109 ?_
      refine lv_aload_n hc.x hc.b dX11_above_112 rfl (lv_at hl 0 rfl) ?_
      refine fg_0_5 hc hd hL0 tw_358 dX11_above_113 ?_
      refine fg_44_4 hc hd (cl_0_learners hc.cl hL0) tw_338 dX11_above_116 ?_
      obtain ⟨r_20, hq_19, hf⟩ := on_s hf
      refine k_i (k_runV hc hd my_X4_together tw_1130 (cl_0_game hc.cl hL0) rfl rfl rfl (c_X4_together l D cs B0 kt α Lv S_18 0 (gi S_18 44 0 3) (gi S_18 44 0 4) hc.cl (cl_0_game hc.cl hL0)  hq_19) rfl rfl hl.1 (Nat.le_of_ble_eq_true rfl) ⟨Nat.le_of_ble_eq_true rfl, Nat.le_of_ble_eq_true rfl, Nat.zero_le _, Nat.zero_le _⟩ dX11_above_119) hd (fun H locs hd => ?_)
      refine lv_iload hc.x hc.b dX11_above_122 (lv_at hl 3 rfl) ?_
      refine jn_s (P := fun J_23 => ∀ (x7_21 : Int32) (S_22 : St) (H : Heap) (locs : List Loc) (ls : Array Slot), J_23 x7_21 S_22 = some o → Dy s D cs B0 α Lv S_22 H locs → lv_has ls 9 [(0, .ref (α 0 g0)), (3, .int x3), (4, .int x4), (6, .int x6), (7, .int x7_21), (8, .int x8)] → W p l e (RX 10 o) s m args below meth c H locs 0 0 (QXi D cs B0 α Lv o below args s) (F0 m 130 ls [])) hf ?_ (fun J_23 hJ_23 hf => ?_)
      · intro x7_21 S_22 H locs ls hf hd hl
        obtain ⟨x8_24, ex8_24⟩ : ∃ z : Int32, z = x8 + 1 := ⟨_, rfl⟩
        have hf := bv_n ex8_24 hf
        refine lv_iinc (v := x8_24) (lv' := [(8, .int x8_24), (0, .ref (α 0 g0)), (3, .int x3), (4, .int x4), (6, .int x6), (7, .int x7_21)]) hc.x hc.b dX11_above_130 hl (k := 5) rfl (by rw [ex8_24]; rfl) (by decide) rfl (fun ls hl => ?_)
        refine lv_goto (tgt := 80) hc.x hc.b dX11_above_133 (by decide) ?_
        exact ih x7_21 x8_24 S_22 _ _ _ hf hd (lv_sub hl [1, 2, 3, 4, 5, 0] rfl)
      refine lv_icmp_le (tgt := 130) hc.x hc.b dX11_above_124 (by decide) (fun c_25 => ?_) (fun c_25 => ?_)
      · have hf := br_y c_25 hf
        exact hJ_23 x7 S_18 _ _ _ hf hd (lv_sub hl [0, 1, 2, 3, 4, 5] rfl)
      · have hf := br_n c_25 hf
        obtain ⟨x7_26, ex7_26⟩ : ∃ z : Int32, z = x7 + 1 := ⟨_, rfl⟩
        have hf := bv_n ex7_26 hf
        refine lv_iinc (v := x7_26) (lv' := [(7, .int x7_26), (0, .ref (α 0 g0)), (3, .int x3), (4, .int x4), (6, .int x6), (8, .int x8)]) hc.x hc.b dX11_above_127 hl (k := 4) rfl (by rw [ex7_26]; rfl) (by decide) rfl (fun ls hl => ?_)
        exact hJ_23 x7_26 S_18 _ _ _ hf hd (lv_sub hl [1, 2, 3, 4, 0, 5] rfl)
set_option maxRecDepth 100000 in
set_option maxHeartbeats 4000000 in
theorem b_X11_above (hc : Cx p s m args meth c cX11_above 9 "PumpCrossing" D cs B0 kt Lv) (hr : meth.sig.returnType = some .int)  {o : (Nat ⊕ Int32) × St} (hex : XH l c o) {S : St} {g0 : Nat} {x1 : Int32} {x2 : Int32} {x3 : Int32} {x4 : Int32} (hL0 : Lv 0 g0) {H : Heap} {locs : List Loc} {ls : Array Slot} (hf : f_X11_above g0 x1 x2 x3 x4 S = some o) (hd : Dy s D cs B0 α Lv S H locs) (hl : lv_has ls 9 [(0, .ref (α 0 g0)), (1, .int x1), (2, .int x2), (3, .int x3), (4, .int x4)]) : W p l e (RX 10 o) s m args below meth c H locs 0 0 (QXi D cs B0 α Lv o below args s) (F0 m 0 ls []) := by
  unfold f_X11_above at hf
  refine lv_aload_n hc.x hc.b dX11_above_0 rfl (lv_at hl 0 rfl) ?_
  refine lv_iload_n hc.x hc.b dX11_above_1 rfl (lv_at hl 1 rfl) ?_
  refine lv_iload_n hc.x hc.b dX11_above_2 rfl (lv_at hl 2 rfl) ?_
  rcases xb_s hf with ⟨k9, S9, hq_1, rfl⟩ | ⟨_u, S_2, hq_1, hf⟩
  · exact x_go (x_runV hc hd my_X11_needTwo tw_971 hL0 rfl rfl rfl (xc_X11_needTwo l D cs B0 kt α Lv S g0 x1 x2 hc.cl hL0  hq_1 hex.1) rfl rfl hl.1 (Nat.le_of_ble_eq_true rfl) ⟨Nat.le_of_ble_eq_true rfl, Nat.le_of_ble_eq_true rfl, Nat.le_of_ble_eq_true rfl, Nat.le_of_ble_eq_true rfl⟩ dX11_above_3) hd hex.2 hc.lk
  refine k_v (k_runV hc hd my_X11_needTwo tw_971 hL0 rfl rfl rfl (c_X11_needTwo l D cs B0 kt α Lv S g0 x1 x2 hc.cl hL0  hq_1) rfl rfl hl.1 (Nat.le_of_ble_eq_true rfl) ⟨Nat.le_of_ble_eq_true rfl, Nat.le_of_ble_eq_true rfl, Nat.zero_le _, Nat.zero_le _⟩ dX11_above_3) hd (fun H locs hd => ?_)
  refine lv_aload_n hc.x hc.b dX11_above_6 rfl (lv_at hl 0 rfl) ?_
  refine lv_iload_n hc.x hc.b dX11_above_7 rfl (lv_at hl 3 rfl) ?_
  refine lv_iconst (v := 1) hc.x hc.b dX11_above_8 (by decide) ?_
  refine lv_sipush (v := 300) hc.x hc.b dX11_above_9 (by decide) ?_
  rcases xb_s hf with ⟨k9, S9, hq_3, rfl⟩ | ⟨_u, S_4, hq_3, hf⟩
  · exact x_go (x_runV hc hd my_X11_needWithin tw_527 hL0 rfl rfl rfl (xc_X11_needWithin l D cs B0 kt α Lv S_2 g0 x3 1 300 hc.cl hL0  hq_3 hex.1) rfl rfl hl.1 (Nat.le_of_ble_eq_true rfl) ⟨Nat.le_of_ble_eq_true rfl, Nat.le_of_ble_eq_true rfl, Nat.le_of_ble_eq_true rfl, Nat.le_of_ble_eq_true rfl⟩ dX11_above_12) hd hex.2 hc.lk
  refine k_v (k_runV hc hd my_X11_needWithin tw_527 hL0 rfl rfl rfl (c_X11_needWithin l D cs B0 kt α Lv S_2 g0 x3 1 300 hc.cl hL0  hq_3) rfl rfl hl.1 (Nat.le_of_ble_eq_true rfl) ⟨Nat.le_of_ble_eq_true rfl, Nat.le_of_ble_eq_true rfl, Nat.zero_le _, Nat.zero_le _⟩ dX11_above_12) hd (fun H locs hd => ?_)
  refine lv_aload_n hc.x hc.b dX11_above_15 rfl (lv_at hl 0 rfl) ?_
  refine lv_iload hc.x hc.b dX11_above_16 (lv_at hl 4 rfl) ?_
  refine lv_iconst (v := 1) hc.x hc.b dX11_above_18 (by decide) ?_
  refine lv_bipush (v := 20) hc.x hc.b dX11_above_19 (by decide) ?_
  rcases xb_s hf with ⟨k9, S9, hq_5, rfl⟩ | ⟨_u, S_6, hq_5, hf⟩
  · exact x_go (x_runV hc hd my_X11_needWithin tw_527 hL0 rfl rfl rfl (xc_X11_needWithin l D cs B0 kt α Lv S_4 g0 x4 1 20 hc.cl hL0  hq_5 hex.1) rfl rfl hl.1 (Nat.le_of_ble_eq_true rfl) ⟨Nat.le_of_ble_eq_true rfl, Nat.le_of_ble_eq_true rfl, Nat.le_of_ble_eq_true rfl, Nat.le_of_ble_eq_true rfl⟩ dX11_above_21) hd hex.2 hc.lk
  refine k_v (k_runV hc hd my_X11_needWithin tw_527 hL0 rfl rfl rfl (c_X11_needWithin l D cs B0 kt α Lv S_4 g0 x4 1 20 hc.cl hL0  hq_5) rfl rfl hl.1 (Nat.le_of_ble_eq_true rfl) ⟨Nat.le_of_ble_eq_true rfl, Nat.le_of_ble_eq_true rfl, Nat.zero_le _, Nat.zero_le _⟩ dX11_above_21) hd (fun H locs hd => ?_)
  refine lv_aload_n hc.x hc.b dX11_above_24 rfl (lv_at hl 0 rfl) ?_
  refine fg_0_4 hc hd hL0 tw_357 dX11_above_25 ?_
  refine lv_aload_n hc.x hc.b dX11_above_28 rfl (lv_at hl 0 rfl) ?_
  refine fg_0_0 hc hd hL0 tw_353 dX11_above_29 ?_
  refine lv_iload_n hc.x hc.b dX11_above_32 rfl (lv_at hl 1 rfl) ?_
  refine lv_iload_n hc.x hc.b dX11_above_33 rfl (lv_at hl 2 rfl) ?_
  obtain ⟨S_8, hq_7, hf⟩ := on_s hf
  refine k_v (k_runV hc hd my_X4_begin tw_996 (cl_0_game hc.cl hL0) rfl rfl rfl (c_X4_begin l D cs B0 kt α Lv S_6 0 0 x1 x2 hc.cl (cl_0_game hc.cl hL0) (cl_0_now hc.cl hL0)  hq_7) rfl rfl hl.1 (Nat.le_of_ble_eq_true rfl) ⟨Nat.le_of_ble_eq_true rfl, Nat.le_of_ble_eq_true rfl, Nat.zero_le _, Nat.zero_le _⟩ dX11_above_34) hd (fun H locs hd => ?_)
  refine lv_aload_n hc.x hc.b dX11_above_37 rfl (lv_at hl 0 rfl) ?_
  refine fg_0_4 hc hd hL0 tw_357 dX11_above_38 ?_
  refine lv_iconst (v := 0) hc.x hc.b dX11_above_41 (by decide) ?_
  obtain ⟨r_10, hq_9, hf⟩ := on_s hf
  refine k_i (k_runV hc hd my_X4_evenPair tw_1033 (cl_0_game hc.cl hL0) rfl rfl rfl (c_X4_evenPair l D cs B0 kt α Lv S_8 0 0 hc.cl (cl_0_game hc.cl hL0)  hq_9) rfl rfl hl.1 (Nat.le_of_ble_eq_true rfl) ⟨Nat.le_of_ble_eq_true rfl, Nat.le_of_ble_eq_true rfl, Nat.zero_le _, Nat.zero_le _⟩ dX11_above_42) hd (fun H locs hd => ?_)
  refine lv_istore (lv' := [(5, .int r_10), (0, .ref (α 0 g0)), (1, .int x1), (2, .int x2), (3, .int x3), (4, .int x4)]) hc.x hc.b dX11_above_45 hl (by decide) rfl (fun ls hl => ?_)
  refine lv_iload hc.x hc.b dX11_above_47 (lv_at hl 0 rfl) ?_
  refine lv_iconst (v := (-1)) hc.x hc.b dX11_above_49 (by decide) ?_
  refine lv_icmp_ne (tgt := 55) hc.x hc.b dX11_above_50 (by decide) (fun c_11 => ?_) (fun c_11 => ?_)
  · have hf := br_n c_11 hf
    refine lv_aload_n hc.x hc.b dX11_above_55 rfl (lv_at hl 1 rfl) ?_
    refine fg_0_4 hc hd hL0 tw_357 dX11_above_56 ?_
    refine lv_iload hc.x hc.b dX11_above_59 (lv_at hl 0 rfl) ?_
    refine lv_bipush (v := 10) hc.x hc.b dX11_above_61 (by decide) ?_
    refine lv_idiv hc.x hc.b dX11_above_63 (by decide) ?_
    refine lv_topi (fun q_12 eq_12 => ?_)
    have hf := bv_n eq_12 hf
    refine lv_iload hc.x hc.b dX11_above_64 (lv_at hl 0 rfl) ?_
    refine lv_bipush (v := 10) hc.x hc.b dX11_above_66 (by decide) ?_
    refine lv_irem hc.x hc.b dX11_above_68 (by decide) ?_
    refine lv_topi (fun q_13 eq_13 => ?_)
    have hf := bv_n eq_13 hf
    obtain ⟨r_15, hq_14, hf⟩ := on_s hf
    refine k_i (k_runV hc hd my_X4_together tw_1130 (cl_0_game hc.cl hL0) rfl rfl rfl (c_X4_together l D cs B0 kt α Lv S_8 0 q_12 q_13 hc.cl (cl_0_game hc.cl hL0)  hq_14) rfl rfl hl.1 (Nat.le_of_ble_eq_true rfl) ⟨Nat.le_of_ble_eq_true rfl, Nat.le_of_ble_eq_true rfl, Nat.zero_le _, Nat.zero_le _⟩ dX11_above_69) hd (fun H locs hd => ?_)
    refine lv_istore (lv' := [(6, .int r_15), (5, .int r_10), (0, .ref (α 0 g0)), (1, .int x1), (2, .int x2), (3, .int x3), (4, .int x4)]) hc.x hc.b dX11_above_72 hl (by decide) rfl (fun ls hl => ?_)
    refine lv_iconst (v := 0) hc.x hc.b dX11_above_74 (by decide) ?_
    refine lv_istore (lv' := [(7, .int 0), (6, .int r_15), (5, .int r_10), (0, .ref (α 0 g0)), (1, .int x1), (2, .int x2), (3, .int x3), (4, .int x4)]) hc.x hc.b dX11_above_75 hl (by decide) rfl (fun ls hl => ?_)
    refine lv_iconst (v := 1) hc.x hc.b dX11_above_77 (by decide) ?_
    refine lv_istore (lv' := [(8, .int 1), (7, .int 0), (6, .int r_15), (5, .int r_10), (0, .ref (α 0 g0)), (1, .int x1), (2, .int x2), (3, .int x3), (4, .int x4)]) hc.x hc.b dX11_above_78 hl (by decide) rfl (fun ls hl => ?_)
    refine w_X11_above_80 hc hr hex hL0 ?_ _ _ _ _ _ _ _ hf hd (lv_sub hl [4, 7, 8, 2, 1, 0] rfl)
    intro x7_27 S_28 H locs ls hf hd hl
    refine lv_iload hc.x hc.b dX11_above_136 (lv_at hl 0 rfl) ?_
    cases hf
    exact r_iret hc hd hr dX11_above_138
  · have hf := br_y c_11 hf
    refine lv_iconst (v := (-1)) hc.x hc.b dX11_above_53 (by decide) ?_
    cases hf
    exact r_iret hc hd hr dX11_above_54
theorem c_X11_above (l : Launch) (D : va_G) (cs : Nat → ClassId) (B0 : Nat) (kt : (Nat → Nat) × (Nat → Nat)) (α : Nat → Nat → Nat) (Lv : Nat → Nat → Prop) (S : St) (g0 : Nat) (x1 : Int32) (x2 : Int32) (x3 : Int32) (x4 : Int32) (hcl : Cl Lv) (hL0 : Lv 0 g0) {r : Int32} {S1 : St} (hf : f_X11_above g0 x1 x2 x3 x4 S = some (.inr r, S1)) : Met l yX11_above (wz yX11_above cX11_above 9 (some .int)) (Rm 10 0 0) (Pz D cs B0 kt α Lv S [.ref (α 0 g0), .int x1, .int x2, .int x3, .int x4]) (Qi D cs B0 α Lv r S1) 0 0 (AB B0) := met_of (by decide) rfl hcl (Nat.le_of_ble_eq_true rfl) (fun p e s m below meth c hc hr hd ls hl => b_X11_above hc hr XH.r hL0 hf hd hl)
theorem xc_X11_above (l : Launch) (D : va_G) (cs : Nat → ClassId) (B0 : Nat) (kt : (Nat → Nat) × (Nat → Nat)) (α : Nat → Nat → Nat) (Lv : Nat → Nat → Prop) (S : St) (g0 : Nat) (x1 : Int32) (x2 : Int32) (x3 : Int32) (x4 : Int32) (hcl : Cl Lv) (hL0 : Lv 0 g0) {k : Nat} {S1 : St} (hf : f_X11_above g0 x1 x2 x3 x4 S = some (.inl k, S1)) (hst : l.stackTraces = false) : vx_Met l yX11_above (wz yX11_above cX11_above 9 (some .int)) (Rm 10 1 6) (Pz D cs B0 kt α Lv S [.ref (α 0 g0), .int x1, .int x2, .int x3, .int x4]) QF (XQ D cs B0 α Lv k S1) 1 6 (AB B0) := xmet_of (by decide) rfl hcl (Nat.le_of_ble_eq_true rfl) (fun p e s m below meth c hc hr hex hd ls hl => b_X11_above hc hr (XH.l hst hex) hL0 hf hd hl)
theorem my_X11_above : MyV yX11_above "PumpCrossing" cX11_above 9 (some .int) 4 := ⟨tw_1127, tw_1128, tw_1, tw_1129, by decide +kernel⟩
def f_X11_board (g0 : Nat) (x1 : Int32) (x2 : Int32) (S : St) : Option ((Nat ⊕ Int32) × St) := xb (τ := Unit) (f_X11_needStation g0 x1 S) (fun _u S_2 => on (f_X0_has (2 * 0) x2 S_2) (fun r_4 => br (r_4 = 0) (some (.inl 3, S_2)) (on (f_X0_at (2 * 0) x1 x2 S_2) (fun r_7 => some (.inr r_7, S_2)))))
set_option maxRecDepth 100000 in
set_option maxHeartbeats 4000000 in
theorem b_X11_board (hc : Cx p s m args meth c cX11_board 3 "PumpCrossing" D cs B0 kt Lv) (hr : meth.sig.returnType = some .int)  {o : (Nat ⊕ Int32) × St} (hex : XH l c o) {S : St} {g0 : Nat} {x1 : Int32} {x2 : Int32} (hL0 : Lv 0 g0) {H : Heap} {locs : List Loc} {ls : Array Slot} (hf : f_X11_board g0 x1 x2 S = some o) (hd : Dy s D cs B0 α Lv S H locs) (hl : lv_has ls 3 [(0, .ref (α 0 g0)), (1, .int x1), (2, .int x2)]) : W p l e (RX 9 o) s m args below meth c H locs 0 0 (QXi D cs B0 α Lv o below args s) (F0 m 0 ls []) := by
  unfold f_X11_board at hf
  refine lv_aload_n hc.x hc.b dX11_board_0 rfl (lv_at hl 0 rfl) ?_
  refine lv_iload_n hc.x hc.b dX11_board_1 rfl (lv_at hl 1 rfl) ?_
  rcases xb_s hf with ⟨k9, S9, hq_1, rfl⟩ | ⟨_u, S_2, hq_1, hf⟩
  · exact x_go (x_runV hc hd my_X11_needStation tw_559 hL0 rfl rfl rfl (xc_X11_needStation l D cs B0 kt α Lv S g0 x1 hc.cl hL0  hq_1 hex.1) rfl rfl hl.1 (Nat.le_of_ble_eq_true rfl) ⟨Nat.le_of_ble_eq_true rfl, Nat.le_of_ble_eq_true rfl, Nat.le_of_ble_eq_true rfl, Nat.le_of_ble_eq_true rfl⟩ dX11_board_2) hd hex.2 hc.lk
  refine k_v (k_runV hc hd my_X11_needStation tw_559 hL0 rfl rfl rfl (c_X11_needStation l D cs B0 kt α Lv S g0 x1 hc.cl hL0  hq_1) rfl rfl hl.1 (Nat.le_of_ble_eq_true rfl) ⟨Nat.le_of_ble_eq_true rfl, Nat.le_of_ble_eq_true rfl, Nat.zero_le _, Nat.zero_le _⟩ dX11_board_2) hd (fun H locs hd => ?_)
  refine lv_aload_n hc.x hc.b dX11_board_5 rfl (lv_at hl 0 rfl) ?_
  refine fg_0_0 hc hd hL0 tw_353 dX11_board_6 ?_
  refine fg_2_10 hc hd (cl_0_now hc.cl hL0) tw_158 dX11_board_9 ?_
  refine lv_iload_n hc.x hc.b dX11_board_12 rfl (lv_at hl 2 rfl) ?_
  obtain ⟨r_4, hq_3, hf⟩ := on_s hf
  refine k_i (k_runV hc hd my_X0_has tw_864 (cl_2_hours hc.cl (cl_0_now hc.cl hL0)) rfl rfl rfl (c_X0_has l D cs B0 kt α Lv S_2 (2 * 0) x2 hc.cl (cl_2_hours hc.cl (cl_0_now hc.cl hL0))  hq_3) rfl rfl hl.1 (Nat.le_of_ble_eq_true rfl) ⟨Nat.le_of_ble_eq_true rfl, Nat.le_of_ble_eq_true rfl, Nat.zero_le _, Nat.zero_le _⟩ dX11_board_13) hd (fun H locs hd => ?_)
  refine lv_if_ne (tgt := 29) hc.x hc.b dX11_board_16 (by decide) (fun c_5 => ?_) (fun c_5 => ?_)
  · have hf := br_n c_5 hf
    refine lv_aload_n hc.x hc.b dX11_board_29 rfl (lv_at hl 0 rfl) ?_
    refine fg_0_0 hc hd hL0 tw_353 dX11_board_30 ?_
    refine fg_2_10 hc hd (cl_0_now hc.cl hL0) tw_158 dX11_board_33 ?_
    refine lv_iload_n hc.x hc.b dX11_board_36 rfl (lv_at hl 1 rfl) ?_
    refine lv_iload_n hc.x hc.b dX11_board_37 rfl (lv_at hl 2 rfl) ?_
    obtain ⟨r_7, hq_6, hf⟩ := on_s hf
    refine k_i (k_runV hc hd my_X0_at tw_873 (cl_2_hours hc.cl (cl_0_now hc.cl hL0)) rfl rfl rfl (c_X0_at l D cs B0 kt α Lv S_2 (2 * 0) x1 x2 hc.cl (cl_2_hours hc.cl (cl_0_now hc.cl hL0))  hq_6) rfl rfl hl.1 (Nat.le_of_ble_eq_true rfl) ⟨Nat.le_of_ble_eq_true rfl, Nat.le_of_ble_eq_true rfl, Nat.zero_le _, Nat.zero_le _⟩ dX11_board_38) hd (fun H locs hd => ?_)
    cases hf
    exact r_iret hc hd hr dX11_board_41
  · have hf := br_y c_5 hf
    cases hf
    exact r_thr_3 hc hd hl.1 hex.1 hex.2 tw_563 (i := 4) rfl (Nat.le_of_ble_eq_true rfl) (Nat.le_of_ble_eq_true rfl) (Nat.le_of_ble_eq_true rfl) (Nat.le_of_ble_eq_true rfl) dX11_board_19 dX11_board_22 dX11_board_23 dX11_board_25 dX11_board_28
theorem c_X11_board (l : Launch) (D : va_G) (cs : Nat → ClassId) (B0 : Nat) (kt : (Nat → Nat) × (Nat → Nat)) (α : Nat → Nat → Nat) (Lv : Nat → Nat → Prop) (S : St) (g0 : Nat) (x1 : Int32) (x2 : Int32) (hcl : Cl Lv) (hL0 : Lv 0 g0) {r : Int32} {S1 : St} (hf : f_X11_board g0 x1 x2 S = some (.inr r, S1)) : Met l yX11_board (wz yX11_board cX11_board 3 (some .int)) (Rm 9 0 0) (Pz D cs B0 kt α Lv S [.ref (α 0 g0), .int x1, .int x2]) (Qi D cs B0 α Lv r S1) 0 0 (AB B0) := met_of (by decide) rfl hcl (Nat.le_of_ble_eq_true rfl) (fun p e s m below meth c hc hr hd ls hl => b_X11_board hc hr XH.r hL0 hf hd hl)
theorem xc_X11_board (l : Launch) (D : va_G) (cs : Nat → ClassId) (B0 : Nat) (kt : (Nat → Nat) × (Nat → Nat)) (α : Nat → Nat → Nat) (Lv : Nat → Nat → Prop) (S : St) (g0 : Nat) (x1 : Int32) (x2 : Int32) (hcl : Cl Lv) (hL0 : Lv 0 g0) {k : Nat} {S1 : St} (hf : f_X11_board g0 x1 x2 S = some (.inl k, S1)) (hst : l.stackTraces = false) : vx_Met l yX11_board (wz yX11_board cX11_board 3 (some .int)) (Rm 9 1 6) (Pz D cs B0 kt α Lv S [.ref (α 0 g0), .int x1, .int x2]) QF (XQ D cs B0 α Lv k S1) 1 6 (AB B0) := xmet_of (by decide) rfl hcl (Nat.le_of_ble_eq_true rfl) (fun p e s m below meth c hc hr hex hd ls hl => b_X11_board hc hr (XH.l hst hex) hL0 hf hd hl)
theorem my_X11_board : MyV yX11_board "PumpCrossing" cX11_board 3 (some .int) 2 := ⟨tw_861, tw_862, tw_1, tw_863, by decide +kernel⟩
def f_X11_commonDivisor_3  (S : St) (K : Int64 → Option (Int64)) : Nat → Int64 → Int64 → Int32 → Option (Int64)
  | 0, _, _, _ => none
  | n + 1, x0, x2, x4 => br (100 ≤ x4) (K x0) (br ((lg_cmp x2 0) = 0) (K x0) (ck (¬ x2 = 0) (bv (rmL x0 x2) (fun q_4 => bv (x4 + 1) (fun x4_5 => f_X11_commonDivisor_3 S K n x2 q_4 x4_5)))))
def f_X11_commonDivisor (x0 : Int64) (x2 : Int64) (S : St) : Option (Int64) := f_X11_commonDivisor_3 S (fun (x0_6 : Int64) => some x0_6) FU x0 x2 0
set_option maxRecDepth 100000 in
set_option maxHeartbeats 4000000 in
theorem w_X11_commonDivisor_3 (hc : Cx p s m args meth c cX11_commonDivisor 7 "PumpCrossing" D cs B0 kt Lv) (hr : meth.sig.returnType = some .long) {o : Int64}   {S : St} {K : Int64 → Option (Int64)} (hK : ∀ (k0 : Int64) (H : Heap) (locs : List Loc) (ls : Array Slot), K k0 = some o → Dy s D cs B0 α Lv S H locs → lv_has ls 7 [(0, .long k0)] → W p l e (Rm 0 0 0) s m args below meth c H locs 0 0 (MQ below (Ql D cs B0 α Lv o S) args s 0 0 (AB B0)) (F0 m 32 ls [])) : ∀ (n : Nat) (x0 : Int64) (x2 : Int64) (x4 : Int32) (H : Heap) (locs : List Loc) (ls : Array Slot), f_X11_commonDivisor_3 S K n x0 x2 x4 = some o → Dy s D cs B0 α Lv S H locs → lv_has ls 7 [(0, .long x0), (2, .long x2), (4, .int x4)] → W p l e (Rm 0 0 0) s m args below meth c H locs 0 0 (MQ below (Ql D cs B0 α Lv o S) args s 0 0 (AB B0)) (F0 m 3 ls []) := by
  intro n
  induction n with
  | zero =>
    intro x0 x2 x4 H locs ls hf
    rw [f_X11_commonDivisor_3] at hf
    cases hf
  | succ n ih =>
    intro x0 x2 x4 H locs ls hf hd hl
    rw [f_X11_commonDivisor_3] at hf
    refine lv_iload hc.x hc.b dX11_commonDivisor_3 (lv_at hl 2 rfl) ?_
    refine lv_bipush (v := 100) hc.x hc.b dX11_commonDivisor_5 (by decide) ?_
    refine lv_icmp_ge (tgt := 32) hc.x hc.b dX11_commonDivisor_7 (by decide) (fun c_1 => ?_) (fun c_1 => ?_)
    · have hf := br_y c_1 hf
      exact hK x0 _ _ _ hf hd (lv_sub hl [0] rfl)
    · have hf := br_n c_1 hf
      refine lv_lload_n hc.x hc.b dX11_commonDivisor_10 rfl (lv_at hl 1 rfl) ?_
      refine lv_lconst (v := 0) hc.x hc.b dX11_commonDivisor_11 (by decide) ?_
      refine W.lcmp hc.x hc.b dX11_commonDivisor_12 ?_
      refine lv_if_eq (tgt := 32) hc.x hc.b dX11_commonDivisor_13 (by decide) (fun c_2 => ?_) (fun c_2 => ?_)
      · have hf := br_y c_2 hf
        exact hK x0 _ _ _ hf hd (lv_sub hl [0] rfl)
      · have hf := br_n c_2 hf
        refine lv_lload_n hc.x hc.b dX11_commonDivisor_16 rfl (lv_at hl 0 rfl) ?_
        refine lv_lload_n hc.x hc.b dX11_commonDivisor_17 rfl (lv_at hl 1 rfl) ?_
        obtain ⟨hn_3, hf⟩ := ck_s hf
        refine lv_lrem hc.x hc.b dX11_commonDivisor_18 hn_3 ?_
        refine lv_topl (fun q_4 eq_4 => ?_)
        have hf := bv_n eq_4 hf
        refine lv_lstore (lv' := [(5, .long q_4), (0, .long x0), (2, .long x2), (4, .int x4)]) hc.x hc.b dX11_commonDivisor_19 hl (by decide) rfl (fun ls hl => ?_)
        refine lv_lload_n hc.x hc.b dX11_commonDivisor_21 rfl (lv_at hl 2 rfl) ?_
        refine lv_lstore_n (lv' := [(0, .long x2), (5, .long q_4), (2, .long x2), (4, .int x4)]) hc.x hc.b dX11_commonDivisor_22 rfl hl (by decide) rfl (fun ls hl => ?_)
        refine lv_lload hc.x hc.b dX11_commonDivisor_23 (lv_at hl 1 rfl) ?_
        refine lv_lstore_n (lv' := [(2, .long q_4), (0, .long x2), (5, .long q_4), (4, .int x4)]) hc.x hc.b dX11_commonDivisor_25 rfl hl (by decide) rfl (fun ls hl => ?_)
        obtain ⟨x4_5, ex4_5⟩ : ∃ z : Int32, z = x4 + 1 := ⟨_, rfl⟩
        have hf := bv_n ex4_5 hf
        refine lv_iinc (v := x4_5) (lv' := [(4, .int x4_5), (2, .long q_4), (0, .long x2), (5, .long q_4)]) hc.x hc.b dX11_commonDivisor_26 hl (k := 3) rfl (by rw [ex4_5]; rfl) (by decide) rfl (fun ls hl => ?_)
        refine lv_goto (tgt := 3) hc.x hc.b dX11_commonDivisor_29 (by decide) ?_
        exact ih x2 q_4 x4_5 _ _ _ hf hd (lv_sub hl [2, 1, 0] rfl)
set_option maxRecDepth 100000 in
set_option maxHeartbeats 4000000 in
theorem b_X11_commonDivisor (hc : Cx p s m args meth c cX11_commonDivisor 7 "PumpCrossing" D cs B0 kt Lv) (hr : meth.sig.returnType = some .long)  {o : Int64}  {S : St} {x0 : Int64} {x2 : Int64}  {H : Heap} {locs : List Loc} {ls : Array Slot} (hf : f_X11_commonDivisor x0 x2 S = some o) (hd : Dy s D cs B0 α Lv S H locs) (hl : lv_has ls 7 [(0, .long x0), (2, .long x2)]) : W p l e (Rm 0 0 0) s m args below meth c H locs 0 0 (MQ below (Ql D cs B0 α Lv o S) args s 0 0 (AB B0)) (F0 m 0 ls []) := by
  unfold f_X11_commonDivisor at hf
  refine lv_iconst (v := 0) hc.x hc.b dX11_commonDivisor_0 (by decide) ?_
  refine lv_istore (lv' := [(4, .int 0), (0, .long x0), (2, .long x2)]) hc.x hc.b dX11_commonDivisor_1 hl (by decide) rfl (fun ls hl => ?_)
  refine w_X11_commonDivisor_3 hc hr  ?_ _ _ _ _ _ _ _ hf hd (lv_sub hl [1, 2, 0] rfl)
  intro x0_6 H locs ls hf hd hl
  refine lv_lload_n hc.x hc.b dX11_commonDivisor_32 rfl (lv_at hl 0 rfl) ?_
  cases hf
  exact r_lret hc hd hr dX11_commonDivisor_33
theorem c_X11_commonDivisor (l : Launch) (D : va_G) (cs : Nat → ClassId) (B0 : Nat) (kt : (Nat → Nat) × (Nat → Nat)) (α : Nat → Nat → Nat) (Lv : Nat → Nat → Prop) (S : St) (x0 : Int64) (x2 : Int64) (hcl : Cl Lv)  {o : Int64} (hf : f_X11_commonDivisor x0 x2 S = some o) : Met l yX11_commonDivisor (wz yX11_commonDivisor cX11_commonDivisor 7 (some .long)) (Rm 0 0 0) (Pz D cs B0 kt α Lv S [.long x0, .long x2]) (Ql D cs B0 α Lv o S) 0 0 (AB B0) := met_of (by decide) rfl hcl (Nat.le_of_ble_eq_true rfl) (fun p e s m below meth c hc hr hd ls hl => b_X11_commonDivisor hc hr  hf hd hl)
theorem my_X11_commonDivisor : MyS yX11_commonDivisor cX11_commonDivisor 7 (some .long) 2 := ⟨tw_438, tw_1, tw_439, by decide +kernel⟩
def f_X11_needPrice (g0 : Nat) (x1 : Int32) (S : St) : Option ((Nat ⊕ Unit) × St) := xb (τ := Unit) (f_X11_needWithin g0 x1 0 99 S) (fun _u S_2 => some (.inr (), S_2))
set_option maxRecDepth 100000 in
set_option maxHeartbeats 4000000 in
theorem b_X11_needPrice (hc : Cx p s m args meth c cX11_needPrice 2 "PumpCrossing" D cs B0 kt Lv) (hr : meth.sig.returnType = none)  {o : (Nat ⊕ Unit) × St} (hex : XH l c o) {S : St} {g0 : Nat} {x1 : Int32} (hL0 : Lv 0 g0) {H : Heap} {locs : List Loc} {ls : Array Slot} (hf : f_X11_needPrice g0 x1 S = some o) (hd : Dy s D cs B0 α Lv S H locs) (hl : lv_has ls 2 [(0, .ref (α 0 g0)), (1, .int x1)]) : W p l e (RX 9 o) s m args below meth c H locs 0 0 (QXv D cs B0 α Lv o below args s) (F0 m 0 ls []) := by
  unfold f_X11_needPrice at hf
  refine lv_aload_n hc.x hc.b dX11_needPrice_0 rfl (lv_at hl 0 rfl) ?_
  refine lv_iload_n hc.x hc.b dX11_needPrice_1 rfl (lv_at hl 1 rfl) ?_
  refine lv_iconst (v := 0) hc.x hc.b dX11_needPrice_2 (by decide) ?_
  refine lv_bipush (v := 99) hc.x hc.b dX11_needPrice_3 (by decide) ?_
  rcases xb_s hf with ⟨k9, S9, hq_1, rfl⟩ | ⟨_u, S_2, hq_1, hf⟩
  · exact x_go (x_runV hc hd my_X11_needWithin tw_527 hL0 rfl rfl rfl (xc_X11_needWithin l D cs B0 kt α Lv S g0 x1 0 99 hc.cl hL0  hq_1 hex.1) rfl rfl hl.1 (Nat.le_of_ble_eq_true rfl) ⟨Nat.le_of_ble_eq_true rfl, Nat.le_of_ble_eq_true rfl, Nat.le_of_ble_eq_true rfl, Nat.le_of_ble_eq_true rfl⟩ dX11_needPrice_5) hd hex.2 hc.lk
  refine k_v (k_runV hc hd my_X11_needWithin tw_527 hL0 rfl rfl rfl (c_X11_needWithin l D cs B0 kt α Lv S g0 x1 0 99 hc.cl hL0  hq_1) rfl rfl hl.1 (Nat.le_of_ble_eq_true rfl) ⟨Nat.le_of_ble_eq_true rfl, Nat.le_of_ble_eq_true rfl, Nat.zero_le _, Nat.zero_le _⟩ dX11_needPrice_5) hd (fun H locs hd => ?_)
  cases hf
  exact r_vret hc hd hr dX11_needPrice_8
theorem c_X11_needPrice (l : Launch) (D : va_G) (cs : Nat → ClassId) (B0 : Nat) (kt : (Nat → Nat) × (Nat → Nat)) (α : Nat → Nat → Nat) (Lv : Nat → Nat → Prop) (S : St) (g0 : Nat) (x1 : Int32) (hcl : Cl Lv) (hL0 : Lv 0 g0) {S1 : St} (hf : f_X11_needPrice g0 x1 S = some (.inr (), S1)) : Met l yX11_needPrice (wz yX11_needPrice cX11_needPrice 2 none) (Rm 9 0 0) (Pz D cs B0 kt α Lv S [.ref (α 0 g0), .int x1]) (Qv D cs B0 α Lv S1) 0 0 (AB B0) := met_of (by decide) rfl hcl (Nat.le_of_ble_eq_true rfl) (fun p e s m below meth c hc hr hd ls hl => b_X11_needPrice hc hr XH.r hL0 hf hd hl)
theorem xc_X11_needPrice (l : Launch) (D : va_G) (cs : Nat → ClassId) (B0 : Nat) (kt : (Nat → Nat) × (Nat → Nat)) (α : Nat → Nat → Nat) (Lv : Nat → Nat → Prop) (S : St) (g0 : Nat) (x1 : Int32) (hcl : Cl Lv) (hL0 : Lv 0 g0) {k : Nat} {S1 : St} (hf : f_X11_needPrice g0 x1 S = some (.inl k, S1)) (hst : l.stackTraces = false) : vx_Met l yX11_needPrice (wz yX11_needPrice cX11_needPrice 2 none) (Rm 9 1 6) (Pz D cs B0 kt α Lv S [.ref (α 0 g0), .int x1]) QF (XQ D cs B0 α Lv k S1) 1 6 (AB B0) := xmet_of (by decide) rfl hcl (Nat.le_of_ble_eq_true rfl) (fun p e s m below meth c hc hr hex hd ls hl => b_X11_needPrice hc hr (XH.l hst hex) hL0 hf hd hl)
theorem my_X11_needPrice : MyV yX11_needPrice "PumpCrossing" cX11_needPrice 2 none 1 := ⟨tw_525, (in_sel 3 (by decide +kernel) (by decide +kernel)), tw_1, tw_526, by decide +kernel⟩
def f_X11_cost (g0 : Nat) (x1 : Int32) (x2 : Int32) (S : St) : Option ((Nat ⊕ Int32) × St) := xb (τ := Unit) (f_X11_needStation g0 x1 S) (fun _u S_2 => xb (τ := Unit) (f_X11_needPrice g0 x2 S_2) (fun _u S_4 => ck (inb x1 4 = true) (bv (gi S_4 3 0 (nn x1)) (fun x3_6 => bv (fun  (S_7 : St) => ck (inb x1 4 = true) (bv (si S_7 3 0 (nn x1) x2) (fun S_10 => some (.inr x3_6, S_10)))) (fun J_8 => br (x2 = x3_6) (J_8 S_4) (on (f_X1_add 0 x1 (gi S_4 14 (2 * 0) 3) (x2 - x3_6) S_4) (fun S_13 => J_8 S_13)))))))
set_option maxRecDepth 100000 in
set_option maxHeartbeats 4000000 in
theorem b_X11_cost (hc : Cx p s m args meth c cX11_cost 4 "PumpCrossing" D cs B0 kt Lv) (hr : meth.sig.returnType = some .int)  {o : (Nat ⊕ Int32) × St} (hex : XH l c o) {S : St} {g0 : Nat} {x1 : Int32} {x2 : Int32} (hL0 : Lv 0 g0) {H : Heap} {locs : List Loc} {ls : Array Slot} (hf : f_X11_cost g0 x1 x2 S = some o) (hd : Dy s D cs B0 α Lv S H locs) (hl : lv_has ls 4 [(0, .ref (α 0 g0)), (1, .int x1), (2, .int x2)]) : W p l e (RX 10 o) s m args below meth c H locs 0 0 (QXi D cs B0 α Lv o below args s) (F0 m 0 ls []) := by
  unfold f_X11_cost at hf
  refine lv_aload_n hc.x hc.b dX11_cost_0 rfl (lv_at hl 0 rfl) ?_
  refine lv_iload_n hc.x hc.b dX11_cost_1 rfl (lv_at hl 1 rfl) ?_
  rcases xb_s hf with ⟨k9, S9, hq_1, rfl⟩ | ⟨_u, S_2, hq_1, hf⟩
  · exact x_go (x_runV hc hd my_X11_needStation tw_559 hL0 rfl rfl rfl (xc_X11_needStation l D cs B0 kt α Lv S g0 x1 hc.cl hL0  hq_1 hex.1) rfl rfl hl.1 (Nat.le_of_ble_eq_true rfl) ⟨Nat.le_of_ble_eq_true rfl, Nat.le_of_ble_eq_true rfl, Nat.le_of_ble_eq_true rfl, Nat.le_of_ble_eq_true rfl⟩ dX11_cost_2) hd hex.2 hc.lk
  refine k_v (k_runV hc hd my_X11_needStation tw_559 hL0 rfl rfl rfl (c_X11_needStation l D cs B0 kt α Lv S g0 x1 hc.cl hL0  hq_1) rfl rfl hl.1 (Nat.le_of_ble_eq_true rfl) ⟨Nat.le_of_ble_eq_true rfl, Nat.le_of_ble_eq_true rfl, Nat.zero_le _, Nat.zero_le _⟩ dX11_cost_2) hd (fun H locs hd => ?_)
  refine lv_aload_n hc.x hc.b dX11_cost_5 rfl (lv_at hl 0 rfl) ?_
  refine lv_iload_n hc.x hc.b dX11_cost_6 rfl (lv_at hl 2 rfl) ?_
  rcases xb_s hf with ⟨k9, S9, hq_3, rfl⟩ | ⟨_u, S_4, hq_3, hf⟩
  · exact x_go (x_runV hc hd my_X11_needPrice tw_523 hL0 rfl rfl rfl (xc_X11_needPrice l D cs B0 kt α Lv S_2 g0 x2 hc.cl hL0  hq_3 hex.1) rfl rfl hl.1 (Nat.le_of_ble_eq_true rfl) ⟨Nat.le_of_ble_eq_true rfl, Nat.le_of_ble_eq_true rfl, Nat.le_of_ble_eq_true rfl, Nat.le_of_ble_eq_true rfl⟩ dX11_cost_7) hd hex.2 hc.lk
  refine k_v (k_runV hc hd my_X11_needPrice tw_523 hL0 rfl rfl rfl (c_X11_needPrice l D cs B0 kt α Lv S_2 g0 x2 hc.cl hL0  hq_3) rfl rfl hl.1 (Nat.le_of_ble_eq_true rfl) ⟨Nat.le_of_ble_eq_true rfl, Nat.le_of_ble_eq_true rfl, Nat.zero_le _, Nat.zero_le _⟩ dX11_cost_7) hd (fun H locs hd => ?_)
  refine lv_aload_n hc.x hc.b dX11_cost_10 rfl (lv_at hl 0 rfl) ?_
  refine fg_0_0 hc hd hL0 tw_353 dX11_cost_11 ?_
  refine fg_2_1 hc hd (cl_0_now hc.cl hL0) tw_139 dX11_cost_14 ?_
  refine lv_iload_n hc.x hc.b dX11_cost_17 rfl (lv_at hl 1 rfl) ?_
  obtain ⟨hi_5, hf⟩ := ck_s hf
  refine r_iald hc hd (cl_2_costs hc.cl (cl_0_now hc.cl hL0)) rfl hi_5 dX11_cost_18 ?_
  refine lv_topi (fun x3_6 ex3_6 => ?_)
  have hf := bv_n ex3_6 hf
  refine lv_istore_n (lv' := [(3, .int x3_6), (0, .ref (α 0 g0)), (1, .int x1), (2, .int x2)]) hc.x hc.b dX11_cost_19 rfl hl (by decide) rfl (fun ls hl => ?_)
  refine lv_iload_n hc.x hc.b dX11_cost_20 rfl (lv_at hl 3 rfl) ?_
  refine lv_iload_n hc.x hc.b dX11_cost_21 rfl (lv_at hl 0 rfl) ?_
  refine jn_s (P := fun J_8 => ∀  (S_7 : St) (H : Heap) (locs : List Loc) (ls : Array Slot), J_8 S_7 = some o → Dy s D cs B0 α Lv S_7 H locs → lv_has ls 4 [(0, .ref (α 0 g0)), (1, .int x1), (2, .int x2), (3, .int x3_6)] → W p l e (RX 10 o) s m args below meth c H locs 0 0 (QXi D cs B0 α Lv o below args s) (F0 m 49 ls [])) hf ?_ (fun J_8 hJ_8 hf => ?_)
  · intro S_7 H locs ls hf hd hl
    refine lv_aload_n hc.x hc.b dX11_cost_49 rfl (lv_at hl 0 rfl) ?_
    refine fg_0_0 hc hd hL0 tw_353 dX11_cost_50 ?_
    refine fg_2_1 hc hd (cl_0_now hc.cl hL0) tw_139 dX11_cost_53 ?_
    refine lv_iload_n hc.x hc.b dX11_cost_56 rfl (lv_at hl 1 rfl) ?_
    refine lv_iload_n hc.x hc.b dX11_cost_57 rfl (lv_at hl 2 rfl) ?_
    obtain ⟨hi_9, hf⟩ := ck_s hf
    refine r_iast hc hd (cl_2_costs hc.cl (cl_0_now hc.cl hL0)) (fun _ => rfl) hi_9 dX11_cost_58 (fun H locs hd => ?_)
    obtain ⟨S_10, hd, hf⟩ := nmD hd hf
    refine lv_iload_n hc.x hc.b dX11_cost_59 rfl (lv_at hl 3 rfl) ?_
    cases hf
    exact r_iret hc hd hr dX11_cost_60
  refine lv_icmp_eq (tgt := 49) hc.x hc.b dX11_cost_22 (by decide) (fun c_11 => ?_) (fun c_11 => ?_)
  · have hf := br_y c_11 hf
    exact hJ_8 S_4 _ _ _ hf hd (lv_sub hl [1, 2, 3, 0] rfl)
  · have hf := br_n c_11 hf
    refine lv_aload_n hc.x hc.b dX11_cost_25 rfl (lv_at hl 1 rfl) ?_
    refine fg_0_0 hc hd hL0 tw_353 dX11_cost_26 ?_
    refine fg_2_12 hc hd (cl_0_now hc.cl hL0) tw_162 dX11_cost_29 ?_
    refine lv_iload_n hc.x hc.b dX11_cost_32 rfl (lv_at hl 2 rfl) ?_
    refine lv_aload_n hc.x hc.b dX11_cost_33 rfl (lv_at hl 1 rfl) ?_
    refine fg_0_0 hc hd hL0 tw_353 dX11_cost_34 ?_
    refine fg_2_10 hc hd (cl_0_now hc.cl hL0) tw_158 dX11_cost_37 ?_
    refine fg_14_3 hc hd (cl_2_hours hc.cl (cl_0_now hc.cl hL0)) tw_81 dX11_cost_40 ?_
    refine lv_iload_n hc.x hc.b dX11_cost_43 rfl (lv_at hl 3 rfl) ?_
    refine lv_iload_n hc.x hc.b dX11_cost_44 rfl (lv_at hl 0 rfl) ?_
    refine lv_isub hc.x hc.b dX11_cost_45 ?_
    obtain ⟨S_13, hq_12, hf⟩ := on_s hf
    refine k_v (k_runV hc hd my_X1_add tw_590 (cl_2_changes hc.cl (cl_0_now hc.cl hL0)) rfl rfl rfl (c_X1_add l D cs B0 kt α Lv S_4 0 x1 (gi S_4 14 (2 * 0) 3) (x2 - x3_6) hc.cl (cl_2_changes hc.cl (cl_0_now hc.cl hL0))  hq_12) rfl rfl hl.1 (Nat.le_of_ble_eq_true rfl) ⟨Nat.le_of_ble_eq_true rfl, Nat.le_of_ble_eq_true rfl, Nat.zero_le _, Nat.zero_le _⟩ dX11_cost_46) hd (fun H locs hd => ?_)
    exact hJ_8 S_13 _ _ _ hf hd (lv_sub hl [1, 2, 3, 0] rfl)
theorem c_X11_cost (l : Launch) (D : va_G) (cs : Nat → ClassId) (B0 : Nat) (kt : (Nat → Nat) × (Nat → Nat)) (α : Nat → Nat → Nat) (Lv : Nat → Nat → Prop) (S : St) (g0 : Nat) (x1 : Int32) (x2 : Int32) (hcl : Cl Lv) (hL0 : Lv 0 g0) {r : Int32} {S1 : St} (hf : f_X11_cost g0 x1 x2 S = some (.inr r, S1)) : Met l yX11_cost (wz yX11_cost cX11_cost 4 (some .int)) (Rm 10 0 0) (Pz D cs B0 kt α Lv S [.ref (α 0 g0), .int x1, .int x2]) (Qi D cs B0 α Lv r S1) 0 0 (AB B0) := met_of (by decide) rfl hcl (Nat.le_of_ble_eq_true rfl) (fun p e s m below meth c hc hr hd ls hl => b_X11_cost hc hr XH.r hL0 hf hd hl)
theorem xc_X11_cost (l : Launch) (D : va_G) (cs : Nat → ClassId) (B0 : Nat) (kt : (Nat → Nat) × (Nat → Nat)) (α : Nat → Nat → Nat) (Lv : Nat → Nat → Prop) (S : St) (g0 : Nat) (x1 : Int32) (x2 : Int32) (hcl : Cl Lv) (hL0 : Lv 0 g0) {k : Nat} {S1 : St} (hf : f_X11_cost g0 x1 x2 S = some (.inl k, S1)) (hst : l.stackTraces = false) : vx_Met l yX11_cost (wz yX11_cost cX11_cost 4 (some .int)) (Rm 10 1 6) (Pz D cs B0 kt α Lv S [.ref (α 0 g0), .int x1, .int x2]) QF (XQ D cs B0 α Lv k S1) 1 6 (AB B0) := xmet_of (by decide) rfl hcl (Nat.le_of_ble_eq_true rfl) (fun p e s m below meth c hc hr hex hd ls hl => b_X11_cost hc hr (XH.l hst hex) hL0 hf hd hl)
theorem my_X11_cost : MyV yX11_cost "PumpCrossing" cX11_cost 4 (some .int) 2 := ⟨tw_587, tw_588, tw_1, tw_589, by decide +kernel⟩
def f_X11_count (g0 : Nat) (x1 : Int32) (S : St) : Option (Int64) := br (x1 = 0) (some (Int32.toInt64 (gi S 2 0 0))) (br (x1 = 1) (some (Int32.toInt64 (gi S 9 0 0))) (br (x1 = 2) (some (Int32.toInt64 (gi S 14 (2 * 0) 3))) (br (x1 = 3) (on (f_X0_kept (2 * 0) S) (fun r_3 => some (Int32.toInt64 r_3))) (br (x1 = 4) (some (Int32.toInt64 (gi S 2 0 14))) (br (x1 = 5) (some (Int32.toInt64 (gi S 22 0 3))) (br (x1 = 6) (some (Int32.toInt64 (gi S 14 (2 * 0 + 1) 3))) (br (x1 = 7) (some (gl S 2 0 6)) (br (x1 = 8) (some (Int32.toInt64 (gi S 28 0 1))) (br (x1 = 9) (some (Int32.toInt64 (gi S 17 0 3))) (some ((-1))))))))))))
set_option maxRecDepth 100000 in
set_option maxHeartbeats 4000000 in
theorem b_X11_count (hc : Cx p s m args meth c cX11_count 2 "PumpCrossing" D cs B0 kt Lv) (hr : meth.sig.returnType = some .long)  {o : Int64}  {S : St} {g0 : Nat} {x1 : Int32} (hL0 : Lv 0 g0) {H : Heap} {locs : List Loc} {ls : Array Slot} (hf : f_X11_count g0 x1 S = some o) (hd : Dy s D cs B0 α Lv S H locs) (hl : lv_has ls 2 [(0, .ref (α 0 g0)), (1, .int x1)]) : W p l e (Rm 3 0 0) s m args below meth c H locs 0 0 (MQ below (Ql D cs B0 α Lv o S) args s 0 0 (AB B0)) (F0 m 0 ls []) := by
  unfold f_X11_count at hf
  refine lv_iload_n hc.x hc.b dX11_count_0 rfl (lv_at hl 1 rfl) ?_
  by_cases c_1_0 : x1 = 0
  · have hf := br_y c_1_0 hf
    refine lv_tableIn (off := 55) (tgt := 56) hc.x hc.b dX11_count_1 (by rw [c_1_0]; decide) (by rw [c_1_0]; decide) (by rw [c_1_0]; decide) (by decide) ?_
    refine lv_aload_n hc.x hc.b dX11_count_56 rfl (lv_at hl 0 rfl) ?_
    refine fg_0_0 hc hd hL0 tw_353 dX11_count_57 ?_
    refine fg_2_0 hc hd (cl_0_now hc.cl hL0) tw_136 dX11_count_60 ?_
    refine lv_i2l (v := Int32.toInt64 (gi S 2 0 0)) hc.x hc.b dX11_count_63 rfl ?_
    cases hf
    exact r_lret hc hd hr dX11_count_64
  · have hf := br_n c_1_0 hf
    by_cases c_1_1 : x1 = 1
    · have hf := br_y c_1_1 hf
      refine lv_tableIn (off := 64) (tgt := 65) hc.x hc.b dX11_count_1 (by rw [c_1_1]; decide) (by rw [c_1_1]; decide) (by rw [c_1_1]; decide) (by decide) ?_
      refine lv_aload_n hc.x hc.b dX11_count_65 rfl (lv_at hl 0 rfl) ?_
      refine fg_0_0 hc hd hL0 tw_353 dX11_count_66 ?_
      refine fg_2_9 hc hd (cl_0_now hc.cl hL0) tw_156 dX11_count_69 ?_
      refine fg_9_0 hc hd (cl_2_drivers hc.cl (cl_0_now hc.cl hL0)) tw_51 dX11_count_72 ?_
      refine lv_i2l (v := Int32.toInt64 (gi S 9 0 0)) hc.x hc.b dX11_count_75 rfl ?_
      cases hf
      exact r_lret hc hd hr dX11_count_76
    · have hf := br_n c_1_1 hf
      by_cases c_1_2 : x1 = 2
      · have hf := br_y c_1_2 hf
        refine lv_tableIn (off := 76) (tgt := 77) hc.x hc.b dX11_count_1 (by rw [c_1_2]; decide) (by rw [c_1_2]; decide) (by rw [c_1_2]; decide) (by decide) ?_
        refine lv_aload_n hc.x hc.b dX11_count_77 rfl (lv_at hl 0 rfl) ?_
        refine fg_0_0 hc hd hL0 tw_353 dX11_count_78 ?_
        refine fg_2_10 hc hd (cl_0_now hc.cl hL0) tw_158 dX11_count_81 ?_
        refine fg_14_3 hc hd (cl_2_hours hc.cl (cl_0_now hc.cl hL0)) tw_81 dX11_count_84 ?_
        refine lv_i2l (v := Int32.toInt64 (gi S 14 (2 * 0) 3)) hc.x hc.b dX11_count_87 rfl ?_
        cases hf
        exact r_lret hc hd hr dX11_count_88
      · have hf := br_n c_1_2 hf
        by_cases c_1_3 : x1 = 3
        · have hf := br_y c_1_3 hf
          refine lv_tableIn (off := 88) (tgt := 89) hc.x hc.b dX11_count_1 (by rw [c_1_3]; decide) (by rw [c_1_3]; decide) (by rw [c_1_3]; decide) (by decide) ?_
          refine lv_aload_n hc.x hc.b dX11_count_89 rfl (lv_at hl 0 rfl) ?_
          refine fg_0_0 hc hd hL0 tw_353 dX11_count_90 ?_
          refine fg_2_10 hc hd (cl_0_now hc.cl hL0) tw_158 dX11_count_93 ?_
          obtain ⟨r_3, hq_2, hf⟩ := on_s hf
          refine k_i (k_runV hc hd my_X0_kept tw_444 (cl_2_hours hc.cl (cl_0_now hc.cl hL0)) rfl rfl rfl (c_X0_kept l D cs B0 kt α Lv S (2 * 0) hc.cl (cl_2_hours hc.cl (cl_0_now hc.cl hL0))  hq_2) rfl rfl hl.1 (Nat.le_of_ble_eq_true rfl) ⟨Nat.le_of_ble_eq_true rfl, Nat.le_of_ble_eq_true rfl, Nat.zero_le _, Nat.zero_le _⟩ dX11_count_96) hd (fun H locs hd => ?_)
          refine lv_i2l (v := Int32.toInt64 r_3) hc.x hc.b dX11_count_99 rfl ?_
          cases hf
          exact r_lret hc hd hr dX11_count_100
        · have hf := br_n c_1_3 hf
          by_cases c_1_4 : x1 = 4
          · have hf := br_y c_1_4 hf
            refine lv_tableIn (off := 100) (tgt := 101) hc.x hc.b dX11_count_1 (by rw [c_1_4]; decide) (by rw [c_1_4]; decide) (by rw [c_1_4]; decide) (by decide) ?_
            refine lv_aload_n hc.x hc.b dX11_count_101 rfl (lv_at hl 0 rfl) ?_
            refine fg_0_0 hc hd hL0 tw_353 dX11_count_102 ?_
            refine fg_2_14 hc hd (cl_0_now hc.cl hL0) tw_168 dX11_count_105 ?_
            refine lv_i2l (v := Int32.toInt64 (gi S 2 0 14)) hc.x hc.b dX11_count_108 rfl ?_
            cases hf
            exact r_lret hc hd hr dX11_count_109
          · have hf := br_n c_1_4 hf
            by_cases c_1_5 : x1 = 5
            · have hf := br_y c_1_5 hf
              refine lv_tableIn (off := 109) (tgt := 110) hc.x hc.b dX11_count_1 (by rw [c_1_5]; decide) (by rw [c_1_5]; decide) (by rw [c_1_5]; decide) (by decide) ?_
              refine lv_aload_n hc.x hc.b dX11_count_110 rfl (lv_at hl 0 rfl) ?_
              refine fg_0_0 hc hd hL0 tw_353 dX11_count_111 ?_
              refine fg_2_15 hc hd (cl_0_now hc.cl hL0) tw_170 dX11_count_114 ?_
              refine fg_22_3 hc hd (cl_2_stories hc.cl (cl_0_now hc.cl hL0)) tw_125 dX11_count_117 ?_
              refine lv_i2l (v := Int32.toInt64 (gi S 22 0 3)) hc.x hc.b dX11_count_120 rfl ?_
              cases hf
              exact r_lret hc hd hr dX11_count_121
            · have hf := br_n c_1_5 hf
              by_cases c_1_6 : x1 = 6
              · have hf := br_y c_1_6 hf
                refine lv_tableIn (off := 121) (tgt := 122) hc.x hc.b dX11_count_1 (by rw [c_1_6]; decide) (by rw [c_1_6]; decide) (by rw [c_1_6]; decide) (by decide) ?_
                refine lv_aload_n hc.x hc.b dX11_count_122 rfl (lv_at hl 0 rfl) ?_
                refine fg_0_0 hc hd hL0 tw_353 dX11_count_123 ?_
                refine fg_2_11 hc hd (cl_0_now hc.cl hL0) tw_160 dX11_count_126 ?_
                refine fg_14_3 hc hd (cl_2_told hc.cl (cl_0_now hc.cl hL0)) tw_81 dX11_count_129 ?_
                refine lv_i2l (v := Int32.toInt64 (gi S 14 (2 * 0 + 1) 3)) hc.x hc.b dX11_count_132 rfl ?_
                cases hf
                exact r_lret hc hd hr dX11_count_133
              · have hf := br_n c_1_6 hf
                by_cases c_1_7 : x1 = 7
                · have hf := br_y c_1_7 hf
                  refine lv_tableIn (off := 133) (tgt := 134) hc.x hc.b dX11_count_1 (by rw [c_1_7]; decide) (by rw [c_1_7]; decide) (by rw [c_1_7]; decide) (by decide) ?_
                  refine lv_aload_n hc.x hc.b dX11_count_134 rfl (lv_at hl 0 rfl) ?_
                  refine fg_0_0 hc hd hL0 tw_353 dX11_count_135 ?_
                  refine fg_2_6 hc hd (cl_0_now hc.cl hL0) tw_149 dX11_count_138 ?_
                  cases hf
                  exact r_lret hc hd hr dX11_count_141
                · have hf := br_n c_1_7 hf
                  by_cases c_1_8 : x1 = 8
                  · have hf := br_y c_1_8 hf
                    refine lv_tableIn (off := 141) (tgt := 142) hc.x hc.b dX11_count_1 (by rw [c_1_8]; decide) (by rw [c_1_8]; decide) (by rw [c_1_8]; decide) (by decide) ?_
                    refine lv_aload_n hc.x hc.b dX11_count_142 rfl (lv_at hl 0 rfl) ?_
                    refine fg_0_2 hc hd hL0 tw_355 dX11_count_143 ?_
                    refine fg_28_1 hc hd (cl_0_reader hc.cl hL0) tw_220 dX11_count_146 ?_
                    refine lv_i2l (v := Int32.toInt64 (gi S 28 0 1)) hc.x hc.b dX11_count_149 rfl ?_
                    cases hf
                    exact r_lret hc hd hr dX11_count_150
                  · have hf := br_n c_1_8 hf
                    by_cases c_1_9 : x1 = 9
                    · have hf := br_y c_1_9 hf
                      refine lv_tableIn (off := 150) (tgt := 151) hc.x hc.b dX11_count_1 (by rw [c_1_9]; decide) (by rw [c_1_9]; decide) (by rw [c_1_9]; decide) (by decide) ?_
                      refine lv_aload_n hc.x hc.b dX11_count_151 rfl (lv_at hl 0 rfl) ?_
                      refine fg_0_0 hc hd hL0 tw_353 dX11_count_152 ?_
                      refine fg_2_12 hc hd (cl_0_now hc.cl hL0) tw_162 dX11_count_155 ?_
                      refine fg_17_3 hc hd (cl_2_changes hc.cl (cl_0_now hc.cl hL0)) tw_103 dX11_count_158 ?_
                      refine lv_i2l (v := Int32.toInt64 (gi S 17 0 3)) hc.x hc.b dX11_count_161 rfl ?_
                      cases hf
                      exact r_lret hc hd hr dX11_count_162
                    · have hf := br_n c_1_9 hf
                      refine lv_tableOut (tgt := 163) hc.x hc.b dX11_count_1 (sw_out (fun z h1 h2 => by
                        rcases (show z = 0 ∨ z = 1 ∨ z = 2 ∨ z = 3 ∨ z = 4 ∨ z = 5 ∨ z = 6 ∨ z = 7 ∨ z = 8 ∨ z = 9 by omega) with rfl | rfl | rfl | rfl | rfl | rfl | rfl | rfl | rfl | rfl
                        · exact c_1_0
                        · exact c_1_1
                        · exact c_1_2
                        · exact c_1_3
                        · exact c_1_4
                        · exact c_1_5
                        · exact c_1_6
                        · exact c_1_7
                        · exact c_1_8
                        · exact c_1_9)) (by decide) ?_
                      refine lv_ldc2 (v := (-1)) hc.x hc.b hc.ow (hc.ts tw_445) dX11_count_163 ?_
                      cases hf
                      exact r_lret hc hd hr dX11_count_166
theorem c_X11_count (l : Launch) (D : va_G) (cs : Nat → ClassId) (B0 : Nat) (kt : (Nat → Nat) × (Nat → Nat)) (α : Nat → Nat → Nat) (Lv : Nat → Nat → Prop) (S : St) (g0 : Nat) (x1 : Int32) (hcl : Cl Lv) (hL0 : Lv 0 g0) {o : Int64} (hf : f_X11_count g0 x1 S = some o) : Met l yX11_count (wz yX11_count cX11_count 2 (some .long)) (Rm 3 0 0) (Pz D cs B0 kt α Lv S [.ref (α 0 g0), .int x1]) (Ql D cs B0 α Lv o S) 0 0 (AB B0) := met_of (by decide) rfl hcl (Nat.le_of_ble_eq_true rfl) (fun p e s m below meth c hc hr hd ls hl => b_X11_count hc hr hL0 hf hd hl)
theorem my_X11_count : MyV yX11_count "PumpCrossing" cX11_count 2 (some .long) 1 := ⟨tw_441, tw_442, tw_1, tw_443, by decide +kernel⟩
def f_X11_driver (g0 : Nat) (x1 : Int32) (x2 : Int32) (x3 : Int32) (x4 : Int32) (S : St) : Option ((Nat ⊕ Int32) × St) := xb (τ := Unit) (f_X11_needStation g0 x2 S) (fun _u S_2 => xb (τ := Unit) (f_X11_needWithin g0 x1 1 99 S_2) (fun _u S_4 => xb (τ := Unit) (f_X11_needWithin g0 x3 0 (((1 : Int32) <<< ((gi S_4 2 0 0) &&& 31)) - 1) S_4) (fun _u S_6 => xb (τ := Unit) (f_X11_needWithin g0 x4 0 20 S_6) (fun _u S_8 => on2 (f_X3_add 0 x1 x2 x3 x4 S_8) (fun r_11 S_10 => some (.inr r_11, S_10))))))
set_option maxRecDepth 100000 in
set_option maxHeartbeats 4000000 in
theorem b_X11_driver (hc : Cx p s m args meth c cX11_driver 5 "PumpCrossing" D cs B0 kt Lv) (hr : meth.sig.returnType = some .int)  {o : (Nat ⊕ Int32) × St} (hex : XH l c o) {S : St} {g0 : Nat} {x1 : Int32} {x2 : Int32} {x3 : Int32} {x4 : Int32} (hL0 : Lv 0 g0) {H : Heap} {locs : List Loc} {ls : Array Slot} (hf : f_X11_driver g0 x1 x2 x3 x4 S = some o) (hd : Dy s D cs B0 α Lv S H locs) (hl : lv_has ls 5 [(0, .ref (α 0 g0)), (1, .int x1), (2, .int x2), (3, .int x3), (4, .int x4)]) : W p l e (RX 9 o) s m args below meth c H locs 0 0 (QXi D cs B0 α Lv o below args s) (F0 m 0 ls []) := by
  unfold f_X11_driver at hf
  refine lv_aload_n hc.x hc.b dX11_driver_0 rfl (lv_at hl 0 rfl) ?_
  refine lv_iload_n hc.x hc.b dX11_driver_1 rfl (lv_at hl 2 rfl) ?_
  rcases xb_s hf with ⟨k9, S9, hq_1, rfl⟩ | ⟨_u, S_2, hq_1, hf⟩
  · exact x_go (x_runV hc hd my_X11_needStation tw_559 hL0 rfl rfl rfl (xc_X11_needStation l D cs B0 kt α Lv S g0 x2 hc.cl hL0  hq_1 hex.1) rfl rfl hl.1 (Nat.le_of_ble_eq_true rfl) ⟨Nat.le_of_ble_eq_true rfl, Nat.le_of_ble_eq_true rfl, Nat.le_of_ble_eq_true rfl, Nat.le_of_ble_eq_true rfl⟩ dX11_driver_2) hd hex.2 hc.lk
  refine k_v (k_runV hc hd my_X11_needStation tw_559 hL0 rfl rfl rfl (c_X11_needStation l D cs B0 kt α Lv S g0 x2 hc.cl hL0  hq_1) rfl rfl hl.1 (Nat.le_of_ble_eq_true rfl) ⟨Nat.le_of_ble_eq_true rfl, Nat.le_of_ble_eq_true rfl, Nat.zero_le _, Nat.zero_le _⟩ dX11_driver_2) hd (fun H locs hd => ?_)
  refine lv_aload_n hc.x hc.b dX11_driver_5 rfl (lv_at hl 0 rfl) ?_
  refine lv_iload_n hc.x hc.b dX11_driver_6 rfl (lv_at hl 1 rfl) ?_
  refine lv_iconst (v := 1) hc.x hc.b dX11_driver_7 (by decide) ?_
  refine lv_bipush (v := 99) hc.x hc.b dX11_driver_8 (by decide) ?_
  rcases xb_s hf with ⟨k9, S9, hq_3, rfl⟩ | ⟨_u, S_4, hq_3, hf⟩
  · exact x_go (x_runV hc hd my_X11_needWithin tw_527 hL0 rfl rfl rfl (xc_X11_needWithin l D cs B0 kt α Lv S_2 g0 x1 1 99 hc.cl hL0  hq_3 hex.1) rfl rfl hl.1 (Nat.le_of_ble_eq_true rfl) ⟨Nat.le_of_ble_eq_true rfl, Nat.le_of_ble_eq_true rfl, Nat.le_of_ble_eq_true rfl, Nat.le_of_ble_eq_true rfl⟩ dX11_driver_10) hd hex.2 hc.lk
  refine k_v (k_runV hc hd my_X11_needWithin tw_527 hL0 rfl rfl rfl (c_X11_needWithin l D cs B0 kt α Lv S_2 g0 x1 1 99 hc.cl hL0  hq_3) rfl rfl hl.1 (Nat.le_of_ble_eq_true rfl) ⟨Nat.le_of_ble_eq_true rfl, Nat.le_of_ble_eq_true rfl, Nat.zero_le _, Nat.zero_le _⟩ dX11_driver_10) hd (fun H locs hd => ?_)
  refine lv_aload_n hc.x hc.b dX11_driver_13 rfl (lv_at hl 0 rfl) ?_
  refine lv_iload_n hc.x hc.b dX11_driver_14 rfl (lv_at hl 3 rfl) ?_
  refine lv_iconst (v := 0) hc.x hc.b dX11_driver_15 (by decide) ?_
  refine lv_iconst (v := 1) hc.x hc.b dX11_driver_16 (by decide) ?_
  refine lv_aload_n hc.x hc.b dX11_driver_17 rfl (lv_at hl 0 rfl) ?_
  refine fg_0_0 hc hd hL0 tw_353 dX11_driver_18 ?_
  refine fg_2_0 hc hd (cl_0_now hc.cl hL0) tw_136 dX11_driver_21 ?_
  refine lv_ishl hc.x hc.b dX11_driver_24 ?_
  refine lv_iconst (v := 1) hc.x hc.b dX11_driver_25 (by decide) ?_
  refine lv_isub hc.x hc.b dX11_driver_26 ?_
  rcases xb_s hf with ⟨k9, S9, hq_5, rfl⟩ | ⟨_u, S_6, hq_5, hf⟩
  · exact x_go (x_runV hc hd my_X11_needWithin tw_527 hL0 rfl rfl rfl (xc_X11_needWithin l D cs B0 kt α Lv S_4 g0 x3 0 (((1 : Int32) <<< ((gi S_4 2 0 0) &&& 31)) - 1) hc.cl hL0  hq_5 hex.1) rfl rfl hl.1 (Nat.le_of_ble_eq_true rfl) ⟨Nat.le_of_ble_eq_true rfl, Nat.le_of_ble_eq_true rfl, Nat.le_of_ble_eq_true rfl, Nat.le_of_ble_eq_true rfl⟩ dX11_driver_27) hd hex.2 hc.lk
  refine k_v (k_runV hc hd my_X11_needWithin tw_527 hL0 rfl rfl rfl (c_X11_needWithin l D cs B0 kt α Lv S_4 g0 x3 0 (((1 : Int32) <<< ((gi S_4 2 0 0) &&& 31)) - 1) hc.cl hL0  hq_5) rfl rfl hl.1 (Nat.le_of_ble_eq_true rfl) ⟨Nat.le_of_ble_eq_true rfl, Nat.le_of_ble_eq_true rfl, Nat.zero_le _, Nat.zero_le _⟩ dX11_driver_27) hd (fun H locs hd => ?_)
  refine lv_aload_n hc.x hc.b dX11_driver_30 rfl (lv_at hl 0 rfl) ?_
  refine lv_iload hc.x hc.b dX11_driver_31 (lv_at hl 4 rfl) ?_
  refine lv_iconst (v := 0) hc.x hc.b dX11_driver_33 (by decide) ?_
  refine lv_bipush (v := 20) hc.x hc.b dX11_driver_34 (by decide) ?_
  rcases xb_s hf with ⟨k9, S9, hq_7, rfl⟩ | ⟨_u, S_8, hq_7, hf⟩
  · exact x_go (x_runV hc hd my_X11_needWithin tw_527 hL0 rfl rfl rfl (xc_X11_needWithin l D cs B0 kt α Lv S_6 g0 x4 0 20 hc.cl hL0  hq_7 hex.1) rfl rfl hl.1 (Nat.le_of_ble_eq_true rfl) ⟨Nat.le_of_ble_eq_true rfl, Nat.le_of_ble_eq_true rfl, Nat.le_of_ble_eq_true rfl, Nat.le_of_ble_eq_true rfl⟩ dX11_driver_36) hd hex.2 hc.lk
  refine k_v (k_runV hc hd my_X11_needWithin tw_527 hL0 rfl rfl rfl (c_X11_needWithin l D cs B0 kt α Lv S_6 g0 x4 0 20 hc.cl hL0  hq_7) rfl rfl hl.1 (Nat.le_of_ble_eq_true rfl) ⟨Nat.le_of_ble_eq_true rfl, Nat.le_of_ble_eq_true rfl, Nat.zero_le _, Nat.zero_le _⟩ dX11_driver_36) hd (fun H locs hd => ?_)
  refine lv_aload_n hc.x hc.b dX11_driver_39 rfl (lv_at hl 0 rfl) ?_
  refine fg_0_0 hc hd hL0 tw_353 dX11_driver_40 ?_
  refine fg_2_9 hc hd (cl_0_now hc.cl hL0) tw_156 dX11_driver_43 ?_
  refine lv_iload_n hc.x hc.b dX11_driver_46 rfl (lv_at hl 1 rfl) ?_
  refine lv_iload_n hc.x hc.b dX11_driver_47 rfl (lv_at hl 2 rfl) ?_
  refine lv_iload_n hc.x hc.b dX11_driver_48 rfl (lv_at hl 3 rfl) ?_
  refine lv_iload hc.x hc.b dX11_driver_49 (lv_at hl 4 rfl) ?_
  obtain ⟨r_11, S_10, hq_9, hf⟩ := on2_s hf
  refine k_i (k_runV hc hd my_X3_add tw_579 (cl_2_drivers hc.cl (cl_0_now hc.cl hL0)) rfl rfl rfl (c_X3_add l D cs B0 kt α Lv S_8 0 x1 x2 x3 x4 hc.cl (cl_2_drivers hc.cl (cl_0_now hc.cl hL0))  hq_9) rfl rfl hl.1 (Nat.le_of_ble_eq_true rfl) ⟨Nat.le_of_ble_eq_true rfl, Nat.le_of_ble_eq_true rfl, Nat.zero_le _, Nat.zero_le _⟩ dX11_driver_51) hd (fun H locs hd => ?_)
  cases hf
  exact r_iret hc hd hr dX11_driver_54
theorem c_X11_driver (l : Launch) (D : va_G) (cs : Nat → ClassId) (B0 : Nat) (kt : (Nat → Nat) × (Nat → Nat)) (α : Nat → Nat → Nat) (Lv : Nat → Nat → Prop) (S : St) (g0 : Nat) (x1 : Int32) (x2 : Int32) (x3 : Int32) (x4 : Int32) (hcl : Cl Lv) (hL0 : Lv 0 g0) {r : Int32} {S1 : St} (hf : f_X11_driver g0 x1 x2 x3 x4 S = some (.inr r, S1)) : Met l yX11_driver (wz yX11_driver cX11_driver 5 (some .int)) (Rm 9 0 0) (Pz D cs B0 kt α Lv S [.ref (α 0 g0), .int x1, .int x2, .int x3, .int x4]) (Qi D cs B0 α Lv r S1) 0 0 (AB B0) := met_of (by decide) rfl hcl (Nat.le_of_ble_eq_true rfl) (fun p e s m below meth c hc hr hd ls hl => b_X11_driver hc hr XH.r hL0 hf hd hl)
theorem xc_X11_driver (l : Launch) (D : va_G) (cs : Nat → ClassId) (B0 : Nat) (kt : (Nat → Nat) × (Nat → Nat)) (α : Nat → Nat → Nat) (Lv : Nat → Nat → Prop) (S : St) (g0 : Nat) (x1 : Int32) (x2 : Int32) (x3 : Int32) (x4 : Int32) (hcl : Cl Lv) (hL0 : Lv 0 g0) {k : Nat} {S1 : St} (hf : f_X11_driver g0 x1 x2 x3 x4 S = some (.inl k, S1)) (hst : l.stackTraces = false) : vx_Met l yX11_driver (wz yX11_driver cX11_driver 5 (some .int)) (Rm 9 1 6) (Pz D cs B0 kt α Lv S [.ref (α 0 g0), .int x1, .int x2, .int x3, .int x4]) QF (XQ D cs B0 α Lv k S1) 1 6 (AB B0) := xmet_of (by decide) rfl hcl (Nat.le_of_ble_eq_true rfl) (fun p e s m below meth c hc hr hex hd ls hl => b_X11_driver hc hr (XH.l hst hex) hL0 hf hd hl)
theorem my_X11_driver : MyV yX11_driver "PumpCrossing" cX11_driver 5 (some .int) 4 := ⟨tw_556, tw_557, tw_1, tw_558, by decide +kernel⟩
def f_X11_even (g0 : Nat) (x1 : Int32) (x2 : Int32) (x3 : Int32) (S : St) : Option ((Nat ⊕ Int32) × St) := xb (τ := Unit) (f_X11_needTwo g0 x1 x2 S) (fun _u S_2 => on (f_X4_begin 0 0 x1 x2 S_2) (fun S_4 => bv (fun (v_5 : Int32) (S_6 : St) => some (.inr v_5, S_6)) (fun J_7 => br (x3 = ((-1))) (on (f_X4_evenPairs 0 S_4) (fun r_12 => J_7 r_12 S_4)) (on (f_X4_evenPair 0 x3 S_4) (fun r_10 => J_7 r_10 S_4)))))
set_option maxRecDepth 100000 in
set_option maxHeartbeats 4000000 in
theorem b_X11_even (hc : Cx p s m args meth c cX11_even 4 "PumpCrossing" D cs B0 kt Lv) (hr : meth.sig.returnType = some .int)  {o : (Nat ⊕ Int32) × St} (hex : XH l c o) {S : St} {g0 : Nat} {x1 : Int32} {x2 : Int32} {x3 : Int32} (hL0 : Lv 0 g0) {H : Heap} {locs : List Loc} {ls : Array Slot} (hf : f_X11_even g0 x1 x2 x3 S = some o) (hd : Dy s D cs B0 α Lv S H locs) (hl : lv_has ls 4 [(0, .ref (α 0 g0)), (1, .int x1), (2, .int x2), (3, .int x3)]) : W p l e (RX 10 o) s m args below meth c H locs 0 0 (QXi D cs B0 α Lv o below args s) (F0 m 0 ls []) := by
  unfold f_X11_even at hf
  refine lv_aload_n hc.x hc.b dX11_even_0 rfl (lv_at hl 0 rfl) ?_
  refine lv_iload_n hc.x hc.b dX11_even_1 rfl (lv_at hl 1 rfl) ?_
  refine lv_iload_n hc.x hc.b dX11_even_2 rfl (lv_at hl 2 rfl) ?_
  rcases xb_s hf with ⟨k9, S9, hq_1, rfl⟩ | ⟨_u, S_2, hq_1, hf⟩
  · exact x_go (x_runV hc hd my_X11_needTwo tw_971 hL0 rfl rfl rfl (xc_X11_needTwo l D cs B0 kt α Lv S g0 x1 x2 hc.cl hL0  hq_1 hex.1) rfl rfl hl.1 (Nat.le_of_ble_eq_true rfl) ⟨Nat.le_of_ble_eq_true rfl, Nat.le_of_ble_eq_true rfl, Nat.le_of_ble_eq_true rfl, Nat.le_of_ble_eq_true rfl⟩ dX11_even_3) hd hex.2 hc.lk
  refine k_v (k_runV hc hd my_X11_needTwo tw_971 hL0 rfl rfl rfl (c_X11_needTwo l D cs B0 kt α Lv S g0 x1 x2 hc.cl hL0  hq_1) rfl rfl hl.1 (Nat.le_of_ble_eq_true rfl) ⟨Nat.le_of_ble_eq_true rfl, Nat.le_of_ble_eq_true rfl, Nat.zero_le _, Nat.zero_le _⟩ dX11_even_3) hd (fun H locs hd => ?_)
  refine lv_aload_n hc.x hc.b dX11_even_6 rfl (lv_at hl 0 rfl) ?_
  refine fg_0_4 hc hd hL0 tw_357 dX11_even_7 ?_
  refine lv_aload_n hc.x hc.b dX11_even_10 rfl (lv_at hl 0 rfl) ?_
  refine fg_0_0 hc hd hL0 tw_353 dX11_even_11 ?_
  refine lv_iload_n hc.x hc.b dX11_even_14 rfl (lv_at hl 1 rfl) ?_
  refine lv_iload_n hc.x hc.b dX11_even_15 rfl (lv_at hl 2 rfl) ?_
  obtain ⟨S_4, hq_3, hf⟩ := on_s hf
  refine k_v (k_runV hc hd my_X4_begin tw_996 (cl_0_game hc.cl hL0) rfl rfl rfl (c_X4_begin l D cs B0 kt α Lv S_2 0 0 x1 x2 hc.cl (cl_0_game hc.cl hL0) (cl_0_now hc.cl hL0)  hq_3) rfl rfl hl.1 (Nat.le_of_ble_eq_true rfl) ⟨Nat.le_of_ble_eq_true rfl, Nat.le_of_ble_eq_true rfl, Nat.zero_le _, Nat.zero_le _⟩ dX11_even_16) hd (fun H locs hd => ?_)
  refine lv_iload_n hc.x hc.b dX11_even_19 rfl (lv_at hl 3 rfl) ?_
  refine lv_iconst (v := (-1)) hc.x hc.b dX11_even_20 (by decide) ?_
  refine jn_s (P := fun J_7 => ∀ (v_5 : Int32) (S_6 : St) (H : Heap) (locs : List Loc) (ls : Array Slot), J_7 v_5 S_6 = some o → Dy s D cs B0 α Lv S_6 H locs → lv_has ls 4 [] → W p l e (RX 10 o) s m args below meth c H locs 0 0 (QXi D cs B0 α Lv o below args s) (F0 m 42 ls [.int v_5])) hf ?_ (fun J_7 hJ_7 hf => ?_)
  · intro v_5 S_6 H locs ls hf hd hl
    cases hf
    exact r_iret hc hd hr dX11_even_42
  refine lv_icmp_ne (tgt := 34) hc.x hc.b dX11_even_21 (by decide) (fun c_8 => ?_) (fun c_8 => ?_)
  · have hf := br_n c_8 hf
    refine lv_aload_n hc.x hc.b dX11_even_34 rfl (lv_at hl 0 rfl) ?_
    refine fg_0_4 hc hd hL0 tw_357 dX11_even_35 ?_
    refine lv_iload_n hc.x hc.b dX11_even_38 rfl (lv_at hl 3 rfl) ?_
    obtain ⟨r_10, hq_9, hf⟩ := on_s hf
    refine k_i (k_runV hc hd my_X4_evenPair tw_1033 (cl_0_game hc.cl hL0) rfl rfl rfl (c_X4_evenPair l D cs B0 kt α Lv S_4 0 x3 hc.cl (cl_0_game hc.cl hL0)  hq_9) rfl rfl hl.1 (Nat.le_of_ble_eq_true rfl) ⟨Nat.le_of_ble_eq_true rfl, Nat.le_of_ble_eq_true rfl, Nat.zero_le _, Nat.zero_le _⟩ dX11_even_39) hd (fun H locs hd => ?_)
    exact hJ_7 r_10 S_4 _ _ _ hf hd (lv_sub hl [] rfl)
  · have hf := br_y c_8 hf
    refine lv_aload_n hc.x hc.b dX11_even_24 rfl (lv_at hl 0 rfl) ?_
    refine fg_0_4 hc hd hL0 tw_357 dX11_even_25 ?_
    obtain ⟨r_12, hq_11, hf⟩ := on_s hf
    refine k_i (k_runV hc hd my_X4_evenPairs tw_1025 (cl_0_game hc.cl hL0) rfl rfl rfl (c_X4_evenPairs l D cs B0 kt α Lv S_4 0 hc.cl (cl_0_game hc.cl hL0)  hq_11) rfl rfl hl.1 (Nat.le_of_ble_eq_true rfl) ⟨Nat.le_of_ble_eq_true rfl, Nat.le_of_ble_eq_true rfl, Nat.zero_le _, Nat.zero_le _⟩ dX11_even_28) hd (fun H locs hd => ?_)
    refine lv_goto (tgt := 42) hc.x hc.b dX11_even_31 (by decide) ?_
    exact hJ_7 r_12 S_4 _ _ _ hf hd (lv_sub hl [] rfl)
theorem c_X11_even (l : Launch) (D : va_G) (cs : Nat → ClassId) (B0 : Nat) (kt : (Nat → Nat) × (Nat → Nat)) (α : Nat → Nat → Nat) (Lv : Nat → Nat → Prop) (S : St) (g0 : Nat) (x1 : Int32) (x2 : Int32) (x3 : Int32) (hcl : Cl Lv) (hL0 : Lv 0 g0) {r : Int32} {S1 : St} (hf : f_X11_even g0 x1 x2 x3 S = some (.inr r, S1)) : Met l yX11_even (wz yX11_even cX11_even 4 (some .int)) (Rm 10 0 0) (Pz D cs B0 kt α Lv S [.ref (α 0 g0), .int x1, .int x2, .int x3]) (Qi D cs B0 α Lv r S1) 0 0 (AB B0) := met_of (by decide) rfl hcl (Nat.le_of_ble_eq_true rfl) (fun p e s m below meth c hc hr hd ls hl => b_X11_even hc hr XH.r hL0 hf hd hl)
theorem xc_X11_even (l : Launch) (D : va_G) (cs : Nat → ClassId) (B0 : Nat) (kt : (Nat → Nat) × (Nat → Nat)) (α : Nat → Nat → Nat) (Lv : Nat → Nat → Prop) (S : St) (g0 : Nat) (x1 : Int32) (x2 : Int32) (x3 : Int32) (hcl : Cl Lv) (hL0 : Lv 0 g0) {k : Nat} {S1 : St} (hf : f_X11_even g0 x1 x2 x3 S = some (.inl k, S1)) (hst : l.stackTraces = false) : vx_Met l yX11_even (wz yX11_even cX11_even 4 (some .int)) (Rm 10 1 6) (Pz D cs B0 kt α Lv S [.ref (α 0 g0), .int x1, .int x2, .int x3]) QF (XQ D cs B0 α Lv k S1) 1 6 (AB B0) := xmet_of (by decide) rfl hcl (Nat.le_of_ble_eq_true rfl) (fun p e s m below meth c hc hr hex hd ls hl => b_X11_even hc hr (XH.l hst hex) hL0 hf hd hl)
theorem my_X11_even : MyV yX11_even "PumpCrossing" cX11_even 4 (some .int) 3 := ⟨tw_1022, tw_1023, tw_1, tw_1024, by decide +kernel⟩
def f_X11_fault (g0 : Nat) (x1 : Int32) (S : St) : Option (Int32) := br (x1 = 0) (some (gi S 28 0 6)) (br (x1 = 1) (some (gi S 28 0 7)) (some ((-1))))
set_option maxRecDepth 100000 in
set_option maxHeartbeats 4000000 in
theorem b_X11_fault (hc : Cx p s m args meth c cX11_fault 2 "PumpCrossing" D cs B0 kt Lv) (hr : meth.sig.returnType = some .int)  {o : Int32}  {S : St} {g0 : Nat} {x1 : Int32} (hL0 : Lv 0 g0) {H : Heap} {locs : List Loc} {ls : Array Slot} (hf : f_X11_fault g0 x1 S = some o) (hd : Dy s D cs B0 α Lv S H locs) (hl : lv_has ls 2 [(0, .ref (α 0 g0)), (1, .int x1)]) : W p l e (Rm 0 0 0) s m args below meth c H locs 0 0 (MQ below (Qi D cs B0 α Lv o S) args s 0 0 (AB B0)) (F0 m 0 ls []) := by
  unfold f_X11_fault at hf
  refine lv_iload_n hc.x hc.b dX11_fault_0 rfl (lv_at hl 1 rfl) ?_
  by_cases c_1_0 : x1 = 0
  · have hf := br_y c_1_0 hf
    refine lv_lookup (off := 27) (tgt := 28) hc.x hc.b dX11_fault_1 (by decide) (by rw [c_1_0]; decide) (by decide) ?_
    refine lv_aload_n hc.x hc.b dX11_fault_28 rfl (lv_at hl 0 rfl) ?_
    refine fg_0_2 hc hd hL0 tw_355 dX11_fault_29 ?_
    refine fg_28_6 hc hd (cl_0_reader hc.cl hL0) tw_232 dX11_fault_32 ?_
    cases hf
    exact r_iret hc hd hr dX11_fault_35
  · have hf := br_n c_1_0 hf
    by_cases c_1_1 : x1 = 1
    · have hf := br_y c_1_1 hf
      refine lv_lookup (off := 35) (tgt := 36) hc.x hc.b dX11_fault_1 (by decide) (by rw [c_1_1]; decide) (by decide) ?_
      refine lv_aload_n hc.x hc.b dX11_fault_36 rfl (lv_at hl 0 rfl) ?_
      refine fg_0_2 hc hd hL0 tw_355 dX11_fault_37 ?_
      refine fg_28_7 hc hd (cl_0_reader hc.cl hL0) tw_234 dX11_fault_40 ?_
      cases hf
      exact r_iret hc hd hr dX11_fault_43
    · have hf := br_n c_1_1 hf
      refine lv_lookup (off := 43) (tgt := 44) hc.x hc.b dX11_fault_1 (by decide) (look_out c_1_0 c_1_1) (by decide) ?_
      refine lv_iconst (v := (-1)) hc.x hc.b dX11_fault_44 (by decide) ?_
      cases hf
      exact r_iret hc hd hr dX11_fault_45
theorem c_X11_fault (l : Launch) (D : va_G) (cs : Nat → ClassId) (B0 : Nat) (kt : (Nat → Nat) × (Nat → Nat)) (α : Nat → Nat → Nat) (Lv : Nat → Nat → Prop) (S : St) (g0 : Nat) (x1 : Int32) (hcl : Cl Lv) (hL0 : Lv 0 g0) {o : Int32} (hf : f_X11_fault g0 x1 S = some o) : Met l yX11_fault (wz yX11_fault cX11_fault 2 (some .int)) (Rm 0 0 0) (Pz D cs B0 kt α Lv S [.ref (α 0 g0), .int x1]) (Qi D cs B0 α Lv o S) 0 0 (AB B0) := met_of (by decide) rfl hcl (Nat.le_of_ble_eq_true rfl) (fun p e s m below meth c hc hr hd ls hl => b_X11_fault hc hr hL0 hf hd hl)
theorem my_X11_fault : MyV yX11_fault "PumpCrossing" cX11_fault 2 (some .int) 1 := ⟨tw_391, tw_392, tw_1, tw_393, by decide +kernel⟩
def f_X11_feed (g0 : Nat) (x1 : Int32) (x2 : Int32) (x3 : Int32) (x4 : Int32) (x5 : Int32) (S : St) : Option (Int32 × St) := on (f_X9_hasRoom 0 S) (fun r_2 => br (r_2 = 0) (some ((-1), S)) (on (f_X9_append 0 x1 S) (fun S_5 => on (f_X9_append 0 x2 S_5) (fun S_7 => on (f_X9_append 0 x3 S_7) (fun S_9 => on (f_X9_append 0 x4 S_9) (fun S_11 => on (f_X9_append 0 x5 S_11) (fun S_13 => some (gi S_13 28 0 1, S_13))))))))
set_option maxRecDepth 100000 in
set_option maxHeartbeats 4000000 in
theorem b_X11_feed (hc : Cx p s m args meth c cX11_feed 6 "PumpCrossing" D cs B0 kt Lv) (hr : meth.sig.returnType = some .int)  {o : Int32 × St}  {S : St} {g0 : Nat} {x1 : Int32} {x2 : Int32} {x3 : Int32} {x4 : Int32} {x5 : Int32} (hL0 : Lv 0 g0) {H : Heap} {locs : List Loc} {ls : Array Slot} (hf : f_X11_feed g0 x1 x2 x3 x4 x5 S = some o) (hd : Dy s D cs B0 α Lv S H locs) (hl : lv_has ls 6 [(0, .ref (α 0 g0)), (1, .int x1), (2, .int x2), (3, .int x3), (4, .int x4), (5, .int x5)]) : W p l e (Rm 1 0 0) s m args below meth c H locs 0 0 (MQ below (Qi D cs B0 α Lv o.1 o.2) args s 0 0 (AB B0)) (F0 m 0 ls []) := by
  unfold f_X11_feed at hf
  refine lv_aload_n hc.x hc.b dX11_feed_0 rfl (lv_at hl 0 rfl) ?_
  refine fg_0_2 hc hd hL0 tw_355 dX11_feed_1 ?_
  obtain ⟨r_2, hq_1, hf⟩ := on_s hf
  refine k_i (k_runV hc hd my_X9_hasRoom tw_382 (cl_0_reader hc.cl hL0) rfl rfl rfl (c_X9_hasRoom l D cs B0 kt α Lv S 0 hc.cl (cl_0_reader hc.cl hL0)  hq_1) rfl rfl hl.1 (Nat.le_of_ble_eq_true rfl) ⟨Nat.le_of_ble_eq_true rfl, Nat.le_of_ble_eq_true rfl, Nat.zero_le _, Nat.zero_le _⟩ dX11_feed_4) hd (fun H locs hd => ?_)
  refine lv_if_ne (tgt := 12) hc.x hc.b dX11_feed_7 (by decide) (fun c_3 => ?_) (fun c_3 => ?_)
  · have hf := br_n c_3 hf
    refine lv_aload_n hc.x hc.b dX11_feed_12 rfl (lv_at hl 0 rfl) ?_
    refine fg_0_2 hc hd hL0 tw_355 dX11_feed_13 ?_
    refine lv_iload_n hc.x hc.b dX11_feed_16 rfl (lv_at hl 1 rfl) ?_
    obtain ⟨S_5, hq_4, hf⟩ := on_s hf
    refine k_v (k_runV hc hd my_X9_append tw_386 (cl_0_reader hc.cl hL0) rfl rfl rfl (c_X9_append l D cs B0 kt α Lv S 0 x1 hc.cl (cl_0_reader hc.cl hL0)  hq_4) rfl rfl hl.1 (Nat.le_of_ble_eq_true rfl) ⟨Nat.le_of_ble_eq_true rfl, Nat.le_of_ble_eq_true rfl, Nat.zero_le _, Nat.zero_le _⟩ dX11_feed_17) hd (fun H locs hd => ?_)
    refine lv_aload_n hc.x hc.b dX11_feed_20 rfl (lv_at hl 0 rfl) ?_
    refine fg_0_2 hc hd hL0 tw_355 dX11_feed_21 ?_
    refine lv_iload_n hc.x hc.b dX11_feed_24 rfl (lv_at hl 2 rfl) ?_
    obtain ⟨S_7, hq_6, hf⟩ := on_s hf
    refine k_v (k_runV hc hd my_X9_append tw_386 (cl_0_reader hc.cl hL0) rfl rfl rfl (c_X9_append l D cs B0 kt α Lv S_5 0 x2 hc.cl (cl_0_reader hc.cl hL0)  hq_6) rfl rfl hl.1 (Nat.le_of_ble_eq_true rfl) ⟨Nat.le_of_ble_eq_true rfl, Nat.le_of_ble_eq_true rfl, Nat.zero_le _, Nat.zero_le _⟩ dX11_feed_25) hd (fun H locs hd => ?_)
    refine lv_aload_n hc.x hc.b dX11_feed_28 rfl (lv_at hl 0 rfl) ?_
    refine fg_0_2 hc hd hL0 tw_355 dX11_feed_29 ?_
    refine lv_iload_n hc.x hc.b dX11_feed_32 rfl (lv_at hl 3 rfl) ?_
    obtain ⟨S_9, hq_8, hf⟩ := on_s hf
    refine k_v (k_runV hc hd my_X9_append tw_386 (cl_0_reader hc.cl hL0) rfl rfl rfl (c_X9_append l D cs B0 kt α Lv S_7 0 x3 hc.cl (cl_0_reader hc.cl hL0)  hq_8) rfl rfl hl.1 (Nat.le_of_ble_eq_true rfl) ⟨Nat.le_of_ble_eq_true rfl, Nat.le_of_ble_eq_true rfl, Nat.zero_le _, Nat.zero_le _⟩ dX11_feed_33) hd (fun H locs hd => ?_)
    refine lv_aload_n hc.x hc.b dX11_feed_36 rfl (lv_at hl 0 rfl) ?_
    refine fg_0_2 hc hd hL0 tw_355 dX11_feed_37 ?_
    refine lv_iload hc.x hc.b dX11_feed_40 (lv_at hl 4 rfl) ?_
    obtain ⟨S_11, hq_10, hf⟩ := on_s hf
    refine k_v (k_runV hc hd my_X9_append tw_386 (cl_0_reader hc.cl hL0) rfl rfl rfl (c_X9_append l D cs B0 kt α Lv S_9 0 x4 hc.cl (cl_0_reader hc.cl hL0)  hq_10) rfl rfl hl.1 (Nat.le_of_ble_eq_true rfl) ⟨Nat.le_of_ble_eq_true rfl, Nat.le_of_ble_eq_true rfl, Nat.zero_le _, Nat.zero_le _⟩ dX11_feed_42) hd (fun H locs hd => ?_)
    refine lv_aload_n hc.x hc.b dX11_feed_45 rfl (lv_at hl 0 rfl) ?_
    refine fg_0_2 hc hd hL0 tw_355 dX11_feed_46 ?_
    refine lv_iload hc.x hc.b dX11_feed_49 (lv_at hl 5 rfl) ?_
    obtain ⟨S_13, hq_12, hf⟩ := on_s hf
    refine k_v (k_runV hc hd my_X9_append tw_386 (cl_0_reader hc.cl hL0) rfl rfl rfl (c_X9_append l D cs B0 kt α Lv S_11 0 x5 hc.cl (cl_0_reader hc.cl hL0)  hq_12) rfl rfl hl.1 (Nat.le_of_ble_eq_true rfl) ⟨Nat.le_of_ble_eq_true rfl, Nat.le_of_ble_eq_true rfl, Nat.zero_le _, Nat.zero_le _⟩ dX11_feed_51) hd (fun H locs hd => ?_)
    refine lv_aload_n hc.x hc.b dX11_feed_54 rfl (lv_at hl 0 rfl) ?_
    refine fg_0_2 hc hd hL0 tw_355 dX11_feed_55 ?_
    refine fg_28_1 hc hd (cl_0_reader hc.cl hL0) tw_220 dX11_feed_58 ?_
    cases hf
    exact r_iret hc hd hr dX11_feed_61
  · have hf := br_y c_3 hf
    refine lv_iconst (v := (-1)) hc.x hc.b dX11_feed_10 (by decide) ?_
    cases hf
    exact r_iret hc hd hr dX11_feed_11
theorem c_X11_feed (l : Launch) (D : va_G) (cs : Nat → ClassId) (B0 : Nat) (kt : (Nat → Nat) × (Nat → Nat)) (α : Nat → Nat → Nat) (Lv : Nat → Nat → Prop) (S : St) (g0 : Nat) (x1 : Int32) (x2 : Int32) (x3 : Int32) (x4 : Int32) (x5 : Int32) (hcl : Cl Lv) (hL0 : Lv 0 g0) {o : Int32 × St} (hf : f_X11_feed g0 x1 x2 x3 x4 x5 S = some o) : Met l yX11_feed (wz yX11_feed cX11_feed 6 (some .int)) (Rm 1 0 0) (Pz D cs B0 kt α Lv S [.ref (α 0 g0), .int x1, .int x2, .int x3, .int x4, .int x5]) (Qi D cs B0 α Lv o.1 o.2) 0 0 (AB B0) := met_of (by decide) rfl hcl (Nat.le_of_ble_eq_true rfl) (fun p e s m below meth c hc hr hd ls hl => b_X11_feed hc hr hL0 hf hd hl)
theorem my_X11_feed : MyV yX11_feed "PumpCrossing" cX11_feed 6 (some .int) 5 := ⟨tw_379, tw_380, tw_1, tw_381, by decide +kernel⟩
def f_X11_needFilledTray (g0 : Nat) (x1 : Int32) (S : St) : Option ((Nat ⊕ Unit) × St) := on (f_X10_isMissing 0 x1 S) (fun r_2 => br (r_2 = 0) (some (.inr (), S)) (some (.inl 1, S)))
set_option maxRecDepth 100000 in
set_option maxHeartbeats 4000000 in
theorem b_X11_needFilledTray (hc : Cx p s m args meth c cX11_needFilledTray 2 "PumpCrossing" D cs B0 kt Lv) (hr : meth.sig.returnType = none)  {o : (Nat ⊕ Unit) × St} (hex : XH l c o) {S : St} {g0 : Nat} {x1 : Int32} (hL0 : Lv 0 g0) {H : Heap} {locs : List Loc} {ls : Array Slot} (hf : f_X11_needFilledTray g0 x1 S = some o) (hd : Dy s D cs B0 α Lv S H locs) (hl : lv_has ls 2 [(0, .ref (α 0 g0)), (1, .int x1)]) : W p l e (RX 8 o) s m args below meth c H locs 0 0 (QXv D cs B0 α Lv o below args s) (F0 m 0 ls []) := by
  unfold f_X11_needFilledTray at hf
  refine lv_aload_n hc.x hc.b dX11_needFilledTray_0 rfl (lv_at hl 0 rfl) ?_
  refine fg_0_3 hc hd hL0 tw_356 dX11_needFilledTray_1 ?_
  refine lv_iload_n hc.x hc.b dX11_needFilledTray_4 rfl (lv_at hl 1 rfl) ?_
  obtain ⟨r_2, hq_1, hf⟩ := on_s hf
  refine k_i (k_runV hc hd my_X10_isMissing tw_1159 (cl_0_trays hc.cl hL0) rfl rfl rfl (c_X10_isMissing l D cs B0 kt α Lv S 0 x1 hc.cl (cl_0_trays hc.cl hL0)  hq_1) rfl rfl hl.1 (Nat.le_of_ble_eq_true rfl) ⟨Nat.le_of_ble_eq_true rfl, Nat.le_of_ble_eq_true rfl, Nat.zero_le _, Nat.zero_le _⟩ dX11_needFilledTray_5) hd (fun H locs hd => ?_)
  refine lv_if_eq (tgt := 22) hc.x hc.b dX11_needFilledTray_8 (by decide) (fun c_3 => ?_) (fun c_3 => ?_)
  · have hf := br_y c_3 hf
    cases hf
    exact r_vret hc hd hr dX11_needFilledTray_22
  · have hf := br_n c_3 hf
    cases hf
    exact r_thrw_1 hc hd hl.1 hex.1 hex.2 tw_455 (i := 12) rfl (Nat.le_of_ble_eq_true rfl) (Nat.le_of_ble_eq_true rfl) (Nat.le_of_ble_eq_true rfl) (Nat.le_of_ble_eq_true rfl) dX11_needFilledTray_11 dX11_needFilledTray_14 dX11_needFilledTray_15 dX11_needFilledTray_18 dX11_needFilledTray_21
theorem c_X11_needFilledTray (l : Launch) (D : va_G) (cs : Nat → ClassId) (B0 : Nat) (kt : (Nat → Nat) × (Nat → Nat)) (α : Nat → Nat → Nat) (Lv : Nat → Nat → Prop) (S : St) (g0 : Nat) (x1 : Int32) (hcl : Cl Lv) (hL0 : Lv 0 g0) {S1 : St} (hf : f_X11_needFilledTray g0 x1 S = some (.inr (), S1)) : Met l yX11_needFilledTray (wz yX11_needFilledTray cX11_needFilledTray 2 none) (Rm 8 0 0) (Pz D cs B0 kt α Lv S [.ref (α 0 g0), .int x1]) (Qv D cs B0 α Lv S1) 0 0 (AB B0) := met_of (by decide) rfl hcl (Nat.le_of_ble_eq_true rfl) (fun p e s m below meth c hc hr hd ls hl => b_X11_needFilledTray hc hr XH.r hL0 hf hd hl)
theorem xc_X11_needFilledTray (l : Launch) (D : va_G) (cs : Nat → ClassId) (B0 : Nat) (kt : (Nat → Nat) × (Nat → Nat)) (α : Nat → Nat → Nat) (Lv : Nat → Nat → Prop) (S : St) (g0 : Nat) (x1 : Int32) (hcl : Cl Lv) (hL0 : Lv 0 g0) {k : Nat} {S1 : St} (hf : f_X11_needFilledTray g0 x1 S = some (.inl k, S1)) (hst : l.stackTraces = false) : vx_Met l yX11_needFilledTray (wz yX11_needFilledTray cX11_needFilledTray 2 none) (Rm 8 1 6) (Pz D cs B0 kt α Lv S [.ref (α 0 g0), .int x1]) QF (XQ D cs B0 α Lv k S1) 1 6 (AB B0) := xmet_of (by decide) rfl hcl (Nat.le_of_ble_eq_true rfl) (fun p e s m below meth c hc hr hex hd ls hl => b_X11_needFilledTray hc hr (XH.l hst hex) hL0 hf hd hl)
theorem my_X11_needFilledTray : MyV yX11_needFilledTray "PumpCrossing" cX11_needFilledTray 2 none 1 := ⟨tw_1157, (in_sel 31 (by decide +kernel) (by decide +kernel)), tw_1, tw_1158, by decide +kernel⟩
def f_X11_needTray (g0 : Nat) (x1 : Int32) (S : St) : Option ((Nat ⊕ Unit) × St) := bv (fun  (S_1 : St) => some (.inl 3, S_1)) (fun J_2 => br (x1 < 0) (J_2 S) (br (x1 < 4) (some (.inr (), S)) (J_2 S)))
set_option maxRecDepth 100000 in
set_option maxHeartbeats 4000000 in
theorem b_X11_needTray (hc : Cx p s m args meth c cX11_needTray 2 "PumpCrossing" D cs B0 kt Lv) (hr : meth.sig.returnType = none)  {o : (Nat ⊕ Unit) × St} (hex : XH l c o) {S : St} {g0 : Nat} {x1 : Int32} (hL0 : Lv 0 g0) {H : Heap} {locs : List Loc} {ls : Array Slot} (hf : f_X11_needTray g0 x1 S = some o) (hd : Dy s D cs B0 α Lv S H locs) (hl : lv_has ls 2 [(0, .ref (α 0 g0)), (1, .int x1)]) : W p l e (RX 8 o) s m args below meth c H locs 0 0 (QXv D cs B0 α Lv o below args s) (F0 m 0 ls []) := by
  unfold f_X11_needTray at hf
  refine lv_iload_n hc.x hc.b dX11_needTray_0 rfl (lv_at hl 1 rfl) ?_
  refine jn_s (P := fun J_2 => ∀  (S_1 : St) (H : Heap) (locs : List Loc) (ls : Array Slot), J_2 S_1 = some o → Dy s D cs B0 α Lv S_1 H locs → lv_has ls 2 [] → W p l e (RX 8 o) s m args below meth c H locs 0 0 (QXv D cs B0 α Lv o below args s) (F0 m 9 ls [])) hf ?_ (fun J_2 hJ_2 hf => ?_)
  · intro S_1 H locs ls hf hd hl
    cases hf
    exact r_thrw_3 hc hd hl.1 hex.1 hex.2 tw_563 (i := 11) rfl (Nat.le_of_ble_eq_true rfl) (Nat.le_of_ble_eq_true rfl) (Nat.le_of_ble_eq_true rfl) (Nat.le_of_ble_eq_true rfl) dX11_needTray_9 dX11_needTray_12 dX11_needTray_13 dX11_needTray_16 dX11_needTray_19
  refine lv_if_lt (tgt := 9) hc.x hc.b dX11_needTray_1 (by decide) (fun c_3 => ?_) (fun c_3 => ?_)
  · have hf := br_y c_3 hf
    exact hJ_2 S _ _ _ hf hd (lv_sub hl [] rfl)
  · have hf := br_n c_3 hf
    refine lv_iload_n hc.x hc.b dX11_needTray_4 rfl (lv_at hl 1 rfl) ?_
    refine lv_iconst (v := 4) hc.x hc.b dX11_needTray_5 (by decide) ?_
    refine lv_icmp_lt (tgt := 20) hc.x hc.b dX11_needTray_6 (by decide) (fun c_4 => ?_) (fun c_4 => ?_)
    · have hf := br_y c_4 hf
      cases hf
      exact r_vret hc hd hr dX11_needTray_20
    · have hf := br_n c_4 hf
      exact hJ_2 S _ _ _ hf hd (lv_sub hl [] rfl)
theorem c_X11_needTray (l : Launch) (D : va_G) (cs : Nat → ClassId) (B0 : Nat) (kt : (Nat → Nat) × (Nat → Nat)) (α : Nat → Nat → Nat) (Lv : Nat → Nat → Prop) (S : St) (g0 : Nat) (x1 : Int32) (hcl : Cl Lv) (hL0 : Lv 0 g0) {S1 : St} (hf : f_X11_needTray g0 x1 S = some (.inr (), S1)) : Met l yX11_needTray (wz yX11_needTray cX11_needTray 2 none) (Rm 8 0 0) (Pz D cs B0 kt α Lv S [.ref (α 0 g0), .int x1]) (Qv D cs B0 α Lv S1) 0 0 (AB B0) := met_of (by decide) rfl hcl (Nat.le_of_ble_eq_true rfl) (fun p e s m below meth c hc hr hd ls hl => b_X11_needTray hc hr XH.r hL0 hf hd hl)
theorem xc_X11_needTray (l : Launch) (D : va_G) (cs : Nat → ClassId) (B0 : Nat) (kt : (Nat → Nat) × (Nat → Nat)) (α : Nat → Nat → Nat) (Lv : Nat → Nat → Prop) (S : St) (g0 : Nat) (x1 : Int32) (hcl : Cl Lv) (hL0 : Lv 0 g0) {k : Nat} {S1 : St} (hf : f_X11_needTray g0 x1 S = some (.inl k, S1)) (hst : l.stackTraces = false) : vx_Met l yX11_needTray (wz yX11_needTray cX11_needTray 2 none) (Rm 8 1 6) (Pz D cs B0 kt α Lv S [.ref (α 0 g0), .int x1]) QF (XQ D cs B0 α Lv k S1) 1 6 (AB B0) := xmet_of (by decide) rfl hcl (Nat.le_of_ble_eq_true rfl) (fun p e s m below meth c hc hr hex hd ls hl => b_X11_needTray hc hr (XH.l hst hex) hL0 hf hd hl)
theorem my_X11_needTray : MyV yX11_needTray "PumpCrossing" cX11_needTray 2 none 1 := ⟨tw_1152, (in_sel 30 (by decide +kernel) (by decide +kernel)), tw_1, tw_1153, by decide +kernel⟩
def f_X11_fill (g0 : Nat) (x1 : Int32) (x2 : Int32) (x3 : Int32) (x4 : Int32) (S : St) : Option ((Nat ⊕ Int32) × St) := xb (τ := Unit) (f_X11_needTray g0 x1 S) (fun _u S_2 => xb (τ := Unit) (f_X11_needFilledTray g0 x1 S_2) (fun _u S_4 => xb (τ := Unit) (f_X11_needWithin g0 x2 1 12 S_4) (fun _u S_6 => xb (τ := Unit) (f_X11_needWithin g0 x3 0 x2 S_6) (fun _u S_8 => ck (inb x1 4 = true) (bv (gi S_8 51 0 (nn x1)) (fun x5_10 => bv (fun  (S_11 : St) => some (.inl 2, S_11)) (fun J_12 => br (x5_10 < 1) (J_12 S_8) (on (f_X10_allWithin 0 x1 99 S_8) (fun r_15 => br (r_15 = 0) (J_12 S_8) (bv (fun  (S_17 : St) => some (.inr ((-1)), S_17)) (fun J_18 => br (x4 < ((-1))) (J_18 S_8) (br (x4 < x5_10) (on (f_X10_planFilling 0 x1 x2 S_8) (fun S_22 => bv (fun (v_23 : Int32) (S_24 : St) => some (.inr v_23, S_24)) (fun J_25 => br (x4 = ((-1))) (on (f_X10_leastPaid 0 x3 S_22) (fun r_30 => J_25 r_30 S_22)) (on (f_X10_filledOn 0 x4 x3 S_22) (fun r_28 => J_25 r_28 S_22))))) (J_18 S_8)))))))))))))
set_option maxRecDepth 100000 in
set_option maxHeartbeats 4000000 in
theorem b_X11_fill (hc : Cx p s m args meth c cX11_fill 6 "PumpCrossing" D cs B0 kt Lv) (hr : meth.sig.returnType = some .int)  {o : (Nat ⊕ Int32) × St} (hex : XH l c o) {S : St} {g0 : Nat} {x1 : Int32} {x2 : Int32} {x3 : Int32} {x4 : Int32} (hL0 : Lv 0 g0) {H : Heap} {locs : List Loc} {ls : Array Slot} (hf : f_X11_fill g0 x1 x2 x3 x4 S = some o) (hd : Dy s D cs B0 α Lv S H locs) (hl : lv_has ls 6 [(0, .ref (α 0 g0)), (1, .int x1), (2, .int x2), (3, .int x3), (4, .int x4)]) : W p l e (RX 9 o) s m args below meth c H locs 0 0 (QXi D cs B0 α Lv o below args s) (F0 m 0 ls []) := by
  unfold f_X11_fill at hf
  refine lv_aload_n hc.x hc.b dX11_fill_0 rfl (lv_at hl 0 rfl) ?_
  refine lv_iload_n hc.x hc.b dX11_fill_1 rfl (lv_at hl 1 rfl) ?_
  rcases xb_s hf with ⟨k9, S9, hq_1, rfl⟩ | ⟨_u, S_2, hq_1, hf⟩
  · exact x_go (x_runV hc hd my_X11_needTray tw_1150 hL0 rfl rfl rfl (xc_X11_needTray l D cs B0 kt α Lv S g0 x1 hc.cl hL0  hq_1 hex.1) rfl rfl hl.1 (Nat.le_of_ble_eq_true rfl) ⟨Nat.le_of_ble_eq_true rfl, Nat.le_of_ble_eq_true rfl, Nat.le_of_ble_eq_true rfl, Nat.le_of_ble_eq_true rfl⟩ dX11_fill_2) hd hex.2 hc.lk
  refine k_v (k_runV hc hd my_X11_needTray tw_1150 hL0 rfl rfl rfl (c_X11_needTray l D cs B0 kt α Lv S g0 x1 hc.cl hL0  hq_1) rfl rfl hl.1 (Nat.le_of_ble_eq_true rfl) ⟨Nat.le_of_ble_eq_true rfl, Nat.le_of_ble_eq_true rfl, Nat.zero_le _, Nat.zero_le _⟩ dX11_fill_2) hd (fun H locs hd => ?_)
  refine lv_aload_n hc.x hc.b dX11_fill_5 rfl (lv_at hl 0 rfl) ?_
  refine lv_iload_n hc.x hc.b dX11_fill_6 rfl (lv_at hl 1 rfl) ?_
  rcases xb_s hf with ⟨k9, S9, hq_3, rfl⟩ | ⟨_u, S_4, hq_3, hf⟩
  · exact x_go (x_runV hc hd my_X11_needFilledTray tw_1155 hL0 rfl rfl rfl (xc_X11_needFilledTray l D cs B0 kt α Lv S_2 g0 x1 hc.cl hL0  hq_3 hex.1) rfl rfl hl.1 (Nat.le_of_ble_eq_true rfl) ⟨Nat.le_of_ble_eq_true rfl, Nat.le_of_ble_eq_true rfl, Nat.le_of_ble_eq_true rfl, Nat.le_of_ble_eq_true rfl⟩ dX11_fill_7) hd hex.2 hc.lk
  refine k_v (k_runV hc hd my_X11_needFilledTray tw_1155 hL0 rfl rfl rfl (c_X11_needFilledTray l D cs B0 kt α Lv S_2 g0 x1 hc.cl hL0  hq_3) rfl rfl hl.1 (Nat.le_of_ble_eq_true rfl) ⟨Nat.le_of_ble_eq_true rfl, Nat.le_of_ble_eq_true rfl, Nat.zero_le _, Nat.zero_le _⟩ dX11_fill_7) hd (fun H locs hd => ?_)
  refine lv_aload_n hc.x hc.b dX11_fill_10 rfl (lv_at hl 0 rfl) ?_
  refine lv_iload_n hc.x hc.b dX11_fill_11 rfl (lv_at hl 2 rfl) ?_
  refine lv_iconst (v := 1) hc.x hc.b dX11_fill_12 (by decide) ?_
  refine lv_bipush (v := 12) hc.x hc.b dX11_fill_13 (by decide) ?_
  rcases xb_s hf with ⟨k9, S9, hq_5, rfl⟩ | ⟨_u, S_6, hq_5, hf⟩
  · exact x_go (x_runV hc hd my_X11_needWithin tw_527 hL0 rfl rfl rfl (xc_X11_needWithin l D cs B0 kt α Lv S_4 g0 x2 1 12 hc.cl hL0  hq_5 hex.1) rfl rfl hl.1 (Nat.le_of_ble_eq_true rfl) ⟨Nat.le_of_ble_eq_true rfl, Nat.le_of_ble_eq_true rfl, Nat.le_of_ble_eq_true rfl, Nat.le_of_ble_eq_true rfl⟩ dX11_fill_15) hd hex.2 hc.lk
  refine k_v (k_runV hc hd my_X11_needWithin tw_527 hL0 rfl rfl rfl (c_X11_needWithin l D cs B0 kt α Lv S_4 g0 x2 1 12 hc.cl hL0  hq_5) rfl rfl hl.1 (Nat.le_of_ble_eq_true rfl) ⟨Nat.le_of_ble_eq_true rfl, Nat.le_of_ble_eq_true rfl, Nat.zero_le _, Nat.zero_le _⟩ dX11_fill_15) hd (fun H locs hd => ?_)
  refine lv_aload_n hc.x hc.b dX11_fill_18 rfl (lv_at hl 0 rfl) ?_
  refine lv_iload_n hc.x hc.b dX11_fill_19 rfl (lv_at hl 3 rfl) ?_
  refine lv_iconst (v := 0) hc.x hc.b dX11_fill_20 (by decide) ?_
  refine lv_iload_n hc.x hc.b dX11_fill_21 rfl (lv_at hl 2 rfl) ?_
  rcases xb_s hf with ⟨k9, S9, hq_7, rfl⟩ | ⟨_u, S_8, hq_7, hf⟩
  · exact x_go (x_runV hc hd my_X11_needWithin tw_527 hL0 rfl rfl rfl (xc_X11_needWithin l D cs B0 kt α Lv S_6 g0 x3 0 x2 hc.cl hL0  hq_7 hex.1) rfl rfl hl.1 (Nat.le_of_ble_eq_true rfl) ⟨Nat.le_of_ble_eq_true rfl, Nat.le_of_ble_eq_true rfl, Nat.le_of_ble_eq_true rfl, Nat.le_of_ble_eq_true rfl⟩ dX11_fill_22) hd hex.2 hc.lk
  refine k_v (k_runV hc hd my_X11_needWithin tw_527 hL0 rfl rfl rfl (c_X11_needWithin l D cs B0 kt α Lv S_6 g0 x3 0 x2 hc.cl hL0  hq_7) rfl rfl hl.1 (Nat.le_of_ble_eq_true rfl) ⟨Nat.le_of_ble_eq_true rfl, Nat.le_of_ble_eq_true rfl, Nat.zero_le _, Nat.zero_le _⟩ dX11_fill_22) hd (fun H locs hd => ?_)
  refine lv_aload_n hc.x hc.b dX11_fill_25 rfl (lv_at hl 0 rfl) ?_
  refine fg_0_3 hc hd hL0 tw_356 dX11_fill_26 ?_
  refine fg_49_1 hc hd (cl_0_trays hc.cl hL0) tw_273 dX11_fill_29 ?_
  refine lv_iload_n hc.x hc.b dX11_fill_32 rfl (lv_at hl 1 rfl) ?_
  obtain ⟨hi_9, hf⟩ := ck_s hf
  refine r_iald hc hd (cl_49_lengths hc.cl (cl_0_trays hc.cl hL0)) rfl hi_9 dX11_fill_33 ?_
  refine lv_topi (fun x5_10 ex5_10 => ?_)
  have hf := bv_n ex5_10 hf
  refine lv_istore (lv' := [(5, .int x5_10), (0, .ref (α 0 g0)), (1, .int x1), (2, .int x2), (3, .int x3), (4, .int x4)]) hc.x hc.b dX11_fill_34 hl (by decide) rfl (fun ls hl => ?_)
  refine lv_iload hc.x hc.b dX11_fill_36 (lv_at hl 0 rfl) ?_
  refine lv_iconst (v := 1) hc.x hc.b dX11_fill_38 (by decide) ?_
  refine jn_s (P := fun J_12 => ∀  (S_11 : St) (H : Heap) (locs : List Loc) (ls : Array Slot), J_12 S_11 = some o → Dy s D cs B0 α Lv S_11 H locs → lv_has ls 6 [] → W p l e (RX 9 o) s m args below meth c H locs 0 0 (QXi D cs B0 α Lv o below args s) (F0 m 55 ls [])) hf ?_ (fun J_12 hJ_12 hf => ?_)
  · intro S_11 H locs ls hf hd hl
    cases hf
    exact r_thrw_2 hc hd hl.1 hex.1 hex.2 tw_531 (i := 13) rfl (Nat.le_of_ble_eq_true rfl) (Nat.le_of_ble_eq_true rfl) (Nat.le_of_ble_eq_true rfl) (Nat.le_of_ble_eq_true rfl) dX11_fill_55 dX11_fill_58 dX11_fill_59 dX11_fill_62 dX11_fill_65
  refine lv_icmp_lt (tgt := 55) hc.x hc.b dX11_fill_39 (by decide) (fun c_13 => ?_) (fun c_13 => ?_)
  · have hf := br_y c_13 hf
    exact hJ_12 S_8 _ _ _ hf hd (lv_sub hl [] rfl)
  · have hf := br_n c_13 hf
    refine lv_aload_n hc.x hc.b dX11_fill_42 rfl (lv_at hl 1 rfl) ?_
    refine fg_0_3 hc hd hL0 tw_356 dX11_fill_43 ?_
    refine lv_iload_n hc.x hc.b dX11_fill_46 rfl (lv_at hl 2 rfl) ?_
    refine lv_bipush (v := 99) hc.x hc.b dX11_fill_47 (by decide) ?_
    obtain ⟨r_15, hq_14, hf⟩ := on_s hf
    refine k_i (k_runV hc hd my_X10_allWithin tw_1164 (cl_0_trays hc.cl hL0) rfl rfl rfl (c_X10_allWithin l D cs B0 kt α Lv S_8 0 x1 99 hc.cl (cl_0_trays hc.cl hL0)  hq_14) rfl rfl hl.1 (Nat.le_of_ble_eq_true rfl) ⟨Nat.le_of_ble_eq_true rfl, Nat.le_of_ble_eq_true rfl, Nat.zero_le _, Nat.zero_le _⟩ dX11_fill_49) hd (fun H locs hd => ?_)
    refine lv_if_ne (tgt := 66) hc.x hc.b dX11_fill_52 (by decide) (fun c_16 => ?_) (fun c_16 => ?_)
    · have hf := br_n c_16 hf
      refine lv_iload hc.x hc.b dX11_fill_66 (lv_at hl 5 rfl) ?_
      refine lv_iconst (v := (-1)) hc.x hc.b dX11_fill_68 (by decide) ?_
      refine jn_s (P := fun J_18 => ∀  (S_17 : St) (H : Heap) (locs : List Loc) (ls : Array Slot), J_18 S_17 = some o → Dy s D cs B0 α Lv S_17 H locs → lv_has ls 6 [] → W p l e (RX 9 o) s m args below meth c H locs 0 0 (QXi D cs B0 α Lv o below args s) (F0 m 79 ls [])) hf ?_ (fun J_18 hJ_18 hf => ?_)
      · intro S_17 H locs ls hf hd hl
        refine lv_iconst (v := (-1)) hc.x hc.b dX11_fill_79 (by decide) ?_
        cases hf
        exact r_iret hc hd hr dX11_fill_80
      refine lv_icmp_lt (tgt := 79) hc.x hc.b dX11_fill_69 (by decide) (fun c_19 => ?_) (fun c_19 => ?_)
      · have hf := br_y c_19 hf
        exact hJ_18 S_8 _ _ _ hf hd (lv_sub hl [] rfl)
      · have hf := br_n c_19 hf
        refine lv_iload hc.x hc.b dX11_fill_72 (lv_at hl 5 rfl) ?_
        refine lv_iload hc.x hc.b dX11_fill_74 (lv_at hl 0 rfl) ?_
        refine lv_icmp_lt (tgt := 81) hc.x hc.b dX11_fill_76 (by decide) (fun c_20 => ?_) (fun c_20 => ?_)
        · have hf := br_y c_20 hf
          refine lv_aload_n hc.x hc.b dX11_fill_81 rfl (lv_at hl 1 rfl) ?_
          refine fg_0_3 hc hd hL0 tw_356 dX11_fill_82 ?_
          refine lv_iload_n hc.x hc.b dX11_fill_85 rfl (lv_at hl 2 rfl) ?_
          refine lv_iload_n hc.x hc.b dX11_fill_86 rfl (lv_at hl 3 rfl) ?_
          obtain ⟨S_22, hq_21, hf⟩ := on_s hf
          refine k_v (k_runV hc hd my_X10_planFilling tw_1195 (cl_0_trays hc.cl hL0) rfl rfl rfl (c_X10_planFilling l D cs B0 kt α Lv S_8 0 x1 x2 hc.cl (cl_0_trays hc.cl hL0)  hq_21) rfl rfl hl.1 (Nat.le_of_ble_eq_true rfl) ⟨Nat.le_of_ble_eq_true rfl, Nat.le_of_ble_eq_true rfl, Nat.zero_le _, Nat.zero_le _⟩ dX11_fill_87) hd (fun H locs hd => ?_)
          refine lv_iload hc.x hc.b dX11_fill_90 (lv_at hl 5 rfl) ?_
          refine lv_iconst (v := (-1)) hc.x hc.b dX11_fill_92 (by decide) ?_
          refine jn_s (P := fun J_25 => ∀ (v_23 : Int32) (S_24 : St) (H : Heap) (locs : List Loc) (ls : Array Slot), J_25 v_23 S_24 = some o → Dy s D cs B0 α Lv S_24 H locs → lv_has ls 6 [] → W p l e (RX 9 o) s m args below meth c H locs 0 0 (QXi D cs B0 α Lv o below args s) (F0 m 117 ls [.int v_23])) hf ?_ (fun J_25 hJ_25 hf => ?_)
          · intro v_23 S_24 H locs ls hf hd hl
            cases hf
            exact r_iret hc hd hr dX11_fill_117
          refine lv_icmp_ne (tgt := 107) hc.x hc.b dX11_fill_93 (by decide) (fun c_26 => ?_) (fun c_26 => ?_)
          · have hf := br_n c_26 hf
            refine lv_aload_n hc.x hc.b dX11_fill_107 rfl (lv_at hl 1 rfl) ?_
            refine fg_0_3 hc hd hL0 tw_356 dX11_fill_108 ?_
            refine lv_iload hc.x hc.b dX11_fill_111 (lv_at hl 5 rfl) ?_
            refine lv_iload_n hc.x hc.b dX11_fill_113 rfl (lv_at hl 4 rfl) ?_
            obtain ⟨r_28, hq_27, hf⟩ := on_s hf
            refine k_i (k_runV hc hd my_X10_filledOn tw_1207 (cl_0_trays hc.cl hL0) rfl rfl rfl (c_X10_filledOn l D cs B0 kt α Lv S_22 0 x4 x3 hc.cl (cl_0_trays hc.cl hL0)  hq_27) rfl rfl hl.1 (Nat.le_of_ble_eq_true rfl) ⟨Nat.le_of_ble_eq_true rfl, Nat.le_of_ble_eq_true rfl, Nat.zero_le _, Nat.zero_le _⟩ dX11_fill_114) hd (fun H locs hd => ?_)
            exact hJ_25 r_28 S_22 _ _ _ hf hd (lv_sub hl [] rfl)
          · have hf := br_y c_26 hf
            refine lv_aload_n hc.x hc.b dX11_fill_96 rfl (lv_at hl 1 rfl) ?_
            refine fg_0_3 hc hd hL0 tw_356 dX11_fill_97 ?_
            refine lv_iload_n hc.x hc.b dX11_fill_100 rfl (lv_at hl 4 rfl) ?_
            obtain ⟨r_30, hq_29, hf⟩ := on_s hf
            refine k_i (k_runV hc hd my_X10_leastPaid tw_1203 (cl_0_trays hc.cl hL0) rfl rfl rfl (c_X10_leastPaid l D cs B0 kt α Lv S_22 0 x3 hc.cl (cl_0_trays hc.cl hL0)  hq_29) rfl rfl hl.1 (Nat.le_of_ble_eq_true rfl) ⟨Nat.le_of_ble_eq_true rfl, Nat.le_of_ble_eq_true rfl, Nat.zero_le _, Nat.zero_le _⟩ dX11_fill_101) hd (fun H locs hd => ?_)
            refine lv_goto (tgt := 117) hc.x hc.b dX11_fill_104 (by decide) ?_
            exact hJ_25 r_30 S_22 _ _ _ hf hd (lv_sub hl [] rfl)
        · have hf := br_n c_20 hf
          exact hJ_18 S_8 _ _ _ hf hd (lv_sub hl [] rfl)
    · have hf := br_y c_16 hf
      exact hJ_12 S_8 _ _ _ hf hd (lv_sub hl [] rfl)
theorem c_X11_fill (l : Launch) (D : va_G) (cs : Nat → ClassId) (B0 : Nat) (kt : (Nat → Nat) × (Nat → Nat)) (α : Nat → Nat → Nat) (Lv : Nat → Nat → Prop) (S : St) (g0 : Nat) (x1 : Int32) (x2 : Int32) (x3 : Int32) (x4 : Int32) (hcl : Cl Lv) (hL0 : Lv 0 g0) {r : Int32} {S1 : St} (hf : f_X11_fill g0 x1 x2 x3 x4 S = some (.inr r, S1)) : Met l yX11_fill (wz yX11_fill cX11_fill 6 (some .int)) (Rm 9 0 0) (Pz D cs B0 kt α Lv S [.ref (α 0 g0), .int x1, .int x2, .int x3, .int x4]) (Qi D cs B0 α Lv r S1) 0 0 (AB B0) := met_of (by decide) rfl hcl (Nat.le_of_ble_eq_true rfl) (fun p e s m below meth c hc hr hd ls hl => b_X11_fill hc hr XH.r hL0 hf hd hl)
theorem xc_X11_fill (l : Launch) (D : va_G) (cs : Nat → ClassId) (B0 : Nat) (kt : (Nat → Nat) × (Nat → Nat)) (α : Nat → Nat → Nat) (Lv : Nat → Nat → Prop) (S : St) (g0 : Nat) (x1 : Int32) (x2 : Int32) (x3 : Int32) (x4 : Int32) (hcl : Cl Lv) (hL0 : Lv 0 g0) {k : Nat} {S1 : St} (hf : f_X11_fill g0 x1 x2 x3 x4 S = some (.inl k, S1)) (hst : l.stackTraces = false) : vx_Met l yX11_fill (wz yX11_fill cX11_fill 6 (some .int)) (Rm 9 1 6) (Pz D cs B0 kt α Lv S [.ref (α 0 g0), .int x1, .int x2, .int x3, .int x4]) QF (XQ D cs B0 α Lv k S1) 1 6 (AB B0) := xmet_of (by decide) rfl hcl (Nat.le_of_ble_eq_true rfl) (fun p e s m below meth c hc hr hex hd ls hl => b_X11_fill hc hr (XH.l hst hex) hL0 hf hd hl)
theorem my_X11_fill : MyV yX11_fill "PumpCrossing" cX11_fill 6 (some .int) 4 := ⟨tw_1191, tw_1192, tw_1, tw_1193, by decide +kernel⟩
def f_X11_fills (g0 : Nat) (x1 : Int32) (S : St) : Option ((Nat ⊕ Int32) × St) := bv (fun  (S_1 : St) => some (.inl 3, S_1)) (fun J_2 => br (x1 < 0) (J_2 S) (br (x1 < (gi S 9 0 0)) (on (f_X2_takePricesNow 0 (0 + 1) S) (fun S_6 => on (f_X2_known 0 S_6) (fun r_8 => on (f_X3_placeOf 0 x1 (0 + 1) r_8 S_6) (fun r_10 => some (.inr r_10, S_6))))) (J_2 S)))
set_option maxRecDepth 100000 in
set_option maxHeartbeats 4000000 in
theorem b_X11_fills (hc : Cx p s m args meth c cX11_fills 2 "PumpCrossing" D cs B0 kt Lv) (hr : meth.sig.returnType = some .int)  {o : (Nat ⊕ Int32) × St} (hex : XH l c o) {S : St} {g0 : Nat} {x1 : Int32} (hL0 : Lv 0 g0) {H : Heap} {locs : List Loc} {ls : Array Slot} (hf : f_X11_fills g0 x1 S = some o) (hd : Dy s D cs B0 α Lv S H locs) (hl : lv_has ls 2 [(0, .ref (α 0 g0)), (1, .int x1)]) : W p l e (RX 8 o) s m args below meth c H locs 0 0 (QXi D cs B0 α Lv o below args s) (F0 m 0 ls []) := by
  unfold f_X11_fills at hf
  refine lv_iload_n hc.x hc.b dX11_fills_0 rfl (lv_at hl 1 rfl) ?_
  refine jn_s (P := fun J_2 => ∀  (S_1 : St) (H : Heap) (locs : List Loc) (ls : Array Slot), J_2 S_1 = some o → Dy s D cs B0 α Lv S_1 H locs → lv_has ls 2 [] → W p l e (RX 8 o) s m args below meth c H locs 0 0 (QXi D cs B0 α Lv o below args s) (F0 m 18 ls [])) hf ?_ (fun J_2 hJ_2 hf => ?_)
  · intro S_1 H locs ls hf hd hl
    cases hf
    exact r_thr_3 hc hd hl.1 hex.1 hex.2 tw_563 (i := 6) rfl (Nat.le_of_ble_eq_true rfl) (Nat.le_of_ble_eq_true rfl) (Nat.le_of_ble_eq_true rfl) (Nat.le_of_ble_eq_true rfl) dX11_fills_18 dX11_fills_21 dX11_fills_22 dX11_fills_24 dX11_fills_27
  refine lv_if_lt (tgt := 18) hc.x hc.b dX11_fills_1 (by decide) (fun c_3 => ?_) (fun c_3 => ?_)
  · have hf := br_y c_3 hf
    exact hJ_2 S _ _ _ hf hd (lv_sub hl [] rfl)
  · have hf := br_n c_3 hf
    refine lv_iload_n hc.x hc.b dX11_fills_4 rfl (lv_at hl 1 rfl) ?_
    refine lv_aload_n hc.x hc.b dX11_fills_5 rfl (lv_at hl 0 rfl) ?_
    refine fg_0_0 hc hd hL0 tw_353 dX11_fills_6 ?_
    refine fg_2_9 hc hd (cl_0_now hc.cl hL0) tw_156 dX11_fills_9 ?_
    refine fg_9_0 hc hd (cl_2_drivers hc.cl (cl_0_now hc.cl hL0)) tw_51 dX11_fills_12 ?_
    refine lv_icmp_lt (tgt := 28) hc.x hc.b dX11_fills_15 (by decide) (fun c_4 => ?_) (fun c_4 => ?_)
    · have hf := br_y c_4 hf
      refine lv_aload_n hc.x hc.b dX11_fills_28 rfl (lv_at hl 0 rfl) ?_
      refine fg_0_0 hc hd hL0 tw_353 dX11_fills_29 ?_
      refine lv_aload_n hc.x hc.b dX11_fills_32 rfl (lv_at hl 0 rfl) ?_
      refine fg_0_0 hc hd hL0 tw_353 dX11_fills_33 ?_
      refine fg_2_16 hc hd (cl_0_now hc.cl hL0) tw_172 dX11_fills_36 ?_
      obtain ⟨S_6, hq_5, hf⟩ := on_s hf
      refine k_v (k_runV hc hd my_X2_takePricesNow tw_899 (cl_0_now hc.cl hL0) rfl rfl rfl (c_X2_takePricesNow l D cs B0 kt α Lv S 0 (0 + 1) hc.cl (cl_0_now hc.cl hL0) (cl_2_row hc.cl (cl_0_now hc.cl hL0))  hq_5) rfl rfl hl.1 (Nat.le_of_ble_eq_true rfl) ⟨Nat.le_of_ble_eq_true rfl, Nat.le_of_ble_eq_true rfl, Nat.zero_le _, Nat.zero_le _⟩ dX11_fills_39) hd (fun H locs hd => ?_)
      refine lv_aload_n hc.x hc.b dX11_fills_42 rfl (lv_at hl 0 rfl) ?_
      refine fg_0_0 hc hd hL0 tw_353 dX11_fills_43 ?_
      refine fg_2_9 hc hd (cl_0_now hc.cl hL0) tw_156 dX11_fills_46 ?_
      refine lv_iload_n hc.x hc.b dX11_fills_49 rfl (lv_at hl 1 rfl) ?_
      refine lv_aload_n hc.x hc.b dX11_fills_50 rfl (lv_at hl 0 rfl) ?_
      refine fg_0_0 hc hd hL0 tw_353 dX11_fills_51 ?_
      refine fg_2_16 hc hd (cl_0_now hc.cl hL0) tw_172 dX11_fills_54 ?_
      refine lv_aload_n hc.x hc.b dX11_fills_57 rfl (lv_at hl 0 rfl) ?_
      refine fg_0_0 hc hd hL0 tw_353 dX11_fills_58 ?_
      obtain ⟨r_8, hq_7, hf⟩ := on_s hf
      refine k_i (k_runV hc hd my_X2_known tw_903 (cl_0_now hc.cl hL0) rfl rfl rfl (c_X2_known l D cs B0 kt α Lv S_6 0 hc.cl (cl_0_now hc.cl hL0)  hq_7) rfl rfl hl.1 (Nat.le_of_ble_eq_true rfl) ⟨Nat.le_of_ble_eq_true rfl, Nat.le_of_ble_eq_true rfl, Nat.zero_le _, Nat.zero_le _⟩ dX11_fills_61) hd (fun H locs hd => ?_)
      obtain ⟨r_10, hq_9, hf⟩ := on_s hf
      refine k_i (k_runV hc hd my_X3_placeOf tw_904 (cl_2_drivers hc.cl (cl_0_now hc.cl hL0)) rfl rfl rfl (c_X3_placeOf l D cs B0 kt α Lv S_6 0 x1 (0 + 1) r_8 hc.cl (cl_2_drivers hc.cl (cl_0_now hc.cl hL0)) (cl_2_row hc.cl (cl_0_now hc.cl hL0))  hq_9) rfl rfl hl.1 (Nat.le_of_ble_eq_true rfl) ⟨Nat.le_of_ble_eq_true rfl, Nat.le_of_ble_eq_true rfl, Nat.zero_le _, Nat.zero_le _⟩ dX11_fills_64) hd (fun H locs hd => ?_)
      cases hf
      exact r_iret hc hd hr dX11_fills_67
    · have hf := br_n c_4 hf
      exact hJ_2 S _ _ _ hf hd (lv_sub hl [] rfl)
theorem c_X11_fills (l : Launch) (D : va_G) (cs : Nat → ClassId) (B0 : Nat) (kt : (Nat → Nat) × (Nat → Nat)) (α : Nat → Nat → Nat) (Lv : Nat → Nat → Prop) (S : St) (g0 : Nat) (x1 : Int32) (hcl : Cl Lv) (hL0 : Lv 0 g0) {r : Int32} {S1 : St} (hf : f_X11_fills g0 x1 S = some (.inr r, S1)) : Met l yX11_fills (wz yX11_fills cX11_fills 2 (some .int)) (Rm 8 0 0) (Pz D cs B0 kt α Lv S [.ref (α 0 g0), .int x1]) (Qi D cs B0 α Lv r S1) 0 0 (AB B0) := met_of (by decide) rfl hcl (Nat.le_of_ble_eq_true rfl) (fun p e s m below meth c hc hr hd ls hl => b_X11_fills hc hr XH.r hL0 hf hd hl)
theorem xc_X11_fills (l : Launch) (D : va_G) (cs : Nat → ClassId) (B0 : Nat) (kt : (Nat → Nat) × (Nat → Nat)) (α : Nat → Nat → Nat) (Lv : Nat → Nat → Prop) (S : St) (g0 : Nat) (x1 : Int32) (hcl : Cl Lv) (hL0 : Lv 0 g0) {k : Nat} {S1 : St} (hf : f_X11_fills g0 x1 S = some (.inl k, S1)) (hst : l.stackTraces = false) : vx_Met l yX11_fills (wz yX11_fills cX11_fills 2 (some .int)) (Rm 8 1 6) (Pz D cs B0 kt α Lv S [.ref (α 0 g0), .int x1]) QF (XQ D cs B0 α Lv k S1) 1 6 (AB B0) := xmet_of (by decide) rfl hcl (Nat.le_of_ble_eq_true rfl) (fun p e s m below meth c hc hr hex hd ls hl => b_X11_fills hc hr (XH.l hst hex) hL0 hf hd hl)
theorem my_X11_fills : MyV yX11_fills "PumpCrossing" cX11_fills 2 (some .int) 1 := ⟨tw_895, tw_896, tw_1, tw_897, by decide +kernel⟩
def f_X11_fit (g0 : Nat) (x1 : Int32) (S : St) : Option ((Nat ⊕ Int32) × St) := xb (τ := Unit) (f_X11_needStation g0 x1 S) (fun _u S_2 => on2 (f_X2_firstMisfit 0 x1 S_2) (fun r_5 S_4 => some (.inr r_5, S_4)))
set_option maxRecDepth 100000 in
set_option maxHeartbeats 4000000 in
theorem b_X11_fit (hc : Cx p s m args meth c cX11_fit 2 "PumpCrossing" D cs B0 kt Lv) (hr : meth.sig.returnType = some .int)  {o : (Nat ⊕ Int32) × St} (hex : XH l c o) {S : St} {g0 : Nat} {x1 : Int32} (hL0 : Lv 0 g0) {H : Heap} {locs : List Loc} {ls : Array Slot} (hf : f_X11_fit g0 x1 S = some o) (hd : Dy s D cs B0 α Lv S H locs) (hl : lv_has ls 2 [(0, .ref (α 0 g0)), (1, .int x1)]) : W p l e (RX 9 o) s m args below meth c H locs 0 0 (QXi D cs B0 α Lv o below args s) (F0 m 0 ls []) := by
  unfold f_X11_fit at hf
  refine lv_aload_n hc.x hc.b dX11_fit_0 rfl (lv_at hl 0 rfl) ?_
  refine lv_iload_n hc.x hc.b dX11_fit_1 rfl (lv_at hl 1 rfl) ?_
  rcases xb_s hf with ⟨k9, S9, hq_1, rfl⟩ | ⟨_u, S_2, hq_1, hf⟩
  · exact x_go (x_runV hc hd my_X11_needStation tw_559 hL0 rfl rfl rfl (xc_X11_needStation l D cs B0 kt α Lv S g0 x1 hc.cl hL0  hq_1 hex.1) rfl rfl hl.1 (Nat.le_of_ble_eq_true rfl) ⟨Nat.le_of_ble_eq_true rfl, Nat.le_of_ble_eq_true rfl, Nat.le_of_ble_eq_true rfl, Nat.le_of_ble_eq_true rfl⟩ dX11_fit_2) hd hex.2 hc.lk
  refine k_v (k_runV hc hd my_X11_needStation tw_559 hL0 rfl rfl rfl (c_X11_needStation l D cs B0 kt α Lv S g0 x1 hc.cl hL0  hq_1) rfl rfl hl.1 (Nat.le_of_ble_eq_true rfl) ⟨Nat.le_of_ble_eq_true rfl, Nat.le_of_ble_eq_true rfl, Nat.zero_le _, Nat.zero_le _⟩ dX11_fit_2) hd (fun H locs hd => ?_)
  refine lv_aload_n hc.x hc.b dX11_fit_5 rfl (lv_at hl 0 rfl) ?_
  refine fg_0_0 hc hd hL0 tw_353 dX11_fit_6 ?_
  refine lv_iload_n hc.x hc.b dX11_fit_9 rfl (lv_at hl 1 rfl) ?_
  obtain ⟨r_5, S_4, hq_3, hf⟩ := on2_s hf
  refine k_i (k_runV hc hd my_X2_firstMisfit tw_1231 (cl_0_now hc.cl hL0) rfl rfl rfl (c_X2_firstMisfit l D cs B0 kt α Lv S_2 0 x1 hc.cl (cl_0_now hc.cl hL0)  hq_3) rfl rfl hl.1 (Nat.le_of_ble_eq_true rfl) ⟨Nat.le_of_ble_eq_true rfl, Nat.le_of_ble_eq_true rfl, Nat.zero_le _, Nat.zero_le _⟩ dX11_fit_10) hd (fun H locs hd => ?_)
  cases hf
  exact r_iret hc hd hr dX11_fit_13
theorem c_X11_fit (l : Launch) (D : va_G) (cs : Nat → ClassId) (B0 : Nat) (kt : (Nat → Nat) × (Nat → Nat)) (α : Nat → Nat → Nat) (Lv : Nat → Nat → Prop) (S : St) (g0 : Nat) (x1 : Int32) (hcl : Cl Lv) (hL0 : Lv 0 g0) {r : Int32} {S1 : St} (hf : f_X11_fit g0 x1 S = some (.inr r, S1)) : Met l yX11_fit (wz yX11_fit cX11_fit 2 (some .int)) (Rm 9 0 0) (Pz D cs B0 kt α Lv S [.ref (α 0 g0), .int x1]) (Qi D cs B0 α Lv r S1) 0 0 (AB B0) := met_of (by decide) rfl hcl (Nat.le_of_ble_eq_true rfl) (fun p e s m below meth c hc hr hd ls hl => b_X11_fit hc hr XH.r hL0 hf hd hl)
theorem xc_X11_fit (l : Launch) (D : va_G) (cs : Nat → ClassId) (B0 : Nat) (kt : (Nat → Nat) × (Nat → Nat)) (α : Nat → Nat → Nat) (Lv : Nat → Nat → Prop) (S : St) (g0 : Nat) (x1 : Int32) (hcl : Cl Lv) (hL0 : Lv 0 g0) {k : Nat} {S1 : St} (hf : f_X11_fit g0 x1 S = some (.inl k, S1)) (hst : l.stackTraces = false) : vx_Met l yX11_fit (wz yX11_fit cX11_fit 2 (some .int)) (Rm 9 1 6) (Pz D cs B0 kt α Lv S [.ref (α 0 g0), .int x1]) QF (XQ D cs B0 α Lv k S1) 1 6 (AB B0) := xmet_of (by decide) rfl hcl (Nat.le_of_ble_eq_true rfl) (fun p e s m below meth c hc hr hex hd ls hl => b_X11_fit hc hr (XH.l hst hex) hL0 hf hd hl)
theorem my_X11_fit : MyV yX11_fit "PumpCrossing" cX11_fit 2 (some .int) 1 := ⟨tw_1228, tw_1229, tw_1, tw_1230, by decide +kernel⟩
def f_X11_needLevel (g0 : Nat) (x1 : Int32) (S : St) : Option ((Nat ⊕ Unit) × St) := bv (fun  (S_1 : St) => some (.inl 4, S_1)) (fun J_2 => br (x1 < 0) (J_2 S) (br (x1 < (gi S 2 0 14)) (some (.inr (), S)) (J_2 S)))
set_option maxRecDepth 100000 in
set_option maxHeartbeats 4000000 in
theorem b_X11_needLevel (hc : Cx p s m args meth c cX11_needLevel 2 "PumpCrossing" D cs B0 kt Lv) (hr : meth.sig.returnType = none)  {o : (Nat ⊕ Unit) × St} (hex : XH l c o) {S : St} {g0 : Nat} {x1 : Int32} (hL0 : Lv 0 g0) {H : Heap} {locs : List Loc} {ls : Array Slot} (hf : f_X11_needLevel g0 x1 S = some o) (hd : Dy s D cs B0 α Lv S H locs) (hl : lv_has ls 2 [(0, .ref (α 0 g0)), (1, .int x1)]) : W p l e (RX 8 o) s m args below meth c H locs 0 0 (QXv D cs B0 α Lv o below args s) (F0 m 0 ls []) := by
  unfold f_X11_needLevel at hf
  refine lv_iload_n hc.x hc.b dX11_needLevel_0 rfl (lv_at hl 1 rfl) ?_
  refine jn_s (P := fun J_2 => ∀  (S_1 : St) (H : Heap) (locs : List Loc) (ls : Array Slot), J_2 S_1 = some o → Dy s D cs B0 α Lv S_1 H locs → lv_has ls 2 [] → W p l e (RX 8 o) s m args below meth c H locs 0 0 (QXv D cs B0 α Lv o below args s) (F0 m 15 ls [])) hf ?_ (fun J_2 hJ_2 hf => ?_)
  · intro S_1 H locs ls hf hd hl
    cases hf
    exact r_thrw_4 hc hd hl.1 hex.1 hex.2 tw_980 (i := 9) rfl (Nat.le_of_ble_eq_true rfl) (Nat.le_of_ble_eq_true rfl) (Nat.le_of_ble_eq_true rfl) (Nat.le_of_ble_eq_true rfl) dX11_needLevel_15 dX11_needLevel_18 dX11_needLevel_19 dX11_needLevel_22 dX11_needLevel_25
  refine lv_if_lt (tgt := 15) hc.x hc.b dX11_needLevel_1 (by decide) (fun c_3 => ?_) (fun c_3 => ?_)
  · have hf := br_y c_3 hf
    exact hJ_2 S _ _ _ hf hd (lv_sub hl [] rfl)
  · have hf := br_n c_3 hf
    refine lv_iload_n hc.x hc.b dX11_needLevel_4 rfl (lv_at hl 1 rfl) ?_
    refine lv_aload_n hc.x hc.b dX11_needLevel_5 rfl (lv_at hl 0 rfl) ?_
    refine fg_0_0 hc hd hL0 tw_353 dX11_needLevel_6 ?_
    refine fg_2_14 hc hd (cl_0_now hc.cl hL0) tw_168 dX11_needLevel_9 ?_
    refine lv_icmp_lt (tgt := 26) hc.x hc.b dX11_needLevel_12 (by decide) (fun c_4 => ?_) (fun c_4 => ?_)
    · have hf := br_y c_4 hf
      cases hf
      exact r_vret hc hd hr dX11_needLevel_26
    · have hf := br_n c_4 hf
      exact hJ_2 S _ _ _ hf hd (lv_sub hl [] rfl)
theorem c_X11_needLevel (l : Launch) (D : va_G) (cs : Nat → ClassId) (B0 : Nat) (kt : (Nat → Nat) × (Nat → Nat)) (α : Nat → Nat → Nat) (Lv : Nat → Nat → Prop) (S : St) (g0 : Nat) (x1 : Int32) (hcl : Cl Lv) (hL0 : Lv 0 g0) {S1 : St} (hf : f_X11_needLevel g0 x1 S = some (.inr (), S1)) : Met l yX11_needLevel (wz yX11_needLevel cX11_needLevel 2 none) (Rm 8 0 0) (Pz D cs B0 kt α Lv S [.ref (α 0 g0), .int x1]) (Qv D cs B0 α Lv S1) 0 0 (AB B0) := met_of (by decide) rfl hcl (Nat.le_of_ble_eq_true rfl) (fun p e s m below meth c hc hr hd ls hl => b_X11_needLevel hc hr XH.r hL0 hf hd hl)
theorem xc_X11_needLevel (l : Launch) (D : va_G) (cs : Nat → ClassId) (B0 : Nat) (kt : (Nat → Nat) × (Nat → Nat)) (α : Nat → Nat → Nat) (Lv : Nat → Nat → Prop) (S : St) (g0 : Nat) (x1 : Int32) (hcl : Cl Lv) (hL0 : Lv 0 g0) {k : Nat} {S1 : St} (hf : f_X11_needLevel g0 x1 S = some (.inl k, S1)) (hst : l.stackTraces = false) : vx_Met l yX11_needLevel (wz yX11_needLevel cX11_needLevel 2 none) (Rm 8 1 6) (Pz D cs B0 kt α Lv S [.ref (α 0 g0), .int x1]) QF (XQ D cs B0 α Lv k S1) 1 6 (AB B0) := xmet_of (by decide) rfl hcl (Nat.le_of_ble_eq_true rfl) (fun p e s m below meth c hc hr hex hd ls hl => b_X11_needLevel hc hr (XH.l hst hex) hL0 hf hd hl)
theorem my_X11_needLevel : MyV yX11_needLevel "PumpCrossing" cX11_needLevel 2 none 1 := ⟨tw_978, (in_sel 20 (by decide +kernel) (by decide +kernel)), tw_1, tw_979, by decide +kernel⟩
def f_X11_gain (g0 : Nat) (x1 : Int32) (x2 : Int32) (x3 : Int32) (x4 : Int32) (x5 : Int32) (S : St) : Option ((Nat ⊕ Int32) × St) := xb (τ := Unit) (f_X11_needTwo g0 x1 x2 S) (fun _u S_2 => xb (τ := Unit) (f_X11_needLevel g0 x3 S_2) (fun _u S_4 => xb (τ := Unit) (f_X11_needLevel g0 x4 S_4) (fun _u S_6 => on (f_X4_begin 0 0 x1 x2 S_6) (fun S_8 => bv (fun (v_9 : Int32) (S_10 : St) => some (.inr v_9, S_10)) (fun J_11 => br (x5 = 0) (ck (inb x3 8 = true) (ck (inb x4 8 = true) (J_11 (gi S_8 38 ((nn x3)) (nn x4)) S_8))) (ck (inb x3 8 = true) (ck (inb x4 8 = true) (J_11 (gi S_8 40 ((nn x3)) (nn x4)) S_8))))))))
set_option maxRecDepth 100000 in
set_option maxHeartbeats 4000000 in
theorem b_X11_gain (hc : Cx p s m args meth c cX11_gain 6 "PumpCrossing" D cs B0 kt Lv) (hr : meth.sig.returnType = some .int)  {o : (Nat ⊕ Int32) × St} (hex : XH l c o) {S : St} {g0 : Nat} {x1 : Int32} {x2 : Int32} {x3 : Int32} {x4 : Int32} {x5 : Int32} (hL0 : Lv 0 g0) {H : Heap} {locs : List Loc} {ls : Array Slot} (hf : f_X11_gain g0 x1 x2 x3 x4 x5 S = some o) (hd : Dy s D cs B0 α Lv S H locs) (hl : lv_has ls 6 [(0, .ref (α 0 g0)), (1, .int x1), (2, .int x2), (3, .int x3), (4, .int x4), (5, .int x5)]) : W p l e (RX 10 o) s m args below meth c H locs 0 0 (QXi D cs B0 α Lv o below args s) (F0 m 0 ls []) := by
  unfold f_X11_gain at hf
  refine lv_aload_n hc.x hc.b dX11_gain_0 rfl (lv_at hl 0 rfl) ?_
  refine lv_iload_n hc.x hc.b dX11_gain_1 rfl (lv_at hl 1 rfl) ?_
  refine lv_iload_n hc.x hc.b dX11_gain_2 rfl (lv_at hl 2 rfl) ?_
  rcases xb_s hf with ⟨k9, S9, hq_1, rfl⟩ | ⟨_u, S_2, hq_1, hf⟩
  · exact x_go (x_runV hc hd my_X11_needTwo tw_971 hL0 rfl rfl rfl (xc_X11_needTwo l D cs B0 kt α Lv S g0 x1 x2 hc.cl hL0  hq_1 hex.1) rfl rfl hl.1 (Nat.le_of_ble_eq_true rfl) ⟨Nat.le_of_ble_eq_true rfl, Nat.le_of_ble_eq_true rfl, Nat.le_of_ble_eq_true rfl, Nat.le_of_ble_eq_true rfl⟩ dX11_gain_3) hd hex.2 hc.lk
  refine k_v (k_runV hc hd my_X11_needTwo tw_971 hL0 rfl rfl rfl (c_X11_needTwo l D cs B0 kt α Lv S g0 x1 x2 hc.cl hL0  hq_1) rfl rfl hl.1 (Nat.le_of_ble_eq_true rfl) ⟨Nat.le_of_ble_eq_true rfl, Nat.le_of_ble_eq_true rfl, Nat.zero_le _, Nat.zero_le _⟩ dX11_gain_3) hd (fun H locs hd => ?_)
  refine lv_aload_n hc.x hc.b dX11_gain_6 rfl (lv_at hl 0 rfl) ?_
  refine lv_iload_n hc.x hc.b dX11_gain_7 rfl (lv_at hl 3 rfl) ?_
  rcases xb_s hf with ⟨k9, S9, hq_3, rfl⟩ | ⟨_u, S_4, hq_3, hf⟩
  · exact x_go (x_runV hc hd my_X11_needLevel tw_976 hL0 rfl rfl rfl (xc_X11_needLevel l D cs B0 kt α Lv S_2 g0 x3 hc.cl hL0  hq_3 hex.1) rfl rfl hl.1 (Nat.le_of_ble_eq_true rfl) ⟨Nat.le_of_ble_eq_true rfl, Nat.le_of_ble_eq_true rfl, Nat.le_of_ble_eq_true rfl, Nat.le_of_ble_eq_true rfl⟩ dX11_gain_8) hd hex.2 hc.lk
  refine k_v (k_runV hc hd my_X11_needLevel tw_976 hL0 rfl rfl rfl (c_X11_needLevel l D cs B0 kt α Lv S_2 g0 x3 hc.cl hL0  hq_3) rfl rfl hl.1 (Nat.le_of_ble_eq_true rfl) ⟨Nat.le_of_ble_eq_true rfl, Nat.le_of_ble_eq_true rfl, Nat.zero_le _, Nat.zero_le _⟩ dX11_gain_8) hd (fun H locs hd => ?_)
  refine lv_aload_n hc.x hc.b dX11_gain_11 rfl (lv_at hl 0 rfl) ?_
  refine lv_iload hc.x hc.b dX11_gain_12 (lv_at hl 4 rfl) ?_
  rcases xb_s hf with ⟨k9, S9, hq_5, rfl⟩ | ⟨_u, S_6, hq_5, hf⟩
  · exact x_go (x_runV hc hd my_X11_needLevel tw_976 hL0 rfl rfl rfl (xc_X11_needLevel l D cs B0 kt α Lv S_4 g0 x4 hc.cl hL0  hq_5 hex.1) rfl rfl hl.1 (Nat.le_of_ble_eq_true rfl) ⟨Nat.le_of_ble_eq_true rfl, Nat.le_of_ble_eq_true rfl, Nat.le_of_ble_eq_true rfl, Nat.le_of_ble_eq_true rfl⟩ dX11_gain_14) hd hex.2 hc.lk
  refine k_v (k_runV hc hd my_X11_needLevel tw_976 hL0 rfl rfl rfl (c_X11_needLevel l D cs B0 kt α Lv S_4 g0 x4 hc.cl hL0  hq_5) rfl rfl hl.1 (Nat.le_of_ble_eq_true rfl) ⟨Nat.le_of_ble_eq_true rfl, Nat.le_of_ble_eq_true rfl, Nat.zero_le _, Nat.zero_le _⟩ dX11_gain_14) hd (fun H locs hd => ?_)
  refine lv_aload_n hc.x hc.b dX11_gain_17 rfl (lv_at hl 0 rfl) ?_
  refine fg_0_4 hc hd hL0 tw_357 dX11_gain_18 ?_
  refine lv_aload_n hc.x hc.b dX11_gain_21 rfl (lv_at hl 0 rfl) ?_
  refine fg_0_0 hc hd hL0 tw_353 dX11_gain_22 ?_
  refine lv_iload_n hc.x hc.b dX11_gain_25 rfl (lv_at hl 1 rfl) ?_
  refine lv_iload_n hc.x hc.b dX11_gain_26 rfl (lv_at hl 2 rfl) ?_
  obtain ⟨S_8, hq_7, hf⟩ := on_s hf
  refine k_v (k_runV hc hd my_X4_begin tw_996 (cl_0_game hc.cl hL0) rfl rfl rfl (c_X4_begin l D cs B0 kt α Lv S_6 0 0 x1 x2 hc.cl (cl_0_game hc.cl hL0) (cl_0_now hc.cl hL0)  hq_7) rfl rfl hl.1 (Nat.le_of_ble_eq_true rfl) ⟨Nat.le_of_ble_eq_true rfl, Nat.le_of_ble_eq_true rfl, Nat.zero_le _, Nat.zero_le _⟩ dX11_gain_27) hd (fun H locs hd => ?_)
  refine lv_iload hc.x hc.b dX11_gain_30 (lv_at hl 5 rfl) ?_
  refine jn_s (P := fun J_11 => ∀ (v_9 : Int32) (S_10 : St) (H : Heap) (locs : List Loc) (ls : Array Slot), J_11 v_9 S_10 = some o → Dy s D cs B0 α Lv S_10 H locs → lv_has ls 6 [] → W p l e (RX 10 o) s m args below meth c H locs 0 0 (QXi D cs B0 α Lv o below args s) (F0 m 62 ls [.int v_9])) hf ?_ (fun J_11 hJ_11 hf => ?_)
  · intro v_9 S_10 H locs ls hf hd hl
    cases hf
    exact r_iret hc hd hr dX11_gain_62
  refine lv_if_eq (tgt := 50) hc.x hc.b dX11_gain_32 (by decide) (fun c_12 => ?_) (fun c_12 => ?_)
  · have hf := br_y c_12 hf
    refine lv_aload_n hc.x hc.b dX11_gain_50 rfl (lv_at hl 0 rfl) ?_
    refine fg_0_4 hc hd hL0 tw_357 dX11_gain_51 ?_
    refine fg_36_1 hc hd (cl_0_game hc.cl hL0) tw_300 dX11_gain_54 ?_
    refine lv_iload_n hc.x hc.b dX11_gain_57 rfl (lv_at hl 3 rfl) ?_
    obtain ⟨hi_13, hf⟩ := ck_s hf
    refine r_aald hc hd (cl_36_gainA hc.cl (cl_0_game hc.cl hL0)) (t0 := 6) rfl rfl rfl hi_13 dX11_gain_58 ?_
    show W p l e (RX 10 o) s m args below meth c H locs 0 0 (QXi D cs B0 α Lv o below args s) (F0 m 59 ls [.ref (α 38 ((nn x3)))])
    refine lv_iload hc.x hc.b dX11_gain_59 (lv_at hl 4 rfl) ?_
    obtain ⟨hi_14, hf⟩ := ck_s hf
    refine r_iald hc hd (cl_37 hc.cl (cl_36_gainA hc.cl (cl_0_game hc.cl hL0)) (inb_lt hi_13)) rfl hi_14 dX11_gain_61 ?_
    exact hJ_11 (gi S_8 38 ((nn x3)) (nn x4)) S_8 _ _ _ hf hd (lv_sub hl [] rfl)
  · have hf := br_n c_12 hf
    refine lv_aload_n hc.x hc.b dX11_gain_35 rfl (lv_at hl 0 rfl) ?_
    refine fg_0_4 hc hd hL0 tw_357 dX11_gain_36 ?_
    refine fg_36_2 hc hd (cl_0_game hc.cl hL0) tw_303 dX11_gain_39 ?_
    refine lv_iload_n hc.x hc.b dX11_gain_42 rfl (lv_at hl 3 rfl) ?_
    obtain ⟨hi_15, hf⟩ := ck_s hf
    refine r_aald hc hd (cl_36_gainB hc.cl (cl_0_game hc.cl hL0)) (t0 := 6) rfl rfl rfl hi_15 dX11_gain_43 ?_
    show W p l e (RX 10 o) s m args below meth c H locs 0 0 (QXi D cs B0 α Lv o below args s) (F0 m 44 ls [.ref (α 40 ((nn x3)))])
    refine lv_iload hc.x hc.b dX11_gain_44 (lv_at hl 4 rfl) ?_
    obtain ⟨hi_16, hf⟩ := ck_s hf
    refine r_iald hc hd (cl_39 hc.cl (cl_36_gainB hc.cl (cl_0_game hc.cl hL0)) (inb_lt hi_15)) rfl hi_16 dX11_gain_46 ?_
    refine lv_goto (tgt := 62) hc.x hc.b dX11_gain_47 (by decide) ?_
    exact hJ_11 (gi S_8 40 ((nn x3)) (nn x4)) S_8 _ _ _ hf hd (lv_sub hl [] rfl)
theorem c_X11_gain (l : Launch) (D : va_G) (cs : Nat → ClassId) (B0 : Nat) (kt : (Nat → Nat) × (Nat → Nat)) (α : Nat → Nat → Nat) (Lv : Nat → Nat → Prop) (S : St) (g0 : Nat) (x1 : Int32) (x2 : Int32) (x3 : Int32) (x4 : Int32) (x5 : Int32) (hcl : Cl Lv) (hL0 : Lv 0 g0) {r : Int32} {S1 : St} (hf : f_X11_gain g0 x1 x2 x3 x4 x5 S = some (.inr r, S1)) : Met l yX11_gain (wz yX11_gain cX11_gain 6 (some .int)) (Rm 10 0 0) (Pz D cs B0 kt α Lv S [.ref (α 0 g0), .int x1, .int x2, .int x3, .int x4, .int x5]) (Qi D cs B0 α Lv r S1) 0 0 (AB B0) := met_of (by decide) rfl hcl (Nat.le_of_ble_eq_true rfl) (fun p e s m below meth c hc hr hd ls hl => b_X11_gain hc hr XH.r hL0 hf hd hl)
theorem xc_X11_gain (l : Launch) (D : va_G) (cs : Nat → ClassId) (B0 : Nat) (kt : (Nat → Nat) × (Nat → Nat)) (α : Nat → Nat → Nat) (Lv : Nat → Nat → Prop) (S : St) (g0 : Nat) (x1 : Int32) (x2 : Int32) (x3 : Int32) (x4 : Int32) (x5 : Int32) (hcl : Cl Lv) (hL0 : Lv 0 g0) {k : Nat} {S1 : St} (hf : f_X11_gain g0 x1 x2 x3 x4 x5 S = some (.inl k, S1)) (hst : l.stackTraces = false) : vx_Met l yX11_gain (wz yX11_gain cX11_gain 6 (some .int)) (Rm 10 1 6) (Pz D cs B0 kt α Lv S [.ref (α 0 g0), .int x1, .int x2, .int x3, .int x4, .int x5]) QF (XQ D cs B0 α Lv k S1) 1 6 (AB B0) := xmet_of (by decide) rfl hcl (Nat.le_of_ble_eq_true rfl) (fun p e s m below meth c hc hr hex hd ls hl => b_X11_gain hc hr (XH.l hst hex) hL0 hf hd hl)
theorem my_X11_gain : MyV yX11_gain "PumpCrossing" cX11_gain 6 (some .int) 5 := ⟨tw_968, tw_969, tw_1, tw_970, by decide +kernel⟩
def f_X11_needTurns (g0 : Nat) (x1 : Int32) (x2 : Int32) (x3 : Int32) (x4 : Int32) (S : St) : Option ((Nat ⊕ Unit) × St) := xb (τ := Unit) (f_X11_needTwo g0 x1 x2 S) (fun _u S_2 => xb (τ := Unit) (f_X11_needWithin g0 x4 1 40 S_2) (fun _u S_4 => xb (τ := Unit) (f_X11_needLevel g0 x3 S_4) (fun _u S_6 => some (.inr (), S_6))))
set_option maxRecDepth 100000 in
set_option maxHeartbeats 4000000 in
theorem b_X11_needTurns (hc : Cx p s m args meth c cX11_needTurns 5 "PumpCrossing" D cs B0 kt Lv) (hr : meth.sig.returnType = none)  {o : (Nat ⊕ Unit) × St} (hex : XH l c o) {S : St} {g0 : Nat} {x1 : Int32} {x2 : Int32} {x3 : Int32} {x4 : Int32} (hL0 : Lv 0 g0) {H : Heap} {locs : List Loc} {ls : Array Slot} (hf : f_X11_needTurns g0 x1 x2 x3 x4 S = some o) (hd : Dy s D cs B0 α Lv S H locs) (hl : lv_has ls 5 [(0, .ref (α 0 g0)), (1, .int x1), (2, .int x2), (3, .int x3), (4, .int x4)]) : W p l e (RX 10 o) s m args below meth c H locs 0 0 (QXv D cs B0 α Lv o below args s) (F0 m 0 ls []) := by
  unfold f_X11_needTurns at hf
  refine lv_aload_n hc.x hc.b dX11_needTurns_0 rfl (lv_at hl 0 rfl) ?_
  refine lv_iload_n hc.x hc.b dX11_needTurns_1 rfl (lv_at hl 1 rfl) ?_
  refine lv_iload_n hc.x hc.b dX11_needTurns_2 rfl (lv_at hl 2 rfl) ?_
  rcases xb_s hf with ⟨k9, S9, hq_1, rfl⟩ | ⟨_u, S_2, hq_1, hf⟩
  · exact x_go (x_runV hc hd my_X11_needTwo tw_971 hL0 rfl rfl rfl (xc_X11_needTwo l D cs B0 kt α Lv S g0 x1 x2 hc.cl hL0  hq_1 hex.1) rfl rfl hl.1 (Nat.le_of_ble_eq_true rfl) ⟨Nat.le_of_ble_eq_true rfl, Nat.le_of_ble_eq_true rfl, Nat.le_of_ble_eq_true rfl, Nat.le_of_ble_eq_true rfl⟩ dX11_needTurns_3) hd hex.2 hc.lk
  refine k_v (k_runV hc hd my_X11_needTwo tw_971 hL0 rfl rfl rfl (c_X11_needTwo l D cs B0 kt α Lv S g0 x1 x2 hc.cl hL0  hq_1) rfl rfl hl.1 (Nat.le_of_ble_eq_true rfl) ⟨Nat.le_of_ble_eq_true rfl, Nat.le_of_ble_eq_true rfl, Nat.zero_le _, Nat.zero_le _⟩ dX11_needTurns_3) hd (fun H locs hd => ?_)
  refine lv_aload_n hc.x hc.b dX11_needTurns_6 rfl (lv_at hl 0 rfl) ?_
  refine lv_iload hc.x hc.b dX11_needTurns_7 (lv_at hl 4 rfl) ?_
  refine lv_iconst (v := 1) hc.x hc.b dX11_needTurns_9 (by decide) ?_
  refine lv_bipush (v := 40) hc.x hc.b dX11_needTurns_10 (by decide) ?_
  rcases xb_s hf with ⟨k9, S9, hq_3, rfl⟩ | ⟨_u, S_4, hq_3, hf⟩
  · exact x_go (x_runV hc hd my_X11_needWithin tw_527 hL0 rfl rfl rfl (xc_X11_needWithin l D cs B0 kt α Lv S_2 g0 x4 1 40 hc.cl hL0  hq_3 hex.1) rfl rfl hl.1 (Nat.le_of_ble_eq_true rfl) ⟨Nat.le_of_ble_eq_true rfl, Nat.le_of_ble_eq_true rfl, Nat.le_of_ble_eq_true rfl, Nat.le_of_ble_eq_true rfl⟩ dX11_needTurns_12) hd hex.2 hc.lk
  refine k_v (k_runV hc hd my_X11_needWithin tw_527 hL0 rfl rfl rfl (c_X11_needWithin l D cs B0 kt α Lv S_2 g0 x4 1 40 hc.cl hL0  hq_3) rfl rfl hl.1 (Nat.le_of_ble_eq_true rfl) ⟨Nat.le_of_ble_eq_true rfl, Nat.le_of_ble_eq_true rfl, Nat.zero_le _, Nat.zero_le _⟩ dX11_needTurns_12) hd (fun H locs hd => ?_)
  refine lv_aload_n hc.x hc.b dX11_needTurns_15 rfl (lv_at hl 0 rfl) ?_
  refine lv_iload_n hc.x hc.b dX11_needTurns_16 rfl (lv_at hl 3 rfl) ?_
  rcases xb_s hf with ⟨k9, S9, hq_5, rfl⟩ | ⟨_u, S_6, hq_5, hf⟩
  · exact x_go (x_runV hc hd my_X11_needLevel tw_976 hL0 rfl rfl rfl (xc_X11_needLevel l D cs B0 kt α Lv S_4 g0 x3 hc.cl hL0  hq_5 hex.1) rfl rfl hl.1 (Nat.le_of_ble_eq_true rfl) ⟨Nat.le_of_ble_eq_true rfl, Nat.le_of_ble_eq_true rfl, Nat.le_of_ble_eq_true rfl, Nat.le_of_ble_eq_true rfl⟩ dX11_needTurns_17) hd hex.2 hc.lk
  refine k_v (k_runV hc hd my_X11_needLevel tw_976 hL0 rfl rfl rfl (c_X11_needLevel l D cs B0 kt α Lv S_4 g0 x3 hc.cl hL0  hq_5) rfl rfl hl.1 (Nat.le_of_ble_eq_true rfl) ⟨Nat.le_of_ble_eq_true rfl, Nat.le_of_ble_eq_true rfl, Nat.zero_le _, Nat.zero_le _⟩ dX11_needTurns_17) hd (fun H locs hd => ?_)
  cases hf
  exact r_vret hc hd hr dX11_needTurns_20
theorem c_X11_needTurns (l : Launch) (D : va_G) (cs : Nat → ClassId) (B0 : Nat) (kt : (Nat → Nat) × (Nat → Nat)) (α : Nat → Nat → Nat) (Lv : Nat → Nat → Prop) (S : St) (g0 : Nat) (x1 : Int32) (x2 : Int32) (x3 : Int32) (x4 : Int32) (hcl : Cl Lv) (hL0 : Lv 0 g0) {S1 : St} (hf : f_X11_needTurns g0 x1 x2 x3 x4 S = some (.inr (), S1)) : Met l yX11_needTurns (wz yX11_needTurns cX11_needTurns 5 none) (Rm 10 0 0) (Pz D cs B0 kt α Lv S [.ref (α 0 g0), .int x1, .int x2, .int x3, .int x4]) (Qv D cs B0 α Lv S1) 0 0 (AB B0) := met_of (by decide) rfl hcl (Nat.le_of_ble_eq_true rfl) (fun p e s m below meth c hc hr hd ls hl => b_X11_needTurns hc hr XH.r hL0 hf hd hl)
theorem xc_X11_needTurns (l : Launch) (D : va_G) (cs : Nat → ClassId) (B0 : Nat) (kt : (Nat → Nat) × (Nat → Nat)) (α : Nat → Nat → Nat) (Lv : Nat → Nat → Prop) (S : St) (g0 : Nat) (x1 : Int32) (x2 : Int32) (x3 : Int32) (x4 : Int32) (hcl : Cl Lv) (hL0 : Lv 0 g0) {k : Nat} {S1 : St} (hf : f_X11_needTurns g0 x1 x2 x3 x4 S = some (.inl k, S1)) (hst : l.stackTraces = false) : vx_Met l yX11_needTurns (wz yX11_needTurns cX11_needTurns 5 none) (Rm 10 1 6) (Pz D cs B0 kt α Lv S [.ref (α 0 g0), .int x1, .int x2, .int x3, .int x4]) QF (XQ D cs B0 α Lv k S1) 1 6 (AB B0) := xmet_of (by decide) rfl hcl (Nat.le_of_ble_eq_true rfl) (fun p e s m below meth c hc hr hex hd ls hl => b_X11_needTurns hc hr (XH.l hst hex) hL0 hf hd hl)
theorem my_X11_needTurns : MyV yX11_needTurns "PumpCrossing" cX11_needTurns 5 none 4 := ⟨tw_1064, (in_sel 22 (by decide +kernel) (by decide +kernel)), tw_1, tw_1065, by decide +kernel⟩
def f_X11_gains (g0 : Nat) (x1 : Int32) (x2 : Int32) (x3 : Int32) (x4 : Int32) (x5 : Int32) (S : St) : Option ((Nat ⊕ Int64) × St) := xb (τ := Unit) (f_X11_needTurns g0 x1 x2 x3 x4 S) (fun _u S_2 => on (f_X4_begin 0 0 x1 x2 S_2) (fun S_4 => on (f_X4_foresee 0 x4 S_4) (fun S_6 => bv (fun (v_7 : Int64) (S_8 : St) => some (.inr v_7, S_8)) (fun J_9 => br (x5 = 0) (ck (inb 0 41 = true) (ck (inb x3 8 = true) (J_9 (Int32.toInt64 (gi S_6 48 ((nn 0)) (nn x3))) S_6))) (ck (inb 0 41 = true) (ck (inb x3 8 = true) (J_9 (Int32.toInt64 (gi S_6 58 ((nn 0)) (nn x3))) S_6)))))))
set_option maxRecDepth 100000 in
set_option maxHeartbeats 4000000 in
theorem b_X11_gains (hc : Cx p s m args meth c cX11_gains 6 "PumpCrossing" D cs B0 kt Lv) (hr : meth.sig.returnType = some .long)  {o : (Nat ⊕ Int64) × St} (hex : XH l c o) {S : St} {g0 : Nat} {x1 : Int32} {x2 : Int32} {x3 : Int32} {x4 : Int32} {x5 : Int32} (hL0 : Lv 0 g0) {H : Heap} {locs : List Loc} {ls : Array Slot} (hf : f_X11_gains g0 x1 x2 x3 x4 x5 S = some o) (hd : Dy s D cs B0 α Lv S H locs) (hl : lv_has ls 6 [(0, .ref (α 0 g0)), (1, .int x1), (2, .int x2), (3, .int x3), (4, .int x4), (5, .int x5)]) : W p l e (RX 11 o) s m args below meth c H locs 0 0 (QXl D cs B0 α Lv o below args s) (F0 m 0 ls []) := by
  unfold f_X11_gains at hf
  refine lv_aload_n hc.x hc.b dX11_gains_0 rfl (lv_at hl 0 rfl) ?_
  refine lv_iload_n hc.x hc.b dX11_gains_1 rfl (lv_at hl 1 rfl) ?_
  refine lv_iload_n hc.x hc.b dX11_gains_2 rfl (lv_at hl 2 rfl) ?_
  refine lv_iload_n hc.x hc.b dX11_gains_3 rfl (lv_at hl 3 rfl) ?_
  refine lv_iload hc.x hc.b dX11_gains_4 (lv_at hl 4 rfl) ?_
  rcases xb_s hf with ⟨k9, S9, hq_1, rfl⟩ | ⟨_u, S_2, hq_1, hf⟩
  · exact x_go (x_runV hc hd my_X11_needTurns tw_1062 hL0 rfl rfl rfl (xc_X11_needTurns l D cs B0 kt α Lv S g0 x1 x2 x3 x4 hc.cl hL0  hq_1 hex.1) rfl rfl hl.1 (Nat.le_of_ble_eq_true rfl) ⟨Nat.le_of_ble_eq_true rfl, Nat.le_of_ble_eq_true rfl, Nat.le_of_ble_eq_true rfl, Nat.le_of_ble_eq_true rfl⟩ dX11_gains_6) hd hex.2 hc.lk
  refine k_v (k_runV hc hd my_X11_needTurns tw_1062 hL0 rfl rfl rfl (c_X11_needTurns l D cs B0 kt α Lv S g0 x1 x2 x3 x4 hc.cl hL0  hq_1) rfl rfl hl.1 (Nat.le_of_ble_eq_true rfl) ⟨Nat.le_of_ble_eq_true rfl, Nat.le_of_ble_eq_true rfl, Nat.zero_le _, Nat.zero_le _⟩ dX11_gains_6) hd (fun H locs hd => ?_)
  refine lv_aload_n hc.x hc.b dX11_gains_9 rfl (lv_at hl 0 rfl) ?_
  refine fg_0_4 hc hd hL0 tw_357 dX11_gains_10 ?_
  refine lv_aload_n hc.x hc.b dX11_gains_13 rfl (lv_at hl 0 rfl) ?_
  refine fg_0_0 hc hd hL0 tw_353 dX11_gains_14 ?_
  refine lv_iload_n hc.x hc.b dX11_gains_17 rfl (lv_at hl 1 rfl) ?_
  refine lv_iload_n hc.x hc.b dX11_gains_18 rfl (lv_at hl 2 rfl) ?_
  obtain ⟨S_4, hq_3, hf⟩ := on_s hf
  refine k_v (k_runV hc hd my_X4_begin tw_996 (cl_0_game hc.cl hL0) rfl rfl rfl (c_X4_begin l D cs B0 kt α Lv S_2 0 0 x1 x2 hc.cl (cl_0_game hc.cl hL0) (cl_0_now hc.cl hL0)  hq_3) rfl rfl hl.1 (Nat.le_of_ble_eq_true rfl) ⟨Nat.le_of_ble_eq_true rfl, Nat.le_of_ble_eq_true rfl, Nat.zero_le _, Nat.zero_le _⟩ dX11_gains_19) hd (fun H locs hd => ?_)
  refine lv_aload_n hc.x hc.b dX11_gains_22 rfl (lv_at hl 0 rfl) ?_
  refine fg_0_4 hc hd hL0 tw_357 dX11_gains_23 ?_
  refine lv_iload hc.x hc.b dX11_gains_26 (lv_at hl 4 rfl) ?_
  obtain ⟨S_6, hq_5, hf⟩ := on_s hf
  refine k_v (k_runV hc hd my_X4_foresee tw_1066 (cl_0_game hc.cl hL0) rfl rfl rfl (c_X4_foresee l D cs B0 kt α Lv S_4 0 x4 hc.cl (cl_0_game hc.cl hL0)  hq_5) rfl rfl hl.1 (Nat.le_of_ble_eq_true rfl) ⟨Nat.le_of_ble_eq_true rfl, Nat.le_of_ble_eq_true rfl, Nat.zero_le _, Nat.zero_le _⟩ dX11_gains_28) hd (fun H locs hd => ?_)
  refine lv_iload hc.x hc.b dX11_gains_31 (lv_at hl 5 rfl) ?_
  refine jn_s (P := fun J_9 => ∀ (v_7 : Int64) (S_8 : St) (H : Heap) (locs : List Loc) (ls : Array Slot), J_9 v_7 S_8 = some o → Dy s D cs B0 α Lv S_8 H locs → lv_has ls 6 [] → W p l e (RX 11 o) s m args below meth c H locs 0 0 (QXl D cs B0 α Lv o below args s) (F0 m 63 ls [.long v_7])) hf ?_ (fun J_9 hJ_9 hf => ?_)
  · intro v_7 S_8 H locs ls hf hd hl
    cases hf
    exact r_lret hc hd hr dX11_gains_63
  refine lv_if_eq (tgt := 51) hc.x hc.b dX11_gains_33 (by decide) (fun c_10 => ?_) (fun c_10 => ?_)
  · have hf := br_y c_10 hf
    refine lv_aload_n hc.x hc.b dX11_gains_51 rfl (lv_at hl 0 rfl) ?_
    refine fg_0_4 hc hd hL0 tw_357 dX11_gains_52 ?_
    refine fg_36_5 hc hd (cl_0_game hc.cl hL0) tw_307 dX11_gains_55 ?_
    refine lv_iconst (v := 0) hc.x hc.b dX11_gains_58 (by decide) ?_
    obtain ⟨hi_11, hf⟩ := ck_s hf
    refine r_aald hc hd (cl_36_moverSums hc.cl (cl_0_game hc.cl hL0)) (t0 := 6) rfl rfl rfl hi_11 dX11_gains_59 ?_
    show W p l e (RX 11 o) s m args below meth c H locs 0 0 (QXl D cs B0 α Lv o below args s) (F0 m 60 ls [.ref (α 48 ((nn 0)))])
    refine lv_iload_n hc.x hc.b dX11_gains_60 rfl (lv_at hl 3 rfl) ?_
    obtain ⟨hi_12, hf⟩ := ck_s hf
    refine r_iald hc hd (cl_43 hc.cl (cl_36_moverSums hc.cl (cl_0_game hc.cl hL0)) (inb_lt hi_11)) rfl hi_12 dX11_gains_61 ?_
    refine lv_i2l (v := Int32.toInt64 (gi S_6 48 ((nn 0)) (nn x3))) hc.x hc.b dX11_gains_62 rfl ?_
    exact hJ_9 (Int32.toInt64 (gi S_6 48 ((nn 0)) (nn x3))) S_6 _ _ _ hf hd (lv_sub hl [] rfl)
  · have hf := br_n c_10 hf
    refine lv_aload_n hc.x hc.b dX11_gains_36 rfl (lv_at hl 0 rfl) ?_
    refine fg_0_4 hc hd hL0 tw_357 dX11_gains_37 ?_
    refine fg_36_6 hc hd (cl_0_game hc.cl hL0) tw_309 dX11_gains_40 ?_
    refine lv_iconst (v := 0) hc.x hc.b dX11_gains_43 (by decide) ?_
    obtain ⟨hi_13, hf⟩ := ck_s hf
    refine r_aald hc hd (cl_36_waiterSums hc.cl (cl_0_game hc.cl hL0)) (t0 := 6) rfl rfl rfl hi_13 dX11_gains_44 ?_
    show W p l e (RX 11 o) s m args below meth c H locs 0 0 (QXl D cs B0 α Lv o below args s) (F0 m 45 ls [.ref (α 58 ((nn 0)))])
    refine lv_iload_n hc.x hc.b dX11_gains_45 rfl (lv_at hl 3 rfl) ?_
    obtain ⟨hi_14, hf⟩ := ck_s hf
    refine r_iald hc hd (cl_47 hc.cl (cl_36_waiterSums hc.cl (cl_0_game hc.cl hL0)) (inb_lt hi_13)) rfl hi_14 dX11_gains_46 ?_
    refine lv_i2l (v := Int32.toInt64 (gi S_6 58 ((nn 0)) (nn x3))) hc.x hc.b dX11_gains_47 rfl ?_
    refine lv_goto (tgt := 63) hc.x hc.b dX11_gains_48 (by decide) ?_
    exact hJ_9 (Int32.toInt64 (gi S_6 58 ((nn 0)) (nn x3))) S_6 _ _ _ hf hd (lv_sub hl [] rfl)
theorem c_X11_gains (l : Launch) (D : va_G) (cs : Nat → ClassId) (B0 : Nat) (kt : (Nat → Nat) × (Nat → Nat)) (α : Nat → Nat → Nat) (Lv : Nat → Nat → Prop) (S : St) (g0 : Nat) (x1 : Int32) (x2 : Int32) (x3 : Int32) (x4 : Int32) (x5 : Int32) (hcl : Cl Lv) (hL0 : Lv 0 g0) {r : Int64} {S1 : St} (hf : f_X11_gains g0 x1 x2 x3 x4 x5 S = some (.inr r, S1)) : Met l yX11_gains (wz yX11_gains cX11_gains 6 (some .long)) (Rm 11 0 0) (Pz D cs B0 kt α Lv S [.ref (α 0 g0), .int x1, .int x2, .int x3, .int x4, .int x5]) (Ql D cs B0 α Lv r S1) 0 0 (AB B0) := met_of (by decide) rfl hcl (Nat.le_of_ble_eq_true rfl) (fun p e s m below meth c hc hr hd ls hl => b_X11_gains hc hr XH.r hL0 hf hd hl)
theorem xc_X11_gains (l : Launch) (D : va_G) (cs : Nat → ClassId) (B0 : Nat) (kt : (Nat → Nat) × (Nat → Nat)) (α : Nat → Nat → Nat) (Lv : Nat → Nat → Prop) (S : St) (g0 : Nat) (x1 : Int32) (x2 : Int32) (x3 : Int32) (x4 : Int32) (x5 : Int32) (hcl : Cl Lv) (hL0 : Lv 0 g0) {k : Nat} {S1 : St} (hf : f_X11_gains g0 x1 x2 x3 x4 x5 S = some (.inl k, S1)) (hst : l.stackTraces = false) : vx_Met l yX11_gains (wz yX11_gains cX11_gains 6 (some .long)) (Rm 11 1 6) (Pz D cs B0 kt α Lv S [.ref (α 0 g0), .int x1, .int x2, .int x3, .int x4, .int x5]) QF (XQ D cs B0 α Lv k S1) 1 6 (AB B0) := xmet_of (by decide) rfl hcl (Nat.le_of_ble_eq_true rfl) (fun p e s m below meth c hc hr hex hd ls hl => b_X11_gains hc hr (XH.l hst hex) hL0 hf hd hl)
theorem my_X11_gains : MyV yX11_gains "PumpCrossing" cX11_gains 6 (some .long) 5 := ⟨tw_1086, tw_1087, tw_1, tw_1088, by decide +kernel⟩
def f_X11_joint (g0 : Nat) (x1 : Int32) (x2 : Int32) (S : St) : Option ((Nat ⊕ Int32) × St) := xb (τ := Unit) (f_X11_needTwo g0 x1 x2 S) (fun _u S_2 => on (f_X4_begin 0 0 x1 x2 S_2) (fun S_4 => on (f_X4_jointPair 0 S_4) (fun r_6 => some (.inr r_6, S_4))))
set_option maxRecDepth 100000 in
set_option maxHeartbeats 4000000 in
theorem b_X11_joint (hc : Cx p s m args meth c cX11_joint 3 "PumpCrossing" D cs B0 kt Lv) (hr : meth.sig.returnType = some .int)  {o : (Nat ⊕ Int32) × St} (hex : XH l c o) {S : St} {g0 : Nat} {x1 : Int32} {x2 : Int32} (hL0 : Lv 0 g0) {H : Heap} {locs : List Loc} {ls : Array Slot} (hf : f_X11_joint g0 x1 x2 S = some o) (hd : Dy s D cs B0 α Lv S H locs) (hl : lv_has ls 3 [(0, .ref (α 0 g0)), (1, .int x1), (2, .int x2)]) : W p l e (RX 10 o) s m args below meth c H locs 0 0 (QXi D cs B0 α Lv o below args s) (F0 m 0 ls []) := by
  unfold f_X11_joint at hf
  refine lv_aload_n hc.x hc.b dX11_joint_0 rfl (lv_at hl 0 rfl) ?_
  refine lv_iload_n hc.x hc.b dX11_joint_1 rfl (lv_at hl 1 rfl) ?_
  refine lv_iload_n hc.x hc.b dX11_joint_2 rfl (lv_at hl 2 rfl) ?_
  rcases xb_s hf with ⟨k9, S9, hq_1, rfl⟩ | ⟨_u, S_2, hq_1, hf⟩
  · exact x_go (x_runV hc hd my_X11_needTwo tw_971 hL0 rfl rfl rfl (xc_X11_needTwo l D cs B0 kt α Lv S g0 x1 x2 hc.cl hL0  hq_1 hex.1) rfl rfl hl.1 (Nat.le_of_ble_eq_true rfl) ⟨Nat.le_of_ble_eq_true rfl, Nat.le_of_ble_eq_true rfl, Nat.le_of_ble_eq_true rfl, Nat.le_of_ble_eq_true rfl⟩ dX11_joint_3) hd hex.2 hc.lk
  refine k_v (k_runV hc hd my_X11_needTwo tw_971 hL0 rfl rfl rfl (c_X11_needTwo l D cs B0 kt α Lv S g0 x1 x2 hc.cl hL0  hq_1) rfl rfl hl.1 (Nat.le_of_ble_eq_true rfl) ⟨Nat.le_of_ble_eq_true rfl, Nat.le_of_ble_eq_true rfl, Nat.zero_le _, Nat.zero_le _⟩ dX11_joint_3) hd (fun H locs hd => ?_)
  refine lv_aload_n hc.x hc.b dX11_joint_6 rfl (lv_at hl 0 rfl) ?_
  refine fg_0_4 hc hd hL0 tw_357 dX11_joint_7 ?_
  refine lv_aload_n hc.x hc.b dX11_joint_10 rfl (lv_at hl 0 rfl) ?_
  refine fg_0_0 hc hd hL0 tw_353 dX11_joint_11 ?_
  refine lv_iload_n hc.x hc.b dX11_joint_14 rfl (lv_at hl 1 rfl) ?_
  refine lv_iload_n hc.x hc.b dX11_joint_15 rfl (lv_at hl 2 rfl) ?_
  obtain ⟨S_4, hq_3, hf⟩ := on_s hf
  refine k_v (k_runV hc hd my_X4_begin tw_996 (cl_0_game hc.cl hL0) rfl rfl rfl (c_X4_begin l D cs B0 kt α Lv S_2 0 0 x1 x2 hc.cl (cl_0_game hc.cl hL0) (cl_0_now hc.cl hL0)  hq_3) rfl rfl hl.1 (Nat.le_of_ble_eq_true rfl) ⟨Nat.le_of_ble_eq_true rfl, Nat.le_of_ble_eq_true rfl, Nat.zero_le _, Nat.zero_le _⟩ dX11_joint_16) hd (fun H locs hd => ?_)
  refine lv_aload_n hc.x hc.b dX11_joint_19 rfl (lv_at hl 0 rfl) ?_
  refine fg_0_4 hc hd hL0 tw_357 dX11_joint_20 ?_
  obtain ⟨r_6, hq_5, hf⟩ := on_s hf
  refine k_i (k_runV hc hd my_X4_jointPair tw_1047 (cl_0_game hc.cl hL0) rfl rfl rfl (c_X4_jointPair l D cs B0 kt α Lv S_4 0 hc.cl (cl_0_game hc.cl hL0)  hq_5) rfl rfl hl.1 (Nat.le_of_ble_eq_true rfl) ⟨Nat.le_of_ble_eq_true rfl, Nat.le_of_ble_eq_true rfl, Nat.zero_le _, Nat.zero_le _⟩ dX11_joint_23) hd (fun H locs hd => ?_)
  cases hf
  exact r_iret hc hd hr dX11_joint_26
theorem c_X11_joint (l : Launch) (D : va_G) (cs : Nat → ClassId) (B0 : Nat) (kt : (Nat → Nat) × (Nat → Nat)) (α : Nat → Nat → Nat) (Lv : Nat → Nat → Prop) (S : St) (g0 : Nat) (x1 : Int32) (x2 : Int32) (hcl : Cl Lv) (hL0 : Lv 0 g0) {r : Int32} {S1 : St} (hf : f_X11_joint g0 x1 x2 S = some (.inr r, S1)) : Met l yX11_joint (wz yX11_joint cX11_joint 3 (some .int)) (Rm 10 0 0) (Pz D cs B0 kt α Lv S [.ref (α 0 g0), .int x1, .int x2]) (Qi D cs B0 α Lv r S1) 0 0 (AB B0) := met_of (by decide) rfl hcl (Nat.le_of_ble_eq_true rfl) (fun p e s m below meth c hc hr hd ls hl => b_X11_joint hc hr XH.r hL0 hf hd hl)
theorem xc_X11_joint (l : Launch) (D : va_G) (cs : Nat → ClassId) (B0 : Nat) (kt : (Nat → Nat) × (Nat → Nat)) (α : Nat → Nat → Nat) (Lv : Nat → Nat → Prop) (S : St) (g0 : Nat) (x1 : Int32) (x2 : Int32) (hcl : Cl Lv) (hL0 : Lv 0 g0) {k : Nat} {S1 : St} (hf : f_X11_joint g0 x1 x2 S = some (.inl k, S1)) (hst : l.stackTraces = false) : vx_Met l yX11_joint (wz yX11_joint cX11_joint 3 (some .int)) (Rm 10 1 6) (Pz D cs B0 kt α Lv S [.ref (α 0 g0), .int x1, .int x2]) QF (XQ D cs B0 α Lv k S1) 1 6 (AB B0) := xmet_of (by decide) rfl hcl (Nat.le_of_ble_eq_true rfl) (fun p e s m below meth c hc hr hex hd ls hl => b_X11_joint hc hr (XH.l hst hex) hL0 hf hd hl)
theorem my_X11_joint : MyV yX11_joint "PumpCrossing" cX11_joint 3 (some .int) 2 := ⟨tw_1044, tw_1045, tw_1, tw_1046, by decide +kernel⟩
def f_X11_late (g0 : Nat) (x1 : Int32) (x2 : Int32) (S : St) : Option ((Nat ⊕ Int32) × St) := xb (τ := Unit) (f_X11_needStation g0 x1 S) (fun _u S_2 => xb (τ := Unit) (f_X11_needWithin g0 x2 0 3 S_2) (fun _u S_4 => ck (inb x1 4 = true) (bv (gi S_4 4 0 (nn x1)) (fun x3_6 => ck (inb x1 4 = true) (bv (si S_4 4 0 (nn x1) x2) (fun S_8 => some (.inr x3_6, S_8)))))))
set_option maxRecDepth 100000 in
set_option maxHeartbeats 4000000 in
theorem b_X11_late (hc : Cx p s m args meth c cX11_late 4 "PumpCrossing" D cs B0 kt Lv) (hr : meth.sig.returnType = some .int)  {o : (Nat ⊕ Int32) × St} (hex : XH l c o) {S : St} {g0 : Nat} {x1 : Int32} {x2 : Int32} (hL0 : Lv 0 g0) {H : Heap} {locs : List Loc} {ls : Array Slot} (hf : f_X11_late g0 x1 x2 S = some o) (hd : Dy s D cs B0 α Lv S H locs) (hl : lv_has ls 4 [(0, .ref (α 0 g0)), (1, .int x1), (2, .int x2)]) : W p l e (RX 9 o) s m args below meth c H locs 0 0 (QXi D cs B0 α Lv o below args s) (F0 m 0 ls []) := by
  unfold f_X11_late at hf
  refine lv_aload_n hc.x hc.b dX11_late_0 rfl (lv_at hl 0 rfl) ?_
  refine lv_iload_n hc.x hc.b dX11_late_1 rfl (lv_at hl 1 rfl) ?_
  rcases xb_s hf with ⟨k9, S9, hq_1, rfl⟩ | ⟨_u, S_2, hq_1, hf⟩
  · exact x_go (x_runV hc hd my_X11_needStation tw_559 hL0 rfl rfl rfl (xc_X11_needStation l D cs B0 kt α Lv S g0 x1 hc.cl hL0  hq_1 hex.1) rfl rfl hl.1 (Nat.le_of_ble_eq_true rfl) ⟨Nat.le_of_ble_eq_true rfl, Nat.le_of_ble_eq_true rfl, Nat.le_of_ble_eq_true rfl, Nat.le_of_ble_eq_true rfl⟩ dX11_late_2) hd hex.2 hc.lk
  refine k_v (k_runV hc hd my_X11_needStation tw_559 hL0 rfl rfl rfl (c_X11_needStation l D cs B0 kt α Lv S g0 x1 hc.cl hL0  hq_1) rfl rfl hl.1 (Nat.le_of_ble_eq_true rfl) ⟨Nat.le_of_ble_eq_true rfl, Nat.le_of_ble_eq_true rfl, Nat.zero_le _, Nat.zero_le _⟩ dX11_late_2) hd (fun H locs hd => ?_)
  refine lv_aload_n hc.x hc.b dX11_late_5 rfl (lv_at hl 0 rfl) ?_
  refine lv_iload_n hc.x hc.b dX11_late_6 rfl (lv_at hl 2 rfl) ?_
  refine lv_iconst (v := 0) hc.x hc.b dX11_late_7 (by decide) ?_
  refine lv_iconst (v := 3) hc.x hc.b dX11_late_8 (by decide) ?_
  rcases xb_s hf with ⟨k9, S9, hq_3, rfl⟩ | ⟨_u, S_4, hq_3, hf⟩
  · exact x_go (x_runV hc hd my_X11_needWithin tw_527 hL0 rfl rfl rfl (xc_X11_needWithin l D cs B0 kt α Lv S_2 g0 x2 0 3 hc.cl hL0  hq_3 hex.1) rfl rfl hl.1 (Nat.le_of_ble_eq_true rfl) ⟨Nat.le_of_ble_eq_true rfl, Nat.le_of_ble_eq_true rfl, Nat.le_of_ble_eq_true rfl, Nat.le_of_ble_eq_true rfl⟩ dX11_late_9) hd hex.2 hc.lk
  refine k_v (k_runV hc hd my_X11_needWithin tw_527 hL0 rfl rfl rfl (c_X11_needWithin l D cs B0 kt α Lv S_2 g0 x2 0 3 hc.cl hL0  hq_3) rfl rfl hl.1 (Nat.le_of_ble_eq_true rfl) ⟨Nat.le_of_ble_eq_true rfl, Nat.le_of_ble_eq_true rfl, Nat.zero_le _, Nat.zero_le _⟩ dX11_late_9) hd (fun H locs hd => ?_)
  refine lv_aload_n hc.x hc.b dX11_late_12 rfl (lv_at hl 0 rfl) ?_
  refine fg_0_0 hc hd hL0 tw_353 dX11_late_13 ?_
  refine fg_2_2 hc hd (cl_0_now hc.cl hL0) tw_141 dX11_late_16 ?_
  refine lv_iload_n hc.x hc.b dX11_late_19 rfl (lv_at hl 1 rfl) ?_
  obtain ⟨hi_5, hf⟩ := ck_s hf
  refine r_iald hc hd (cl_2_lates hc.cl (cl_0_now hc.cl hL0)) rfl hi_5 dX11_late_20 ?_
  refine lv_topi (fun x3_6 ex3_6 => ?_)
  have hf := bv_n ex3_6 hf
  refine lv_istore_n (lv' := [(3, .int x3_6), (0, .ref (α 0 g0)), (1, .int x1), (2, .int x2)]) hc.x hc.b dX11_late_21 rfl hl (by decide) rfl (fun ls hl => ?_)
  refine lv_aload_n hc.x hc.b dX11_late_22 rfl (lv_at hl 1 rfl) ?_
  refine fg_0_0 hc hd hL0 tw_353 dX11_late_23 ?_
  refine fg_2_2 hc hd (cl_0_now hc.cl hL0) tw_141 dX11_late_26 ?_
  refine lv_iload_n hc.x hc.b dX11_late_29 rfl (lv_at hl 2 rfl) ?_
  refine lv_iload_n hc.x hc.b dX11_late_30 rfl (lv_at hl 3 rfl) ?_
  obtain ⟨hi_7, hf⟩ := ck_s hf
  refine r_iast hc hd (cl_2_lates hc.cl (cl_0_now hc.cl hL0)) (fun _ => rfl) hi_7 dX11_late_31 (fun H locs hd => ?_)
  obtain ⟨S_8, hd, hf⟩ := nmD hd hf
  refine lv_iload_n hc.x hc.b dX11_late_32 rfl (lv_at hl 0 rfl) ?_
  cases hf
  exact r_iret hc hd hr dX11_late_33
theorem c_X11_late (l : Launch) (D : va_G) (cs : Nat → ClassId) (B0 : Nat) (kt : (Nat → Nat) × (Nat → Nat)) (α : Nat → Nat → Nat) (Lv : Nat → Nat → Prop) (S : St) (g0 : Nat) (x1 : Int32) (x2 : Int32) (hcl : Cl Lv) (hL0 : Lv 0 g0) {r : Int32} {S1 : St} (hf : f_X11_late g0 x1 x2 S = some (.inr r, S1)) : Met l yX11_late (wz yX11_late cX11_late 4 (some .int)) (Rm 9 0 0) (Pz D cs B0 kt α Lv S [.ref (α 0 g0), .int x1, .int x2]) (Qi D cs B0 α Lv r S1) 0 0 (AB B0) := met_of (by decide) rfl hcl (Nat.le_of_ble_eq_true rfl) (fun p e s m below meth c hc hr hd ls hl => b_X11_late hc hr XH.r hL0 hf hd hl)
theorem xc_X11_late (l : Launch) (D : va_G) (cs : Nat → ClassId) (B0 : Nat) (kt : (Nat → Nat) × (Nat → Nat)) (α : Nat → Nat → Nat) (Lv : Nat → Nat → Prop) (S : St) (g0 : Nat) (x1 : Int32) (x2 : Int32) (hcl : Cl Lv) (hL0 : Lv 0 g0) {k : Nat} {S1 : St} (hf : f_X11_late g0 x1 x2 S = some (.inl k, S1)) (hst : l.stackTraces = false) : vx_Met l yX11_late (wz yX11_late cX11_late 4 (some .int)) (Rm 9 1 6) (Pz D cs B0 kt α Lv S [.ref (α 0 g0), .int x1, .int x2]) QF (XQ D cs B0 α Lv k S1) 1 6 (AB B0) := xmet_of (by decide) rfl hcl (Nat.le_of_ble_eq_true rfl) (fun p e s m below meth c hc hr hex hd ls hl => b_X11_late hc hr (XH.l hst hex) hL0 hf hd hl)
theorem my_X11_late : MyV yX11_late "PumpCrossing" cX11_late 4 (some .int) 2 := ⟨tw_605, tw_606, tw_1, tw_607, by decide +kernel⟩
def f_X11_leads_21 (g0 : Nat) (x1 : Int32) (x2 : Int32) (K : Int32 → St → Option ((Nat ⊕ Int32) × St)) : Nat → Int32 → Int32 → St → Option ((Nat ⊕ Int32) × St)
  | 0, _, _, _ => none
  | n + 1, x3, x4, S => br ((gi S 14 (2 * 0) 3) ≤ x4) (K x3 S) (on (f_X0_isLead (2 * 0) x1 x4 (gi S 2 0 0) S) (fun r_8 => bv (fun (x3_9 : Int32) (S_10 : St) => bv (x4 + 1) (fun x4_12 => f_X11_leads_21 g0 x1 x2 K n x3_9 x4_12 S_10)) (fun J_11 => br (r_8 = 0) (J_11 x3 S) (bv (fun  (S_14 : St) => bv (x3 + 1) (fun x3_16 => J_11 x3_16 S_14)) (fun J_15 => br (x2 = 0) (J_15 S) (on (f_X0_isFollowed (2 * 0) x1 x4 (gi S 2 0 0) S) (fun r_19 => br (r_19 = 0) (J_11 x3 S) (J_15 S))))))))
def f_X11_leads (g0 : Nat) (x1 : Int32) (x2 : Int32) (S : St) : Option ((Nat ⊕ Int32) × St) := xb (τ := Unit) (f_X11_needStation g0 x1 S) (fun _u S_2 => on (f_X0_first (2 * 0) S_2) (fun r_4 => bv (r_4 + 2) (fun x4_5 => f_X11_leads_21 g0 x1 x2 (fun (x3_21 : Int32) (S_22 : St) => some (.inr x3_21, S_22)) FU 0 x4_5 S_2)))
set_option maxRecDepth 100000 in
set_option maxHeartbeats 4000000 in
theorem w_X11_leads_21 (hc : Cx p s m args meth c cX11_leads 5 "PumpCrossing" D cs B0 kt Lv) (hr : meth.sig.returnType = some .int) {o : (Nat ⊕ Int32) × St} (hex : XH l c o) {g0 : Nat} {x1 : Int32} {x2 : Int32} {K : Int32 → St → Option ((Nat ⊕ Int32) × St)} (hL0 : Lv 0 g0) (hK : ∀ (k3 : Int32) (S : St) (H : Heap) (locs : List Loc) (ls : Array Slot), K k3 S = some o → Dy s D cs B0 α Lv S H locs → lv_has ls 5 [(3, .int k3)] → W p l e (RX 9 o) s m args below meth c H locs 0 0 (QXi D cs B0 α Lv o below args s) (F0 m 95 ls [])) : ∀ (n : Nat) (x3 : Int32) (x4 : Int32) (S : St) (H : Heap) (locs : List Loc) (ls : Array Slot), f_X11_leads_21 g0 x1 x2 K n x3 x4 S = some o → Dy s D cs B0 α Lv S H locs → lv_has ls 5 [(0, .ref (α 0 g0)), (1, .int x1), (2, .int x2), (3, .int x3), (4, .int x4)] → W p l e (RX 9 o) s m args below meth c H locs 0 0 (QXi D cs B0 α Lv o below args s) (F0 m 21 ls []) := by
  intro n
  induction n with
  | zero =>
    intro x3 x4 S H locs ls hf
    rw [f_X11_leads_21] at hf
    cases hf
  | succ n ih =>
    intro x3 x4 S H locs ls hf hd hl
    rw [f_X11_leads_21] at hf
    refine lv_iload hc.x hc.b dX11_leads_21 (lv_at hl 4 rfl) ?_
    refine lv_aload_n hc.x hc.b dX11_leads_23 rfl (lv_at hl 0 rfl) ?_
    refine fg_0_0 hc hd hL0 tw_353 dX11_leads_24 ?_
    refine fg_2_10 hc hd (cl_0_now hc.cl hL0) tw_158 dX11_leads_27 ?_
    refine fg_14_3 hc hd (cl_2_hours hc.cl (cl_0_now hc.cl hL0)) tw_81 dX11_leads_30 ?_
    refine lv_icmp_ge (tgt := 95) hc.x hc.b dX11_leads_33 (by decide) (fun c_6 => ?_) (fun c_6 => ?_)
    · have hf := br_y c_6 hf
      exact hK x3 S _ _ _ hf hd (lv_sub hl [3] rfl)
    · have hf := br_n c_6 hf
      refine lv_aload_n hc.x hc.b dX11_leads_36 rfl (lv_at hl 0 rfl) ?_
      refine fg_0_0 hc hd hL0 tw_353 dX11_leads_37 ?_
      refine fg_2_10 hc hd (cl_0_now hc.cl hL0) tw_158 dX11_leads_40 ?_
      refine lv_iload_n hc.x hc.b dX11_leads_43 rfl (lv_at hl 1 rfl) ?_
      refine lv_iload hc.x hc.b dX11_leads_44 (lv_at hl 4 rfl) ?_
      refine lv_aload_n hc.x hc.b dX11_leads_46 rfl (lv_at hl 0 rfl) ?_
      refine fg_0_0 hc hd hL0 tw_353 dX11_leads_47 ?_
      refine fg_2_0 hc hd (cl_0_now hc.cl hL0) tw_136 dX11_leads_50 ?_
      obtain ⟨r_8, hq_7, hf⟩ := on_s hf
      refine k_i (k_runV hc hd my_X0_isLead tw_913 (cl_2_hours hc.cl (cl_0_now hc.cl hL0)) rfl rfl rfl (c_X0_isLead l D cs B0 kt α Lv S (2 * 0) x1 x4 (gi S 2 0 0) hc.cl (cl_2_hours hc.cl (cl_0_now hc.cl hL0))  hq_7) rfl rfl hl.1 (Nat.le_of_ble_eq_true rfl) ⟨Nat.le_of_ble_eq_true rfl, Nat.le_of_ble_eq_true rfl, Nat.zero_le _, Nat.zero_le _⟩ dX11_leads_53) hd (fun H locs hd => ?_)
      refine jn_s (P := fun J_11 => ∀ (x3_9 : Int32) (S_10 : St) (H : Heap) (locs : List Loc) (ls : Array Slot), J_11 x3_9 S_10 = some o → Dy s D cs B0 α Lv S_10 H locs → lv_has ls 5 [(0, .ref (α 0 g0)), (1, .int x1), (2, .int x2), (3, .int x3_9), (4, .int x4)] → W p l e (RX 9 o) s m args below meth c H locs 0 0 (QXi D cs B0 α Lv o below args s) (F0 m 89 ls [])) hf ?_ (fun J_11 hJ_11 hf => ?_)
      · intro x3_9 S_10 H locs ls hf hd hl
        obtain ⟨x4_12, ex4_12⟩ : ∃ z : Int32, z = x4 + 1 := ⟨_, rfl⟩
        have hf := bv_n ex4_12 hf
        refine lv_iinc (v := x4_12) (lv' := [(4, .int x4_12), (0, .ref (α 0 g0)), (1, .int x1), (2, .int x2), (3, .int x3_9)]) hc.x hc.b dX11_leads_89 hl (k := 4) rfl (by rw [ex4_12]; rfl) (by decide) rfl (fun ls hl => ?_)
        refine lv_goto (tgt := 21) hc.x hc.b dX11_leads_92 (by decide) ?_
        exact ih x3_9 x4_12 S_10 _ _ _ hf hd (lv_sub hl [1, 2, 3, 4, 0] rfl)
      refine lv_if_eq (tgt := 89) hc.x hc.b dX11_leads_56 (by decide) (fun c_13 => ?_) (fun c_13 => ?_)
      · have hf := br_y c_13 hf
        exact hJ_11 x3 S _ _ _ hf hd (lv_sub hl [0, 1, 2, 3, 4] rfl)
      · have hf := br_n c_13 hf
        refine lv_iload_n hc.x hc.b dX11_leads_59 rfl (lv_at hl 2 rfl) ?_
        refine jn_s (P := fun J_15 => ∀  (S_14 : St) (H : Heap) (locs : List Loc) (ls : Array Slot), J_15 S_14 = some o → Dy s D cs B0 α Lv S_14 H locs → lv_has ls 5 [(0, .ref (α 0 g0)), (1, .int x1), (2, .int x2), (3, .int x3), (4, .int x4)] → W p l e (RX 9 o) s m args below meth c H locs 0 0 (QXi D cs B0 α Lv o below args s) (F0 m 86 ls [])) hf ?_ (fun J_15 hJ_15 hf => ?_)
        · intro S_14 H locs ls hf hd hl
          obtain ⟨x3_16, ex3_16⟩ : ∃ z : Int32, z = x3 + 1 := ⟨_, rfl⟩
          have hf := bv_n ex3_16 hf
          refine lv_iinc (v := x3_16) (lv' := [(3, .int x3_16), (0, .ref (α 0 g0)), (1, .int x1), (2, .int x2), (4, .int x4)]) hc.x hc.b dX11_leads_86 hl (k := 3) rfl (by rw [ex3_16]; rfl) (by decide) rfl (fun ls hl => ?_)
          exact hJ_11 x3_16 S_14 _ _ _ hf hd (lv_sub hl [1, 2, 3, 0, 4] rfl)
        refine lv_if_eq (tgt := 86) hc.x hc.b dX11_leads_60 (by decide) (fun c_17 => ?_) (fun c_17 => ?_)
        · have hf := br_y c_17 hf
          exact hJ_15 S _ _ _ hf hd (lv_sub hl [0, 1, 2, 3, 4] rfl)
        · have hf := br_n c_17 hf
          refine lv_aload_n hc.x hc.b dX11_leads_63 rfl (lv_at hl 0 rfl) ?_
          refine fg_0_0 hc hd hL0 tw_353 dX11_leads_64 ?_
          refine fg_2_10 hc hd (cl_0_now hc.cl hL0) tw_158 dX11_leads_67 ?_
          refine lv_iload_n hc.x hc.b dX11_leads_70 rfl (lv_at hl 1 rfl) ?_
          refine lv_iload hc.x hc.b dX11_leads_71 (lv_at hl 4 rfl) ?_
          refine lv_aload_n hc.x hc.b dX11_leads_73 rfl (lv_at hl 0 rfl) ?_
          refine fg_0_0 hc hd hL0 tw_353 dX11_leads_74 ?_
          refine fg_2_0 hc hd (cl_0_now hc.cl hL0) tw_136 dX11_leads_77 ?_
          obtain ⟨r_19, hq_18, hf⟩ := on_s hf
          refine k_i (k_runV hc hd my_X0_isFollowed tw_921 (cl_2_hours hc.cl (cl_0_now hc.cl hL0)) rfl rfl rfl (c_X0_isFollowed l D cs B0 kt α Lv S (2 * 0) x1 x4 (gi S 2 0 0) hc.cl (cl_2_hours hc.cl (cl_0_now hc.cl hL0))  hq_18) rfl rfl hl.1 (Nat.le_of_ble_eq_true rfl) ⟨Nat.le_of_ble_eq_true rfl, Nat.le_of_ble_eq_true rfl, Nat.zero_le _, Nat.zero_le _⟩ dX11_leads_80) hd (fun H locs hd => ?_)
          refine lv_if_eq (tgt := 89) hc.x hc.b dX11_leads_83 (by decide) (fun c_20 => ?_) (fun c_20 => ?_)
          · have hf := br_y c_20 hf
            exact hJ_11 x3 S _ _ _ hf hd (lv_sub hl [0, 1, 2, 3, 4] rfl)
          · have hf := br_n c_20 hf
            exact hJ_15 S _ _ _ hf hd (lv_sub hl [0, 1, 2, 3, 4] rfl)
set_option maxRecDepth 100000 in
set_option maxHeartbeats 4000000 in
theorem b_X11_leads (hc : Cx p s m args meth c cX11_leads 5 "PumpCrossing" D cs B0 kt Lv) (hr : meth.sig.returnType = some .int)  {o : (Nat ⊕ Int32) × St} (hex : XH l c o) {S : St} {g0 : Nat} {x1 : Int32} {x2 : Int32} (hL0 : Lv 0 g0) {H : Heap} {locs : List Loc} {ls : Array Slot} (hf : f_X11_leads g0 x1 x2 S = some o) (hd : Dy s D cs B0 α Lv S H locs) (hl : lv_has ls 5 [(0, .ref (α 0 g0)), (1, .int x1), (2, .int x2)]) : W p l e (RX 9 o) s m args below meth c H locs 0 0 (QXi D cs B0 α Lv o below args s) (F0 m 0 ls []) := by
  unfold f_X11_leads at hf
  refine lv_aload_n hc.x hc.b dX11_leads_0 rfl (lv_at hl 0 rfl) ?_
  refine lv_iload_n hc.x hc.b dX11_leads_1 rfl (lv_at hl 1 rfl) ?_
  rcases xb_s hf with ⟨k9, S9, hq_1, rfl⟩ | ⟨_u, S_2, hq_1, hf⟩
  · exact x_go (x_runV hc hd my_X11_needStation tw_559 hL0 rfl rfl rfl (xc_X11_needStation l D cs B0 kt α Lv S g0 x1 hc.cl hL0  hq_1 hex.1) rfl rfl hl.1 (Nat.le_of_ble_eq_true rfl) ⟨Nat.le_of_ble_eq_true rfl, Nat.le_of_ble_eq_true rfl, Nat.le_of_ble_eq_true rfl, Nat.le_of_ble_eq_true rfl⟩ dX11_leads_2) hd hex.2 hc.lk
  refine k_v (k_runV hc hd my_X11_needStation tw_559 hL0 rfl rfl rfl (c_X11_needStation l D cs B0 kt α Lv S g0 x1 hc.cl hL0  hq_1) rfl rfl hl.1 (Nat.le_of_ble_eq_true rfl) ⟨Nat.le_of_ble_eq_true rfl, Nat.le_of_ble_eq_true rfl, Nat.zero_le _, Nat.zero_le _⟩ dX11_leads_2) hd (fun H locs hd => ?_)
  refine lv_iconst (v := 0) hc.x hc.b dX11_leads_5 (by decide) ?_
  refine lv_istore_n (lv' := [(3, .int 0), (0, .ref (α 0 g0)), (1, .int x1), (2, .int x2)]) hc.x hc.b dX11_leads_6 rfl hl (by decide) rfl (fun ls hl => ?_)
  refine lv_aload_n hc.x hc.b dX11_leads_7 rfl (lv_at hl 1 rfl) ?_
  refine fg_0_0 hc hd hL0 tw_353 dX11_leads_8 ?_
  refine fg_2_10 hc hd (cl_0_now hc.cl hL0) tw_158 dX11_leads_11 ?_
  obtain ⟨r_4, hq_3, hf⟩ := on_s hf
  refine k_i (k_runV hc hd my_X0_first tw_912 (cl_2_hours hc.cl (cl_0_now hc.cl hL0)) rfl rfl rfl (c_X0_first l D cs B0 kt α Lv S_2 (2 * 0) hc.cl (cl_2_hours hc.cl (cl_0_now hc.cl hL0))  hq_3) rfl rfl hl.1 (Nat.le_of_ble_eq_true rfl) ⟨Nat.le_of_ble_eq_true rfl, Nat.le_of_ble_eq_true rfl, Nat.zero_le _, Nat.zero_le _⟩ dX11_leads_14) hd (fun H locs hd => ?_)
  refine lv_iconst (v := 2) hc.x hc.b dX11_leads_17 (by decide) ?_
  refine lv_iadd hc.x hc.b dX11_leads_18 ?_
  refine lv_topi (fun x4_5 ex4_5 => ?_)
  have hf := bv_n ex4_5 hf
  refine lv_istore (lv' := [(4, .int x4_5), (3, .int 0), (0, .ref (α 0 g0)), (1, .int x1), (2, .int x2)]) hc.x hc.b dX11_leads_19 hl (by decide) rfl (fun ls hl => ?_)
  refine w_X11_leads_21 hc hr hex hL0 ?_ _ _ _ _ _ _ _ hf hd (lv_sub hl [2, 3, 4, 1, 0] rfl)
  intro x3_21 S_22 H locs ls hf hd hl
  refine lv_iload_n hc.x hc.b dX11_leads_95 rfl (lv_at hl 0 rfl) ?_
  cases hf
  exact r_iret hc hd hr dX11_leads_96
theorem c_X11_leads (l : Launch) (D : va_G) (cs : Nat → ClassId) (B0 : Nat) (kt : (Nat → Nat) × (Nat → Nat)) (α : Nat → Nat → Nat) (Lv : Nat → Nat → Prop) (S : St) (g0 : Nat) (x1 : Int32) (x2 : Int32) (hcl : Cl Lv) (hL0 : Lv 0 g0) {r : Int32} {S1 : St} (hf : f_X11_leads g0 x1 x2 S = some (.inr r, S1)) : Met l yX11_leads (wz yX11_leads cX11_leads 5 (some .int)) (Rm 9 0 0) (Pz D cs B0 kt α Lv S [.ref (α 0 g0), .int x1, .int x2]) (Qi D cs B0 α Lv r S1) 0 0 (AB B0) := met_of (by decide) rfl hcl (Nat.le_of_ble_eq_true rfl) (fun p e s m below meth c hc hr hd ls hl => b_X11_leads hc hr XH.r hL0 hf hd hl)
theorem xc_X11_leads (l : Launch) (D : va_G) (cs : Nat → ClassId) (B0 : Nat) (kt : (Nat → Nat) × (Nat → Nat)) (α : Nat → Nat → Nat) (Lv : Nat → Nat → Prop) (S : St) (g0 : Nat) (x1 : Int32) (x2 : Int32) (hcl : Cl Lv) (hL0 : Lv 0 g0) {k : Nat} {S1 : St} (hf : f_X11_leads g0 x1 x2 S = some (.inl k, S1)) (hst : l.stackTraces = false) : vx_Met l yX11_leads (wz yX11_leads cX11_leads 5 (some .int)) (Rm 9 1 6) (Pz D cs B0 kt α Lv S [.ref (α 0 g0), .int x1, .int x2]) QF (XQ D cs B0 α Lv k S1) 1 6 (AB B0) := xmet_of (by decide) rfl hcl (Nat.le_of_ble_eq_true rfl) (fun p e s m below meth c hc hr hex hd ls hl => b_X11_leads hc hr (XH.l hst hex) hL0 hf hd hl)
theorem my_X11_leads : MyV yX11_leads "PumpCrossing" cX11_leads 5 (some .int) 2 := ⟨tw_909, tw_910, tw_1, tw_911, by decide +kernel⟩
def f_X11_learn (g0 : Nat) (x1 : Int32) (x2 : Int32) (x3 : Int32) (x4 : Int32) (S : St) : Option ((Nat ⊕ Int32) × St) := xb (τ := Unit) (f_X11_needTwo g0 x1 x2 S) (fun _u S_2 => xb (τ := Unit) (f_X11_needWithin g0 x3 1 2000 S_2) (fun _u S_4 => br ((gi S_4 2 0 14) = 0) (some (.inr ((-1)), S_4)) (on (f_X4_begin 0 0 x1 x2 S_4) (fun S_7 => on (f_X6_letGo 0 0 x3 x4 S_7) (fun S_9 => on (f_X11_pair (gi S_9 44 0 3) (gi S_9 44 0 4) S_9) (fun r_11 => some (.inr r_11, S_9)))))))
set_option maxRecDepth 100000 in
set_option maxHeartbeats 4000000 in
theorem b_X11_learn (hc : Cx p s m args meth c cX11_learn 5 "PumpCrossing" D cs B0 kt Lv) (hr : meth.sig.returnType = some .int)  {o : (Nat ⊕ Int32) × St} (hex : XH l c o) {S : St} {g0 : Nat} {x1 : Int32} {x2 : Int32} {x3 : Int32} {x4 : Int32} (hL0 : Lv 0 g0) {H : Heap} {locs : List Loc} {ls : Array Slot} (hf : f_X11_learn g0 x1 x2 x3 x4 S = some o) (hd : Dy s D cs B0 α Lv S H locs) (hl : lv_has ls 5 [(0, .ref (α 0 g0)), (1, .int x1), (2, .int x2), (3, .int x3), (4, .int x4)]) : W p l e (RX 10 o) s m args below meth c H locs 0 0 (QXi D cs B0 α Lv o below args s) (F0 m 0 ls []) := by
  unfold f_X11_learn at hf
  refine lv_aload_n hc.x hc.b dX11_learn_0 rfl (lv_at hl 0 rfl) ?_
  refine lv_iload_n hc.x hc.b dX11_learn_1 rfl (lv_at hl 1 rfl) ?_
  refine lv_iload_n hc.x hc.b dX11_learn_2 rfl (lv_at hl 2 rfl) ?_
  rcases xb_s hf with ⟨k9, S9, hq_1, rfl⟩ | ⟨_u, S_2, hq_1, hf⟩
  · exact x_go (x_runV hc hd my_X11_needTwo tw_971 hL0 rfl rfl rfl (xc_X11_needTwo l D cs B0 kt α Lv S g0 x1 x2 hc.cl hL0  hq_1 hex.1) rfl rfl hl.1 (Nat.le_of_ble_eq_true rfl) ⟨Nat.le_of_ble_eq_true rfl, Nat.le_of_ble_eq_true rfl, Nat.le_of_ble_eq_true rfl, Nat.le_of_ble_eq_true rfl⟩ dX11_learn_3) hd hex.2 hc.lk
  refine k_v (k_runV hc hd my_X11_needTwo tw_971 hL0 rfl rfl rfl (c_X11_needTwo l D cs B0 kt α Lv S g0 x1 x2 hc.cl hL0  hq_1) rfl rfl hl.1 (Nat.le_of_ble_eq_true rfl) ⟨Nat.le_of_ble_eq_true rfl, Nat.le_of_ble_eq_true rfl, Nat.zero_le _, Nat.zero_le _⟩ dX11_learn_3) hd (fun H locs hd => ?_)
  refine lv_aload_n hc.x hc.b dX11_learn_6 rfl (lv_at hl 0 rfl) ?_
  refine lv_iload_n hc.x hc.b dX11_learn_7 rfl (lv_at hl 3 rfl) ?_
  refine lv_iconst (v := 1) hc.x hc.b dX11_learn_8 (by decide) ?_
  refine lv_sipush (v := 2000) hc.x hc.b dX11_learn_9 (by decide) ?_
  rcases xb_s hf with ⟨k9, S9, hq_3, rfl⟩ | ⟨_u, S_4, hq_3, hf⟩
  · exact x_go (x_runV hc hd my_X11_needWithin tw_527 hL0 rfl rfl rfl (xc_X11_needWithin l D cs B0 kt α Lv S_2 g0 x3 1 2000 hc.cl hL0  hq_3 hex.1) rfl rfl hl.1 (Nat.le_of_ble_eq_true rfl) ⟨Nat.le_of_ble_eq_true rfl, Nat.le_of_ble_eq_true rfl, Nat.le_of_ble_eq_true rfl, Nat.le_of_ble_eq_true rfl⟩ dX11_learn_12) hd hex.2 hc.lk
  refine k_v (k_runV hc hd my_X11_needWithin tw_527 hL0 rfl rfl rfl (c_X11_needWithin l D cs B0 kt α Lv S_2 g0 x3 1 2000 hc.cl hL0  hq_3) rfl rfl hl.1 (Nat.le_of_ble_eq_true rfl) ⟨Nat.le_of_ble_eq_true rfl, Nat.le_of_ble_eq_true rfl, Nat.zero_le _, Nat.zero_le _⟩ dX11_learn_12) hd (fun H locs hd => ?_)
  refine lv_aload_n hc.x hc.b dX11_learn_15 rfl (lv_at hl 0 rfl) ?_
  refine fg_0_0 hc hd hL0 tw_353 dX11_learn_16 ?_
  refine fg_2_14 hc hd (cl_0_now hc.cl hL0) tw_168 dX11_learn_19 ?_
  refine lv_if_ne (tgt := 27) hc.x hc.b dX11_learn_22 (by decide) (fun c_5 => ?_) (fun c_5 => ?_)
  · have hf := br_n c_5 hf
    refine lv_aload_n hc.x hc.b dX11_learn_27 rfl (lv_at hl 0 rfl) ?_
    refine fg_0_4 hc hd hL0 tw_357 dX11_learn_28 ?_
    refine lv_aload_n hc.x hc.b dX11_learn_31 rfl (lv_at hl 0 rfl) ?_
    refine fg_0_0 hc hd hL0 tw_353 dX11_learn_32 ?_
    refine lv_iload_n hc.x hc.b dX11_learn_35 rfl (lv_at hl 1 rfl) ?_
    refine lv_iload_n hc.x hc.b dX11_learn_36 rfl (lv_at hl 2 rfl) ?_
    obtain ⟨S_7, hq_6, hf⟩ := on_s hf
    refine k_v (k_runV hc hd my_X4_begin tw_996 (cl_0_game hc.cl hL0) rfl rfl rfl (c_X4_begin l D cs B0 kt α Lv S_4 0 0 x1 x2 hc.cl (cl_0_game hc.cl hL0) (cl_0_now hc.cl hL0)  hq_6) rfl rfl hl.1 (Nat.le_of_ble_eq_true rfl) ⟨Nat.le_of_ble_eq_true rfl, Nat.le_of_ble_eq_true rfl, Nat.zero_le _, Nat.zero_le _⟩ dX11_learn_37) hd (fun H locs hd => ?_)
    refine lv_aload_n hc.x hc.b dX11_learn_40 rfl (lv_at hl 0 rfl) ?_
    refine fg_0_5 hc hd hL0 tw_358 dX11_learn_41 ?_
    refine lv_aload_n hc.x hc.b dX11_learn_44 rfl (lv_at hl 0 rfl) ?_
    refine fg_0_4 hc hd hL0 tw_357 dX11_learn_45 ?_
    refine lv_iload_n hc.x hc.b dX11_learn_48 rfl (lv_at hl 3 rfl) ?_
    refine lv_iload hc.x hc.b dX11_learn_49 (lv_at hl 4 rfl) ?_
    obtain ⟨S_9, hq_8, hf⟩ := on_s hf
    refine k_v (k_runV hc hd my_X6_letGo tw_1096 (cl_0_learners hc.cl hL0) rfl rfl rfl (c_X6_letGo l D cs B0 kt α Lv S_7 0 0 x3 x4 hc.cl (cl_0_learners hc.cl hL0) (cl_0_game hc.cl hL0)  hq_8) rfl rfl hl.1 (Nat.le_of_ble_eq_true rfl) ⟨Nat.le_of_ble_eq_true rfl, Nat.le_of_ble_eq_true rfl, Nat.zero_le _, Nat.zero_le _⟩ dX11_learn_51) hd (fun H locs hd => ?_)
    refine lv_aload_n hc.x hc.b dX11_learn_54 rfl (lv_at hl 0 rfl) ?_
    refine fg_0_5 hc hd hL0 tw_358 dX11_learn_55 ?_
    refine fg_44_3 hc hd (cl_0_learners hc.cl hL0) tw_336 dX11_learn_58 ?_
    refine lv_aload_n hc.x hc.b dX11_learn_61 rfl (lv_at hl 0 rfl) ?_
    refine fg_0_5 hc hd hL0 tw_358 dX11_learn_62 ?_
    refine fg_44_4 hc hd (cl_0_learners hc.cl hL0) tw_338 dX11_learn_65 ?_
    obtain ⟨r_11, hq_10, hf⟩ := on_s hf
    refine k_i (k_runS hc hd my_X11_pair tw_1122 (c_X11_pair l D cs B0 kt α Lv S_9 (gi S_9 44 0 3) (gi S_9 44 0 4) hc.cl   hq_10) rfl rfl hl.1 (Nat.le_of_ble_eq_true rfl) ⟨Nat.le_of_ble_eq_true rfl, Nat.le_of_ble_eq_true rfl, Nat.zero_le _, Nat.zero_le _⟩ dX11_learn_68) hd (fun H locs hd => ?_)
    cases hf
    exact r_iret hc hd hr dX11_learn_71
  · have hf := br_y c_5 hf
    refine lv_iconst (v := (-1)) hc.x hc.b dX11_learn_25 (by decide) ?_
    cases hf
    exact r_iret hc hd hr dX11_learn_26
theorem c_X11_learn (l : Launch) (D : va_G) (cs : Nat → ClassId) (B0 : Nat) (kt : (Nat → Nat) × (Nat → Nat)) (α : Nat → Nat → Nat) (Lv : Nat → Nat → Prop) (S : St) (g0 : Nat) (x1 : Int32) (x2 : Int32) (x3 : Int32) (x4 : Int32) (hcl : Cl Lv) (hL0 : Lv 0 g0) {r : Int32} {S1 : St} (hf : f_X11_learn g0 x1 x2 x3 x4 S = some (.inr r, S1)) : Met l yX11_learn (wz yX11_learn cX11_learn 5 (some .int)) (Rm 10 0 0) (Pz D cs B0 kt α Lv S [.ref (α 0 g0), .int x1, .int x2, .int x3, .int x4]) (Qi D cs B0 α Lv r S1) 0 0 (AB B0) := met_of (by decide) rfl hcl (Nat.le_of_ble_eq_true rfl) (fun p e s m below meth c hc hr hd ls hl => b_X11_learn hc hr XH.r hL0 hf hd hl)
theorem xc_X11_learn (l : Launch) (D : va_G) (cs : Nat → ClassId) (B0 : Nat) (kt : (Nat → Nat) × (Nat → Nat)) (α : Nat → Nat → Nat) (Lv : Nat → Nat → Prop) (S : St) (g0 : Nat) (x1 : Int32) (x2 : Int32) (x3 : Int32) (x4 : Int32) (hcl : Cl Lv) (hL0 : Lv 0 g0) {k : Nat} {S1 : St} (hf : f_X11_learn g0 x1 x2 x3 x4 S = some (.inl k, S1)) (hst : l.stackTraces = false) : vx_Met l yX11_learn (wz yX11_learn cX11_learn 5 (some .int)) (Rm 10 1 6) (Pz D cs B0 kt α Lv S [.ref (α 0 g0), .int x1, .int x2, .int x3, .int x4]) QF (XQ D cs B0 α Lv k S1) 1 6 (AB B0) := xmet_of (by decide) rfl hcl (Nat.le_of_ble_eq_true rfl) (fun p e s m below meth c hc hr hex hd ls hl => b_X11_learn hc hr (XH.l hst hex) hL0 hf hd hl)
theorem my_X11_learn : MyV yX11_learn "PumpCrossing" cX11_learn 5 (some .int) 4 := ⟨tw_1093, tw_1094, tw_1, tw_1095, by decide +kernel⟩
def f_X11_level (g0 : Nat) (x1 : Int32) (S : St) : Option ((Nat ⊕ Int32) × St) := xb (τ := Unit) (f_X11_needPrice g0 x1 S) (fun _u S_2 => bv (fun  (S_3 : St) => on2 (f_X2_addLevel 0 x1 S_3) (fun r_7 S_6 => some (.inr r_7, S_6))) (fun J_4 => br ((gi S_2 2 0 14) ≤ 0) (J_4 S_2) (ck (inb ((gi S_2 2 0 14) - 1) 8 = true) (br ((gi S_2 21 0 (nn ((gi S_2 2 0 14) - 1))) < x1) (J_4 S_2) (some (.inl 2, S_2))))))
set_option maxRecDepth 100000 in
set_option maxHeartbeats 4000000 in
theorem b_X11_level (hc : Cx p s m args meth c cX11_level 2 "PumpCrossing" D cs B0 kt Lv) (hr : meth.sig.returnType = some .int)  {o : (Nat ⊕ Int32) × St} (hex : XH l c o) {S : St} {g0 : Nat} {x1 : Int32} (hL0 : Lv 0 g0) {H : Heap} {locs : List Loc} {ls : Array Slot} (hf : f_X11_level g0 x1 S = some o) (hd : Dy s D cs B0 α Lv S H locs) (hl : lv_has ls 2 [(0, .ref (α 0 g0)), (1, .int x1)]) : W p l e (RX 10 o) s m args below meth c H locs 0 0 (QXi D cs B0 α Lv o below args s) (F0 m 0 ls []) := by
  unfold f_X11_level at hf
  refine lv_aload_n hc.x hc.b dX11_level_0 rfl (lv_at hl 0 rfl) ?_
  refine lv_iload_n hc.x hc.b dX11_level_1 rfl (lv_at hl 1 rfl) ?_
  rcases xb_s hf with ⟨k9, S9, hq_1, rfl⟩ | ⟨_u, S_2, hq_1, hf⟩
  · exact x_go (x_runV hc hd my_X11_needPrice tw_523 hL0 rfl rfl rfl (xc_X11_needPrice l D cs B0 kt α Lv S g0 x1 hc.cl hL0  hq_1 hex.1) rfl rfl hl.1 (Nat.le_of_ble_eq_true rfl) ⟨Nat.le_of_ble_eq_true rfl, Nat.le_of_ble_eq_true rfl, Nat.le_of_ble_eq_true rfl, Nat.le_of_ble_eq_true rfl⟩ dX11_level_2) hd hex.2 hc.lk
  refine k_v (k_runV hc hd my_X11_needPrice tw_523 hL0 rfl rfl rfl (c_X11_needPrice l D cs B0 kt α Lv S g0 x1 hc.cl hL0  hq_1) rfl rfl hl.1 (Nat.le_of_ble_eq_true rfl) ⟨Nat.le_of_ble_eq_true rfl, Nat.le_of_ble_eq_true rfl, Nat.zero_le _, Nat.zero_le _⟩ dX11_level_2) hd (fun H locs hd => ?_)
  refine lv_aload_n hc.x hc.b dX11_level_5 rfl (lv_at hl 0 rfl) ?_
  refine fg_0_0 hc hd hL0 tw_353 dX11_level_6 ?_
  refine fg_2_14 hc hd (cl_0_now hc.cl hL0) tw_168 dX11_level_9 ?_
  refine jn_s (P := fun J_4 => ∀  (S_3 : St) (H : Heap) (locs : List Loc) (ls : Array Slot), J_4 S_3 = some o → Dy s D cs B0 α Lv S_3 H locs → lv_has ls 2 [(0, .ref (α 0 g0)), (1, .int x1)] → W p l e (RX 10 o) s m args below meth c H locs 0 0 (QXi D cs B0 α Lv o below args s) (F0 m 47 ls [])) hf ?_ (fun J_4 hJ_4 hf => ?_)
  · intro S_3 H locs ls hf hd hl
    refine lv_aload_n hc.x hc.b dX11_level_47 rfl (lv_at hl 0 rfl) ?_
    refine fg_0_0 hc hd hL0 tw_353 dX11_level_48 ?_
    refine lv_iload_n hc.x hc.b dX11_level_51 rfl (lv_at hl 1 rfl) ?_
    obtain ⟨r_7, S_6, hq_5, hf⟩ := on2_s hf
    refine k_i (k_runV hc hd my_X2_addLevel tw_959 (cl_0_now hc.cl hL0) rfl rfl rfl (c_X2_addLevel l D cs B0 kt α Lv S_3 0 x1 hc.cl (cl_0_now hc.cl hL0)  hq_5) rfl rfl hl.1 (Nat.le_of_ble_eq_true rfl) ⟨Nat.le_of_ble_eq_true rfl, Nat.le_of_ble_eq_true rfl, Nat.zero_le _, Nat.zero_le _⟩ dX11_level_52) hd (fun H locs hd => ?_)
    cases hf
    exact r_iret hc hd hr dX11_level_55
  refine lv_if_le (tgt := 47) hc.x hc.b dX11_level_12 (by decide) (fun c_8 => ?_) (fun c_8 => ?_)
  · have hf := br_y c_8 hf
    exact hJ_4 S_2 _ _ _ hf hd (lv_sub hl [0, 1] rfl)
  · have hf := br_n c_8 hf
    refine lv_iload_n hc.x hc.b dX11_level_15 rfl (lv_at hl 1 rfl) ?_
    refine lv_aload_n hc.x hc.b dX11_level_16 rfl (lv_at hl 0 rfl) ?_
    refine fg_0_0 hc hd hL0 tw_353 dX11_level_17 ?_
    refine fg_2_13 hc hd (cl_0_now hc.cl hL0) tw_165 dX11_level_20 ?_
    refine lv_aload_n hc.x hc.b dX11_level_23 rfl (lv_at hl 0 rfl) ?_
    refine fg_0_0 hc hd hL0 tw_353 dX11_level_24 ?_
    refine fg_2_14 hc hd (cl_0_now hc.cl hL0) tw_168 dX11_level_27 ?_
    refine lv_iconst (v := 1) hc.x hc.b dX11_level_30 (by decide) ?_
    refine lv_isub hc.x hc.b dX11_level_31 ?_
    obtain ⟨hi_9, hf⟩ := ck_s hf
    refine r_iald hc hd (cl_2_levels hc.cl (cl_0_now hc.cl hL0)) rfl hi_9 dX11_level_32 ?_
    refine lv_icmp_gt (tgt := 47) hc.x hc.b dX11_level_33 (by decide) (fun c_10 => ?_) (fun c_10 => ?_)
    · have hf := br_y c_10 hf
      exact hJ_4 S_2 _ _ _ hf hd (lv_sub hl [0, 1] rfl)
    · have hf := br_n c_10 hf
      cases hf
      exact r_thrw_2 hc hd hl.1 hex.1 hex.2 tw_531 (i := 7) rfl (Nat.le_of_ble_eq_true rfl) (Nat.le_of_ble_eq_true rfl) (Nat.le_of_ble_eq_true rfl) (Nat.le_of_ble_eq_true rfl) dX11_level_36 dX11_level_39 dX11_level_40 dX11_level_43 dX11_level_46
theorem c_X11_level (l : Launch) (D : va_G) (cs : Nat → ClassId) (B0 : Nat) (kt : (Nat → Nat) × (Nat → Nat)) (α : Nat → Nat → Nat) (Lv : Nat → Nat → Prop) (S : St) (g0 : Nat) (x1 : Int32) (hcl : Cl Lv) (hL0 : Lv 0 g0) {r : Int32} {S1 : St} (hf : f_X11_level g0 x1 S = some (.inr r, S1)) : Met l yX11_level (wz yX11_level cX11_level 2 (some .int)) (Rm 10 0 0) (Pz D cs B0 kt α Lv S [.ref (α 0 g0), .int x1]) (Qi D cs B0 α Lv r S1) 0 0 (AB B0) := met_of (by decide) rfl hcl (Nat.le_of_ble_eq_true rfl) (fun p e s m below meth c hc hr hd ls hl => b_X11_level hc hr XH.r hL0 hf hd hl)
theorem xc_X11_level (l : Launch) (D : va_G) (cs : Nat → ClassId) (B0 : Nat) (kt : (Nat → Nat) × (Nat → Nat)) (α : Nat → Nat → Nat) (Lv : Nat → Nat → Prop) (S : St) (g0 : Nat) (x1 : Int32) (hcl : Cl Lv) (hL0 : Lv 0 g0) {k : Nat} {S1 : St} (hf : f_X11_level g0 x1 S = some (.inl k, S1)) (hst : l.stackTraces = false) : vx_Met l yX11_level (wz yX11_level cX11_level 2 (some .int)) (Rm 10 1 6) (Pz D cs B0 kt α Lv S [.ref (α 0 g0), .int x1]) QF (XQ D cs B0 α Lv k S1) 1 6 (AB B0) := xmet_of (by decide) rfl hcl (Nat.le_of_ble_eq_true rfl) (fun p e s m below meth c hc hr hex hd ls hl => b_X11_level hc hr (XH.l hst hex) hL0 hf hd hl)
theorem my_X11_level : MyV yX11_level "PumpCrossing" cX11_level 2 (some .int) 1 := ⟨tw_955, tw_956, tw_1, tw_957, by decide +kernel⟩
def f_X11_lower (g0 : Nat) (S : St) : Option (Int64) := some (gl S 0 g0 7)
set_option maxRecDepth 100000 in
set_option maxHeartbeats 4000000 in
theorem b_X11_lower (hc : Cx p s m args meth c cX11_lower 1 "PumpCrossing" D cs B0 kt Lv) (hr : meth.sig.returnType = some .long)  {o : Int64}  {S : St} {g0 : Nat} (hL0 : Lv 0 g0) {H : Heap} {locs : List Loc} {ls : Array Slot} (hf : f_X11_lower g0 S = some o) (hd : Dy s D cs B0 α Lv S H locs) (hl : lv_has ls 1 [(0, .ref (α 0 g0))]) : W p l e (Rm 0 0 0) s m args below meth c H locs 0 0 (MQ below (Ql D cs B0 α Lv o S) args s 0 0 (AB B0)) (F0 m 0 ls []) := by
  unfold f_X11_lower at hf
  refine lv_aload_n hc.x hc.b dX11_lower_0 rfl (lv_at hl 0 rfl) ?_
  refine fg_0_7 hc hd hL0 tw_360 dX11_lower_1 ?_
  cases hf
  exact r_lret hc hd hr dX11_lower_4
theorem c_X11_lower (l : Launch) (D : va_G) (cs : Nat → ClassId) (B0 : Nat) (kt : (Nat → Nat) × (Nat → Nat)) (α : Nat → Nat → Nat) (Lv : Nat → Nat → Prop) (S : St) (g0 : Nat) (hcl : Cl Lv) (hL0 : Lv 0 g0) {o : Int64} (hf : f_X11_lower g0 S = some o) : Met l yX11_lower (wz yX11_lower cX11_lower 1 (some .long)) (Rm 0 0 0) (Pz D cs B0 kt α Lv S [.ref (α 0 g0)]) (Ql D cs B0 α Lv o S) 0 0 (AB B0) := met_of (by decide) rfl hcl (Nat.le_of_ble_eq_true rfl) (fun p e s m below meth c hc hr hd ls hl => b_X11_lower hc hr hL0 hf hd hl)
theorem my_X11_lower : MyV yX11_lower "PumpCrossing" cX11_lower 1 (some .long) 0 := ⟨tw_422, tw_423, tw_1, tw_424, by decide +kernel⟩
def f_X11_needImage (g0 : Nat) (x1 : Int32) (S : St) : Option ((Nat ⊕ Unit) × St) := bv (fun  (S_1 : St) => some (.inl 3, S_1)) (fun J_2 => br (x1 < 0) (J_2 S) (br (x1 < 3) (some (.inr (), S)) (J_2 S)))
set_option maxRecDepth 100000 in
set_option maxHeartbeats 4000000 in
theorem b_X11_needImage (hc : Cx p s m args meth c cX11_needImage 2 "PumpCrossing" D cs B0 kt Lv) (hr : meth.sig.returnType = none)  {o : (Nat ⊕ Unit) × St} (hex : XH l c o) {S : St} {g0 : Nat} {x1 : Int32} (hL0 : Lv 0 g0) {H : Heap} {locs : List Loc} {ls : Array Slot} (hf : f_X11_needImage g0 x1 S = some o) (hd : Dy s D cs B0 α Lv S H locs) (hl : lv_has ls 2 [(0, .ref (α 0 g0)), (1, .int x1)]) : W p l e (RX 8 o) s m args below meth c H locs 0 0 (QXv D cs B0 α Lv o below args s) (F0 m 0 ls []) := by
  unfold f_X11_needImage at hf
  refine lv_iload_n hc.x hc.b dX11_needImage_0 rfl (lv_at hl 1 rfl) ?_
  refine jn_s (P := fun J_2 => ∀  (S_1 : St) (H : Heap) (locs : List Loc) (ls : Array Slot), J_2 S_1 = some o → Dy s D cs B0 α Lv S_1 H locs → lv_has ls 2 [] → W p l e (RX 8 o) s m args below meth c H locs 0 0 (QXv D cs B0 α Lv o below args s) (F0 m 9 ls [])) hf ?_ (fun J_2 hJ_2 hf => ?_)
  · intro S_1 H locs ls hf hd hl
    cases hf
    exact r_thrw_3 hc hd hl.1 hex.1 hex.2 tw_563 (i := 16) rfl (Nat.le_of_ble_eq_true rfl) (Nat.le_of_ble_eq_true rfl) (Nat.le_of_ble_eq_true rfl) (Nat.le_of_ble_eq_true rfl) dX11_needImage_9 dX11_needImage_12 dX11_needImage_13 dX11_needImage_16 dX11_needImage_19
  refine lv_if_lt (tgt := 9) hc.x hc.b dX11_needImage_1 (by decide) (fun c_3 => ?_) (fun c_3 => ?_)
  · have hf := br_y c_3 hf
    exact hJ_2 S _ _ _ hf hd (lv_sub hl [] rfl)
  · have hf := br_n c_3 hf
    refine lv_iload_n hc.x hc.b dX11_needImage_4 rfl (lv_at hl 1 rfl) ?_
    refine lv_iconst (v := 3) hc.x hc.b dX11_needImage_5 (by decide) ?_
    refine lv_icmp_lt (tgt := 20) hc.x hc.b dX11_needImage_6 (by decide) (fun c_4 => ?_) (fun c_4 => ?_)
    · have hf := br_y c_4 hf
      cases hf
      exact r_vret hc hd hr dX11_needImage_20
    · have hf := br_n c_4 hf
      exact hJ_2 S _ _ _ hf hd (lv_sub hl [] rfl)
theorem c_X11_needImage (l : Launch) (D : va_G) (cs : Nat → ClassId) (B0 : Nat) (kt : (Nat → Nat) × (Nat → Nat)) (α : Nat → Nat → Nat) (Lv : Nat → Nat → Prop) (S : St) (g0 : Nat) (x1 : Int32) (hcl : Cl Lv) (hL0 : Lv 0 g0) {S1 : St} (hf : f_X11_needImage g0 x1 S = some (.inr (), S1)) : Met l yX11_needImage (wz yX11_needImage cX11_needImage 2 none) (Rm 8 0 0) (Pz D cs B0 kt α Lv S [.ref (α 0 g0), .int x1]) (Qv D cs B0 α Lv S1) 0 0 (AB B0) := met_of (by decide) rfl hcl (Nat.le_of_ble_eq_true rfl) (fun p e s m below meth c hc hr hd ls hl => b_X11_needImage hc hr XH.r hL0 hf hd hl)
theorem xc_X11_needImage (l : Launch) (D : va_G) (cs : Nat → ClassId) (B0 : Nat) (kt : (Nat → Nat) × (Nat → Nat)) (α : Nat → Nat → Nat) (Lv : Nat → Nat → Prop) (S : St) (g0 : Nat) (x1 : Int32) (hcl : Cl Lv) (hL0 : Lv 0 g0) {k : Nat} {S1 : St} (hf : f_X11_needImage g0 x1 S = some (.inl k, S1)) (hst : l.stackTraces = false) : vx_Met l yX11_needImage (wz yX11_needImage cX11_needImage 2 none) (Rm 8 1 6) (Pz D cs B0 kt α Lv S [.ref (α 0 g0), .int x1]) QF (XQ D cs B0 α Lv k S1) 1 6 (AB B0) := xmet_of (by decide) rfl hcl (Nat.le_of_ble_eq_true rfl) (fun p e s m below meth c hc hr hex hd ls hl => b_X11_needImage hc hr (XH.l hst hex) hL0 hf hd hl)
theorem my_X11_needImage : MyV yX11_needImage "PumpCrossing" cX11_needImage 2 none 1 := ⟨tw_1270, (in_sel 34 (by decide +kernel) (by decide +kernel)), tw_1, tw_1271, by decide +kernel⟩
def f_X11_setFraction (g0 : Nat) (x1 : Int64) (x3 : Int64) (S : St) : Option (St) := on (f_X11_commonDivisor x1 x3 S) (fun r_2 => bv (fun (v_3 : Int64) (S_4 : St) => bv (sl S_4 0 g0 6 v_3) (fun S_6 => bv (fun (v_7 : Int64) (S_8 : St) => bv (sl S_8 0 g0 7 v_7) (fun S_10 => some S_10)) (fun J_9 => br ((lg_cmp r_2 0) = 0) (J_9 0 S_6) (ck (¬ r_2 = 0) (bv (dvL x3 r_2) (fun q_13 => J_9 q_13 S_6)))))) (fun J_5 => br ((lg_cmp r_2 0) = 0) (J_5 0 S) (ck (¬ r_2 = 0) (bv (dvL x1 r_2) (fun q_16 => J_5 q_16 S)))))
set_option maxRecDepth 100000 in
set_option maxHeartbeats 4000000 in
theorem b_X11_setFraction (hc : Cx p s m args meth c cX11_setFraction 7 "PumpCrossing" D cs B0 kt Lv) (hr : meth.sig.returnType = none)  {o : St}  {S : St} {g0 : Nat} {x1 : Int64} {x3 : Int64} (hL0 : Lv 0 g0) {H : Heap} {locs : List Loc} {ls : Array Slot} (hf : f_X11_setFraction g0 x1 x3 S = some o) (hd : Dy s D cs B0 α Lv S H locs) (hl : lv_has ls 7 [(0, .ref (α 0 g0)), (1, .long x1), (3, .long x3)]) : W p l e (Rm 1 0 0) s m args below meth c H locs 0 0 (MQ below (Qv D cs B0 α Lv o) args s 0 0 (AB B0)) (F0 m 0 ls []) := by
  unfold f_X11_setFraction at hf
  refine lv_lload_n hc.x hc.b dX11_setFraction_0 rfl (lv_at hl 1 rfl) ?_
  refine lv_lload_n hc.x hc.b dX11_setFraction_1 rfl (lv_at hl 2 rfl) ?_
  obtain ⟨r_2, hq_1, hf⟩ := on_s hf
  refine k_l (k_runS hc hd my_X11_commonDivisor tw_437 (c_X11_commonDivisor l D cs B0 kt α Lv S x1 x3 hc.cl   hq_1) rfl rfl hl.1 (Nat.le_of_ble_eq_true rfl) ⟨Nat.le_of_ble_eq_true rfl, Nat.le_of_ble_eq_true rfl, Nat.zero_le _, Nat.zero_le _⟩ dX11_setFraction_2) hd (fun H locs hd => ?_)
  refine lv_lstore (lv' := [(5, .long r_2), (0, .ref (α 0 g0)), (1, .long x1), (3, .long x3)]) hc.x hc.b dX11_setFraction_5 hl (by decide) rfl (fun ls hl => ?_)
  refine lv_aload_n hc.x hc.b dX11_setFraction_7 rfl (lv_at hl 1 rfl) ?_
  refine lv_lload hc.x hc.b dX11_setFraction_8 (lv_at hl 0 rfl) ?_
  refine lv_lconst (v := 0) hc.x hc.b dX11_setFraction_10 (by decide) ?_
  refine W.lcmp hc.x hc.b dX11_setFraction_11 ?_
  refine jn_s (P := fun J_5 => ∀ (v_3 : Int64) (S_4 : St) (H : Heap) (locs : List Loc) (ls : Array Slot), J_5 v_3 S_4 = some o → Dy s D cs B0 α Lv S_4 H locs → lv_has ls 7 [(0, .ref (α 0 g0)), (3, .long x3), (5, .long r_2)] → W p l e (Rm 1 0 0) s m args below meth c H locs 0 0 (MQ below (Qv D cs B0 α Lv o) args s 0 0 (AB B0)) (F0 m 23 ls [.long v_3, .ref (α 0 g0)])) hf ?_ (fun J_5 hJ_5 hf => ?_)
  · intro v_3 S_4 H locs ls hf hd hl
    refine fp_0_6 hc hd hL0 tw_359 dX11_setFraction_23 (fun H locs hd => ?_)
    obtain ⟨S_6, hd, hf⟩ := nmD hd hf
    refine lv_aload_n hc.x hc.b dX11_setFraction_26 rfl (lv_at hl 0 rfl) ?_
    refine lv_lload hc.x hc.b dX11_setFraction_27 (lv_at hl 2 rfl) ?_
    refine lv_lconst (v := 0) hc.x hc.b dX11_setFraction_29 (by decide) ?_
    refine W.lcmp hc.x hc.b dX11_setFraction_30 ?_
    refine jn_s (P := fun J_9 => ∀ (v_7 : Int64) (S_8 : St) (H : Heap) (locs : List Loc) (ls : Array Slot), J_9 v_7 S_8 = some o → Dy s D cs B0 α Lv S_8 H locs → lv_has ls 7 [] → W p l e (Rm 1 0 0) s m args below meth c H locs 0 0 (MQ below (Qv D cs B0 α Lv o) args s 0 0 (AB B0)) (F0 m 42 ls [.long v_7, .ref (α 0 g0)])) hf ?_ (fun J_9 hJ_9 hf => ?_)
    · intro v_7 S_8 H locs ls hf hd hl
      refine fp_0_7 hc hd hL0 tw_360 dX11_setFraction_42 (fun H locs hd => ?_)
      obtain ⟨S_10, hd, hf⟩ := nmD hd hf
      cases hf
      exact r_vret hc hd hr dX11_setFraction_45
    refine lv_if_ne (tgt := 38) hc.x hc.b dX11_setFraction_31 (by decide) (fun c_11 => ?_) (fun c_11 => ?_)
    · have hf := br_n c_11 hf
      refine lv_lload_n hc.x hc.b dX11_setFraction_38 rfl (lv_at hl 1 rfl) ?_
      refine lv_lload hc.x hc.b dX11_setFraction_39 (lv_at hl 2 rfl) ?_
      obtain ⟨hn_12, hf⟩ := ck_s hf
      refine lv_ldiv hc.x hc.b dX11_setFraction_41 hn_12 ?_
      refine lv_topl (fun q_13 eq_13 => ?_)
      have hf := bv_n eq_13 hf
      exact hJ_9 q_13 S_6 _ _ _ hf hd (lv_sub hl [] rfl)
    · have hf := br_y c_11 hf
      refine lv_lconst (v := 0) hc.x hc.b dX11_setFraction_34 (by decide) ?_
      refine lv_goto (tgt := 42) hc.x hc.b dX11_setFraction_35 (by decide) ?_
      exact hJ_9 0 S_6 _ _ _ hf hd (lv_sub hl [] rfl)
  refine lv_if_ne (tgt := 19) hc.x hc.b dX11_setFraction_12 (by decide) (fun c_14 => ?_) (fun c_14 => ?_)
  · have hf := br_n c_14 hf
    refine lv_lload_n hc.x hc.b dX11_setFraction_19 rfl (lv_at hl 2 rfl) ?_
    refine lv_lload hc.x hc.b dX11_setFraction_20 (lv_at hl 0 rfl) ?_
    obtain ⟨hn_15, hf⟩ := ck_s hf
    refine lv_ldiv hc.x hc.b dX11_setFraction_22 hn_15 ?_
    refine lv_topl (fun q_16 eq_16 => ?_)
    have hf := bv_n eq_16 hf
    exact hJ_5 q_16 S _ _ _ hf hd (lv_sub hl [1, 3, 0] rfl)
  · have hf := br_y c_14 hf
    refine lv_lconst (v := 0) hc.x hc.b dX11_setFraction_15 (by decide) ?_
    refine lv_goto (tgt := 23) hc.x hc.b dX11_setFraction_16 (by decide) ?_
    exact hJ_5 0 S _ _ _ hf hd (lv_sub hl [1, 3, 0] rfl)
theorem c_X11_setFraction (l : Launch) (D : va_G) (cs : Nat → ClassId) (B0 : Nat) (kt : (Nat → Nat) × (Nat → Nat)) (α : Nat → Nat → Nat) (Lv : Nat → Nat → Prop) (S : St) (g0 : Nat) (x1 : Int64) (x3 : Int64) (hcl : Cl Lv) (hL0 : Lv 0 g0) {o : St} (hf : f_X11_setFraction g0 x1 x3 S = some o) : Met l yX11_setFraction (wz yX11_setFraction cX11_setFraction 7 none) (Rm 1 0 0) (Pz D cs B0 kt α Lv S [.ref (α 0 g0), .long x1, .long x3]) (Qv D cs B0 α Lv o) 0 0 (AB B0) := met_of (by decide) rfl hcl (Nat.le_of_ble_eq_true rfl) (fun p e s m below meth c hc hr hd ls hl => b_X11_setFraction hc hr hL0 hf hd hl)
theorem my_X11_setFraction : MyV yX11_setFraction "PumpCrossing" cX11_setFraction 7 none 2 := ⟨tw_435, (in_sel 1 (by decide +kernel) (by decide +kernel)), tw_1, tw_436, by decide +kernel⟩
def f_X11_odds (g0 : Nat) (S : St) : Option (St) := on (f_X8_product 0 0 S) (fun r_2 => on (f_X8_product 0 1 S) (fun r_4 => on (f_X11_setFraction g0 r_2 r_4 S) (fun S_6 => some S_6)))
set_option maxRecDepth 100000 in
set_option maxHeartbeats 4000000 in
theorem b_X11_odds (hc : Cx p s m args meth c cX11_odds 1 "PumpCrossing" D cs B0 kt Lv) (hr : meth.sig.returnType = none)  {o : St}  {S : St} {g0 : Nat} (hL0 : Lv 0 g0) {H : Heap} {locs : List Loc} {ls : Array Slot} (hf : f_X11_odds g0 S = some o) (hd : Dy s D cs B0 α Lv S H locs) (hl : lv_has ls 1 [(0, .ref (α 0 g0))]) : W p l e (Rm 2 0 0) s m args below meth c H locs 0 0 (MQ below (Qv D cs B0 α Lv o) args s 0 0 (AB B0)) (F0 m 0 ls []) := by
  unfold f_X11_odds at hf
  refine lv_aload_n hc.x hc.b dX11_odds_0 rfl (lv_at hl 0 rfl) ?_
  refine lv_aload_n hc.x hc.b dX11_odds_1 rfl (lv_at hl 0 rfl) ?_
  refine fg_0_0 hc hd hL0 tw_353 dX11_odds_2 ?_
  refine fg_2_15 hc hd (cl_0_now hc.cl hL0) tw_170 dX11_odds_5 ?_
  refine lv_iconst (v := 0) hc.x hc.b dX11_odds_8 (by decide) ?_
  obtain ⟨r_2, hq_1, hf⟩ := on_s hf
  refine k_l (k_runV hc hd my_X8_product tw_429 (cl_2_stories hc.cl (cl_0_now hc.cl hL0)) rfl rfl rfl (c_X8_product l D cs B0 kt α Lv S 0 0 hc.cl (cl_2_stories hc.cl (cl_0_now hc.cl hL0))  hq_1) rfl rfl hl.1 (Nat.le_of_ble_eq_true rfl) ⟨Nat.le_of_ble_eq_true rfl, Nat.le_of_ble_eq_true rfl, Nat.zero_le _, Nat.zero_le _⟩ dX11_odds_9) hd (fun H locs hd => ?_)
  refine lv_aload_n hc.x hc.b dX11_odds_12 rfl (lv_at hl 0 rfl) ?_
  refine fg_0_0 hc hd hL0 tw_353 dX11_odds_13 ?_
  refine fg_2_15 hc hd (cl_0_now hc.cl hL0) tw_170 dX11_odds_16 ?_
  refine lv_iconst (v := 1) hc.x hc.b dX11_odds_19 (by decide) ?_
  obtain ⟨r_4, hq_3, hf⟩ := on_s hf
  refine k_l (k_runV hc hd my_X8_product tw_429 (cl_2_stories hc.cl (cl_0_now hc.cl hL0)) rfl rfl rfl (c_X8_product l D cs B0 kt α Lv S 0 1 hc.cl (cl_2_stories hc.cl (cl_0_now hc.cl hL0))  hq_3) rfl rfl hl.1 (Nat.le_of_ble_eq_true rfl) ⟨Nat.le_of_ble_eq_true rfl, Nat.le_of_ble_eq_true rfl, Nat.zero_le _, Nat.zero_le _⟩ dX11_odds_20) hd (fun H locs hd => ?_)
  obtain ⟨S_6, hq_5, hf⟩ := on_s hf
  refine k_v (k_runV hc hd my_X11_setFraction tw_433 hL0 rfl rfl rfl (c_X11_setFraction l D cs B0 kt α Lv S g0 r_2 r_4 hc.cl hL0  hq_5) rfl rfl hl.1 (Nat.le_of_ble_eq_true rfl) ⟨Nat.le_of_ble_eq_true rfl, Nat.le_of_ble_eq_true rfl, Nat.zero_le _, Nat.zero_le _⟩ dX11_odds_23) hd (fun H locs hd => ?_)
  cases hf
  exact r_vret hc hd hr dX11_odds_26
theorem c_X11_odds (l : Launch) (D : va_G) (cs : Nat → ClassId) (B0 : Nat) (kt : (Nat → Nat) × (Nat → Nat)) (α : Nat → Nat → Nat) (Lv : Nat → Nat → Prop) (S : St) (g0 : Nat) (hcl : Cl Lv) (hL0 : Lv 0 g0) {o : St} (hf : f_X11_odds g0 S = some o) : Met l yX11_odds (wz yX11_odds cX11_odds 1 none) (Rm 2 0 0) (Pz D cs B0 kt α Lv S [.ref (α 0 g0)]) (Qv D cs B0 α Lv o) 0 0 (AB B0) := met_of (by decide) rfl hcl (Nat.le_of_ble_eq_true rfl) (fun p e s m below meth c hc hr hd ls hl => b_X11_odds hc hr hL0 hf hd hl)
theorem my_X11_odds : MyV yX11_odds "PumpCrossing" cX11_odds 1 none 0 := ⟨tw_426, tw_427, tw_1, tw_428, by decide +kernel⟩
def f_X11_of (g0 : Nat) (x1 : Int32) (x2 : Int32) (S : St) : Option ((Nat ⊕ Int64) × St) := xb (τ := Unit) (f_X11_needStation g0 x1 S) (fun _u S_2 => br (x2 = 0) (ck (inb x1 4 = true) (some (.inr (gl S_2 6 0 (nn x1)), S_2))) (br (x2 = 1) (ck (inb x1 4 = true) (some (.inr (gl S_2 7 0 (nn x1)), S_2))) (br (x2 = 2) (ck (inb x1 4 = true) (on (f_X11_sinceIn (gi S_2 14 (2 * 0) 3) (gi S_2 5 0 (nn x1)) S_2) (fun r_8 => some (.inr (Int32.toInt64 r_8), S_2)))) (some (.inl 2, S_2)))))
set_option maxRecDepth 100000 in
set_option maxHeartbeats 4000000 in
theorem b_X11_of (hc : Cx p s m args meth c cX11_of 3 "PumpCrossing" D cs B0 kt Lv) (hr : meth.sig.returnType = some .long)  {o : (Nat ⊕ Int64) × St} (hex : XH l c o) {S : St} {g0 : Nat} {x1 : Int32} {x2 : Int32} (hL0 : Lv 0 g0) {H : Heap} {locs : List Loc} {ls : Array Slot} (hf : f_X11_of g0 x1 x2 S = some o) (hd : Dy s D cs B0 α Lv S H locs) (hl : lv_has ls 3 [(0, .ref (α 0 g0)), (1, .int x1), (2, .int x2)]) : W p l e (RX 9 o) s m args below meth c H locs 0 0 (QXl D cs B0 α Lv o below args s) (F0 m 0 ls []) := by
  unfold f_X11_of at hf
  refine lv_aload_n hc.x hc.b dX11_of_0 rfl (lv_at hl 0 rfl) ?_
  refine lv_iload_n hc.x hc.b dX11_of_1 rfl (lv_at hl 1 rfl) ?_
  rcases xb_s hf with ⟨k9, S9, hq_1, rfl⟩ | ⟨_u, S_2, hq_1, hf⟩
  · exact x_go (x_runV hc hd my_X11_needStation tw_559 hL0 rfl rfl rfl (xc_X11_needStation l D cs B0 kt α Lv S g0 x1 hc.cl hL0  hq_1 hex.1) rfl rfl hl.1 (Nat.le_of_ble_eq_true rfl) ⟨Nat.le_of_ble_eq_true rfl, Nat.le_of_ble_eq_true rfl, Nat.le_of_ble_eq_true rfl, Nat.le_of_ble_eq_true rfl⟩ dX11_of_2) hd hex.2 hc.lk
  refine k_v (k_runV hc hd my_X11_needStation tw_559 hL0 rfl rfl rfl (c_X11_needStation l D cs B0 kt α Lv S g0 x1 hc.cl hL0  hq_1) rfl rfl hl.1 (Nat.le_of_ble_eq_true rfl) ⟨Nat.le_of_ble_eq_true rfl, Nat.le_of_ble_eq_true rfl, Nat.zero_le _, Nat.zero_le _⟩ dX11_of_2) hd (fun H locs hd => ?_)
  refine lv_iload_n hc.x hc.b dX11_of_5 rfl (lv_at hl 2 rfl) ?_
  by_cases c_3_0 : x2 = 0
  · have hf := br_y c_3_0 hf
    refine lv_tableIn (off := 26) (tgt := 32) hc.x hc.b dX11_of_6 (by rw [c_3_0]; decide) (by rw [c_3_0]; decide) (by rw [c_3_0]; decide) (by decide) ?_
    refine lv_aload_n hc.x hc.b dX11_of_32 rfl (lv_at hl 0 rfl) ?_
    refine fg_0_0 hc hd hL0 tw_353 dX11_of_33 ?_
    refine fg_2_4 hc hd (cl_0_now hc.cl hL0) tw_145 dX11_of_36 ?_
    refine lv_iload_n hc.x hc.b dX11_of_39 rfl (lv_at hl 1 rfl) ?_
    obtain ⟨hi_4, hf⟩ := ck_s hf
    refine r_lald hc hd (cl_2_profit hc.cl (cl_0_now hc.cl hL0)) rfl hi_4 dX11_of_40 ?_
    cases hf
    exact r_lret hc hd hr dX11_of_41
  · have hf := br_n c_3_0 hf
    by_cases c_3_1 : x2 = 1
    · have hf := br_y c_3_1 hf
      refine lv_tableIn (off := 36) (tgt := 42) hc.x hc.b dX11_of_6 (by rw [c_3_1]; decide) (by rw [c_3_1]; decide) (by rw [c_3_1]; decide) (by decide) ?_
      refine lv_aload_n hc.x hc.b dX11_of_42 rfl (lv_at hl 0 rfl) ?_
      refine fg_0_0 hc hd hL0 tw_353 dX11_of_43 ?_
      refine fg_2_5 hc hd (cl_0_now hc.cl hL0) tw_147 dX11_of_46 ?_
      refine lv_iload_n hc.x hc.b dX11_of_49 rfl (lv_at hl 1 rfl) ?_
      obtain ⟨hi_5, hf⟩ := ck_s hf
      refine r_lald hc hd (cl_2_sold hc.cl (cl_0_now hc.cl hL0)) rfl hi_5 dX11_of_50 ?_
      cases hf
      exact r_lret hc hd hr dX11_of_51
    · have hf := br_n c_3_1 hf
      by_cases c_3_2 : x2 = 2
      · have hf := br_y c_3_2 hf
        refine lv_tableIn (off := 46) (tgt := 52) hc.x hc.b dX11_of_6 (by rw [c_3_2]; decide) (by rw [c_3_2]; decide) (by rw [c_3_2]; decide) (by decide) ?_
        refine lv_aload_n hc.x hc.b dX11_of_52 rfl (lv_at hl 0 rfl) ?_
        refine fg_0_0 hc hd hL0 tw_353 dX11_of_53 ?_
        refine fg_2_10 hc hd (cl_0_now hc.cl hL0) tw_158 dX11_of_56 ?_
        refine fg_14_3 hc hd (cl_2_hours hc.cl (cl_0_now hc.cl hL0)) tw_81 dX11_of_59 ?_
        refine lv_aload_n hc.x hc.b dX11_of_62 rfl (lv_at hl 0 rfl) ?_
        refine fg_0_0 hc hd hL0 tw_353 dX11_of_63 ?_
        refine fg_2_3 hc hd (cl_0_now hc.cl hL0) tw_143 dX11_of_66 ?_
        refine lv_iload_n hc.x hc.b dX11_of_69 rfl (lv_at hl 1 rfl) ?_
        obtain ⟨hi_6, hf⟩ := ck_s hf
        refine r_iald hc hd (cl_2_changedIn hc.cl (cl_0_now hc.cl hL0)) rfl hi_6 dX11_of_70 ?_
        obtain ⟨r_8, hq_7, hf⟩ := on_s hf
        refine k_i (k_runS hc hd my_X11_sinceIn tw_881 (c_X11_sinceIn l D cs B0 kt α Lv S_2 (gi S_2 14 (2 * 0) 3) (gi S_2 5 0 (nn x1)) hc.cl   hq_7) rfl rfl hl.1 (Nat.le_of_ble_eq_true rfl) ⟨Nat.le_of_ble_eq_true rfl, Nat.le_of_ble_eq_true rfl, Nat.zero_le _, Nat.zero_le _⟩ dX11_of_71) hd (fun H locs hd => ?_)
        refine lv_i2l (v := Int32.toInt64 r_8) hc.x hc.b dX11_of_74 rfl ?_
        cases hf
        exact r_lret hc hd hr dX11_of_75
      · have hf := br_n c_3_2 hf
        refine lv_tableOut (tgt := 76) hc.x hc.b dX11_of_6 (sw_out (fun z h1 h2 => by
          rcases (show z = 0 ∨ z = 1 ∨ z = 2 by omega) with rfl | rfl | rfl
          · exact c_3_0
          · exact c_3_1
          · exact c_3_2)) (by decide) ?_
        cases hf
        exact r_thr_2 hc hd hl.1 hex.1 hex.2 tw_531 (i := 5) rfl (Nat.le_of_ble_eq_true rfl) (Nat.le_of_ble_eq_true rfl) (Nat.le_of_ble_eq_true rfl) (Nat.le_of_ble_eq_true rfl) dX11_of_76 dX11_of_79 dX11_of_80 dX11_of_82 dX11_of_85
theorem c_X11_of (l : Launch) (D : va_G) (cs : Nat → ClassId) (B0 : Nat) (kt : (Nat → Nat) × (Nat → Nat)) (α : Nat → Nat → Nat) (Lv : Nat → Nat → Prop) (S : St) (g0 : Nat) (x1 : Int32) (x2 : Int32) (hcl : Cl Lv) (hL0 : Lv 0 g0) {r : Int64} {S1 : St} (hf : f_X11_of g0 x1 x2 S = some (.inr r, S1)) : Met l yX11_of (wz yX11_of cX11_of 3 (some .long)) (Rm 9 0 0) (Pz D cs B0 kt α Lv S [.ref (α 0 g0), .int x1, .int x2]) (Ql D cs B0 α Lv r S1) 0 0 (AB B0) := met_of (by decide) rfl hcl (Nat.le_of_ble_eq_true rfl) (fun p e s m below meth c hc hr hd ls hl => b_X11_of hc hr XH.r hL0 hf hd hl)
theorem xc_X11_of (l : Launch) (D : va_G) (cs : Nat → ClassId) (B0 : Nat) (kt : (Nat → Nat) × (Nat → Nat)) (α : Nat → Nat → Nat) (Lv : Nat → Nat → Prop) (S : St) (g0 : Nat) (x1 : Int32) (x2 : Int32) (hcl : Cl Lv) (hL0 : Lv 0 g0) {k : Nat} {S1 : St} (hf : f_X11_of g0 x1 x2 S = some (.inl k, S1)) (hst : l.stackTraces = false) : vx_Met l yX11_of (wz yX11_of cX11_of 3 (some .long)) (Rm 9 1 6) (Pz D cs B0 kt α Lv S [.ref (α 0 g0), .int x1, .int x2]) QF (XQ D cs B0 α Lv k S1) 1 6 (AB B0) := xmet_of (by decide) rfl hcl (Nat.le_of_ble_eq_true rfl) (fun p e s m below meth c hc hr hex hd ls hl => b_X11_of hc hr (XH.l hst hex) hL0 hf hd hl)
theorem my_X11_of : MyV yX11_of "PumpCrossing" cX11_of 3 (some .long) 2 := ⟨tw_887, tw_888, tw_1, tw_889, by decide +kernel⟩
def f_X11_passed_22 (g0 : Nat) (x1 : Int32) (x2 : Int32) (x3 : Int32) (K : Int64 → Int64 → St → Option ((Nat ⊕ Int32) × St)) : Nat → Int64 → Int64 → Int32 → St → Option ((Nat ⊕ Int32) × St)
  | 0, _, _, _, _ => none
  | n + 1, x4, x6, x8, S => br ((gi S 17 0 3) ≤ x8) (K x4 x6 S) (on (f_X1_counts 0 x8 x1 x2 x3 (2 * 0) S) (fun r_7 => bv (fun (x4_8 : Int64) (x6_9 : Int64) (S_10 : St) => bv (x8 + 1) (fun x8_12 => f_X11_passed_22 g0 x1 x2 x3 K n x4_8 x6_9 x8_12 S_10)) (fun J_11 => br (r_7 = 0) (J_11 x4 x6 S) (ck (inb x8 10 = true) (bv (abI (gi S 20 0 (nn x8))) (fun q_15 => bv (x4 + (Int32.toInt64 q_15)) (fun x4_16 => on (f_X1_wentAlong 0 x8 x2 (2 * 0) S) (fun r_18 => bv (x6 + (Int32.toInt64 r_18)) (fun x6_19 => J_11 x4_16 x6_19 S)))))))))
def f_X11_passed (g0 : Nat) (x1 : Int32) (x2 : Int32) (x3 : Int32) (S : St) : Option ((Nat ⊕ Int32) × St) := xb (τ := Unit) (f_X11_needStation g0 x1 S) (fun _u S_2 => xb (τ := Unit) (f_X11_needWithin g0 x2 1 24 S_2) (fun _u S_4 => f_X11_passed_22 g0 x1 x2 x3 (fun (x4_20 : Int64) (x6_21 : Int64) (S_22 : St) => br ((lg_cmp x4_20 0) = 0) (some (.inr 0, S_22)) (on (f_X11_setFraction g0 x6_21 x4_20 S_22) (fun S_25 => some (.inr 1, S_25)))) FU 0 0 0 S_4))
set_option maxRecDepth 100000 in
set_option maxHeartbeats 4000000 in
theorem w_X11_passed_22 (hc : Cx p s m args meth c cX11_passed 9 "PumpCrossing" D cs B0 kt Lv) (hr : meth.sig.returnType = some .boolean) {o : (Nat ⊕ Int32) × St} (hex : XH l c o) {g0 : Nat} {x1 : Int32} {x2 : Int32} {x3 : Int32} {K : Int64 → Int64 → St → Option ((Nat ⊕ Int32) × St)} (hL0 : Lv 0 g0) (hK : ∀ (k4 : Int64) (k6 : Int64) (S : St) (H : Heap) (locs : List Loc) (ls : Array Slot), K k4 k6 S = some o → Dy s D cs B0 α Lv S H locs → lv_has ls 9 [(0, .ref (α 0 g0)), (4, .long k4), (6, .long k6)] → W p l e (RX 9 o) s m args below meth c H locs 0 0 (QXi D cs B0 α Lv o below args s) (F0 m 116 ls [])) : ∀ (n : Nat) (x4 : Int64) (x6 : Int64) (x8 : Int32) (S : St) (H : Heap) (locs : List Loc) (ls : Array Slot), f_X11_passed_22 g0 x1 x2 x3 K n x4 x6 x8 S = some o → Dy s D cs B0 α Lv S H locs → lv_has ls 9 [(0, .ref (α 0 g0)), (1, .int x1), (2, .int x2), (3, .int x3), (4, .long x4), (6, .long x6), (8, .int x8)] → W p l e (RX 9 o) s m args below meth c H locs 0 0 (QXi D cs B0 α Lv o below args s) (F0 m 22 ls []) := by
  intro n
  induction n with
  | zero =>
    intro x4 x6 x8 S H locs ls hf
    rw [f_X11_passed_22] at hf
    cases hf
  | succ n ih =>
    intro x4 x6 x8 S H locs ls hf hd hl
    rw [f_X11_passed_22] at hf
    refine lv_iload hc.x hc.b dX11_passed_22 (lv_at hl 6 rfl) ?_
    refine lv_aload_n hc.x hc.b dX11_passed_24 rfl (lv_at hl 0 rfl) ?_
    refine fg_0_0 hc hd hL0 tw_353 dX11_passed_25 ?_
    refine fg_2_12 hc hd (cl_0_now hc.cl hL0) tw_162 dX11_passed_28 ?_
    refine fg_17_3 hc hd (cl_2_changes hc.cl (cl_0_now hc.cl hL0)) tw_103 dX11_passed_31 ?_
    refine lv_icmp_ge (tgt := 116) hc.x hc.b dX11_passed_34 (by decide) (fun c_5 => ?_) (fun c_5 => ?_)
    · have hf := br_y c_5 hf
      exact hK x4 x6 S _ _ _ hf hd (lv_sub hl [0, 4, 5] rfl)
    · have hf := br_n c_5 hf
      refine lv_aload_n hc.x hc.b dX11_passed_37 rfl (lv_at hl 0 rfl) ?_
      refine fg_0_0 hc hd hL0 tw_353 dX11_passed_38 ?_
      refine fg_2_12 hc hd (cl_0_now hc.cl hL0) tw_162 dX11_passed_41 ?_
      refine lv_iload hc.x hc.b dX11_passed_44 (lv_at hl 6 rfl) ?_
      refine lv_iload_n hc.x hc.b dX11_passed_46 rfl (lv_at hl 1 rfl) ?_
      refine lv_iload_n hc.x hc.b dX11_passed_47 rfl (lv_at hl 2 rfl) ?_
      refine lv_iload_n hc.x hc.b dX11_passed_48 rfl (lv_at hl 3 rfl) ?_
      refine lv_aload_n hc.x hc.b dX11_passed_49 rfl (lv_at hl 0 rfl) ?_
      refine fg_0_0 hc hd hL0 tw_353 dX11_passed_50 ?_
      refine fg_2_10 hc hd (cl_0_now hc.cl hL0) tw_158 dX11_passed_53 ?_
      obtain ⟨r_7, hq_6, hf⟩ := on_s hf
      refine k_i (k_runV hc hd my_X1_counts tw_937 (cl_2_changes hc.cl (cl_0_now hc.cl hL0)) rfl rfl rfl (c_X1_counts l D cs B0 kt α Lv S 0 x8 x1 x2 x3 (2 * 0) hc.cl (cl_2_changes hc.cl (cl_0_now hc.cl hL0)) (cl_2_hours hc.cl (cl_0_now hc.cl hL0))  hq_6) rfl rfl hl.1 (Nat.le_of_ble_eq_true rfl) ⟨Nat.le_of_ble_eq_true rfl, Nat.le_of_ble_eq_true rfl, Nat.zero_le _, Nat.zero_le _⟩ dX11_passed_56) hd (fun H locs hd => ?_)
      refine jn_s (P := fun J_11 => ∀ (x4_8 : Int64) (x6_9 : Int64) (S_10 : St) (H : Heap) (locs : List Loc) (ls : Array Slot), J_11 x4_8 x6_9 S_10 = some o → Dy s D cs B0 α Lv S_10 H locs → lv_has ls 9 [(0, .ref (α 0 g0)), (1, .int x1), (2, .int x2), (3, .int x3), (4, .long x4_8), (6, .long x6_9), (8, .int x8)] → W p l e (RX 9 o) s m args below meth c H locs 0 0 (QXi D cs B0 α Lv o below args s) (F0 m 110 ls [])) hf ?_ (fun J_11 hJ_11 hf => ?_)
      · intro x4_8 x6_9 S_10 H locs ls hf hd hl
        obtain ⟨x8_12, ex8_12⟩ : ∃ z : Int32, z = x8 + 1 := ⟨_, rfl⟩
        have hf := bv_n ex8_12 hf
        refine lv_iinc (v := x8_12) (lv' := [(8, .int x8_12), (0, .ref (α 0 g0)), (1, .int x1), (2, .int x2), (3, .int x3), (4, .long x4_8), (6, .long x6_9)]) hc.x hc.b dX11_passed_110 hl (k := 6) rfl (by rw [ex8_12]; rfl) (by decide) rfl (fun ls hl => ?_)
        refine lv_goto (tgt := 22) hc.x hc.b dX11_passed_113 (by decide) ?_
        exact ih x4_8 x6_9 x8_12 S_10 _ _ _ hf hd (lv_sub hl [1, 2, 3, 4, 5, 6, 0] rfl)
      refine lv_if_eq (tgt := 110) hc.x hc.b dX11_passed_59 (by decide) (fun c_13 => ?_) (fun c_13 => ?_)
      · have hf := br_y c_13 hf
        exact hJ_11 x4 x6 S _ _ _ hf hd (lv_sub hl [0, 1, 2, 3, 4, 5, 6] rfl)
      · have hf := br_n c_13 hf
        refine lv_lload hc.x hc.b dX11_passed_62 (lv_at hl 4 rfl) ?_
        refine lv_aload_n hc.x hc.b dX11_passed_64 rfl (lv_at hl 0 rfl) ?_
        refine fg_0_0 hc hd hL0 tw_353 dX11_passed_65 ?_
        refine fg_2_12 hc hd (cl_0_now hc.cl hL0) tw_162 dX11_passed_68 ?_
        refine fg_17_2 hc hd (cl_2_changes hc.cl (cl_0_now hc.cl hL0)) tw_101 dX11_passed_71 ?_
        refine lv_iload hc.x hc.b dX11_passed_74 (lv_at hl 6 rfl) ?_
        obtain ⟨hi_14, hf⟩ := ck_s hf
        refine r_iald hc hd (cl_17_by hc.cl (cl_2_changes hc.cl (cl_0_now hc.cl hL0))) rfl hi_14 dX11_passed_76 ?_
        refine r_abs hc hl.1 tw_942 (Nat.le_of_ble_eq_true rfl) (Nat.le_of_ble_eq_true rfl) (Nat.zero_le _) (Nat.zero_le _) dX11_passed_77 ?_
        refine lv_topi (fun q_15 eq_15 => ?_)
        have hf := bv_n eq_15 hf
        refine lv_i2l (v := Int32.toInt64 q_15) hc.x hc.b dX11_passed_80 rfl ?_
        refine lv_ladd hc.x hc.b dX11_passed_81 ?_
        refine lv_topl (fun x4_16 ex4_16 => ?_)
        have hf := bv_n ex4_16 hf
        refine lv_lstore (lv' := [(4, .long x4_16), (0, .ref (α 0 g0)), (1, .int x1), (2, .int x2), (3, .int x3), (6, .long x6), (8, .int x8)]) hc.x hc.b dX11_passed_82 hl (by decide) rfl (fun ls hl => ?_)
        refine lv_lload hc.x hc.b dX11_passed_84 (lv_at hl 5 rfl) ?_
        refine lv_aload_n hc.x hc.b dX11_passed_86 rfl (lv_at hl 1 rfl) ?_
        refine fg_0_0 hc hd hL0 tw_353 dX11_passed_87 ?_
        refine fg_2_12 hc hd (cl_0_now hc.cl hL0) tw_162 dX11_passed_90 ?_
        refine lv_iload hc.x hc.b dX11_passed_93 (lv_at hl 6 rfl) ?_
        refine lv_iload_n hc.x hc.b dX11_passed_95 rfl (lv_at hl 3 rfl) ?_
        refine lv_aload_n hc.x hc.b dX11_passed_96 rfl (lv_at hl 1 rfl) ?_
        refine fg_0_0 hc hd hL0 tw_353 dX11_passed_97 ?_
        refine fg_2_10 hc hd (cl_0_now hc.cl hL0) tw_158 dX11_passed_100 ?_
        obtain ⟨r_18, hq_17, hf⟩ := on_s hf
        refine k_i (k_runV hc hd my_X1_wentAlong tw_945 (cl_2_changes hc.cl (cl_0_now hc.cl hL0)) rfl rfl rfl (c_X1_wentAlong l D cs B0 kt α Lv S 0 x8 x2 (2 * 0) hc.cl (cl_2_changes hc.cl (cl_0_now hc.cl hL0)) (cl_2_hours hc.cl (cl_0_now hc.cl hL0))  hq_17) rfl rfl hl.1 (Nat.le_of_ble_eq_true rfl) ⟨Nat.le_of_ble_eq_true rfl, Nat.le_of_ble_eq_true rfl, Nat.zero_le _, Nat.zero_le _⟩ dX11_passed_103) hd (fun H locs hd => ?_)
        refine lv_i2l (v := Int32.toInt64 r_18) hc.x hc.b dX11_passed_106 rfl ?_
        refine lv_ladd hc.x hc.b dX11_passed_107 ?_
        refine lv_topl (fun x6_19 ex6_19 => ?_)
        have hf := bv_n ex6_19 hf
        refine lv_lstore (lv' := [(6, .long x6_19), (4, .long x4_16), (0, .ref (α 0 g0)), (1, .int x1), (2, .int x2), (3, .int x3), (8, .int x8)]) hc.x hc.b dX11_passed_108 hl (by decide) rfl (fun ls hl => ?_)
        exact hJ_11 x4_16 x6_19 S _ _ _ hf hd (lv_sub hl [2, 3, 4, 5, 1, 0, 6] rfl)
set_option maxRecDepth 100000 in
set_option maxHeartbeats 4000000 in
theorem b_X11_passed (hc : Cx p s m args meth c cX11_passed 9 "PumpCrossing" D cs B0 kt Lv) (hr : meth.sig.returnType = some .boolean)  {o : (Nat ⊕ Int32) × St} (hex : XH l c o) {S : St} {g0 : Nat} {x1 : Int32} {x2 : Int32} {x3 : Int32} (hL0 : Lv 0 g0) {H : Heap} {locs : List Loc} {ls : Array Slot} (hf : f_X11_passed g0 x1 x2 x3 S = some o) (hd : Dy s D cs B0 α Lv S H locs) (hl : lv_has ls 9 [(0, .ref (α 0 g0)), (1, .int x1), (2, .int x2), (3, .int x3)]) : W p l e (RX 9 o) s m args below meth c H locs 0 0 (QXi D cs B0 α Lv o below args s) (F0 m 0 ls []) := by
  unfold f_X11_passed at hf
  refine lv_aload_n hc.x hc.b dX11_passed_0 rfl (lv_at hl 0 rfl) ?_
  refine lv_iload_n hc.x hc.b dX11_passed_1 rfl (lv_at hl 1 rfl) ?_
  rcases xb_s hf with ⟨k9, S9, hq_1, rfl⟩ | ⟨_u, S_2, hq_1, hf⟩
  · exact x_go (x_runV hc hd my_X11_needStation tw_559 hL0 rfl rfl rfl (xc_X11_needStation l D cs B0 kt α Lv S g0 x1 hc.cl hL0  hq_1 hex.1) rfl rfl hl.1 (Nat.le_of_ble_eq_true rfl) ⟨Nat.le_of_ble_eq_true rfl, Nat.le_of_ble_eq_true rfl, Nat.le_of_ble_eq_true rfl, Nat.le_of_ble_eq_true rfl⟩ dX11_passed_2) hd hex.2 hc.lk
  refine k_v (k_runV hc hd my_X11_needStation tw_559 hL0 rfl rfl rfl (c_X11_needStation l D cs B0 kt α Lv S g0 x1 hc.cl hL0  hq_1) rfl rfl hl.1 (Nat.le_of_ble_eq_true rfl) ⟨Nat.le_of_ble_eq_true rfl, Nat.le_of_ble_eq_true rfl, Nat.zero_le _, Nat.zero_le _⟩ dX11_passed_2) hd (fun H locs hd => ?_)
  refine lv_aload_n hc.x hc.b dX11_passed_5 rfl (lv_at hl 0 rfl) ?_
  refine lv_iload_n hc.x hc.b dX11_passed_6 rfl (lv_at hl 2 rfl) ?_
  refine lv_iconst (v := 1) hc.x hc.b dX11_passed_7 (by decide) ?_
  refine lv_bipush (v := 24) hc.x hc.b dX11_passed_8 (by decide) ?_
  rcases xb_s hf with ⟨k9, S9, hq_3, rfl⟩ | ⟨_u, S_4, hq_3, hf⟩
  · exact x_go (x_runV hc hd my_X11_needWithin tw_527 hL0 rfl rfl rfl (xc_X11_needWithin l D cs B0 kt α Lv S_2 g0 x2 1 24 hc.cl hL0  hq_3 hex.1) rfl rfl hl.1 (Nat.le_of_ble_eq_true rfl) ⟨Nat.le_of_ble_eq_true rfl, Nat.le_of_ble_eq_true rfl, Nat.le_of_ble_eq_true rfl, Nat.le_of_ble_eq_true rfl⟩ dX11_passed_10) hd hex.2 hc.lk
  refine k_v (k_runV hc hd my_X11_needWithin tw_527 hL0 rfl rfl rfl (c_X11_needWithin l D cs B0 kt α Lv S_2 g0 x2 1 24 hc.cl hL0  hq_3) rfl rfl hl.1 (Nat.le_of_ble_eq_true rfl) ⟨Nat.le_of_ble_eq_true rfl, Nat.le_of_ble_eq_true rfl, Nat.zero_le _, Nat.zero_le _⟩ dX11_passed_10) hd (fun H locs hd => ?_)
  refine lv_lconst (v := 0) hc.x hc.b dX11_passed_13 (by decide) ?_
  refine lv_lstore (lv' := [(4, .long 0), (0, .ref (α 0 g0)), (1, .int x1), (2, .int x2), (3, .int x3)]) hc.x hc.b dX11_passed_14 hl (by decide) rfl (fun ls hl => ?_)
  refine lv_lconst (v := 0) hc.x hc.b dX11_passed_16 (by decide) ?_
  refine lv_lstore (lv' := [(6, .long 0), (4, .long 0), (0, .ref (α 0 g0)), (1, .int x1), (2, .int x2), (3, .int x3)]) hc.x hc.b dX11_passed_17 hl (by decide) rfl (fun ls hl => ?_)
  refine lv_iconst (v := 0) hc.x hc.b dX11_passed_19 (by decide) ?_
  refine lv_istore (lv' := [(8, .int 0), (6, .long 0), (4, .long 0), (0, .ref (α 0 g0)), (1, .int x1), (2, .int x2), (3, .int x3)]) hc.x hc.b dX11_passed_20 hl (by decide) rfl (fun ls hl => ?_)
  refine w_X11_passed_22 hc hr hex hL0 ?_ _ _ _ _ _ _ _ _ hf hd (lv_sub hl [3, 4, 5, 6, 2, 1, 0] rfl)
  intro x4_20 x6_21 S_22 H locs ls hf hd hl
  refine lv_lload hc.x hc.b dX11_passed_116 (lv_at hl 1 rfl) ?_
  refine lv_lconst (v := 0) hc.x hc.b dX11_passed_118 (by decide) ?_
  refine W.lcmp hc.x hc.b dX11_passed_119 ?_
  refine lv_if_ne (tgt := 125) hc.x hc.b dX11_passed_120 (by decide) (fun c_23 => ?_) (fun c_23 => ?_)
  · have hf := br_n c_23 hf
    refine lv_aload_n hc.x hc.b dX11_passed_125 rfl (lv_at hl 0 rfl) ?_
    refine lv_lload hc.x hc.b dX11_passed_126 (lv_at hl 2 rfl) ?_
    refine lv_lload hc.x hc.b dX11_passed_128 (lv_at hl 1 rfl) ?_
    obtain ⟨S_25, hq_24, hf⟩ := on_s hf
    refine k_v (k_runV hc hd my_X11_setFraction tw_433 hL0 rfl rfl rfl (c_X11_setFraction l D cs B0 kt α Lv S_22 g0 x6_21 x4_20 hc.cl hL0  hq_24) rfl rfl hl.1 (Nat.le_of_ble_eq_true rfl) ⟨Nat.le_of_ble_eq_true rfl, Nat.le_of_ble_eq_true rfl, Nat.zero_le _, Nat.zero_le _⟩ dX11_passed_130) hd (fun H locs hd => ?_)
    refine lv_iconst (v := 1) hc.x hc.b dX11_passed_133 (by decide) ?_
    cases hf
    exact r_zret hc hd hr (Or.inr rfl) dX11_passed_134
  · have hf := br_y c_23 hf
    refine lv_iconst (v := 0) hc.x hc.b dX11_passed_123 (by decide) ?_
    cases hf
    exact r_zret hc hd hr (Or.inl rfl) dX11_passed_124
theorem c_X11_passed (l : Launch) (D : va_G) (cs : Nat → ClassId) (B0 : Nat) (kt : (Nat → Nat) × (Nat → Nat)) (α : Nat → Nat → Nat) (Lv : Nat → Nat → Prop) (S : St) (g0 : Nat) (x1 : Int32) (x2 : Int32) (x3 : Int32) (hcl : Cl Lv) (hL0 : Lv 0 g0) {r : Int32} {S1 : St} (hf : f_X11_passed g0 x1 x2 x3 S = some (.inr r, S1)) : Met l yX11_passed (wz yX11_passed cX11_passed 9 (some .boolean)) (Rm 9 0 0) (Pz D cs B0 kt α Lv S [.ref (α 0 g0), .int x1, .int x2, .int x3]) (Qi D cs B0 α Lv r S1) 0 0 (AB B0) := met_of (by decide) rfl hcl (Nat.le_of_ble_eq_true rfl) (fun p e s m below meth c hc hr hd ls hl => b_X11_passed hc hr XH.r hL0 hf hd hl)
theorem xc_X11_passed (l : Launch) (D : va_G) (cs : Nat → ClassId) (B0 : Nat) (kt : (Nat → Nat) × (Nat → Nat)) (α : Nat → Nat → Nat) (Lv : Nat → Nat → Prop) (S : St) (g0 : Nat) (x1 : Int32) (x2 : Int32) (x3 : Int32) (hcl : Cl Lv) (hL0 : Lv 0 g0) {k : Nat} {S1 : St} (hf : f_X11_passed g0 x1 x2 x3 S = some (.inl k, S1)) (hst : l.stackTraces = false) : vx_Met l yX11_passed (wz yX11_passed cX11_passed 9 (some .boolean)) (Rm 9 1 6) (Pz D cs B0 kt α Lv S [.ref (α 0 g0), .int x1, .int x2, .int x3]) QF (XQ D cs B0 α Lv k S1) 1 6 (AB B0) := xmet_of (by decide) rfl hcl (Nat.le_of_ble_eq_true rfl) (fun p e s m below meth c hc hr hex hd ls hl => b_X11_passed hc hr (XH.l hst hex) hL0 hf hd hl)
theorem my_X11_passed : MyV yX11_passed "PumpCrossing" cX11_passed 9 (some .boolean) 3 := ⟨tw_934, tw_935, tw_1, tw_936, by decide +kernel⟩
def f_X11_price (g0 : Nat) (x1 : Int32) (S : St) : Option ((Nat ⊕ Int32) × St) := xb (τ := Unit) (f_X11_needStation g0 x1 S) (fun _u S_2 => on (f_X2_priceNow 0 x1 S_2) (fun r_4 => some (.inr r_4, S_2)))
set_option maxRecDepth 100000 in
set_option maxHeartbeats 4000000 in
theorem b_X11_price (hc : Cx p s m args meth c cX11_price 2 "PumpCrossing" D cs B0 kt Lv) (hr : meth.sig.returnType = some .int)  {o : (Nat ⊕ Int32) × St} (hex : XH l c o) {S : St} {g0 : Nat} {x1 : Int32} (hL0 : Lv 0 g0) {H : Heap} {locs : List Loc} {ls : Array Slot} (hf : f_X11_price g0 x1 S = some o) (hd : Dy s D cs B0 α Lv S H locs) (hl : lv_has ls 2 [(0, .ref (α 0 g0)), (1, .int x1)]) : W p l e (RX 9 o) s m args below meth c H locs 0 0 (QXi D cs B0 α Lv o below args s) (F0 m 0 ls []) := by
  unfold f_X11_price at hf
  refine lv_aload_n hc.x hc.b dX11_price_0 rfl (lv_at hl 0 rfl) ?_
  refine lv_iload_n hc.x hc.b dX11_price_1 rfl (lv_at hl 1 rfl) ?_
  rcases xb_s hf with ⟨k9, S9, hq_1, rfl⟩ | ⟨_u, S_2, hq_1, hf⟩
  · exact x_go (x_runV hc hd my_X11_needStation tw_559 hL0 rfl rfl rfl (xc_X11_needStation l D cs B0 kt α Lv S g0 x1 hc.cl hL0  hq_1 hex.1) rfl rfl hl.1 (Nat.le_of_ble_eq_true rfl) ⟨Nat.le_of_ble_eq_true rfl, Nat.le_of_ble_eq_true rfl, Nat.le_of_ble_eq_true rfl, Nat.le_of_ble_eq_true rfl⟩ dX11_price_2) hd hex.2 hc.lk
  refine k_v (k_runV hc hd my_X11_needStation tw_559 hL0 rfl rfl rfl (c_X11_needStation l D cs B0 kt α Lv S g0 x1 hc.cl hL0  hq_1) rfl rfl hl.1 (Nat.le_of_ble_eq_true rfl) ⟨Nat.le_of_ble_eq_true rfl, Nat.le_of_ble_eq_true rfl, Nat.zero_le _, Nat.zero_le _⟩ dX11_price_2) hd (fun H locs hd => ?_)
  refine lv_aload_n hc.x hc.b dX11_price_5 rfl (lv_at hl 0 rfl) ?_
  refine fg_0_0 hc hd hL0 tw_353 dX11_price_6 ?_
  refine lv_iload_n hc.x hc.b dX11_price_9 rfl (lv_at hl 1 rfl) ?_
  obtain ⟨r_4, hq_3, hf⟩ := on_s hf
  refine k_i (k_runV hc hd my_X2_priceNow tw_856 (cl_0_now hc.cl hL0) rfl rfl rfl (c_X2_priceNow l D cs B0 kt α Lv S_2 0 x1 hc.cl (cl_0_now hc.cl hL0)  hq_3) rfl rfl hl.1 (Nat.le_of_ble_eq_true rfl) ⟨Nat.le_of_ble_eq_true rfl, Nat.le_of_ble_eq_true rfl, Nat.zero_le _, Nat.zero_le _⟩ dX11_price_10) hd (fun H locs hd => ?_)
  cases hf
  exact r_iret hc hd hr dX11_price_13
theorem c_X11_price (l : Launch) (D : va_G) (cs : Nat → ClassId) (B0 : Nat) (kt : (Nat → Nat) × (Nat → Nat)) (α : Nat → Nat → Nat) (Lv : Nat → Nat → Prop) (S : St) (g0 : Nat) (x1 : Int32) (hcl : Cl Lv) (hL0 : Lv 0 g0) {r : Int32} {S1 : St} (hf : f_X11_price g0 x1 S = some (.inr r, S1)) : Met l yX11_price (wz yX11_price cX11_price 2 (some .int)) (Rm 9 0 0) (Pz D cs B0 kt α Lv S [.ref (α 0 g0), .int x1]) (Qi D cs B0 α Lv r S1) 0 0 (AB B0) := met_of (by decide) rfl hcl (Nat.le_of_ble_eq_true rfl) (fun p e s m below meth c hc hr hd ls hl => b_X11_price hc hr XH.r hL0 hf hd hl)
theorem xc_X11_price (l : Launch) (D : va_G) (cs : Nat → ClassId) (B0 : Nat) (kt : (Nat → Nat) × (Nat → Nat)) (α : Nat → Nat → Nat) (Lv : Nat → Nat → Prop) (S : St) (g0 : Nat) (x1 : Int32) (hcl : Cl Lv) (hL0 : Lv 0 g0) {k : Nat} {S1 : St} (hf : f_X11_price g0 x1 S = some (.inl k, S1)) (hst : l.stackTraces = false) : vx_Met l yX11_price (wz yX11_price cX11_price 2 (some .int)) (Rm 9 1 6) (Pz D cs B0 kt α Lv S [.ref (α 0 g0), .int x1]) QF (XQ D cs B0 α Lv k S1) 1 6 (AB B0) := xmet_of (by decide) rfl hcl (Nat.le_of_ble_eq_true rfl) (fun p e s m below meth c hc hr hex hd ls hl => b_X11_price hc hr (XH.l hst hex) hL0 hf hd hl)
theorem my_X11_price : MyV yX11_price "PumpCrossing" cX11_price 2 (some .int) 1 := ⟨tw_853, tw_854, tw_1, tw_855, by decide +kernel⟩
def f_X11_punish (g0 : Nat) (x1 : Int32) (x2 : Int32) (x3 : Int32) (x4 : Int32) (x5 : Int32) (S : St) : Option ((Nat ⊕ Int32) × St) := xb (τ := Unit) (f_X11_needTwo g0 x1 x2 S) (fun _u S_2 => xb (τ := Unit) (f_X11_needWithin g0 x3 1 2000 S_2) (fun _u S_4 => xb (τ := Unit) (f_X11_needLevel g0 x5 S_4) (fun _u S_6 => on (f_X4_begin 0 0 x1 x2 S_6) (fun S_8 => on (f_X6_letGo 0 0 x3 x4 S_8) (fun S_10 => on (f_X6_answerOfB 0 x5 S_10) (fun r_12 => some (.inr r_12, S_10)))))))
set_option maxRecDepth 100000 in
set_option maxHeartbeats 4000000 in
theorem b_X11_punish (hc : Cx p s m args meth c cX11_punish 6 "PumpCrossing" D cs B0 kt Lv) (hr : meth.sig.returnType = some .int)  {o : (Nat ⊕ Int32) × St} (hex : XH l c o) {S : St} {g0 : Nat} {x1 : Int32} {x2 : Int32} {x3 : Int32} {x4 : Int32} {x5 : Int32} (hL0 : Lv 0 g0) {H : Heap} {locs : List Loc} {ls : Array Slot} (hf : f_X11_punish g0 x1 x2 x3 x4 x5 S = some o) (hd : Dy s D cs B0 α Lv S H locs) (hl : lv_has ls 6 [(0, .ref (α 0 g0)), (1, .int x1), (2, .int x2), (3, .int x3), (4, .int x4), (5, .int x5)]) : W p l e (RX 10 o) s m args below meth c H locs 0 0 (QXi D cs B0 α Lv o below args s) (F0 m 0 ls []) := by
  unfold f_X11_punish at hf
  refine lv_aload_n hc.x hc.b dX11_punish_0 rfl (lv_at hl 0 rfl) ?_
  refine lv_iload_n hc.x hc.b dX11_punish_1 rfl (lv_at hl 1 rfl) ?_
  refine lv_iload_n hc.x hc.b dX11_punish_2 rfl (lv_at hl 2 rfl) ?_
  rcases xb_s hf with ⟨k9, S9, hq_1, rfl⟩ | ⟨_u, S_2, hq_1, hf⟩
  · exact x_go (x_runV hc hd my_X11_needTwo tw_971 hL0 rfl rfl rfl (xc_X11_needTwo l D cs B0 kt α Lv S g0 x1 x2 hc.cl hL0  hq_1 hex.1) rfl rfl hl.1 (Nat.le_of_ble_eq_true rfl) ⟨Nat.le_of_ble_eq_true rfl, Nat.le_of_ble_eq_true rfl, Nat.le_of_ble_eq_true rfl, Nat.le_of_ble_eq_true rfl⟩ dX11_punish_3) hd hex.2 hc.lk
  refine k_v (k_runV hc hd my_X11_needTwo tw_971 hL0 rfl rfl rfl (c_X11_needTwo l D cs B0 kt α Lv S g0 x1 x2 hc.cl hL0  hq_1) rfl rfl hl.1 (Nat.le_of_ble_eq_true rfl) ⟨Nat.le_of_ble_eq_true rfl, Nat.le_of_ble_eq_true rfl, Nat.zero_le _, Nat.zero_le _⟩ dX11_punish_3) hd (fun H locs hd => ?_)
  refine lv_aload_n hc.x hc.b dX11_punish_6 rfl (lv_at hl 0 rfl) ?_
  refine lv_iload_n hc.x hc.b dX11_punish_7 rfl (lv_at hl 3 rfl) ?_
  refine lv_iconst (v := 1) hc.x hc.b dX11_punish_8 (by decide) ?_
  refine lv_sipush (v := 2000) hc.x hc.b dX11_punish_9 (by decide) ?_
  rcases xb_s hf with ⟨k9, S9, hq_3, rfl⟩ | ⟨_u, S_4, hq_3, hf⟩
  · exact x_go (x_runV hc hd my_X11_needWithin tw_527 hL0 rfl rfl rfl (xc_X11_needWithin l D cs B0 kt α Lv S_2 g0 x3 1 2000 hc.cl hL0  hq_3 hex.1) rfl rfl hl.1 (Nat.le_of_ble_eq_true rfl) ⟨Nat.le_of_ble_eq_true rfl, Nat.le_of_ble_eq_true rfl, Nat.le_of_ble_eq_true rfl, Nat.le_of_ble_eq_true rfl⟩ dX11_punish_12) hd hex.2 hc.lk
  refine k_v (k_runV hc hd my_X11_needWithin tw_527 hL0 rfl rfl rfl (c_X11_needWithin l D cs B0 kt α Lv S_2 g0 x3 1 2000 hc.cl hL0  hq_3) rfl rfl hl.1 (Nat.le_of_ble_eq_true rfl) ⟨Nat.le_of_ble_eq_true rfl, Nat.le_of_ble_eq_true rfl, Nat.zero_le _, Nat.zero_le _⟩ dX11_punish_12) hd (fun H locs hd => ?_)
  refine lv_aload_n hc.x hc.b dX11_punish_15 rfl (lv_at hl 0 rfl) ?_
  refine lv_iload hc.x hc.b dX11_punish_16 (lv_at hl 5 rfl) ?_
  rcases xb_s hf with ⟨k9, S9, hq_5, rfl⟩ | ⟨_u, S_6, hq_5, hf⟩
  · exact x_go (x_runV hc hd my_X11_needLevel tw_976 hL0 rfl rfl rfl (xc_X11_needLevel l D cs B0 kt α Lv S_4 g0 x5 hc.cl hL0  hq_5 hex.1) rfl rfl hl.1 (Nat.le_of_ble_eq_true rfl) ⟨Nat.le_of_ble_eq_true rfl, Nat.le_of_ble_eq_true rfl, Nat.le_of_ble_eq_true rfl, Nat.le_of_ble_eq_true rfl⟩ dX11_punish_18) hd hex.2 hc.lk
  refine k_v (k_runV hc hd my_X11_needLevel tw_976 hL0 rfl rfl rfl (c_X11_needLevel l D cs B0 kt α Lv S_4 g0 x5 hc.cl hL0  hq_5) rfl rfl hl.1 (Nat.le_of_ble_eq_true rfl) ⟨Nat.le_of_ble_eq_true rfl, Nat.le_of_ble_eq_true rfl, Nat.zero_le _, Nat.zero_le _⟩ dX11_punish_18) hd (fun H locs hd => ?_)
  refine lv_aload_n hc.x hc.b dX11_punish_21 rfl (lv_at hl 0 rfl) ?_
  refine fg_0_4 hc hd hL0 tw_357 dX11_punish_22 ?_
  refine lv_aload_n hc.x hc.b dX11_punish_25 rfl (lv_at hl 0 rfl) ?_
  refine fg_0_0 hc hd hL0 tw_353 dX11_punish_26 ?_
  refine lv_iload_n hc.x hc.b dX11_punish_29 rfl (lv_at hl 1 rfl) ?_
  refine lv_iload_n hc.x hc.b dX11_punish_30 rfl (lv_at hl 2 rfl) ?_
  obtain ⟨S_8, hq_7, hf⟩ := on_s hf
  refine k_v (k_runV hc hd my_X4_begin tw_996 (cl_0_game hc.cl hL0) rfl rfl rfl (c_X4_begin l D cs B0 kt α Lv S_6 0 0 x1 x2 hc.cl (cl_0_game hc.cl hL0) (cl_0_now hc.cl hL0)  hq_7) rfl rfl hl.1 (Nat.le_of_ble_eq_true rfl) ⟨Nat.le_of_ble_eq_true rfl, Nat.le_of_ble_eq_true rfl, Nat.zero_le _, Nat.zero_le _⟩ dX11_punish_31) hd (fun H locs hd => ?_)
  refine lv_aload_n hc.x hc.b dX11_punish_34 rfl (lv_at hl 0 rfl) ?_
  refine fg_0_5 hc hd hL0 tw_358 dX11_punish_35 ?_
  refine lv_aload_n hc.x hc.b dX11_punish_38 rfl (lv_at hl 0 rfl) ?_
  refine fg_0_4 hc hd hL0 tw_357 dX11_punish_39 ?_
  refine lv_iload_n hc.x hc.b dX11_punish_42 rfl (lv_at hl 3 rfl) ?_
  refine lv_iload hc.x hc.b dX11_punish_43 (lv_at hl 4 rfl) ?_
  obtain ⟨S_10, hq_9, hf⟩ := on_s hf
  refine k_v (k_runV hc hd my_X6_letGo tw_1096 (cl_0_learners hc.cl hL0) rfl rfl rfl (c_X6_letGo l D cs B0 kt α Lv S_8 0 0 x3 x4 hc.cl (cl_0_learners hc.cl hL0) (cl_0_game hc.cl hL0)  hq_9) rfl rfl hl.1 (Nat.le_of_ble_eq_true rfl) ⟨Nat.le_of_ble_eq_true rfl, Nat.le_of_ble_eq_true rfl, Nat.zero_le _, Nat.zero_le _⟩ dX11_punish_45) hd (fun H locs hd => ?_)
  refine lv_aload_n hc.x hc.b dX11_punish_48 rfl (lv_at hl 0 rfl) ?_
  refine fg_0_5 hc hd hL0 tw_358 dX11_punish_49 ?_
  refine lv_iload hc.x hc.b dX11_punish_52 (lv_at hl 5 rfl) ?_
  obtain ⟨r_12, hq_11, hf⟩ := on_s hf
  refine k_i (k_runV hc hd my_X6_answerOfB tw_1138 (cl_0_learners hc.cl hL0) rfl rfl rfl (c_X6_answerOfB l D cs B0 kt α Lv S_10 0 x5 hc.cl (cl_0_learners hc.cl hL0)  hq_11) rfl rfl hl.1 (Nat.le_of_ble_eq_true rfl) ⟨Nat.le_of_ble_eq_true rfl, Nat.le_of_ble_eq_true rfl, Nat.zero_le _, Nat.zero_le _⟩ dX11_punish_54) hd (fun H locs hd => ?_)
  cases hf
  exact r_iret hc hd hr dX11_punish_57
theorem c_X11_punish (l : Launch) (D : va_G) (cs : Nat → ClassId) (B0 : Nat) (kt : (Nat → Nat) × (Nat → Nat)) (α : Nat → Nat → Nat) (Lv : Nat → Nat → Prop) (S : St) (g0 : Nat) (x1 : Int32) (x2 : Int32) (x3 : Int32) (x4 : Int32) (x5 : Int32) (hcl : Cl Lv) (hL0 : Lv 0 g0) {r : Int32} {S1 : St} (hf : f_X11_punish g0 x1 x2 x3 x4 x5 S = some (.inr r, S1)) : Met l yX11_punish (wz yX11_punish cX11_punish 6 (some .int)) (Rm 10 0 0) (Pz D cs B0 kt α Lv S [.ref (α 0 g0), .int x1, .int x2, .int x3, .int x4, .int x5]) (Qi D cs B0 α Lv r S1) 0 0 (AB B0) := met_of (by decide) rfl hcl (Nat.le_of_ble_eq_true rfl) (fun p e s m below meth c hc hr hd ls hl => b_X11_punish hc hr XH.r hL0 hf hd hl)
theorem xc_X11_punish (l : Launch) (D : va_G) (cs : Nat → ClassId) (B0 : Nat) (kt : (Nat → Nat) × (Nat → Nat)) (α : Nat → Nat → Nat) (Lv : Nat → Nat → Prop) (S : St) (g0 : Nat) (x1 : Int32) (x2 : Int32) (x3 : Int32) (x4 : Int32) (x5 : Int32) (hcl : Cl Lv) (hL0 : Lv 0 g0) {k : Nat} {S1 : St} (hf : f_X11_punish g0 x1 x2 x3 x4 x5 S = some (.inl k, S1)) (hst : l.stackTraces = false) : vx_Met l yX11_punish (wz yX11_punish cX11_punish 6 (some .int)) (Rm 10 1 6) (Pz D cs B0 kt α Lv S [.ref (α 0 g0), .int x1, .int x2, .int x3, .int x4, .int x5]) QF (XQ D cs B0 α Lv k S1) 1 6 (AB B0) := xmet_of (by decide) rfl hcl (Nat.le_of_ble_eq_true rfl) (fun p e s m below meth c hc hr hex hd ls hl => b_X11_punish hc hr (XH.l hst hex) hL0 hf hd hl)
theorem my_X11_punish : MyV yX11_punish "PumpCrossing" cX11_punish 6 (some .int) 5 := ⟨tw_1135, tw_1136, tw_1, tw_1137, by decide +kernel⟩
def f_X11_reply (g0 : Nat) (x1 : Int32) (x2 : Int32) (x3 : Int32) (S : St) : Option ((Nat ⊕ Int32) × St) := xb (τ := Unit) (f_X11_needTwo g0 x1 x2 S) (fun _u S_2 => xb (τ := Unit) (f_X11_needLevel g0 x3 S_2) (fun _u S_4 => on (f_X4_begin 0 0 x1 x2 S_4) (fun S_6 => on (f_X4_replyOfA 0 x3 S_6) (fun r_8 => some (.inr r_8, S_6)))))
set_option maxRecDepth 100000 in
set_option maxHeartbeats 4000000 in
theorem b_X11_reply (hc : Cx p s m args meth c cX11_reply 4 "PumpCrossing" D cs B0 kt Lv) (hr : meth.sig.returnType = some .int)  {o : (Nat ⊕ Int32) × St} (hex : XH l c o) {S : St} {g0 : Nat} {x1 : Int32} {x2 : Int32} {x3 : Int32} (hL0 : Lv 0 g0) {H : Heap} {locs : List Loc} {ls : Array Slot} (hf : f_X11_reply g0 x1 x2 x3 S = some o) (hd : Dy s D cs B0 α Lv S H locs) (hl : lv_has ls 4 [(0, .ref (α 0 g0)), (1, .int x1), (2, .int x2), (3, .int x3)]) : W p l e (RX 10 o) s m args below meth c H locs 0 0 (QXi D cs B0 α Lv o below args s) (F0 m 0 ls []) := by
  unfold f_X11_reply at hf
  refine lv_aload_n hc.x hc.b dX11_reply_0 rfl (lv_at hl 0 rfl) ?_
  refine lv_iload_n hc.x hc.b dX11_reply_1 rfl (lv_at hl 1 rfl) ?_
  refine lv_iload_n hc.x hc.b dX11_reply_2 rfl (lv_at hl 2 rfl) ?_
  rcases xb_s hf with ⟨k9, S9, hq_1, rfl⟩ | ⟨_u, S_2, hq_1, hf⟩
  · exact x_go (x_runV hc hd my_X11_needTwo tw_971 hL0 rfl rfl rfl (xc_X11_needTwo l D cs B0 kt α Lv S g0 x1 x2 hc.cl hL0  hq_1 hex.1) rfl rfl hl.1 (Nat.le_of_ble_eq_true rfl) ⟨Nat.le_of_ble_eq_true rfl, Nat.le_of_ble_eq_true rfl, Nat.le_of_ble_eq_true rfl, Nat.le_of_ble_eq_true rfl⟩ dX11_reply_3) hd hex.2 hc.lk
  refine k_v (k_runV hc hd my_X11_needTwo tw_971 hL0 rfl rfl rfl (c_X11_needTwo l D cs B0 kt α Lv S g0 x1 x2 hc.cl hL0  hq_1) rfl rfl hl.1 (Nat.le_of_ble_eq_true rfl) ⟨Nat.le_of_ble_eq_true rfl, Nat.le_of_ble_eq_true rfl, Nat.zero_le _, Nat.zero_le _⟩ dX11_reply_3) hd (fun H locs hd => ?_)
  refine lv_aload_n hc.x hc.b dX11_reply_6 rfl (lv_at hl 0 rfl) ?_
  refine lv_iload_n hc.x hc.b dX11_reply_7 rfl (lv_at hl 3 rfl) ?_
  rcases xb_s hf with ⟨k9, S9, hq_3, rfl⟩ | ⟨_u, S_4, hq_3, hf⟩
  · exact x_go (x_runV hc hd my_X11_needLevel tw_976 hL0 rfl rfl rfl (xc_X11_needLevel l D cs B0 kt α Lv S_2 g0 x3 hc.cl hL0  hq_3 hex.1) rfl rfl hl.1 (Nat.le_of_ble_eq_true rfl) ⟨Nat.le_of_ble_eq_true rfl, Nat.le_of_ble_eq_true rfl, Nat.le_of_ble_eq_true rfl, Nat.le_of_ble_eq_true rfl⟩ dX11_reply_8) hd hex.2 hc.lk
  refine k_v (k_runV hc hd my_X11_needLevel tw_976 hL0 rfl rfl rfl (c_X11_needLevel l D cs B0 kt α Lv S_2 g0 x3 hc.cl hL0  hq_3) rfl rfl hl.1 (Nat.le_of_ble_eq_true rfl) ⟨Nat.le_of_ble_eq_true rfl, Nat.le_of_ble_eq_true rfl, Nat.zero_le _, Nat.zero_le _⟩ dX11_reply_8) hd (fun H locs hd => ?_)
  refine lv_aload_n hc.x hc.b dX11_reply_11 rfl (lv_at hl 0 rfl) ?_
  refine fg_0_4 hc hd hL0 tw_357 dX11_reply_12 ?_
  refine lv_aload_n hc.x hc.b dX11_reply_15 rfl (lv_at hl 0 rfl) ?_
  refine fg_0_0 hc hd hL0 tw_353 dX11_reply_16 ?_
  refine lv_iload_n hc.x hc.b dX11_reply_19 rfl (lv_at hl 1 rfl) ?_
  refine lv_iload_n hc.x hc.b dX11_reply_20 rfl (lv_at hl 2 rfl) ?_
  obtain ⟨S_6, hq_5, hf⟩ := on_s hf
  refine k_v (k_runV hc hd my_X4_begin tw_996 (cl_0_game hc.cl hL0) rfl rfl rfl (c_X4_begin l D cs B0 kt α Lv S_4 0 0 x1 x2 hc.cl (cl_0_game hc.cl hL0) (cl_0_now hc.cl hL0)  hq_5) rfl rfl hl.1 (Nat.le_of_ble_eq_true rfl) ⟨Nat.le_of_ble_eq_true rfl, Nat.le_of_ble_eq_true rfl, Nat.zero_le _, Nat.zero_le _⟩ dX11_reply_21) hd (fun H locs hd => ?_)
  refine lv_aload_n hc.x hc.b dX11_reply_24 rfl (lv_at hl 0 rfl) ?_
  refine fg_0_4 hc hd hL0 tw_357 dX11_reply_25 ?_
  refine lv_iload_n hc.x hc.b dX11_reply_28 rfl (lv_at hl 3 rfl) ?_
  obtain ⟨r_8, hq_7, hf⟩ := on_s hf
  refine k_i (k_runV hc hd my_X4_replyOfA tw_1014 (cl_0_game hc.cl hL0) rfl rfl rfl (c_X4_replyOfA l D cs B0 kt α Lv S_6 0 x3 hc.cl (cl_0_game hc.cl hL0)  hq_7) rfl rfl hl.1 (Nat.le_of_ble_eq_true rfl) ⟨Nat.le_of_ble_eq_true rfl, Nat.le_of_ble_eq_true rfl, Nat.zero_le _, Nat.zero_le _⟩ dX11_reply_29) hd (fun H locs hd => ?_)
  cases hf
  exact r_iret hc hd hr dX11_reply_32
theorem c_X11_reply (l : Launch) (D : va_G) (cs : Nat → ClassId) (B0 : Nat) (kt : (Nat → Nat) × (Nat → Nat)) (α : Nat → Nat → Nat) (Lv : Nat → Nat → Prop) (S : St) (g0 : Nat) (x1 : Int32) (x2 : Int32) (x3 : Int32) (hcl : Cl Lv) (hL0 : Lv 0 g0) {r : Int32} {S1 : St} (hf : f_X11_reply g0 x1 x2 x3 S = some (.inr r, S1)) : Met l yX11_reply (wz yX11_reply cX11_reply 4 (some .int)) (Rm 10 0 0) (Pz D cs B0 kt α Lv S [.ref (α 0 g0), .int x1, .int x2, .int x3]) (Qi D cs B0 α Lv r S1) 0 0 (AB B0) := met_of (by decide) rfl hcl (Nat.le_of_ble_eq_true rfl) (fun p e s m below meth c hc hr hd ls hl => b_X11_reply hc hr XH.r hL0 hf hd hl)
theorem xc_X11_reply (l : Launch) (D : va_G) (cs : Nat → ClassId) (B0 : Nat) (kt : (Nat → Nat) × (Nat → Nat)) (α : Nat → Nat → Nat) (Lv : Nat → Nat → Prop) (S : St) (g0 : Nat) (x1 : Int32) (x2 : Int32) (x3 : Int32) (hcl : Cl Lv) (hL0 : Lv 0 g0) {k : Nat} {S1 : St} (hf : f_X11_reply g0 x1 x2 x3 S = some (.inl k, S1)) (hst : l.stackTraces = false) : vx_Met l yX11_reply (wz yX11_reply cX11_reply 4 (some .int)) (Rm 10 1 6) (Pz D cs B0 kt α Lv S [.ref (α 0 g0), .int x1, .int x2, .int x3]) QF (XQ D cs B0 α Lv k S1) 1 6 (AB B0) := xmet_of (by decide) rfl hcl (Nat.le_of_ble_eq_true rfl) (fun p e s m below meth c hc hr hex hd ls hl => b_X11_reply hc hr (XH.l hst hex) hL0 hf hd hl)
theorem my_X11_reply : MyV yX11_reply "PumpCrossing" cX11_reply 4 (some .int) 3 := ⟨tw_1011, tw_1012, tw_1, tw_1013, by decide +kernel⟩
def f_X11_restore (g0 : Nat) (x1 : Int32) (S : St) : Option ((Nat ⊕ Unit) × St) := xb (τ := Unit) (f_X11_needImage g0 x1 S) (fun _u S_2 => ck (inb x1 3 = true) (oz (gr S_2 1 0 (nn x1)) (some (.inl 1, S_2)) (fun g_5 => ck (inb x1 3 = true) (on (f_X2_copyFrom 0 g_5 S_2) (fun S_9 => some (.inr (), S_9))))))
set_option maxRecDepth 100000 in
set_option maxHeartbeats 4000000 in
theorem b_X11_restore (hc : Cx p s m args meth c cX11_restore 2 "PumpCrossing" D cs B0 kt Lv) (hr : meth.sig.returnType = none)  {o : (Nat ⊕ Unit) × St} (hex : XH l c o) {S : St} {g0 : Nat} {x1 : Int32} (hL0 : Lv 0 g0) {H : Heap} {locs : List Loc} {ls : Array Slot} (hf : f_X11_restore g0 x1 S = some o) (hd : Dy s D cs B0 α Lv S H locs) (hl : lv_has ls 2 [(0, .ref (α 0 g0)), (1, .int x1)]) : W p l e (RX 9 o) s m args below meth c H locs 0 0 (QXv D cs B0 α Lv o below args s) (F0 m 0 ls []) := by
  unfold f_X11_restore at hf
  refine lv_aload_n hc.x hc.b dX11_restore_0 rfl (lv_at hl 0 rfl) ?_
  refine lv_iload_n hc.x hc.b dX11_restore_1 rfl (lv_at hl 1 rfl) ?_
  rcases xb_s hf with ⟨k9, S9, hq_1, rfl⟩ | ⟨_u, S_2, hq_1, hf⟩
  · exact x_go (x_runV hc hd my_X11_needImage tw_1268 hL0 rfl rfl rfl (xc_X11_needImage l D cs B0 kt α Lv S g0 x1 hc.cl hL0  hq_1 hex.1) rfl rfl hl.1 (Nat.le_of_ble_eq_true rfl) ⟨Nat.le_of_ble_eq_true rfl, Nat.le_of_ble_eq_true rfl, Nat.le_of_ble_eq_true rfl, Nat.le_of_ble_eq_true rfl⟩ dX11_restore_2) hd hex.2 hc.lk
  refine k_v (k_runV hc hd my_X11_needImage tw_1268 hL0 rfl rfl rfl (c_X11_needImage l D cs B0 kt α Lv S g0 x1 hc.cl hL0  hq_1) rfl rfl hl.1 (Nat.le_of_ble_eq_true rfl) ⟨Nat.le_of_ble_eq_true rfl, Nat.le_of_ble_eq_true rfl, Nat.zero_le _, Nat.zero_le _⟩ dX11_restore_2) hd (fun H locs hd => ?_)
  refine lv_aload_n hc.x hc.b dX11_restore_5 rfl (lv_at hl 0 rfl) ?_
  refine fg_0_1 hc hd hL0 tw_354 dX11_restore_6 ?_
  refine lv_iload_n hc.x hc.b dX11_restore_9 rfl (lv_at hl 1 rfl) ?_
  obtain ⟨hi_3, hf⟩ := ck_s hf
  refine r_aald hc hd (cl_0_images hc.cl hL0) (t0 := 4) rfl rfl rfl hi_3 dX11_restore_10 ?_
  refine r_ifnonnull (tgt := 25) hc dX11_restore_11 (by decide) (fun c_4 => ?_) (fun g_5 c_4 => ?_)
  · have hf := oz_n c_4 hf
    have hl := lv_sub hl [0, 1] rfl
    cases hf
    exact r_thrw_1 hc hd hl.1 hex.1 hex.2 tw_455 (i := 17) rfl (Nat.le_of_ble_eq_true rfl) (Nat.le_of_ble_eq_true rfl) (Nat.le_of_ble_eq_true rfl) (Nat.le_of_ble_eq_true rfl) dX11_restore_14 dX11_restore_17 dX11_restore_18 dX11_restore_21 dX11_restore_24
  · have hf := oz_s c_4 hf
    have hL_6 := (hd.2.2.2.2.1 _ _ _ (cl_0_images hc.cl hL0) c_4)
    refine lv_aload_n hc.x hc.b dX11_restore_25 rfl (lv_at hl 0 rfl) ?_
    refine fg_0_0 hc hd hL0 tw_353 dX11_restore_26 ?_
    refine lv_aload_n hc.x hc.b dX11_restore_29 rfl (lv_at hl 0 rfl) ?_
    refine fg_0_1 hc hd hL0 tw_354 dX11_restore_30 ?_
    refine lv_iload_n hc.x hc.b dX11_restore_33 rfl (lv_at hl 1 rfl) ?_
    obtain ⟨hi_7, hf⟩ := ck_s hf
    refine r_aald hc hd (cl_0_images hc.cl hL0) (t0 := 4) rfl rfl rfl hi_7 dX11_restore_34 ?_
    show W p l e (RX 9 o) s m args below meth c H locs 0 0 (QXv D cs B0 α Lv o below args s) (F0 m 35 ls [va_rf (Option.map (α 2) (gr S_2 1 0 (nn x1))), .ref (α 2 0)])
    rw [c_4]
    show W p l e (RX 9 o) s m args below meth c H locs 0 0 (QXv D cs B0 α Lv o below args s) (F0 m 35 ls [.ref (α 2 g_5), .ref (α 2 0)])
    obtain ⟨S_9, hq_8, hf⟩ := on_s hf
    refine k_v (k_runV hc hd my_X2_copyFrom tw_1273 (cl_0_now hc.cl hL0) rfl rfl rfl (c_X2_copyFrom l D cs B0 kt α Lv S_2 0 g_5 hc.cl (cl_0_now hc.cl hL0) hL_6  hq_8) rfl rfl hl.1 (Nat.le_of_ble_eq_true rfl) ⟨Nat.le_of_ble_eq_true rfl, Nat.le_of_ble_eq_true rfl, Nat.zero_le _, Nat.zero_le _⟩ dX11_restore_35) hd (fun H locs hd => ?_)
    cases hf
    exact r_vret hc hd hr dX11_restore_38
theorem c_X11_restore (l : Launch) (D : va_G) (cs : Nat → ClassId) (B0 : Nat) (kt : (Nat → Nat) × (Nat → Nat)) (α : Nat → Nat → Nat) (Lv : Nat → Nat → Prop) (S : St) (g0 : Nat) (x1 : Int32) (hcl : Cl Lv) (hL0 : Lv 0 g0) {S1 : St} (hf : f_X11_restore g0 x1 S = some (.inr (), S1)) : Met l yX11_restore (wz yX11_restore cX11_restore 2 none) (Rm 9 0 0) (Pz D cs B0 kt α Lv S [.ref (α 0 g0), .int x1]) (Qv D cs B0 α Lv S1) 0 0 (AB B0) := met_of (by decide) rfl hcl (Nat.le_of_ble_eq_true rfl) (fun p e s m below meth c hc hr hd ls hl => b_X11_restore hc hr XH.r hL0 hf hd hl)
theorem xc_X11_restore (l : Launch) (D : va_G) (cs : Nat → ClassId) (B0 : Nat) (kt : (Nat → Nat) × (Nat → Nat)) (α : Nat → Nat → Nat) (Lv : Nat → Nat → Prop) (S : St) (g0 : Nat) (x1 : Int32) (hcl : Cl Lv) (hL0 : Lv 0 g0) {k : Nat} {S1 : St} (hf : f_X11_restore g0 x1 S = some (.inl k, S1)) (hst : l.stackTraces = false) : vx_Met l yX11_restore (wz yX11_restore cX11_restore 2 none) (Rm 9 1 6) (Pz D cs B0 kt α Lv S [.ref (α 0 g0), .int x1]) QF (XQ D cs B0 α Lv k S1) 1 6 (AB B0) := xmet_of (by decide) rfl hcl (Nat.le_of_ble_eq_true rfl) (fun p e s m below meth c hc hr hex hd ls hl => b_X11_restore hc hr (XH.l hst hex) hL0 hf hd hl)
theorem my_X11_restore : MyV yX11_restore "PumpCrossing" cX11_restore 2 none 1 := ⟨tw_1299, tw_1300, tw_1, tw_1301, by decide +kernel⟩
def f_X11_rise (g0 : Nat) (x1 : Int32) (x2 : Int32) (x3 : Int32) (S : St) : Option ((Nat ⊕ Int32) × St) := xb (τ := Unit) (f_X11_needWithin g0 x1 0 20 S) (fun _u S_2 => bv (fun (v_3 : Int32) (S_4 : St) => bv (fun  (S_6 : St) => bv (fun  (S_8 : St) => on2 (f_X8_addRise 0 x1 x2 v_3 S_8) (fun r_12 S_11 => some (.inr r_12, S_11))) (fun J_9 => br (v_3 = ((-1))) (J_9 S_6) (xb (τ := Unit) (f_X11_needWithin g0 v_3 0 20 S_6) (fun _u S_15 => J_9 S_15)))) (fun J_7 => br (x2 = ((-1))) (J_7 S_4) (xb (τ := Unit) (f_X11_needWithin g0 x2 0 20 S_4) (fun _u S_18 => J_7 S_18)))) (fun J_5 => br (x2 = ((-1))) (J_5 ((-1)) S_2) (J_5 x3 S_2)))
set_option maxRecDepth 100000 in
set_option maxHeartbeats 4000000 in
theorem b_X11_rise (hc : Cx p s m args meth c cX11_rise 5 "PumpCrossing" D cs B0 kt Lv) (hr : meth.sig.returnType = some .int)  {o : (Nat ⊕ Int32) × St} (hex : XH l c o) {S : St} {g0 : Nat} {x1 : Int32} {x2 : Int32} {x3 : Int32} (hL0 : Lv 0 g0) {H : Heap} {locs : List Loc} {ls : Array Slot} (hf : f_X11_rise g0 x1 x2 x3 S = some o) (hd : Dy s D cs B0 α Lv S H locs) (hl : lv_has ls 5 [(0, .ref (α 0 g0)), (1, .int x1), (2, .int x2), (3, .int x3)]) : W p l e (RX 9 o) s m args below meth c H locs 0 0 (QXi D cs B0 α Lv o below args s) (F0 m 0 ls []) := by
  unfold f_X11_rise at hf
  refine lv_aload_n hc.x hc.b dX11_rise_0 rfl (lv_at hl 0 rfl) ?_
  refine lv_iload_n hc.x hc.b dX11_rise_1 rfl (lv_at hl 1 rfl) ?_
  refine lv_iconst (v := 0) hc.x hc.b dX11_rise_2 (by decide) ?_
  refine lv_bipush (v := 20) hc.x hc.b dX11_rise_3 (by decide) ?_
  rcases xb_s hf with ⟨k9, S9, hq_1, rfl⟩ | ⟨_u, S_2, hq_1, hf⟩
  · exact x_go (x_runV hc hd my_X11_needWithin tw_527 hL0 rfl rfl rfl (xc_X11_needWithin l D cs B0 kt α Lv S g0 x1 0 20 hc.cl hL0  hq_1 hex.1) rfl rfl hl.1 (Nat.le_of_ble_eq_true rfl) ⟨Nat.le_of_ble_eq_true rfl, Nat.le_of_ble_eq_true rfl, Nat.le_of_ble_eq_true rfl, Nat.le_of_ble_eq_true rfl⟩ dX11_rise_5) hd hex.2 hc.lk
  refine k_v (k_runV hc hd my_X11_needWithin tw_527 hL0 rfl rfl rfl (c_X11_needWithin l D cs B0 kt α Lv S g0 x1 0 20 hc.cl hL0  hq_1) rfl rfl hl.1 (Nat.le_of_ble_eq_true rfl) ⟨Nat.le_of_ble_eq_true rfl, Nat.le_of_ble_eq_true rfl, Nat.zero_le _, Nat.zero_le _⟩ dX11_rise_5) hd (fun H locs hd => ?_)
  refine lv_iload_n hc.x hc.b dX11_rise_8 rfl (lv_at hl 2 rfl) ?_
  refine lv_iconst (v := (-1)) hc.x hc.b dX11_rise_9 (by decide) ?_
  refine jn_s (P := fun J_5 => ∀ (v_3 : Int32) (S_4 : St) (H : Heap) (locs : List Loc) (ls : Array Slot), J_5 v_3 S_4 = some o → Dy s D cs B0 α Lv S_4 H locs → lv_has ls 5 [(0, .ref (α 0 g0)), (1, .int x1), (2, .int x2)] → W p l e (RX 9 o) s m args below meth c H locs 0 0 (QXi D cs B0 α Lv o below args s) (F0 m 18 ls [.int v_3])) hf ?_ (fun J_5 hJ_5 hf => ?_)
  · intro v_3 S_4 H locs ls hf hd hl
    refine lv_istore (lv' := [(4, .int v_3), (0, .ref (α 0 g0)), (1, .int x1), (2, .int x2)]) hc.x hc.b dX11_rise_18 hl (by decide) rfl (fun ls hl => ?_)
    refine lv_iload_n hc.x hc.b dX11_rise_20 rfl (lv_at hl 3 rfl) ?_
    refine lv_iconst (v := (-1)) hc.x hc.b dX11_rise_21 (by decide) ?_
    refine jn_s (P := fun J_7 => ∀  (S_6 : St) (H : Heap) (locs : List Loc) (ls : Array Slot), J_7 S_6 = some o → Dy s D cs B0 α Lv S_6 H locs → lv_has ls 5 [(0, .ref (α 0 g0)), (1, .int x1), (2, .int x2), (4, .int v_3)] → W p l e (RX 9 o) s m args below meth c H locs 0 0 (QXi D cs B0 α Lv o below args s) (F0 m 33 ls [])) hf ?_ (fun J_7 hJ_7 hf => ?_)
    · intro S_6 H locs ls hf hd hl
      refine lv_iload hc.x hc.b dX11_rise_33 (lv_at hl 3 rfl) ?_
      refine lv_iconst (v := (-1)) hc.x hc.b dX11_rise_35 (by decide) ?_
      refine jn_s (P := fun J_9 => ∀  (S_8 : St) (H : Heap) (locs : List Loc) (ls : Array Slot), J_9 S_8 = some o → Dy s D cs B0 α Lv S_8 H locs → lv_has ls 5 [(0, .ref (α 0 g0)), (1, .int x1), (2, .int x2), (4, .int v_3)] → W p l e (RX 9 o) s m args below meth c H locs 0 0 (QXi D cs B0 α Lv o below args s) (F0 m 48 ls [])) hf ?_ (fun J_9 hJ_9 hf => ?_)
      · intro S_8 H locs ls hf hd hl
        refine lv_aload_n hc.x hc.b dX11_rise_48 rfl (lv_at hl 0 rfl) ?_
        refine fg_0_0 hc hd hL0 tw_353 dX11_rise_49 ?_
        refine fg_2_15 hc hd (cl_0_now hc.cl hL0) tw_170 dX11_rise_52 ?_
        refine lv_iload_n hc.x hc.b dX11_rise_55 rfl (lv_at hl 1 rfl) ?_
        refine lv_iload_n hc.x hc.b dX11_rise_56 rfl (lv_at hl 2 rfl) ?_
        refine lv_iload hc.x hc.b dX11_rise_57 (lv_at hl 3 rfl) ?_
        obtain ⟨r_12, S_11, hq_10, hf⟩ := on2_s hf
        refine k_i (k_runV hc hd my_X8_addRise tw_1179 (cl_2_stories hc.cl (cl_0_now hc.cl hL0)) rfl rfl rfl (c_X8_addRise l D cs B0 kt α Lv S_8 0 x1 x2 v_3 hc.cl (cl_2_stories hc.cl (cl_0_now hc.cl hL0))  hq_10) rfl rfl hl.1 (Nat.le_of_ble_eq_true rfl) ⟨Nat.le_of_ble_eq_true rfl, Nat.le_of_ble_eq_true rfl, Nat.zero_le _, Nat.zero_le _⟩ dX11_rise_59) hd (fun H locs hd => ?_)
        cases hf
        exact r_iret hc hd hr dX11_rise_62
      refine lv_icmp_eq (tgt := 48) hc.x hc.b dX11_rise_36 (by decide) (fun c_13 => ?_) (fun c_13 => ?_)
      · have hf := br_y c_13 hf
        exact hJ_9 S_6 _ _ _ hf hd (lv_sub hl [0, 1, 2, 3] rfl)
      · have hf := br_n c_13 hf
        refine lv_aload_n hc.x hc.b dX11_rise_39 rfl (lv_at hl 0 rfl) ?_
        refine lv_iload hc.x hc.b dX11_rise_40 (lv_at hl 3 rfl) ?_
        refine lv_iconst (v := 0) hc.x hc.b dX11_rise_42 (by decide) ?_
        refine lv_bipush (v := 20) hc.x hc.b dX11_rise_43 (by decide) ?_
        rcases xb_s hf with ⟨k9, S9, hq_14, rfl⟩ | ⟨_u, S_15, hq_14, hf⟩
        · exact x_go (x_runV hc hd my_X11_needWithin tw_527 hL0 rfl rfl rfl (xc_X11_needWithin l D cs B0 kt α Lv S_6 g0 v_3 0 20 hc.cl hL0  hq_14 hex.1) rfl rfl hl.1 (Nat.le_of_ble_eq_true rfl) ⟨Nat.le_of_ble_eq_true rfl, Nat.le_of_ble_eq_true rfl, Nat.le_of_ble_eq_true rfl, Nat.le_of_ble_eq_true rfl⟩ dX11_rise_45) hd hex.2 hc.lk
        refine k_v (k_runV hc hd my_X11_needWithin tw_527 hL0 rfl rfl rfl (c_X11_needWithin l D cs B0 kt α Lv S_6 g0 v_3 0 20 hc.cl hL0  hq_14) rfl rfl hl.1 (Nat.le_of_ble_eq_true rfl) ⟨Nat.le_of_ble_eq_true rfl, Nat.le_of_ble_eq_true rfl, Nat.zero_le _, Nat.zero_le _⟩ dX11_rise_45) hd (fun H locs hd => ?_)
        exact hJ_9 S_15 _ _ _ hf hd (lv_sub hl [0, 1, 2, 3] rfl)
    refine lv_icmp_eq (tgt := 33) hc.x hc.b dX11_rise_22 (by decide) (fun c_16 => ?_) (fun c_16 => ?_)
    · have hf := br_y c_16 hf
      exact hJ_7 S_4 _ _ _ hf hd (lv_sub hl [1, 2, 3, 0] rfl)
    · have hf := br_n c_16 hf
      refine lv_aload_n hc.x hc.b dX11_rise_25 rfl (lv_at hl 1 rfl) ?_
      refine lv_iload_n hc.x hc.b dX11_rise_26 rfl (lv_at hl 3 rfl) ?_
      refine lv_iconst (v := 0) hc.x hc.b dX11_rise_27 (by decide) ?_
      refine lv_bipush (v := 20) hc.x hc.b dX11_rise_28 (by decide) ?_
      rcases xb_s hf with ⟨k9, S9, hq_17, rfl⟩ | ⟨_u, S_18, hq_17, hf⟩
      · exact x_go (x_runV hc hd my_X11_needWithin tw_527 hL0 rfl rfl rfl (xc_X11_needWithin l D cs B0 kt α Lv S_4 g0 x2 0 20 hc.cl hL0  hq_17 hex.1) rfl rfl hl.1 (Nat.le_of_ble_eq_true rfl) ⟨Nat.le_of_ble_eq_true rfl, Nat.le_of_ble_eq_true rfl, Nat.le_of_ble_eq_true rfl, Nat.le_of_ble_eq_true rfl⟩ dX11_rise_30) hd hex.2 hc.lk
      refine k_v (k_runV hc hd my_X11_needWithin tw_527 hL0 rfl rfl rfl (c_X11_needWithin l D cs B0 kt α Lv S_4 g0 x2 0 20 hc.cl hL0  hq_17) rfl rfl hl.1 (Nat.le_of_ble_eq_true rfl) ⟨Nat.le_of_ble_eq_true rfl, Nat.le_of_ble_eq_true rfl, Nat.zero_le _, Nat.zero_le _⟩ dX11_rise_30) hd (fun H locs hd => ?_)
      exact hJ_7 S_18 _ _ _ hf hd (lv_sub hl [1, 2, 3, 0] rfl)
  refine lv_icmp_ne (tgt := 17) hc.x hc.b dX11_rise_10 (by decide) (fun c_19 => ?_) (fun c_19 => ?_)
  · have hf := br_n c_19 hf
    refine lv_iload_n hc.x hc.b dX11_rise_17 rfl (lv_at hl 3 rfl) ?_
    exact hJ_5 x3 S_2 _ _ _ hf hd (lv_sub hl [0, 1, 2] rfl)
  · have hf := br_y c_19 hf
    refine lv_iconst (v := (-1)) hc.x hc.b dX11_rise_13 (by decide) ?_
    refine lv_goto (tgt := 18) hc.x hc.b dX11_rise_14 (by decide) ?_
    exact hJ_5 ((-1)) S_2 _ _ _ hf hd (lv_sub hl [0, 1, 2] rfl)
theorem c_X11_rise (l : Launch) (D : va_G) (cs : Nat → ClassId) (B0 : Nat) (kt : (Nat → Nat) × (Nat → Nat)) (α : Nat → Nat → Nat) (Lv : Nat → Nat → Prop) (S : St) (g0 : Nat) (x1 : Int32) (x2 : Int32) (x3 : Int32) (hcl : Cl Lv) (hL0 : Lv 0 g0) {r : Int32} {S1 : St} (hf : f_X11_rise g0 x1 x2 x3 S = some (.inr r, S1)) : Met l yX11_rise (wz yX11_rise cX11_rise 5 (some .int)) (Rm 9 0 0) (Pz D cs B0 kt α Lv S [.ref (α 0 g0), .int x1, .int x2, .int x3]) (Qi D cs B0 α Lv r S1) 0 0 (AB B0) := met_of (by decide) rfl hcl (Nat.le_of_ble_eq_true rfl) (fun p e s m below meth c hc hr hd ls hl => b_X11_rise hc hr XH.r hL0 hf hd hl)
theorem xc_X11_rise (l : Launch) (D : va_G) (cs : Nat → ClassId) (B0 : Nat) (kt : (Nat → Nat) × (Nat → Nat)) (α : Nat → Nat → Nat) (Lv : Nat → Nat → Prop) (S : St) (g0 : Nat) (x1 : Int32) (x2 : Int32) (x3 : Int32) (hcl : Cl Lv) (hL0 : Lv 0 g0) {k : Nat} {S1 : St} (hf : f_X11_rise g0 x1 x2 x3 S = some (.inl k, S1)) (hst : l.stackTraces = false) : vx_Met l yX11_rise (wz yX11_rise cX11_rise 5 (some .int)) (Rm 9 1 6) (Pz D cs B0 kt α Lv S [.ref (α 0 g0), .int x1, .int x2, .int x3]) QF (XQ D cs B0 α Lv k S1) 1 6 (AB B0) := xmet_of (by decide) rfl hcl (Nat.le_of_ble_eq_true rfl) (fun p e s m below meth c hc hr hex hd ls hl => b_X11_rise hc hr (XH.l hst hex) hL0 hf hd hl)
theorem my_X11_rise : MyV yX11_rise "PumpCrossing" cX11_rise 5 (some .int) 3 := ⟨tw_1176, tw_1177, tw_1, tw_1178, by decide +kernel⟩
def f_X11_round (g0 : Nat) (S : St) : Option (Int32) := on (f_X0_leastRound (2 * 0) (gi S 2 0 0) S) (fun r_2 => some r_2)
set_option maxRecDepth 100000 in
set_option maxHeartbeats 4000000 in
theorem b_X11_round (hc : Cx p s m args meth c cX11_round 1 "PumpCrossing" D cs B0 kt Lv) (hr : meth.sig.returnType = some .int)  {o : Int32}  {S : St} {g0 : Nat} (hL0 : Lv 0 g0) {H : Heap} {locs : List Loc} {ls : Array Slot} (hf : f_X11_round g0 S = some o) (hd : Dy s D cs B0 α Lv S H locs) (hl : lv_has ls 1 [(0, .ref (α 0 g0))]) : W p l e (Rm 4 0 0) s m args below meth c H locs 0 0 (MQ below (Qi D cs B0 α Lv o S) args s 0 0 (AB B0)) (F0 m 0 ls []) := by
  unfold f_X11_round at hf
  refine lv_aload_n hc.x hc.b dX11_round_0 rfl (lv_at hl 0 rfl) ?_
  refine fg_0_0 hc hd hL0 tw_353 dX11_round_1 ?_
  refine fg_2_10 hc hd (cl_0_now hc.cl hL0) tw_158 dX11_round_4 ?_
  refine lv_aload_n hc.x hc.b dX11_round_7 rfl (lv_at hl 0 rfl) ?_
  refine fg_0_0 hc hd hL0 tw_353 dX11_round_8 ?_
  refine fg_2_0 hc hd (cl_0_now hc.cl hL0) tw_136 dX11_round_11 ?_
  obtain ⟨r_2, hq_1, hf⟩ := on_s hf
  refine k_i (k_runV hc hd my_X0_leastRound tw_398 (cl_2_hours hc.cl (cl_0_now hc.cl hL0)) rfl rfl rfl (c_X0_leastRound l D cs B0 kt α Lv S (2 * 0) (gi S 2 0 0) hc.cl (cl_2_hours hc.cl (cl_0_now hc.cl hL0))  hq_1) rfl rfl hl.1 (Nat.le_of_ble_eq_true rfl) ⟨Nat.le_of_ble_eq_true rfl, Nat.le_of_ble_eq_true rfl, Nat.zero_le _, Nat.zero_le _⟩ dX11_round_14) hd (fun H locs hd => ?_)
  cases hf
  exact r_iret hc hd hr dX11_round_17
theorem c_X11_round (l : Launch) (D : va_G) (cs : Nat → ClassId) (B0 : Nat) (kt : (Nat → Nat) × (Nat → Nat)) (α : Nat → Nat → Nat) (Lv : Nat → Nat → Prop) (S : St) (g0 : Nat) (hcl : Cl Lv) (hL0 : Lv 0 g0) {o : Int32} (hf : f_X11_round g0 S = some o) : Met l yX11_round (wz yX11_round cX11_round 1 (some .int)) (Rm 4 0 0) (Pz D cs B0 kt α Lv S [.ref (α 0 g0)]) (Qi D cs B0 α Lv o S) 0 0 (AB B0) := met_of (by decide) rfl hcl (Nat.le_of_ble_eq_true rfl) (fun p e s m below meth c hc hr hd ls hl => b_X11_round hc hr hL0 hf hd hl)
theorem my_X11_round : MyV yX11_round "PumpCrossing" cX11_round 1 (some .int) 0 := ⟨tw_395, tw_396, tw_1, tw_397, by decide +kernel⟩
def f_X11_run_30 (g0 : Nat) (x2 : Int32) (K : St → Option ((Nat ⊕ Int32) × St)) : Nat → Int32 → St → Option ((Nat ⊕ Int32) × St)
  | 0, _, _ => none
  | n + 1, x3, S => br (x2 ≤ x3) (K S) (on (f_X2_runHour 0 S) (fun S_6 => bv (x3 + 1) (fun x3_7 => f_X11_run_30 g0 x2 K n x3_7 S_6)))
def f_X11_run (g0 : Nat) (x1 : Int32) (S : St) : Option ((Nat ⊕ Int32) × St) := xb (τ := Unit) (f_X11_needWithin g0 x1 0 300 S) (fun _u S_2 => bv (mnI x1 (3000 - (gi S_2 14 (2 * 0) 3))) (fun q_3 => f_X11_run_30 g0 q_3 (fun  (S_8 : St) => some (.inr q_3, S_8)) FU 0 S_2))
set_option maxRecDepth 100000 in
set_option maxHeartbeats 4000000 in
theorem w_X11_run_30 (hc : Cx p s m args meth c cX11_run 4 "PumpCrossing" D cs B0 kt Lv) (hr : meth.sig.returnType = some .int) {o : (Nat ⊕ Int32) × St} (hex : XH l c o) {g0 : Nat} {x2 : Int32} {K : St → Option ((Nat ⊕ Int32) × St)} (hL0 : Lv 0 g0) (hK : ∀  (S : St) (H : Heap) (locs : List Loc) (ls : Array Slot), K S = some o → Dy s D cs B0 α Lv S H locs → lv_has ls 4 [(2, .int x2)] → W p l e (RX 9 o) s m args below meth c H locs 0 0 (QXi D cs B0 α Lv o below args s) (F0 m 48 ls [])) : ∀ (n : Nat) (x3 : Int32) (S : St) (H : Heap) (locs : List Loc) (ls : Array Slot), f_X11_run_30 g0 x2 K n x3 S = some o → Dy s D cs B0 α Lv S H locs → lv_has ls 4 [(0, .ref (α 0 g0)), (2, .int x2), (3, .int x3)] → W p l e (RX 9 o) s m args below meth c H locs 0 0 (QXi D cs B0 α Lv o below args s) (F0 m 30 ls []) := by
  intro n
  induction n with
  | zero =>
    intro x3 S H locs ls hf
    rw [f_X11_run_30] at hf
    cases hf
  | succ n ih =>
    intro x3 S H locs ls hf hd hl
    rw [f_X11_run_30] at hf
    refine lv_iload_n hc.x hc.b dX11_run_30 rfl (lv_at hl 2 rfl) ?_
    refine lv_iload_n hc.x hc.b dX11_run_31 rfl (lv_at hl 1 rfl) ?_
    refine lv_icmp_ge (tgt := 48) hc.x hc.b dX11_run_32 (by decide) (fun c_4 => ?_) (fun c_4 => ?_)
    · have hf := br_y c_4 hf
      exact hK S _ _ _ hf hd (lv_sub hl [1] rfl)
    · have hf := br_n c_4 hf
      refine lv_aload_n hc.x hc.b dX11_run_35 rfl (lv_at hl 0 rfl) ?_
      refine fg_0_0 hc hd hL0 tw_353 dX11_run_36 ?_
      obtain ⟨S_6, hq_5, hf⟩ := on_s hf
      refine k_v (k_runV hc hd my_X2_runHour tw_769 (cl_0_now hc.cl hL0) rfl rfl rfl (c_X2_runHour l D cs B0 kt α Lv S 0 hc.cl (cl_0_now hc.cl hL0)  hq_5) rfl rfl hl.1 (Nat.le_of_ble_eq_true rfl) ⟨Nat.le_of_ble_eq_true rfl, Nat.le_of_ble_eq_true rfl, Nat.zero_le _, Nat.zero_le _⟩ dX11_run_39) hd (fun H locs hd => ?_)
      obtain ⟨x3_7, ex3_7⟩ : ∃ z : Int32, z = x3 + 1 := ⟨_, rfl⟩
      have hf := bv_n ex3_7 hf
      refine lv_iinc (v := x3_7) (lv' := [(3, .int x3_7), (0, .ref (α 0 g0)), (2, .int x2)]) hc.x hc.b dX11_run_42 hl (k := 2) rfl (by rw [ex3_7]; rfl) (by decide) rfl (fun ls hl => ?_)
      refine lv_goto (tgt := 30) hc.x hc.b dX11_run_45 (by decide) ?_
      exact ih x3_7 S_6 _ _ _ hf hd (lv_sub hl [1, 2, 0] rfl)
set_option maxRecDepth 100000 in
set_option maxHeartbeats 4000000 in
theorem b_X11_run (hc : Cx p s m args meth c cX11_run 4 "PumpCrossing" D cs B0 kt Lv) (hr : meth.sig.returnType = some .int)  {o : (Nat ⊕ Int32) × St} (hex : XH l c o) {S : St} {g0 : Nat} {x1 : Int32} (hL0 : Lv 0 g0) {H : Heap} {locs : List Loc} {ls : Array Slot} (hf : f_X11_run g0 x1 S = some o) (hd : Dy s D cs B0 α Lv S H locs) (hl : lv_has ls 4 [(0, .ref (α 0 g0)), (1, .int x1)]) : W p l e (RX 9 o) s m args below meth c H locs 0 0 (QXi D cs B0 α Lv o below args s) (F0 m 0 ls []) := by
  unfold f_X11_run at hf
  refine lv_aload_n hc.x hc.b dX11_run_0 rfl (lv_at hl 0 rfl) ?_
  refine lv_iload_n hc.x hc.b dX11_run_1 rfl (lv_at hl 1 rfl) ?_
  refine lv_iconst (v := 0) hc.x hc.b dX11_run_2 (by decide) ?_
  refine lv_sipush (v := 300) hc.x hc.b dX11_run_3 (by decide) ?_
  rcases xb_s hf with ⟨k9, S9, hq_1, rfl⟩ | ⟨_u, S_2, hq_1, hf⟩
  · exact x_go (x_runV hc hd my_X11_needWithin tw_527 hL0 rfl rfl rfl (xc_X11_needWithin l D cs B0 kt α Lv S g0 x1 0 300 hc.cl hL0  hq_1 hex.1) rfl rfl hl.1 (Nat.le_of_ble_eq_true rfl) ⟨Nat.le_of_ble_eq_true rfl, Nat.le_of_ble_eq_true rfl, Nat.le_of_ble_eq_true rfl, Nat.le_of_ble_eq_true rfl⟩ dX11_run_6) hd hex.2 hc.lk
  refine k_v (k_runV hc hd my_X11_needWithin tw_527 hL0 rfl rfl rfl (c_X11_needWithin l D cs B0 kt α Lv S g0 x1 0 300 hc.cl hL0  hq_1) rfl rfl hl.1 (Nat.le_of_ble_eq_true rfl) ⟨Nat.le_of_ble_eq_true rfl, Nat.le_of_ble_eq_true rfl, Nat.zero_le _, Nat.zero_le _⟩ dX11_run_6) hd (fun H locs hd => ?_)
  refine lv_iload_n hc.x hc.b dX11_run_9 rfl (lv_at hl 1 rfl) ?_
  refine lv_sipush (v := 3000) hc.x hc.b dX11_run_10 (by decide) ?_
  refine lv_aload_n hc.x hc.b dX11_run_13 rfl (lv_at hl 0 rfl) ?_
  refine fg_0_0 hc hd hL0 tw_353 dX11_run_14 ?_
  refine fg_2_10 hc hd (cl_0_now hc.cl hL0) tw_158 dX11_run_17 ?_
  refine fg_14_3 hc hd (cl_2_hours hc.cl (cl_0_now hc.cl hL0)) tw_81 dX11_run_20 ?_
  refine lv_isub hc.x hc.b dX11_run_23 ?_
  refine r_min hc hl.1 tw_768 (Nat.le_of_ble_eq_true rfl) (Nat.le_of_ble_eq_true rfl) (Nat.zero_le _) (Nat.zero_le _) dX11_run_24 ?_
  refine lv_topi (fun q_3 eq_3 => ?_)
  have hf := bv_n eq_3 hf
  refine lv_istore_n (lv' := [(2, .int q_3), (0, .ref (α 0 g0)), (1, .int x1)]) hc.x hc.b dX11_run_27 rfl hl (by decide) rfl (fun ls hl => ?_)
  refine lv_iconst (v := 0) hc.x hc.b dX11_run_28 (by decide) ?_
  refine lv_istore_n (lv' := [(3, .int 0), (2, .int q_3), (0, .ref (α 0 g0)), (1, .int x1)]) hc.x hc.b dX11_run_29 rfl hl (by decide) rfl (fun ls hl => ?_)
  refine w_X11_run_30 hc hr hex hL0 ?_ _ _ _ _ _ _ hf hd (lv_sub hl [2, 1, 0] rfl)
  intro S_8 H locs ls hf hd hl
  refine lv_iload_n hc.x hc.b dX11_run_48 rfl (lv_at hl 0 rfl) ?_
  cases hf
  exact r_iret hc hd hr dX11_run_49
theorem c_X11_run (l : Launch) (D : va_G) (cs : Nat → ClassId) (B0 : Nat) (kt : (Nat → Nat) × (Nat → Nat)) (α : Nat → Nat → Nat) (Lv : Nat → Nat → Prop) (S : St) (g0 : Nat) (x1 : Int32) (hcl : Cl Lv) (hL0 : Lv 0 g0) {r : Int32} {S1 : St} (hf : f_X11_run g0 x1 S = some (.inr r, S1)) : Met l yX11_run (wz yX11_run cX11_run 4 (some .int)) (Rm 9 0 0) (Pz D cs B0 kt α Lv S [.ref (α 0 g0), .int x1]) (Qi D cs B0 α Lv r S1) 0 0 (AB B0) := met_of (by decide) rfl hcl (Nat.le_of_ble_eq_true rfl) (fun p e s m below meth c hc hr hd ls hl => b_X11_run hc hr XH.r hL0 hf hd hl)
theorem xc_X11_run (l : Launch) (D : va_G) (cs : Nat → ClassId) (B0 : Nat) (kt : (Nat → Nat) × (Nat → Nat)) (α : Nat → Nat → Nat) (Lv : Nat → Nat → Prop) (S : St) (g0 : Nat) (x1 : Int32) (hcl : Cl Lv) (hL0 : Lv 0 g0) {k : Nat} {S1 : St} (hf : f_X11_run g0 x1 S = some (.inl k, S1)) (hst : l.stackTraces = false) : vx_Met l yX11_run (wz yX11_run cX11_run 4 (some .int)) (Rm 9 1 6) (Pz D cs B0 kt α Lv S [.ref (α 0 g0), .int x1]) QF (XQ D cs B0 α Lv k S1) 1 6 (AB B0) := xmet_of (by decide) rfl hcl (Nat.le_of_ble_eq_true rfl) (fun p e s m below meth c hc hr hex hd ls hl => b_X11_run hc hr (XH.l hst hex) hL0 hf hd hl)
theorem my_X11_run : MyV yX11_run "PumpCrossing" cX11_run 4 (some .int) 1 := ⟨tw_765, tw_766, tw_1, tw_767, by decide +kernel⟩
def f_X11_station (g0 : Nat) (x1 : Int32) (x2 : Int32) (x3 : Int32) (S : St) : Option ((Nat ⊕ Int32) × St) := bv (fun  (S_1 : St) => some (.inl 1, S_1)) (fun J_2 => br (0 < (gi S 14 (2 * 0) 3)) (J_2 S) (br ((gi S 14 (2 * 0 + 1) 3) ≤ 0) (xb (τ := Unit) (f_X11_needPrice g0 x1 S) (fun _u S_6 => xb (τ := Unit) (f_X11_needPrice g0 x2 S_6) (fun _u S_8 => xb (τ := Unit) (f_X11_needWithin g0 x3 0 3 S_8) (fun _u S_10 => on2 (f_X2_addStation 0 x1 x2 x3 S_10) (fun r_13 S_12 => some (.inr r_13, S_12)))))) (J_2 S)))
set_option maxRecDepth 100000 in
set_option maxHeartbeats 4000000 in
theorem b_X11_station (hc : Cx p s m args meth c cX11_station 4 "PumpCrossing" D cs B0 kt Lv) (hr : meth.sig.returnType = some .int)  {o : (Nat ⊕ Int32) × St} (hex : XH l c o) {S : St} {g0 : Nat} {x1 : Int32} {x2 : Int32} {x3 : Int32} (hL0 : Lv 0 g0) {H : Heap} {locs : List Loc} {ls : Array Slot} (hf : f_X11_station g0 x1 x2 x3 S = some o) (hd : Dy s D cs B0 α Lv S H locs) (hl : lv_has ls 4 [(0, .ref (α 0 g0)), (1, .int x1), (2, .int x2), (3, .int x3)]) : W p l e (RX 10 o) s m args below meth c H locs 0 0 (QXi D cs B0 α Lv o below args s) (F0 m 0 ls []) := by
  unfold f_X11_station at hf
  refine lv_aload_n hc.x hc.b dX11_station_0 rfl (lv_at hl 0 rfl) ?_
  refine fg_0_0 hc hd hL0 tw_353 dX11_station_1 ?_
  refine fg_2_10 hc hd (cl_0_now hc.cl hL0) tw_158 dX11_station_4 ?_
  refine fg_14_3 hc hd (cl_2_hours hc.cl (cl_0_now hc.cl hL0)) tw_81 dX11_station_7 ?_
  refine jn_s (P := fun J_2 => ∀  (S_1 : St) (H : Heap) (locs : List Loc) (ls : Array Slot), J_2 S_1 = some o → Dy s D cs B0 α Lv S_1 H locs → lv_has ls 4 [] → W p l e (RX 10 o) s m args below meth c H locs 0 0 (QXi D cs B0 α Lv o below args s) (F0 m 26 ls [])) hf ?_ (fun J_2 hJ_2 hf => ?_)
  · intro S_1 H locs ls hf hd hl
    cases hf
    exact r_thr_1 hc hd hl.1 hex.1 hex.2 tw_455 (i := 0) rfl (Nat.le_of_ble_eq_true rfl) (Nat.le_of_ble_eq_true rfl) (Nat.le_of_ble_eq_true rfl) (Nat.le_of_ble_eq_true rfl) dX11_station_26 dX11_station_29 dX11_station_30 dX11_station_32 dX11_station_35
  refine lv_if_gt (tgt := 26) hc.x hc.b dX11_station_10 (by decide) (fun c_3 => ?_) (fun c_3 => ?_)
  · have hf := br_y c_3 hf
    exact hJ_2 S _ _ _ hf hd (lv_sub hl [] rfl)
  · have hf := br_n c_3 hf
    refine lv_aload_n hc.x hc.b dX11_station_13 rfl (lv_at hl 0 rfl) ?_
    refine fg_0_0 hc hd hL0 tw_353 dX11_station_14 ?_
    refine fg_2_11 hc hd (cl_0_now hc.cl hL0) tw_160 dX11_station_17 ?_
    refine fg_14_3 hc hd (cl_2_told hc.cl (cl_0_now hc.cl hL0)) tw_81 dX11_station_20 ?_
    refine lv_if_le (tgt := 36) hc.x hc.b dX11_station_23 (by decide) (fun c_4 => ?_) (fun c_4 => ?_)
    · have hf := br_y c_4 hf
      refine lv_aload_n hc.x hc.b dX11_station_36 rfl (lv_at hl 0 rfl) ?_
      refine lv_iload_n hc.x hc.b dX11_station_37 rfl (lv_at hl 1 rfl) ?_
      rcases xb_s hf with ⟨k9, S9, hq_5, rfl⟩ | ⟨_u, S_6, hq_5, hf⟩
      · exact x_go (x_runV hc hd my_X11_needPrice tw_523 hL0 rfl rfl rfl (xc_X11_needPrice l D cs B0 kt α Lv S g0 x1 hc.cl hL0  hq_5 hex.1) rfl rfl hl.1 (Nat.le_of_ble_eq_true rfl) ⟨Nat.le_of_ble_eq_true rfl, Nat.le_of_ble_eq_true rfl, Nat.le_of_ble_eq_true rfl, Nat.le_of_ble_eq_true rfl⟩ dX11_station_38) hd hex.2 hc.lk
      refine k_v (k_runV hc hd my_X11_needPrice tw_523 hL0 rfl rfl rfl (c_X11_needPrice l D cs B0 kt α Lv S g0 x1 hc.cl hL0  hq_5) rfl rfl hl.1 (Nat.le_of_ble_eq_true rfl) ⟨Nat.le_of_ble_eq_true rfl, Nat.le_of_ble_eq_true rfl, Nat.zero_le _, Nat.zero_le _⟩ dX11_station_38) hd (fun H locs hd => ?_)
      refine lv_aload_n hc.x hc.b dX11_station_41 rfl (lv_at hl 0 rfl) ?_
      refine lv_iload_n hc.x hc.b dX11_station_42 rfl (lv_at hl 2 rfl) ?_
      rcases xb_s hf with ⟨k9, S9, hq_7, rfl⟩ | ⟨_u, S_8, hq_7, hf⟩
      · exact x_go (x_runV hc hd my_X11_needPrice tw_523 hL0 rfl rfl rfl (xc_X11_needPrice l D cs B0 kt α Lv S_6 g0 x2 hc.cl hL0  hq_7 hex.1) rfl rfl hl.1 (Nat.le_of_ble_eq_true rfl) ⟨Nat.le_of_ble_eq_true rfl, Nat.le_of_ble_eq_true rfl, Nat.le_of_ble_eq_true rfl, Nat.le_of_ble_eq_true rfl⟩ dX11_station_43) hd hex.2 hc.lk
      refine k_v (k_runV hc hd my_X11_needPrice tw_523 hL0 rfl rfl rfl (c_X11_needPrice l D cs B0 kt α Lv S_6 g0 x2 hc.cl hL0  hq_7) rfl rfl hl.1 (Nat.le_of_ble_eq_true rfl) ⟨Nat.le_of_ble_eq_true rfl, Nat.le_of_ble_eq_true rfl, Nat.zero_le _, Nat.zero_le _⟩ dX11_station_43) hd (fun H locs hd => ?_)
      refine lv_aload_n hc.x hc.b dX11_station_46 rfl (lv_at hl 0 rfl) ?_
      refine lv_iload_n hc.x hc.b dX11_station_47 rfl (lv_at hl 3 rfl) ?_
      refine lv_iconst (v := 0) hc.x hc.b dX11_station_48 (by decide) ?_
      refine lv_iconst (v := 3) hc.x hc.b dX11_station_49 (by decide) ?_
      rcases xb_s hf with ⟨k9, S9, hq_9, rfl⟩ | ⟨_u, S_10, hq_9, hf⟩
      · exact x_go (x_runV hc hd my_X11_needWithin tw_527 hL0 rfl rfl rfl (xc_X11_needWithin l D cs B0 kt α Lv S_8 g0 x3 0 3 hc.cl hL0  hq_9 hex.1) rfl rfl hl.1 (Nat.le_of_ble_eq_true rfl) ⟨Nat.le_of_ble_eq_true rfl, Nat.le_of_ble_eq_true rfl, Nat.le_of_ble_eq_true rfl, Nat.le_of_ble_eq_true rfl⟩ dX11_station_50) hd hex.2 hc.lk
      refine k_v (k_runV hc hd my_X11_needWithin tw_527 hL0 rfl rfl rfl (c_X11_needWithin l D cs B0 kt α Lv S_8 g0 x3 0 3 hc.cl hL0  hq_9) rfl rfl hl.1 (Nat.le_of_ble_eq_true rfl) ⟨Nat.le_of_ble_eq_true rfl, Nat.le_of_ble_eq_true rfl, Nat.zero_le _, Nat.zero_le _⟩ dX11_station_50) hd (fun H locs hd => ?_)
      refine lv_aload_n hc.x hc.b dX11_station_53 rfl (lv_at hl 0 rfl) ?_
      refine fg_0_0 hc hd hL0 tw_353 dX11_station_54 ?_
      refine lv_iload_n hc.x hc.b dX11_station_57 rfl (lv_at hl 1 rfl) ?_
      refine lv_iload_n hc.x hc.b dX11_station_58 rfl (lv_at hl 2 rfl) ?_
      refine lv_iload_n hc.x hc.b dX11_station_59 rfl (lv_at hl 3 rfl) ?_
      obtain ⟨r_13, S_12, hq_11, hf⟩ := on2_s hf
      refine k_i (k_runV hc hd my_X2_addStation tw_547 (cl_0_now hc.cl hL0) rfl rfl rfl (c_X2_addStation l D cs B0 kt α Lv S_10 0 x1 x2 x3 hc.cl (cl_0_now hc.cl hL0)  hq_11) rfl rfl hl.1 (Nat.le_of_ble_eq_true rfl) ⟨Nat.le_of_ble_eq_true rfl, Nat.le_of_ble_eq_true rfl, Nat.zero_le _, Nat.zero_le _⟩ dX11_station_60) hd (fun H locs hd => ?_)
      cases hf
      exact r_iret hc hd hr dX11_station_63
    · have hf := br_n c_4 hf
      exact hJ_2 S _ _ _ hf hd (lv_sub hl [] rfl)
theorem c_X11_station (l : Launch) (D : va_G) (cs : Nat → ClassId) (B0 : Nat) (kt : (Nat → Nat) × (Nat → Nat)) (α : Nat → Nat → Nat) (Lv : Nat → Nat → Prop) (S : St) (g0 : Nat) (x1 : Int32) (x2 : Int32) (x3 : Int32) (hcl : Cl Lv) (hL0 : Lv 0 g0) {r : Int32} {S1 : St} (hf : f_X11_station g0 x1 x2 x3 S = some (.inr r, S1)) : Met l yX11_station (wz yX11_station cX11_station 4 (some .int)) (Rm 10 0 0) (Pz D cs B0 kt α Lv S [.ref (α 0 g0), .int x1, .int x2, .int x3]) (Qi D cs B0 α Lv r S1) 0 0 (AB B0) := met_of (by decide) rfl hcl (Nat.le_of_ble_eq_true rfl) (fun p e s m below meth c hc hr hd ls hl => b_X11_station hc hr XH.r hL0 hf hd hl)
theorem xc_X11_station (l : Launch) (D : va_G) (cs : Nat → ClassId) (B0 : Nat) (kt : (Nat → Nat) × (Nat → Nat)) (α : Nat → Nat → Nat) (Lv : Nat → Nat → Prop) (S : St) (g0 : Nat) (x1 : Int32) (x2 : Int32) (x3 : Int32) (hcl : Cl Lv) (hL0 : Lv 0 g0) {k : Nat} {S1 : St} (hf : f_X11_station g0 x1 x2 x3 S = some (.inl k, S1)) (hst : l.stackTraces = false) : vx_Met l yX11_station (wz yX11_station cX11_station 4 (some .int)) (Rm 10 1 6) (Pz D cs B0 kt α Lv S [.ref (α 0 g0), .int x1, .int x2, .int x3]) QF (XQ D cs B0 α Lv k S1) 1 6 (AB B0) := xmet_of (by decide) rfl hcl (Nat.le_of_ble_eq_true rfl) (fun p e s m below meth c hc hr hex hd ls hl => b_X11_station hc hr (XH.l hst hex) hL0 hf hd hl)
theorem my_X11_station : MyV yX11_station "PumpCrossing" cX11_station 4 (some .int) 3 := ⟨tw_452, tw_453, tw_1, tw_454, by decide +kernel⟩
def f_X11_story (g0 : Nat) (x1 : Int32) (x2 : Int32) (S : St) : Option ((Nat ⊕ Int32) × St) := bv (fun  (S_1 : St) => some (.inl 3, S_1)) (fun J_2 => br (x1 < 0) (J_2 S) (br (x1 < 2) (xb (τ := Unit) (f_X11_needTray g0 x2 S) (fun _u S_6 => xb (τ := Unit) (f_X11_needFilledTray g0 x2 S_6) (fun _u S_8 => ck (inb x2 4 = true) (bv (fun  (S_10 : St) => some (.inr 0, S_10)) (fun J_11 => br ((gi S_8 51 0 (nn x2)) = 21) (on (f_X10_allWithin 0 x2 9 S_8) (fun r_14 => br (r_14 = 0) (J_11 S_8) (ck (inb x2 4 = true) (on (f_X8_setWeights 0 x1 ((nn x2)) S_8) (fun S_18 => some (.inr 1, S_18)))))) (J_11 S_8)))))) (J_2 S)))
set_option maxRecDepth 100000 in
set_option maxHeartbeats 4000000 in
theorem b_X11_story (hc : Cx p s m args meth c cX11_story 3 "PumpCrossing" D cs B0 kt Lv) (hr : meth.sig.returnType = some .boolean)  {o : (Nat ⊕ Int32) × St} (hex : XH l c o) {S : St} {g0 : Nat} {x1 : Int32} {x2 : Int32} (hL0 : Lv 0 g0) {H : Heap} {locs : List Loc} {ls : Array Slot} (hf : f_X11_story g0 x1 x2 S = some o) (hd : Dy s D cs B0 α Lv S H locs) (hl : lv_has ls 3 [(0, .ref (α 0 g0)), (1, .int x1), (2, .int x2)]) : W p l e (RX 9 o) s m args below meth c H locs 0 0 (QXi D cs B0 α Lv o below args s) (F0 m 0 ls []) := by
  unfold f_X11_story at hf
  refine lv_iload_n hc.x hc.b dX11_story_0 rfl (lv_at hl 1 rfl) ?_
  refine jn_s (P := fun J_2 => ∀  (S_1 : St) (H : Heap) (locs : List Loc) (ls : Array Slot), J_2 S_1 = some o → Dy s D cs B0 α Lv S_1 H locs → lv_has ls 3 [] → W p l e (RX 9 o) s m args below meth c H locs 0 0 (QXi D cs B0 α Lv o below args s) (F0 m 9 ls [])) hf ?_ (fun J_2 hJ_2 hf => ?_)
  · intro S_1 H locs ls hf hd hl
    cases hf
    exact r_thrw_3 hc hd hl.1 hex.1 hex.2 tw_563 (i := 10) rfl (Nat.le_of_ble_eq_true rfl) (Nat.le_of_ble_eq_true rfl) (Nat.le_of_ble_eq_true rfl) (Nat.le_of_ble_eq_true rfl) dX11_story_9 dX11_story_12 dX11_story_13 dX11_story_16 dX11_story_19
  refine lv_if_lt (tgt := 9) hc.x hc.b dX11_story_1 (by decide) (fun c_3 => ?_) (fun c_3 => ?_)
  · have hf := br_y c_3 hf
    exact hJ_2 S _ _ _ hf hd (lv_sub hl [] rfl)
  · have hf := br_n c_3 hf
    refine lv_iload_n hc.x hc.b dX11_story_4 rfl (lv_at hl 1 rfl) ?_
    refine lv_iconst (v := 2) hc.x hc.b dX11_story_5 (by decide) ?_
    refine lv_icmp_lt (tgt := 20) hc.x hc.b dX11_story_6 (by decide) (fun c_4 => ?_) (fun c_4 => ?_)
    · have hf := br_y c_4 hf
      refine lv_aload_n hc.x hc.b dX11_story_20 rfl (lv_at hl 0 rfl) ?_
      refine lv_iload_n hc.x hc.b dX11_story_21 rfl (lv_at hl 2 rfl) ?_
      rcases xb_s hf with ⟨k9, S9, hq_5, rfl⟩ | ⟨_u, S_6, hq_5, hf⟩
      · exact x_go (x_runV hc hd my_X11_needTray tw_1150 hL0 rfl rfl rfl (xc_X11_needTray l D cs B0 kt α Lv S g0 x2 hc.cl hL0  hq_5 hex.1) rfl rfl hl.1 (Nat.le_of_ble_eq_true rfl) ⟨Nat.le_of_ble_eq_true rfl, Nat.le_of_ble_eq_true rfl, Nat.le_of_ble_eq_true rfl, Nat.le_of_ble_eq_true rfl⟩ dX11_story_22) hd hex.2 hc.lk
      refine k_v (k_runV hc hd my_X11_needTray tw_1150 hL0 rfl rfl rfl (c_X11_needTray l D cs B0 kt α Lv S g0 x2 hc.cl hL0  hq_5) rfl rfl hl.1 (Nat.le_of_ble_eq_true rfl) ⟨Nat.le_of_ble_eq_true rfl, Nat.le_of_ble_eq_true rfl, Nat.zero_le _, Nat.zero_le _⟩ dX11_story_22) hd (fun H locs hd => ?_)
      refine lv_aload_n hc.x hc.b dX11_story_25 rfl (lv_at hl 0 rfl) ?_
      refine lv_iload_n hc.x hc.b dX11_story_26 rfl (lv_at hl 2 rfl) ?_
      rcases xb_s hf with ⟨k9, S9, hq_7, rfl⟩ | ⟨_u, S_8, hq_7, hf⟩
      · exact x_go (x_runV hc hd my_X11_needFilledTray tw_1155 hL0 rfl rfl rfl (xc_X11_needFilledTray l D cs B0 kt α Lv S_6 g0 x2 hc.cl hL0  hq_7 hex.1) rfl rfl hl.1 (Nat.le_of_ble_eq_true rfl) ⟨Nat.le_of_ble_eq_true rfl, Nat.le_of_ble_eq_true rfl, Nat.le_of_ble_eq_true rfl, Nat.le_of_ble_eq_true rfl⟩ dX11_story_27) hd hex.2 hc.lk
      refine k_v (k_runV hc hd my_X11_needFilledTray tw_1155 hL0 rfl rfl rfl (c_X11_needFilledTray l D cs B0 kt α Lv S_6 g0 x2 hc.cl hL0  hq_7) rfl rfl hl.1 (Nat.le_of_ble_eq_true rfl) ⟨Nat.le_of_ble_eq_true rfl, Nat.le_of_ble_eq_true rfl, Nat.zero_le _, Nat.zero_le _⟩ dX11_story_27) hd (fun H locs hd => ?_)
      refine lv_aload_n hc.x hc.b dX11_story_30 rfl (lv_at hl 0 rfl) ?_
      refine fg_0_3 hc hd hL0 tw_356 dX11_story_31 ?_
      refine fg_49_1 hc hd (cl_0_trays hc.cl hL0) tw_273 dX11_story_34 ?_
      refine lv_iload_n hc.x hc.b dX11_story_37 rfl (lv_at hl 2 rfl) ?_
      obtain ⟨hi_9, hf⟩ := ck_s hf
      refine r_iald hc hd (cl_49_lengths hc.cl (cl_0_trays hc.cl hL0)) rfl hi_9 dX11_story_38 ?_
      refine lv_bipush (v := 21) hc.x hc.b dX11_story_39 (by decide) ?_
      refine jn_s (P := fun J_11 => ∀  (S_10 : St) (H : Heap) (locs : List Loc) (ls : Array Slot), J_11 S_10 = some o → Dy s D cs B0 α Lv S_10 H locs → lv_has ls 3 [] → W p l e (RX 9 o) s m args below meth c H locs 0 0 (QXi D cs B0 α Lv o below args s) (F0 m 57 ls [])) hf ?_ (fun J_11 hJ_11 hf => ?_)
      · intro S_10 H locs ls hf hd hl
        refine lv_iconst (v := 0) hc.x hc.b dX11_story_57 (by decide) ?_
        cases hf
        exact r_zret hc hd hr (Or.inl rfl) dX11_story_58
      refine lv_icmp_ne (tgt := 57) hc.x hc.b dX11_story_41 (by decide) (fun c_12 => ?_) (fun c_12 => ?_)
      · have hf := br_n c_12 hf
        exact hJ_11 S_8 _ _ _ hf hd (lv_sub hl [] rfl)
      · have hf := br_y c_12 hf
        refine lv_aload_n hc.x hc.b dX11_story_44 rfl (lv_at hl 0 rfl) ?_
        refine fg_0_3 hc hd hL0 tw_356 dX11_story_45 ?_
        refine lv_iload_n hc.x hc.b dX11_story_48 rfl (lv_at hl 2 rfl) ?_
        refine lv_bipush (v := 9) hc.x hc.b dX11_story_49 (by decide) ?_
        obtain ⟨r_14, hq_13, hf⟩ := on_s hf
        refine k_i (k_runV hc hd my_X10_allWithin tw_1164 (cl_0_trays hc.cl hL0) rfl rfl rfl (c_X10_allWithin l D cs B0 kt α Lv S_8 0 x2 9 hc.cl (cl_0_trays hc.cl hL0)  hq_13) rfl rfl hl.1 (Nat.le_of_ble_eq_true rfl) ⟨Nat.le_of_ble_eq_true rfl, Nat.le_of_ble_eq_true rfl, Nat.zero_le _, Nat.zero_le _⟩ dX11_story_51) hd (fun H locs hd => ?_)
        refine lv_if_ne (tgt := 59) hc.x hc.b dX11_story_54 (by decide) (fun c_15 => ?_) (fun c_15 => ?_)
        · have hf := br_n c_15 hf
          refine lv_aload_n hc.x hc.b dX11_story_59 rfl (lv_at hl 0 rfl) ?_
          refine fg_0_0 hc hd hL0 tw_353 dX11_story_60 ?_
          refine fg_2_15 hc hd (cl_0_now hc.cl hL0) tw_170 dX11_story_63 ?_
          refine lv_iload_n hc.x hc.b dX11_story_66 rfl (lv_at hl 1 rfl) ?_
          refine lv_aload_n hc.x hc.b dX11_story_67 rfl (lv_at hl 0 rfl) ?_
          refine fg_0_3 hc hd hL0 tw_356 dX11_story_68 ?_
          refine fg_49_2 hc hd (cl_0_trays hc.cl hL0) tw_275 dX11_story_71 ?_
          refine lv_iload_n hc.x hc.b dX11_story_74 rfl (lv_at hl 2 rfl) ?_
          obtain ⟨hi_16, hf⟩ := ck_s hf
          refine r_aald hc hd (cl_49_numbers hc.cl (cl_0_trays hc.cl hL0)) (t0 := 7) rfl rfl rfl hi_16 dX11_story_75 ?_
          show W p l e (RX 9 o) s m args below meth c H locs 0 0 (QXi D cs B0 α Lv o below args s) (F0 m 76 ls [.ref (α 53 ((nn x2))), .int x1, .ref (α 22 0)])
          obtain ⟨S_18, hq_17, hf⟩ := on_s hf
          refine k_v (k_runV hc hd my_X8_setWeights tw_1168 (cl_2_stories hc.cl (cl_0_now hc.cl hL0)) rfl rfl rfl (c_X8_setWeights l D cs B0 kt α Lv S_8 0 x1 ((nn x2)) hc.cl (cl_2_stories hc.cl (cl_0_now hc.cl hL0)) (cl_52 hc.cl (cl_49_numbers hc.cl (cl_0_trays hc.cl hL0)) (inb_lt hi_16))  hq_17) rfl rfl hl.1 (Nat.le_of_ble_eq_true rfl) ⟨Nat.le_of_ble_eq_true rfl, Nat.le_of_ble_eq_true rfl, Nat.zero_le _, Nat.zero_le _⟩ dX11_story_76) hd (fun H locs hd => ?_)
          refine lv_iconst (v := 1) hc.x hc.b dX11_story_79 (by decide) ?_
          cases hf
          exact r_zret hc hd hr (Or.inr rfl) dX11_story_80
        · have hf := br_y c_15 hf
          exact hJ_11 S_8 _ _ _ hf hd (lv_sub hl [] rfl)
    · have hf := br_n c_4 hf
      exact hJ_2 S _ _ _ hf hd (lv_sub hl [] rfl)
theorem c_X11_story (l : Launch) (D : va_G) (cs : Nat → ClassId) (B0 : Nat) (kt : (Nat → Nat) × (Nat → Nat)) (α : Nat → Nat → Nat) (Lv : Nat → Nat → Prop) (S : St) (g0 : Nat) (x1 : Int32) (x2 : Int32) (hcl : Cl Lv) (hL0 : Lv 0 g0) {r : Int32} {S1 : St} (hf : f_X11_story g0 x1 x2 S = some (.inr r, S1)) : Met l yX11_story (wz yX11_story cX11_story 3 (some .boolean)) (Rm 9 0 0) (Pz D cs B0 kt α Lv S [.ref (α 0 g0), .int x1, .int x2]) (Qi D cs B0 α Lv r S1) 0 0 (AB B0) := met_of (by decide) rfl hcl (Nat.le_of_ble_eq_true rfl) (fun p e s m below meth c hc hr hd ls hl => b_X11_story hc hr XH.r hL0 hf hd hl)
theorem xc_X11_story (l : Launch) (D : va_G) (cs : Nat → ClassId) (B0 : Nat) (kt : (Nat → Nat) × (Nat → Nat)) (α : Nat → Nat → Nat) (Lv : Nat → Nat → Prop) (S : St) (g0 : Nat) (x1 : Int32) (x2 : Int32) (hcl : Cl Lv) (hL0 : Lv 0 g0) {k : Nat} {S1 : St} (hf : f_X11_story g0 x1 x2 S = some (.inl k, S1)) (hst : l.stackTraces = false) : vx_Met l yX11_story (wz yX11_story cX11_story 3 (some .boolean)) (Rm 9 1 6) (Pz D cs B0 kt α Lv S [.ref (α 0 g0), .int x1, .int x2]) QF (XQ D cs B0 α Lv k S1) 1 6 (AB B0) := xmet_of (by decide) rfl hcl (Nat.le_of_ble_eq_true rfl) (fun p e s m below meth c hc hr hex hd ls hl => b_X11_story hc hr (XH.l hst hex) hL0 hf hd hl)
theorem my_X11_story : MyV yX11_story "PumpCrossing" cX11_story 3 (some .boolean) 2 := ⟨tw_1146, tw_1147, tw_1, tw_1148, by decide +kernel⟩
def f_X11_told_54 (g0 : Nat) (g5 : Nat) (K : St → Option ((Nat ⊕ Int32) × St)) : Nat → Int32 → St → Option ((Nat ⊕ Int32) × St)
  | 0, _, _ => none
  | n + 1, x6, S => br ((gi S 2 0 0) ≤ x6) (K S) (ck (inb x6 4 = true) (xb (τ := Unit) (f_X11_needPrice g0 (gi S 26 g5 (nn x6)) S) (fun _u S_13 => bv (x6 + 1) (fun x6_14 => f_X11_told_54 g0 g5 K n x6_14 S_13))))
def f_X11_told (g0 : Nat) (x1 : Int32) (x2 : Int32) (x3 : Int32) (x4 : Int32) (S : St) : Option ((Nat ⊕ Int32) × St) := br ((gi S 2 0 0) = 0) (some (.inl 1, S)) (ck (inb 0 4 = true) (bv (si S 26 (0 + 1) (nn 0) x1) (fun S_3 => ck (inb 1 4 = true) (bv (si S_3 26 (0 + 1) (nn 1) x2) (fun S_5 => ck (inb 2 4 = true) (bv (si S_5 26 (0 + 1) (nn 2) x3) (fun S_7 => ck (inb 3 4 = true) (bv (si S_7 26 (0 + 1) (nn 3) x4) (fun S_9 => f_X11_told_54 g0 (0 + 1) (fun  (S_15 : St) => on2 (f_X2_addTold 0 (0 + 1) S_15) (fun r_18 S_17 => some (.inr r_18, S_17))) FU 0 S_9)))))))))
set_option maxRecDepth 100000 in
set_option maxHeartbeats 4000000 in
theorem w_X11_told_54 (hc : Cx p s m args meth c cX11_told 7 "PumpCrossing" D cs B0 kt Lv) (hr : meth.sig.returnType = some .int) {o : (Nat ⊕ Int32) × St} (hex : XH l c o) {g0 : Nat} {g5 : Nat} {K : St → Option ((Nat ⊕ Int32) × St)} (hL0 : Lv 0 g0) (hL5 : Lv 26 g5) (hK : ∀  (S : St) (H : Heap) (locs : List Loc) (ls : Array Slot), K S = some o → Dy s D cs B0 α Lv S H locs → lv_has ls 7 [(0, .ref (α 0 g0)), (5, .ref (α 26 g5))] → W p l e (RX 10 o) s m args below meth c H locs 0 0 (QXi D cs B0 α Lv o below args s) (F0 m 81 ls [])) : ∀ (n : Nat) (x6 : Int32) (S : St) (H : Heap) (locs : List Loc) (ls : Array Slot), f_X11_told_54 g0 g5 K n x6 S = some o → Dy s D cs B0 α Lv S H locs → lv_has ls 7 [(0, .ref (α 0 g0)), (5, .ref (α 26 g5)), (6, .int x6)] → W p l e (RX 10 o) s m args below meth c H locs 0 0 (QXi D cs B0 α Lv o below args s) (F0 m 54 ls []) := by
  intro n
  induction n with
  | zero =>
    intro x6 S H locs ls hf
    rw [f_X11_told_54] at hf
    cases hf
  | succ n ih =>
    intro x6 S H locs ls hf hd hl
    rw [f_X11_told_54] at hf
    refine lv_iload hc.x hc.b dX11_told_54 (lv_at hl 2 rfl) ?_
    refine lv_aload_n hc.x hc.b dX11_told_56 rfl (lv_at hl 0 rfl) ?_
    refine fg_0_0 hc hd hL0 tw_353 dX11_told_57 ?_
    refine fg_2_0 hc hd (cl_0_now hc.cl hL0) tw_136 dX11_told_60 ?_
    refine lv_icmp_ge (tgt := 81) hc.x hc.b dX11_told_63 (by decide) (fun c_10 => ?_) (fun c_10 => ?_)
    · have hf := br_y c_10 hf
      exact hK S _ _ _ hf hd (lv_sub hl [0, 1] rfl)
    · have hf := br_n c_10 hf
      refine lv_aload_n hc.x hc.b dX11_told_66 rfl (lv_at hl 0 rfl) ?_
      refine lv_aload hc.x hc.b dX11_told_67 (lv_at hl 1 rfl) ?_
      refine lv_iload hc.x hc.b dX11_told_69 (lv_at hl 2 rfl) ?_
      obtain ⟨hi_11, hf⟩ := ck_s hf
      refine r_iald hc hd hL5 rfl hi_11 dX11_told_71 ?_
      rcases xb_s hf with ⟨k9, S9, hq_12, rfl⟩ | ⟨_u, S_13, hq_12, hf⟩
      · exact x_go (x_runV hc hd my_X11_needPrice tw_523 hL0 rfl rfl rfl (xc_X11_needPrice l D cs B0 kt α Lv S g0 (gi S 26 g5 (nn x6)) hc.cl hL0  hq_12 hex.1) rfl rfl hl.1 (Nat.le_of_ble_eq_true rfl) ⟨Nat.le_of_ble_eq_true rfl, Nat.le_of_ble_eq_true rfl, Nat.le_of_ble_eq_true rfl, Nat.le_of_ble_eq_true rfl⟩ dX11_told_72) hd hex.2 hc.lk
      refine k_v (k_runV hc hd my_X11_needPrice tw_523 hL0 rfl rfl rfl (c_X11_needPrice l D cs B0 kt α Lv S g0 (gi S 26 g5 (nn x6)) hc.cl hL0  hq_12) rfl rfl hl.1 (Nat.le_of_ble_eq_true rfl) ⟨Nat.le_of_ble_eq_true rfl, Nat.le_of_ble_eq_true rfl, Nat.zero_le _, Nat.zero_le _⟩ dX11_told_72) hd (fun H locs hd => ?_)
      obtain ⟨x6_14, ex6_14⟩ : ∃ z : Int32, z = x6 + 1 := ⟨_, rfl⟩
      have hf := bv_n ex6_14 hf
      refine lv_iinc (v := x6_14) (lv' := [(6, .int x6_14), (0, .ref (α 0 g0)), (5, .ref (α 26 g5))]) hc.x hc.b dX11_told_75 hl (k := 2) rfl (by rw [ex6_14]; rfl) (by decide) rfl (fun ls hl => ?_)
      refine lv_goto (tgt := 54) hc.x hc.b dX11_told_78 (by decide) ?_
      exact ih x6_14 S_13 _ _ _ hf hd (lv_sub hl [1, 2, 0] rfl)
set_option maxRecDepth 100000 in
set_option maxHeartbeats 4000000 in
theorem b_X11_told (hc : Cx p s m args meth c cX11_told 7 "PumpCrossing" D cs B0 kt Lv) (hr : meth.sig.returnType = some .int)  {o : (Nat ⊕ Int32) × St} (hex : XH l c o) {S : St} {g0 : Nat} {x1 : Int32} {x2 : Int32} {x3 : Int32} {x4 : Int32} (hL0 : Lv 0 g0) {H : Heap} {locs : List Loc} {ls : Array Slot} (hf : f_X11_told g0 x1 x2 x3 x4 S = some o) (hd : Dy s D cs B0 α Lv S H locs) (hl : lv_has ls 7 [(0, .ref (α 0 g0)), (1, .int x1), (2, .int x2), (3, .int x3), (4, .int x4)]) : W p l e (RX 10 o) s m args below meth c H locs 0 0 (QXi D cs B0 α Lv o below args s) (F0 m 0 ls []) := by
  unfold f_X11_told at hf
  refine lv_aload_n hc.x hc.b dX11_told_0 rfl (lv_at hl 0 rfl) ?_
  refine fg_0_0 hc hd hL0 tw_353 dX11_told_1 ?_
  refine fg_2_0 hc hd (cl_0_now hc.cl hL0) tw_136 dX11_told_4 ?_
  refine lv_if_ne (tgt := 21) hc.x hc.b dX11_told_7 (by decide) (fun c_1 => ?_) (fun c_1 => ?_)
  · have hf := br_n c_1 hf
    refine lv_aload_n hc.x hc.b dX11_told_21 rfl (lv_at hl 0 rfl) ?_
    refine fg_0_0 hc hd hL0 tw_353 dX11_told_22 ?_
    refine fg_2_16 hc hd (cl_0_now hc.cl hL0) tw_172 dX11_told_25 ?_
    refine lv_astore (lv' := [(5, .ref (α 26 (0 + 1))), (0, .ref (α 0 g0)), (1, .int x1), (2, .int x2), (3, .int x3), (4, .int x4)]) hc.x hc.b dX11_told_28 hl (by decide) rfl (fun ls hl => ?_)
    refine lv_aload hc.x hc.b dX11_told_30 (lv_at hl 0 rfl) ?_
    refine lv_iconst (v := 0) hc.x hc.b dX11_told_32 (by decide) ?_
    refine lv_iload_n hc.x hc.b dX11_told_33 rfl (lv_at hl 2 rfl) ?_
    obtain ⟨hi_2, hf⟩ := ck_s hf
    refine r_iast hc hd (cl_2_row hc.cl (cl_0_now hc.cl hL0)) (fun _ => rfl) hi_2 dX11_told_34 (fun H locs hd => ?_)
    obtain ⟨S_3, hd, hf⟩ := nmD hd hf
    refine lv_aload hc.x hc.b dX11_told_35 (lv_at hl 0 rfl) ?_
    refine lv_iconst (v := 1) hc.x hc.b dX11_told_37 (by decide) ?_
    refine lv_iload_n hc.x hc.b dX11_told_38 rfl (lv_at hl 3 rfl) ?_
    obtain ⟨hi_4, hf⟩ := ck_s hf
    refine r_iast hc hd (cl_2_row hc.cl (cl_0_now hc.cl hL0)) (fun _ => rfl) hi_4 dX11_told_39 (fun H locs hd => ?_)
    obtain ⟨S_5, hd, hf⟩ := nmD hd hf
    refine lv_aload hc.x hc.b dX11_told_40 (lv_at hl 0 rfl) ?_
    refine lv_iconst (v := 2) hc.x hc.b dX11_told_42 (by decide) ?_
    refine lv_iload_n hc.x hc.b dX11_told_43 rfl (lv_at hl 4 rfl) ?_
    obtain ⟨hi_6, hf⟩ := ck_s hf
    refine r_iast hc hd (cl_2_row hc.cl (cl_0_now hc.cl hL0)) (fun _ => rfl) hi_6 dX11_told_44 (fun H locs hd => ?_)
    obtain ⟨S_7, hd, hf⟩ := nmD hd hf
    refine lv_aload hc.x hc.b dX11_told_45 (lv_at hl 0 rfl) ?_
    refine lv_iconst (v := 3) hc.x hc.b dX11_told_47 (by decide) ?_
    refine lv_iload hc.x hc.b dX11_told_48 (lv_at hl 5 rfl) ?_
    obtain ⟨hi_8, hf⟩ := ck_s hf
    refine r_iast hc hd (cl_2_row hc.cl (cl_0_now hc.cl hL0)) (fun _ => rfl) hi_8 dX11_told_50 (fun H locs hd => ?_)
    obtain ⟨S_9, hd, hf⟩ := nmD hd hf
    refine lv_iconst (v := 0) hc.x hc.b dX11_told_51 (by decide) ?_
    refine lv_istore (lv' := [(6, .int 0), (5, .ref (α 26 (0 + 1))), (0, .ref (α 0 g0)), (1, .int x1), (2, .int x2), (3, .int x3), (4, .int x4)]) hc.x hc.b dX11_told_52 hl (by decide) rfl (fun ls hl => ?_)
    refine w_X11_told_54 hc hr hex hL0 (cl_2_row hc.cl (cl_0_now hc.cl hL0)) ?_ _ _ _ _ _ _ hf hd (lv_sub hl [2, 1, 0] rfl)
    intro S_15 H locs ls hf hd hl
    refine lv_aload_n hc.x hc.b dX11_told_81 rfl (lv_at hl 0 rfl) ?_
    refine fg_0_0 hc hd hL0 tw_353 dX11_told_82 ?_
    refine lv_aload hc.x hc.b dX11_told_85 (lv_at hl 1 rfl) ?_
    obtain ⟨r_18, S_17, hq_16, hf⟩ := on2_s hf
    refine k_i (k_runV hc hd my_X2_addTold tw_1219 (cl_0_now hc.cl hL0) rfl rfl rfl (c_X2_addTold l D cs B0 kt α Lv S_15 0 (0 + 1) hc.cl (cl_0_now hc.cl hL0) (cl_2_row hc.cl (cl_0_now hc.cl hL0))  hq_16) rfl rfl hl.1 (Nat.le_of_ble_eq_true rfl) ⟨Nat.le_of_ble_eq_true rfl, Nat.le_of_ble_eq_true rfl, Nat.zero_le _, Nat.zero_le _⟩ dX11_told_87) hd (fun H locs hd => ?_)
    cases hf
    exact r_iret hc hd hr dX11_told_90
  · have hf := br_y c_1 hf
    cases hf
    exact r_thrw_1 hc hd hl.1 hex.1 hex.2 tw_455 (i := 14) rfl (Nat.le_of_ble_eq_true rfl) (Nat.le_of_ble_eq_true rfl) (Nat.le_of_ble_eq_true rfl) (Nat.le_of_ble_eq_true rfl) dX11_told_10 dX11_told_13 dX11_told_14 dX11_told_17 dX11_told_20
theorem c_X11_told (l : Launch) (D : va_G) (cs : Nat → ClassId) (B0 : Nat) (kt : (Nat → Nat) × (Nat → Nat)) (α : Nat → Nat → Nat) (Lv : Nat → Nat → Prop) (S : St) (g0 : Nat) (x1 : Int32) (x2 : Int32) (x3 : Int32) (x4 : Int32) (hcl : Cl Lv) (hL0 : Lv 0 g0) {r : Int32} {S1 : St} (hf : f_X11_told g0 x1 x2 x3 x4 S = some (.inr r, S1)) : Met l yX11_told (wz yX11_told cX11_told 7 (some .int)) (Rm 10 0 0) (Pz D cs B0 kt α Lv S [.ref (α 0 g0), .int x1, .int x2, .int x3, .int x4]) (Qi D cs B0 α Lv r S1) 0 0 (AB B0) := met_of (by decide) rfl hcl (Nat.le_of_ble_eq_true rfl) (fun p e s m below meth c hc hr hd ls hl => b_X11_told hc hr XH.r hL0 hf hd hl)
theorem xc_X11_told (l : Launch) (D : va_G) (cs : Nat → ClassId) (B0 : Nat) (kt : (Nat → Nat) × (Nat → Nat)) (α : Nat → Nat → Nat) (Lv : Nat → Nat → Prop) (S : St) (g0 : Nat) (x1 : Int32) (x2 : Int32) (x3 : Int32) (x4 : Int32) (hcl : Cl Lv) (hL0 : Lv 0 g0) {k : Nat} {S1 : St} (hf : f_X11_told g0 x1 x2 x3 x4 S = some (.inl k, S1)) (hst : l.stackTraces = false) : vx_Met l yX11_told (wz yX11_told cX11_told 7 (some .int)) (Rm 10 1 6) (Pz D cs B0 kt α Lv S [.ref (α 0 g0), .int x1, .int x2, .int x3, .int x4]) QF (XQ D cs B0 α Lv k S1) 1 6 (AB B0) := xmet_of (by decide) rfl hcl (Nat.le_of_ble_eq_true rfl) (fun p e s m below meth c hc hr hex hd ls hl => b_X11_told hc hr (XH.l hst hex) hL0 hf hd hl)
theorem my_X11_told : MyV yX11_told "PumpCrossing" cX11_told 7 (some .int) 4 := ⟨tw_1215, tw_1216, tw_1, tw_1217, by decide +kernel⟩
def f_X11_tray (g0 : Nat) (x1 : Int32) (x2 : Int32) (x3 : Int32) (S : St) : Option ((Nat ⊕ Unit) × St) := xb (τ := Unit) (f_X11_needTray g0 x1 S) (fun _u S_2 => xb (τ := Unit) (f_X11_needWithin g0 x2 0 3 S_2) (fun _u S_4 => xb (τ := Unit) (f_X11_needWithin g0 x3 0 28 S_4) (fun _u S_6 => on (f_X10_clear 0 x1 x2 x3 S_6) (fun S_8 => some (.inr (), S_8)))))
set_option maxRecDepth 100000 in
set_option maxHeartbeats 4000000 in
theorem b_X11_tray (hc : Cx p s m args meth c cX11_tray 4 "PumpCrossing" D cs B0 kt Lv) (hr : meth.sig.returnType = none)  {o : (Nat ⊕ Unit) × St} (hex : XH l c o) {S : St} {g0 : Nat} {x1 : Int32} {x2 : Int32} {x3 : Int32} (hL0 : Lv 0 g0) {H : Heap} {locs : List Loc} {ls : Array Slot} (hf : f_X11_tray g0 x1 x2 x3 S = some o) (hd : Dy s D cs B0 α Lv S H locs) (hl : lv_has ls 4 [(0, .ref (α 0 g0)), (1, .int x1), (2, .int x2), (3, .int x3)]) : W p l e (RX 9 o) s m args below meth c H locs 0 0 (QXv D cs B0 α Lv o below args s) (F0 m 0 ls []) := by
  unfold f_X11_tray at hf
  refine lv_aload_n hc.x hc.b dX11_tray_0 rfl (lv_at hl 0 rfl) ?_
  refine lv_iload_n hc.x hc.b dX11_tray_1 rfl (lv_at hl 1 rfl) ?_
  rcases xb_s hf with ⟨k9, S9, hq_1, rfl⟩ | ⟨_u, S_2, hq_1, hf⟩
  · exact x_go (x_runV hc hd my_X11_needTray tw_1150 hL0 rfl rfl rfl (xc_X11_needTray l D cs B0 kt α Lv S g0 x1 hc.cl hL0  hq_1 hex.1) rfl rfl hl.1 (Nat.le_of_ble_eq_true rfl) ⟨Nat.le_of_ble_eq_true rfl, Nat.le_of_ble_eq_true rfl, Nat.le_of_ble_eq_true rfl, Nat.le_of_ble_eq_true rfl⟩ dX11_tray_2) hd hex.2 hc.lk
  refine k_v (k_runV hc hd my_X11_needTray tw_1150 hL0 rfl rfl rfl (c_X11_needTray l D cs B0 kt α Lv S g0 x1 hc.cl hL0  hq_1) rfl rfl hl.1 (Nat.le_of_ble_eq_true rfl) ⟨Nat.le_of_ble_eq_true rfl, Nat.le_of_ble_eq_true rfl, Nat.zero_le _, Nat.zero_le _⟩ dX11_tray_2) hd (fun H locs hd => ?_)
  refine lv_aload_n hc.x hc.b dX11_tray_5 rfl (lv_at hl 0 rfl) ?_
  refine lv_iload_n hc.x hc.b dX11_tray_6 rfl (lv_at hl 2 rfl) ?_
  refine lv_iconst (v := 0) hc.x hc.b dX11_tray_7 (by decide) ?_
  refine lv_iconst (v := 3) hc.x hc.b dX11_tray_8 (by decide) ?_
  rcases xb_s hf with ⟨k9, S9, hq_3, rfl⟩ | ⟨_u, S_4, hq_3, hf⟩
  · exact x_go (x_runV hc hd my_X11_needWithin tw_527 hL0 rfl rfl rfl (xc_X11_needWithin l D cs B0 kt α Lv S_2 g0 x2 0 3 hc.cl hL0  hq_3 hex.1) rfl rfl hl.1 (Nat.le_of_ble_eq_true rfl) ⟨Nat.le_of_ble_eq_true rfl, Nat.le_of_ble_eq_true rfl, Nat.le_of_ble_eq_true rfl, Nat.le_of_ble_eq_true rfl⟩ dX11_tray_9) hd hex.2 hc.lk
  refine k_v (k_runV hc hd my_X11_needWithin tw_527 hL0 rfl rfl rfl (c_X11_needWithin l D cs B0 kt α Lv S_2 g0 x2 0 3 hc.cl hL0  hq_3) rfl rfl hl.1 (Nat.le_of_ble_eq_true rfl) ⟨Nat.le_of_ble_eq_true rfl, Nat.le_of_ble_eq_true rfl, Nat.zero_le _, Nat.zero_le _⟩ dX11_tray_9) hd (fun H locs hd => ?_)
  refine lv_aload_n hc.x hc.b dX11_tray_12 rfl (lv_at hl 0 rfl) ?_
  refine lv_iload_n hc.x hc.b dX11_tray_13 rfl (lv_at hl 3 rfl) ?_
  refine lv_iconst (v := 0) hc.x hc.b dX11_tray_14 (by decide) ?_
  refine lv_bipush (v := 28) hc.x hc.b dX11_tray_15 (by decide) ?_
  rcases xb_s hf with ⟨k9, S9, hq_5, rfl⟩ | ⟨_u, S_6, hq_5, hf⟩
  · exact x_go (x_runV hc hd my_X11_needWithin tw_527 hL0 rfl rfl rfl (xc_X11_needWithin l D cs B0 kt α Lv S_4 g0 x3 0 28 hc.cl hL0  hq_5 hex.1) rfl rfl hl.1 (Nat.le_of_ble_eq_true rfl) ⟨Nat.le_of_ble_eq_true rfl, Nat.le_of_ble_eq_true rfl, Nat.le_of_ble_eq_true rfl, Nat.le_of_ble_eq_true rfl⟩ dX11_tray_17) hd hex.2 hc.lk
  refine k_v (k_runV hc hd my_X11_needWithin tw_527 hL0 rfl rfl rfl (c_X11_needWithin l D cs B0 kt α Lv S_4 g0 x3 0 28 hc.cl hL0  hq_5) rfl rfl hl.1 (Nat.le_of_ble_eq_true rfl) ⟨Nat.le_of_ble_eq_true rfl, Nat.le_of_ble_eq_true rfl, Nat.zero_le _, Nat.zero_le _⟩ dX11_tray_17) hd (fun H locs hd => ?_)
  refine lv_aload_n hc.x hc.b dX11_tray_20 rfl (lv_at hl 0 rfl) ?_
  refine fg_0_3 hc hd hL0 tw_356 dX11_tray_21 ?_
  refine lv_iload_n hc.x hc.b dX11_tray_24 rfl (lv_at hl 1 rfl) ?_
  refine lv_iload_n hc.x hc.b dX11_tray_25 rfl (lv_at hl 2 rfl) ?_
  refine lv_iload_n hc.x hc.b dX11_tray_26 rfl (lv_at hl 3 rfl) ?_
  obtain ⟨S_8, hq_7, hf⟩ := on_s hf
  refine k_v (k_runV hc hd my_X10_clear tw_1242 (cl_0_trays hc.cl hL0) rfl rfl rfl (c_X10_clear l D cs B0 kt α Lv S_6 0 x1 x2 x3 hc.cl (cl_0_trays hc.cl hL0)  hq_7) rfl rfl hl.1 (Nat.le_of_ble_eq_true rfl) ⟨Nat.le_of_ble_eq_true rfl, Nat.le_of_ble_eq_true rfl, Nat.zero_le _, Nat.zero_le _⟩ dX11_tray_27) hd (fun H locs hd => ?_)
  cases hf
  exact r_vret hc hd hr dX11_tray_30
theorem c_X11_tray (l : Launch) (D : va_G) (cs : Nat → ClassId) (B0 : Nat) (kt : (Nat → Nat) × (Nat → Nat)) (α : Nat → Nat → Nat) (Lv : Nat → Nat → Prop) (S : St) (g0 : Nat) (x1 : Int32) (x2 : Int32) (x3 : Int32) (hcl : Cl Lv) (hL0 : Lv 0 g0) {S1 : St} (hf : f_X11_tray g0 x1 x2 x3 S = some (.inr (), S1)) : Met l yX11_tray (wz yX11_tray cX11_tray 4 none) (Rm 9 0 0) (Pz D cs B0 kt α Lv S [.ref (α 0 g0), .int x1, .int x2, .int x3]) (Qv D cs B0 α Lv S1) 0 0 (AB B0) := met_of (by decide) rfl hcl (Nat.le_of_ble_eq_true rfl) (fun p e s m below meth c hc hr hd ls hl => b_X11_tray hc hr XH.r hL0 hf hd hl)
theorem xc_X11_tray (l : Launch) (D : va_G) (cs : Nat → ClassId) (B0 : Nat) (kt : (Nat → Nat) × (Nat → Nat)) (α : Nat → Nat → Nat) (Lv : Nat → Nat → Prop) (S : St) (g0 : Nat) (x1 : Int32) (x2 : Int32) (x3 : Int32) (hcl : Cl Lv) (hL0 : Lv 0 g0) {k : Nat} {S1 : St} (hf : f_X11_tray g0 x1 x2 x3 S = some (.inl k, S1)) (hst : l.stackTraces = false) : vx_Met l yX11_tray (wz yX11_tray cX11_tray 4 none) (Rm 9 1 6) (Pz D cs B0 kt α Lv S [.ref (α 0 g0), .int x1, .int x2, .int x3]) QF (XQ D cs B0 α Lv k S1) 1 6 (AB B0) := xmet_of (by decide) rfl hcl (Nat.le_of_ble_eq_true rfl) (fun p e s m below meth c hc hr hex hd ls hl => b_X11_tray hc hr (XH.l hst hex) hL0 hf hd hl)
theorem my_X11_tray : MyV yX11_tray "PumpCrossing" cX11_tray 4 none 3 := ⟨tw_1239, tw_1240, tw_1, tw_1241, by decide +kernel⟩
def f_X11_turn (g0 : Nat) (x1 : Int32) (x2 : Int32) (x3 : Int32) (x4 : Int32) (x5 : Int32) (S : St) : Option ((Nat ⊕ Int32) × St) := xb (τ := Unit) (f_X11_needTurns g0 x1 x2 x3 x4 S) (fun _u S_2 => bv (fun  (S_3 : St) => some (.inr ((-1)), S_3)) (fun J_4 => br (x5 < 0) (J_4 S_2) (br (x5 < x4) (on (f_X4_begin 0 0 x1 x2 S_2) (fun S_8 => on (f_X4_foresee 0 x4 S_8) (fun S_10 => on (f_X4_setInTurn 0 x3 x5 S_10) (fun r_12 => some (.inr r_12, S_10))))) (J_4 S_2))))
set_option maxRecDepth 100000 in
set_option maxHeartbeats 4000000 in
theorem b_X11_turn (hc : Cx p s m args meth c cX11_turn 6 "PumpCrossing" D cs B0 kt Lv) (hr : meth.sig.returnType = some .int)  {o : (Nat ⊕ Int32) × St} (hex : XH l c o) {S : St} {g0 : Nat} {x1 : Int32} {x2 : Int32} {x3 : Int32} {x4 : Int32} {x5 : Int32} (hL0 : Lv 0 g0) {H : Heap} {locs : List Loc} {ls : Array Slot} (hf : f_X11_turn g0 x1 x2 x3 x4 x5 S = some o) (hd : Dy s D cs B0 α Lv S H locs) (hl : lv_has ls 6 [(0, .ref (α 0 g0)), (1, .int x1), (2, .int x2), (3, .int x3), (4, .int x4), (5, .int x5)]) : W p l e (RX 11 o) s m args below meth c H locs 0 0 (QXi D cs B0 α Lv o below args s) (F0 m 0 ls []) := by
  unfold f_X11_turn at hf
  refine lv_aload_n hc.x hc.b dX11_turn_0 rfl (lv_at hl 0 rfl) ?_
  refine lv_iload_n hc.x hc.b dX11_turn_1 rfl (lv_at hl 1 rfl) ?_
  refine lv_iload_n hc.x hc.b dX11_turn_2 rfl (lv_at hl 2 rfl) ?_
  refine lv_iload_n hc.x hc.b dX11_turn_3 rfl (lv_at hl 3 rfl) ?_
  refine lv_iload hc.x hc.b dX11_turn_4 (lv_at hl 4 rfl) ?_
  rcases xb_s hf with ⟨k9, S9, hq_1, rfl⟩ | ⟨_u, S_2, hq_1, hf⟩
  · exact x_go (x_runV hc hd my_X11_needTurns tw_1062 hL0 rfl rfl rfl (xc_X11_needTurns l D cs B0 kt α Lv S g0 x1 x2 x3 x4 hc.cl hL0  hq_1 hex.1) rfl rfl hl.1 (Nat.le_of_ble_eq_true rfl) ⟨Nat.le_of_ble_eq_true rfl, Nat.le_of_ble_eq_true rfl, Nat.le_of_ble_eq_true rfl, Nat.le_of_ble_eq_true rfl⟩ dX11_turn_6) hd hex.2 hc.lk
  refine k_v (k_runV hc hd my_X11_needTurns tw_1062 hL0 rfl rfl rfl (c_X11_needTurns l D cs B0 kt α Lv S g0 x1 x2 x3 x4 hc.cl hL0  hq_1) rfl rfl hl.1 (Nat.le_of_ble_eq_true rfl) ⟨Nat.le_of_ble_eq_true rfl, Nat.le_of_ble_eq_true rfl, Nat.zero_le _, Nat.zero_le _⟩ dX11_turn_6) hd (fun H locs hd => ?_)
  refine lv_iload hc.x hc.b dX11_turn_9 (lv_at hl 5 rfl) ?_
  refine jn_s (P := fun J_4 => ∀  (S_3 : St) (H : Heap) (locs : List Loc) (ls : Array Slot), J_4 S_3 = some o → Dy s D cs B0 α Lv S_3 H locs → lv_has ls 6 [] → W p l e (RX 11 o) s m args below meth c H locs 0 0 (QXi D cs B0 α Lv o below args s) (F0 m 21 ls [])) hf ?_ (fun J_4 hJ_4 hf => ?_)
  · intro S_3 H locs ls hf hd hl
    refine lv_iconst (v := (-1)) hc.x hc.b dX11_turn_21 (by decide) ?_
    cases hf
    exact r_iret hc hd hr dX11_turn_22
  refine lv_if_lt (tgt := 21) hc.x hc.b dX11_turn_11 (by decide) (fun c_5 => ?_) (fun c_5 => ?_)
  · have hf := br_y c_5 hf
    exact hJ_4 S_2 _ _ _ hf hd (lv_sub hl [] rfl)
  · have hf := br_n c_5 hf
    refine lv_iload hc.x hc.b dX11_turn_14 (lv_at hl 5 rfl) ?_
    refine lv_iload hc.x hc.b dX11_turn_16 (lv_at hl 4 rfl) ?_
    refine lv_icmp_lt (tgt := 23) hc.x hc.b dX11_turn_18 (by decide) (fun c_6 => ?_) (fun c_6 => ?_)
    · have hf := br_y c_6 hf
      refine lv_aload_n hc.x hc.b dX11_turn_23 rfl (lv_at hl 0 rfl) ?_
      refine fg_0_4 hc hd hL0 tw_357 dX11_turn_24 ?_
      refine lv_aload_n hc.x hc.b dX11_turn_27 rfl (lv_at hl 0 rfl) ?_
      refine fg_0_0 hc hd hL0 tw_353 dX11_turn_28 ?_
      refine lv_iload_n hc.x hc.b dX11_turn_31 rfl (lv_at hl 1 rfl) ?_
      refine lv_iload_n hc.x hc.b dX11_turn_32 rfl (lv_at hl 2 rfl) ?_
      obtain ⟨S_8, hq_7, hf⟩ := on_s hf
      refine k_v (k_runV hc hd my_X4_begin tw_996 (cl_0_game hc.cl hL0) rfl rfl rfl (c_X4_begin l D cs B0 kt α Lv S_2 0 0 x1 x2 hc.cl (cl_0_game hc.cl hL0) (cl_0_now hc.cl hL0)  hq_7) rfl rfl hl.1 (Nat.le_of_ble_eq_true rfl) ⟨Nat.le_of_ble_eq_true rfl, Nat.le_of_ble_eq_true rfl, Nat.zero_le _, Nat.zero_le _⟩ dX11_turn_33) hd (fun H locs hd => ?_)
      refine lv_aload_n hc.x hc.b dX11_turn_36 rfl (lv_at hl 0 rfl) ?_
      refine fg_0_4 hc hd hL0 tw_357 dX11_turn_37 ?_
      refine lv_iload hc.x hc.b dX11_turn_40 (lv_at hl 4 rfl) ?_
      obtain ⟨S_10, hq_9, hf⟩ := on_s hf
      refine k_v (k_runV hc hd my_X4_foresee tw_1066 (cl_0_game hc.cl hL0) rfl rfl rfl (c_X4_foresee l D cs B0 kt α Lv S_8 0 x4 hc.cl (cl_0_game hc.cl hL0)  hq_9) rfl rfl hl.1 (Nat.le_of_ble_eq_true rfl) ⟨Nat.le_of_ble_eq_true rfl, Nat.le_of_ble_eq_true rfl, Nat.zero_le _, Nat.zero_le _⟩ dX11_turn_42) hd (fun H locs hd => ?_)
      refine lv_aload_n hc.x hc.b dX11_turn_45 rfl (lv_at hl 0 rfl) ?_
      refine fg_0_4 hc hd hL0 tw_357 dX11_turn_46 ?_
      refine lv_iload_n hc.x hc.b dX11_turn_49 rfl (lv_at hl 3 rfl) ?_
      refine lv_iload hc.x hc.b dX11_turn_50 (lv_at hl 5 rfl) ?_
      obtain ⟨r_12, hq_11, hf⟩ := on_s hf
      refine k_i (k_runV hc hd my_X4_setInTurn tw_1078 (cl_0_game hc.cl hL0) rfl rfl rfl (c_X4_setInTurn l D cs B0 kt α Lv S_10 0 x3 x5 hc.cl (cl_0_game hc.cl hL0)  hq_11) rfl rfl hl.1 (Nat.le_of_ble_eq_true rfl) ⟨Nat.le_of_ble_eq_true rfl, Nat.le_of_ble_eq_true rfl, Nat.zero_le _, Nat.zero_le _⟩ dX11_turn_52) hd (fun H locs hd => ?_)
      cases hf
      exact r_iret hc hd hr dX11_turn_55
    · have hf := br_n c_6 hf
      exact hJ_4 S_2 _ _ _ hf hd (lv_sub hl [] rfl)
theorem c_X11_turn (l : Launch) (D : va_G) (cs : Nat → ClassId) (B0 : Nat) (kt : (Nat → Nat) × (Nat → Nat)) (α : Nat → Nat → Nat) (Lv : Nat → Nat → Prop) (S : St) (g0 : Nat) (x1 : Int32) (x2 : Int32) (x3 : Int32) (x4 : Int32) (x5 : Int32) (hcl : Cl Lv) (hL0 : Lv 0 g0) {r : Int32} {S1 : St} (hf : f_X11_turn g0 x1 x2 x3 x4 x5 S = some (.inr r, S1)) : Met l yX11_turn (wz yX11_turn cX11_turn 6 (some .int)) (Rm 11 0 0) (Pz D cs B0 kt α Lv S [.ref (α 0 g0), .int x1, .int x2, .int x3, .int x4, .int x5]) (Qi D cs B0 α Lv r S1) 0 0 (AB B0) := met_of (by decide) rfl hcl (Nat.le_of_ble_eq_true rfl) (fun p e s m below meth c hc hr hd ls hl => b_X11_turn hc hr XH.r hL0 hf hd hl)
theorem xc_X11_turn (l : Launch) (D : va_G) (cs : Nat → ClassId) (B0 : Nat) (kt : (Nat → Nat) × (Nat → Nat)) (α : Nat → Nat → Nat) (Lv : Nat → Nat → Prop) (S : St) (g0 : Nat) (x1 : Int32) (x2 : Int32) (x3 : Int32) (x4 : Int32) (x5 : Int32) (hcl : Cl Lv) (hL0 : Lv 0 g0) {k : Nat} {S1 : St} (hf : f_X11_turn g0 x1 x2 x3 x4 x5 S = some (.inl k, S1)) (hst : l.stackTraces = false) : vx_Met l yX11_turn (wz yX11_turn cX11_turn 6 (some .int)) (Rm 11 1 6) (Pz D cs B0 kt α Lv S [.ref (α 0 g0), .int x1, .int x2, .int x3, .int x4, .int x5]) QF (XQ D cs B0 α Lv k S1) 1 6 (AB B0) := xmet_of (by decide) rfl hcl (Nat.le_of_ble_eq_true rfl) (fun p e s m below meth c hc hr hex hd ls hl => b_X11_turn hc hr (XH.l hst hex) hL0 hf hd hl)
theorem my_X11_turn : MyV yX11_turn "PumpCrossing" cX11_turn 6 (some .int) 5 := ⟨tw_1059, tw_1060, tw_1, tw_1061, by decide +kernel⟩
def f_X11_upper (g0 : Nat) (S : St) : Option (Int64) := some (gl S 0 g0 6)
set_option maxRecDepth 100000 in
set_option maxHeartbeats 4000000 in
theorem b_X11_upper (hc : Cx p s m args meth c cX11_upper 1 "PumpCrossing" D cs B0 kt Lv) (hr : meth.sig.returnType = some .long)  {o : Int64}  {S : St} {g0 : Nat} (hL0 : Lv 0 g0) {H : Heap} {locs : List Loc} {ls : Array Slot} (hf : f_X11_upper g0 S = some o) (hd : Dy s D cs B0 α Lv S H locs) (hl : lv_has ls 1 [(0, .ref (α 0 g0))]) : W p l e (Rm 0 0 0) s m args below meth c H locs 0 0 (MQ below (Ql D cs B0 α Lv o S) args s 0 0 (AB B0)) (F0 m 0 ls []) := by
  unfold f_X11_upper at hf
  refine lv_aload_n hc.x hc.b dX11_upper_0 rfl (lv_at hl 0 rfl) ?_
  refine fg_0_6 hc hd hL0 tw_359 dX11_upper_1 ?_
  cases hf
  exact r_lret hc hd hr dX11_upper_4
theorem c_X11_upper (l : Launch) (D : va_G) (cs : Nat → ClassId) (B0 : Nat) (kt : (Nat → Nat) × (Nat → Nat)) (α : Nat → Nat → Nat) (Lv : Nat → Nat → Prop) (S : St) (g0 : Nat) (hcl : Cl Lv) (hL0 : Lv 0 g0) {o : Int64} (hf : f_X11_upper g0 S = some o) : Met l yX11_upper (wz yX11_upper cX11_upper 1 (some .long)) (Rm 0 0 0) (Pz D cs B0 kt α Lv S [.ref (α 0 g0)]) (Ql D cs B0 α Lv o S) 0 0 (AB B0) := met_of (by decide) rfl hcl (Nat.le_of_ble_eq_true rfl) (fun p e s m below meth c hc hr hd ls hl => b_X11_upper hc hr hL0 hf hd hl)
theorem my_X11_upper : MyV yX11_upper "PumpCrossing" cX11_upper 1 (some .long) 0 := ⟨tw_418, tw_419, tw_1, tw_420, by decide +kernel⟩
def f_X11_would (g0 : Nat) (x1 : Int32) (S : St) : Option ((Nat ⊕ Int32) × St) := xb (τ := Unit) (f_X11_needStation g0 x1 S) (fun _u S_2 => bv (gi S_2 14 (2 * 0) 3) (fun x2_3 => ck (inb x1 4 = true) (on (f_X11_sinceIn x2_3 (gi S_2 5 0 (nn x1)) S_2) (fun r_6 => on2 (f_X2_decide 0 (2 * 0) x1 x2_3 r_6 S_2) (fun r_9 S_8 => some (.inr r_9, S_8))))))
set_option maxRecDepth 100000 in
set_option maxHeartbeats 4000000 in
theorem b_X11_would (hc : Cx p s m args meth c cX11_would 3 "PumpCrossing" D cs B0 kt Lv) (hr : meth.sig.returnType = some .int)  {o : (Nat ⊕ Int32) × St} (hex : XH l c o) {S : St} {g0 : Nat} {x1 : Int32} (hL0 : Lv 0 g0) {H : Heap} {locs : List Loc} {ls : Array Slot} (hf : f_X11_would g0 x1 S = some o) (hd : Dy s D cs B0 α Lv S H locs) (hl : lv_has ls 3 [(0, .ref (α 0 g0)), (1, .int x1)]) : W p l e (RX 9 o) s m args below meth c H locs 0 0 (QXi D cs B0 α Lv o below args s) (F0 m 0 ls []) := by
  unfold f_X11_would at hf
  refine lv_aload_n hc.x hc.b dX11_would_0 rfl (lv_at hl 0 rfl) ?_
  refine lv_iload_n hc.x hc.b dX11_would_1 rfl (lv_at hl 1 rfl) ?_
  rcases xb_s hf with ⟨k9, S9, hq_1, rfl⟩ | ⟨_u, S_2, hq_1, hf⟩
  · exact x_go (x_runV hc hd my_X11_needStation tw_559 hL0 rfl rfl rfl (xc_X11_needStation l D cs B0 kt α Lv S g0 x1 hc.cl hL0  hq_1 hex.1) rfl rfl hl.1 (Nat.le_of_ble_eq_true rfl) ⟨Nat.le_of_ble_eq_true rfl, Nat.le_of_ble_eq_true rfl, Nat.le_of_ble_eq_true rfl, Nat.le_of_ble_eq_true rfl⟩ dX11_would_2) hd hex.2 hc.lk
  refine k_v (k_runV hc hd my_X11_needStation tw_559 hL0 rfl rfl rfl (c_X11_needStation l D cs B0 kt α Lv S g0 x1 hc.cl hL0  hq_1) rfl rfl hl.1 (Nat.le_of_ble_eq_true rfl) ⟨Nat.le_of_ble_eq_true rfl, Nat.le_of_ble_eq_true rfl, Nat.zero_le _, Nat.zero_le _⟩ dX11_would_2) hd (fun H locs hd => ?_)
  refine lv_aload_n hc.x hc.b dX11_would_5 rfl (lv_at hl 0 rfl) ?_
  refine fg_0_0 hc hd hL0 tw_353 dX11_would_6 ?_
  refine fg_2_10 hc hd (cl_0_now hc.cl hL0) tw_158 dX11_would_9 ?_
  refine fg_14_3 hc hd (cl_2_hours hc.cl (cl_0_now hc.cl hL0)) tw_81 dX11_would_12 ?_
  refine lv_topi (fun x2_3 ex2_3 => ?_)
  have hf := bv_n ex2_3 hf
  refine lv_istore_n (lv' := [(2, .int x2_3), (0, .ref (α 0 g0)), (1, .int x1)]) hc.x hc.b dX11_would_15 rfl hl (by decide) rfl (fun ls hl => ?_)
  refine lv_aload_n hc.x hc.b dX11_would_16 rfl (lv_at hl 1 rfl) ?_
  refine fg_0_0 hc hd hL0 tw_353 dX11_would_17 ?_
  refine lv_aload_n hc.x hc.b dX11_would_20 rfl (lv_at hl 1 rfl) ?_
  refine fg_0_0 hc hd hL0 tw_353 dX11_would_21 ?_
  refine fg_2_10 hc hd (cl_0_now hc.cl hL0) tw_158 dX11_would_24 ?_
  refine lv_iload_n hc.x hc.b dX11_would_27 rfl (lv_at hl 2 rfl) ?_
  refine lv_iload_n hc.x hc.b dX11_would_28 rfl (lv_at hl 0 rfl) ?_
  refine lv_iload_n hc.x hc.b dX11_would_29 rfl (lv_at hl 0 rfl) ?_
  refine lv_aload_n hc.x hc.b dX11_would_30 rfl (lv_at hl 1 rfl) ?_
  refine fg_0_0 hc hd hL0 tw_353 dX11_would_31 ?_
  refine fg_2_3 hc hd (cl_0_now hc.cl hL0) tw_143 dX11_would_34 ?_
  refine lv_iload_n hc.x hc.b dX11_would_37 rfl (lv_at hl 2 rfl) ?_
  obtain ⟨hi_4, hf⟩ := ck_s hf
  refine r_iald hc hd (cl_2_changedIn hc.cl (cl_0_now hc.cl hL0)) rfl hi_4 dX11_would_38 ?_
  obtain ⟨r_6, hq_5, hf⟩ := on_s hf
  refine k_i (k_runS hc hd my_X11_sinceIn tw_881 (c_X11_sinceIn l D cs B0 kt α Lv S_2 x2_3 (gi S_2 5 0 (nn x1)) hc.cl   hq_5) rfl rfl hl.1 (Nat.le_of_ble_eq_true rfl) ⟨Nat.le_of_ble_eq_true rfl, Nat.le_of_ble_eq_true rfl, Nat.zero_le _, Nat.zero_le _⟩ dX11_would_39) hd (fun H locs hd => ?_)
  obtain ⟨r_9, S_8, hq_7, hf⟩ := on2_s hf
  refine k_i (k_runV hc hd my_X2_decide tw_882 (cl_0_now hc.cl hL0) rfl rfl rfl (c_X2_decide l D cs B0 kt α Lv S_2 0 (2 * 0) x1 x2_3 r_6 hc.cl (cl_0_now hc.cl hL0) (cl_2_hours hc.cl (cl_0_now hc.cl hL0))  hq_7) rfl rfl hl.1 (Nat.le_of_ble_eq_true rfl) ⟨Nat.le_of_ble_eq_true rfl, Nat.le_of_ble_eq_true rfl, Nat.zero_le _, Nat.zero_le _⟩ dX11_would_42) hd (fun H locs hd => ?_)
  cases hf
  exact r_iret hc hd hr dX11_would_45
theorem c_X11_would (l : Launch) (D : va_G) (cs : Nat → ClassId) (B0 : Nat) (kt : (Nat → Nat) × (Nat → Nat)) (α : Nat → Nat → Nat) (Lv : Nat → Nat → Prop) (S : St) (g0 : Nat) (x1 : Int32) (hcl : Cl Lv) (hL0 : Lv 0 g0) {r : Int32} {S1 : St} (hf : f_X11_would g0 x1 S = some (.inr r, S1)) : Met l yX11_would (wz yX11_would cX11_would 3 (some .int)) (Rm 9 0 0) (Pz D cs B0 kt α Lv S [.ref (α 0 g0), .int x1]) (Qi D cs B0 α Lv r S1) 0 0 (AB B0) := met_of (by decide) rfl hcl (Nat.le_of_ble_eq_true rfl) (fun p e s m below meth c hc hr hd ls hl => b_X11_would hc hr XH.r hL0 hf hd hl)
theorem xc_X11_would (l : Launch) (D : va_G) (cs : Nat → ClassId) (B0 : Nat) (kt : (Nat → Nat) × (Nat → Nat)) (α : Nat → Nat → Nat) (Lv : Nat → Nat → Prop) (S : St) (g0 : Nat) (x1 : Int32) (hcl : Cl Lv) (hL0 : Lv 0 g0) {k : Nat} {S1 : St} (hf : f_X11_would g0 x1 S = some (.inl k, S1)) (hst : l.stackTraces = false) : vx_Met l yX11_would (wz yX11_would cX11_would 3 (some .int)) (Rm 9 1 6) (Pz D cs B0 kt α Lv S [.ref (α 0 g0), .int x1]) QF (XQ D cs B0 α Lv k S1) 1 6 (AB B0) := xmet_of (by decide) rfl hcl (Nat.le_of_ble_eq_true rfl) (fun p e s m below meth c hc hr hex hd ls hl => b_X11_would hc hr (XH.l hst hex) hL0 hf hd hl)
theorem my_X11_would : MyV yX11_would "PumpCrossing" cX11_would 3 (some .int) 1 := ⟨tw_878, tw_879, tw_1, tw_880, by decide +kernel⟩
def f_X11_write (g0 : Nat) (x1 : Int32) (x2 : Int32) (x3 : Int64) (S : St) : Option ((Nat ⊕ Int64) × St) := xb (τ := Unit) (f_X11_needTray g0 x1 S) (fun _u S_2 => xb (τ := Unit) (f_X11_needFilledTray g0 x1 S_2) (fun _u S_4 => bv (fun  (S_5 : St) => some (.inl 4, S_5)) (fun J_6 => br (x2 < 0) (J_6 S_4) (ck (inb x1 4 = true) (br (x2 < (gi S_4 51 0 (nn x1))) (on2 (f_X10_put 0 x1 x2 x3 S_4) (fun r_12 S_11 => some (.inr r_12, S_11))) (J_6 S_4))))))
set_option maxRecDepth 100000 in
set_option maxHeartbeats 4000000 in
theorem b_X11_write (hc : Cx p s m args meth c cX11_write 5 "PumpCrossing" D cs B0 kt Lv) (hr : meth.sig.returnType = some .long)  {o : (Nat ⊕ Int64) × St} (hex : XH l c o) {S : St} {g0 : Nat} {x1 : Int32} {x2 : Int32} {x3 : Int64} (hL0 : Lv 0 g0) {H : Heap} {locs : List Loc} {ls : Array Slot} (hf : f_X11_write g0 x1 x2 x3 S = some o) (hd : Dy s D cs B0 α Lv S H locs) (hl : lv_has ls 5 [(0, .ref (α 0 g0)), (1, .int x1), (2, .int x2), (3, .long x3)]) : W p l e (RX 9 o) s m args below meth c H locs 0 0 (QXl D cs B0 α Lv o below args s) (F0 m 0 ls []) := by
  unfold f_X11_write at hf
  refine lv_aload_n hc.x hc.b dX11_write_0 rfl (lv_at hl 0 rfl) ?_
  refine lv_iload_n hc.x hc.b dX11_write_1 rfl (lv_at hl 1 rfl) ?_
  rcases xb_s hf with ⟨k9, S9, hq_1, rfl⟩ | ⟨_u, S_2, hq_1, hf⟩
  · exact x_go (x_runV hc hd my_X11_needTray tw_1150 hL0 rfl rfl rfl (xc_X11_needTray l D cs B0 kt α Lv S g0 x1 hc.cl hL0  hq_1 hex.1) rfl rfl hl.1 (Nat.le_of_ble_eq_true rfl) ⟨Nat.le_of_ble_eq_true rfl, Nat.le_of_ble_eq_true rfl, Nat.le_of_ble_eq_true rfl, Nat.le_of_ble_eq_true rfl⟩ dX11_write_2) hd hex.2 hc.lk
  refine k_v (k_runV hc hd my_X11_needTray tw_1150 hL0 rfl rfl rfl (c_X11_needTray l D cs B0 kt α Lv S g0 x1 hc.cl hL0  hq_1) rfl rfl hl.1 (Nat.le_of_ble_eq_true rfl) ⟨Nat.le_of_ble_eq_true rfl, Nat.le_of_ble_eq_true rfl, Nat.zero_le _, Nat.zero_le _⟩ dX11_write_2) hd (fun H locs hd => ?_)
  refine lv_aload_n hc.x hc.b dX11_write_5 rfl (lv_at hl 0 rfl) ?_
  refine lv_iload_n hc.x hc.b dX11_write_6 rfl (lv_at hl 1 rfl) ?_
  rcases xb_s hf with ⟨k9, S9, hq_3, rfl⟩ | ⟨_u, S_4, hq_3, hf⟩
  · exact x_go (x_runV hc hd my_X11_needFilledTray tw_1155 hL0 rfl rfl rfl (xc_X11_needFilledTray l D cs B0 kt α Lv S_2 g0 x1 hc.cl hL0  hq_3 hex.1) rfl rfl hl.1 (Nat.le_of_ble_eq_true rfl) ⟨Nat.le_of_ble_eq_true rfl, Nat.le_of_ble_eq_true rfl, Nat.le_of_ble_eq_true rfl, Nat.le_of_ble_eq_true rfl⟩ dX11_write_7) hd hex.2 hc.lk
  refine k_v (k_runV hc hd my_X11_needFilledTray tw_1155 hL0 rfl rfl rfl (c_X11_needFilledTray l D cs B0 kt α Lv S_2 g0 x1 hc.cl hL0  hq_3) rfl rfl hl.1 (Nat.le_of_ble_eq_true rfl) ⟨Nat.le_of_ble_eq_true rfl, Nat.le_of_ble_eq_true rfl, Nat.zero_le _, Nat.zero_le _⟩ dX11_write_7) hd (fun H locs hd => ?_)
  refine lv_iload_n hc.x hc.b dX11_write_10 rfl (lv_at hl 2 rfl) ?_
  refine jn_s (P := fun J_6 => ∀  (S_5 : St) (H : Heap) (locs : List Loc) (ls : Array Slot), J_6 S_5 = some o → Dy s D cs B0 α Lv S_5 H locs → lv_has ls 5 [] → W p l e (RX 9 o) s m args below meth c H locs 0 0 (QXl D cs B0 α Lv o below args s) (F0 m 27 ls [])) hf ?_ (fun J_6 hJ_6 hf => ?_)
  · intro S_5 H locs ls hf hd hl
    cases hf
    exact r_thrw_4 hc hd hl.1 hex.1 hex.2 tw_980 (i := 15) rfl (Nat.le_of_ble_eq_true rfl) (Nat.le_of_ble_eq_true rfl) (Nat.le_of_ble_eq_true rfl) (Nat.le_of_ble_eq_true rfl) dX11_write_27 dX11_write_30 dX11_write_31 dX11_write_34 dX11_write_37
  refine lv_if_lt (tgt := 27) hc.x hc.b dX11_write_11 (by decide) (fun c_7 => ?_) (fun c_7 => ?_)
  · have hf := br_y c_7 hf
    exact hJ_6 S_4 _ _ _ hf hd (lv_sub hl [] rfl)
  · have hf := br_n c_7 hf
    refine lv_iload_n hc.x hc.b dX11_write_14 rfl (lv_at hl 2 rfl) ?_
    refine lv_aload_n hc.x hc.b dX11_write_15 rfl (lv_at hl 0 rfl) ?_
    refine fg_0_3 hc hd hL0 tw_356 dX11_write_16 ?_
    refine fg_49_1 hc hd (cl_0_trays hc.cl hL0) tw_273 dX11_write_19 ?_
    refine lv_iload_n hc.x hc.b dX11_write_22 rfl (lv_at hl 1 rfl) ?_
    obtain ⟨hi_8, hf⟩ := ck_s hf
    refine r_iald hc hd (cl_49_lengths hc.cl (cl_0_trays hc.cl hL0)) rfl hi_8 dX11_write_23 ?_
    refine lv_icmp_lt (tgt := 38) hc.x hc.b dX11_write_24 (by decide) (fun c_9 => ?_) (fun c_9 => ?_)
    · have hf := br_y c_9 hf
      refine lv_aload_n hc.x hc.b dX11_write_38 rfl (lv_at hl 0 rfl) ?_
      refine fg_0_3 hc hd hL0 tw_356 dX11_write_39 ?_
      refine lv_iload_n hc.x hc.b dX11_write_42 rfl (lv_at hl 1 rfl) ?_
      refine lv_iload_n hc.x hc.b dX11_write_43 rfl (lv_at hl 2 rfl) ?_
      refine lv_lload_n hc.x hc.b dX11_write_44 rfl (lv_at hl 3 rfl) ?_
      obtain ⟨r_12, S_11, hq_10, hf⟩ := on2_s hf
      refine k_l (k_runV hc hd my_X10_put tw_1254 (cl_0_trays hc.cl hL0) rfl rfl rfl (c_X10_put l D cs B0 kt α Lv S_4 0 x1 x2 x3 hc.cl (cl_0_trays hc.cl hL0)  hq_10) rfl rfl hl.1 (Nat.le_of_ble_eq_true rfl) ⟨Nat.le_of_ble_eq_true rfl, Nat.le_of_ble_eq_true rfl, Nat.zero_le _, Nat.zero_le _⟩ dX11_write_45) hd (fun H locs hd => ?_)
      cases hf
      exact r_lret hc hd hr dX11_write_48
    · have hf := br_n c_9 hf
      exact hJ_6 S_4 _ _ _ hf hd (lv_sub hl [] rfl)
theorem c_X11_write (l : Launch) (D : va_G) (cs : Nat → ClassId) (B0 : Nat) (kt : (Nat → Nat) × (Nat → Nat)) (α : Nat → Nat → Nat) (Lv : Nat → Nat → Prop) (S : St) (g0 : Nat) (x1 : Int32) (x2 : Int32) (x3 : Int64) (hcl : Cl Lv) (hL0 : Lv 0 g0) {r : Int64} {S1 : St} (hf : f_X11_write g0 x1 x2 x3 S = some (.inr r, S1)) : Met l yX11_write (wz yX11_write cX11_write 5 (some .long)) (Rm 9 0 0) (Pz D cs B0 kt α Lv S [.ref (α 0 g0), .int x1, .int x2, .long x3]) (Ql D cs B0 α Lv r S1) 0 0 (AB B0) := met_of (by decide) rfl hcl (Nat.le_of_ble_eq_true rfl) (fun p e s m below meth c hc hr hd ls hl => b_X11_write hc hr XH.r hL0 hf hd hl)
theorem xc_X11_write (l : Launch) (D : va_G) (cs : Nat → ClassId) (B0 : Nat) (kt : (Nat → Nat) × (Nat → Nat)) (α : Nat → Nat → Nat) (Lv : Nat → Nat → Prop) (S : St) (g0 : Nat) (x1 : Int32) (x2 : Int32) (x3 : Int64) (hcl : Cl Lv) (hL0 : Lv 0 g0) {k : Nat} {S1 : St} (hf : f_X11_write g0 x1 x2 x3 S = some (.inl k, S1)) (hst : l.stackTraces = false) : vx_Met l yX11_write (wz yX11_write cX11_write 5 (some .long)) (Rm 9 1 6) (Pz D cs B0 kt α Lv S [.ref (α 0 g0), .int x1, .int x2, .long x3]) QF (XQ D cs B0 α Lv k S1) 1 6 (AB B0) := xmet_of (by decide) rfl hcl (Nat.le_of_ble_eq_true rfl) (fun p e s m below meth c hc hr hex hd ls hl => b_X11_write hc hr (XH.l hst hex) hL0 hf hd hl)
theorem my_X11_write : MyV yX11_write "PumpCrossing" cX11_write 5 (some .long) 3 := ⟨tw_1250, tw_1251, tw_1, tw_1252, by decide +kernel⟩
end
