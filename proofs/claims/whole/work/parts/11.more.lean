abbrev rmI (x y : Int32) : Int32 := x - x / y * y
abbrev dvI (x y : Int32) : Int32 := x / y
abbrev rmL (x y : Int64) : Int64 := x - x / y * y
abbrev dvL (x y : Int64) : Int64 := x / y
abbrev usI (x y : Int32) : Int32 := (x.toUInt32 >>> (y.toUInt32 &&& Int32.toUInt32 31)).toInt32
abbrev usL (x : Int64) (y : Int32) : Int64 := (x.toUInt64 >>> (y.toInt64.toUInt64 &&& Int64.toUInt64 63)).toInt64
abbrev slL (x : Int64) (y : Int32) : Int64 := x <<< (y.toInt64 &&& 63)
abbrev srL (x : Int64) (y : Int32) : Int64 := x >>> (y.toInt64 &&& 63)
abbrev tb (x : Int32) : Int32 := x.toInt8.toInt32
abbrev ts (x : Int32) : Int32 := x.toInt16.toInt32
abbrev mnI (x y : Int32) : Int32 := if y < x then y else x
abbrev mxI (x y : Int32) : Int32 := if x < y then y else x
abbrev abI (x : Int32) : Int32 := if 0 ≤ x then x else 0 - x
theorem inb_lt {i : Int32} {n : Nat} (h : inb i n = true) : nn i < n := Nat.not_le.mp fun q => inb_in h (Or.inr q)
def on2 {σ ρ : Type} (v : Option (σ × St)) (k : σ → St → Option ρ) : Option ρ := match v with
  | none => none
  | some (x, S) => k x S
theorem on2_s {σ ρ : Type} {v : Option (σ × St)} {k : σ → St → Option ρ} {r : ρ} (h : on2 v k = some r) : ∃ x S, v = some (x, S) ∧ k x S = some r := by
  cases v with
  | none => cases h
  | some q => exact ⟨q.1, q.2, rfl, h⟩
theorem oz_n {σ ρ : Type} {v : Option σ} {a : ρ} {b : σ → ρ} {r : ρ} (e : v = none) (h : oz v a b = r) : a = r := by subst e; exact h
theorem oz_s {σ ρ : Type} {v : Option σ} {a : ρ} {b : σ → ρ} {r : ρ} {x : σ} (e : v = some x) (h : oz v a b = r) : b x = r := by subst e; exact h
theorem nmD {s : State} {D : va_G} {cs : Nat → ClassId} {B0 : Nat} {α : Nat → Nat → Nat} {Lv : Nat → Nat → Prop} {H : Heap} {locs : List Loc} {ρ : Type} {e : St} {k : St → ρ} {r : ρ} (hd : Dy s D cs B0 α Lv e H locs) (hf : bv e k = r) : ∃ S1, Dy s D cs B0 α Lv S1 H locs ∧ k S1 = r := ⟨e, hd, hf⟩
theorem jn_s {τ ρ : Type} {e : τ} {k : τ → ρ} {r : ρ} {G : Prop} (P : τ → Prop) (hf : bv e k = r) (h1 : P e) (h2 : ∀ J, P J → k J = r → G) : G := h2 e h1 hf
theorem xb_s {σ ρ : Type} {v : Option ((Nat ⊕ σ) × St)} {k : σ → St → Option ((Nat ⊕ ρ) × St)} {o : (Nat ⊕ ρ) × St} (h : xb (τ := Unit) v k = some o) : (∃ n S, v = some (.inl n, S) ∧ o = (.inl n, S)) ∨ ∃ x S, v = some (.inr x, S) ∧ k x S = some o := by
  match v, h with
  | none, h => cases h
  | some (.inl n, S), h => exact Or.inl ⟨n, S, rfl, (Option.some.inj h).symm⟩
  | some (.inr x, S), h => exact Or.inr ⟨x, S, rfl, h⟩
theorem sw_out {x : Int32} {lo hi : Int} (h : ∀ z : Int, lo ≤ z → z ≤ hi → ¬ x = Int32.ofInt z) : x.toInt < lo ∨ hi < x.toInt := by
  by_cases h1 : x.toInt < lo
  · exact Or.inl h1
  · by_cases h2 : hi < x.toInt
    · exact Or.inr h2
    · exact absurd (Int32.ofInt_toInt x).symm (h x.toInt (by omega) (by omega))
theorem look_out {x : Int32} {df o0 o1 : Int} (h0 : ¬ x = 0) (h1 : ¬ x = 1) : Op.lookupswitch.offset [(0, o0), (1, o1)] df x.toInt = df := by
  have e0 : ¬ x.toInt = 0 := fun e => h0 (by rw [← Int32.ofInt_toInt x, e]; rfl)
  have e1 : ¬ x.toInt = 1 := fun e => h1 (by rw [← Int32.ofInt_toInt x, e]; rfl)
  simp [Op.lookupswitch.offset, e0, e1, Ne.symm e0, Ne.symm e1]
def cpok (sp dp n : Int32) (n0 n1 : Nat) : Bool := !decide (sp < 0) && (!decide (dp < 0) && (!decide (n < 0) && (decide (nn sp + nn n ≤ n0) && decide (nn dp + nn n ≤ n1))))
theorem cpok_s {sp dp n : Int32} {n0 n1 : Nat} (h : cpok sp dp n n0 n1 = true) : ¬ sp < 0 ∧ ¬ dp < 0 ∧ ¬ n < 0 ∧ nn sp + nn n ≤ n0 ∧ nn dp + nn n ≤ n1 := by
  unfold cpok at h
  simpa using h
section RW2
variable {p : Program} {l : Launch} {e : Env} {R : Room} {s : State} {m : MethodId} {args : Array Value} {below : List Frame} {meth : Method} {c : Code} {H : Heap} {locs : List Loc} {cells slots : Nat} {Q : State → Prop}
variable {cc : ByteArray} {pc : Nat} {ls : Array Slot} {rest : List Value} {nL : Nat} {own : String} {D : va_G} {cs : Nat → ClassId} {B0 : Nat} {kt : (Nat → Nat) × (Nat → Nat)} {α : Nat → Nat → Nat} {Lv : Nat → Nat → Prop} {S : St}
theorem r_alN (hc : Cx p s m args meth c cc nL own D cs B0 kt Lv) {k : Fin 4} {i : Nat} {v : Option Nat} (hdg : decode cc pc = .ok (.aload_n k, 1)) (hi : (k : Nat) = i) (hl : ls[i]? = some (.val (va_rf v))) (kk : W p l e R s m args below meth c H locs cells slots Q (F0 m (pc + 1) ls (va_rf v :: rest))) : W p l e R s m args below meth c H locs cells slots Q (F0 m pc ls rest) := by
  cases v with
  | none => exact lv_aload_nN hc.x hc.b hdg hi hl kk
  | some x => exact lv_aload_n hc.x hc.b hdg hi hl kk
theorem r_al (hc : Cx p s m args meth c cc nL own D cs B0 kt Lv) {i : Nat} {v : Option Nat} (hdg : decode cc pc = .ok (.aload i, 2)) (hl : ls[i]? = some (.val (va_rf v))) (kk : W p l e R s m args below meth c H locs cells slots Q (F0 m (pc + 2) ls (va_rf v :: rest))) : W p l e R s m args below meth c H locs cells slots Q (F0 m pc ls rest) := by
  cases v with
  | none => exact lv_aloadN hc.x hc.b hdg hl kk
  | some x => exact lv_aload hc.x hc.b hdg hl kk
theorem r_asN (hc : Cx p s m args meth c cc nL own D cs B0 kt Lv) {k : Fin 4} {i nL2 : Nat} {v : Option Nat} {lv lv' : List (Nat × Value)} (hdg : decode cc pc = .ok (.astore_n k, 1)) (hi : (k : Nat) = i) (h : lv_has ls nL2 lv) (hn : i < nL2) (hl : (i, va_rf v) :: lv.filter (fun q => !(q.1 == i) && !(q.1 + 1 == i && q.2.category == 2)) = lv') (kk : ∀ ls' : Array Slot, lv_has ls' nL2 lv' → W p l e R s m args below meth c H locs cells slots Q (F0 m (pc + 1) ls' rest)) : W p l e R s m args below meth c H locs cells slots Q (F0 m pc ls (va_rf v :: rest)) := by
  cases v with
  | none => exact lv_astore_nN hc.x hc.b hdg hi h hn hl kk
  | some x => exact lv_astore_n hc.x hc.b hdg hi h hn hl kk
theorem r_as (hc : Cx p s m args meth c cc nL own D cs B0 kt Lv) {i nL2 : Nat} {v : Option Nat} {lv lv' : List (Nat × Value)} (hdg : decode cc pc = .ok (.astore i, 2)) (h : lv_has ls nL2 lv) (hn : i < nL2) (hl : (i, va_rf v) :: lv.filter (fun q => !(q.1 == i) && !(q.1 + 1 == i && q.2.category == 2)) = lv') (kk : ∀ ls' : Array Slot, lv_has ls' nL2 lv' → W p l e R s m args below meth c H locs cells slots Q (F0 m (pc + 2) ls' rest)) : W p l e R s m args below meth c H locs cells slots Q (F0 m pc ls (va_rf v :: rest)) := by
  cases v with
  | none => exact lv_astoreN hc.x hc.b hdg h hn hl kk
  | some x => exact lv_astore hc.x hc.b hdg h hn hl kk
theorem r_ifnonnull (hc : Cx p s m args meth c cc nL own D cs B0 kt Lv) {v : Option Nat} {f : Nat → Nat} {off : Int} {tgt : Nat} (hdg : decode cc pc = .ok (.ifnonnull off, 3)) (ht : (pc : Int) + off = (tgt : Int)) (kn : v = none → W p l e R s m args below meth c H locs cells slots Q (F0 m (pc + 3) ls rest)) (ks : ∀ x, v = some x → W p l e R s m args below meth c H locs cells slots Q (F0 m tgt ls rest)) : W p l e R s m args below meth c H locs cells slots Q (F0 m pc ls (va_rf (Option.map f v) :: rest)) := by
  cases v with
  | none => exact lv_ifnonnullN hc.x hc.b hdg (kn rfl)
  | some x => exact lv_ifnonnull hc.x hc.b hdg ht (ks x rfl)
theorem r_ifnull (hc : Cx p s m args meth c cc nL own D cs B0 kt Lv) {v : Option Nat} {f : Nat → Nat} {off : Int} {tgt : Nat} (hdg : decode cc pc = .ok (.ifnull off, 3)) (ht : (pc : Int) + off = (tgt : Int)) (kn : v = none → W p l e R s m args below meth c H locs cells slots Q (F0 m tgt ls rest)) (ks : ∀ x, v = some x → W p l e R s m args below meth c H locs cells slots Q (F0 m (pc + 3) ls rest)) : W p l e R s m args below meth c H locs cells slots Q (F0 m pc ls (va_rf (Option.map f v) :: rest)) := by
  cases v with
  | none => exact lv_ifnullN hc.x hc.b hdg ht (kn rfl)
  | some x => exact lv_ifnull hc.x hc.b hdg (ks x rfl)
theorem r_min (hc : Cx p s m args meth c cc nL own D cs B0 kt Lv) (hls : ls.size = nL) {index : Nat} (hlk : Cond.methodLink own index ⟨"java/lang/Math", "min", "(II)I"⟩ ∈ lw_good) (h1 : 1 ≤ R.frames) (h2 : (rest.map fun v => v.category).sum + 13 ≤ R.locals) (h3 : cells ≤ R.cells) (h4 : slots ≤ R.slots) {x y : Int32} (hdg : decode cc pc = .ok (.invokestatic index, 3)) (kk : W p l e R s m args below meth c H locs cells slots Q (F0 m (pc + 3) ls (.int (mnI x y) :: rest))) : W p l e R s m args below meth c H locs cells slots Q (F0 m pc ls (.int y :: .int x :: rest)) :=
  va_mmin hc.x hc.b (hc.ml.trans hls.symm) hc.ow (hc.ts hlk) (hc.ts tw_407) (hc.ts tw_24) (hc.ts tw_408) h1 h2 h3 h4 hdg kk
theorem r_max (hc : Cx p s m args meth c cc nL own D cs B0 kt Lv) (hls : ls.size = nL) {index : Nat} (hlk : Cond.methodLink own index ⟨"java/lang/Math", "max", "(II)I"⟩ ∈ lw_good) (h1 : 1 ≤ R.frames) (h2 : (rest.map fun v => v.category).sum + 13 ≤ R.locals) (h3 : cells ≤ R.cells) (h4 : slots ≤ R.slots) {x y : Int32} (hdg : decode cc pc = .ok (.invokestatic index, 3)) (kk : W p l e R s m args below meth c H locs cells slots Q (F0 m (pc + 3) ls (.int (mxI x y) :: rest))) : W p l e R s m args below meth c H locs cells slots Q (F0 m pc ls (.int y :: .int x :: rest)) :=
  va_mmax hc.x hc.b (hc.ml.trans hls.symm) hc.ow (hc.ts hlk) (hc.ts tw_791) (hc.ts tw_24) (hc.ts tw_792) h1 h2 h3 h4 hdg kk
theorem r_abs (hc : Cx p s m args meth c cc nL own D cs B0 kt Lv) (hls : ls.size = nL) {index : Nat} (hlk : Cond.methodLink own index ⟨"java/lang/Math", "abs", "(I)I"⟩ ∈ lw_good) (h1 : 1 ≤ R.frames) (h2 : (rest.map fun v => v.category).sum + 13 ≤ R.locals) (h3 : cells ≤ R.cells) (h4 : slots ≤ R.slots) {x : Int32} (hdg : decode cc pc = .ok (.invokestatic index, 3)) (kk : W p l e R s m args below meth c H locs cells slots Q (F0 m (pc + 3) ls (.int (abI x) :: rest))) : W p l e R s m args below meth c H locs cells slots Q (F0 m pc ls (.int x :: rest)) :=
  va_mabs hc.x hc.b (hc.ml.trans hls.symm) hc.ow (hc.ts hlk) (hc.ts tw_943) (hc.ts tw_24) (hc.ts tw_944) h1 h2 h3 h4 hdg kk
theorem r_copyi (hc : Cx p s m args meth c cc nL own D cs B0 kt Lv) (hd : Dy s D cs B0 α Lv S H locs) (hls : ls.size = nL) {index : Nat} (hlk : Cond.methodLink own index arraycopyName ∈ lw_good) {k1 g1 k2 g2 n0 n1 : Nat} (hl1 : Lv k1 g1) (hl2 : Lv k2 g2) (hce1 : ce cs α S k1 g1 = .inl (cs 0, n0, .inl (gi S k1 g1))) (hce : ∀ f : Nat → Int32, ce0 cs α k2 g2 f (gl S k2 g2) (gr S k2 g2) (gn S k2 g2) = .inl (cs 0, n1, .inl f)) {sp dp n : Int32} (hok : cpok sp dp n n0 n1 = true) (hframes : 1 ≤ R.frames) (hlocals : (rest.map fun v => v.category).sum + (nativeFrameWords "java/lang/System" "arraycopy" 5 + 11) ≤ R.locals) (hdg : decode cc pc = .ok (.invokestatic index, 3))
    (kk : ∀ (H1 : Heap) (locs1 : List Loc), Dy s D cs B0 α Lv (ai S k2 g2 (va_cpy (gi S k1 g1) (gi S k2 g2) (nn sp) (nn dp) (nn n))) H1 locs1 → W p l e R s m args below meth c H1 locs1 cells slots Q (F0 m (pc + 3) ls rest)) : W p l e R s m args below meth c H locs cells slots Q (F0 m pc ls (.int n :: .int dp :: .ref (α k2 g2) :: .int sp :: .ref (α k1 g1) :: rest)) := by
  obtain ⟨h1, h2, h3, h4, h5⟩ := cpok_s hok
  have h4 : sp.toNatClampNeg + n.toNatClampNeg ≤ n0 := h4
  have h5 : dp.toNatClampNeg + n.toNatClampNeg ≤ n1 := h5
  have nz : ∀ z : Int32, ¬ z < 0 → z.toInt = (z.toNatClampNeg : Int) := by
    intro z hz
    have hz0 : (0 : Int) ≤ z.toInt := by
      have := Int32.not_lt.mp hz
      simpa using Int32.le_iff_toInt_le.mp this
    show z.toInt = ((z.toInt.toNat : Nat) : Int)
    omega
  intro T hT X
  have hce2 : ce cs α S k2 g2 = .inl (cs 0, n1, .inl (gi S k2 g2)) := hce _
  have hce3 : ce cs α (ai S k2 g2 (va_cpy (gi S k1 g1) (gi S k2 g2) (nn sp) (nn dp) (nn n))) k2 g2 = .inl (cs 0, n1, .inl (va_cpy (gi S k1 g1) (gi S k2 g2) (nn sp) (nn dp) (nn n))) := by rw [ce_s_ai]; exact hce _
  have hc0 := hd.2.1 k1 g1 hl1
  have hc1 := hd.2.1 k2 g2 hl2
  rw [hce1] at hc0
  rw [hce2] at hc1
  have hc0 : H[α k1 g1]? = some (vp_cell (cs 0) (n0, .inl (gi S k1 g1))) := hc0
  have hc1 : H[α k2 g2]? = some (vp_cell (cs 0) (n1, .inl (gi S k2 g2))) := hc1
  generalize hfe : gi S k1 g1 = f at hc0 hce3 ⊢
  generalize hge : gi S k2 g2 = g at hc1 hce3 ⊢
  obtain ⟨-, k0, hk0, cm0, hkk0⟩ := (hc.K.2 0 _ rfl).1 n0 (fun j => .int (f j))
  obtain ⟨-, k9, hk9, cm9, hkk9⟩ := (hc.K.2 0 _ rfl).1 n1 (fun j => .int (g j))
  obtain ⟨vm', X', step⟩ := X.arraycopy hc.x hc.ow (hc.ts hlk) (hc.ts tw_600) (hc.ts tw_599) (hc.ts tw_18) (src := α k1 g1) (dst := α k2 g2) (cs := vp_cell (cs 0) (n0, .inl f)) (cd := vp_cell (cs 0) (n1, .inl g)) (srcPos := sp) (destPos := dp) (n := n) (by rw [hT]; exact hc0) (by rw [hT]; exact hc1)
    (fun _ h => by cases h) (fun _ h => by cases h) (fun h => by cases h) (fun h => by cases h) hk0 hk9 hkk0 hkk9 (by simp [refKind]) h1 h2 h3
    (by rw [nz sp h1, nz n h3]; show ¬ _ > ((arrV (cs 0) n0 (fun j => .int (f j))).slots.size : Int); rw [arrV_size]; omega)
    (by rw [nz dp h2, nz n h3]; show ¬ _ > ((arrV (cs 0) n1 (fun j => .int (g j))).slots.size : Int); rw [arrV_size]; omega)
    (fun vm₁ _ i hi => by
      have e : (vp_cell (cs 0) (n0, .inl f)).slots.getD (sp.toNatClampNeg + i) .null = .int (f (sp.toNatClampNeg + i)) := by
        show (arrV (cs 0) n0 (fun j => .int (f j))).slots.getD _ _ = _
        rw [Array.getD_eq_getD_getElem?, arrV_read _ _ (by omega)]
        rfl
      refine ⟨?_, ?_⟩
      · rw [e]
        rfl
      · rw [e]
        exact trivial)
    (g := F0 m pc ls (.int n :: .int dp :: .ref (α k2 g2) :: .int sp :: .ref (α k1 g1) :: rest)) rfl (by rw [hc.ml]; exact hls) (rest := rest) rfl (by rw [hc.b]; exact hdg) hframes (by show 2 * 0 + _ + _ ≤ _; omega)
  have e1 : copied (vp_cell (cs 0) (n0, .inl f)) (vp_cell (cs 0) (n1, .inl g)) sp dp n = vp_cell (cs 0) (n1, .inl (va_cpy f g sp.toNatClampNeg dp.toNatClampNeg n.toNatClampNeg)) := va_copied (fun z => .int z) (cs 0) (cs 0) f g h4
  rw [e1] at X' step
  have hl : α k2 g2 < H.size := (Array.getElem?_eq_some_iff.mp hc1).1
  generalize hC : vp_cell (cs 0) (n1, .inl (va_cpy f g sp.toNatClampNeg dp.toNatClampNeg n.toNatClampNeg)) = C1 at X' step
  have hheap : ((T.setVm vm').setCell (α k2 g2) C1).heap = H.setIfInBounds (α k2 g2) C1 := by rw [← hT]; rfl
  have oq : ∀ q : Nat, q ≠ α k2 g2 → (H.setIfInBounds (α k2 g2) C1)[q]? = H[q]? := fun q hq => by simp [Array.getElem?_setIfInBounds, Ne.symm hq]
  obtain ⟨t, a1, b1⟩ := kk _ _ (hd.put hl2 (S' := (ai S k2 g2 (va_cpy (gi S k1 g1) (gi S k2 g2) (nn sp) (nn dp) (nn n)))) (by
      rw [hfe, hge, hce3]
      show (H.setIfInBounds (α k2 g2) C1)[α k2 g2]? = some _
      rw [← hC]
      simp [Array.getElem?_setIfInBounds, hl]) (by simp) oq ce_ai hd.2.2.2.2 (fun q hq => by
      rcases List.mem_append.mp hq with h | h
      · exact Or.inl h
      · obtain ⟨z, -, hz⟩ := List.mem_map.mp h
        exact Or.inr (by rw [← hz]))) _ hheap X'
  exact ⟨t, step t a1, b1⟩
theorem r_copyl (hc : Cx p s m args meth c cc nL own D cs B0 kt Lv) (hd : Dy s D cs B0 α Lv S H locs) (hls : ls.size = nL) {index : Nat} (hlk : Cond.methodLink own index arraycopyName ∈ lw_good) {k1 g1 k2 g2 n0 n1 : Nat} (hl1 : Lv k1 g1) (hl2 : Lv k2 g2) (hce1 : ce cs α S k1 g1 = .inl (cs 1, n0, .inr (.inl (gl S k1 g1)))) (hce : ∀ f : Nat → Int64, ce0 cs α k2 g2 (gi S k2 g2) f (gr S k2 g2) (gn S k2 g2) = .inl (cs 1, n1, .inr (.inl f))) {sp dp n : Int32} (hok : cpok sp dp n n0 n1 = true) (hframes : 1 ≤ R.frames) (hlocals : (rest.map fun v => v.category).sum + (nativeFrameWords "java/lang/System" "arraycopy" 5 + 11) ≤ R.locals) (hdg : decode cc pc = .ok (.invokestatic index, 3))
    (kk : ∀ (H1 : Heap) (locs1 : List Loc), Dy s D cs B0 α Lv (al S k2 g2 (va_cpy (gl S k1 g1) (gl S k2 g2) (nn sp) (nn dp) (nn n))) H1 locs1 → W p l e R s m args below meth c H1 locs1 cells slots Q (F0 m (pc + 3) ls rest)) : W p l e R s m args below meth c H locs cells slots Q (F0 m pc ls (.int n :: .int dp :: .ref (α k2 g2) :: .int sp :: .ref (α k1 g1) :: rest)) := by
  obtain ⟨h1, h2, h3, h4, h5⟩ := cpok_s hok
  have h4 : sp.toNatClampNeg + n.toNatClampNeg ≤ n0 := h4
  have h5 : dp.toNatClampNeg + n.toNatClampNeg ≤ n1 := h5
  have nz : ∀ z : Int32, ¬ z < 0 → z.toInt = (z.toNatClampNeg : Int) := by
    intro z hz
    have hz0 : (0 : Int) ≤ z.toInt := by
      have := Int32.not_lt.mp hz
      simpa using Int32.le_iff_toInt_le.mp this
    show z.toInt = ((z.toInt.toNat : Nat) : Int)
    omega
  intro T hT X
  have hce2 : ce cs α S k2 g2 = .inl (cs 1, n1, .inr (.inl (gl S k2 g2))) := hce _
  have hce3 : ce cs α (al S k2 g2 (va_cpy (gl S k1 g1) (gl S k2 g2) (nn sp) (nn dp) (nn n))) k2 g2 = .inl (cs 1, n1, .inr (.inl (va_cpy (gl S k1 g1) (gl S k2 g2) (nn sp) (nn dp) (nn n)))) := by rw [ce_s_al]; exact hce _
  have hc0 := hd.2.1 k1 g1 hl1
  have hc1 := hd.2.1 k2 g2 hl2
  rw [hce1] at hc0
  rw [hce2] at hc1
  have hc0 : H[α k1 g1]? = some (vp_cell (cs 1) (n0, .inr (.inl (gl S k1 g1)))) := hc0
  have hc1 : H[α k2 g2]? = some (vp_cell (cs 1) (n1, .inr (.inl (gl S k2 g2)))) := hc1
  generalize hfe : gl S k1 g1 = f at hc0 hce3 ⊢
  generalize hge : gl S k2 g2 = g at hc1 hce3 ⊢
  obtain ⟨-, k0, hk0, cm0, hkk0⟩ := (hc.K.2 1 _ rfl).1 n0 (fun j => .long (f j))
  obtain ⟨-, k9, hk9, cm9, hkk9⟩ := (hc.K.2 1 _ rfl).1 n1 (fun j => .long (g j))
  obtain ⟨vm', X', step⟩ := X.arraycopy hc.x hc.ow (hc.ts hlk) (hc.ts tw_600) (hc.ts tw_599) (hc.ts tw_18) (src := α k1 g1) (dst := α k2 g2) (cs := vp_cell (cs 1) (n0, .inr (.inl f))) (cd := vp_cell (cs 1) (n1, .inr (.inl g))) (srcPos := sp) (destPos := dp) (n := n) (by rw [hT]; exact hc0) (by rw [hT]; exact hc1)
    (fun _ h => by cases h) (fun _ h => by cases h) (fun h => by cases h) (fun h => by cases h) hk0 hk9 hkk0 hkk9 (by simp [refKind]) h1 h2 h3
    (by rw [nz sp h1, nz n h3]; show ¬ _ > ((arrV (cs 1) n0 (fun j => .long (f j))).slots.size : Int); rw [arrV_size]; omega)
    (by rw [nz dp h2, nz n h3]; show ¬ _ > ((arrV (cs 1) n1 (fun j => .long (g j))).slots.size : Int); rw [arrV_size]; omega)
    (fun vm₁ _ i hi => by
      have e : (vp_cell (cs 1) (n0, .inr (.inl f))).slots.getD (sp.toNatClampNeg + i) .null = .long (f (sp.toNatClampNeg + i)) := by
        show (arrV (cs 1) n0 (fun j => .long (f j))).slots.getD _ _ = _
        rw [Array.getD_eq_getD_getElem?, arrV_read _ _ (by omega)]
        rfl
      refine ⟨?_, ?_⟩
      · rw [e]
        rfl
      · rw [e]
        exact trivial)
    (g := F0 m pc ls (.int n :: .int dp :: .ref (α k2 g2) :: .int sp :: .ref (α k1 g1) :: rest)) rfl (by rw [hc.ml]; exact hls) (rest := rest) rfl (by rw [hc.b]; exact hdg) hframes (by show 2 * 0 + _ + _ ≤ _; omega)
  have e1 : copied (vp_cell (cs 1) (n0, .inr (.inl f))) (vp_cell (cs 1) (n1, .inr (.inl g))) sp dp n = vp_cell (cs 1) (n1, .inr (.inl (va_cpy f g sp.toNatClampNeg dp.toNatClampNeg n.toNatClampNeg))) := va_copied (fun z => .long z) (cs 1) (cs 1) f g h4
  rw [e1] at X' step
  have hl : α k2 g2 < H.size := (Array.getElem?_eq_some_iff.mp hc1).1
  generalize hC : vp_cell (cs 1) (n1, .inr (.inl (va_cpy f g sp.toNatClampNeg dp.toNatClampNeg n.toNatClampNeg))) = C1 at X' step
  have hheap : ((T.setVm vm').setCell (α k2 g2) C1).heap = H.setIfInBounds (α k2 g2) C1 := by rw [← hT]; rfl
  have oq : ∀ q : Nat, q ≠ α k2 g2 → (H.setIfInBounds (α k2 g2) C1)[q]? = H[q]? := fun q hq => by simp [Array.getElem?_setIfInBounds, Ne.symm hq]
  obtain ⟨t, a1, b1⟩ := kk _ _ (hd.put hl2 (S' := (al S k2 g2 (va_cpy (gl S k1 g1) (gl S k2 g2) (nn sp) (nn dp) (nn n)))) (by
      rw [hfe, hge, hce3]
      show (H.setIfInBounds (α k2 g2) C1)[α k2 g2]? = some _
      rw [← hC]
      simp [Array.getElem?_setIfInBounds, hl]) (by simp) oq ce_al hd.2.2.2.2 (fun q hq => by
      rcases List.mem_append.mp hq with h | h
      · exact Or.inl h
      · obtain ⟨z, -, hz⟩ := List.mem_map.mp h
        exact Or.inr (by rw [← hz]))) _ hheap X'
  exact ⟨t, step t a1, b1⟩
end RW2
