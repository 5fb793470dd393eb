section AL2
variable {s : State} {D : va_G} {cs : Nat → ClassId} {B0 : Nat} {α α' : Nat → Nat → Nat} {Lv : Nat → Nat → Prop} {S S' : St} {H H1 : Heap} {locs : List Loc}
theorem Dy.new2 (hd : Dy s D cs B0 α Lv S H locs) (hcl : Cl Lv) (hB : B0 ≤ H.size) {K G : Nat} (hn : ¬ Lv K G) (hKG : α' K G = H.size) (ha : ∀ k g, Lv k g → α' k g = α k g) (hv : ∀ k g, Lv k g → ∀ j, j < 100 → 100 ≤ k → α' (1000 + 100 * (k - 100) + j) g = α (1000 + 100 * (k - 100) + j) g) (hat : va_at D vwCl (H.size, ce cs α' S' K G) H1) (z : H.size ≤ H1.size) (oq : ∀ q, q < H.size → H1[q]? = H[q]?)
    (hS : ∀ k g, ¬ (k = K ∧ g = G) → gi S' k g = gi S k g ∧ gl S' k g = gl S k g ∧ gr S' k g = gr S k g ∧ gn S' k g = gn S k g) (hrK : ∀ j, gr S' K G j = none) : Dy s D cs B0 α' (adL Lv K G) S' H1 locs := by
  obtain ⟨⟨s1, s2, s3⟩, w1, w2, w3, w4⟩ := hd
  have hne : ∀ k g, Lv k g → ¬ (k = K ∧ g = G) := fun k g hl e => hn (by rw [← e.1, ← e.2]; exact hl)
  have hlt : ∀ k g, Lv k g → α k g < H.size := fun k g hl => (w1 k g hl).lt
  refine ⟨⟨Nat.le_trans s1 z, fun q h1 h2 => (oq q (Nat.lt_of_lt_of_le h1 s1)).trans (s2 q h1 h2), s3⟩, ?_, ?_, ?_, ?_⟩
  · intro k g hl
    rcases hl with ⟨rfl, rfl⟩ | hl
    · rw [hKG]; exact hat
    · rw [ha k g hl]
      have h0 := cg_all hcl w4 ha (hv k g hl) hl ((w1 k g hl).kept (oq _ (hlt k g hl)))
      obtain ⟨e1, e2, e3, e4⟩ := hS k g (hne k g hl)
      exact at_eq (ce_no e1 e2 e3 e4) h0
  · intro k g k' g' hl hl' he
    rcases hl with ⟨rfl, rfl⟩ | hl <;> rcases hl' with ⟨rfl, rfl⟩ | hl'
    · exact ⟨rfl, rfl⟩
    · rw [hKG, ha k' g' hl'] at he
      exact absurd he.symm (Nat.ne_of_lt (hlt k' g' hl'))
    · rw [hKG, ha k g hl] at he
      exact absurd he (Nat.ne_of_lt (hlt k g hl))
    · rw [ha k g hl, ha k' g' hl'] at he
      exact w2 k g k' g' hl hl' he
  · intro k g hl
    rcases hl with ⟨rfl, rfl⟩ | hl
    · rw [hKG]; exact hB
    · rw [ha k g hl]; exact w3 k g hl
  · have key : ∀ k0 t0, (∀ g j r, Lv k0 g → gr S k0 g j = some r → Lv t0 r) → ∀ g j r, adL Lv K G k0 g → gr S' k0 g j = some r → adL Lv K G t0 r := by
      intro k0 t0 h0 g j r hl hr
      rcases hl with ⟨rfl, rfl⟩ | hl
      · rw [hrK] at hr; cases hr
      · rw [(hS k0 g (hne k0 g hl)).2.2.1] at hr
        exact Or.inr (h0 g j r hl hr)
    exact ⟨key 1 2 w4.1, key 2 35 w4.2.1, key 8 32 w4.2.2⟩
end AL2
/-- the book with a raw object at a, its slots null -/
def bA (α : Nat → Nat → Nat) (K k G a : Nat) : Nat → Nat → Nat := fun k' g' => if k' = K ∧ g' = G then a else if 1000 + 100 * k ≤ k' ∧ k' < 1100 + 100 * k ∧ g' = G then 0 else α k' g'
theorem bA_s {α : Nat → Nat → Nat} {K k G a : Nat} : bA α K k G a K G = a := if_pos ⟨rfl, rfl⟩
theorem bA_v {α : Nat → Nat → Nat} {K k G a j : Nat} (hK : K < 1000) (hj : j < 100) : bA α K k G a (1000 + 100 * k + j) G = 0 := by
  unfold bA
  rw [if_neg (fun e => by omega), if_pos ⟨by omega, by omega, rfl⟩]
theorem bA_o {α : Nat → Nat → Nat} {K k G a k' g' : Nat} (h1 : ¬ (k' = K ∧ g' = G)) (h2 : ¬ (1000 + 100 * k ≤ k' ∧ k' < 1100 + 100 * k ∧ g' = G)) : bA α K k G a k' g' = α k' g' := by
  unfold bA
  rw [if_neg h1, if_neg h2]
section NO
variable {p : Program} {l : Launch} {e : Env} {R : Room} {s : State} {m : MethodId} {args : Array Value} {below : List Frame} {meth : Method} {c : Code} {H : Heap} {locs : List Loc} {cells slots : Nat} {Q : State → Prop}
variable {cc : ByteArray} {pc : Nat} {ls : Array Slot} {rest : List Value} {nL : Nat} {own : String} {D : va_G} {cs : Nat → ClassId} {B0 : Nat} {kt : (Nat → Nat) × (Nat → Nat)} {α α0 : Nat → Nat → Nat} {Lv Lv0 : Nat → Nat → Prop} {S : St} {X : Nat × Nat} {F : List (Nat × Nat)}
theorem r_newO (hc : Cx p s m args meth c cc nL own D cs B0 kt Lv) (hd : Dy s D cs B0 α Lv S H locs) (hx : Ex α0 Lv0 X α Lv F) {K k G : Nat} (hKk : K = 100 + k) (hk : k < 100) (h0 : ¬ Lv0 K G) (hF : (K, G) ∉ F) {C : String} {T : u_T} {N ci index : Nat} (hin : ∀ w ∈ u_ws C T N, w ∈ lw_good) (ty : Nat → FieldType) (hty : ∀ k, k < N → parseFieldDescriptor (T k).2.2.1 = some (ty k)) (hlink : Cond.classLink own index C ∈ lw_good) (hinst : Cond.instantiable C N ∈ lw_good) (hini : Cond.initialized C ∈ lw_good) (hcl : vwCl[ci]? = some (C, T, N))
    {fs : List Value} (hcz : ∀ β : Nat → Nat → Nat, (∀ j, j < 100 → β (1000 + 100 * k + j) G = 0) → ce0 cs β K G (fun _ => 0) (fun _ => 0) (fun _ => none) 0 = .inr (ci, fs)) (hfs : ∀ j, j < N → defaultValue (ty j) = vp_V fs j) (hR : cells + 1 ≤ R.cells ∧ slots + N ≤ R.slots) (hdg : decode cc pc = .ok (.new index, 3))
    (kk : ∀ (α' : Nat → Nat → Nat) (H1 : Heap), (∀ k g, Lv k g → α' k g = α k g) → (∀ k' g', 1000 ≤ k' → ¬ (1000 + 100 * k ≤ k' ∧ k' < 1100 + 100 * k ∧ g' = G) → α' k' g' = α k' g') → Cx p s m args meth c cc nL own D cs B0 kt (adL Lv K G) → Dy s D cs B0 α' (adL Lv K G) (zr S K G 0) H1 locs → Ex α0 Lv0 X α' (adL Lv K G) ((K, G) :: F) → (∀ j, j < 100 → α' (1000 + 100 * k + j) G = 0) → W p l e R s m args below meth c H1 locs (cells + 1) (slots + N) Q (F0 m (pc + 3) ls (.ref (α' K G) :: rest))) : W p l e R s m args below meth c H locs cells slots Q (F0 m pc ls rest) := by
  have hts : ∀ w ∈ lw_good, w.before args s = true := fun w hw => hc.ts hw
  have hKn := hc.K.1 ci _ hcl
  have hnl := hx.nl h0 hF
  refine W.newcK hc.x hc.b hc.ow (hc.ts hlink) (hc.ts hinst) (hc.ts hini) rfl hdg hR.1 hR.2 hKn.2.1 rfl fun H1 kC hkC e1 z1 o1 => ?_
  have hv0 : ∀ j, j < 100 → bA α K k G H.size (1000 + 100 * k + j) G = 0 := fun j hj => bA_v (by omega) hj
  have ha : ∀ k' g', Lv k' g' → bA α K k G H.size k' g' = α k' g' := fun k' g' hl => bA_o (fun e => hnl (by rw [← e.1, ← e.2]; exact hl)) (fun e => by have := hx.2.2.2.1 k' g' hl; omega)
  have hvo : ∀ k' g', 1000 ≤ k' → ¬ (1000 + 100 * k ≤ k' ∧ k' < 1100 + 100 * k ∧ g' = G) → bA α K k G H.size k' g' = α k' g' := fun k' g' h h2 => bA_o (fun e => by omega) h2
  have hd' := hd.new2 (α' := bA α K k G H.size) (K := K) (G := G) (S' := zr S K G 0) (H1 := H1) hc.cl (Nat.le_trans hc.kc.2.2.2.2.1 hd.1.1) hnl bA_s ha (fun k' g' hl j hj hk' => hvo _ _ (by omega) (fun e => hnl (by
      have e1 : k' = K := by omega
      rw [← e1, ← e.2.2]; exact hl))) (by
    rw [ce_zr, hcz _ hv0]
    exact ⟨_, hcl, (u_born ty hts hin hKn hkC e1 hty).to hfs⟩) (by omega) o1 (fun k g h => zr_o h) (fun j => by show up2 S.2.2.1 K G (fun _ => none) K G j = none; rw [up2_s])
  have hk2 := kk (bA α K k G H.size) H1 ha hvo (hc.lv (cl_ad (fun h => by
    have : ∀ x ∈ clK, x < 100 := by decide
    have := this K h
    omega) hc.cl)) hd' ⟨fun k' g' hl => (bA_o (fun e => h0 (by rw [← e.1, ← e.2]; exact hl)) (fun e => by have := hx.2.2.2.2 k' g' hl; omega)).trans (hx.1 k' g' hl), (hx.ad (a := 0) h0 (by omega)).2⟩ hv0
  rw [bA_s] at hk2
  exact hk2
end NO
