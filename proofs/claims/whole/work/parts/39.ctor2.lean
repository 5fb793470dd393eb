section CT2
variable {p : Program} {l : Launch} {e : Env} {R : Room} {s : State} {m : MethodId} {args : Array Value} {below : List Frame} {meth : Method} {c : Code} {H : Heap} {locs : List Loc} {cells slots : Nat} {Q : State → Prop}
variable {cc : ByteArray} {pc : Nat} {ls : Array Slot} {rest : List Value} {nL : Nat} {own : String} {D : va_G} {cs : Nat → ClassId} {B0 : Nat} {kt : (Nat → Nat) × (Nat → Nat)} {α α0 : Nat → Nat → Nat} {Lv Lv0 : Nat → Nat → Prop} {S S' : St} {X : Nat × Nat} {F F' : List (Nat × Nat)}
/-- behind a constructor's call -/
theorem k_c (hc : Cx p s m args meth c cc nL own D cs B0 kt Lv) {st0 : List Value} {a : Array Value} {mc ms K k g : Nat} (hr : va_Run p l e R s m args below meth c H locs cells slots mc ms (F0 m pc ls st0) rest (QN D cs B0 α Lv K k g F' S' a) (AB B0)) (hd : Dy s D cs B0 α Lv S H locs) (hx : Ex α0 Lv0 X α Lv F) (h0 : ¬ Lv0 K g) (hXl : ∀ k' g', (k', g') = X → Lv0 k' g' → Lv k' g')
    (kk : ∀ (α' : Nat → Nat → Nat) (Lv' : Nat → Nat → Prop) (H1 : Heap) (locs1 : List Loc), (∀ k' g', Lv k' g' → α' k' g' = α k' g') → (∀ k' g', Lv k' g' → (k', g') ≠ (K, g) → Lv' k' g') → Lv' k g → α' k g = α K g → Cx p s m args meth c cc nL own D cs B0 kt Lv' → Dy s D cs B0 α' Lv' S' H1 locs1 → Ex α0 Lv0 X α' Lv' (F' ++ F) → W p l e R s m args below meth c H1 locs1 (cells + mc) (slots + ms) Q (F0 m (pc + 3) ls rest)) : W p l e R s m args below meth c H locs cells slots Q (F0 m pc ls st0) :=
  va_callv hr hd.1 (fun q _ h => h) (fun q h => h) (fun u t H1 locs1 ht hvm hw hB hz1 hk1 hS => by
    obtain ⟨⟨e1, e2, e3, e4, e5⟩, n2, n3, n4, n5⟩ := hw
    have hh : ∀ k' g', Lv0 k' g' → (k', g') ≠ X → u.2 k' g' := fun k' g' hl hX => e2 k' g' (hx.2.1 k' g' hl hX) (fun h => h0 (by injection h with a1 a2; rw [← a1, ← a2]; exact hl))
    refine kk u.1 u.2 H1 locs1 e1 e2 n2 n3 (hc.lv n5) ⟨hS, by rw [← ht]; exact hB⟩ ⟨fun k' g' hl => ?_, hh, fun k' g' hl => ?_, e4, hx.2.2.2.2⟩
    · by_cases hX : (k', g') = X
      · exact (e1 k' g' (hXl k' g' hX hl)).trans (hx.1 k' g' hl)
      · exact (e1 k' g' (hx.2.1 k' g' hl hX)).trans (hx.1 k' g' hl)
    · rcases e3 k' g' hl with h | h
      · exact (hx.2.2.1 k' g' h).imp id (List.mem_append_right _)
      · exact Or.inr (List.mem_append_left _ h))
/-- a constructor's return -/
theorem r_vretN (hc : Cx p s m args meth c cc nL own D cs B0 kt Lv) (hd : Dy s D cs B0 α Lv S H locs) (hr : meth.sig.returnType = none) {K k g : Nat} (hx : Ex α0 Lv0 (K, g) α Lv F) (hl : Lv k g) (ha : α k g = α0 K g) (hn : ¬ Lv K g) (hdg : decode cc pc = .ok (.return_, 1)) : W p l e R s m args below meth c H locs cells slots (MQ below (QN D cs B0 α0 Lv0 K k g F S) args s cells slots (AB B0)) (F0 m pc ls []) :=
  W.vret hc.x hc.b hr (fun t ht hW => ⟨⟨(α, Lv), rfl, ⟨hx, hl, ha, hn, hc.cl⟩, wd_eq ht hd.2⟩, hd.1.F ht⟩) hd.1.2.2 hdg hc.lk
end CT2
