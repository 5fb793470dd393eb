section CT3
variable {s : State} {D : va_G} {cs : Nat → ClassId} {B0 : Nat} {α α0 : Nat → Nat → Nat} {Lv Lv0 : Nat → Nat → Prop} {S : St} {H : Heap} {locs : List Loc} {F : List (Nat × Nat)}
/-- the commit: the raw K g is k g from here on -/
theorem x_cm (hd : Dy s D cs B0 α Lv S H locs) (hcl : Cl Lv) {K k g : Nat} (hx : Ex α0 Lv0 (K, g) α Lv F) (hK : 100 ≤ K) (hk : k < 100) (hl : Lv K g) (h0 : ¬ Lv0 k g) (hF : (k, g) ∉ F) (hclA : Cl (adL Lv k g)) (hce : ce cs (up2 α k g (α K g)) (cp S K k g) k g = ce cs α S K g) :
    Dy s D cs B0 (up2 α k g (α K g)) (cmL Lv K k g) (cp S K k g) H locs ∧ Cl (cmL Lv K k g) ∧ Ex α0 Lv0 (K, g) (up2 α k g (α K g)) (cmL Lv K k g) ((k, g) :: F) ∧ cmL Lv K k g k g ∧ up2 α k g (α K g) k g = α K g ∧ ¬ cmL Lv K k g K g ∧ (∀ k' g', Lv k' g' → ¬ (k' = K ∧ g' = g) → cmL Lv K k g k' g' ∧ up2 α k g (α K g) k' g' = α k' g') := by
  have hn := hx.nl h0 hF
  have ha : ∀ k' g', Lv k' g' → up2 α k g (α K g) k' g' = α k' g' := fun k' g' hl' => up2_n (fun e => hn (by rw [← e.1, ← e.2]; exact hl'))
  refine ⟨hd.cm hcl hK hk hl hn hce, cl_rm hK hclA, ⟨fun k' g' h => ?_, fun k' g' h hX => ⟨Or.inr (hx.2.1 k' g' h hX), fun e => hX (by rw [e.1, e.2])⟩, fun k' g' h => ?_, fun k' g' h => ?_, hx.2.2.2.2⟩, ⟨adL.s, fun e => by omega⟩, up2_s, fun h => h.2 ⟨rfl, rfl⟩, fun k' g' h hX => ⟨⟨Or.inr h, hX⟩, ha k' g' h⟩⟩
  · exact (up2_n (fun e => h0 (by rw [← e.1, ← e.2]; exact h))).trans (hx.1 k' g' h)
  · rcases h.1 with e | h
    · exact Or.inr (by rw [e.1, e.2]; exact List.mem_cons_self ..)
    · exact (hx.2.2.1 k' g' h).imp id (List.mem_cons_of_mem _)
  · rcases h.1 with e | h
    · rw [e.1]; omega
    · exact hx.2.2.2.1 k' g' h
end CT3
