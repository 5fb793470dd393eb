def tys (cs : Nat → ClassId) : List (ClassId × FieldType) := [(cs 0, .int), (cs 1, .long), (cs 2, .byte), (cs 3, .boolean), (cs 4, .object "PumpCrossing$Crossing"), (cs 5, .object "PumpCrossing$Rules"), (cs 6, .array .int), (cs 7, .array .long)]
/-- references that change point to live cells -/
def Rv (Lv : Nat → Nat → Prop) (S : St) : Prop := (∀ g j r, Lv 1 g → gr S 1 g j = some r → Lv 2 r) ∧ (∀ g j r, Lv 2 g → gr S 2 g j = some r → Lv 35 r) ∧ (∀ g j r, Lv 8 g → gr S 8 g j = some r → Lv 32 r)
/-- the heap holds S: every live cell lies at its address, apart from the others, behind B0 -/
def Wd (D : va_G) (cs : Nat → ClassId) (B0 : Nat) (α : Nat → Nat → Nat) (Lv : Nat → Nat → Prop) (S : St) (H : Heap) : Prop :=
  (∀ k g, Lv k g → va_at D vwCl (α k g, ce cs α S k g) H) ∧ (∀ k g k' g', Lv k g → Lv k' g' → α k g = α k' g' → k = k' ∧ g = g') ∧ (∀ k g, Lv k g → B0 ≤ α k g) ∧ Rv Lv S
def Dy (s : State) (D : va_G) (cs : Nat → ClassId) (B0 : Nat) (α : Nat → Nat → Nat) (Lv : Nat → Nat → Prop) (S : St) (H : Heap) (locs : List Loc) : Prop := va_S (fun q => B0 ≤ q) s.heap H locs ∧ Wd D cs B0 α Lv S H
theorem Dy.at {s : State} {D : va_G} {cs : Nat → ClassId} {B0 : Nat} {α : Nat → Nat → Nat} {Lv : Nat → Nat → Prop} {S : St} {H : Heap} {locs : List Loc} (hd : Dy s D cs B0 α Lv S H locs) {k g : Nat} (hl : Lv k g) : va_P D vwCl [(α k g, ce cs α S k g)] H := by
  intro i q hi
  match i, hi with
  | 0, hi => cases hi; exact hd.2.1 k g hl
  | i + 1, hi => cases hi
theorem Dy.put {s : State} {D : va_G} {cs : Nat → ClassId} {B0 : Nat} {α : Nat → Nat → Nat} {Lv : Nat → Nat → Prop} {S S' : St} {H H1 : Heap} {locs locs1 : List Loc} (hd : Dy s D cs B0 α Lv S H locs) {k g : Nat} (hl : Lv k g)
    (he : va_at D vwCl (α k g, ce cs α S' k g) H1) (z : H1.size = H.size) (oq : ∀ q : Nat, q ≠ α k g → H1[q]? = H[q]?) (hc : ∀ k' g', ¬ (k' = k ∧ g' = g) → ce cs α S' k' g' = ce cs α S k' g') (hrv : Rv Lv S') (hlo : ∀ x ∈ locs1, x ∈ locs ∨ x.base = α k g) : Dy s D cs B0 α Lv S' H1 locs1 := by
  obtain ⟨⟨s1, s2, s3⟩, w1, w2, w3, w4⟩ := hd
  refine ⟨⟨by rw [z]; exact s1, fun q h1 h2 => ?_, fun q hq => ?_⟩, fun k' g' hl' => ?_, w2, w3, hrv⟩
  · rw [oq q (fun e => h2 (by show B0 ≤ q; rw [e]; exact w3 k g hl))]
    exact s2 q h1 h2
  · rcases hlo q hq with h | h
    · exact s3 q h
    · show B0 ≤ q.base
      rw [h]; exact w3 k g hl
  · by_cases hk : k' = k ∧ g' = g
    · rw [hk.1, hk.2]; exact he
    · rw [hc k' g' hk]
      exact (w1 k' g' hl').kept (oq _ (fun e => hk (w2 k' g' k g hl' hl e)))
theorem lo_put {locs : List Loc} {x : Loc} : ∀ y ∈ locs ++ [x], y ∈ locs ∨ y.base = x.base := fun y hy => by
  rcases List.mem_append.mp hy with h | h
  · exact Or.inl h
  · exact Or.inr (by rw [List.mem_singleton.mp h])
-- how the rows of the state move
theorem ce_ai {cs : Nat → ClassId} {α : Nat → Nat → Nat} {S : St} {k g : Nat} {f : Nat → Int32} : ∀ k' g', ¬ (k' = k ∧ g' = g) → ce cs α (ai S k g f) k' g' = ce cs α S k' g' := fun k' g' h => by
  show ce0 cs α k' g' (up2 S.1 k g f k' g') _ _ _ = ce0 cs α k' g' (S.1 k' g') _ _ _
  rw [up2_n h]; rfl
theorem ce_al {cs : Nat → ClassId} {α : Nat → Nat → Nat} {S : St} {k g : Nat} {f : Nat → Int64} : ∀ k' g', ¬ (k' = k ∧ g' = g) → ce cs α (al S k g f) k' g' = ce cs α S k' g' := fun k' g' h => by
  show ce0 cs α k' g' _ (up2 S.2.1 k g f k' g') _ _ = ce0 cs α k' g' _ (S.2.1 k' g') _ _
  rw [up2_n h]; rfl
theorem ce_ar {cs : Nat → ClassId} {α : Nat → Nat → Nat} {S : St} {k g : Nat} {f : Nat → Option Nat} : ∀ k' g', ¬ (k' = k ∧ g' = g) → ce cs α (ar S k g f) k' g' = ce cs α S k' g' := fun k' g' h => by
  show ce0 cs α k' g' _ _ (up2 S.2.2.1 k g f k' g') _ = ce0 cs α k' g' _ _ (S.2.2.1 k' g') _
  rw [up2_n h]; rfl
theorem gi_ai {S : St} {k g : Nat} {f : Nat → Int32} : gi (ai S k g f) k g = f := up2_s
theorem gl_al {S : St} {k g : Nat} {f : Nat → Int64} : gl (al S k g f) k g = f := up2_s
theorem gr_ar {S : St} {k g : Nat} {f : Nat → Option Nat} : gr (ar S k g f) k g = f := up2_s
theorem ce_s_ai {cs : Nat → ClassId} {α : Nat → Nat → Nat} {S : St} {k g : Nat} {f : Nat → Int32} : ce cs α (ai S k g f) k g = ce0 cs α k g f (gl S k g) (gr S k g) (gn S k g) := by
  show ce0 cs α k g (up2 S.1 k g f k g) _ _ _ = _
  rw [up2_s]; rfl
theorem ce_s_al {cs : Nat → ClassId} {α : Nat → Nat → Nat} {S : St} {k g : Nat} {f : Nat → Int64} : ce cs α (al S k g f) k g = ce0 cs α k g (gi S k g) f (gr S k g) (gn S k g) := by
  show ce0 cs α k g _ (up2 S.2.1 k g f k g) _ _ = _
  rw [up2_s]; rfl
theorem ce_s_ar {cs : Nat → ClassId} {α : Nat → Nat → Nat} {S : St} {k g : Nat} {f : Nat → Option Nat} : ce cs α (ar S k g f) k g = ce0 cs α k g (gi S k g) (gl S k g) f (gn S k g) := by
  show ce0 cs α k g _ _ (up2 S.2.2.1 k g f k g) _ = _
  rw [up2_s]; rfl
