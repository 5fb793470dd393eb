def bM (α : Nat → Nat → Nat) (K G I b N a : Nat) : Nat → Nat → Nat := fun k' g' => if k' = K ∧ g' = G then a else if k' = I ∧ b ≤ g' ∧ g' < b + N then a + 1 + (g' - b) else α k' g'
def mL (Lv : Nat → Nat → Prop) (K G I b N : Nat) : Nat → Nat → Prop := fun k' g' => (k' = K ∧ g' = G) ∨ (k' = I ∧ b ≤ g' ∧ g' < b + N) ∨ Lv k' g'
/-- rows I b … of naught, and the row K G -/
def zM (S : St) (K G I b N : Nat) : St :=
  (fun k' g' => if (k' = K ∧ g' = G) ∨ (k' = I ∧ b ≤ g' ∧ g' < b + N) then fun _ => 0 else S.1 k' g', fun k' g' => if (k' = K ∧ g' = G) ∨ (k' = I ∧ b ≤ g' ∧ g' < b + N) then fun _ => 0 else S.2.1 k' g', fun k' g' => if (k' = K ∧ g' = G) ∨ (k' = I ∧ b ≤ g' ∧ g' < b + N) then fun _ => none else S.2.2.1 k' g', S.2.2.2)
theorem bM_s {α : Nat → Nat → Nat} {K G I b N a : Nat} : bM α K G I b N a K G = a := if_pos ⟨rfl, rfl⟩
theorem bM_r {α : Nat → Nat → Nat} {K G I b N a g' : Nat} (hKI : K ≠ I) (h : b ≤ g' ∧ g' < b + N) : bM α K G I b N a I g' = a + 1 + (g' - b) := by
  unfold bM
  rw [if_neg (fun e => hKI e.1.symm), if_pos ⟨rfl, h⟩]
theorem bM_o {α : Nat → Nat → Nat} {K G I b N a k' g' : Nat} (h1 : ¬ (k' = K ∧ g' = G)) (h2 : ¬ (k' = I ∧ b ≤ g' ∧ g' < b + N)) : bM α K G I b N a k' g' = α k' g' := by
  unfold bM
  rw [if_neg h1, if_neg h2]
theorem zM_o {S : St} {K G I b N k' g' : Nat} (h1 : ¬ (k' = K ∧ g' = G)) (h2 : ¬ (k' = I ∧ b ≤ g' ∧ g' < b + N)) : gi (zM S K G I b N) k' g' = gi S k' g' ∧ gl (zM S K G I b N) k' g' = gl S k' g' ∧ gr (zM S K G I b N) k' g' = gr S k' g' ∧ gn (zM S K G I b N) k' g' = gn S k' g' :=
  ⟨if_neg (fun h => h.elim h1 h2), if_neg (fun h => h.elim h1 h2), if_neg (fun h => h.elim h1 h2), rfl⟩
theorem ce_zM {cs : Nat → ClassId} {β : Nat → Nat → Nat} {S : St} {K G I b N k' g' : Nat} (h : (k' = K ∧ g' = G) ∨ (k' = I ∧ b ≤ g' ∧ g' < b + N)) : ce cs β (zM S K G I b N) k' g' = ce0 cs β k' g' (fun _ => 0) (fun _ => 0) (fun _ => none) (gn S k' g') := by
  show ce0 cs β k' g' (if _ then _ else _) (if _ then _ else _) (if _ then _ else _) _ = _
  rw [if_pos h, if_pos h, if_pos h]; rfl
section ALM
variable {s : State} {D : va_G} {cs : Nat → ClassId} {B0 : Nat} {α : Nat → Nat → Nat} {Lv : Nat → Nat → Prop} {S : St} {H H1 : Heap} {locs : List Loc}
theorem Dy.newM (hd : Dy s D cs B0 α Lv S H locs) (hcl : Cl Lv) (hB : B0 ≤ H.size) {K G I b N : Nat} {cA cy : ClassId} {z : vp_A} (hKI : K ≠ I) (hK : K < 1000) (hI : I < 1000) (hn : ¬ Lv K G) (hnI : ∀ g', b ≤ g' ∧ g' < b + N → ¬ Lv I g') (hco : ∀ (β : Nat → Nat → Nat) (n : Nat), ce0 cs β K G (fun _ => 0) (fun _ => 0) (fun _ => none) n = .inl (cA, N, .inr (.inr (.inr (.inr (fun j => some (β I (b + j)))))))) (hci : ∀ (β : Nat → Nat → Nat) (g' n : Nat), ce0 cs β I g' (fun _ => 0) (fun _ => 0) (fun _ => none) n = .inl (cy, z))
    (z1 : H.size ≤ H1.size) (oq : ∀ q, q < H.size → H1[q]? = H[q]?) (e0 : H1[H.size]? = some (vp_cell cA (N, .inr (.inr (.inr (.inr (fun i => if i < N then some (H.size + 1 + i) else none))))))) (er : ∀ j : Nat, j < N → H1[H.size + 1 + j]? = some (vp_cell cy z)) : Dy s D cs B0 (bM α K G I b N H.size) (mL Lv K G I b N) (zM S K G I b N) H1 locs := by
  obtain ⟨⟨s1, s2, s3⟩, w1, w2, w3, w4⟩ := hd
  have hne : ∀ k g, Lv k g → ¬ (k = K ∧ g = G) := fun k g hl e => hn (by rw [← e.1, ← e.2]; exact hl)
  have hne2 : ∀ k g, Lv k g → ¬ (k = I ∧ b ≤ g ∧ g < b + N) := fun k g hl e => hnI g e.2 (by rw [← e.1]; exact hl)
  have ha : ∀ k g, Lv k g → bM α K G I b N H.size k g = α k g := fun k g hl => bM_o (hne k g hl) (hne2 k g hl)
  have hv : ∀ k g, 1000 ≤ k → bM α K G I b N H.size k g = α k g := fun k g hk => bM_o (fun e => by omega) (fun e => by omega)
  have hlt : ∀ k g, Lv k g → α k g < H.size := fun k g hl => (w1 k g hl).lt
  refine ⟨⟨Nat.le_trans s1 z1, fun q h1 h2 => (oq q (Nat.lt_of_lt_of_le h1 s1)).trans (s2 q h1 h2), s3⟩, ?_, ?_, ?_, ?_⟩
  · intro k g hl
    rcases hl with ⟨rfl, rfl⟩ | ⟨rfl, hg⟩ | hl
    · rw [bM_s, ce_zM (Or.inl ⟨rfl, rfl⟩), hco]
      exact at_arr (fun j hj => by rw [bM_r hKI ⟨by omega, by omega⟩, if_pos hj]; congr 1; omega) e0
    · rw [bM_r hKI hg, ce_zM (Or.inr ⟨rfl, hg⟩), hci]
      exact er _ (by omega)
    · rw [ha k g hl]
      have h0 := cg_all hcl w4 ha (fun j _ _ => hv _ _ (by omega)) hl ((w1 k g hl).kept (oq _ (hlt k g hl)))
      obtain ⟨q1, q2, q3, q4⟩ := zM_o (S := S) (hne k g hl) (hne2 k g hl)
      exact at_eq (ce_no q1 q2 q3 q4) h0
  · intro k g k' g' hl hl' he
    rcases hl with ⟨rfl, rfl⟩ | ⟨rfl, hg⟩ | hl <;> rcases hl' with ⟨e1, e2⟩ | ⟨e1, hg'⟩ | hl'
    · exact ⟨e1.symm, e2.symm⟩
    · rw [e1, bM_s, bM_r hKI hg'] at he; omega
    · rw [bM_s, ha k' g' hl'] at he
      have := hlt k' g' hl'; omega
    · rw [e1, e2, bM_s, bM_r hKI hg] at he; omega
    · rw [e1, bM_r hKI hg, bM_r hKI hg'] at he
      exact ⟨e1.symm, by omega⟩
    · rw [bM_r hKI hg, ha k' g' hl'] at he
      have := hlt k' g' hl'; omega
    · rw [e1, e2, bM_s, ha k g hl] at he
      have := hlt k g hl; omega
    · rw [e1, bM_r hKI hg', ha k g hl] at he
      have := hlt k g hl; omega
    · rw [ha k g hl, ha k' g' hl'] at he
      exact w2 k g k' g' hl hl' he
  · intro k g hl
    rcases hl with ⟨rfl, rfl⟩ | ⟨rfl, hg⟩ | hl
    · rw [bM_s]; exact hB
    · rw [bM_r hKI hg]; omega
    · rw [ha k g hl]; exact w3 k g hl
  · have key : ∀ k0 t0, (∀ g j r, Lv k0 g → gr S k0 g j = some r → Lv t0 r) → ∀ g j r, mL Lv K G I b N k0 g → gr (zM S K G I b N) k0 g j = some r → mL Lv K G I b N t0 r := by
      intro k0 t0 h0 g j r hl hr
      rcases hl with h | h | hl
      · rw [show gr (zM S K G I b N) k0 g = fun _ => none from if_pos (Or.inl h)] at hr; cases hr
      · rw [show gr (zM S K G I b N) k0 g = fun _ => none from if_pos (Or.inr h)] at hr; cases hr
      · rw [(zM_o (S := S) (hne k0 g hl) (hne2 k0 g hl)).2.2.1] at hr
        exact Or.inr (Or.inr (h0 g j r hl hr))
    exact ⟨key 1 2 w4.1, key 2 35 w4.2.1, key 8 32 w4.2.2⟩
end ALM
