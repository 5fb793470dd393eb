theorem z_pm (s v : Int32) (b : Bool) : s + (if b then 1 else -1) * v = if b then s + v else s - v := by
  cases b
  · show s + -1 * v = s - v
    rw [Int32.sub_eq_add_neg]
    congr 1
    rw [Int32.neg_mul, Int32.one_mul]
  · show s + 1 * v = s + v
    rw [Int32.one_mul]
theorem tkA2 (c d : Cl_) (l : List Cl_) : tkA (c :: d :: l) = tkC c ++ ([108] ++ tkA (d :: l)) := rfl
theorem tkA1 (c : Cl_) : tkA [c] = tkC c := by show tkC c ++ [] = _; rw [List.append_nil]
theorem tkO2 (c d : List Cl_) (l : List (List Cl_)) : tkO (c :: d :: l) = tkA c ++ ([107] ++ tkO (d :: l)) := rfl
theorem tkO1 (c : List Cl_) : tkO [c] = tkA c := by show tkA c ++ [] = _; rw [List.append_nil]
section HS
variable {S : St} {r nt : Nat} {W : Nat → Int32} {K : Unit → Option Int32}
theorem h_isSo {q : Nat} (hq : q < 3) {a b : Int32} : f_X7_isSo a (Int32.ofNat (60 + q)) b S = some (b01 (rl q a b)) := by
  unfold f_X7_isSo rl b01
  rcases (show q = 0 ∨ q = 1 ∨ q = 2 by omega) with rfl | rfl | rfl
  · refine Ok.get (Ok.v (Ok.bt (by decide) ?_))
    by_cases hab : a < b
    · exact Ok.bf (Int32.not_le.mpr hab) (Ok.c (by decide) (Ok.sm (by simp [hab])))
    · exact Ok.bt (Int32.not_lt.mp hab) (Ok.c (by decide) (Ok.sm (by simp [hab])))
  · refine Ok.get (Ok.v (Ok.bf (by decide) (Ok.bf (by decide) ?_)))
    by_cases hab : a = b
    · exact Ok.bt hab (Ok.c (by decide) (Ok.sm (by simp [hab])))
    · exact Ok.bf hab (Ok.c (by decide) (Ok.sm (by simp [hab])))
  · refine Ok.get (Ok.v (Ok.bf (by decide) (Ok.bt (by decide) ?_)))
    by_cases hab : b < a
    · exact Ok.bf (Int32.not_le.mpr hab) (Ok.c (by decide) (Ok.sm (by simp [hab])))
    · exact Ok.bt (Int32.not_lt.mp hab) (Ok.c (by decide) (Ok.sm (by simp [hab])))
theorem h_sum (hn : gn S 33 r = nt) (hb : nt ≤ 400) (hW : ∀ j, j < 9 → gi S 27 0 j = W j) {x : Sm} (hx : okS x) {p : Nat} (loc : Loc (gi S 33 r) p (tkS x)) (hp : p + (tkS x).length ≤ nt) : ∃ f, ∀ (n : Nat) (x3 x4 x5 x6 : Int32), f_X7_holds_20 r 0 S K (n + (tkS x).length) x3 x4 x5 x6 0 1 (Int32.ofNat p) = f_X7_holds_20 r 0 S K n x3 x4 x5 x6 (sv (vl W) x) f (Int32.ofNat (p + (tkS x).length)) := by
  have go : ∀ (l : List (Bool × Nat)) (p : Nat) (s f : Int32), (∀ q ∈ l, okT q.2) → Loc (gi S 33 r) p (l.flatMap (fun q => [if q.1 then 43 else 45, tkT q.2])) → p + (l.flatMap (fun q => [if q.1 then (43 : Int32) else 45, tkT q.2])).length ≤ nt → ∃ f', ∀ (n : Nat) (x3 x4 x5 x6 : Int32), f_X7_holds_20 r 0 S K (n + (l.flatMap (fun q => [if q.1 then (43 : Int32) else 45, tkT q.2])).length) x3 x4 x5 x6 s f (Int32.ofNat p) = f_X7_holds_20 r 0 S K n x3 x4 x5 x6 (l.foldl (fun s q => if q.1 then s + vl W q.2 else s - vl W q.2) s) f' (Int32.ofNat (p + (l.flatMap (fun q => [if q.1 then (43 : Int32) else 45, tkT q.2])).length)) := by
    intro l
    induction l with
    | nil => intro p s f _ _ _; exact ⟨f, fun n x3 x4 x5 x6 => rfl⟩
    | cons q l ih =>
      intro p s f hq loc hp
      rw [List.flatMap_cons] at loc hp ⊢
      rw [List.length_append] at hp ⊢
      obtain ⟨l1, l2⟩ := loc.app
      have hp : p + (2 + (l.flatMap (fun q => [if q.1 then (43 : Int32) else 45, tkT q.2])).length) ≤ nt := hp
      have l2 : Loc (gi S 33 r) (p + 2) (l.flatMap (fun q => [if q.1 then 43 else 45, tkT q.2])) := l2
      obtain ⟨f', e⟩ := ih (p + 2) (if q.1 then s + vl W q.2 else s - vl W q.2) (if q.1 then 1 else -1) (fun q' h' => hq q' (List.mem_cons_of_mem _ h')) l2 (by omega)
      refine ⟨f', fun n x3 x4 x5 x6 => ?_⟩
      have len2 : [if q.1 then (43 : Int32) else 45, tkT q.2].length = 2 := rfl
      rw [len2, show n + (2 + (l.flatMap (fun q => [if q.1 then (43 : Int32) else 45, tkT q.2])).length) = n + (l.flatMap (fun q => [if q.1 then (43 : Int32) else 45, tkT q.2])).length + 1 + 1 by omega, h_pm hn hb (by omega) l1.one.1, h_term hn hb hW (by omega) (hq q (List.mem_cons_self)) l1.one.2.one.1, z_pm, show p + 1 + 1 = p + 2 by omega, e n, show p + 2 + (l.flatMap (fun q => [if q.1 then (43 : Int32) else 45, tkT q.2])).length = p + (2 + (l.flatMap (fun q => [if q.1 then (43 : Int32) else 45, tkT q.2])).length) by omega]
      rfl
  have hp' : p + (1 + (x.2.flatMap (fun q => [if q.1 then (43 : Int32) else 45, tkT q.2])).length) ≤ nt := by
    have : (tkS x).length = (x.2.flatMap (fun q => [if q.1 then (43 : Int32) else 45, tkT q.2])).length + 1 := rfl
    omega
  obtain ⟨f', e⟩ := go x.2 (p + 1) (vl W x.1) 1 hx.2 loc.one.2 (by omega)
  refine ⟨f', fun n x3 x4 x5 x6 => ?_⟩
  have len : (tkS x).length = (x.2.flatMap (fun q => [if q.1 then (43 : Int32) else 45, tkT q.2])).length + 1 := rfl
  rw [len, ← Nat.add_assoc, h_term hn hb hW (by omega) hx.1 loc.one.1, Int32.one_mul, Int32.zero_add, e n, show p + 1 + (x.2.flatMap (fun q => [if q.1 then (43 : Int32) else 45, tkT q.2])).length = p + ((x.2.flatMap (fun q => [if q.1 then (43 : Int32) else 45, tkT q.2])).length + 1) by omega]
  rfl
theorem h_nots (hn : gn S 33 r = nt) (hb : nt ≤ 400) : ∀ (k p : Nat) (b : Bool), Loc (gi S 33 r) p (List.replicate k 109) → p + k ≤ nt → ∀ (n : Nat) (x3 x5 x6 x7 x8 : Int32), f_X7_holds_20 r 0 S K (n + k) x3 (b01 b) x5 x6 x7 x8 (Int32.ofNat p) = f_X7_holds_20 r 0 S K n x3 (b01 (b != par k)) x5 x6 x7 x8 (Int32.ofNat (p + k)) := by
  intro k
  induction k with
  | zero => intro p b _ _ n x3 x5 x6 x7 x8; rw [show (b != par 0) = b by simp [par]]; rfl
  | succ k ih =>
    intro p b loc hp n x3 x5 x6 x7 x8
    rw [List.replicate_succ] at loc
    rw [← Nat.add_assoc, h_not hn hb (by omega) loc.one.1, ih (p + 1) (!b) loc.one.2 (by omega), show p + 1 + k = p + (k + 1) by omega, show ((!b) != par k) = (b != par (k + 1)) by rw [par]; cases b <;> cases par k <;> rfl]
theorem h_cl (hn : gn S 33 r = nt) (hb : nt ≤ 400) (hW : ∀ j, j < 9 → gi S 27 0 j = W j) {c : Cl_} (hc : okC c) {p : Nat} (loc : Loc (gi S 33 r) p (tkC c)) (hp : p + (tkC c).length ≤ nt) : ∃ f, ∀ (n : Nat) (x3 x5 x6 : Int32), f_X7_holds_20 r 0 S K (n + (tkC c).length) x3 (b01 false) x5 x6 0 1 (Int32.ofNat p) = f_X7_holds_20 r 0 S K n x3 (b01 (par c.1)) (Int32.ofNat (60 + c.2.2.1)) (sv (vl W) c.2.1) (sv (vl W) c.2.2.2) f (Int32.ofNat (p + (tkC c).length)) := by
  obtain ⟨-, h1, h2, h3⟩ := hc
  have len : (tkC c).length = c.1 + ((tkS c.2.1).length + ((tkS c.2.2.2).length + 1)) := by
    unfold tkC
    rw [List.length_append, List.length_replicate, List.length_append, List.length_cons]
  obtain ⟨l1, la⟩ := loc.app
  rw [List.length_replicate] at la
  obtain ⟨l2, lb⟩ := la.app
  obtain ⟨l3, l4⟩ := lb.one
  obtain ⟨f1, e1⟩ := h_sum (K := K) hn hb hW h1 l2 (by omega)
  obtain ⟨f2, e2⟩ := h_sum (K := K) hn hb hW h3 l4 (by omega)
  refine ⟨f2, fun n x3 x5 x6 => ?_⟩
  rw [len, show n + (c.1 + ((tkS c.2.1).length + ((tkS c.2.2.2).length + 1))) = n + (tkS c.2.2.2).length + 1 + (tkS c.2.1).length + c.1 by omega, h_nots hn hb c.1 p false l1 (by omega), e1, h_rel hn hb (by omega) h2 l3, e2, show (false != par c.1) = par c.1 by simp, show p + c.1 + (tkS c.2.1).length + 1 + (tkS c.2.2.2).length = p + (c.1 + ((tkS c.2.1).length + ((tkS c.2.2.2).length + 1))) by omega]
theorem h_and (hn : gn S 33 r = nt) (hb : nt ≤ 400) (hW : ∀ j, j < 9 → gi S 27 0 j = W j) : ∀ (l : List Cl_) (c : Cl_) (p : Nat) (al : Bool), (∀ d ∈ c :: l, okC d) → Loc (gi S 33 r) p (tkA (c :: l)) → p + (tkA (c :: l)).length ≤ nt → ∃ (al1 q ng : Bool) (y5 y6 y7 y8 : Int32), f_X7_isSo y6 y5 y7 S = some (b01 q) ∧ (al1 && (q != ng)) = (al && avB (vl W) (c :: l)) ∧ ∀ (n : Nat) (x5 x6 : Int32), f_X7_holds_20 r 0 S K (n + (tkA (c :: l)).length) (b01 al) (b01 false) x5 x6 0 1 (Int32.ofNat p) = f_X7_holds_20 r 0 S K n (b01 al1) (b01 ng) y5 y6 y7 y8 (Int32.ofNat (p + (tkA (c :: l)).length)) := by
  intro l
  induction l with
  | nil =>
    intro c p al hc loc hp
    rw [tkA1] at loc hp ⊢
    obtain ⟨f, e⟩ := h_cl (K := K) hn hb hW (hc c (List.mem_cons_self)) loc hp
    refine ⟨al, rl c.2.2.1 (sv (vl W) c.2.1) (sv (vl W) c.2.2.2), par c.1, _, _, _, f, h_isSo (hc c (List.mem_cons_self)).2.2.1, ?_, fun n x5 x6 => e n _ x5 x6⟩
    simp [avB, cvB]
  | cons d l ih =>
    intro c p al hc loc hp
    rw [tkA2] at loc hp ⊢
    rw [List.length_append, List.length_append, List.length_singleton] at hp
    obtain ⟨l1, la⟩ := loc.app
    obtain ⟨l2, l3⟩ := la.app
    obtain ⟨f, e⟩ := h_cl (K := K) hn hb hW (hc c (List.mem_cons_self)) l1 (by omega)
    obtain ⟨al1, q, ng, y5, y6, y7, y8, i1, i2, i3⟩ := ih d (p + (tkC c).length + 1) (al && cvB (vl W) c) (fun d' h' => hc d' (List.mem_cons_of_mem _ h')) l3 (by omega)
    refine ⟨al1, q, ng, y5, y6, y7, y8, i1, ?_, fun n x5 x6 => ?_⟩
    · rw [i2, Bool.and_assoc]; rfl
    · rw [List.length_append, List.length_append, List.length_singleton, show n + ((tkC c).length + (1 + (tkA (d :: l)).length)) = n + (tkA (d :: l)).length + 1 + (tkC c).length by omega, e, (h_sep hn hb (by omega) (h_isSo (hc c (List.mem_cons_self)).2.2.1)).1 l2.one.1, show (al && (rl c.2.2.1 (sv (vl W) c.2.1) (sv (vl W) c.2.2.2) != par c.1)) = (al && cvB (vl W) c) from rfl, i3, show p + (tkC c).length + 1 + (tkA (d :: l)).length = p + ((tkC c).length + (1 + (tkA (d :: l)).length)) by omega]
theorem h_or (hn : gn S 33 r = nt) (hb : nt ≤ 400) (hW : ∀ j, j < 9 → gi S 27 0 j = W j) : ∀ (l : List (List Cl_)) (c : List Cl_) (p : Nat), (∀ a ∈ c :: l, a ≠ [] ∧ ∀ d ∈ a, okC d) → Loc (gi S 33 r) p (tkO (c :: l) ++ [59]) → p + (tkO (c :: l) ++ [59]).length ≤ nt → ∀ (n : Nat) (x5 x6 : Int32), f_X7_holds_20 r 0 S K (n + (tkO (c :: l) ++ [59]).length) (b01 true) (b01 false) x5 x6 0 1 (Int32.ofNat p) = some (b01 (ovB (vl W) (c :: l))) := by
  intro l
  induction l with
  | nil =>
    intro c p hc loc hp n x5 x6
    rw [tkO1] at loc hp ⊢
    rw [List.length_append, List.length_singleton] at hp ⊢
    obtain ⟨l1, l2⟩ := loc.app
    obtain ⟨k1, k2⟩ := hc c (List.mem_cons_self)
    cases c with
    | nil => exact absurd rfl k1
    | cons d c =>
      obtain ⟨al1, q, ng, y5, y6, y7, y8, i1, i2, i3⟩ := h_and (K := K) hn hb hW c d p true k2 l1 (by omega)
      rw [show n + ((tkA (d :: c)).length + 1) = n + 1 + (tkA (d :: c)).length by omega, i3, (h_sep hn hb (by omega) i1).2.2 l2.one.1, i2]
      simp [ovB]
  | cons e l ih =>
    intro c p hc loc hp n x5 x6
    rw [tkO2] at loc hp ⊢
    rw [List.append_assoc, List.append_assoc] at loc
    rw [List.length_append, List.length_append, List.length_append, List.length_singleton, List.length_singleton] at hp ⊢
    obtain ⟨l1, la⟩ := loc.app
    obtain ⟨l2, l3⟩ := la.app
    obtain ⟨k1, k2⟩ := hc c (List.mem_cons_self)
    cases c with
    | nil => exact absurd rfl k1
    | cons d c =>
      obtain ⟨al1, q, ng, y5, y6, y7, y8, i1, i2, i3⟩ := h_and (K := K) hn hb hW c d p true k2 l1 (by omega)
      have ih' := ih e (p + (tkA (d :: c)).length + 1) (fun a' h' => hc a' (List.mem_cons_of_mem _ h')) l3 (by rw [List.length_append, List.length_singleton]; omega) n y5 y6
      rw [List.length_append, List.length_singleton] at ih'
      rw [show n + ((tkA (d :: c)).length + (1 + (tkO (e :: l)).length) + 1) = n + ((tkO (e :: l)).length + 1) + 1 + (tkA (d :: c)).length by omega, i3, (h_sep hn hb (by omega) i1).2.1 l2.one.1, i2, ih']
      rw [show ovB (vl W) ((d :: c) :: e :: l) = (avB (vl W) (d :: c) || ovB (vl W) (e :: l)) from rfl, Bool.true_and]
      cases avB (vl W) (d :: c) <;> rfl
theorem e_holds (hn : gn S 33 r = nt) (hb : nt ≤ 400) (hW : ∀ j, j < 9 → gi S 27 0 j = W j) {os : List (List Cl_)} (ho : os ≠ []) {p : Nat} (hc : ∀ a ∈ os, a ≠ [] ∧ ∀ d ∈ a, okC d) (loc : Loc (gi S 33 r) p (tkO os ++ [59])) (hp : p + (tkO os ++ [59]).length ≤ nt) : f_X7_holds r (Int32.ofNat p) 0 S = some (b01 (ovB (vl W) os)) := by
  cases os with
  | nil => exact absurd rfl ho
  | cons c l =>
    have := h_or (K := fun _u => some 0) hn hb hW l c p hc loc hp (FU - (tkO (c :: l) ++ [59]).length) 0 0
    rw [Nat.sub_add_cancel (by unfold FU; omega)] at this
    exact this
end HS
