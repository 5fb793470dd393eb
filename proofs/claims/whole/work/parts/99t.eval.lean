-- CLAIMS
theorem bvN {α σ : Type} (e : σ) (k : σ → Option α) : bv e k = k e := by
  cases h : k e with
  | none => exact h
  | some x => exact h
def sv (v : Nat → Int32) (x : Sm) : Int32 := x.2.foldl (fun s q => if q.1 then s + v q.2 else s - v q.2) (v x.1)
def rl (r : Nat) (a b : Int32) : Bool := if r = 0 then decide (a < b) else if r = 1 then decide (a = b) else decide (b < a)
def par : Nat → Bool
  | 0 => false
  | n + 1 => !par n
def cvB (v : Nat → Int32) (c : Cl_) : Bool := rl c.2.2.1 (sv v c.2.1) (sv v c.2.2.2) != par c.1
def avB (v : Nat → Int32) (cs : List Cl_) : Bool := cs.all (cvB v)
def ovB (v : Nat → Int32) (os : List (List Cl_)) : Bool := os.any (avB v)
def b01 (b : Bool) : Int32 := if b then 1 else 0
def Loc (T : Nat → Int32) (p : Nat) (c : List Int32) : Prop := ∀ i, i < c.length → T (p + i) = c.getD i 0
theorem Loc.app {T : Nat → Int32} {p : Nat} {a b : List Int32} (h : Loc T p (a ++ b)) : Loc T p a ∧ Loc T (p + a.length) b := by
  refine ⟨fun i hi => ?_, fun i hi => ?_⟩
  · have := h i (by rw [List.length_append]; omega)
    rw [this, List.getD_eq_getElem?_getD, List.getD_eq_getElem?_getD, List.getElem?_append_left hi]
  · have := h (a.length + i) (by rw [List.length_append]; omega)
    rw [Nat.add_assoc, this, List.getD_eq_getElem?_getD, List.getD_eq_getElem?_getD, List.getElem?_append_right (by omega), Nat.add_sub_cancel_left]
theorem Loc.one {T : Nat → Int32} {p : Nat} {x : Int32} {l : List Int32} (h : Loc T p (x :: l)) : T p = x ∧ Loc T (p + 1) l := by
  refine ⟨h 0 (by simp), fun i hi => ?_⟩
  have := h (i + 1) (by simpa using hi)
  rw [show p + 1 + i = p + (i + 1) by omega, this]; rfl
-- THE REFERENCE'S MACHINE
/-- the codes leave one value -/
def Ev (T : Nat → Int32) (E : Nat) (x1 x2 A t m : Int32) (code : List Int32) (v : Int32) : Prop := 1 ≤ code.length ∧ ∀ (p sp : Nat) (Z : St), gi Z 61 0 = T → gi Z 60 0 23 = m → Loc T p code → p + code.length ≤ E → sp + code.length ≤ 440 → ∃ Z', Fr (fun k x => k = 69 ∧ x = 0) Z Z' ∧ gi Z' 69 0 sp = v ∧ (∀ i, i < sp → gi Z' 69 0 i = gi Z 69 0 i) ∧ ∀ n K, f_X12_isSo_6 0 x1 x2 A t K (n + code.length) (Int32.ofNat sp) (Int32.ofNat p) Z = f_X12_isSo_6 0 x1 x2 A t K n (Int32.ofNat (sp + 1)) (Int32.ofNat (p + code.length)) Z'
section EVR
variable {T : Nat → Int32} {E : Nat} {x1 x2 A t m : Int32} {v : Nat → Int32}
theorem Ev.term (hE : x1 + x2 = Int32.ofNat E) (bE : E ≤ 3179) (hw : ∀ (Z : St) (c : Nat), gi Z 61 0 = T → gi Z 60 0 23 = m → c < 109 → f_X12_worth 0 (Int32.ofNat c) A t Z = some (v c)) {c : Nat} (hc : c < 109) : Ev T E x1 x2 A t m [Int32.ofNat c] (v c) := by
  refine ⟨by simp, fun p sp Z eT em hl hp hs => ?_⟩
  have hp : p + 1 ≤ E := hp
  have hs : sp + 1 ≤ 440 := hs
  refine ⟨si Z 69 0 sp (v c), Fr.si ⟨rfl, rfl⟩, by rw [pgi_si, if_pos ⟨rfl, rfl⟩, upd_eq], fun i hi => by rw [pgi_si, if_pos ⟨rfl, rfl⟩, upd_ne (by omega)], fun n K => ?_⟩
  show f_X12_isSo_6 0 x1 x2 A t K (n + 1) _ _ _ = _
  rw [f_X12_isSo_6, hE, brn (fun z => absurd ((zLE (by omega) (by omega)).mp z) (by omega)), ck_t (ib (by omega) (by omega)), zN (by omega), eT, hl.one.1]
  simp only [bvN]
  rw [brn (show ¬ Int32.ofNat c = 115 from fun z => absurd ((zE (b := 115) (by omega) (by omega)).mp z) (by omega)), brn (show ¬ (110 : Int32) ≤ Int32.ofNat c from fun z => absurd ((zLE (a := 110) (by omega) (by omega)).mp z) (by omega)), hw Z c eT em hc, onS, ck_t (ib (by omega) (by omega)), zN (by omega), zp1, zp1]
  rfl
theorem Ev.not (hE : x1 + x2 = Int32.ofNat E) (bE : E ≤ 3179) {code : List Int32} {u : Int32} (h : Ev T E x1 x2 A t m code u) : Ev T E x1 x2 A t m (code ++ [115]) (1 - u) := by
  refine ⟨by simp, fun p sp Z eT em hl hp hs => ?_⟩
  rw [List.length_append, List.length_singleton] at hp hs
  obtain ⟨l1, l2⟩ := hl.app
  obtain ⟨Z1, f1, v1, o1, e1⟩ := h.2 p sp Z eT em l1 (by omega) (by omega)
  refine ⟨si Z1 69 0 sp (1 - u), f1.tr (Fr.si ⟨rfl, rfl⟩), by rw [pgi_si, if_pos ⟨rfl, rfl⟩, upd_eq], fun i hi => by rw [pgi_si, if_pos ⟨rfl, rfl⟩, upd_ne (by omega)]; exact o1 i hi, fun n K => ?_⟩
  rw [List.length_append, List.length_singleton, show n + (code.length + 1) = (n + 1) + code.length by omega, e1 (n + 1) K, f_X12_isSo_6, hE, brn (fun z => absurd ((zLE (by omega) (by omega)).mp z) (by omega)), ck_t (ib (by omega) (by omega)), zN (by omega), (f1 61 0 (by omega)).1, eT, l2.one.1]
  simp only [bvN]
  rw [brp trivial, show Int32.ofNat (sp + 1) - 1 = Int32.ofNat sp from zSub1 (by omega), ck_t (ib (by omega) (by omega)), ck_t (ib (by omega) (by omega)), zN (by omega), v1, zp1]
  rfl
theorem Ev.op (hE : x1 + x2 = Int32.ofNat E) (bE : E ≤ 3179) {c1 c2 : List Int32} {u1 u2 u : Int32} {c : Nat} (hc : 110 ≤ c ∧ c < 118 ∧ c ≠ 115) (h1 : Ev T E x1 x2 A t m c1 u1) (h2 : Ev T E x1 x2 A t m c2 u2) (hb : ∀ Z, f_X12_both (Int32.ofNat c) u1 u2 Z = some u) : Ev T E x1 x2 A t m (c1 ++ (c2 ++ [Int32.ofNat c])) u := by
  refine ⟨by simp; omega, fun p sp Z eT em hl hp hs => ?_⟩
  rw [List.length_append, List.length_append, List.length_singleton] at hp hs
  obtain ⟨l1, l⟩ := hl.app
  obtain ⟨l2, l3⟩ := l.app
  have k1 := h1.1
  obtain ⟨Z1, f1, v1, o1, e1⟩ := h1.2 p sp Z eT em l1 (by omega) (by omega)
  obtain ⟨Z2, f2, v2, o2, e2⟩ := h2.2 (p + c1.length) (sp + 1) Z1 (by rw [(f1 61 0 (by omega)).1, eT]) (by rw [(f1 60 0 (by omega)).1, em]) l2 (by omega) (by omega)
  refine ⟨si Z2 69 0 sp u, (f1.tr f2).tr (Fr.si ⟨rfl, rfl⟩), by rw [pgi_si, if_pos ⟨rfl, rfl⟩, upd_eq], fun i hi => by rw [pgi_si, if_pos ⟨rfl, rfl⟩, upd_ne (by omega), o2 i (by omega)]; exact o1 i hi, fun n K => ?_⟩
  rw [List.length_append, List.length_append, List.length_singleton, show n + (c1.length + (c2.length + 1)) = ((n + 1) + c2.length) + c1.length by omega, e1, e2, f_X12_isSo_6, hE, brn (fun z => absurd ((zLE (by omega) (by omega)).mp z) (by omega)), ck_t (ib (by omega) (by omega)), zN (by omega), (f2 61 0 (by omega)).1, (f1 61 0 (by omega)).1, eT, l3.one.1]
  simp only [bvN]
  rw [brn (show ¬ Int32.ofNat c = 115 from fun z => absurd ((zE (b := 115) (by omega) (by omega)).mp z) (by omega)), brp (show (110 : Int32) ≤ Int32.ofNat c from (zLE (a := 110) (by omega) (by omega)).mpr (by omega)), zdn, show Int32.ofNat (sp + 1 + 1) - 1 = Int32.ofNat (sp + 1) from zSub1 (by omega), show Int32.ofNat (sp + 1) - 1 = Int32.ofNat sp from zSub1 (by omega), ck_t (ib (by omega) (by omega)), ck_t (ib (by omega) (by omega)), zN (by omega), zN (by omega), v2, o2 sp (by omega), v1, hb, onS, ck_t (ib (by omega) (by omega)), zp1]
  rw [show p + c1.length + c2.length + 1 = p + (c1.length + (c2.length + 1)) by omega]
theorem b01_not (b : Bool) : 1 - b01 b = b01 (!b) := by cases b <;> decide
theorem b01_and (a b : Bool) : b01 a &&& b01 b = b01 (a && b) := by cases a <;> cases b <;> decide
theorem b01_or (a b : Bool) : b01 a ||| b01 b = b01 (a || b) := by cases a <;> cases b <;> decide
theorem ev_S (hE : x1 + x2 = Int32.ofNat E) (bE : E ≤ 3179) (hw : ∀ (Z : St) (c : Nat), gi Z 61 0 = T → gi Z 60 0 23 = m → c < 109 → f_X12_worth 0 (Int32.ofNat c) A t Z = some (v c)) {x : Sm} (hx : okS x) : Ev T E x1 x2 A t m (cdS x) (sv v x) := by
  have go : ∀ (l : List (Bool × Nat)) (acc : List Int32) (u : Int32), (∀ q ∈ l, okT q.2) → Ev T E x1 x2 A t m acc u → Ev T E x1 x2 A t m (acc ++ l.flatMap (fun q => [Int32.ofNat q.2, if q.1 then 110 else 111])) (l.foldl (fun s q => if q.1 then s + v q.2 else s - v q.2) u) := by
    intro l
    induction l with
    | nil => intro acc u _ h; rw [List.flatMap_nil, List.append_nil]; exact h
    | cons q l ih =>
      intro acc u hq h
      have one : Ev T E x1 x2 A t m (acc ++ ([Int32.ofNat q.2] ++ [if q.1 then 110 else 111])) (if q.1 then u + v q.2 else u - v q.2) := by
        cases hb : q.1 with
        | true => exact Ev.op hE bE (c := 110) (by omega) h (Ev.term hE bE hw (hq q (List.mem_cons_self))) (fun Z => brp rfl)
        | false => exact Ev.op hE bE (c := 111) (by omega) h (Ev.term hE bE hw (hq q (List.mem_cons_self))) (fun Z => (brn (by decide)).trans (brp rfl))
      have := ih _ _ (fun q' h' => hq q' (List.mem_cons_of_mem _ h')) one
      rw [List.append_assoc] at this
      exact this
  exact go x.2 [Int32.ofNat x.1] (v x.1) hx.2 (Ev.term hE bE hw hx.1)
theorem ev_C (hE : x1 + x2 = Int32.ofNat E) (bE : E ≤ 3179) (hw : ∀ (Z : St) (c : Nat), gi Z 61 0 = T → gi Z 60 0 23 = m → c < 109 → f_X12_worth 0 (Int32.ofNat c) A t Z = some (v c)) {c : Cl_} (hc : okC c) : Ev T E x1 x2 A t m (cdC c) (b01 (cvB v c)) := by
  obtain ⟨-, h1, h2, h3⟩ := hc
  have op : Ev T E x1 x2 A t m (cdS c.2.1 ++ (cdS c.2.2.2 ++ [Int32.ofNat (112 + c.2.2.1)])) (b01 (rl c.2.2.1 (sv v c.2.1) (sv v c.2.2.2))) := by
    refine Ev.op hE bE (by omega) (ev_S hE bE hw h1) (ev_S hE bE hw h3) (fun Z => ?_)
    generalize sv v c.2.1 = a
    generalize sv v c.2.2.2 = b
    unfold rl b01 f_X12_both
    rcases (show c.2.2.1 = 0 ∨ c.2.2.1 = 1 ∨ c.2.2.1 = 2 by omega) with e | e | e
    · rw [e]
      refine Ok.get (Ok.bf (by decide) (Ok.bf (by decide) (Ok.bt (by decide) (Ok.v ?_))))
      by_cases hab : a < b
      · exact Ok.bf (Int32.not_le.mpr hab) (Ok.sm (by simp [hab]))
      · exact Ok.bt (Int32.not_lt.mp hab) (Ok.sm (by simp [hab]))
    · rw [e]
      refine Ok.get (Ok.bf (by decide) (Ok.bf (by decide) (Ok.bf (by decide) (Ok.bt (by decide) (Ok.v ?_)))))
      by_cases hab : a = b
      · exact Ok.bt hab (Ok.sm (by simp [hab]))
      · exact Ok.bf hab (Ok.sm (by simp [hab]))
    · rw [e]
      refine Ok.get (Ok.bf (by decide) (Ok.bf (by decide) (Ok.bf (by decide) (Ok.bf (by decide) (Ok.bt (by decide) (Ok.v ?_))))))
      by_cases hab : b < a
      · exact Ok.bf (Int32.not_le.mpr hab) (Ok.sm (by simp [hab]))
      · exact Ok.bt (Int32.not_lt.mp hab) (Ok.sm (by simp [hab]))
  have nots : ∀ n, Ev T E x1 x2 A t m ((cdS c.2.1 ++ (cdS c.2.2.2 ++ [Int32.ofNat (112 + c.2.2.1)])) ++ List.replicate n 115) (b01 (rl c.2.2.1 (sv v c.2.1) (sv v c.2.2.2) != par n)) := by
    intro n
    induction n with
    | zero =>
      rw [List.replicate_zero, List.append_nil, show (rl c.2.2.1 (sv v c.2.1) (sv v c.2.2.2) != par 0) = rl c.2.2.1 (sv v c.2.1) (sv v c.2.2.2) by simp [par]]
      exact op
    | succ n ih =>
      have := Ev.not hE bE ih
      rw [List.append_assoc, ← List.replicate_succ', b01_not] at this
      rw [show (rl c.2.2.1 (sv v c.2.1) (sv v c.2.2.2) != par (n + 1)) = !(rl c.2.2.1 (sv v c.2.1) (sv v c.2.2.2) != par n) by rw [par]; cases rl c.2.2.1 (sv v c.2.1) (sv v c.2.2.2) <;> cases par n <;> rfl]
      exact this
  have := nots c.1
  unfold cdC cvB
  rw [List.append_assoc, List.append_assoc] at this
  exact this
theorem ev_A (hE : x1 + x2 = Int32.ofNat E) (bE : E ≤ 3179) (hw : ∀ (Z : St) (c : Nat), gi Z 61 0 = T → gi Z 60 0 23 = m → c < 109 → f_X12_worth 0 (Int32.ofNat c) A t Z = some (v c)) {cs : List Cl_} (hn : cs ≠ []) (hc : ∀ c ∈ cs, okC c) : Ev T E x1 x2 A t m (cdA cs) (b01 (avB v cs)) := by
  have go : ∀ (l : List Cl_) (acc : List Int32) (b : Bool), (∀ c ∈ l, okC c) → Ev T E x1 x2 A t m acc (b01 b) → Ev T E x1 x2 A t m (acc ++ l.flatMap (fun c => cdC c ++ [116])) (b01 (b && avB v l)) := by
    intro l
    induction l with
    | nil => intro acc b _ h; rw [List.flatMap_nil, List.append_nil, show (b && avB v []) = b by simp [avB]]; exact h
    | cons c l ih =>
      intro acc b hq h
      have one : Ev T E x1 x2 A t m (acc ++ (cdC c ++ [116])) (b01 (b && cvB v c)) := Ev.op hE bE (c := 116) (by omega) h (ev_C hE bE hw (hq c (List.mem_cons_self))) (fun Z => by
        unfold f_X12_both
        refine Ok.get (Ok.bf (by decide) (Ok.bf (by decide) (Ok.bf (by decide) (Ok.bf (by decide) (Ok.bf (by decide) (Ok.bf (by decide) (Ok.bt (by decide) (Ok.sm ?_))))))))
        exact b01_and _ _)
      have := ih _ _ (fun c' h' => hq c' (List.mem_cons_of_mem _ h')) one
      rw [List.append_assoc] at this
      rw [show (b && avB v (c :: l)) = (b && cvB v c && avB v l) by simp [avB, Bool.and_assoc]]
      exact this
  cases cs with
  | nil => exact absurd rfl hn
  | cons c l =>
    have := go l (cdC c) (cvB v c) (fun c' h' => hc c' (List.mem_cons_of_mem _ h')) (ev_C hE bE hw (hc c (List.mem_cons_self)))
    rw [show avB v (c :: l) = (cvB v c && avB v l) by simp [avB]]
    exact this
theorem ev_O (hE : x1 + x2 = Int32.ofNat E) (bE : E ≤ 3179) (hw : ∀ (Z : St) (c : Nat), gi Z 61 0 = T → gi Z 60 0 23 = m → c < 109 → f_X12_worth 0 (Int32.ofNat c) A t Z = some (v c)) {os : List (List Cl_)} (hn : os ≠ []) (hc : ∀ a ∈ os, a ≠ [] ∧ ∀ c ∈ a, okC c) : Ev T E x1 x2 A t m (cdO os) (b01 (ovB v os)) := by
  have go : ∀ (l : List (List Cl_)) (acc : List Int32) (b : Bool), (∀ a ∈ l, a ≠ [] ∧ ∀ c ∈ a, okC c) → Ev T E x1 x2 A t m acc (b01 b) → Ev T E x1 x2 A t m (acc ++ l.flatMap (fun c => cdA c ++ [117])) (b01 (b || ovB v l)) := by
    intro l
    induction l with
    | nil => intro acc b _ h; rw [List.flatMap_nil, List.append_nil, show (b || ovB v []) = b by simp [ovB]]; exact h
    | cons c l ih =>
      intro acc b hq h
      have one : Ev T E x1 x2 A t m (acc ++ (cdA c ++ [117])) (b01 (b || avB v c)) := Ev.op hE bE (c := 117) (by omega) h (ev_A hE bE hw (hq c (List.mem_cons_self)).1 (hq c (List.mem_cons_self)).2) (fun Z => by
        unfold f_X12_both
        refine Ok.get (Ok.bf (by decide) (Ok.bf (by decide) (Ok.bf (by decide) (Ok.bf (by decide) (Ok.bf (by decide) (Ok.bf (by decide) (Ok.bf (by decide) (Ok.sm ?_))))))))
        exact b01_or _ _)
      have := ih _ _ (fun c' h' => hq c' (List.mem_cons_of_mem _ h')) one
      rw [List.append_assoc] at this
      rw [show (b || ovB v (c :: l)) = (b || avB v c || ovB v l) by simp [ovB, Bool.or_assoc]]
      exact this
  cases os with
  | nil => exact absurd rfl hn
  | cons c l =>
    have := go l (cdA c) (avB v c) (fun c' h' => hc c' (List.mem_cons_of_mem _ h')) (ev_A hE bE hw (hc c (List.mem_cons_self)).1 (hc c (List.mem_cons_self)).2)
    rw [show ovB v (c :: l) = (avB v c || ovB v l) by simp [ovB]]
    exact this
end EVR
theorem e_isSo {T : Nat → Int32} {A t m : Int32} {v : Nat → Int32} (hw : ∀ (Z : St) (c : Nat), gi Z 61 0 = T → gi Z 60 0 23 = m → c < 109 → f_X12_worth 0 (Int32.ofNat c) A t Z = some (v c)) {os : List (List Cl_)} (hc : ∀ a ∈ os, a ≠ [] ∧ ∀ c ∈ a, okC c) {p : Nat} (hp : p + (cdO os).length ≤ 3179) (hl : (cdO os).length ≤ 440) (loc : Loc T p (cdO os)) {Z : St} (eT : gi Z 61 0 = T) (em : gi Z 60 0 23 = m) : ∃ Z', Fr (fun k x => k = 69 ∧ x = 0) Z Z' ∧ f_X12_isSo 0 (Int32.ofNat p) (Int32.ofNat (cdO os).length) A t Z = some (b01 (decide (os = []) || ovB v os), Z') := by
  have hE : Int32.ofNat p + Int32.ofNat (cdO os).length = Int32.ofNat (p + (cdO os).length) := zAA _ _
  by_cases hn : os = []
  · subst hn
    refine ⟨Z, Fr.rf, ?_⟩
    have e0 : (cdO []).length = 0 := rfl
    rw [e0] at hE ⊢
    unfold f_X12_isSo
    rw [FUp, f_X12_isSo_6, hE, brp ((zLE (a := p + 0) (b := p) (by omega) (by omega)).mpr (by omega))]
    exact Ok.get (Ok.v (Ok.v (Ok.bt rfl (Ok.c (by decide) (Ok.sm rfl)))))
  · have ev := ev_O hE hp hw hn hc
    obtain ⟨Z', f, e1, -, e2⟩ := ev.2 p 0 Z eT em loc (Nat.le_refl _) (by omega)
    refine ⟨Z', f, ?_⟩
    rw [show (decide (os = []) || ovB v os) = ovB v os by simp [hn]]
    have k1 := ev.1
    unfold f_X12_isSo
    have := e2 ((FU - (cdO os).length - 1) + 1) (fun (S_25 : St) => bv (fun (v_26 : Int32) (S_27 : St) => ck (v_26 = 0 ∨ v_26 = 1) (some (v_26, S_27))) (fun J_28 => bv (fun (S_29 : St) => J_28 1 S_29) (fun J_30 => br (Int32.ofNat (cdO os).length = 0) (J_30 S_25) (ck (inb 0 440 = true) (br ((gi S_25 69 0 (nn 0)) = 1) (J_30 S_25) (J_28 0 S_25))))))
    rw [show FU - (cdO os).length - 1 + 1 + (cdO os).length = FU by unfold FU; omega] at this
    refine this.trans ?_
    rw [f_X12_isSo_6, hE, brp ((zLE (by omega) (by omega)).mpr (Nat.le_refl _))]
    refine Ok.get (Ok.v (Ok.v (Ok.bf (show ¬ Int32.ofNat (cdO os).length = 0 from fun z => absurd ((zE (b := 0) (by omega) (by omega)).mp z) (by omega)) (Ok.c (by decide) ?_))))
    rw [show gi Z' 69 0 (nn 0) = b01 (ovB v os) from e1]
    cases ovB v os
    · exact Ok.bf (by decide) (Ok.c (by decide) (Ok.sm rfl))
    · exact Ok.bt rfl (Ok.c (by decide) (Ok.sm rfl))
