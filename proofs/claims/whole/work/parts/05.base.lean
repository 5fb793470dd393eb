-- THE STATE: ints, longs, references (by numbers), lengths, counters; each by a kind, a number, a place
abbrev St : Type := (Nat → Nat → Nat → Int32) × (Nat → Nat → Nat → Int64) × (Nat → Nat → Nat → Option Nat) × (Nat → Nat → Nat) × (Nat → Nat)
def gi (S : St) (k g : Nat) : Nat → Int32 := S.1 k g
def gl (S : St) (k g : Nat) : Nat → Int64 := S.2.1 k g
def gr (S : St) (k g : Nat) : Nat → Option Nat := S.2.2.1 k g
def gn (S : St) (k g : Nat) : Nat := S.2.2.2.1 k g
def gc (S : St) (k : Nat) : Nat := S.2.2.2.2 k
def up2 {α : Type} (f : Nat → Nat → α) (k g : Nat) (v : α) : Nat → Nat → α := fun k' g' => if k' = k ∧ g' = g then v else f k' g'
def ai (S : St) (k g : Nat) (f : Nat → Int32) : St := (up2 S.1 k g f, S.2)
def al (S : St) (k g : Nat) (f : Nat → Int64) : St := (S.1, up2 S.2.1 k g f, S.2.2)
def ar (S : St) (k g : Nat) (f : Nat → Option Nat) : St := (S.1, S.2.1, up2 S.2.2.1 k g f, S.2.2.2)
def an (S : St) (k g : Nat) (n : Nat) : St := (S.1, S.2.1, S.2.2.1, up2 S.2.2.2.1 k g n, S.2.2.2.2)
def ac (S : St) (k : Nat) (n : Nat) : St := (S.1, S.2.1, S.2.2.1, S.2.2.2.1, va_up S.2.2.2.2 k n)
def si (S : St) (k g j : Nat) (v : Int32) : St := ai S k g (upd (gi S k g) j v)
def sl (S : St) (k g j : Nat) (v : Int64) : St := al S k g (vp_updL (gl S k g) j v)
def sr (S : St) (k g j : Nat) (v : Option Nat) : St := ar S k g (va_up (gr S k g) j v)
theorem up2_s {α : Type} {f : Nat → Nat → α} {k g : Nat} {v : α} : up2 f k g v k g = v := if_pos ⟨rfl, rfl⟩
theorem up2_n {α : Type} {f : Nat → Nat → α} {k g k' g' : Nat} {v : α} (h : ¬ (k' = k ∧ g' = g)) : up2 f k g v k' g' = f k' g' := if_neg h
-- the translated functions' words
def ck {ρ : Type} (c : Prop) [Decidable c] (k : Option ρ) : Option ρ := if c then k else none
theorem ck_s {ρ : Type} {c : Prop} [Decidable c] {k : Option ρ} {r : ρ} (h : ck c k = some r) : c ∧ k = some r := by
  unfold ck at h
  by_cases hc : c
  · rw [if_pos hc] at h; exact ⟨hc, h⟩
  · rw [if_neg hc] at h; cases h
theorem ck_t {ρ : Type} {c : Prop} [Decidable c] (hc : c) (k : Option ρ) : ck c k = k := if_pos hc
def br {ρ : Type} (c : Prop) [Decidable c] (a b : ρ) : ρ := if c then a else b
theorem br_y {ρ : Type} {c : Prop} [Decidable c] {a b r : ρ} (hc : c) (h : br c a b = r) : a = r := by unfold br at h; rwa [if_pos hc] at h
theorem br_n {ρ : Type} {c : Prop} [Decidable c] {a b r : ρ} (hc : ¬ c) (h : br c a b = r) : b = r := by unfold br at h; rwa [if_neg hc] at h
def bv {σ ρ : Type} (e : σ) (k : σ → ρ) : ρ := k e
theorem bv_n {σ ρ : Type} {e x : σ} {k : σ → ρ} {r : ρ} (ex : x = e) (h : bv e k = r) : k x = r := by rw [ex]; exact h
theorem bv_e {σ ρ : Type} {e : σ} {k : σ → ρ} {r : ρ} (h : bv e k = r) : k e = r := h
def on {σ ρ : Type} (v : Option σ) (k : σ → Option ρ) : Option ρ := match v with
  | none => none
  | some x => k x
theorem on_s {σ ρ : Type} {v : Option σ} {k : σ → Option ρ} {r : ρ} (h : on v k = some r) : ∃ x, v = some x ∧ k x = some r := by
  cases v with
  | none => cases h
  | some x => exact ⟨x, rfl, h⟩
/-- a reference that may be null -/
def oz {σ ρ : Type} (v : Option σ) (a : ρ) (b : σ → ρ) : ρ := match v with
  | none => a
  | some x => b x
/-- behind a call that may throw: goes on, or the same throw leaves -/
def xb {σ τ ρ : Type} (v : Option ((Nat ⊕ σ) × St)) (k : σ → St → Option ((Nat ⊕ ρ) × St)) : Option ((Nat ⊕ ρ) × St) := match v with
  | none => none
  | some (.inl e, S) => some (.inl e, S)
  | some (.inr x, S) => k x S
def FU : Nat := 100000
-- vp_in can be decided
theorem vp_in_dec (i : Int32) (n : Nat) : vp_in i n ↔ (decide (i < 0) || decide (n ≤ i.toNatClampNeg)) = false := by
  unfold vp_in
  simp [Bool.or_eq_false_iff, not_or]
/-- an index in range -/
def inb (i : Int32) (n : Nat) : Bool := !(decide (i < 0) || decide (n ≤ i.toNatClampNeg))
theorem inb_in {i : Int32} {n : Nat} (h : inb i n = true) : vp_in i n := by
  rw [vp_in_dec]
  unfold inb at h
  simpa using h
abbrev nn (i : Int32) : Nat := i.toNatClampNeg
/-- a reference kept as a number: 0 is null -/
def r0 (a : Nat) : Value := match a with
  | 0 => .null
  | a + 1 => .ref a
def ce0 (cs : Nat → ClassId) (α : Nat → Nat → Nat) (k g : Nat) (ri : Nat → Int32) (rl : Nat → Int64) (rr : Nat → Option Nat) (n : Nat) : va_E := match k with
  | 0 => .inr (11, [.ref (α 2 (0)), .ref (α 1 (0)), .ref (α 28 (0)), .ref (α 49 (0)), .ref (α 36 (0)), .ref (α 44 (0)), .long (rl 6), .long (rl 7)])
  | 1 => .inl (cs 4, 3, .inr (.inr (.inr (.inr (fun j => (rr j).map (α 2))))))
  | 2 => .inr (2, [.int (ri 0), .ref (α 3 (g)), .ref (α 4 (g)), .ref (α 5 (g)), .ref (α 6 (g)), .ref (α 7 (g)), .long (rl 6), .ref (α 8 (g)), va_rf ((rr 8).map (α 35)), .ref (α 9 (g)), .ref (α 14 (2 * g)), .ref (α 14 (2 * g + 1)), .ref (α 17 (g)), .ref (α 21 (g)), .int (ri 14), .ref (α 22 (g)), .ref (α 26 (g + 1)), .ref (α 27 (g))])
  | 3 => .inl (cs 0, 4, .inl ri)
  | 4 => .inl (cs 0, 4, .inl ri)
  | 5 => .inl (cs 0, 4, .inl ri)
  | 6 => .inl (cs 1, 4, .inr (.inl rl))
  | 7 => .inl (cs 1, 4, .inr (.inl rl))
  | 8 => .inl (cs 5, 4, .inr (.inr (.inr (.inr (fun j => (rr j).map (α 32))))))
  | 9 => .inr (3, [.int (ri 0), .ref (α 10 (g)), .ref (α 11 (g)), .ref (α 12 (g)), .ref (α 13 (g))])
  | 10 => .inl (cs 0, 6, .inl ri)
  | 11 => .inl (cs 0, 6, .inl ri)
  | 12 => .inl (cs 0, 6, .inl ri)
  | 13 => .inl (cs 0, 6, .inl ri)
  | 14 => .inr (0, [.int (ri 0), .ref (α 15 (g)), .ref (α 16 (g)), .int (ri 3)])
  | 15 => .inl (cs 0, n, .inl ri)
  | 16 => .inl (cs 0, 4, .inl ri)
  | 17 => .inr (1, [.ref (α 18 (g)), .ref (α 19 (g)), .ref (α 20 (g)), .int (ri 3)])
  | 18 => .inl (cs 0, 10, .inl ri)
  | 19 => .inl (cs 0, 10, .inl ri)
  | 20 => .inl (cs 0, 10, .inl ri)
  | 21 => .inl (cs 0, 8, .inl ri)
  | 22 => .inr (8, [.ref (α 23 (g)), .ref (α 25 (g)), .int (ri 2), .int (ri 3)])
  | 23 => .inl (cs 6, 2, .inr (.inr (.inr (.inr (fun j => some (α 24 (2 * g + j)))))))
  | 24 => .inl (cs 0, 21, .inl ri)
  | 25 => .inl (cs 0, 18, .inl ri)
  | 26 => .inl (cs 0, 4, .inl ri)
  | 27 => .inl (cs 0, 9, .inl ri)
  | 28 => .inr (9, [.ref (α 29 (g)), .int (ri 1), .ref (α 30 (g)), .int (ri 3), .ref (α 31 (g)), .int (ri 5), .int (ri 6), .int (ri 7), .int (ri 8), .int (ri 9), .int (ri 10)])
  | 29 => .inl (cs 2, 400, .inl ri)
  | 30 => .inl (cs 0, 400, .inl ri)
  | 31 => .inl (cs 0, 12, .inl ri)
  | 32 => .inr (7, [.ref (α 33 (g)), .ref (α 34 (g))])
  | 33 => .inl (cs 0, n, .inl ri)
  | 34 => .inl (cs 0, n, .inl ri)
  | 35 => .inr (5, [.int (ri 0), .int (ri 1), .int (ri 2), .int (ri 3), .int (ri 4)])
  | 36 => .inr (4, [.int (ri 0), .ref (α 37 (g)), .ref (α 39 (g)), .ref (α 26 (0)), .ref (α 41 (g)), .ref (α 43 (g)), .ref (α 47 (g))])
  | 37 => .inl (cs 6, 8, .inr (.inr (.inr (.inr (fun j => some (α 38 (j)))))))
  | 38 => .inl (cs 0, 8, .inl ri)
  | 39 => .inl (cs 6, 8, .inr (.inr (.inr (.inr (fun j => some (α 40 (j)))))))
  | 40 => .inl (cs 0, 8, .inl ri)
  | 41 => .inl (cs 6, 40, .inr (.inr (.inr (.inr (fun j => some (α 42 (j)))))))
  | 42 => .inl (cs 0, 8, .inl ri)
  | 43 => .inl (cs 6, 41, .inr (.inr (.inr (.inr (fun j => some (α 48 (j)))))))
  | 44 => .inr (6, [.ref (α 45 (0)), .ref (α 45 (1)), .int (ri 2), .int (ri 3), .int (ri 4), .int (ri 5)])
  | 45 => .inl (cs 6, 8, .inr (.inr (.inr (.inr (fun j => some (α 46 (8 * g + j)))))))
  | 46 => .inl (cs 0, 8, .inl ri)
  | 47 => .inl (cs 6, 41, .inr (.inr (.inr (.inr (fun j => some (α 58 (j)))))))
  | 48 => .inl (cs 0, 8, .inl ri)
  | 49 => .inr (10, [.ref (α 50 (g)), .ref (α 51 (g)), .ref (α 52 (g)), .ref (α 54 (g)), .ref (α 56 (g))])
  | 50 => .inl (cs 0, 4, .inl ri)
  | 51 => .inl (cs 0, 4, .inl ri)
  | 52 => .inl (cs 7, 4, .inr (.inr (.inr (.inr (fun j => some (α 53 (j)))))))
  | 53 => .inl (cs 1, 28, .inr (.inl rl))
  | 54 => .inl (cs 6, 29, .inr (.inr (.inr (.inr (fun j => some (α 55 (j)))))))
  | 55 => .inl (cs 0, 13, .inl ri)
  | 56 => .inl (cs 6, 28, .inr (.inr (.inr (.inr (fun j => some (α 57 (j)))))))
  | 57 => .inl (cs 0, 13, .inl ri)
  | 58 => .inl (cs 0, 8, .inl ri)
  | 60 => .inr (12, [.ref (α 61 (g)), .ref (α 62 (g)), .ref (α 63 (g)), .ref (α 64 (g)), .ref (α 65 (g)), .int (ri 5), .ref (α 66 (g)), .ref (α 67 (g)), .ref (α 68 (g)), .int (ri 9), .int (ri 10), .int (ri 11), .int (ri 12), .int (ri 13), .int (ri 14), .int (ri 15), .int (ri 16), .int (ri 17), .int (ri 18), .int (ri 19), .int (ri 20), .int (ri 21), .ref (α 69 (g)), .int (ri 23), .ref (α 70 (g)), .ref (α 71 (g)), .long (rl 26), .long (rl 27), .ref (α 72 (g)), .ref (α 73 (g)), .ref (α 74 (g)), .ref (α 75 (g)), .ref (α 76 (g)), .int (ri 33), .int (ri 34), .int (ri 35), .ref (α 77 (g)), .ref (α 78 (g)), .ref (α 79 (g)), .ref (α 80 (g))])
  | 61 => .inl (cs 0, 3179, .inl ri)
  | 62 => .inl (cs 0, 9537, .inl ri)
  | 63 => .inl (cs 1, 9, .inr (.inl rl))
  | 64 => .inl (cs 1, 27, .inr (.inl rl))
  | 65 => .inl (cs 3, 3, .inl ri)
  | 66 => .inl (cs 0, 400, .inl ri)
  | 67 => .inl (cs 0, 440, .inl ri)
  | 68 => .inl (cs 0, 5, .inl ri)
  | 69 => .inl (cs 0, 440, .inl ri)
  | 70 => .inl (cs 0, 4, .inl ri)
  | 71 => .inl (cs 0, 4, .inl ri)
  | 72 => .inl (cs 0, 128, .inl ri)
  | 73 => .inl (cs 0, 328, .inl ri)
  | 74 => .inl (cs 1, 328, .inr (.inl rl))
  | 75 => .inl (cs 1, 328, .inr (.inl rl))
  | 76 => .inl (cs 0, 128, .inl ri)
  | 77 => .inl (cs 0, 377, .inl ri)
  | 78 => .inl (cs 0, 4, .inl ri)
  | 79 => .inl (cs 0, 4, .inl ri)
  | 80 => .inl (cs 1, 112, .inr (.inl rl))
  | 81 => .inl (cs 1, 1, .inr (.inl rl))
  | 100 => .inr (11, [r0 (α 1000 g), r0 (α 1001 g), r0 (α 1002 g), r0 (α 1003 g), r0 (α 1004 g), r0 (α 1005 g), .long (rl 6), .long (rl 7)])
  | 102 => .inr (2, [.int (ri 0), r0 (α 1201 g), r0 (α 1202 g), r0 (α 1203 g), r0 (α 1204 g), r0 (α 1205 g), .long (rl 6), r0 (α 1207 g), .null, r0 (α 1209 g), r0 (α 1210 g), r0 (α 1211 g), r0 (α 1212 g), r0 (α 1213 g), .int (ri 14), r0 (α 1215 g), r0 (α 1216 g), r0 (α 1217 g)])
  | 109 => .inr (3, [.int (ri 0), r0 (α 1901 g), r0 (α 1902 g), r0 (α 1903 g), r0 (α 1904 g)])
  | 114 => .inr (0, [.int (ri 0), r0 (α 2401 g), r0 (α 2402 g), .int (ri 3)])
  | 117 => .inr (1, [r0 (α 2700 g), r0 (α 2701 g), r0 (α 2702 g), .int (ri 3)])
  | 122 => .inr (8, [r0 (α 3200 g), r0 (α 3201 g), .int (ri 2), .int (ri 3)])
  | 128 => .inr (9, [r0 (α 3800 g), .int (ri 1), r0 (α 3802 g), .int (ri 3), r0 (α 3804 g), .int (ri 5), .int (ri 6), .int (ri 7), .int (ri 8), .int (ri 9), .int (ri 10)])
  | 132 => .inr (7, [r0 (α 4200 g), r0 (α 4201 g)])
  | 135 => .inr (5, [.int (ri 0), .int (ri 1), .int (ri 2), .int (ri 3), .int (ri 4)])
  | 136 => .inr (4, [.int (ri 0), r0 (α 4601 g), r0 (α 4602 g), r0 (α 4603 g), r0 (α 4604 g), r0 (α 4605 g), r0 (α 4606 g)])
  | 144 => .inr (6, [r0 (α 5400 g), r0 (α 5401 g), .int (ri 2), .int (ri 3), .int (ri 4), .int (ri 5)])
  | 149 => .inr (10, [r0 (α 5900 g), r0 (α 5901 g), r0 (α 5902 g), r0 (α 5903 g), r0 (α 5904 g)])
  | 160 => .inr (12, [r0 (α 7000 g), r0 (α 7001 g), r0 (α 7002 g), r0 (α 7003 g), r0 (α 7004 g), .int (ri 5), r0 (α 7006 g), r0 (α 7007 g), r0 (α 7008 g), .int (ri 9), .int (ri 10), .int (ri 11), .int (ri 12), .int (ri 13), .int (ri 14), .int (ri 15), .int (ri 16), .int (ri 17), .int (ri 18), .int (ri 19), .int (ri 20), .int (ri 21), r0 (α 7022 g), .int (ri 23), r0 (α 7024 g), r0 (α 7025 g), .long (rl 26), .long (rl 27), r0 (α 7028 g), r0 (α 7029 g), r0 (α 7030 g), r0 (α 7031 g), r0 (α 7032 g), .int (ri 33), .int (ri 34), .int (ri 35), r0 (α 7036 g), r0 (α 7037 g), r0 (α 7038 g), r0 (α 7039 g)])
  | _ => .inr (0, [])
def ce (cs : Nat → ClassId) (α : Nat → Nat → Nat) (S : St) (k g : Nat) : va_E := ce0 cs α k g (gi S k g) (gl S k g) (gr S k g) (gn S k g)
/-- what a live cell points to for good is live -/
def Cl (Lv : Nat → Nat → Prop) : Prop := (∀ g, Lv 0 g → Lv 2 (0) ∧ Lv 1 (0) ∧ Lv 28 (0) ∧ Lv 49 (0) ∧ Lv 36 (0) ∧ Lv 44 (0)) ∧ (∀ g, Lv 2 g → Lv 3 (g) ∧ Lv 4 (g) ∧ Lv 5 (g) ∧ Lv 6 (g) ∧ Lv 7 (g) ∧ Lv 8 (g) ∧ Lv 9 (g) ∧ Lv 14 (2 * g) ∧ Lv 14 (2 * g + 1) ∧ Lv 17 (g) ∧ Lv 21 (g) ∧ Lv 22 (g) ∧ Lv 26 (g + 1) ∧ Lv 27 (g)) ∧ (∀ g, Lv 9 g → Lv 10 (g) ∧ Lv 11 (g) ∧ Lv 12 (g) ∧ Lv 13 (g)) ∧ (∀ g, Lv 14 g → Lv 15 (g) ∧ Lv 16 (g)) ∧ (∀ g, Lv 17 g → Lv 18 (g) ∧ Lv 19 (g) ∧ Lv 20 (g)) ∧ (∀ g, Lv 22 g → Lv 23 (g) ∧ Lv 25 (g)) ∧ (∀ g j, Lv 23 g → j < 2 → Lv 24 (2 * g + j)) ∧ (∀ g, Lv 28 g → Lv 29 (g) ∧ Lv 30 (g) ∧ Lv 31 (g)) ∧ (∀ g, Lv 32 g → Lv 33 (g) ∧ Lv 34 (g)) ∧ (∀ g, Lv 36 g → Lv 37 (g) ∧ Lv 39 (g) ∧ Lv 26 (0) ∧ Lv 41 (g) ∧ Lv 43 (g) ∧ Lv 47 (g)) ∧ (∀ g j, Lv 37 g → j < 8 → Lv 38 (j)) ∧ (∀ g j, Lv 39 g → j < 8 → Lv 40 (j)) ∧ (∀ g j, Lv 41 g → j < 40 → Lv 42 (j)) ∧ (∀ g j, Lv 43 g → j < 41 → Lv 48 (j)) ∧ (∀ g, Lv 44 g → Lv 45 (0) ∧ Lv 45 (1)) ∧ (∀ g j, Lv 45 g → j < 8 → Lv 46 (8 * g + j)) ∧ (∀ g j, Lv 47 g → j < 41 → Lv 58 (j)) ∧ (∀ g, Lv 49 g → Lv 50 (g) ∧ Lv 51 (g) ∧ Lv 52 (g) ∧ Lv 54 (g) ∧ Lv 56 (g)) ∧ (∀ g j, Lv 52 g → j < 4 → Lv 53 (j)) ∧ (∀ g j, Lv 54 g → j < 29 → Lv 55 (j)) ∧ (∀ g j, Lv 56 g → j < 28 → Lv 57 (j)) ∧ (∀ g, Lv 60 g → Lv 61 (g) ∧ Lv 62 (g) ∧ Lv 63 (g) ∧ Lv 64 (g) ∧ Lv 65 (g) ∧ Lv 66 (g) ∧ Lv 67 (g) ∧ Lv 68 (g) ∧ Lv 69 (g) ∧ Lv 70 (g) ∧ Lv 71 (g) ∧ Lv 72 (g) ∧ Lv 73 (g) ∧ Lv 74 (g) ∧ Lv 75 (g) ∧ Lv 76 (g) ∧ Lv 77 (g) ∧ Lv 78 (g) ∧ Lv 79 (g) ∧ Lv 80 (g))
theorem cl_0_now {Lv : Nat → Nat → Prop} (h : Cl Lv) {g : Nat} (hl : Lv 0 g) : Lv 2 (0) := (h.1 g hl).1
theorem cl_0_images {Lv : Nat → Nat → Prop} (h : Cl Lv) {g : Nat} (hl : Lv 0 g) : Lv 1 (0) := (h.1 g hl).2.1
theorem cl_0_reader {Lv : Nat → Nat → Prop} (h : Cl Lv) {g : Nat} (hl : Lv 0 g) : Lv 28 (0) := (h.1 g hl).2.2.1
theorem cl_0_trays {Lv : Nat → Nat → Prop} (h : Cl Lv) {g : Nat} (hl : Lv 0 g) : Lv 49 (0) := (h.1 g hl).2.2.2.1
theorem cl_0_game {Lv : Nat → Nat → Prop} (h : Cl Lv) {g : Nat} (hl : Lv 0 g) : Lv 36 (0) := (h.1 g hl).2.2.2.2.1
theorem cl_0_learners {Lv : Nat → Nat → Prop} (h : Cl Lv) {g : Nat} (hl : Lv 0 g) : Lv 44 (0) := (h.1 g hl).2.2.2.2.2
theorem cl_2_costs {Lv : Nat → Nat → Prop} (h : Cl Lv) {g : Nat} (hl : Lv 2 g) : Lv 3 (g) := (h.2.1 g hl).1
theorem cl_2_lates {Lv : Nat → Nat → Prop} (h : Cl Lv) {g : Nat} (hl : Lv 2 g) : Lv 4 (g) := (h.2.1 g hl).2.1
theorem cl_2_changedIn {Lv : Nat → Nat → Prop} (h : Cl Lv) {g : Nat} (hl : Lv 2 g) : Lv 5 (g) := (h.2.1 g hl).2.2.1
theorem cl_2_profit {Lv : Nat → Nat → Prop} (h : Cl Lv) {g : Nat} (hl : Lv 2 g) : Lv 6 (g) := (h.2.1 g hl).2.2.2.1
theorem cl_2_sold {Lv : Nat → Nat → Prop} (h : Cl Lv) {g : Nat} (hl : Lv 2 g) : Lv 7 (g) := (h.2.1 g hl).2.2.2.2.1
theorem cl_2_rules {Lv : Nat → Nat → Prop} (h : Cl Lv) {g : Nat} (hl : Lv 2 g) : Lv 8 (g) := (h.2.1 g hl).2.2.2.2.2.1
theorem cl_2_drivers {Lv : Nat → Nat → Prop} (h : Cl Lv) {g : Nat} (hl : Lv 2 g) : Lv 9 (g) := (h.2.1 g hl).2.2.2.2.2.2.1
theorem cl_2_hours {Lv : Nat → Nat → Prop} (h : Cl Lv) {g : Nat} (hl : Lv 2 g) : Lv 14 (2 * g) := (h.2.1 g hl).2.2.2.2.2.2.2.1
theorem cl_2_told {Lv : Nat → Nat → Prop} (h : Cl Lv) {g : Nat} (hl : Lv 2 g) : Lv 14 (2 * g + 1) := (h.2.1 g hl).2.2.2.2.2.2.2.2.1
theorem cl_2_changes {Lv : Nat → Nat → Prop} (h : Cl Lv) {g : Nat} (hl : Lv 2 g) : Lv 17 (g) := (h.2.1 g hl).2.2.2.2.2.2.2.2.2.1
theorem cl_2_levels {Lv : Nat → Nat → Prop} (h : Cl Lv) {g : Nat} (hl : Lv 2 g) : Lv 21 (g) := (h.2.1 g hl).2.2.2.2.2.2.2.2.2.2.1
theorem cl_2_stories {Lv : Nat → Nat → Prop} (h : Cl Lv) {g : Nat} (hl : Lv 2 g) : Lv 22 (g) := (h.2.1 g hl).2.2.2.2.2.2.2.2.2.2.2.1
theorem cl_2_row {Lv : Nat → Nat → Prop} (h : Cl Lv) {g : Nat} (hl : Lv 2 g) : Lv 26 (g + 1) := (h.2.1 g hl).2.2.2.2.2.2.2.2.2.2.2.2.1
theorem cl_2_seen {Lv : Nat → Nat → Prop} (h : Cl Lv) {g : Nat} (hl : Lv 2 g) : Lv 27 (g) := (h.2.1 g hl).2.2.2.2.2.2.2.2.2.2.2.2.2
theorem cl_9_many {Lv : Nat → Nat → Prop} (h : Cl Lv) {g : Nat} (hl : Lv 9 g) : Lv 10 (g) := (h.2.2.1 g hl).1
theorem cl_9_habits {Lv : Nat → Nat → Prop} (h : Cl Lv) {g : Nat} (hl : Lv 9 g) : Lv 11 (g) := (h.2.2.1 g hl).2.1
theorem cl_9_knows {Lv : Nat → Nat → Prop} (h : Cl Lv) {g : Nat} (hl : Lv 9 g) : Lv 12 (g) := (h.2.2.1 g hl).2.2.1
theorem cl_9_detours {Lv : Nat → Nat → Prop} (h : Cl Lv) {g : Nat} (hl : Lv 9 g) : Lv 13 (g) := (h.2.2.1 g hl).2.2.2
theorem cl_14_prices {Lv : Nat → Nat → Prop} (h : Cl Lv) {g : Nat} (hl : Lv 14 g) : Lv 15 (g) := (h.2.2.2.1 g hl).1
theorem cl_14_ahead {Lv : Nat → Nat → Prop} (h : Cl Lv) {g : Nat} (hl : Lv 14 g) : Lv 16 (g) := (h.2.2.2.1 g hl).2
theorem cl_17_station {Lv : Nat → Nat → Prop} (h : Cl Lv) {g : Nat} (hl : Lv 17 g) : Lv 18 (g) := (h.2.2.2.2.1 g hl).1
theorem cl_17_hour {Lv : Nat → Nat → Prop} (h : Cl Lv) {g : Nat} (hl : Lv 17 g) : Lv 19 (g) := (h.2.2.2.2.1 g hl).2.1
theorem cl_17_by {Lv : Nat → Nat → Prop} (h : Cl Lv) {g : Nat} (hl : Lv 17 g) : Lv 20 (g) := (h.2.2.2.2.1 g hl).2.2
theorem cl_22_weights {Lv : Nat → Nat → Prop} (h : Cl Lv) {g : Nat} (hl : Lv 22 g) : Lv 23 (g) := (h.2.2.2.2.2.1 g hl).1
theorem cl_22_lags {Lv : Nat → Nat → Prop} (h : Cl Lv) {g : Nat} (hl : Lv 22 g) : Lv 25 (g) := (h.2.2.2.2.2.1 g hl).2
theorem cl_23 {Lv : Nat → Nat → Prop} (h : Cl Lv) {g j : Nat} (hl : Lv 23 g) (hj : j < 2) : Lv 24 (2 * g + j) := h.2.2.2.2.2.2.1 g j hl hj
theorem cl_28_tape {Lv : Nat → Nat → Prop} (h : Cl Lv) {g : Nat} (hl : Lv 28 g) : Lv 29 (g) := (h.2.2.2.2.2.2.2.1 g hl).1
theorem cl_28_tokens {Lv : Nat → Nat → Prop} (h : Cl Lv) {g : Nat} (hl : Lv 28 g) : Lv 30 (g) := (h.2.2.2.2.2.2.2.1 g hl).2.1
theorem cl_28_starts {Lv : Nat → Nat → Prop} (h : Cl Lv) {g : Nat} (hl : Lv 28 g) : Lv 31 (g) := (h.2.2.2.2.2.2.2.1 g hl).2.2
theorem cl_32_tokens {Lv : Nat → Nat → Prop} (h : Cl Lv) {g : Nat} (hl : Lv 32 g) : Lv 33 (g) := (h.2.2.2.2.2.2.2.2.1 g hl).1
theorem cl_32_starts {Lv : Nat → Nat → Prop} (h : Cl Lv) {g : Nat} (hl : Lv 32 g) : Lv 34 (g) := (h.2.2.2.2.2.2.2.2.1 g hl).2
theorem cl_36_gainA {Lv : Nat → Nat → Prop} (h : Cl Lv) {g : Nat} (hl : Lv 36 g) : Lv 37 (g) := (h.2.2.2.2.2.2.2.2.2.1 g hl).1
theorem cl_36_gainB {Lv : Nat → Nat → Prop} (h : Cl Lv) {g : Nat} (hl : Lv 36 g) : Lv 39 (g) := (h.2.2.2.2.2.2.2.2.2.1 g hl).2.1
theorem cl_36_prices {Lv : Nat → Nat → Prop} (h : Cl Lv) {g : Nat} (hl : Lv 36 g) : Lv 26 (0) := (h.2.2.2.2.2.2.2.2.2.1 g hl).2.2.1
theorem cl_36_choices {Lv : Nat → Nat → Prop} (h : Cl Lv) {g : Nat} (hl : Lv 36 g) : Lv 41 (g) := (h.2.2.2.2.2.2.2.2.2.1 g hl).2.2.2.1
theorem cl_36_moverSums {Lv : Nat → Nat → Prop} (h : Cl Lv) {g : Nat} (hl : Lv 36 g) : Lv 43 (g) := (h.2.2.2.2.2.2.2.2.2.1 g hl).2.2.2.2.1
theorem cl_36_waiterSums {Lv : Nat → Nat → Prop} (h : Cl Lv) {g : Nat} (hl : Lv 36 g) : Lv 47 (g) := (h.2.2.2.2.2.2.2.2.2.1 g hl).2.2.2.2.2
theorem cl_37 {Lv : Nat → Nat → Prop} (h : Cl Lv) {g j : Nat} (hl : Lv 37 g) (hj : j < 8) : Lv 38 (j) := h.2.2.2.2.2.2.2.2.2.2.1 g j hl hj
theorem cl_39 {Lv : Nat → Nat → Prop} (h : Cl Lv) {g j : Nat} (hl : Lv 39 g) (hj : j < 8) : Lv 40 (j) := h.2.2.2.2.2.2.2.2.2.2.2.1 g j hl hj
theorem cl_41 {Lv : Nat → Nat → Prop} (h : Cl Lv) {g j : Nat} (hl : Lv 41 g) (hj : j < 40) : Lv 42 (j) := h.2.2.2.2.2.2.2.2.2.2.2.2.1 g j hl hj
theorem cl_43 {Lv : Nat → Nat → Prop} (h : Cl Lv) {g j : Nat} (hl : Lv 43 g) (hj : j < 41) : Lv 48 (j) := h.2.2.2.2.2.2.2.2.2.2.2.2.2.1 g j hl hj
theorem cl_44_tableA {Lv : Nat → Nat → Prop} (h : Cl Lv) {g : Nat} (hl : Lv 44 g) : Lv 45 (0) := (h.2.2.2.2.2.2.2.2.2.2.2.2.2.2.1 g hl).1
theorem cl_44_tableB {Lv : Nat → Nat → Prop} (h : Cl Lv) {g : Nat} (hl : Lv 44 g) : Lv 45 (1) := (h.2.2.2.2.2.2.2.2.2.2.2.2.2.2.1 g hl).2
theorem cl_45 {Lv : Nat → Nat → Prop} (h : Cl Lv) {g j : Nat} (hl : Lv 45 g) (hj : j < 8) : Lv 46 (8 * g + j) := h.2.2.2.2.2.2.2.2.2.2.2.2.2.2.2.1 g j hl hj
theorem cl_47 {Lv : Nat → Nat → Prop} (h : Cl Lv) {g j : Nat} (hl : Lv 47 g) (hj : j < 41) : Lv 58 (j) := h.2.2.2.2.2.2.2.2.2.2.2.2.2.2.2.2.1 g j hl hj
theorem cl_49_sorts {Lv : Nat → Nat → Prop} (h : Cl Lv) {g : Nat} (hl : Lv 49 g) : Lv 50 (g) := (h.2.2.2.2.2.2.2.2.2.2.2.2.2.2.2.2.2.1 g hl).1
theorem cl_49_lengths {Lv : Nat → Nat → Prop} (h : Cl Lv) {g : Nat} (hl : Lv 49 g) : Lv 51 (g) := (h.2.2.2.2.2.2.2.2.2.2.2.2.2.2.2.2.2.1 g hl).2.1
theorem cl_49_numbers {Lv : Nat → Nat → Prop} (h : Cl Lv) {g : Nat} (hl : Lv 49 g) : Lv 52 (g) := (h.2.2.2.2.2.2.2.2.2.2.2.2.2.2.2.2.2.1 g hl).2.2.1
theorem cl_49_least {Lv : Nat → Nat → Prop} (h : Cl Lv) {g : Nat} (hl : Lv 49 g) : Lv 54 (g) := (h.2.2.2.2.2.2.2.2.2.2.2.2.2.2.2.2.2.1 g hl).2.2.2.1
theorem cl_49_filled {Lv : Nat → Nat → Prop} (h : Cl Lv) {g : Nat} (hl : Lv 49 g) : Lv 56 (g) := (h.2.2.2.2.2.2.2.2.2.2.2.2.2.2.2.2.2.1 g hl).2.2.2.2
theorem cl_52 {Lv : Nat → Nat → Prop} (h : Cl Lv) {g j : Nat} (hl : Lv 52 g) (hj : j < 4) : Lv 53 (j) := h.2.2.2.2.2.2.2.2.2.2.2.2.2.2.2.2.2.2.1 g j hl hj
theorem cl_54 {Lv : Nat → Nat → Prop} (h : Cl Lv) {g j : Nat} (hl : Lv 54 g) (hj : j < 29) : Lv 55 (j) := h.2.2.2.2.2.2.2.2.2.2.2.2.2.2.2.2.2.2.2.1 g j hl hj
theorem cl_56 {Lv : Nat → Nat → Prop} (h : Cl Lv) {g j : Nat} (hl : Lv 56 g) (hj : j < 28) : Lv 57 (j) := h.2.2.2.2.2.2.2.2.2.2.2.2.2.2.2.2.2.2.2.2.1 g j hl hj
theorem cl_60_told {Lv : Nat → Nat → Prop} (h : Cl Lv) {g : Nat} (hl : Lv 60 g) : Lv 61 (g) := (h.2.2.2.2.2.2.2.2.2.2.2.2.2.2.2.2.2.2.2.2.2 g hl).1
theorem cl_60_images {Lv : Nat → Nat → Prop} (h : Cl Lv) {g : Nat} (hl : Lv 60 g) : Lv 62 (g) := (h.2.2.2.2.2.2.2.2.2.2.2.2.2.2.2.2.2.2.2.2.2 g hl).2.1
theorem cl_60_sums {Lv : Nat → Nat → Prop} (h : Cl Lv) {g : Nat} (hl : Lv 60 g) : Lv 63 (g) := (h.2.2.2.2.2.2.2.2.2.2.2.2.2.2.2.2.2.2.2.2.2 g hl).2.2.1
theorem cl_60_imageSums {Lv : Nat → Nat → Prop} (h : Cl Lv) {g : Nat} (hl : Lv 60 g) : Lv 64 (g) := (h.2.2.2.2.2.2.2.2.2.2.2.2.2.2.2.2.2.2.2.2.2 g hl).2.2.2.1
theorem cl_60_isImage {Lv : Nat → Nat → Prop} (h : Cl Lv) {g : Nat} (hl : Lv 60 g) : Lv 65 (g) := (h.2.2.2.2.2.2.2.2.2.2.2.2.2.2.2.2.2.2.2.2.2 g hl).2.2.2.2.1
theorem cl_60_tape {Lv : Nat → Nat → Prop} (h : Cl Lv) {g : Nat} (hl : Lv 60 g) : Lv 66 (g) := (h.2.2.2.2.2.2.2.2.2.2.2.2.2.2.2.2.2.2.2.2.2 g hl).2.2.2.2.2.1
theorem cl_60_fresh {Lv : Nat → Nat → Prop} (h : Cl Lv) {g : Nat} (hl : Lv 60 g) : Lv 67 (g) := (h.2.2.2.2.2.2.2.2.2.2.2.2.2.2.2.2.2.2.2.2.2 g hl).2.2.2.2.2.2.1
theorem cl_60_freshLaw {Lv : Nat → Nat → Prop} (h : Cl Lv) {g : Nat} (hl : Lv 60 g) : Lv 68 (g) := (h.2.2.2.2.2.2.2.2.2.2.2.2.2.2.2.2.2.2.2.2.2 g hl).2.2.2.2.2.2.2.1
theorem cl_60_pile {Lv : Nat → Nat → Prop} (h : Cl Lv) {g : Nat} (hl : Lv 60 g) : Lv 69 (g) := (h.2.2.2.2.2.2.2.2.2.2.2.2.2.2.2.2.2.2.2.2.2 g hl).2.2.2.2.2.2.2.2.1
theorem cl_60_now {Lv : Nat → Nat → Prop} (h : Cl Lv) {g : Nat} (hl : Lv 60 g) : Lv 70 (g) := (h.2.2.2.2.2.2.2.2.2.2.2.2.2.2.2.2.2.2.2.2.2 g hl).2.2.2.2.2.2.2.2.2.1
theorem cl_60_nextPrice {Lv : Nat → Nat → Prop} (h : Cl Lv) {g : Nat} (hl : Lv 60 g) : Lv 71 (g) := (h.2.2.2.2.2.2.2.2.2.2.2.2.2.2.2.2.2.2.2.2.2 g hl).2.2.2.2.2.2.2.2.2.2.1
theorem cl_60_gains {Lv : Nat → Nat → Prop} (h : Cl Lv) {g : Nat} (hl : Lv 60 g) : Lv 72 (g) := (h.2.2.2.2.2.2.2.2.2.2.2.2.2.2.2.2.2.2.2.2.2 g hl).2.2.2.2.2.2.2.2.2.2.2.1
theorem cl_60_sets {Lv : Nat → Nat → Prop} (h : Cl Lv) {g : Nat} (hl : Lv 60 g) : Lv 73 (g) := (h.2.2.2.2.2.2.2.2.2.2.2.2.2.2.2.2.2.2.2.2.2 g hl).2.2.2.2.2.2.2.2.2.2.2.2.1
theorem cl_60_mine {Lv : Nat → Nat → Prop} (h : Cl Lv) {g : Nat} (hl : Lv 60 g) : Lv 74 (g) := (h.2.2.2.2.2.2.2.2.2.2.2.2.2.2.2.2.2.2.2.2.2 g hl).2.2.2.2.2.2.2.2.2.2.2.2.2.1
theorem cl_60_its {Lv : Nat → Nat → Prop} (h : Cl Lv) {g : Nat} (hl : Lv 60 g) : Lv 75 (g) := (h.2.2.2.2.2.2.2.2.2.2.2.2.2.2.2.2.2.2.2.2.2 g hl).2.2.2.2.2.2.2.2.2.2.2.2.2.2.1
theorem cl_60_table {Lv : Nat → Nat → Prop} (h : Cl Lv) {g : Nat} (hl : Lv 60 g) : Lv 76 (g) := (h.2.2.2.2.2.2.2.2.2.2.2.2.2.2.2.2.2.2.2.2.2 g hl).2.2.2.2.2.2.2.2.2.2.2.2.2.2.2.1
theorem cl_60_paid {Lv : Nat → Nat → Prop} (h : Cl Lv) {g : Nat} (hl : Lv 60 g) : Lv 77 (g) := (h.2.2.2.2.2.2.2.2.2.2.2.2.2.2.2.2.2.2.2.2.2 g hl).2.2.2.2.2.2.2.2.2.2.2.2.2.2.2.2.1
theorem cl_60_tSort {Lv : Nat → Nat → Prop} (h : Cl Lv) {g : Nat} (hl : Lv 60 g) : Lv 78 (g) := (h.2.2.2.2.2.2.2.2.2.2.2.2.2.2.2.2.2.2.2.2.2 g hl).2.2.2.2.2.2.2.2.2.2.2.2.2.2.2.2.2.1
theorem cl_60_tMany {Lv : Nat → Nat → Prop} (h : Cl Lv) {g : Nat} (hl : Lv 60 g) : Lv 79 (g) := (h.2.2.2.2.2.2.2.2.2.2.2.2.2.2.2.2.2.2.2.2.2 g hl).2.2.2.2.2.2.2.2.2.2.2.2.2.2.2.2.2.2.1
theorem cl_60_numbers {Lv : Nat → Nat → Prop} (h : Cl Lv) {g : Nat} (hl : Lv 60 g) : Lv 80 (g) := (h.2.2.2.2.2.2.2.2.2.2.2.2.2.2.2.2.2.2.2.2.2 g hl).2.2.2.2.2.2.2.2.2.2.2.2.2.2.2.2.2.2.2
