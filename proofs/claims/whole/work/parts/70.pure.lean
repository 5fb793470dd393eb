-- PURE PART: the functions of class and reference over the state
def Ok {α : Type} (v : Option α) (P : α → Prop) : Prop := ∃ x, v = some x ∧ P x
theorem Ok.sm {α : Type} {x : α} {P : α → Prop} (h : P x) : Ok (some x) P := ⟨x, rfl, h⟩
theorem Ok.eq {α : Type} {v : Option α} {x : α} {P : α → Prop} (e : v = some x) (h : P x) : Ok v P := ⟨x, e, h⟩
theorem Ok.c {α : Type} {c : Prop} [Decidable c] {k : Option α} {P : α → Prop} (hc : c) (h : Ok k P) : Ok (ck c k) P := by rw [ck_t hc]; exact h
theorem Ok.b {α : Type} {c : Prop} [Decidable c] {a b : Option α} {P : α → Prop} (h1 : c → Ok a P) (h2 : ¬ c → Ok b P) : Ok (br c a b) P := by
  unfold br
  by_cases hc : c
  · rw [if_pos hc]; exact h1 hc
  · rw [if_neg hc]; exact h2 hc
theorem Ok.v {α σ : Type} {e : σ} {k : σ → Option α} {P : α → Prop} (h : Ok (k e) P) : Ok (bv e k) P := h
theorem Ok.o {α σ : Type} {v : Option σ} {k : σ → Option α} {Q : σ → Prop} {P : α → Prop} (hv : Ok v Q) (h : ∀ x, Q x → Ok (k x) P) : Ok (on v k) P := by
  obtain ⟨x, rfl, hq⟩ := hv
  exact h x hq
theorem Ok.o2 {α σ : Type} {v : Option (σ × St)} {k : σ → St → Option α} {Q : σ × St → Prop} {P : α → Prop} (hv : Ok v Q) (h : ∀ x S, Q (x, S) → Ok (k x S) P) : Ok (on2 v k) P := by
  obtain ⟨⟨x, S⟩, rfl, hq⟩ := hv
  exact h x S hq
theorem Ok.mono {α : Type} {v : Option α} {P Q : α → Prop} (hv : Ok v P) (h : ∀ x, P x → Q x) : Ok v Q := by
  obtain ⟨x, e, hp⟩ := hv
  exact ⟨x, e, h x hp⟩
theorem brp {ρ : Type} {c : Prop} [Decidable c] {a b : ρ} (hc : c) : br c a b = a := if_pos hc
theorem brn {ρ : Type} {c : Prop} [Decidable c] {a b : ρ} (hc : ¬ c) : br c a b = b := if_neg hc
-- NUMBERS
theorem zI {n : Nat} (h : n < 2147483648) : (Int32.ofNat n).toInt = (n : Int) := Int32.toInt_ofNat_of_lt (by omega)
theorem zN {n : Nat} (h : n < 2147483648) : nn (Int32.ofNat n) = n := i32_nn h
theorem zA (a n : Nat) : (no_index (OfNat.ofNat a) : Int32) + Int32.ofNat n = Int32.ofNat (OfNat.ofNat a + n) := (Int32.ofNat_add _ _).symm
theorem zA' (a n : Nat) : Int32.ofNat n + (no_index (OfNat.ofNat a) : Int32) = Int32.ofNat (n + OfNat.ofNat a) := (Int32.ofNat_add _ _).symm
theorem zAA (a n : Nat) : Int32.ofNat n + Int32.ofNat a = Int32.ofNat (n + a) := (Int32.ofNat_add _ _).symm
theorem zMu (a n : Nat) : (no_index (OfNat.ofNat a) : Int32) * Int32.ofNat n = Int32.ofNat (OfNat.ofNat a * n) := (Int32.ofNat_mul _ _).symm
theorem zMu' (a n : Nat) : Int32.ofNat n * (no_index (OfNat.ofNat a) : Int32) = Int32.ofNat (n * OfNat.ofNat a) := (Int32.ofNat_mul _ _).symm
theorem zS {n : Nat} (a : Nat) (h : a ≤ n) : Int32.ofNat n - Int32.ofNat a = Int32.ofNat (n - a) := by
  have e : Int32.ofNat n = Int32.ofNat (n - a) + Int32.ofNat a := by rw [zAA]; congr 1; omega
  rw [e, Int32.add_sub_cancel]
theorem zB {n m : Nat} (h : n < 2147483648) : inb (Int32.ofNat n) m = decide (n < m) := by
  have h0 : ¬ Int32.ofNat n < 0 := by
    rw [Int32.lt_iff_toInt_lt, zI h]
    show ¬ (n : Int) < 0
    omega
  unfold inb
  rw [decide_eq_false h0, show (Int32.ofNat n).toNatClampNeg = n from zN h]
  by_cases hm : n < m
  · rw [decide_eq_true hm, decide_eq_false (by omega)]; rfl
  · rw [decide_eq_false hm, decide_eq_true (by omega)]; rfl
theorem zL {a b : Nat} (ha : a < 2147483648) (hb : b < 2147483648) : (Int32.ofNat a < Int32.ofNat b) ↔ a < b := by
  rw [Int32.lt_iff_toInt_lt, zI ha, zI hb]; omega
theorem zLE {a b : Nat} (ha : a < 2147483648) (hb : b < 2147483648) : (Int32.ofNat a ≤ Int32.ofNat b) ↔ a ≤ b := by
  rw [Int32.le_iff_toInt_le, zI ha, zI hb]; omega
theorem zE {a b : Nat} (ha : a < 2147483648) (hb : b < 2147483648) : (Int32.ofNat a = Int32.ofNat b) ↔ a = b := by
  constructor
  · intro h
    have := congrArg Int32.toInt h
    rw [zI ha, zI hb] at this
    omega
  · intro h; rw [h]
/-- a number from 0 up to n, as a Nat -/
theorem zW {x : Int32} {n : Nat} (hn : n < 2147483648) (h0 : ¬ x < 0) (h1 : x < Int32.ofNat n) : ∃ k : Nat, k < n ∧ x = Int32.ofNat k := by
  rw [Int32.lt_iff_toInt_lt] at h0 h1
  rw [zI hn] at h1
  have h0 : ¬ x.toInt < 0 := h0
  refine ⟨x.toInt.toNat, by omega, ?_⟩
  rw [← Int32.toInt_inj, zI (by omega)]
  omega
-- THE ROWS OF THE STATE
theorem pgi_si {S : St} {k g j k' g' : Nat} {v : Int32} : gi (si S k g j v) k' g' = if k' = k ∧ g' = g then upd (gi S k g) j v else gi S k' g' := rfl
theorem pgi_ai {S : St} {k g k' g' : Nat} {f : Nat → Int32} : gi (ai S k g f) k' g' = if k' = k ∧ g' = g then f else gi S k' g' := rfl
theorem pgi_sl {S : St} {k g j k' g' : Nat} {v : Int64} : gi (sl S k g j v) k' g' = gi S k' g' := rfl
theorem pgi_al {S : St} {k g k' g' : Nat} {f : Nat → Int64} : gi (al S k g f) k' g' = gi S k' g' := rfl
theorem pgi_sr {S : St} {k g j k' g' : Nat} {v : Option Nat} : gi (sr S k g j v) k' g' = gi S k' g' := rfl
theorem pgl_si {S : St} {k g j k' g' : Nat} {v : Int32} : gl (si S k g j v) k' g' = gl S k' g' := rfl
theorem pgl_ai {S : St} {k g k' g' : Nat} {f : Nat → Int32} : gl (ai S k g f) k' g' = gl S k' g' := rfl
theorem pgl_sl {S : St} {k g j k' g' : Nat} {v : Int64} : gl (sl S k g j v) k' g' = if k' = k ∧ g' = g then vp_updL (gl S k g) j v else gl S k' g' := rfl
theorem pgl_al {S : St} {k g k' g' : Nat} {f : Nat → Int64} : gl (al S k g f) k' g' = if k' = k ∧ g' = g then f else gl S k' g' := rfl
theorem pgl_sr {S : St} {k g j k' g' : Nat} {v : Option Nat} : gl (sr S k g j v) k' g' = gl S k' g' := rfl
theorem pgr_si {S : St} {k g j k' g' : Nat} {v : Int32} : gr (si S k g j v) k' g' = gr S k' g' := rfl
theorem pgr_ai {S : St} {k g k' g' : Nat} {f : Nat → Int32} : gr (ai S k g f) k' g' = gr S k' g' := rfl
theorem pgr_sl {S : St} {k g j k' g' : Nat} {v : Int64} : gr (sl S k g j v) k' g' = gr S k' g' := rfl
theorem pgr_al {S : St} {k g k' g' : Nat} {f : Nat → Int64} : gr (al S k g f) k' g' = gr S k' g' := rfl
theorem pgr_sr {S : St} {k g j k' g' : Nat} {v : Option Nat} : gr (sr S k g j v) k' g' = if k' = k ∧ g' = g then va_up (gr S k g) j v else gr S k' g' := rfl
theorem pgn_si {S : St} {k g j k' g' : Nat} {v : Int32} : gn (si S k g j v) k' g' = gn S k' g' := rfl
theorem pgn_ai {S : St} {k g k' g' : Nat} {f : Nat → Int32} : gn (ai S k g f) k' g' = gn S k' g' := rfl
theorem pgn_sl {S : St} {k g j k' g' : Nat} {v : Int64} : gn (sl S k g j v) k' g' = gn S k' g' := rfl
theorem pgn_al {S : St} {k g k' g' : Nat} {f : Nat → Int64} : gn (al S k g f) k' g' = gn S k' g' := rfl
theorem pgn_sr {S : St} {k g j k' g' : Nat} {v : Option Nat} : gn (sr S k g j v) k' g' = gn S k' g' := rfl
-- LEAVES OF THE REFERENCE
theorem e_within (a b c : Int64) (S : St) : f_X12_within a b c S = some (if b ≤ a ∧ a ≤ c then 1 else 0) := by
  unfold f_X12_within bv br ck
  dsimp only
  by_cases h1 : a < b
  · rw [if_pos ((lg_cmp_lt _ _).mpr h1), if_pos (Or.inl rfl), if_neg (fun h => absurd h.1 (Int64.not_le.mpr h1))]
  · rw [if_neg (fun h => h1 ((lg_cmp_lt _ _).mp h))]
    by_cases h2 : c < a
    · rw [if_pos ((lg_cmp_gt _ _).mpr h2), if_pos (Or.inl rfl), if_neg (fun h => absurd h.2 (Int64.not_le.mpr h2))]
    · rw [if_neg (fun h => h2 ((lg_cmp_gt _ _).mp h)), if_pos (Or.inr rfl), if_pos ⟨Int64.not_lt.mp h1, Int64.not_lt.mp h2⟩]
theorem i64_le {a b : Int32} : a.toInt64 ≤ b.toInt64 ↔ a ≤ b := by
  rw [Int64.le_iff_toInt_le, Int32.le_iff_toInt_le, Int32.toInt_toInt64, Int32.toInt_toInt64]
theorem e_wi {x lo hi : Int32} {a b : Int64} {S : St} (ha : a = lo.toInt64) (hb : b = hi.toInt64) : f_X12_within x.toInt64 a b S = some (if lo ≤ x ∧ x ≤ hi then 1 else 0) := by
  rw [e_within, ha, hb]
  simp only [i64_le]
