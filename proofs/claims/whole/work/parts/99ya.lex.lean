section
-- READING: bytes, words, tokens
theorem si_ai {S : St} {k g j : Nat} {r : Nat → Int32} {v : Int32} : si (ai S k g r) k g j v = ai S k g (upd r j v) := by
  unfold si; rw [gai, ai_ai]
theorem uu {r : Nat → Int32} {k : Nat} {a b : Int32} : upd (upd r k a) k b = upd r k b := by
  funext j
  by_cases e : j = k
  · rw [e, upd_eq, upd_eq]
  · rw [upd_ne e, upd_ne e, upd_ne e]
theorem us {r : Nat → Int32} {k : Nat} {a : Int32} (h : r k = a) : upd r k a = r := by
  funext j
  by_cases e : j = k
  · rw [e, upd_eq, h]
  · rw [upd_ne e]
def SZ0 : St := (fun _ _ _ => 0, fun _ _ _ => 0, fun _ _ _ => none, fun _ _ => 0, fun _ => 0)
/-- a byte, as the class keeps it -/
def nb (d : Nat) : Int32 := (Int32.ofNat d).toInt8.toInt32
theorem nb_eq (d : Nat) : vp_nar .byte (Int32.ofNat d) = nb d := rfl
def wsp (d : Nat) : Bool := decide (d = 32) || decide (d = 10)
def ltr (d : Nat) : Bool := decide (97 ≤ d) && decide (d ≤ 122)
def dgt (d : Nat) : Bool := decide (48 ≤ d) && decide (d ≤ 57)
def sgn (d : Nat) : Bool := decide (d = 59) || decide (d = 60) || decide (d = 61) || decide (d = 62) || decide (d = 43) || decide (d = 45)
def bo1 (b : Bool) : Int32 := if b then 1 else 0
def sg9 (x : Int32) (S : St) : Option Int32 := bv (fun (v_22 : Int32) (_ : St) => some v_22) (fun J_24 => bv (fun (S_25 : St) => J_24 x S_25) (fun J_26 => br (x = 59) (J_26 S) (on (f_X9_isPlusOrMinus x S) (fun r_29 => br (r_29 = 0) (on (f_X9_isRelation x S) (fun r_32 => br (r_32 = 0) (J_24 (-2) S) (J_26 S))) (J_26 S)))))
def bytB (d : Nat) : Bool := decide (f_X9_isLetter (nb d) SZ0 = some (bo1 (ltr d))) && (decide (f_X9_isDigit (nb d) SZ0 = some (bo1 (dgt d))) && (decide (f_X12_isLetter (Int32.ofNat d) SZ0 = some (bo1 (ltr d))) && (decide (f_X12_isDigit (Int32.ofNat d) SZ0 = some (bo1 (dgt d))) && (decide (f_X12_isSign (Int32.ofNat d) SZ0 = some (bo1 (sgn d))) && (decide (sg9 (nb d) SZ0 = some (if sgn d then Int32.ofNat d else -2)) && (decide (decide (nb d = 32) = decide (d = 32)) && (decide (decide (nb d = 10) = decide (d = 10)) && (decide ((Int32.ofNat d &&& 255) = Int32.ofNat d) && decide ((nb d).toInt = if d < 128 then (d : Int) else (d : Int) - 256)))))))))
theorem byt_all : (List.range 256).all bytB = true := by decide +kernel
section
variable {d : Nat} {S : St}
theorem byt (h : d < 256) : f_X9_isLetter (nb d) S = some (bo1 (ltr d)) ∧ f_X9_isDigit (nb d) S = some (bo1 (dgt d)) ∧ f_X12_isLetter (Int32.ofNat d) S = some (bo1 (ltr d)) ∧ f_X12_isDigit (Int32.ofNat d) S = some (bo1 (dgt d)) ∧ f_X12_isSign (Int32.ofNat d) S = some (bo1 (sgn d)) ∧ sg9 (nb d) S = some (if sgn d then Int32.ofNat d else -2) ∧ (nb d = 32 ↔ d = 32) ∧ (nb d = 10 ↔ d = 10) ∧ (Int32.ofNat d &&& 255) = Int32.ofNat d ∧ (nb d).toInt = if d < 128 then (d : Int) else (d : Int) - 256 := by
  have h := List.all_eq_true.mp byt_all d (List.mem_range.mpr h)
  unfold bytB at h
  simp only [Bool.and_eq_true, decide_eq_true_eq, decide_eq_decide] at h
  exact h
end
theorem nb_ch {d k : Nat} (hd : d < 256) (hk : k < 128) : nb d = Int32.ofNat k ↔ d = k := by
  have e := (byt (S := SZ0) hd).2.2.2.2.2.2.2.2.2
  constructor
  · intro h
    rw [h, zI (by omega)] at e
    by_cases c : d < 128
    · rw [if_pos c] at e; omega
    · rw [if_neg c] at e; omega
  · intro h
    rw [← Int32.toInt_inj, e, zI (by omega), h, if_pos hk]
/-- from p on, while P holds below n -/
def ruF (P : Nat → Bool) (n : Nat) : Nat → Nat → Nat
  | 0, p => p
  | f + 1, p => if p < n ∧ P p = true then ruF P n f (p + 1) else p
def ru (P : Nat → Bool) (n p : Nat) : Nat := ruF P n (n - p) p
section
variable {P : Nat → Bool} {n p : Nat}
theorem ru_go (h : p < n) (hp : P p = true) : ru P n p = ru P n (p + 1) := by
  unfold ru
  rw [show n - p = (n - (p + 1)) + 1 by omega, ruF, if_pos ⟨h, hp⟩]
theorem ru_st (h : ¬ (p < n ∧ P p = true)) : ru P n p = p := by
  unfold ru
  by_cases c : n - p = 0
  · rw [c]; rfl
  · rw [show n - p = (n - p - 1) + 1 by omega, ruF, if_neg h]
theorem ru_ge : ∀ (m p : Nat), n - p ≤ m → p ≤ ru P n p ∧ (p ≤ n → ru P n p ≤ n) ∧ ¬ (ru P n p < n ∧ P (ru P n p) = true) ∧ ∀ i, p ≤ i → i < ru P n p → P i = true := by
  intro m
  induction m with
  | zero =>
    intro p h
    rw [ru_st (by omega)]
    exact ⟨Nat.le_refl _, id, by omega, fun i h1 h2 => absurd h1 (by omega)⟩
  | succ m ih =>
    intro p h
    by_cases c : p < n ∧ P p = true
    · rw [ru_go c.1 c.2]
      obtain ⟨a1, a2, a3, a4⟩ := ih (p + 1) (by omega)
      refine ⟨by omega, fun _ => a2 (by omega), a3, fun i h1 h2 => ?_⟩
      by_cases e : i = p
      · rw [e]; exact c.2
      · exact a4 i (by omega) h2
    · rw [ru_st c]
      exact ⟨Nat.le_refl _, id, c, fun i h1 h2 => absurd h1 (by omega)⟩
end
def wds : List (List Nat) := [[117, 112], [100, 111, 119, 110], [116, 111], [98, 101, 108, 111, 119], [109, 97, 116, 99, 104], [107, 101, 101, 112], [119, 104, 101, 110], [111, 114], [97, 110, 100], [110, 111, 116], [111, 119, 110], [108, 101, 97, 115, 116], [109, 111, 115, 116], [99, 111, 115, 116], [104, 111, 117, 114], [100, 97, 121], [115, 105, 110, 99, 101], [114, 111, 115, 101], [102, 101, 108, 108], [111, 110, 99, 101], [97, 116], [99, 97, 112], [116, 111, 108, 100]]
/-- the word's number, or 1 -/
def lk (x : List Nat) : List (List Nat) → Nat → Nat
  | [], _ => 1
  | w :: r, k => if x = w then k else lk x r (k + 1)
theorem lk_ge {x : List Nat} : ∀ (ws : List (List Nat)) (k : Nat), lk x ws k = 1 ∨ (k ≤ lk x ws k ∧ lk x ws k < k + ws.length) := by
  intro ws
  induction ws with
  | nil => intro k; exact Or.inl rfl
  | cons w r ih =>
    intro k
    rw [lk]
    by_cases e : x = w
    · rw [if_pos e]; exact Or.inr ⟨Nat.le_refl _, by rw [List.length_cons]; omega⟩
    · rw [if_neg e]
      rcases ih (k + 1) with h | h
      · exact Or.inl h
      · exact Or.inr ⟨by omega, by rw [List.length_cons]; omega⟩
theorem lk_iff {x : List Nat} : ∀ (ws : List (List Nat)) (k j : Nat), ws.Nodup → 2 ≤ k → j < ws.length → (lk x ws k = k + j ↔ x = ws.getD j []) := by
  intro ws
  induction ws with
  | nil => intro k j _ _ h; exact absurd h (Nat.not_lt_zero j)
  | cons w r ih =>
    intro k j nd hk hj
    rw [List.nodup_cons] at nd
    rw [lk]
    by_cases e : x = w
    · rw [if_pos e]
      cases j with
      | zero => exact ⟨fun _ => e, fun _ => rfl⟩
      | succ j =>
        refine ⟨fun z => absurd z (by omega), fun z => absurd ?_ nd.1⟩
        rw [List.getD_cons_succ] at z
        rw [← e, z, List.getD_eq_getElem?_getD, List.getElem?_eq_getElem (by rw [List.length_cons] at hj; omega)]
        exact List.getElem_mem _
    · rw [if_neg e]
      cases j with
      | zero =>
        refine ⟨fun z => ?_, fun z => absurd z e⟩
        rcases lk_ge (x := x) r (k + 1) with h | h
        · omega
        · omega
      | succ j =>
        rw [List.getD_cons_succ, ← ih (k + 1) j nd.2 (by omega) (by rw [List.length_cons] at hj; omega), show k + 1 + j = k + (j + 1) by omega]
theorem wds_nd : wds.Nodup := by decide +kernel
def tx (c : Nat → Nat) (b e : Nat) : List Nat := (List.range (e - b)).map (fun i => c (b + i))
theorem tx_nil {c : Nat → Nat} {b e : Nat} (h : e ≤ b) : tx c b e = [] := by
  unfold tx; rw [show e - b = 0 by omega]; rfl
theorem tx_cons {c : Nat → Nat} {b e : Nat} (h : b < e) : tx c b e = c b :: tx c (b + 1) e := by
  unfold tx
  rw [show e - b = (e - (b + 1)) + 1 by omega, List.range_succ_eq_map, List.map_cons, List.map_map]
  refine congrArg (c b :: ·) (List.map_congr_left (fun i _ => ?_))
  show c (b + (i + 1)) = c (b + 1 + i)
  congr 1; omega
theorem tx_len {c : Nat → Nat} {b e : Nat} : (tx c b e).length = e - b := by
  unfold tx; rw [List.length_map, List.length_range]
/-- a token's code as the class has it: 1 is an unknown word, 2 no token -/
def tc (t : Nat) : Int32 := if t = 1 then -1 else if t = 2 then -2 else Int32.ofNat t
theorem tc_n {t : Nat} (h1 : t ≠ 1) (h2 : t ≠ 2) : tc t = Int32.ofNat t := by unfold tc; rw [if_neg h1, if_neg h2]
def bgn (c : Nat → Nat) (n p : Nat) : Nat := ru (fun i => wsp (c i)) n p
def enL (c : Nat → Nat) (n b : Nat) : Nat := ru (fun i => ltr (c i)) n b
def enD (c : Nat → Nat) (n b : Nat) : Nat := ru (fun i => dgt (c i)) n b
def nmv (c : Nat → Nat) (b e : Nat) : Nat := if e - b = 1 then c b - 48 else 10 * (c b - 48) + (c (b + 1) - 48)
/-- code and end of the token that begins at b -/
def tok (c : Nat → Nat) (n b : Nat) : Nat × Nat :=
  if n ≤ b then (0, b) else if ltr (c b) = true then (lk (tx c b (enL c n b)) wds 100, enL c n b) else if dgt (c b) = true then (if enD c n b - b ≤ 2 then 200 + nmv c b (enD c n b) else 2, enD c n b) else (if sgn (c b) = true then c b else 2, b + 1)
end
