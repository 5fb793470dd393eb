-- THE INVARIANT between class (kinds below 60) and reference (61: told, 63: sums, ..)
/-- a price -/
def Pr (x : Int32) : Prop := ∃ d : Nat, d ≤ 99 ∧ x = Int32.ofNat d
/-- a number below n -/
def Lt (n : Nat) (x : Int32) : Prop := ∃ d : Nat, d < n ∧ x = Int32.ofNat d
def Cst (N h : Nat) (co la cg T : Nat → Int32) : Prop := ∀ s, s < N → co s = T (8 + s) ∧ Pr (T (8 + s)) ∧ la s = T (16 + s) ∧ Lt 4 (T (16 + s)) ∧ cg s = T (24 + s) ∧ (T (24 + s) = -1 ∨ Lt h (T (24 + s)))
def Csu (pf so : Nat → Int64) (pd : Int64) (M : Nat → Int64) : Prop := (∀ s, s < 4 → pf s = M s ∧ so s = M (4 + s)) ∧ pd = M 8
def Cdr (N D : Nat) (mn hb kn dt T : Nat → Int32) : Prop := ∀ k, k < D → mn k = T (28 + 4 * k) ∧ hb k = T (28 + 4 * k + 1) ∧ kn k = T (28 + 4 * k + 2) ∧ dt k = T (28 + 4 * k + 3) ∧ (∃ d, d ≤ 99 ∧ T (28 + 4 * k) = Int32.ofNat d) ∧ Lt N (T (28 + 4 * k + 1)) ∧ Lt (2 ^ N) (T (28 + 4 * k + 2)) ∧ Lt 21 (T (28 + 4 * k + 3))
def Chr (N h : Nat) (pr ah T : Nat → Int32) : Prop := (∀ s, s < N → ah s = T (20 + s) ∧ Pr (T (20 + s))) ∧ (∀ q s, q < h → q < 256 → s < N → pr (4 * q + s) = T (1885 + 4 * q + s) ∧ Pr (T (1885 + 4 * q + s))) ∧ (∀ s, s < N → T (12 + s) = if h = 0 then T (20 + s) else T (1885 + 4 * ((h - 1) % 256) + s))
def Cto (N to : Nat) (pr ah T : Nat → Int32) : Prop := (∀ k s, k < to → s < N → pr (4 * k + s) = T (2909 + 4 * k + s) ∧ Pr (T (2909 + 4 * k + s))) ∧ (0 < to → ∀ s, s < N → ah s = T (2909 + s))
def Cch (N h ch : Nat) (st hr by_ T : Nat → Int32) : Prop := ∀ k, k < ch → st k = T (3149 + 3 * k) ∧ hr k = T (3149 + 3 * k + 1) ∧ by_ k = T (3149 + 3 * k + 2) ∧ Lt N (T (3149 + 3 * k)) ∧ Lt (h + 1) (T (3149 + 3 * k + 1)) ∧ (-99 ≤ (T (3149 + 3 * k + 2)).toInt ∧ (T (3149 + 3 * k + 2)).toInt ≤ 99)
def Clv (lv : Nat) (l T : Nat → Int32) : Prop := ∀ i, i < lv → l i = T (52 + i) ∧ Pr (T (52 + i))
/-- the lags of all rises, as they stand behind each other -/
def lagsOf (T : Nat → Int32) (ri : Nat) : List Int32 := ((List.range (3 * ri)).map (fun i => T (60 + i))).filter (fun x => decide (x ≠ -1))
def Cri (ri : Nat) (lm : Int32) (lg T : Nat → Int32) : Prop := lm = Int32.ofNat (lagsOf T ri).length ∧ (∀ k, k < (lagsOf T ri).length → lg k = (lagsOf T ri).getD k 0) ∧ ∀ x ∈ lagsOf T ri, Lt 21 x
def Cwe (w0 w1 T : Nat → Int32) : Prop := ∀ i, i < 21 → w0 i = T (78 + i) ∧ w1 i = T (99 + i) ∧ Lt 10 (T (78 + i)) ∧ Lt 10 (T (99 + i))
def Cla (L : Option Nat) (o : Nat → Nat → Int32) (T : Nat → Int32) : Prop := match L with
  | none => T 120 = -1 ∧ T 121 = 0 ∧ T 122 = -1 ∧ T 123 = 0 ∧ T 124 = 0
  | some r => (o r 0 = if T 120 = -1 then 0 else T 120) ∧ (T 120 = -1 ∨ (Lt 100 (T 120) ∧ T 120 ≠ 0)) ∧ o r 1 = T 121 ∧ o r 2 = T 122 ∧ (T 122 = -1 ∨ Lt 100 (T 122)) ∧ o r 3 = T 124 ∧ o r 4 = T 123 ∧ (T 123 = 0 ∨ T 123 = 1) ∧ (T 124 = 0 ∨ T 124 = 1)
-- RULES as a text: terms by their code (up to 99: the number itself, 100 on: the names), sums, claims, rules
/-- (first term, further ones with their sign: true for +) -/
abbrev Sm : Type := Nat × List (Bool × Nat)
/-- (how many nots, left, 0 less 1 same 2 more, right) -/
abbrev Cl_ : Type := Nat × Sm × Nat × Sm
/-- (deed, amount, some of all of claims) -/
abbrev Ru : Type := Nat × Nat × List (List Cl_)
def tkT (t : Nat) : Int32 := if t < 100 then Int32.ofNat (200 + t) else Int32.ofNat (10 + t)
def tkS (x : Sm) : List Int32 := tkT x.1 :: x.2.flatMap (fun q => [if q.1 then 43 else 45, tkT q.2])
def tkC (x : Cl_) : List Int32 := List.replicate x.1 109 ++ (tkS x.2.1 ++ (Int32.ofNat (60 + x.2.2.1) :: tkS x.2.2.2))
def tkA (xs : List Cl_) : List Int32 := ((xs.map tkC).intersperse [108]).flatten
def tkO (xs : List (List Cl_)) : List Int32 := ((xs.map tkA).intersperse [107]).flatten
def tkR (r : Ru) : List Int32 := Int32.ofNat (100 + r.1) :: ((if r.1 < 4 then [Int32.ofNat (200 + r.2.1)] else []) ++ ((if r.2.2 = [] then [] else 106 :: tkO r.2.2) ++ [59]))
def cdS (x : Sm) : List Int32 := Int32.ofNat x.1 :: x.2.flatMap (fun q => [Int32.ofNat q.2, if q.1 then 110 else 111])
def cdC (x : Cl_) : List Int32 := cdS x.2.1 ++ (cdS x.2.2.2 ++ (Int32.ofNat (112 + x.2.2.1) :: List.replicate x.1 115))
def cdA (xs : List Cl_) : List Int32 := match xs with
  | [] => []
  | c :: cs => cdC c ++ cs.flatMap (fun c => cdC c ++ [116])
def cdO (xs : List (List Cl_)) : List Int32 := match xs with
  | [] => []
  | c :: cs => cdA c ++ cs.flatMap (fun c => cdA c ++ [117])
def cdR (r : Ru) : List Int32 := Int32.ofNat r.1 :: Int32.ofNat r.2.1 :: Int32.ofNat (cdO r.2.2).length :: cdO r.2.2
def okT (t : Nat) : Prop := t < 109
def okS (x : Sm) : Prop := okT x.1 ∧ ∀ q ∈ x.2, okT q.2
def okC (x : Cl_) : Prop := x.1 ≤ 4 ∧ okS x.2.1 ∧ x.2.2.1 < 3 ∧ okS x.2.2.2
def okR (r : Ru) : Prop := r.1 < 6 ∧ r.2.1 < 100 ∧ (4 ≤ r.1 → r.2.1 = 0) ∧ ∀ a ∈ r.2.2, a ≠ [] ∧ ∀ c ∈ a, okC c
/-- where each rule's tokens begin -/
def stR : Nat → List Ru → List Nat
  | _, [] => []
  | n, r :: rs => n :: stR (n + (tkR r).length) rs
def tkRs (rs : List Ru) : List Int32 := rs.flatMap tkR
def cdRs (rs : List Ru) : List Int32 := rs.flatMap cdR
/-- class's tokens and starts, reference's code from place a on, tell one list of rules -/
def Cru1 (rs : List Ru) (nt ns : Nat) (tk st : Nat → Int32) (T : Nat → Int32) (a : Nat) : Prop :=
  (∀ r ∈ rs, okR r) ∧ rs.length ≤ 12 ∧ nt = (tkRs rs).length ∧ nt ≤ 400 ∧ (∀ i, i < nt → tk i = (tkRs rs).getD i 0) ∧ ns = rs.length ∧ (∀ i, i < ns → st i = Int32.ofNat ((stR 0 rs).getD i 0)) ∧ (cdRs rs).length < 440 ∧ T a = Int32.ofNat rs.length ∧ ∀ i, i < (cdRs rs).length → T (a + 1 + i) = (cdRs rs).getD i 0
def Cru (N : Nat) (R : Nat → Option Nat) (S : St) (T : Nat → Int32) : Prop := (∀ s, N ≤ s → s < 4 → R s = none) ∧ ∀ s, s < N → match R s with
  | none => T (125 + 440 * s) = 0
  | some r => ∃ rs, Cru1 rs (gn S 33 r) (gn S 34 r) (gi S 33 r) (gi S 34 r) T (125 + 440 * s)
/-- the counts, in the reference -/
def Cn (T : Nat → Int32) (N D h lv ri to ch : Nat) : Prop := (T 0 = Int32.ofNat N ∧ N ≤ 4) ∧ (T 1 = Int32.ofNat D ∧ D ≤ 6) ∧ (T 2 = Int32.ofNat h ∧ h ≤ 3000) ∧ (T 3 = Int32.ofNat lv ∧ lv ≤ 8) ∧ (T 4 = Int32.ofNat ri ∧ ri ≤ 6) ∧ (T 5 = Int32.ofNat to ∧ to ≤ 60) ∧ (T 6 = Int32.ofNat ch ∧ ch ≤ 10)
/-- the counts and sizes, in the class -/
def Ckn (S : St) (g N D h lv ri to ch : Nat) : Prop := gi S 2 g 0 = Int32.ofNat N ∧ gi S 9 g 0 = Int32.ofNat D ∧ gi S 14 (2 * g) 3 = Int32.ofNat h ∧ gi S 2 g 14 = Int32.ofNat lv ∧ gi S 22 g 3 = Int32.ofNat ri ∧ gi S 14 (2 * g + 1) 3 = Int32.ofNat to ∧ gi S 17 g 3 = Int32.ofNat ch ∧ gi S 14 (2 * g) 0 = 256 ∧ gi S 14 (2 * g + 1) 0 = 60 ∧ gn S 15 (2 * g) = 1024 ∧ gn S 15 (2 * g + 1) = 240
/-- one crossing of the class tells what T and M tell; t: numbers given out so far -/
def Cr (t : Nat) (S : St) (g : Nat) (T : Nat → Int32) (M : Nat → Int64) : Prop := ∃ N D h lv ri to ch : Nat, Cn T N D h lv ri to ch ∧ Ckn S g N D h lv ri to ch ∧ Cst N h (gi S 3 g) (gi S 4 g) (gi S 5 g) T ∧ Csu (gl S 6 g) (gl S 7 g) (gl S 2 g 6) M ∧ Cdr N D (gi S 10 g) (gi S 11 g) (gi S 12 g) (gi S 13 g) T ∧ Chr N h (gi S 15 (2 * g)) (gi S 16 (2 * g)) T ∧ Cto N to (gi S 15 (2 * g + 1)) (gi S 16 (2 * g + 1)) T ∧ Cch N h ch (gi S 18 g) (gi S 19 g) (gi S 20 g) T ∧ Clv lv (gi S 21 g) T ∧ Cri ri (gi S 22 g 2) (gi S 25 g) T ∧ Cwe (gi S 24 (2 * g)) (gi S 24 (2 * g + 1)) T ∧ Cla (gr S 2 g 8) (gi S 35) T ∧ Cru N (gr S 8 g) S T ∧ (∀ r, gr S 2 g 8 = some r → r ≤ t) ∧ (∀ s r, gr S 8 g s = some r → r ≤ t)
/-- tape, fault -/
def Crd (S : St) : Prop := ∃ n : Nat, gi S 28 0 1 = Int32.ofNat n ∧ gi S 60 0 9 = Int32.ofNat n ∧ n ≤ 400 ∧ (∀ i, i < n → gi S 29 0 i = vp_nar .byte (gi S 66 0 i) ∧ Lt 256 (gi S 66 0 i)) ∧ gi S 28 0 6 = gi S 60 0 18 ∧ gi S 28 0 7 = gi S 60 0 19
def Cfr (S : St) : Prop := gl S 0 0 6 = gl S 60 0 26 ∧ gl S 0 0 7 = gl S 60 0 27
def Ctr (S : St) : Prop := ∀ t, t < 4 → gi S 50 0 t = gi S 78 0 t ∧ (gi S 78 0 t = -1 ∨ Lt 4 (gi S 78 0 t)) ∧ ∃ n, n ≤ 28 ∧ gi S 51 0 t = Int32.ofNat n ∧ gi S 79 0 t = Int32.ofNat n ∧ ∀ k, k < n → gl S 53 t k = gl S 80 0 (28 * t + k)
def Cim (t : Nat) (S : St) : Prop := (∀ i, i < 3 → match gr S 1 0 i with
  | none => gi S 65 0 i = 0
  | some g => gi S 65 0 i = 1 ∧ 0 < g ∧ g ≤ t ∧ Cr t S g (fun k => gi S 62 0 (3179 * i + k)) (fun k => gl S 64 0 (9 * i + k))) ∧ ∀ i j g, i < 3 → j < 3 → gr S 1 0 i = some g → gr S 1 0 j = some g → i = j
def Inv (t : Nat) (S : St) : Prop := Cr t S 0 (gi S 61 0) (gl S 63 0) ∧ Cim t S ∧ Crd S ∧ Cfr S ∧ Ctr S
-- FRAMES
/-- outside of W nothing differs -/
def Fr (W : Nat → Nat → Prop) (S S' : St) : Prop := ∀ k x, ¬ W k x → gi S' k x = gi S k x ∧ gl S' k x = gl S k x ∧ gr S' k x = gr S k x ∧ gn S' k x = gn S k x
theorem Fr.rf {W : Nat → Nat → Prop} {S : St} : Fr W S S := fun _ _ _ => ⟨rfl, rfl, rfl, rfl⟩
theorem Fr.tr {W : Nat → Nat → Prop} {S S1 S2 : St} (h1 : Fr W S S1) (h2 : Fr W S1 S2) : Fr W S S2 := fun k x h => by
  obtain ⟨a1, a2, a3, a4⟩ := h1 k x h
  obtain ⟨b1, b2, b3, b4⟩ := h2 k x h
  exact ⟨b1.trans a1, b2.trans a2, b3.trans a3, b4.trans a4⟩
theorem Fr.mono {W W' : Nat → Nat → Prop} {S S' : St} (h : Fr W S S') (hw : ∀ k x, W k x → W' k x) : Fr W' S S' := fun k x hn => h k x (fun z => hn (hw k x z))
theorem Fr.si {W : Nat → Nat → Prop} {S : St} {k g j : Nat} {v : Int32} (h : W k g) : Fr W S (si S k g j v) := fun k' x hn => by
  refine ⟨?_, rfl, rfl, rfl⟩
  rw [pgi_si, if_neg (fun e => hn (by rw [e.1, e.2]; exact h))]
theorem Fr.ai {W : Nat → Nat → Prop} {S : St} {k g : Nat} {f : Nat → Int32} (h : W k g) : Fr W S (ai S k g f) := fun k' x hn => by
  refine ⟨?_, rfl, rfl, rfl⟩
  rw [pgi_ai, if_neg (fun e => hn (by rw [e.1, e.2]; exact h))]
theorem Fr.sl {W : Nat → Nat → Prop} {S : St} {k g j : Nat} {v : Int64} (h : W k g) : Fr W S (sl S k g j v) := fun k' x hn => by
  refine ⟨rfl, ?_, rfl, rfl⟩
  rw [pgl_sl, if_neg (fun e => hn (by rw [e.1, e.2]; exact h))]
theorem Fr.al {W : Nat → Nat → Prop} {S : St} {k g : Nat} {f : Nat → Int64} (h : W k g) : Fr W S (al S k g f) := fun k' x hn => by
  refine ⟨rfl, ?_, rfl, rfl⟩
  rw [pgl_al, if_neg (fun e => hn (by rw [e.1, e.2]; exact h))]
theorem Fr.sr {W : Nat → Nat → Prop} {S : St} {k g j : Nat} {v : Option Nat} (h : W k g) : Fr W S (sr S k g j v) := fun k' x hn => by
  refine ⟨rfl, rfl, ?_, rfl⟩
  rw [pgr_sr, if_neg (fun e => hn (by rw [e.1, e.2]; exact h))]
/-- the rows of the class that crossing g reads -/
def own (g k x : Nat) : Prop := ((2 ≤ k ∧ k ≤ 13 ∨ 17 ≤ k ∧ k ≤ 22 ∨ k = 25) ∧ x = g) ∨ ((k = 14 ∨ k = 15 ∨ k = 16 ∨ k = 24) ∧ (x = 2 * g ∨ x = 2 * g + 1)) ∨ (32 ≤ k ∧ k ≤ 35)
theorem Cr.fr {t g : Nat} {S S' : St} {T : Nat → Int32} {M : Nat → Int64} {W : Nat → Nat → Prop} (hf : Fr W S S') (hw : ∀ k x, W k x → ¬ own g k x) (h : Cr t S g T M) : Cr t S' g T M := by
  have e : ∀ k x, own g k x → gi S' k x = gi S k x ∧ gl S' k x = gl S k x ∧ gr S' k x = gr S k x ∧ gn S' k x = gn S k x := fun k x ho => hf k x (fun z => hw k x z ho)
  have a : ∀ k, (2 ≤ k ∧ k ≤ 13 ∨ 17 ≤ k ∧ k ≤ 22 ∨ k = 25) → gi S' k g = gi S k g ∧ gl S' k g = gl S k g ∧ gr S' k g = gr S k g ∧ gn S' k g = gn S k g := fun k hk => e k g (Or.inl ⟨hk, rfl⟩)
  have b0 : ∀ k, (k = 14 ∨ k = 15 ∨ k = 16 ∨ k = 24) → gi S' k (2 * g) = gi S k (2 * g) ∧ gl S' k (2 * g) = gl S k (2 * g) ∧ gr S' k (2 * g) = gr S k (2 * g) ∧ gn S' k (2 * g) = gn S k (2 * g) := fun k hk => e k _ (Or.inr (Or.inl ⟨hk, Or.inl rfl⟩))
  have b1 : ∀ k, (k = 14 ∨ k = 15 ∨ k = 16 ∨ k = 24) → gi S' k (2 * g + 1) = gi S k (2 * g + 1) ∧ gl S' k (2 * g + 1) = gl S k (2 * g + 1) ∧ gr S' k (2 * g + 1) = gr S k (2 * g + 1) ∧ gn S' k (2 * g + 1) = gn S k (2 * g + 1) := fun k hk => e k _ (Or.inr (Or.inl ⟨hk, Or.inr rfl⟩))
  have r : ∀ k x, 32 ≤ k → k ≤ 35 → gi S' k x = gi S k x ∧ gl S' k x = gl S k x ∧ gr S' k x = gr S k x ∧ gn S' k x = gn S k x := fun k x h1 h2 => e k x (Or.inr (Or.inr ⟨h1, h2⟩))
  have e35 : gi S' 35 = gi S 35 := funext fun x => (r 35 x (by omega) (by omega)).1
  obtain ⟨N, D, h', lv, ri, to, ch, c1, c2, c3, c4, c5, c6, c7, c8, c9, c10, c11, c12, c13, c14, c15⟩ := h
  refine ⟨N, D, h', lv, ri, to, ch, c1, ?_, ?_, ?_, ?_, ?_, ?_, ?_, ?_, ?_, ?_, ?_, ?_, ?_, ?_⟩
  · unfold Ckn
    rw [(a 2 (by omega)).1, (a 9 (by omega)).1, (b0 14 (by omega)).1, (a 22 (by omega)).1, (b1 14 (by omega)).1, (a 17 (by omega)).1, (b0 15 (by omega)).2.2.2, (b1 15 (by omega)).2.2.2]
    exact c2
  · rw [(a 3 (by omega)).1, (a 4 (by omega)).1, (a 5 (by omega)).1]; exact c3
  · rw [(a 6 (by omega)).2.1, (a 7 (by omega)).2.1, (a 2 (by omega)).2.1]; exact c4
  · rw [(a 10 (by omega)).1, (a 11 (by omega)).1, (a 12 (by omega)).1, (a 13 (by omega)).1]; exact c5
  · rw [(b0 15 (by omega)).1, (b0 16 (by omega)).1]; exact c6
  · rw [(b1 15 (by omega)).1, (b1 16 (by omega)).1]; exact c7
  · rw [(a 18 (by omega)).1, (a 19 (by omega)).1, (a 20 (by omega)).1]; exact c8
  · rw [(a 21 (by omega)).1]; exact c9
  · rw [(a 22 (by omega)).1, (a 25 (by omega)).1]; exact c10
  · rw [(b0 24 (by omega)).1, (b1 24 (by omega)).1]; exact c11
  · rw [(a 2 (by omega)).2.2.1, e35]; exact c12
  · rw [(a 8 (by omega)).2.2.1]
    refine ⟨c13.1, fun s hs => ?_⟩
    have := c13.2 s hs
    cases hr : gr S 8 g s with
    | none => rw [hr] at this; exact this
    | some r9 =>
      rw [hr] at this
      show ∃ rs, Cru1 rs (gn S' 33 r9) (gn S' 34 r9) (gi S' 33 r9) (gi S' 34 r9) T _
      rw [(r 33 r9 (by omega) (by omega)).1, (r 34 r9 (by omega) (by omega)).1, (r 33 r9 (by omega) (by omega)).2.2.2, (r 34 r9 (by omega) (by omega)).2.2.2]
      exact this
  · rw [(a 2 (by omega)).2.2.1]; exact c14
  · rw [(a 8 (by omega)).2.2.1]; exact c15
theorem Cr.t {t t' g : Nat} {S : St} {T : Nat → Int32} {M : Nat → Int64} (ht : t ≤ t') (h : Cr t S g T M) : Cr t' S g T M := by
  obtain ⟨N, D, h', lv, ri, to, ch, c1, c2, c3, c4, c5, c6, c7, c8, c9, c10, c11, c12, c13, c14, c15⟩ := h
  exact ⟨N, D, h', lv, ri, to, ch, c1, c2, c3, c4, c5, c6, c7, c8, c9, c10, c11, c12, c13, fun r hr => Nat.le_trans (c14 r hr) ht, fun s r hr => Nat.le_trans (c15 s r hr) ht⟩
/-- the images don't see what is written elsewhere -/
theorem Cim.fr {t t' : Nat} {S S' : St} {W : Nat → Nat → Prop} (hf : Fr W S S') (ht : t ≤ t') (hw : ∀ g k x, 0 < g → g ≤ t → W k x → ¬ own g k x) (h0 : ¬ W 1 0) (h1 : ¬ W 62 0) (h2 : ¬ W 64 0) (h3 : ¬ W 65 0) (h : Cim t S) : Cim t' S' := by
  refine ⟨fun i hi => ?_, fun i j g => ?_⟩
  · have := h.1 i hi
    rw [(hf 1 0 h0).2.2.1]
    cases hr : gr S 1 0 i with
    | none => rw [hr] at this; show gi S' 65 0 i = 0; rw [(hf 65 0 h3).1]; exact this
    | some g =>
      rw [hr] at this
      obtain ⟨a1, a2, a3, a4⟩ := this
      refine ⟨by rw [(hf 65 0 h3).1]; exact a1, a2, Nat.le_trans a3 ht, ?_⟩
      rw [(hf 62 0 h1).1, (hf 64 0 h2).2.1]
      exact (Cr.fr hf (fun k x => hw g k x a2 a3) a4).t ht
  · rw [(hf 1 0 h0).2.2.1]; exact h.2 i j g
