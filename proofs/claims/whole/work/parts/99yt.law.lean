section
-- THE LAW: what the class makes of the tokens
def sw9 (q v x2 x3 x4 x5 x6 : Int32) : Int32 × Int32 × Int32 × Int32 × Int32 := if q = 113 then (x2, x3, x4, 1, x6) else if q = 119 then (v, x3, x4, x5, x6) else if q = 120 then (x2, x3, x4 ||| ((1 : Int32) <<< (v &&& 31)), x5, x6) else if q = 121 then (x2, v, x4, x5, x6) else if q = 122 then (x2, x3, x4, x5, 1) else (x2, x3, x4, x5, x6)
def g20 (g : Nat) (K : Int32 → Int32 → Int32 → Int32 → Int32 → St → Option St) (m : Nat) (x : Int32 × Int32 × Int32 × Int32 × Int32) (i : Nat) (S : St) : Option St := f_X5_init_20 g 0 K m x.1 x.2.1 x.2.2.1 x.2.2.2.1 x.2.2.2.2 (Int32.ofNat i) S
section
variable {S : St} {g L : Nat} {K : Int32 → Int32 → Int32 → Int32 → Int32 → St → Option St}
theorem st20 (h3 : gi S 28 0 3 = Int32.ofNat L) (hL : L ≤ 400) {m i : Nat} {x : Int32 × Int32 × Int32 × Int32 × Int32} (hi : i < L) : g20 g K (m + 1) x i S = g20 g K m (sw9 (gi S 30 0 i) (if i + 1 < L then gi S 30 0 (i + 1) - 200 else 0) x.1 x.2.1 x.2.2.1 x.2.2.2.1 x.2.2.2.2) (i + 1) S := by
  obtain ⟨x2, x3, x4, x5, x6⟩ := x
  unfold g20
  dsimp only
  have fin : ∀ v : Int32, br ((gi S 30 0 i) = 113) (f_X5_init_20 g 0 K m x2 x3 x4 1 x6 (Int32.ofNat (i + 1)) S) (br ((gi S 30 0 i) = 114) (f_X5_init_20 g 0 K m x2 x3 x4 x5 x6 (Int32.ofNat (i + 1)) S) (br ((gi S 30 0 i) = 115) (f_X5_init_20 g 0 K m x2 x3 x4 x5 x6 (Int32.ofNat (i + 1)) S) (br ((gi S 30 0 i) = 116) (f_X5_init_20 g 0 K m x2 x3 x4 x5 x6 (Int32.ofNat (i + 1)) S) (br ((gi S 30 0 i) = 117) (f_X5_init_20 g 0 K m x2 x3 x4 x5 x6 (Int32.ofNat (i + 1)) S) (br ((gi S 30 0 i) = 118) (f_X5_init_20 g 0 K m x2 x3 x4 x5 x6 (Int32.ofNat (i + 1)) S) (br ((gi S 30 0 i) = 119) (f_X5_init_20 g 0 K m v x3 x4 x5 x6 (Int32.ofNat (i + 1)) S) (br ((gi S 30 0 i) = 120) (f_X5_init_20 g 0 K m x2 x3 (x4 ||| ((1 : Int32) <<< (v &&& 31))) x5 x6 (Int32.ofNat (i + 1)) S) (br ((gi S 30 0 i) = 121) (f_X5_init_20 g 0 K m x2 v x4 x5 x6 (Int32.ofNat (i + 1)) S) (br ((gi S 30 0 i) = 122) (f_X5_init_20 g 0 K m x2 x3 x4 x5 1 (Int32.ofNat (i + 1)) S) (f_X5_init_20 g 0 K m x2 x3 x4 x5 x6 (Int32.ofNat (i + 1)) S)))))))))) = f_X5_init_20 g 0 K m (sw9 (gi S 30 0 i) v x2 x3 x4 x5 x6).1 (sw9 (gi S 30 0 i) v x2 x3 x4 x5 x6).2.1 (sw9 (gi S 30 0 i) v x2 x3 x4 x5 x6).2.2.1 (sw9 (gi S 30 0 i) v x2 x3 x4 x5 x6).2.2.2.1 (sw9 (gi S 30 0 i) v x2 x3 x4 x5 x6).2.2.2.2 (Int32.ofNat (i + 1)) S := by
    intro v
    generalize gi S 30 0 i = q
    unfold sw9
    by_cases h1 : q = 113
    · rw [brp h1, if_pos h1]
    rw [brn h1, if_neg h1]
    by_cases h2 : q = 114
    · rw [brp h2, h2]; rfl
    rw [brn h2]
    by_cases h3 : q = 115
    · rw [brp h3, h3]; rfl
    rw [brn h3]
    by_cases h4 : q = 116
    · rw [brp h4, h4]; rfl
    rw [brn h4]
    by_cases h5 : q = 117
    · rw [brp h5, h5]; rfl
    rw [brn h5]
    by_cases h6 : q = 118
    · rw [brp h6, h6]; rfl
    rw [brn h6]
    by_cases h7 : q = 119
    · rw [brp h7, if_pos h7]
    rw [brn h7, if_neg h7]
    by_cases h8 : q = 120
    · rw [brp h8, if_pos h8]
    rw [brn h8, if_neg h8]
    by_cases h9 : q = 121
    · rw [brp h9, if_pos h9]
    rw [brn h9, if_neg h9]
    by_cases h0 : q = 122
    · rw [brp h0, if_pos h0]
    rw [brn h0, if_neg h0]
  rw [f_X5_init_20, h3, brn (fun z => absurd ((zLE (by omega) (by omega)).mp z) (by omega))]
  simp only [bvN, zp1, ck_t (show inb (Int32.ofNat i) 400 = true from ib (by omega) (by omega)), zN (show i < 2147483648 by omega), zN (show i + 1 < 2147483648 by omega)]
  by_cases e : i + 1 < L
  · rw [if_pos e, brn (fun z => absurd ((zLE (by omega) (by omega)).mp z) (by omega)), ck_t (ib (by omega) (by omega))]
    exact fin _
  · rw [if_neg e, brp ((zLE (by omega) (by omega)).mpr (by omega))]
    exact fin _
/-- the class's words of a law -/
def cv (fl : Nat → Int32) : Int32 × Int32 × Int32 × Int32 × Int32 := (if fl 0 = -1 then 0 else fl 0, fl 2, fl 1, fl 4, fl 3)
theorem sw_n {k : Nat} (hk : k < 1000) (h : k < 113 ∨ 122 < k) {v x2 x3 x4 x5 x6 : Int32} : sw9 (Int32.ofNat k) v x2 x3 x4 x5 x6 = (x2, x3, x4, x5, x6) := by
  have n : ∀ j : Nat, 113 ≤ j → j ≤ 122 → ¬ Int32.ofNat k = Int32.ofNat j := fun j h1 h2 z => absurd ((zE (by omega) (by omega)).mp z) (by omega)
  unfold sw9
  rw [if_neg (show ¬ Int32.ofNat k = 113 from n 113 (by omega) (by omega)), if_neg (show ¬ Int32.ofNat k = 119 from n 119 (by omega) (by omega)), if_neg (show ¬ Int32.ofNat k = 120 from n 120 (by omega) (by omega)), if_neg (show ¬ Int32.ofNat k = 121 from n 121 (by omega) (by omega)), if_neg (show ¬ Int32.ofNat k = 122 from n 122 (by omega) (by omega))]
theorem ln20 (h3 : gi S 28 0 3 = Int32.ofNat L) (hL : L ≤ 400) {tks : List Int32} (hl : tks.length = L) (htk : ∀ i, i < L → gi S 30 0 i = tks.getD i 0) : ∀ (ls : List (Nat × Nat)) (m i : Nat) (fl : Nat → Int32), (∀ l ∈ ls, okL l) → tks.drop i = ls.flatMap tkLn → i ≤ L → L - i < m → g20 g K m (cv fl) i S = K (cv (ls.foldl stepL fl)).1 (cv (ls.foldl stepL fl)).2.1 (cv (ls.foldl stepL fl)).2.2.1 (cv (ls.foldl stepL fl)).2.2.2.1 (cv (ls.foldl stepL fl)).2.2.2.2 S := by
  intro ls
  induction ls with
  | nil =>
    intro m i fl _ hd hi hm
    obtain ⟨m, rfl⟩ : ∃ x, m = x + 1 := ⟨m - 1, by omega⟩
    have := congrArg List.length hd
    rw [List.length_drop, hl] at this
    have : L - i = 0 := this
    unfold g20
    rw [f_X5_init_20, h3, brp ((zLE (by omega) (by omega)).mpr (by omega))]; rfl
  | cons l ls ih =>
    intro m i fl ok hd hi hm
    have okl := ok l (List.mem_cons_self)
    rw [List.flatMap_cons] at hd
    unfold tkLn at hd
    by_cases q : 119 ≤ l.1 ∧ l.1 ≤ 121
    · rw [if_pos q] at hd
      obtain ⟨a1, a2, a3⟩ := dr_get hd
      obtain ⟨b1, b2, b3⟩ := dr_get a3
      obtain ⟨c1, c2, c3⟩ := dr_get b3
      rw [hl] at a1 b1 c1
      obtain ⟨m, rfl⟩ : ∃ x, m = x + 1 + 1 + 1 := ⟨m - 3, by omega⟩
      have t0 := htk i a1
      have t1 := htk (i + 1) b1
      have t2 := htk (i + 1 + 1) c1
      rw [a2] at t0
      rw [b2] at t1
      rw [c2] at t2
      have l100 : l.2 < 100 := by unfold okL at okl; omega
      have sub : Int32.ofNat (200 + l.2) - 200 = Int32.ofNat l.2 := by
        refine (zS 200 (by omega)).trans ?_
        exact congrArg Int32.ofNat (show 200 + l.2 - 200 = l.2 by omega)
      have key : sw9 (Int32.ofNat l.1) (Int32.ofNat l.2) (cv fl).1 (cv fl).2.1 (cv fl).2.2.1 (cv fl).2.2.2.1 (cv fl).2.2.2.2 = cv (stepL fl l) := by
        unfold okL at okl
        unfold stepL
        rcases (show l.1 = 119 ∨ l.1 = 120 ∨ l.1 = 121 by omega) with e | e | e
        · rw [e]
          show (Int32.ofNat l.2, fl 2, fl 1, fl 4, fl 3) = cv (upd fl 0 (Int32.ofNat l.2))
          unfold cv
          rw [upd_eq, if_neg (zNe (by omega))]; rfl
        · rw [e]; rfl
        · rw [e]; rfl
      rw [st20 h3 hL a1, t0, if_pos b1, t1, sub, key, st20 h3 hL b1, t1, sw_n (by omega) (by omega), st20 h3 hL c1, t2, show (59 : Int32) = Int32.ofNat 59 from rfl, sw_n (by decide) (by decide), List.foldl_cons]
      exact ih m (i + 1 + 1 + 1) (stepL fl l) (fun y hy => ok y (List.mem_cons_of_mem _ hy)) c3 (by omega) (by omega)
    · rw [if_neg q] at hd
      obtain ⟨a1, a2, a3⟩ := dr_get hd
      obtain ⟨b1, b2, b3⟩ := dr_get a3
      rw [hl] at a1 b1
      obtain ⟨m, rfl⟩ : ∃ x, m = x + 1 + 1 := ⟨m - 2, by omega⟩
      have t0 := htk i a1
      have t1 := htk (i + 1) b1
      rw [a2] at t0
      rw [b2] at t1
      have key : ∀ v : Int32, sw9 (Int32.ofNat l.1) v (cv fl).1 (cv fl).2.1 (cv fl).2.2.1 (cv fl).2.2.2.1 (cv fl).2.2.2.2 = cv (stepL fl l) := by
        intro v
        unfold okL at okl
        unfold stepL
        rcases (show l.1 = 122 ∨ l.1 = 113 by omega) with e | e
        · rw [e]; rfl
        · rw [e]; rfl
      rw [st20 h3 hL a1, t0, key, st20 h3 hL b1, t1, show (59 : Int32) = Int32.ofNat 59 from rfl, sw_n (by decide) (by decide), List.foldl_cons]
      exact ih m (i + 1 + 1) (stepL fl l) (fun y hy => ok y (List.mem_cons_of_mem _ hy)) b3 (by omega) (by omega)
/-- what holds of a law that is read -/
def Lok (fl : Nat → Int32) : Prop := (fl 0 = -1 ∨ (Lt 100 (fl 0) ∧ fl 0 ≠ 0)) ∧ (fl 2 = -1 ∨ Lt 100 (fl 2)) ∧ (fl 3 = 0 ∨ fl 3 = 1) ∧ (fl 4 = 0 ∨ fl 4 = 1)
theorem Lok.st {fl : Nat → Int32} (h : Lok fl) {l : Nat × Nat} (ok : okL l) : Lok (stepL fl l) := by
  obtain ⟨h1, h2, h3, h4⟩ := h
  unfold stepL
  unfold okL at ok
  by_cases e0 : l.1 = 119
  · rw [if_pos e0]
    refine ⟨Or.inr ?_, h2, h3, h4⟩
    rw [upd_eq]
    exact ⟨⟨l.2, by omega, rfl⟩, fun z => absurd ((zE (b := 0) (by omega) (by omega)).mp z) (by omega)⟩
  rw [if_neg e0]
  by_cases e1 : l.1 = 120
  · rw [if_pos e1]; exact ⟨h1, h2, h3, h4⟩
  rw [if_neg e1]
  by_cases e2 : l.1 = 121
  · rw [if_pos e2]; exact ⟨h1, Or.inr ⟨l.2, by omega, upd_eq⟩, h3, h4⟩
  rw [if_neg e2]
  by_cases e3 : l.1 = 122
  · rw [if_pos e3]; exact ⟨h1, h2, Or.inr upd_eq, h4⟩
  · rw [if_neg e3]; exact ⟨h1, h2, h3, Or.inr upd_eq⟩
theorem Lok.fo : ∀ (ls : List (Nat × Nat)) (fl : Nat → Int32), Lok fl → (∀ l ∈ ls, okL l) → Lok (ls.foldl stepL fl) := by
  intro ls
  induction ls with
  | nil => intro fl h _; exact h
  | cons l ls ih => intro fl h ok; exact ih _ (h.st (ok l (List.mem_cons_self))) (fun y hy => ok y (List.mem_cons_of_mem _ hy))
end
theorem in5 {S : St} {g L : Nat} (h3 : gi S 28 0 3 = Int32.ofNat L) (hL : L ≤ 400) {ls : List (Nat × Nat)} (hl : (ls.flatMap tkLn).length = L) (htk : ∀ i, i < L → gi S 30 0 i = (ls.flatMap tkLn).getD i 0) (ok : ∀ l ∈ ls, okL l) {fl : Nat → Int32} (f0 : fl 0 = -1) (f1 : fl 1 = 0) (f2 : fl 2 = -1) (f3 : fl 3 = 0) (f4 : fl 4 = 0) : ∃ S', f_X5_init g 0 S = some S' ∧ Fr (fun k x => k = 35 ∧ x = g) S S' ∧ gi S' 35 g 0 = (if (ls.foldl stepL fl) 0 = -1 then 0 else (ls.foldl stepL fl) 0) ∧ gi S' 35 g 1 = (ls.foldl stepL fl) 1 ∧ gi S' 35 g 2 = (ls.foldl stepL fl) 2 ∧ gi S' 35 g 3 = (ls.foldl stepL fl) 4 ∧ gi S' 35 g 4 = (ls.foldl stepL fl) 3 := by
  have F : FU = 100000 := rfl
  have lk9 : Lok (ls.foldl stepL fl) := Lok.fo ls fl ⟨Or.inl f0, Or.inl f2, Or.inl f3, Or.inl f4⟩ ok
  have c0 : cv fl = (0, -1, 0, 0, 0) := by unfold cv; rw [if_pos f0, f1, f2, f3, f4]
  have w := ln20 (S := cp S 135 35 g) (g := g) (L := L) (K := fun (x2_20 : Int32) (x3_21 : Int32) (x4_22 : Int32) (x5_23 : Int32) (x6_24 : Int32) (S_25 : St) => bv (si S_25 35 g 0 x2_20) (fun S_26 => bv (si S_26 35 g 2 x3_21) (fun S_27 => bv (si S_27 35 g 1 x4_22) (fun S_28 => ck (x5_23 = 0 ∨ x5_23 = 1) (bv (si S_28 35 g 3 x5_23) (fun S_30 => ck (x6_24 = 0 ∨ x6_24 = 1) (bv (si S_30 35 g 4 x6_24) (fun S_32 => some S_32)))))))) (by rw [pgi_cp, if_neg (by omega)]; exact h3) hL hl (fun i hi => by rw [pgi_cp, if_neg (by omega)]; exact htk i hi) ls FU 0 fl ok (List.drop_zero) (by omega) (by omega)
  rw [c0] at w
  unfold g20 at w
  rw [show Int32.ofNat 0 = (0 : Int32) from rfl] at w
  have e : f_X5_init g 0 S = some (si (si (si (si (si (cp S 135 35 g) 35 g 0 (cv (ls.foldl stepL fl)).1) 35 g 2 (cv (ls.foldl stepL fl)).2.1) 35 g 1 (cv (ls.foldl stepL fl)).2.2.1) 35 g 3 (cv (ls.foldl stepL fl)).2.2.2.1) 35 g 4 (cv (ls.foldl stepL fl)).2.2.2.2) := by
    unfold f_X5_init
    rw [bvN]
    refine Eq.trans w ?_
    rw [bvN, bvN, bvN, ck_t (show (cv (ls.foldl stepL fl)).2.2.2.1 = 0 ∨ (cv (ls.foldl stepL fl)).2.2.2.1 = 1 from lk9.2.2.2), bvN, ck_t (show (cv (ls.foldl stepL fl)).2.2.2.2 = 0 ∨ (cv (ls.foldl stepL fl)).2.2.2.2 = 1 from lk9.2.2.1), bvN]
  refine ⟨_, e, ?_, ?_, ?_, ?_, ?_, ?_⟩
  · exact (Fr.cp ⟨rfl, rfl⟩).tr ((Fr.si ⟨rfl, rfl⟩).tr ((Fr.si ⟨rfl, rfl⟩).tr ((Fr.si ⟨rfl, rfl⟩).tr ((Fr.si ⟨rfl, rfl⟩).tr (Fr.si ⟨rfl, rfl⟩)))))
  · simp [pgi_si, upd_ap, cv]
  · simp [pgi_si, upd_ap, cv]
  · simp [pgi_si, upd_ap, cv]
  · simp [pgi_si, upd_ap, cv]
  · simp [pgi_si, upd_ap, cv]
end
