-- GAME TABLES: what two stations gain at each pair of levels
def GP (T : Nat → Int32) (a b i j s : Nat) : Int32 := if s = b then T (52 + j) else if s = a then T (52 + i) else T (12 + s)
def GX (T : Nat → Int32) (N D a b c i j : Nat) : Int32 := soG T (GP T a b i j) N c D 0 0 * (GP T a b i j c - T (8 + c))
theorem gp2 {p T : Nat → Int32} {N a b i j : Nat} (h : ∀ s, s < N → s ≠ a → s ≠ b → p s = T (12 + s)) : ∀ s, s < N → upd (upd p a (T (52 + i))) b (T (52 + j)) s = GP T a b i j s := by
  intro s hs
  unfold GP
  by_cases e : s = b
  · rw [if_pos e, e, upd_eq]
  · rw [if_neg e, upd_ne e]
    by_cases e1 : s = a
    · rw [if_pos e1, e1, upd_eq]
    · rw [if_neg e1, upd_ne e1]; exact h s hs e1 e
section TA
variable {S : St} {N D h lv a b : Nat} {T : Nat → Int32} {P : St → Prop}
def Wb (k x : Nat) : Prop := (k = 26 ∧ x = 0) ∨ (k = 36 ∧ x = 0) ∨ k = 38 ∨ k = 40
def Bg (S : St) (T : Nat → Int32) (N D lv a b i j : Nat) (S' : St) : Prop := Fr Wb S S' ∧ gi S' 36 0 0 = Int32.ofNat lv ∧ (∀ s, s < N → s ≠ a → s ≠ b → gi S' 26 0 s = T (12 + s)) ∧ ∀ i' j', i' < lv → j' < lv → (i' < i ∨ i' = i ∧ j' < j) → gi S' 38 i' j' = GX T N D a b a i' j' ∧ gi S' 40 i' j' = GX T N D a b b i' j'
theorem Bg.r {i j : Nat} {S' : St} (q : Bg S T N D lv a b i j S') {k x : Nat} (h1 : k ≠ 26) (h2 : k ≠ 36) (h3 : k ≠ 38) (h4 : k ≠ 40) : gi S' k x = gi S k x ∧ gl S' k x = gl S k x ∧ gr S' k x = gr S k x ∧ gn S' k x = gn S k x := q.1 k x (fun z => by unfold Wb at z; omega)
theorem bg_in {i : Nat} {x4 : Int32} {K : St → Option St} (hN : N ≤ 4) (hD : D ≤ 6) (hl : lv ≤ 8) (ha : a < N) (hb : b < N) (k1 : gi S 9 0 0 = Int32.ofNat D) (c5 : Cdr N D (gi S 10 0) (gi S 11 0) (gi S 12 0) (gi S 13 0) T) (c9 : Clv lv (gi S 21 0) T) (c3 : ∀ s, s < N → gi S 3 0 s = T (8 + s)) (hx : (T 123 = 1 ∧ x4 = Int32.ofNat (2 ^ N - 1)) ∨ (¬ T 123 = 1 ∧ x4 = 0)) (hi : i < lv) (hK : ∀ S', Bg S T N D lv a b i lv S' → Ok (K S') P) :
    ∀ (n j : Nat) (S' : St), Bg S T N D lv a b i j S' → j ≤ lv → lv - j < n → Ok (f_X4_begin_37 0 0 (Int32.ofNat a) (Int32.ofNat b) x4 (Int32.ofNat i) K n (Int32.ofNat j) S') P := by
  intro n
  induction n with
  | zero => intro j S' _ _ h; omega
  | succ n ih =>
    intro j S' q hj hn
    rw [f_X4_begin_37, q.2.1]
    by_cases hc : lv ≤ j
    · rw [brp ((zLE (by omega) (by omega)).mpr hc)]
      exact hK S' (by rw [show lv = j by omega] at q ⊢; exact q)
    · rw [brn (fun w => hc ((zLE (by omega) (by omega)).mp w))]
      have z : ∀ m, m < 9 → nn (Int32.ofNat m) = m := fun m hm => zN (by omega)
      have B : ∀ m l, m < l → l < 9 → inb (Int32.ofNat m) l = true := fun m l h1 h2 => ib h1 (by omega)
      have r : ∀ {k x : Nat}, k ≠ 26 → k ≠ 36 → k ≠ 38 → k ≠ 40 → gi S' k x = gi S k x := fun h1 h2 h3 h4 => (q.r h1 h2 h3 h4).1
      refine Ok.c (B _ _ (by omega) (by omega)) (Ok.c (B _ _ (by omega) (by omega)) (Ok.ve (x := si S' 26 0 a (T (52 + i))) (by rw [z a (by omega), z i (by omega), r (by decide) (by decide) (by decide) (by decide), (c9 i hi).1]) ?_))
      refine Ok.c (B _ _ (by omega) (by omega)) (Ok.c (B _ _ (by omega) (by omega)) (Ok.ve (x := si (si S' 26 0 a (T (52 + i))) 26 0 b (T (52 + j))) (by rw [z b (by omega), z j (by omega), pgi_si, if_neg (by omega), r (by decide) (by decide) (by decide) (by decide), (c9 j (by omega)).1]) ?_))
      have p26 : ∀ s, s < N → gi (si (si S' 26 0 a (T (52 + i))) 26 0 b (T (52 + j))) 26 0 s = GP T a b i j s := gp2 q.2.2.1
      have so : ∀ (S9 : St) (c : Nat), (∀ k, k = 9 ∨ k = 10 ∨ k = 11 ∨ k = 12 ∨ k = 13 → gi S9 k 0 = gi S k 0) → (∀ s, s < N → gi S9 26 0 s = GP T a b i j s) → f_X3_soldAt 0 (Int32.ofNat c) 0 x4 S9 = some (soG T (GP T a b i j) N c D 0 0) := by
        intro S9 c h9 hp
        rw [e_soldAt (T := T) hN hD (by rw [h9 9 (by omega)]; exact k1) (by rw [h9 10 (by omega), h9 11 (by omega), h9 12 (by omega), h9 13 (by omega)]; exact c5) hx, soG_cg hN c5 hp D 0 0 (by omega)]
      refine Ok.c (B _ _ (by omega) (by omega)) (Ok.oe (so _ a (fun k hk => by rw [pgi_si, if_neg (by omega), pgi_si, if_neg (by omega), r (by omega) (by omega) (by omega) (by omega)]) p26) ?_)
      refine Ok.c (B _ _ (by omega) (by omega)) (Ok.c (B _ _ (by omega) (by omega)) (Ok.c (B _ _ (by omega) (by omega)) (Ok.ve (x := si (si (si S' 26 0 a (T (52 + i))) 26 0 b (T (52 + j))) 38 i j (GX T N D a b a i j)) ?_ ?_)))
      · rw [z i (by omega), z j (by omega), z a (by omega), p26 a ha, pgi_si, if_neg (by omega), pgi_si, if_neg (by omega), r (by decide) (by decide) (by decide) (by decide), c3 a ha]; rfl
      refine Ok.c (B _ _ (by omega) (by omega)) (Ok.oe (so _ b (fun k hk => by rw [pgi_si, if_neg (by omega), pgi_si, if_neg (by omega), pgi_si, if_neg (by omega), r (by omega) (by omega) (by omega) (by omega)]) p26) ?_)
      refine Ok.c (B _ _ (by omega) (by omega)) (Ok.c (B _ _ (by omega) (by omega)) (Ok.c (B _ _ (by omega) (by omega)) (Ok.ve (x := si (si (si (si S' 26 0 a (T (52 + i))) 26 0 b (T (52 + j))) 38 i j (GX T N D a b a i j)) 40 i j (GX T N D a b b i j)) ?_ (Ok.v ?_))))
      · rw [z i (by omega), z j (by omega), z b (by omega), pgi_si, if_neg (by omega), p26 b hb, pgi_si, if_neg (by omega), pgi_si, if_neg (by omega), pgi_si, if_neg (by omega), r (by decide) (by decide) (by decide) (by decide), c3 b hb]; rfl
      rw [zp1]
      refine ih (j + 1) _ ⟨?_, q.2.1, ?_, ?_⟩ (by omega) (by omega)
      · exact q.1.tr (((Fr.si (Or.inl ⟨rfl, rfl⟩)).tr (Fr.si (Or.inl ⟨rfl, rfl⟩))).tr ((Fr.si (Or.inr (Or.inr (Or.inl rfl)))).tr (Fr.si (Or.inr (Or.inr (Or.inr rfl))))))
      · intro s hs h1 h2
        show upd (upd (gi S' 26 0) a _) b _ s = _
        rw [upd_ne h2, upd_ne h1]; exact q.2.2.1 s hs h1 h2
      · intro i' j' h1 h2 h3
        rw [pgi_si (k := 40), pgi_si (k := 40), if_neg (by omega), pgi_si (k := 38), pgi_si (k := 38), if_neg (c := 40 = 38 ∧ _) (by omega)]
        by_cases e : i' = i
        · subst e
          rw [if_pos ⟨rfl, rfl⟩, if_pos ⟨rfl, rfl⟩]
          by_cases e2 : j' = j
          · subst e2; rw [upd_eq, upd_eq]; exact ⟨rfl, rfl⟩
          · rw [upd_ne e2, upd_ne e2]; exact q.2.2.2 i' j' h1 h2 (by omega)
        · rw [if_neg (fun z => e z.2), if_neg (fun z => e z.2)]; exact q.2.2.2 i' j' h1 h2 (by omega)
theorem bg_all {x4 : Int32} {K : St → Option St} (hN : N ≤ 4) (hD : D ≤ 6) (hl : lv ≤ 8) (ha : a < N) (hb : b < N) (k1 : gi S 9 0 0 = Int32.ofNat D) (c5 : Cdr N D (gi S 10 0) (gi S 11 0) (gi S 12 0) (gi S 13 0) T) (c9 : Clv lv (gi S 21 0) T) (c3 : ∀ s, s < N → gi S 3 0 s = T (8 + s)) (hx : (T 123 = 1 ∧ x4 = Int32.ofNat (2 ^ N - 1)) ∨ (¬ T 123 = 1 ∧ x4 = 0)) (hK : ∀ S', Bg S T N D lv a b lv 0 S' → Ok (K S') P) :
    ∀ (n i : Nat) (S' : St), Bg S T N D lv a b i 0 S' → i ≤ lv → lv - i < n → Ok (f_X4_begin_25 0 0 (Int32.ofNat a) (Int32.ofNat b) x4 K n (Int32.ofNat i) S') P := by
  intro n
  induction n with
  | zero => intro j S' _ _ h; omega
  | succ n ih =>
    intro i S' q hj hn
    rw [f_X4_begin_25, q.2.1]
    by_cases hc : lv ≤ i
    · rw [brp ((zLE (by omega) (by omega)).mpr hc)]
      exact hK S' (by rw [show i = lv by omega] at q; exact q)
    · rw [brn (fun w => hc ((zLE (by omega) (by omega)).mp w))]
      refine bg_in (i := i) hN hD hl ha hb k1 c5 c9 c3 hx (by omega) (fun S9 q9 => Ok.v ?_) FU 0 S' q (by omega) (by unfold FU; omega)
      rw [zp1]
      exact ih (i + 1) S9 ⟨q9.1, q9.2.1, q9.2.2.1, fun i' j' h1 h2 h3 => q9.2.2.2 i' j' h1 h2 (by omega)⟩ (by omega) (by omega)
def Lg (S : St) (T : Nat → Int32) (N D lv a b i j : Nat) (S' : St) : Prop := Fr (fun k x => (k = 70 ∨ k = 72) ∧ x = 0) S S' ∧ (∀ s, s < N → s ≠ a → s ≠ b → gi S' 70 0 s = T (12 + s)) ∧ ∀ i' j', i' < lv → j' < lv → (i' < i ∨ i' = i ∧ j' < j) → gi S' 72 0 (8 * i' + j') = GX T N D a b a i' j' ∧ gi S' 72 0 (64 + 8 * i' + j') = GX T N D a b b i' j'
theorem pr_gx {i j c : Nat} {S9 : St} {mn hb kn dt : Nat → Int32} (hN : N ≤ 4) (hD : D ≤ 6) (hc : c < N) (e : gi S9 61 0 = T) (n0 : T 0 = Int32.ofNat N) (n1 : T 1 = Int32.ofNat D) (c5 : Cdr N D mn hb kn dt T) (hp : ∀ s, s < N → gi S9 70 0 s = GP T a b i j s) : f_X12_profit 0 (Int32.ofNat c) S9 = some (GX T N D a b c i j) := by
  rw [e_profit (S := S9) hN hD (by omega) (by rw [e]; exact n0) (by rw [e]; exact n1) (by rw [e]; exact c5)]
  have := pr_so (N := N) (T := gi S9 61 0) (pr := gi S9 70 0) (a := c) D 0 0
  rw [Int32.zero_mul] at this
  rw [this, e, soG_cg hN c5 hp D 0 0 (by omega), hp c hc]; rfl
theorem lg_in {i : Nat} {K : St → Option St} {mn hb9 kn dt : Nat → Int32} (hN : N ≤ 4) (hD : D ≤ 6) (hl : lv ≤ 8) (ha : a < N) (hb : b < N) (eT : gi S 61 0 = T) (n0 : T 0 = Int32.ofNat N) (n1 : T 1 = Int32.ofNat D) (n3 : T 3 = Int32.ofNat lv) (c5 : Cdr N D mn hb9 kn dt T) (hi : i < lv) (hK : ∀ S', Lg S T N D lv a b i lv S' → Ok (K S') P) :
    ∀ (n j : Nat) (S' : St), Lg S T N D lv a b i j S' → j ≤ lv → lv - j < n → Ok (f_X12_layGains_19 0 (Int32.ofNat a) (Int32.ofNat b) (Int32.ofNat i) K n (Int32.ofNat j) S') P := by
  intro n
  induction n with
  | zero => intro j S' _ _ h; omega
  | succ n ih =>
    intro j S' q hj hn
    have e1 : gi S' 61 0 = T := ((q.1 61 0 (fun z => by omega)).1).trans eT
    rw [f_X12_layGains_19, ck_t (by decide), e1, show T (nn 3) = Int32.ofNat lv from n3]
    by_cases hc : lv ≤ j
    · rw [brp ((zLE (by omega) (by omega)).mpr hc)]
      exact hK S' (by rw [show lv = j by omega] at q ⊢; exact q)
    · rw [brn (fun w => hc ((zLE (by omega) (by omega)).mp w))]
      have z : ∀ m, m < 9 → nn (Int32.ofNat m) = m := fun m hm => zN (by omega)
      refine Ok.c (ibA (by omega) (by omega)) (Ok.c (ib (by omega) (by omega)) (Ok.ve (x := si S' 70 0 a (T (52 + i))) (by rw [nA (by omega), z a (by omega)]) ?_))
      refine Ok.c (ibA (by omega) (by omega)) (Ok.c (ib (by omega) (by omega)) (Ok.ve (x := si (si S' 70 0 a (T (52 + i))) 70 0 b (T (52 + j))) (by rw [nA (by omega), z b (by omega), pgi_si, if_neg (by omega), e1]) ?_))
      have p70 : ∀ s, s < N → gi (si (si S' 70 0 a (T (52 + i))) 70 0 b (T (52 + j))) 70 0 s = GP T a b i j s := gp2 q.2.1
      have x1 : (8 * Int32.ofNat i + Int32.ofNat j : Int32) = Int32.ofNat (8 * i + j) := by rw [zMu, zAA]
      have x2 : (64 + 8 * Int32.ofNat i + Int32.ofNat j : Int32) = Int32.ofNat (64 + 8 * i + j) := by rw [zMu, zA, zAA]
      refine Ok.oe (pr_gx (S9 := si (si S' 70 0 a (T (52 + i))) 70 0 b (T (52 + j))) hN hD ha e1 n0 n1 c5 p70) ?_
      rw [x1, x2]
      refine Ok.c (ib (by omega) (by omega)) (Ok.v ?_)
      refine Ok.oe (pr_gx (S9 := si (si (si S' 70 0 a (T (52 + i))) 70 0 b (T (52 + j))) 72 0 _ _) hN hD hb e1 n0 n1 c5 p70) ?_
      refine Ok.c (ib (by omega) (by omega)) (Ok.v (Ok.v ?_))
      rw [zp1, zN (by omega), zN (by omega)]
      refine ih (j + 1) _ ⟨?_, ?_, ?_⟩ (by omega) (by omega)
      · exact q.1.tr (((Fr.si ⟨Or.inl rfl, rfl⟩).tr (Fr.si ⟨Or.inl rfl, rfl⟩)).tr ((Fr.si ⟨Or.inr rfl, rfl⟩).tr (Fr.si ⟨Or.inr rfl, rfl⟩)))
      · intro s hs h1 h2
        show upd (upd (gi S' 70 0) a _) b _ s = _
        rw [upd_ne h2, upd_ne h1]; exact q.2.1 s hs h1 h2
      · intro i' j' h1 h2 h3
        show upd (upd (gi S' 72 0) (8 * i + j) _) (64 + 8 * i + j) _ _ = _ ∧ upd (upd (gi S' 72 0) (8 * i + j) _) (64 + 8 * i + j) _ _ = _
        have u1 : ∀ {f : Nat → Int32} {v : Int32}, upd f (64 + 8 * i + j) v (8 * i' + j') = f (8 * i' + j') := upd_ne (by omega)
        rw [u1]
        by_cases e : i' = i ∧ j' = j
        · rw [e.1, e.2, upd_eq, upd_eq]; exact ⟨rfl, rfl⟩
        · rw [upd_ne (by omega), upd_ne (by omega), upd_ne (by omega)]; exact q.2.2 i' j' h1 h2 (by omega)
theorem lg_all {K : St → Option St} {mn hb9 kn dt : Nat → Int32} (hN : N ≤ 4) (hD : D ≤ 6) (hl : lv ≤ 8) (ha : a < N) (hb : b < N) (eT : gi S 61 0 = T) (n0 : T 0 = Int32.ofNat N) (n1 : T 1 = Int32.ofNat D) (n3 : T 3 = Int32.ofNat lv) (c5 : Cdr N D mn hb9 kn dt T) (hK : ∀ S', Lg S T N D lv a b lv 0 S' → Ok (K S') P) :
    ∀ (n i : Nat) (S' : St), Lg S T N D lv a b i 0 S' → i ≤ lv → lv - i < n → Ok (f_X12_layGains_6 0 (Int32.ofNat a) (Int32.ofNat b) K n (Int32.ofNat i) S') P := by
  intro n
  induction n with
  | zero => intro j S' _ _ h; omega
  | succ n ih =>
    intro i S' q hj hn
    have e1 : gi S' 61 0 = T := ((q.1 61 0 (fun z => by omega)).1).trans eT
    rw [f_X12_layGains_6, ck_t (by decide), e1, show T (nn 3) = Int32.ofNat lv from n3]
    by_cases hc : lv ≤ i
    · rw [brp ((zLE (by omega) (by omega)).mpr hc)]
      exact hK S' (by rw [show i = lv by omega] at q; exact q)
    · rw [brn (fun w => hc ((zLE (by omega) (by omega)).mp w))]
      refine lg_in (i := i) hN hD hl ha hb eT n0 n1 n3 c5 (by omega) (fun S9 q9 => Ok.v ?_) FU 0 S' q (by omega) (by unfold FU; omega)
      rw [zp1]
      exact ih (i + 1) S9 ⟨q9.1, q9.2.1, fun i' j' h1 h2 h3 => q9.2.2 i' j' h1 h2 (by omega)⟩ (by omega) (by omega)
end TA
