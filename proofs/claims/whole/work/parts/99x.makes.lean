theorem on2S {σ ρ : Type} (x : σ) (S : St) (k : σ → St → Option ρ) : on2 (some (x, S)) k = k x S := rfl
theorem e_wish {T W : Nat → Int32} {a R : Nat} {t m : Int32} (hw : ∀ (Z : St) (c : Nat), gi Z 61 0 = T → gi Z 60 0 23 = m → c < 109 → f_X12_worth 0 (Int32.ofNat c) (Int32.ofNat a) t Z = some (vl W c)) (hl : ∀ Z : St, gi Z 61 0 = T → gi Z 60 0 23 = m → f_X12_least 0 (Int32.ofNat a) t 0 Z = some (W 1)) (ha : a < 4) (hR : T (125 + 440 * a) = Int32.ofNat R) (hR2 : R ≤ 12) : ∀ (rs : List Ru) (i q n : Nat) (Z : St), (∀ r ∈ rs, okR r) → Loc T q (cdRs rs) → q + (cdRs rs).length ≤ 3179 → (cdRs rs).length < 440 → i + rs.length = R → rs.length < n → gi Z 61 0 = T → gi Z 60 0 23 = m → ∃ Z', Fr (fun k x => k = 69 ∧ x = 0) Z Z' ∧ f_X12_wish_24 0 (Int32.ofNat a) t (W 0) (fun (S_23 : St) => some (W 0, S_23)) n (Int32.ofNat q) (Int32.ofNat i) Z = some (wv W rs, Z') := by
  have e125 : (125 + 440 * Int32.ofNat a : Int32) = Int32.ofNat (125 + 440 * a) := by rw [zMu, zA]
  intro rs
  induction rs with
  | nil =>
    intro i q n Z _ _ _ _ hi hn eT em
    obtain ⟨n, rfl⟩ : ∃ m, n = m + 1 := ⟨n - 1, by omega⟩
    have hi : i + 0 = R := hi
    refine ⟨Z, Fr.rf, ?_⟩
    rw [f_X12_wish_24, e125, ck_t (ib (by omega) (by omega)), zN (by omega), eT, hR, brp ((zLE (by omega) (by omega)).mpr (by omega))]; rfl
  | cons r rs ih =>
    intro i q n Z ok loc hq hlt hi hn eT em
    obtain ⟨n, rfl⟩ : ∃ m, n = m + 1 := ⟨n - 1, by omega⟩
    rw [List.length_cons] at hi hn
    obtain ⟨o1, o2, o3, o4⟩ := ok r (List.mem_cons_self)
    rw [show cdRs (r :: rs) = cdR r ++ cdRs rs from rfl] at loc hq hlt
    rw [List.length_append] at hq hlt
    obtain ⟨l1, l2⟩ := loc.app
    have len : (cdR r).length = (cdO r.2.2).length + 1 + 1 + 1 := rfl
    obtain ⟨d0, la⟩ := l1.one
    obtain ⟨d1, lb⟩ := la.one
    obtain ⟨d2, lc⟩ := lb.one
    obtain ⟨Z1, f1, e1⟩ := e_isSo (v := vl W) hw o4 (p := q + 3) (by omega) (by omega) lc eT em
    have eT1 : gi Z1 61 0 = T := by rw [(f1 61 0 (by omega)).1, eT]
    have em1 : gi Z1 60 0 23 = m := by rw [(f1 60 0 (by omega)).1, em]
    have z3 : Int32.ofNat q + 3 = Int32.ofNat (q + 3) := zA' 3 q
    obtain ⟨Z2, f2, e2⟩ := ih (i + 1) (q + (cdR r).length) n Z1 (fun r' h' => ok r' (List.mem_cons_of_mem _ h')) l2 (by omega) (by omega) (by omega) (by omega) eT1 em1
    have z6 : Int32.ofNat q + (3 + Int32.ofNat (cdO r.2.2).length) = Int32.ofNat (q + (cdR r).length) := by
      rw [zA, zAA, len]; congr 1; omega
    cases hh : hd W r
    · refine ⟨Z2, f1.tr f2, ?_⟩
      rw [show (decide (r.2.2 = []) || ovB (vl W) r.2.2) = false from hh] at e1
      rw [f_X12_wish_24, e125, ck_t (ib (by omega) (by omega)), zN (by omega), eT, hR, brn (fun z => absurd ((zLE (by omega) (by omega)).mp z) (by omega)), zp2, ck_t (ib (by omega) (by omega)), zN (by omega), d2, bvN, z3, e1, on2S, brp (show b01 false = 0 from rfl), bvN, bvN, z6, zp1, e2, wv, hh]; rfl
    · refine ⟨Z1, f1, ?_⟩
      rw [show (decide (r.2.2 = []) || ovB (vl W) r.2.2) = true from hh] at e1
      rw [f_X12_wish_24, e125, ck_t (ib (by omega) (by omega)), zN (by omega), eT, hR, brn (fun z => absurd ((zLE (by omega) (by omega)).mp z) (by omega)), zp2, ck_t (ib (by omega) (by omega)), zN (by omega), d2, bvN, z3, e1, on2S, brn (show ¬ b01 true = 0 by decide), zp1, ck_t (ib (by omega) (by omega)), zN (by omega), eT1, d1, bvN, ck_t (ib (by omega) (by omega)), zN (by omega), d0, bvN, wv, hh, if_pos rfl]
      have L := hl Z1 eT1 em1
      unfold wrR
      rcases (show r.1 = 0 ∨ r.1 = 1 ∨ r.1 = 2 ∨ r.1 = 3 ∨ r.1 = 4 ∨ r.1 = 5 by omega) with e | e | e | e | e | e
      · rw [e]; exact Ok.get (Ok.bt (by decide) (Ok.sm rfl))
      · rw [e]; exact Ok.get (Ok.bf (by decide) (Ok.bt (by decide) (Ok.sm rfl)))
      · rw [e]; exact Ok.get (Ok.bf (by decide) (Ok.bf (by decide) (Ok.bt (by decide) (Ok.sm rfl))))
      · rw [e]; exact Ok.get (Ok.bf (by decide) (Ok.bf (by decide) (Ok.bf (by decide) (Ok.bt (by decide) (Ok.oe L (Ok.sm rfl))))))
      · rw [e]; exact Ok.get (Ok.bf (by decide) (Ok.bf (by decide) (Ok.bf (by decide) (Ok.bf (by decide) (Ok.bt (by decide) (Ok.oe L (Ok.sm rfl)))))))
      · rw [e]; exact Ok.get (Ok.bf (by decide) (Ok.bf (by decide) (Ok.bf (by decide) (Ok.bf (by decide) (Ok.bf (by decide) (Ok.sm rfl))))))
-- THE LAW
/-- what the law makes of a wish w -/
def lw1 (T W : Nat → Int32) (w : Int32) : Int32 := if T 122 = -1 then w else mnI w (W 0 + T 122)
def lw2 (T W : Nat → Int32) (w : Int32) : Int32 := if T 124 = 0 then lw1 T W w else if lw1 T W w = W 0 then lw1 T W w else mxI (lw1 T W w) (W 3)
def lwq (T W : Nat → Int32) (w : Int32) : Int32 := mxI 0 (mnI (lw2 T W w) 99)
def lwo (T W : Nat → Int32) : Prop := (T 121 = 0 ∨ (((T 121) >>> ((W 4) &&& 31)) &&& 1) = 1) ∧ (T 120 = -1 ∨ ¬ W 6 < T 120)
section LW
variable {T W : Nat → Int32} {w : Int32} {S Z : St}
theorem lwq_pr : Pr (lwq T W w) := by
  unfold lwq
  generalize lw2 T W w = y
  show Pr (if (0 : Int32) < (if (99 : Int32) < y then 99 else y) then (if (99 : Int32) < y then 99 else y) else 0)
  by_cases h : (99 : Int32) < y
  · rw [if_pos h, if_pos (by decide)]; exact ⟨99, by omega, rfl⟩
  · rw [if_neg h]
    by_cases h2 : 0 < y
    · rw [if_pos h2]
      obtain ⟨d, hd, e⟩ := zWle (x := y) (n := 99) (by omega) ⟨Int32.le_of_lt h2, Int32.not_lt.mp h⟩
      exact ⟨d, hd, e⟩
    · rw [if_neg h2]; exact ⟨0, by omega, rfl⟩
theorem e_bounded (y : Int32) : f_X5_bounded y S = some (mxI 0 (mnI y 99)) := rfl
theorem e_allowed [Decidable (lwo T W)] {g : Nat} (hW : ∀ j, j < 9 → gi S 27 0 j = W j) (hs : 0 ≤ W 6) (o0 : gi S 35 g 0 = if T 120 = -1 then 0 else T 120) (o1 : gi S 35 g 1 = T 121) (o2 : gi S 35 g 2 = T 122) (o3 : gi S 35 g 3 = T 124) : f_X5_allowed g w 0 S = some (if lwo T W then lwq T W w else W 0) := by
  have w0 : gi S 27 0 (nn 0) = W 0 := hW 0 (by omega)
  have w3 : gi S 27 0 (nn 3) = W 3 := hW 3 (by omega)
  have w4 : gi S 27 0 (nn 4) = W 4 := hW 4 (by omega)
  have w6 : gi S 27 0 (nn 6) = W 6 := hW 6 (by omega)
  unfold f_X5_allowed
  rw [ck_t (by decide), w0, bvN, o1, o2, o3, w3, w4, w6, o0]
  -- the last stage
  have s3 : ∀ y : Int32, y = lw2 T W w → Ok (bv (fun (v_7 : Int32) => bv (fun (v_9 : Int32) => some v_9) (fun J_10 => bv (fun (_u : Unit) => J_10 (W 0)) (fun J_11 => br (v_7 = 0) (J_11 ()) (ck (inb 6 9 = true) (br (W 6 < if T 120 = -1 then 0 else T 120) (J_11 ()) (on (f_X5_bounded y S) (fun r_16 => J_10 r_16))))))) (fun J_8 => bv (fun (_u : Unit) => J_8 1) (fun J_17 => br (T 121 = 0) (J_17 ()) (ck (inb 4 9 = true) (br ((((T 121 : Int32) >>> (W 4 &&& 31)) &&& 1) = 1) (J_17 ()) (J_8 0)))))) (fun o => o = if lwo T W then lwq T W w else W 0) := by
    intro y hy
    have yes : ∀ v7 : Int32, v7 = 1 → (T 121 = 0 ∨ (((T 121) >>> ((W 4) &&& 31)) &&& 1) = 1) → Ok (bv (fun (v_9 : Int32) => some v_9) (fun J_10 => bv (fun (_u : Unit) => J_10 (W 0)) (fun J_11 => br (v7 = 0) (J_11 ()) (ck (inb 6 9 = true) (br (W 6 < if T 120 = -1 then 0 else T 120) (J_11 ()) (on (f_X5_bounded y S) (fun r_16 => J_10 r_16))))))) (fun o => o = if lwo T W then lwq T W w else W 0) := by
      intro v7 h7 hh
      refine Ok.v (Ok.v (Ok.bf (by rw [h7]; decide) (Ok.c (by decide) ?_)))
      by_cases hc : W 6 < if T 120 = -1 then 0 else T 120
      · refine Ok.bt hc (Ok.sm ?_)
        rw [if_neg (fun z => ?_)]
        rcases z.2 with z | z
        · rw [if_pos z] at hc; exact absurd hc (Int32.not_lt.mpr hs)
        · by_cases z1 : T 120 = -1
          · rw [if_pos z1] at hc; exact absurd hc (Int32.not_lt.mpr hs)
          · rw [if_neg z1] at hc; exact z hc
      · refine Ok.bf hc (Ok.oe (e_bounded y) (Ok.sm ?_))
        have h9 : T 120 = -1 ∨ ¬ W 6 < T 120 := by
          by_cases z1 : T 120 = -1
          · exact Or.inl z1
          · rw [if_neg z1] at hc; exact Or.inr hc
        rw [if_pos (show lwo T W from ⟨hh, h9⟩), hy]; rfl
    refine Ok.v (Ok.v ?_)
    by_cases h1 : T 121 = 0
    · exact Ok.bt h1 (yes 1 rfl (Or.inl h1))
    · refine Ok.bf h1 (Ok.c (by decide) ?_)
      by_cases h2 : (((T 121) >>> ((W 4) &&& 31)) &&& 1) = 1
      · exact Ok.bt h2 (yes 1 rfl (Or.inr h2))
      · refine Ok.bf h2 (Ok.v (Ok.v (Ok.bt rfl (Ok.sm ?_))))
        rw [if_neg (fun z => z.1.elim h1 h2)]
  have s2 : ∀ x : Int32, x = lw1 T W w → Ok (bv (fun (x4_5 : Int32) => bv (fun (v_7 : Int32) => bv (fun (v_9 : Int32) => some v_9) (fun J_10 => bv (fun (_u : Unit) => J_10 (W 0)) (fun J_11 => br (v_7 = 0) (J_11 ()) (ck (inb 6 9 = true) (br (W 6 < if T 120 = -1 then 0 else T 120) (J_11 ()) (on (f_X5_bounded x4_5 S) (fun r_16 => J_10 r_16))))))) (fun J_8 => bv (fun (_u : Unit) => J_8 1) (fun J_17 => br (T 121 = 0) (J_17 ()) (ck (inb 4 9 = true) (br ((((T 121 : Int32) >>> (W 4 &&& 31)) &&& 1) = 1) (J_17 ()) (J_8 0)))))) (fun J_6 => br (T 124 = 0) (J_6 x) (br (x = W 0) (J_6 x) (ck (inb 3 9 = true) (bv (mxI x (W 3)) (fun q_24 => J_6 q_24)))))) (fun o => o = if lwo T W then lwq T W w else W 0) := by
    intro x hx
    refine Ok.v ?_
    by_cases h1 : T 124 = 0
    · exact Ok.bt h1 (s3 x (by rw [hx]; unfold lw2; rw [if_pos h1]))
    · refine Ok.bf h1 ?_
      by_cases h2 : x = W 0
      · refine Ok.bt h2 (s3 x ?_)
        unfold lw2; rw [if_neg h1, ← hx, if_pos h2]
      · refine Ok.bf h2 (Ok.c (by decide) (Ok.v (s3 _ ?_)))
        unfold lw2; rw [if_neg h1, ← hx, if_neg h2]
  refine Ok.get (Ok.v ?_)
  by_cases h1 : T 122 = -1
  · exact Ok.bt h1 (s2 w (by unfold lw1; rw [if_pos h1]))
  · exact Ok.bf h1 (Ok.v (s2 _ (by unfold lw1; rw [if_neg h1])))
end LW
