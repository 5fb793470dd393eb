-- RULES
def wrR (W : Nat → Int32) (r : Ru) : Int32 := if r.1 = 0 then W 0 + Int32.ofNat r.2.1 else if r.1 = 1 then W 0 - Int32.ofNat r.2.1 else if r.1 = 2 then Int32.ofNat r.2.1 else if r.1 = 3 then W 1 - Int32.ofNat r.2.1 else if r.1 = 4 then W 1 else W 0
def hd (W : Nat → Int32) (r : Ru) : Bool := decide (r.2.2 = []) || ovB (vl W) r.2.2
def wv (W : Nat → Int32) : List Ru → Int32
  | [] => W 0
  | r :: rs => if hd W r then wrR W r else wv W rs
section WA
variable {S : St} {g nt ns : Nat} {W : Nat → Int32}
theorem t_token (hn : gn S 33 g = nt) (hb : nt ≤ 400) {p : Nat} (hp : p < nt) : f_X7_token g (Int32.ofNat p) S = some (gi S 33 g p) := by
  unfold f_X7_token
  refine Ok.get (Ok.v (Ok.v (Ok.bf (zNeg (by omega)) ?_)))
  rw [hn]
  refine Ok.bf (fun z => absurd ((zLE (by omega) (by omega)).mp z) (by omega)) (Ok.c (ib hp (by omega)) (Ok.sm ?_))
  rw [zN (by omega)]
theorem t_takes {d : Nat} (hd : d < 6) : f_X9_takesAmount (Int32.ofNat (100 + d)) S = some (if d < 4 then 1 else 0) := by
  rcases (show d = 0 ∨ d = 1 ∨ d = 2 ∨ d = 3 ∨ d = 4 ∨ d = 5 by omega) with rfl | rfl | rfl | rfl | rfl | rfl <;> rfl
theorem t_price (hW : ∀ j, j < 9 → gi S 27 0 j = W j) {r : Ru} (hr : r.1 < 6) {x : Int32} (hx : r.1 < 4 → x = Int32.ofNat r.2.1) : f_X7_priceBy (Int32.ofNat (100 + r.1)) x 0 S = some (wrR W r) := by
  have w0 : gi S 27 0 (nn 0) = W 0 := hW 0 (by omega)
  have w1 : gi S 27 0 (nn 1) = W 1 := hW 1 (by omega)
  unfold f_X7_priceBy wrR
  rw [w0, w1]
  rcases (show r.1 = 0 ∨ r.1 = 1 ∨ r.1 = 2 ∨ r.1 = 3 ∨ r.1 = 4 ∨ r.1 = 5 by omega) with e | e | e | e | e | e
  · rw [e, hx (by omega)]; exact Ok.get (Ok.bt (by decide) (Ok.c (by decide) (Ok.sm rfl)))
  · rw [e, hx (by omega)]; exact Ok.get (Ok.bf (by decide) (Ok.bt (by decide) (Ok.c (by decide) (Ok.sm rfl))))
  · rw [e, hx (by omega)]; exact Ok.get (Ok.bf (by decide) (Ok.bf (by decide) (Ok.bt (by decide) (Ok.sm rfl))))
  · rw [e, hx (by omega)]; exact Ok.get (Ok.bf (by decide) (Ok.bf (by decide) (Ok.bf (by decide) (Ok.bt (by decide) (Ok.c (by decide) (Ok.sm rfl))))))
  · rw [e]; exact Ok.get (Ok.bf (by decide) (Ok.bf (by decide) (Ok.bf (by decide) (Ok.bf (by decide) (Ok.bt (by decide) (Ok.c (by decide) (Ok.sm rfl)))))))
  · rw [e]; exact Ok.get (Ok.bf (by decide) (Ok.bf (by decide) (Ok.bf (by decide) (Ok.bf (by decide) (Ok.bf (by decide) (Ok.c (by decide) (Ok.sm rfl)))))))
theorem e_wanted (hn : gn S 33 g = nt) (hb : nt ≤ 400) (hs : gn S 34 g = ns) (hb2 : ns ≤ 12) (hW : ∀ j, j < 9 → gi S 27 0 j = W j) : ∀ (rs : List Ru) (i p n : Nat), (∀ r ∈ rs, okR r) → (∀ j, j < rs.length → gi S 34 g (i + j) = Int32.ofNat ((stR p rs).getD j 0)) → Loc (gi S 33 g) p (tkRs rs) → p + (tkRs rs).length ≤ nt → i + rs.length = ns → rs.length < n → f_X7_wanted_2 g 0 S (fun (_u : Unit) => ck (inb 0 9 = true) (some (gi S 27 0 (nn 0)))) n (Int32.ofNat i) = some (wv W rs) := by
  intro rs
  induction rs with
  | nil =>
    intro i p n _ _ _ _ hi hn'
    obtain ⟨n, rfl⟩ : ∃ m, n = m + 1 := ⟨n - 1, by omega⟩
    have hi : i + 0 = ns := hi
    rw [f_X7_wanted_2, hs, brp ((zLE (by omega) (by omega)).mpr (by omega)), ck_t (by decide)]
    exact congrArg some (hW 0 (by omega))
  | cons r rs ih =>
    intro i p n ok st loc hp hi hn'
    obtain ⟨n, rfl⟩ : ∃ m, n = m + 1 := ⟨n - 1, by omega⟩
    rw [List.length_cons] at hi hn'
    obtain ⟨o1, o2, o3, o4⟩ := ok r (List.mem_cons_self)
    have e0 : gi S 34 g i = Int32.ofNat p := st 0 (by simp)
    rw [show tkRs (r :: rs) = tkR r ++ tkRs rs from rfl] at loc hp
    rw [List.length_append] at hp
    obtain ⟨l1, l2⟩ := loc.app
    have ih' := ih (i + 1) (p + (tkR r).length) n (fun r' h' => ok r' (List.mem_cons_of_mem _ h')) (fun j hj => by
      have := st (j + 1) (by rw [List.length_cons]; omega)
      rw [show i + 1 + j = i + (j + 1) by omega, this]; rfl) l2 (by omega) (by omega) (by omega)
    obtain ⟨d0, la⟩ := l1.one
    -- the amount, and what lies behind it
    obtain ⟨k, hk, hk1, la2, hlen, ham⟩ : ∃ k : Nat, (if (if r.1 < 4 then (1 : Int32) else 0) = 0 then (1 : Int32) else 2) = Int32.ofNat k ∧ (k = 1 ∨ k = 2) ∧ Loc (gi S 33 g) (p + k) ((if r.2.2 = [] then [] else 106 :: tkO r.2.2) ++ [59]) ∧ (tkR r).length = k + ((if r.2.2 = [] then [] else 106 :: tkO r.2.2) ++ [59]).length ∧ (r.1 < 4 → gi S 33 g (p + 1) = Int32.ofNat (200 + r.2.1)) := by
      by_cases h4 : r.1 < 4
      · rw [if_pos h4] at la
        refine ⟨2, by rw [if_pos h4]; rfl, Or.inr rfl, la.one.2, ?_, fun _ => la.one.1⟩
        unfold tkR
        rw [if_pos h4, List.length_cons, List.length_append]; simp only [List.length_cons, List.length_nil]; omega
      · rw [if_neg h4] at la
        refine ⟨1, by rw [if_neg h4]; rfl, Or.inl rfl, la, ?_, fun z => absurd z h4⟩
        unfold tkR
        rw [if_neg h4, List.length_cons, List.length_append]; simp only [List.length_nil]; omega
    have l59 : 1 ≤ ((if r.2.2 = [] then [] else 106 :: tkO r.2.2) ++ [59]).length := by rw [List.length_append, List.length_singleton]; omega
    have T0 := t_token hn hb (show p < nt by omega)
    have T1 := t_token hn hb (show p + 1 < nt by omega)
    have T2 := t_token hn hb (show p + k < nt by omega)
    rw [d0] at T0
    have bi : inb (Int32.ofNat i) ns = true := ib (by omega) (by omega)
    have ex : Ok (on (f_X7_token g (Int32.ofNat (p + 1)) S) (fun r_16 => on (f_X7_priceBy (Int32.ofNat (100 + r.1)) (r_16 - 200) 0 S) (fun r_18 => some r_18))) (fun o => o = wrR W r) := by
      refine Ok.oe T1 (Ok.oe (t_price hW o1 (fun h4 => ?_)) (Ok.sm rfl))
      rw [ham h4, show Int32.ofNat (200 + r.2.1) - 200 = Int32.ofNat (200 + r.2.1 - 200) from zS 200 (by omega), show 200 + r.2.1 - 200 = r.2.1 by omega]
    rw [f_X7_wanted_2, hs, brn (fun z => absurd ((zLE (by omega) (by omega)).mp z) (by omega)), ck_t bi, zN (show i < 2147483648 by omega), e0, T0, onS, ck_t bi, t_takes o1, onS]
    simp only [bvb]
    rw [hk, bvN, zAA, T2, onS, zp1, ck_t bi, zp1]
    by_cases ho : r.2.2 = []
    · rw [if_pos ho] at la2
      have y59 : gi S 33 g (p + k) = 59 := la2.one.1
      rw [bvN, y59, brn (by decide), Ok.get ex, wv, show hd W r = true by simp [hd, ho], if_pos rfl]
    · rw [if_neg ho] at la2 hlen
      have y106 : gi S 33 g (p + k) = 106 := la2.one.1
      have hld := e_holds hn hb hW ho (p := p + k + 1) o4 la2.one.2 (by rw [List.length_append] at hlen ⊢; rw [List.length_cons] at hlen; omega)
      rw [bvN, y106, brp rfl, hld, onS, wv, show hd W r = ovB (vl W) r.2.2 by simp [hd, ho]]
      cases hv : ovB (vl W) r.2.2
      · rw [brp (show b01 false = 0 from rfl), bvN, zp1, ih']; rfl
      · exact (brn (show ¬ b01 true = 0 by decide)).trans (Ok.get ex)
end WA
