section FS
variable {n k tr : Nat} {p : Nat → Nat}
/-- how full after filling on day d -/
def Uf (n k : Nat) (p : Nat → Nat) (d f : Nat) : Nat := (bs k (Vd n k p (n - (d + 1))) (p d) f).1
theorem zfu {f u : Nat} (h1 : f ≤ u) (h2 : 1 ≤ u) : Int32.ofNat f + (Int32.ofNat (u - f) - 1) = Int32.ofNat (u - 1) := by
  rw [Int32.sub_eq_add_neg, ← Int32.add_assoc, zAA, ← Int32.sub_eq_add_neg, show f + (u - f) = u by omega, zSub1 h2]
theorem f174 (ht : tr < 4) (hk1 : 1 ≤ k) (hk : k ≤ 12) (hp : ∀ d, p d ≤ 99) (hn : n ≤ 28) {Z : St} (hP : ∀ d, d < n → (gl Z 80 0 (28 * tr + d)).toInt32 = Int32.ofNat (p d)) (hV : ∀ d f, d ≤ n → f ≤ k → gi Z 77 0 (13 * d + f) = Int32.ofNat (Vd n k p (n - d) f)) {d f : Nat} (hd : d < n) (hf : f ≤ k) {day : Int32} (K : Int32 → St → Option (Int32 × St)) : f_X12_fill_174 0 (Int32.ofNat tr) day (Int32.ofNat f) (Int32.ofNat d) K FU (Int32.ofNat (max 1 f)) Z = K (Int32.ofNat (Uf n k p d f)) Z := by
  obtain ⟨i1, i2, i3, i4⟩ := bs_sp (V := Vd n k p (n - (d + 1))) (q := p d) k hk1 hf
  have vb : ∀ f', f' ≤ k → Vd n k p (n - (d + 1)) f' ≤ 40000 := fun f' hf' => Vd40 hk1 hk hp (by omega) hf'
  have gb : ∀ u, u ≤ k → 1 ≤ u → gd (Vd n k p (n - (d + 1))) (p d) f u ≤ 41188 := fun u hu _ => Nat.le_trans (gd_le (B := 40000) (hp d) (by omega) (vb (u - 1) (by omega))) (by omega)
  have b2 : (bs k (Vd n k p (n - (d + 1))) (p d) f).2 ≤ 41188 := by rw [← i3]; exact gb _ i2 (by omega)
  have lp : ∀ (r m u : Nat), max 1 f ≤ u → u + r = Uf n k p d f → r < m → f_X12_fill_174 0 (Int32.ofNat tr) day (Int32.ofNat f) (Int32.ofNat d) K m (Int32.ofNat u) Z = K (Int32.ofNat (Uf n k p d f)) Z := by
    intro r
    induction r with
    | zero =>
      intro m u h1 h2 h3
      obtain ⟨m, rfl⟩ : ∃ n, m = n + 1 := ⟨m - 1, by omega⟩
      have eu : u = (bs k (Vd n k p (n - (d + 1))) (p d) f).1 := h2
      have ku : u ≤ k := by omega
      rw [f_X12_fill_174, zix (by omega), zMu, zAA, zMu, zAA, ck_t (ib (by omega) (by omega)), ck_t (ib (by omega) (by omega)), ck_t (ib (by omega) (by omega)), zN (by omega), zN (by omega), zN (by omega), hP d hd, hV (d + 1) (u - 1) (by omega) (by omega), hV d f (by omega) hf, zS f (by omega), fsum (by omega), Vd_d hd, brp (by rw [eu, i3]), show u = Uf n k p d f from h2]
    | succ r ih =>
      intro m u h1 h2 h3
      obtain ⟨m, rfl⟩ : ∃ n, m = n + 1 := ⟨m - 1, by omega⟩
      have h2' : u + (r + 1) = (bs k (Vd n k p (n - (d + 1))) (p d) f).1 := h2
      have g9 := gb u (by omega) (by omega)
      have l9 := i4 u h1 (by omega)
      rw [f_X12_fill_174, zix (by omega), zMu, zAA, zMu, zAA, ck_t (ib (by omega) (by omega)), ck_t (ib (by omega) (by omega)), ck_t (ib (by omega) (by omega)), zN (by omega), zN (by omega), zN (by omega), hP d hd, hV (d + 1) (u - 1) (by omega) (by omega), hV d f (by omega) hf, zS f (by omega), fsum (by omega), Vd_d hd, brn (fun z => by have := (zE (by omega) (by omega)).mp z; omega), bvE, zp1]
      exact ih m (u + 1) (by omega) (by omega) (by omega)
  have hU : max 1 f ≤ Uf n k p d f := i1
  have hU2 : Uf n k p d f ≤ k := i2
  exact lp (Uf n k p d f - max 1 f) FU (max 1 f) (Nat.le_refl _) (by omega) (by unfold FU; omega)
theorem f_two (ht : tr < 4) (hk1 : 1 ≤ k) (hk : k ≤ 12) (hp : ∀ d, p d ≤ 99) (hn : n ≤ 28) {S : St} (hB : ∀ d f, d < n → f ≤ k → gi S 57 d f = Int32.ofNat (Uf n k p d f - f)) {day : Nat} (hday : day < n) : ∀ (r d f : Nat), d + r = day → f ≤ k → ∃ f', f' ≤ k ∧ (∀ K m, r < m → f_X10_filledOn_2 0 (Int32.ofNat day) S K m (Int32.ofNat f) (Int32.ofNat d) = K (Int32.ofNat f')) ∧ ∀ (m : Nat) (Z : St), (∀ d, d < n → (gl Z 80 0 (28 * tr + d)).toInt32 = Int32.ofNat (p d)) → (∀ d f, d ≤ n → f ≤ k → gi Z 77 0 (13 * d + f) = Int32.ofNat (Vd n k p (n - d) f)) → r < m → f_X12_fill_166 0 (Int32.ofNat tr) (Int32.ofNat day) m (Int32.ofNat f) (Int32.ofNat d) Z = some (Int32.ofNat (Uf n k p day f' - f'), Z) := by
  intro r
  induction r with
  | zero =>
    intro d f hd hf
    obtain rfl : d = day := by omega
    obtain ⟨i1, i2, -⟩ := bs_sp (V := Vd n k p (n - (d + 1))) (q := p d) k hk1 hf
    have hU : max 1 f ≤ Uf n k p d f := i1
    refine ⟨f, hf, fun K m hm => ?_, fun m Z hP hV hm => ?_⟩
    · obtain ⟨m, rfl⟩ : ∃ n, m = n + 1 := ⟨m - 1, by omega⟩
      rw [f_X10_filledOn_2, brp ((zLE (by omega) (by omega)).mpr (Nat.le_refl _))]
    · obtain ⟨m, rfl⟩ : ∃ n, m = n + 1 := ⟨m - 1, by omega⟩
      rw [f_X12_fill_166, bvE, zmx1 (by omega), f174 ht hk1 hk hp hn hP hV hday hf, brp rfl, zS f (by omega)]
  | succ r ih =>
    intro d f hd hf
    obtain ⟨i1, i2, -⟩ := bs_sp (V := Vd n k p (n - (d + 1))) (q := p d) k hk1 hf
    have hU : max 1 f ≤ Uf n k p d f := i1
    have hU2 : Uf n k p d f ≤ k := i2
    obtain ⟨f', q1, q2, q3⟩ := ih (d + 1) (Uf n k p d f - 1) (by omega) (by omega)
    refine ⟨f', q1, fun K m hm => ?_, fun m Z hP hV hm => ?_⟩
    · obtain ⟨m, rfl⟩ : ∃ n, m = n + 1 := ⟨m - 1, by omega⟩
      rw [f_X10_filledOn_2, brn (fun z => absurd ((zLE (by omega) (by omega)).mp z) (by omega)), ck_t (ib (by omega) (by omega)), ck_t (ib (by omega) (by omega)), zN (by omega), zN (by omega), hB d f (by omega) hf, zfu (by omega) (by omega), bvE, bvE, zp1]
      exact q2 K m (by omega)
    · obtain ⟨m, rfl⟩ : ∃ n, m = n + 1 := ⟨m - 1, by omega⟩
      rw [f_X12_fill_166, bvE, zmx1 (by omega), f174 ht hk1 hk hp hn hP hV (by omega) hf, brn (fun z => absurd ((zE (by omega) (by omega)).mp z) (by omega)), zSub1 (by omega), bvE, bvE, zp1]
      exact q3 m Z hP hV (by omega)
end FS
theorem Inv.wf {t : Nat} {S S' : St} (h : Inv t S) (hf : Fr WF S S') : Inv t S' := by
  have e := hf 60 0 (by unfold WF; omega)
  exact h.scr (hf.mono (fun k x hw => by unfold WF at hw; unfold WS Scr; omega)) (by rw [e.1]) (by rw [e.1]) (by rw [e.1]) (by rw [e.2.1]) (by rw [e.2.1])
-- CASE fill
theorem pc_32 {t : Nat} {S : St} {a1 a2 a3 a4 a5 : Int32} (h : Inv t S) : Ok (fc_32 (t + 1) a1 a2 a3 a4 a5 S) (Inv (t + 1)) := by
  unfold fc_32 f_L_fill f_X11_fill
  refine tw_i (S := S) ?_
  by_cases ht : 0 ≤ a1 ∧ a1 ≤ 3
  case neg => exact Ok.xl (n_tr ht) (Tw.l (cd := 1) rfl ⟨by decide, Ok.v (Ok.oe (m_trn ht) (Ok.bt rfl (Ok.o2e rfl (Ok.sm ⟨rfl, pf_bad h.thr⟩))))⟩)
  obtain ⟨tr, ht1, rfl⟩ := zWle (n := 3) (by omega) ht
  have ht4 : tr < 4 := by omega
  refine Ok.xr (y_tr ht4) ?_
  obtain ⟨r1, r2, n, hn, r3, r4, r5⟩ := h.2.2.2.2 tr ht4
  by_cases hf : gi S 78 0 tr = -1
  · refine Ok.xl (fi_n ht4 (by rw [r1]; exact hf)) (Tw.l (cd := 2) rfl ⟨by decide, Ok.v (Ok.oe (m_try ht) (Ok.bf (by decide) (Ok.c (ib ht4 (by omega)) (Ok.bt ?_ (Ok.o2e rfl (Ok.sm ⟨rfl, pf_bad h.thr⟩))))))⟩)
    rw [zN (by omega)]; exact hf
  refine Ok.xr (fi_y ht4 (by rw [r1]; exact hf)) ?_
  -- the reference, up to the two numbers
  have ref : ∀ (Z : St) (Q : Int32 × St → Prop), gi Z 78 0 = gi S 78 0 → Ok (on (f_X12_within (Int32.toInt64 a2) 1 12 (si Z 60 0 5 0)) (fun r_8 => bv (fun (S_9 : St) => on2 (f_X12_fails 0 3 S_9) (fun r_13 S_12 => some (r_13, S_12))) (fun J_10 => br (r_8 = 0) (J_10 (si Z 60 0 5 0)) (on (f_X12_within (Int32.toInt64 a3) 0 (Int32.toInt64 a2) (si Z 60 0 5 0)) (fun r_16 => br (r_16 = 0) (J_10 (si Z 60 0 5 0)) (ck (inb (Int32.ofNat tr) 4 = true) (br ((gi (si Z 60 0 5 0) 79 0 (nn (Int32.ofNat tr))) = 0) (J_10 (si Z 60 0 5 0)) (f_X12_fill_75 0 (Int32.ofNat tr) a2 a3 a4 (fun (S_30 : St) => on (f_X12_layPaid 0 (Int32.ofNat tr) a2 S_30) (fun S_32 => br (a4 = ((-1))) (ck (inb a3 377 = true) (some (gi S_32 77 0 (nn a3), S_32))) (ck (inb (Int32.ofNat tr) 4 = true) (on (f_X12_within (Int32.toInt64 a4) 0 (Int32.toInt64 ((gi S_32 79 0 (nn (Int32.ofNat tr))) - 1)) S_32) (fun r_36 => br (r_36 = 0) (some ((-1), S_32)) (f_X12_fill_166 0 (Int32.ofNat tr) a4 FU a3 0 S_32)))))) FU 0 (si Z 60 0 5 0))))))))) Q → Ok (f_X12_fill 0 (Int32.ofNat tr) a2 a3 a4 Z) Q := by
    intro Z Q e hq
    refine Ok.v (Ok.oe (m_try ht) (Ok.bf (by decide) (Ok.c (ib ht4 (by omega)) (Ok.bf ?_ hq))))
    rw [zN (by omega)]; show ¬ gi Z 78 0 tr = -1; rw [e]; exact hf
  by_cases hk : 1 ≤ a2 ∧ a2 ≤ 12
  case neg => exact Ok.xl (n_wi hk) (Tw.l (cd := 3) rfl ⟨by decide, ref S _ rfl (Ok.oe (m_wn (lo := 1) (hi := 12) (by decide) (by decide) hk) (Ok.v (Ok.bt rfl (Ok.o2e rfl (Ok.sm ⟨rfl, pf_bad h.thr⟩)))))⟩)
  refine Ok.xr (y_wi hk) ?_
  by_cases hf3 : 0 ≤ a3 ∧ a3 ≤ a2
  case neg => exact Ok.xl (n_wi hf3) (Tw.l (cd := 3) rfl ⟨by decide, ref S _ rfl (Ok.oe (m_wy (lo := 1) (hi := 12) (by decide) (by decide) hk) (Ok.v (Ok.bf (by decide) (Ok.oe (m_wn (lo := 0) (hi := a2) (by decide) rfl hf3) (Ok.bt rfl (Ok.o2e rfl (Ok.sm ⟨rfl, pf_bad h.thr⟩)))))))⟩)
  refine Ok.xr (y_wi hf3) ?_
  obtain ⟨k, hk12, rfl⟩ := zWle (x := a2) (n := 12) (by omega) ⟨Int32.le_trans (by decide) hk.1, hk.2⟩
  have hk1 : 1 ≤ k := (zLE (a := 1) (by omega) (by omega)).mp hk.1
  obtain ⟨f, hfk, rfl⟩ := zWle (x := a3) (n := k) (by omega) hf3
  have ref2 : ∀ (Z : St) (Q : Int32 × St → Prop), gi Z 78 0 = gi S 78 0 → gi Z 79 0 = gi S 79 0 → Ok (br (n = 0) (some (0, si (si Z 60 0 5 0) 60 0 5 3)) (f_X12_fill_75 0 (Int32.ofNat tr) (Int32.ofNat k) (Int32.ofNat f) a4 (fun (S_30 : St) => on (f_X12_layPaid 0 (Int32.ofNat tr) (Int32.ofNat k) S_30) (fun S_32 => br (a4 = ((-1))) (ck (inb (Int32.ofNat f) 377 = true) (some (gi S_32 77 0 (nn (Int32.ofNat f)), S_32))) (ck (inb (Int32.ofNat tr) 4 = true) (on (f_X12_within (Int32.toInt64 a4) 0 (Int32.toInt64 ((gi S_32 79 0 (nn (Int32.ofNat tr))) - 1)) S_32) (fun r_36 => br (r_36 = 0) (some ((-1), S_32)) (f_X12_fill_166 0 (Int32.ofNat tr) a4 FU (Int32.ofNat f) 0 S_32)))))) FU 0 (si Z 60 0 5 0))) Q → Ok (f_X12_fill 0 (Int32.ofNat tr) (Int32.ofNat k) (Int32.ofNat f) a4 Z) Q := by
    intro Z Q e e79 hq
    refine ref Z Q e (Ok.oe (m_wy (lo := 1) (hi := 12) (by decide) (by decide) hk) (Ok.v (Ok.bf (by decide) (Ok.oe (m_wy (lo := 0) (hi := Int32.ofNat k) (by decide) rfl hf3) (Ok.bf (by decide) (Ok.c (ib ht4 (by omega)) ?_))))))
    have e9 : gi (si Z 60 0 5 0) 79 0 (nn (Int32.ofNat tr)) = Int32.ofNat n := by
      rw [zN (by omega)]; show gi Z 79 0 tr = _; rw [e79]; exact r4
    rw [e9]
    by_cases e0 : n = 0
    · rw [brp e0] at hq
      exact Ok.bt (by rw [e0]; rfl) hq
    · rw [brn e0] at hq
      exact Ok.bf (show ¬ Int32.ofNat n = 0 from fun z => e0 ((zE (b := 0) (by omega) (by omega)).mp z)) hq
  refine Ok.c (ib ht4 (by omega)) (Ok.ve (x := Int32.ofNat n) (by rw [zN (by omega)]; exact r3) (Ok.v ?_))
  by_cases e0 : n = 0
  · subst e0
    exact Ok.bt (by decide) (Ok.sm (Tw.l (cd := 3) rfl ⟨by decide, ref2 S _ rfl rfl (Ok.bt rfl (Ok.sm ⟨rfl, pf_bad h.thr⟩))⟩))
  refine Ok.bf (fun z => e0 (by have := (zL (b := 1) (by omega) (by omega)).mp z; omega)) ?_
  -- all prices
  obtain ⟨w1, w2⟩ := e_allW (S := S) (L := 99) ht4 hn r3
  have wl : ∀ Z : St, gl Z 80 0 = gl S 80 0 → gi Z 79 0 = gi S 79 0 → ∀ K, ((∀ j, j < n → 0 ≤ gl S 53 tr j ∧ gl S 53 tr j ≤ (99 : Int32).toInt64) → f_X12_fill_75 0 (Int32.ofNat tr) (Int32.ofNat k) (Int32.ofNat f) a4 K FU 0 Z = K Z) ∧ (¬ (∀ j, j < n → 0 ≤ gl S 53 tr j ∧ gl S 53 tr j ≤ (99 : Int32).toInt64) → f_X12_fill_75 0 (Int32.ofNat tr) (Int32.ofNat k) (Int32.ofNat f) a4 K FU 0 Z = some (0, si Z 60 0 5 3)) := by
    intro Z eZ e79 K
    have st : ∀ m j, j < n → f_X12_fill_75 0 (Int32.ofNat tr) (Int32.ofNat k) (Int32.ofNat f) a4 K (m + 1) (Int32.ofNat j) Z = br ((if 0 ≤ gl S 53 tr j ∧ gl S 53 tr j ≤ (99 : Int32).toInt64 then (1 : Int32) else 0) = 0) (some (0, si Z 60 0 5 3)) (f_X12_fill_75 0 (Int32.ofNat tr) (Int32.ofNat k) (Int32.ofNat f) a4 K m (Int32.ofNat (j + 1)) Z) := by
      intro m j hj
      rw [f_X12_fill_75, ck_t (ib ht4 (by omega)), zN (by omega), e79, r4, brn (fun z => absurd ((zLE (by omega) (by omega)).mp z) (by omega)), zMu, zAA, ck_t (ib (by omega) (by omega)), zN (by omega), eZ, ← r5 j hj, e_within, onS, bvE, zp1]
      rfl
    have := allLoop (fun m j => f_X12_fill_75 0 (Int32.ofNat tr) (Int32.ofNat k) (Int32.ofNat f) a4 K m (Int32.ofNat j) Z) (fun j => 0 ≤ gl S 53 tr j ∧ gl S 53 tr j ≤ (99 : Int32).toInt64) n (K Z) (some (0, si Z 60 0 5 3)) (fun m => by
      show f_X12_fill_75 _ _ _ _ _ _ (m + 1) _ _ = _
      rw [f_X12_fill_75, ck_t (ib ht4 (by omega)), zN (by omega), e79, r4, brp ((zLE (by omega) (by omega)).mpr (Nat.le_refl _))]) (fun m j hj hc => by
      show f_X12_fill_75 _ _ _ _ _ _ (m + 1) _ _ = _
      rw [st m j hj, if_pos hc, brn (by decide)]) (fun m j hj _ hc => by
      show f_X12_fill_75 _ _ _ _ _ _ (m + 1) _ _ = _
      rw [st m j hj, if_neg hc, brp rfl]) FU 0 (by omega) (by unfold FU; omega)
    exact ⟨fun z => this.1 (fun j _ b => z j b), fun z => this.2 (fun w => z (fun j b => w j (by omega) b))⟩
  by_cases hw : ∀ j, j < n → 0 ≤ gl S 53 tr j ∧ gl S 53 tr j ≤ (99 : Int32).toInt64
  case neg =>
    refine Ok.oe (w2 hw) (Ok.bt rfl (Ok.sm (Tw.l (cd := 3) rfl ⟨by decide, ref2 S _ rfl rfl (Ok.bf e0 ?_)⟩)))
    exact Ok.eq ((wl (si S 60 0 5 0) rfl rfl _).2 hw) ⟨rfl, pf_bad h.thr⟩
  refine Ok.oe (w1 hw) (Ok.bf (by decide) (Ok.v ?_))
  -- the prices as numbers
  obtain ⟨p, hp, ep⟩ : ∃ p : Nat → Nat, (∀ d, p d ≤ 99) ∧ ∀ d, d < n → (gl S 53 tr d).toInt32 = Int32.ofNat (p d) := by
    refine ⟨fun d => if d < n then (gl S 53 tr d).toInt.toNat else 0, fun d => ?_, fun d hd => ?_⟩
    · show (if d < n then (gl S 53 tr d).toInt.toNat else 0) ≤ 99
      by_cases hd : d < n
      · rw [if_pos hd]
        have := Int64.le_iff_toInt_le.mp (hw d hd).2
        rw [Int32.toInt_toInt64] at this
        have e9 : (99 : Int32).toInt = 99 := rfl
        omega
      · rw [if_neg hd]; omega
    · show _ = Int32.ofNat (if d < n then (gl S 53 tr d).toInt.toNat else 0)
      rw [if_pos hd]
      have h1 := Int64.le_iff_toInt_le.mp (hw d hd).1
      have h2 := Int64.le_iff_toInt_le.mp (hw d hd).2
      rw [Int32.toInt_toInt64] at h2
      have e9 : (99 : Int32).toInt = 99 := rfl
      have e0 : (0 : Int64).toInt = 0 := rfl
      rw [← Int32.toInt_inj, zI (by omega), Int64.toInt_toInt32, Int.bmod_def]
      omega
  -- the reference from here
  have lay : ∀ Z : St, gl Z 80 0 = gl S 80 0 → gi Z 79 0 = gi S 79 0 → ∃ Z', f_X12_layPaid 0 (Int32.ofNat tr) (Int32.ofNat k) Z = some Z' ∧ Fr WF Z Z' ∧ ∀ d f, d ≤ n → f ≤ k → gi Z' 77 0 (13 * d + f) = Int32.ofNat (Vd n k p (n - d) f) := by
    intro Z eZ e79
    obtain ⟨Z1, g1, g2, g3⟩ := ly10 (A := Int32.ofNat tr) hn hk12 FU 0 Z (by omega) (by unfold FU; omega) (fun f hf => by omega)
    obtain ⟨Z2, q1, q2, q3⟩ := l40 (n := n) (k := k) (p := p) ht4 hk1 hk12 hp hn n FU Z1 (Nat.le_refl _) (by unfold FU; omega) (fun d hd => by rw [(g2 80 0 (by unfold WF; omega)).2.1, eZ, ← r5 d hd]; exact ep d hd) (fun d f h1 h2 h3 => by
      obtain rfl : d = n := by omega
      rw [g3 f h3, Nat.sub_self, Vd]; rfl)
    refine ⟨Z2, ?_, g2.tr q2, q3⟩
    unfold f_X12_layPaid
    rw [ck_t (ib ht4 (by omega)), zN (by omega), e79, r4, bvE]
    refine (g1 _).trans ?_
    rw [bvE]
    exact q1 _
  have refD : ∀ (Z : St) (Q : Int32 × St → Prop), gl Z 80 0 = gl S 80 0 → gi Z 78 0 = gi S 78 0 → gi Z 79 0 = gi S 79 0 → (∀ Z', Fr WF (si Z 60 0 5 0) Z' → (∀ d f, d ≤ n → f ≤ k → gi Z' 77 0 (13 * d + f) = Int32.ofNat (Vd n k p (n - d) f)) → Ok (br (a4 = ((-1))) (some (Int32.ofNat (Vd n k p n f), Z')) (br ((if 0 ≤ a4 ∧ a4 ≤ Int32.ofNat n - 1 then (1 : Int32) else 0) = 0) (some ((-1), Z')) (f_X12_fill_166 0 (Int32.ofNat tr) a4 FU (Int32.ofNat f) 0 Z'))) Q) → Ok (f_X12_fill 0 (Int32.ofNat tr) (Int32.ofNat k) (Int32.ofNat f) a4 Z) Q := by
    intro Z Q eZ e78 e79 hq
    refine ref2 Z Q e78 e79 (Ok.bf e0 ?_)
    rw [(wl (si Z 60 0 5 0) eZ e79 _).1 hw]
    obtain ⟨Z', q1, q2, q3⟩ := lay (si Z 60 0 5 0) eZ e79
    refine Ok.oe q1 ?_
    have := hq Z' q2 q3
    have e9 : gi Z' 79 0 (nn (Int32.ofNat tr)) = Int32.ofNat n := by
      rw [zN (by omega), (q2 79 0 (by unfold WF; omega)).1]; show gi Z 79 0 tr = _; rw [e79]; exact r4
    have e7 : gi Z' 77 0 (nn (Int32.ofNat f)) = Int32.ofNat (Vd n k p n f) := by
      rw [zN (by omega)]
      have := q3 0 f (by omega) hfk
      rw [Nat.mul_zero, Nat.zero_add, Nat.sub_zero] at this
      exact this
    rw [e7, e9, ck_t (ib (by omega) (by omega)), ck_t (ib ht4 (by omega)), e_wi (lo := 0) (hi := Int32.ofNat n - 1) (by decide) rfl]
    exact this
  have hi : ∀ y : Int32, (y ≤ Int32.ofNat n - 1) ↔ y < Int32.ofNat n := fun y => by
    rw [zSub1 (by omega), Int32.le_iff_toInt_le, Int32.lt_iff_toInt_lt, zI (by omega), zI (by omega)]; omega
  by_cases hr : 0 ≤ a4 ∧ a4 ≤ Int32.ofNat n - 1
  · -- a day
    obtain ⟨day, hday, rfl⟩ := zW (x := a4) (n := n) (by omega) (Int32.not_lt.mpr hr.1) ((hi _).mp hr.2)
    refine Ok.bf (fun z => zNeg (n := day) (by omega) (Int32.lt_trans z (by decide))) (Ok.bt ((zL (by omega) (by omega)).mpr hday) ?_)
    obtain ⟨Z1, g1, g2, g3⟩ := pf10 (A := Int32.ofNat tr) hn hk12 FU 0 S (by omega) (by unfold FU; omega) (fun f hf => by omega)
    obtain ⟨Z2, q1, q2, q3⟩ := p37 (n := n) (k := k) (p := p) ht4 hk1 hk12 hp hn n FU Z1 (Nat.le_refl _) (by unfold FU; omega) (fun d hd => by rw [(g2 53 tr (by unfold WF; omega)).2.1]; exact ep d hd) (fun d f h1 h2 h3 => by
      obtain rfl : d = n := by omega
      rw [g3 f h3, Nat.sub_self, Vd]; exact ⟨rfl, fun z => by omega⟩)
    have pl : f_X10_planFilling 0 (Int32.ofNat tr) (Int32.ofNat k) S = some Z2 := by
      unfold f_X10_planFilling
      rw [ck_t (ib ht4 (by omega)), zN (by omega), r3, bvE]
      refine (g1 _).trans ?_
      rw [bvE]
      exact q1 _
    have fr := g2.tr q2
    refine Ok.oe pl (Ok.v (Ok.bf (zNe (by omega)) ?_))
    obtain ⟨f', hf', s1, s2⟩ := f_two (S := Z2) ht4 hk1 hk12 hp hn (fun d f h1 h2 => (q3 d f (by omega) h2).2 h1) hday day 0 f (by omega) hfk
    have cl : f_X10_filledOn 0 (Int32.ofNat day) (Int32.ofNat f) Z2 = some (Int32.ofNat (Uf n k p day f' - f')) := by
      unfold f_X10_filledOn
      refine (s1 _ FU (by unfold FU; omega)).trans ?_
      rw [ck_t (ib (by omega) (by omega)), ck_t (ib (by omega) (by omega)), zN (by omega), zN (by omega), (q3 day f' (by omega) hf').2 hday]; rfl
    refine Ok.oe cl (Ok.sm (Tw.r ?_))
    refine refD _ _ (by show gl Z2 80 0 = _; rw [(fr 80 0 (by unfold WF; omega)).2.1]) (by show gi Z2 78 0 = _; rw [(fr 78 0 (by unfold WF; omega)).1]) (by show gi Z2 79 0 = _; rw [(fr 79 0 (by unfold WF; omega)).1]) (fun Z' u1 u2 => ?_)
    refine Ok.bf (zNe (by omega)) (Ok.bf (by rw [if_pos hr]; decide) ?_)
    have i0 : Inv (t + 1) Z' := (pf_bad (h.wf fr).out).wf u1
    refine Ok.eq (s2 FU Z' (fun d hd => ?_) u2 (by unfold FU; omega)) ⟨?_, rfl, ?_, i0⟩
    · rw [(u1 80 0 (by unfold WF; omega)).2.1]
      show (gl Z2 80 0 _).toInt32 = _
      rw [(fr 80 0 (by unfold WF; omega)).2.1, ← r5 d hd]; exact ep d hd
    · show gi Z' 60 0 5 = 0
      rw [(u1 60 0 (by unfold WF; omega)).1]; rfl
    · show gl Z' 81 0 (nn 0) = _
      rw [(u1 81 0 (by unfold WF; omega)).2.1]; rfl
  by_cases hm : a4 = -1
  · subst hm
    refine Ok.bf (by decide) (Ok.bt ?_ ?_)
    · rw [Int32.lt_iff_toInt_lt, zI (by omega)]
      have e1 : (-1 : Int32).toInt = -1 := rfl
      omega
    obtain ⟨Z1, g1, g2, g3⟩ := pf10 (A := Int32.ofNat tr) hn hk12 FU 0 S (by omega) (by unfold FU; omega) (fun f hf => by omega)
    obtain ⟨Z2, q1, q2, q3⟩ := p37 (n := n) (k := k) (p := p) ht4 hk1 hk12 hp hn n FU Z1 (Nat.le_refl _) (by unfold FU; omega) (fun d hd => by rw [(g2 53 tr (by unfold WF; omega)).2.1]; exact ep d hd) (fun d f h1 h2 h3 => by
      obtain rfl : d = n := by omega
      rw [g3 f h3, Nat.sub_self, Vd]; exact ⟨rfl, fun z => by omega⟩)
    have pl : f_X10_planFilling 0 (Int32.ofNat tr) (Int32.ofNat k) S = some Z2 := by
      unfold f_X10_planFilling
      rw [ck_t (ib ht4 (by omega)), zN (by omega), r3, bvE]
      refine (g1 _).trans ?_
      rw [bvE]
      exact q1 _
    have fr := g2.tr q2
    refine Ok.oe pl (Ok.v (Ok.bt rfl ?_))
    have cl : f_X10_leastPaid 0 (Int32.ofNat f) Z2 = some (Int32.ofNat (Vd n k p n f)) := by
      unfold f_X10_leastPaid
      rw [ck_t (by decide), ck_t (ib (by omega) (by omega)), zN (by omega)]
      exact congrArg some (q3 0 f (by omega) hfk).1
    refine Ok.oe cl (Ok.sm (Tw.r ?_))
    refine refD _ _ (by show gl Z2 80 0 = _; rw [(fr 80 0 (by unfold WF; omega)).2.1]) (by show gi Z2 78 0 = _; rw [(fr 78 0 (by unfold WF; omega)).1]) (by show gi Z2 79 0 = _; rw [(fr 79 0 (by unfold WF; omega)).1]) (fun Z' u1 u2 => ?_)
    have i0 : Inv (t + 1) Z' := (pf_bad (h.wf fr).out).wf u1
    refine Ok.bt rfl (Ok.sm ⟨?_, rfl, ?_, i0⟩)
    · show gi Z' 60 0 5 = 0
      rw [(u1 60 0 (by unfold WF; omega)).1]; rfl
    · show gl Z' 81 0 (nn 0) = _
      rw [(u1 81 0 (by unfold WF; omega)).2.1]; rfl
  · -- no such day
    have fin : Tw S (fun k S => br (k = 3) (some ((1 : Int32), S)) (br (k = 1) (some (2, S)) (br (k = 2) (some (3, S)) none))) (fun cd => cd ≠ 0 ∧ Ok (f_X12_fill 0 (Int32.ofNat tr) (Int32.ofNat k) (Int32.ofNat f) a4 S) (fun o => gi o.2 60 0 5 = cd ∧ Inv (t + 1) o.2)) (fun r S1 => Ok (f_X12_fill 0 (Int32.ofNat tr) (Int32.ofNat k) (Int32.ofNat f) a4 (sl S1 81 0 (nn 0) r.toInt64)) (fun o => gi o.2 60 0 5 = 0 ∧ o.1 = r ∧ gl o.2 81 0 (nn 0) = r.toInt64 ∧ Inv (t + 1) o.2)) (.inr (-1 : Int32), S) := by
      refine Tw.r ?_
      refine refD _ _ rfl rfl rfl (fun Z' u1 u2 => ?_)
      have i0 : Inv (t + 1) Z' := (pf_bad h.out).wf u1
      refine Ok.bf hm (Ok.bt (by rw [if_neg hr]) (Ok.sm ⟨?_, rfl, ?_, i0⟩))
      · show gi Z' 60 0 5 = 0
        rw [(u1 60 0 (by unfold WF; omega)).1]; rfl
      · show gl Z' 81 0 (nn 0) = _
        rw [(u1 81 0 (by unfold WF; omega)).2.1]; rfl
    by_cases hl : a4 < -1
    · exact Ok.bt hl (Ok.sm fin)
    · refine Ok.bf hl (Ok.bf (fun z => hr ⟨?_, (hi _).mpr z⟩) (Ok.sm fin))
      rw [Int32.lt_iff_toInt_lt] at hl
      rw [Int32.le_iff_toInt_le]
      have e1 : (-1 : Int32).toInt = -1 := rfl
      have e2 : (0 : Int32).toInt = 0 := rfl
      have e3 : a4.toInt ≠ -1 := fun z => hm (by rw [← Int32.toInt_inj]; exact z)
      omega
