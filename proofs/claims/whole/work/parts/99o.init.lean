-- A NEW CROSSING
theorem pgi_zr {S : St} {K G N k g : Nat} : gi (zr S K G N) k g = if k = K ∧ g = G then (fun _ => 0) else gi S k g := rfl
theorem pgl_zr {S : St} {K G N k g : Nat} : gl (zr S K G N) k g = if k = K ∧ g = G then (fun _ => 0) else gl S k g := rfl
theorem pgr_zr {S : St} {K G N k g : Nat} : gr (zr S K G N) k g = if k = K ∧ g = G then (fun _ => none) else gr S k g := rfl
theorem pgn_zr {S : St} {K G N k g : Nat} : gn (zr S K G N) k g = if k = K ∧ g = G then N else gn S k g := rfl
theorem pgi_cp {S : St} {K G k0 k g : Nat} : gi (cp S K k0 G) k g = if k = k0 ∧ g = G then gi S K G else gi S k g := rfl
theorem pgl_cp {S : St} {K G k0 k g : Nat} : gl (cp S K k0 G) k g = if k = k0 ∧ g = G then gl S K G else gl S k g := rfl
theorem pgr_cp {S : St} {K G k0 k g : Nat} : gr (cp S K k0 G) k g = if k = k0 ∧ g = G then (fun _ => none) else gr S k g := rfl
theorem pgn_cp {S : St} {K G k0 k g : Nat} : gn (cp S K k0 G) k g = gn S k g := rfl
theorem Fr.zr {W : Nat → Nat → Prop} {S : St} {K G N : Nat} (h : W K G) : Fr W S (zr S K G N) := fun k x hn => zr_o (fun e => hn (by rw [e.1, e.2]; exact h))
theorem Fr.cp {W : Nat → Nat → Prop} {S : St} {K k0 G : Nat} (h : W k0 G) : Fr W S (cp S K k0 G) := fun k x hn => by
  have e : ¬ (k = k0 ∧ x = G) := fun e => hn (by rw [e.1, e.2]; exact h)
  exact ⟨by rw [pgi_cp, if_neg e], by rw [pgl_cp, if_neg e], by rw [pgr_cp, if_neg e], rfl⟩
theorem Fr.zM {W : Nat → Nat → Prop} {S : St} {K G I b N : Nat} (h : W K G) (h2 : ∀ g', b ≤ g' → g' < b + N → W I g') : Fr W S (zM S K G I b N) := fun k x hn => zM_o (fun e => hn (by rw [e.1, e.2]; exact h)) (fun e => hn (by rw [e.1]; exact h2 x e.2.1 e.2.2))
section IN
variable {S : St} {g : Nat}
theorem in3 : ∃ S', f_X3_init g S = some S' ∧ Fr (fun k x => (9 ≤ k ∧ k ≤ 13) ∧ x = g) S S' ∧ gi S' 9 g = gi S 109 g := by
  unfold f_X3_init
  simp only [bvE]
  refine ⟨_, rfl, ?_, ?_⟩
  · exact (Fr.zr ⟨by omega, rfl⟩).tr ((Fr.zr ⟨by omega, rfl⟩).tr ((Fr.zr ⟨by omega, rfl⟩).tr ((Fr.zr ⟨by omega, rfl⟩).tr (Fr.cp ⟨by omega, rfl⟩))))
  · simp [pgi_cp, pgi_zr]
theorem in256 : ∃ S', f_X0_init_256 g S = some S' ∧ Fr (fun k x => (k = 14 ∨ k = 15 ∨ k = 16 ∨ k = 114) ∧ x = g) S S' ∧ gi S' 14 g 0 = 256 ∧ gi S' 14 g 3 = gi S 114 g 3 ∧ gn S' 15 g = 1024 := by
  unfold f_X0_init_256
  simp only [bvE]
  refine ⟨_, rfl, ?_, ?_, ?_, ?_⟩
  · exact (Fr.zr ⟨by omega, rfl⟩).tr ((Fr.si ⟨by omega, rfl⟩).tr ((Fr.zr ⟨by omega, rfl⟩).tr (Fr.cp ⟨by omega, rfl⟩)))
  · simp [pgi_cp, pgi_zr, pgi_si, upd_eq]
  · simp [pgi_cp, pgi_zr, pgi_si, upd_ne]
  · simp [pgn_cp, pgn_zr]
theorem in60 : ∃ S', f_X0_init_60 g S = some S' ∧ Fr (fun k x => (k = 14 ∨ k = 15 ∨ k = 16 ∨ k = 114) ∧ x = g) S S' ∧ gi S' 14 g 0 = 60 ∧ gi S' 14 g 3 = gi S 114 g 3 ∧ gn S' 15 g = 240 := by
  unfold f_X0_init_60
  simp only [bvE]
  refine ⟨_, rfl, ?_, ?_, ?_, ?_⟩
  · exact (Fr.zr ⟨by omega, rfl⟩).tr ((Fr.si ⟨by omega, rfl⟩).tr ((Fr.zr ⟨by omega, rfl⟩).tr (Fr.cp ⟨by omega, rfl⟩)))
  · simp [pgi_cp, pgi_zr, pgi_si, upd_eq]
  · simp [pgi_cp, pgi_zr, pgi_si, upd_ne]
  · simp [pgn_cp, pgn_zr]
theorem in1 : ∃ S', f_X1_init g S = some S' ∧ Fr (fun k x => (17 ≤ k ∧ k ≤ 20) ∧ x = g) S S' ∧ gi S' 17 g = gi S 117 g := by
  unfold f_X1_init
  simp only [bvE]
  refine ⟨_, rfl, ?_, ?_⟩
  · exact (Fr.zr ⟨by omega, rfl⟩).tr ((Fr.zr ⟨by omega, rfl⟩).tr ((Fr.zr ⟨by omega, rfl⟩).tr (Fr.cp ⟨by omega, rfl⟩)))
  · simp [pgi_cp, pgi_zr]
theorem in32 {x : Nat} (hx : x < 2) {K : St → Option St} : ∀ (n k : Nat) (S : St), k ≤ 21 → 21 - k < n → f_X8_init_32 g (Int32.ofNat x) K n (Int32.ofNat k) S = K (ai S 24 (2 * g + x) (fun j => if k ≤ j ∧ j < 21 then 1 else gi S 24 (2 * g + x) j)) := by
  intro n
  induction n with
  | zero => intro k S _ h; omega
  | succ n ih =>
    intro k S hk hn
    rw [f_X8_init_32]
    by_cases hc : 21 ≤ k
    · rw [brp (show (21 : Int32) ≤ Int32.ofNat k from (zLE (a := 21) (by omega) (by omega)).mpr hc), ai_ext (f' := gi S 24 (2 * g + x)) (fun j => if_neg (by omega)), ai_self]
    · rw [brn (show ¬ (21 : Int32) ≤ Int32.ofNat k from fun w => hc ((zLE (a := 21) (by omega) (by omega)).mp w)), ck_t (ib hx (by omega)), ck_t (ib (by omega) (by omega)), zN (by omega), zN (by omega), bvE, bvE, zp1, ih (k + 1) _ (by omega) (by omega)]
      show K (ai (ai S 24 (2 * g + x) (upd (gi S 24 (2 * g + x)) k 1)) 24 (2 * g + x) _) = _
      rw [ai_ai]
      congr 1
      refine ai_ext (fun j => ?_)
      rw [show gi (si S 24 (2 * g + x) k 1) 24 (2 * g + x) j = upd (gi S 24 (2 * g + x)) k 1 j by rw [pgi_si, if_pos ⟨rfl, rfl⟩]]
      by_cases e : j = k
      · subst e
        rw [if_neg (by omega), upd_eq, if_pos (by omega)]
      · rw [upd_ne e]
        by_cases e2 : k + 1 ≤ j ∧ j < 21
        · rw [if_pos e2, if_pos (by omega)]
        · rw [if_neg e2, if_neg (by omega)]
theorem in8 : ∃ S', f_X8_init g S = some S' ∧ Fr (fun k x => ((k = 22 ∨ k = 23 ∨ k = 25) ∧ x = g) ∨ (k = 24 ∧ (x = 2 * g ∨ x = 2 * g + 1))) S S' ∧ gi S' 22 g = gi S 122 g ∧ ∀ i, i < 21 → gi S' 24 (2 * g) i = 1 ∧ gi S' 24 (2 * g + 1) i = 1 := by
  have lp : ∀ (Z : St) (K : St → Option St), ∃ Z', f_X8_init_25 g K FU 0 Z = K Z' ∧ Fr (fun k x => k = 24 ∧ (x = 2 * g ∨ x = 2 * g + 1)) Z Z' ∧ ∀ i, i < 21 → gi Z' 24 (2 * g) i = 1 ∧ gi Z' 24 (2 * g + 1) i = 1 := by
    intro Z K
    have e0 := fun (K : St → Option St) Z => in32 (g := g) (x := 0) (K := K) (by omega) FU 0 Z (by omega) (by unfold FU; omega)
    have e1 := fun (K : St → Option St) Z => in32 (g := g) (x := 1) (K := K) (by omega) FU 0 Z (by omega) (by unfold FU; omega)
    rw [show Int32.ofNat 0 = 0 from rfl] at e0 e1
    rw [show Int32.ofNat 1 = 1 from rfl] at e1
    obtain ⟨Y, hY⟩ : ∃ Y, Y = ai Z 24 (2 * g + 0) (fun j => if 0 ≤ j ∧ j < 21 then 1 else gi Z 24 (2 * g + 0) j) := ⟨_, rfl⟩
    refine ⟨ai Y 24 (2 * g + 1) (fun j => if 0 ≤ j ∧ j < 21 then 1 else gi Y 24 (2 * g + 1) j), ?_, ?_, ?_⟩
    · rw [FU3, f_X8_init_25, brn (by decide), e0, ← hY, bvE, show (0 : Int32) + 1 = 1 from rfl, f_X8_init_25, brn (by decide), e1, bvE, show (1 : Int32) + 1 = 2 from rfl, f_X8_init_25, brp (by decide)]
    · rw [hY]; exact (Fr.ai ⟨rfl, by omega⟩).tr (Fr.ai ⟨rfl, by omega⟩)
    · intro i hi
      rw [hY]; simp [pgi_ai, hi]
  unfold f_X8_init
  rw [bvE, bvE, bvE]
  obtain ⟨Z', q1, q2, q3⟩ := lp (cp (zr (zM S 23 g 24 (2 * g) 2) 25 g 18) 122 22 g) (fun S_12 => some S_12)
  refine ⟨Z', q1, ?_, ?_, q3⟩
  · refine (Fr.zM (Or.inl ⟨by omega, rfl⟩) (fun g' h1 h2 => Or.inr ⟨rfl, by omega⟩)).tr ((Fr.zr (Or.inl ⟨by omega, rfl⟩)).tr ((Fr.cp (Or.inl ⟨by omega, rfl⟩)).tr (q2.mono (fun k x hw => Or.inr hw))))
  · rw [(q2 22 g (by omega)).1, pgi_cp, if_pos ⟨rfl, rfl⟩, pgi_zr, if_neg (by omega), (zM_o (by omega) (by omega)).1]
/-- rows that making crossing g writes -/
def WI (g k x : Nat) : Prop := ow0 g k x ∨ ((k = 102 ∨ k = 109 ∨ k = 117 ∨ k = 122 ∨ k = 23 ∨ k = 27) ∧ x = g) ∨ (k = 114 ∧ (x = 2 * g ∨ x = 2 * g + 1)) ∨ (k = 26 ∧ x = g + 1)
theorem inCr {t : Nat} {T : Nat → Int32} {M : Nat → Int64} (hT : (∀ i, i < 7 → T i = 0) ∧ (∀ i, 78 ≤ i → i < 120 → T i = 1) ∧ T 120 = -1 ∧ T 121 = 0 ∧ T 122 = -1 ∧ T 123 = 0 ∧ T 124 = 0) (hM : ∀ k, k < 9 → M k = 0) : ∃ S', f_X2_init g (zr S 102 g 0) = some S' ∧ Fr (WI g) S S' ∧ Cr t S' g T M ∧ ∀ s, gr S' 8 g s = none := by
  obtain ⟨A, hA⟩ : ∃ A, A = zr (zr (zr (zr (zr (zr (zr (zr S 102 g 0) 3 g 4) 4 g 4) 5 g 4) 6 g 4) 7 g 4) 8 g 4) 109 g 0 := ⟨_, rfl⟩
  have fA : Fr (fun k x => ((3 ≤ k ∧ k ≤ 8 ∨ k = 109) ∧ x = g)) (zr S 102 g 0) A := by
    rw [hA]
    exact (Fr.zr ⟨by omega, rfl⟩).tr ((Fr.zr ⟨by omega, rfl⟩).tr ((Fr.zr ⟨by omega, rfl⟩).tr ((Fr.zr ⟨by omega, rfl⟩).tr ((Fr.zr ⟨by omega, rfl⟩).tr ((Fr.zr ⟨by omega, rfl⟩).tr (Fr.zr ⟨by omega, rfl⟩))))))
  have a6 : gl A 6 g = fun _ => 0 := by rw [hA]; simp [pgl_zr]
  have a7 : gl A 7 g = fun _ => 0 := by rw [hA]; simp [pgl_zr]
  have a8 : gr A 8 g = fun _ => none := by rw [hA]; simp [pgr_zr]
  have a109 : gi A 109 g = fun _ => 0 := by rw [hA]; simp [pgi_zr]
  obtain ⟨B, eB, fB, b9⟩ := in3 (S := A) (g := g)
  obtain ⟨C, eC, fC, c0, c3, cl⟩ := in256 (S := zr B 114 (2 * g) 0) (g := 2 * g)
  obtain ⟨E, eE, fE, e0, e3, el⟩ := in60 (S := zr C 114 (2 * g + 1) 0) (g := 2 * g + 1)
  obtain ⟨G, eG, fG, g17⟩ := in1 (S := zr E 117 g 0) (g := g)
  obtain ⟨F, eF, fF, f22, f24⟩ := in8 (S := zr (zr G 21 g 8) 122 g 0) (g := g)
  refine ⟨cp (zr (zr F 26 (g + 1) 4) 27 g 9) 102 2 g, ?_, ?_, ?_, ?_⟩
  · unfold f_X2_init
    rw [bvE, bvE, bvE, bvE, bvE, bvE, bvE, ← hA, eB, onS, bvE, eC, onS, bvE, eE, onS, bvE, eG, onS, bvE, bvE, eF, onS, bvE, bvE, bvE]
  all_goals
    have fEF : Fr (fun k x => ((17 ≤ k ∧ k ≤ 23 ∨ k = 25 ∨ k = 117 ∨ k = 122) ∧ x = g) ∨ (k = 24 ∧ (x = 2 * g ∨ x = 2 * g + 1))) E F := (Fr.zr (by omega)).tr ((fG.mono (fun k x hw => by omega)).tr ((Fr.zr (by omega)).tr ((Fr.zr (by omega)).tr (fF.mono (fun k x hw => by omega)))))
    have fCF : Fr (fun k x => ((17 ≤ k ∧ k ≤ 23 ∨ k = 25 ∨ k = 117 ∨ k = 122) ∧ x = g) ∨ (k = 24 ∧ (x = 2 * g ∨ x = 2 * g + 1)) ∨ ((k = 14 ∨ k = 15 ∨ k = 16 ∨ k = 114) ∧ x = 2 * g + 1)) C F := (Fr.zr (by omega)).tr ((fE.mono (fun k x hw => by omega)).tr (fEF.mono (fun k x hw => by omega)))
    have fBF : Fr (fun k x => ((17 ≤ k ∧ k ≤ 23 ∨ k = 25 ∨ k = 117 ∨ k = 122) ∧ x = g) ∨ (k = 24 ∧ (x = 2 * g ∨ x = 2 * g + 1)) ∨ ((k = 14 ∨ k = 15 ∨ k = 16 ∨ k = 114) ∧ (x = 2 * g ∨ x = 2 * g + 1))) B F := (Fr.zr (by omega)).tr ((fC.mono (fun k x hw => by omega)).tr (fCF.mono (fun k x hw => by omega)))
    have fAF : Fr (fun k x => ((9 ≤ k ∧ k ≤ 13 ∨ 17 ≤ k ∧ k ≤ 23 ∨ k = 25 ∨ k = 117 ∨ k = 122) ∧ x = g) ∨ (k = 24 ∧ (x = 2 * g ∨ x = 2 * g + 1)) ∨ ((k = 14 ∨ k = 15 ∨ k = 16 ∨ k = 114) ∧ (x = 2 * g ∨ x = 2 * g + 1))) A F := (fB.mono (fun k x hw => by omega)).tr (fBF.mono (fun k x hw => by omega))
    have fZ : Fr (fun k x => ((k = 2 ∨ k = 27) ∧ x = g) ∨ (k = 26 ∧ x = g + 1)) F (cp (zr (zr F 26 (g + 1) 4) 27 g 9) 102 2 g) := (Fr.zr (by omega)).tr ((Fr.zr (by omega)).tr (Fr.cp (by omega)))
    generalize hZ : cp (zr (zr F 26 (g + 1) 4) 27 g 9) 102 2 g = Z at fZ ⊢
  · exact (Fr.zr (by unfold WI; omega)).tr ((fA.mono (fun k x hw => by unfold WI ow0; omega)).tr ((fAF.mono (fun k x hw => by unfold WI ow0; omega)).tr (fZ.mono (fun k x hw => by unfold WI ow0; omega))))
  · have z102i : gi F 102 g = fun _ => 0 := by
      rw [(fAF 102 g (by omega)).1, (fA 102 g (by omega)).1, pgi_zr, if_pos ⟨rfl, rfl⟩]
    have z102l : gl F 102 g = fun _ => 0 := by
      rw [(fAF 102 g (by omega)).2.1, (fA 102 g (by omega)).2.1, pgl_zr, if_pos ⟨rfl, rfl⟩]
    have z2i : gi Z 2 g = fun _ => 0 := by
      rw [← hZ, pgi_cp, if_pos ⟨rfl, rfl⟩, pgi_zr, if_neg (by omega), pgi_zr, if_neg (by omega)]; exact z102i
    have z2l : gl Z 2 g = fun _ => 0 := by
      rw [← hZ, pgl_cp, if_pos ⟨rfl, rfl⟩, pgl_zr, if_neg (by omega), pgl_zr, if_neg (by omega)]; exact z102l
    have z2r : gr Z 2 g = fun _ => none := by
      rw [← hZ, pgr_cp, if_pos ⟨rfl, rfl⟩]
    have z8 : gr Z 8 g = fun _ => none := by
      rw [(fZ 8 g (by omega)).2.2.1, (fAF 8 g (by omega)).2.2.1]; exact a8
    obtain ⟨t0, t1, t2, t3, t4, t5, t6⟩ := hT
    have tz : ∀ i, i < 7 → T i = Int32.ofNat 0 := t0
    refine ⟨0, 0, 0, 0, 0, 0, 0, ⟨⟨tz 0 (by omega), by omega⟩, ⟨tz 1 (by omega), by omega⟩, ⟨tz 2 (by omega), by omega⟩, ⟨tz 3 (by omega), by omega⟩, ⟨tz 4 (by omega), by omega⟩, ⟨tz 5 (by omega), by omega⟩, ⟨tz 6 (by omega), by omega⟩⟩, ⟨?_, ?_, ?_, ?_, ?_, ?_, ?_, ?_, ?_, ?_, ?_⟩, fun s hs => by omega, ⟨fun s hs => ?_, ?_⟩, fun k hk => by omega, ⟨fun s hs => by omega, fun q s hq => by omega, fun s hs => by omega⟩, ⟨fun k s hk => by omega, fun h0 => by omega⟩, fun k hk => by omega, fun i hi => by omega, ⟨?_, fun k hk => absurd hk (Nat.not_lt_zero k), fun x hx => by cases hx⟩, fun i hi => ?_, ?_, ⟨fun s _ _ => by rw [z8], fun s hs => by omega⟩, fun r hr => (by rw [z2r] at hr; cases hr), fun s r hr => (by rw [z8] at hr; cases hr)⟩
    · rw [z2i]; rfl
    · rw [(fZ 9 g (by omega)).1, (fBF 9 g (by omega)).1, b9, a109]; rfl
    · rw [(fZ 14 (2 * g) (by omega)).1, (fCF 14 (2 * g) (by omega)).1, c3, pgi_zr, if_pos ⟨rfl, rfl⟩]; rfl
    · rw [z2i]; rfl
    · rw [(fZ 22 g (by omega)).1, f22, pgi_zr, if_pos ⟨rfl, rfl⟩]; rfl
    · rw [(fZ 14 (2 * g + 1) (by omega)).1, (fEF 14 (2 * g + 1) (by omega)).1, e3, pgi_zr, if_pos ⟨rfl, rfl⟩]; rfl
    · rw [(fZ 17 g (by omega)).1, (fF 17 g (by omega)).1, pgi_zr, if_neg (by omega), pgi_zr, if_neg (by omega), g17, pgi_zr, if_pos ⟨rfl, rfl⟩]; rfl
    · rw [(fZ 14 (2 * g) (by omega)).1, (fCF 14 (2 * g) (by omega)).1]; exact c0
    · rw [(fZ 14 (2 * g + 1) (by omega)).1, (fEF 14 (2 * g + 1) (by omega)).1]; exact e0
    · rw [(fZ 15 (2 * g) (by omega)).2.2.2, (fCF 15 (2 * g) (by omega)).2.2.2]; exact cl
    · rw [(fZ 15 (2 * g + 1) (by omega)).2.2.2, (fEF 15 (2 * g + 1) (by omega)).2.2.2]; exact el
    · rw [(fZ 6 g (by omega)).2.1, (fAF 6 g (by omega)).2.1, a6, (fZ 7 g (by omega)).2.1, (fAF 7 g (by omega)).2.1, a7, hM s (by omega), hM (4 + s) (by omega)]; exact ⟨rfl, rfl⟩
    · rw [z2l, hM 8 (by omega)]
    · rw [(fZ 22 g (by omega)).1, f22, pgi_zr, if_pos ⟨rfl, rfl⟩]; rfl
    · rw [(fZ 24 (2 * g) (by omega)).1, (fZ 24 (2 * g + 1) (by omega)).1, (f24 i hi).1, (f24 i hi).2, t1 (78 + i) (by omega) (by omega), t1 (99 + i) (by omega) (by omega)]
      exact ⟨rfl, rfl, ⟨1, by omega, rfl⟩, ⟨1, by omega, rfl⟩⟩
    · rw [z2r]; exact ⟨t2, t3, t4, t5, t6⟩
  · intro s
    rw [(fZ 8 g (by omega)).2.2.1, (fAF 8 g (by omega)).2.2.1, a8]
end IN
