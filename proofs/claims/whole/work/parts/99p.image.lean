-- IMAGES
theorem ozN {σ ρ : Type} (a : ρ) (b : σ → ρ) : oz (none : Option σ) a b = a := rfl
section IMG
variable {i : Nat}
theorem im38 (hi : i < 3) {K : St → Option St} : ∀ (n k : Nat) (S : St), k ≤ 3179 → 3179 - k < n → f_X12_image_38 0 (Int32.ofNat i) K n (Int32.ofNat k) S = K (ai S 62 0 (fun j => if 3179 * i + k ≤ j ∧ j < 3179 * i + 3179 then gi S 61 0 (j - 3179 * i) else gi S 62 0 j)) := by
  intro n
  induction n with
  | zero => intro k S _ h; omega
  | succ n ih =>
    intro k S hk hn
    rw [f_X12_image_38]
    by_cases hc : 3179 ≤ k
    · rw [brp (show (3179 : Int32) ≤ Int32.ofNat k from (zLE (a := 3179) (by omega) (by omega)).mpr hc), ai_ext (f' := gi S 62 0) (fun j => if_neg (by omega)), ai_self]
    · rw [brn (show ¬ (3179 : Int32) ≤ Int32.ofNat k from fun w => hc ((zLE (a := 3179) (by omega) (by omega)).mp w)), zMu, zAA, ck_t (ib (by omega) (by omega)), ck_t (ib (by omega) (by omega)), zN (by omega), zN (by omega), bvE, bvE, zp1, ih (k + 1) _ (by omega) (by omega)]
      show K (ai (ai S 62 0 (upd (gi S 62 0) (3179 * i + k) (gi S 61 0 k))) 62 0 (fun j => if 3179 * i + (k + 1) ≤ j ∧ j < 3179 * i + 3179 then gi S 61 0 (j - 3179 * i) else upd (gi S 62 0) (3179 * i + k) (gi S 61 0 k) j)) = _
      rw [ai_ai]
      congr 1
      refine ai_ext (fun j => ?_)
      by_cases e : j = 3179 * i + k
      · subst e
        rw [if_neg (by omega), upd_eq, if_pos (by omega), show 3179 * i + k - 3179 * i = k by omega]
      · rw [upd_ne e]
        by_cases e2 : 3179 * i + (k + 1) ≤ j ∧ j < 3179 * i + 3179
        · rw [if_pos e2, if_pos (by omega)]
        · rw [if_neg e2, if_neg (by omega)]
theorem im71 (hi : i < 3) {K : St → Option St} : ∀ (n k : Nat) (S : St), k ≤ 9 → 9 - k < n → f_X12_image_71 0 (Int32.ofNat i) K n (Int32.ofNat k) S = K (al S 64 0 (fun j => if 9 * i + k ≤ j ∧ j < 9 * i + 9 then gl S 63 0 (j - 9 * i) else gl S 64 0 j)) := by
  intro n
  induction n with
  | zero => intro k S _ h; omega
  | succ n ih =>
    intro k S hk hn
    rw [f_X12_image_71]
    by_cases hc : 9 ≤ k
    · rw [brp (show (9 : Int32) ≤ Int32.ofNat k from (zLE (a := 9) (by omega) (by omega)).mpr hc), al_ext (f' := gl S 64 0) (fun j => if_neg (by omega)), al_self]
    · rw [brn (show ¬ (9 : Int32) ≤ Int32.ofNat k from fun w => hc ((zLE (a := 9) (by omega) (by omega)).mp w)), zMu, zAA, ck_t (ib (by omega) (by omega)), ck_t (ib (by omega) (by omega)), zN (by omega), zN (by omega), bvE, bvE, zp1, ih (k + 1) _ (by omega) (by omega)]
      show K (al (al S 64 0 (vp_updL (gl S 64 0) (9 * i + k) (gl S 63 0 k))) 64 0 (fun j => if 9 * i + (k + 1) ≤ j ∧ j < 9 * i + 9 then gl S 63 0 (j - 9 * i) else vp_updL (gl S 64 0) (9 * i + k) (gl S 63 0 k) j)) = _
      rw [al_al]
      congr 1
      refine al_ext (fun j => ?_)
      by_cases e : j = 9 * i + k
      · subst e
        rw [if_neg (by omega), updL_eq, if_pos (by omega), show 9 * i + k - 9 * i = k by omega]
      · rw [updL_ne e]
        by_cases e2 : 9 * i + (k + 1) ≤ j ∧ j < 9 * i + 9
        · rw [if_pos e2, if_pos (by omega)]
        · rw [if_neg e2, if_neg (by omega)]
theorem re44 (hi : i < 3) {K : St → Option St} : ∀ (n k : Nat) (S : St), k ≤ 3179 → 3179 - k < n → f_X12_restore_44 0 (Int32.ofNat i) K n (Int32.ofNat k) S = K (ai S 61 0 (fun j => if k ≤ j ∧ j < 3179 then gi S 62 0 (3179 * i + j) else gi S 61 0 j)) := by
  intro n
  induction n with
  | zero => intro k S _ h; omega
  | succ n ih =>
    intro k S hk hn
    rw [f_X12_restore_44]
    by_cases hc : 3179 ≤ k
    · rw [brp (show (3179 : Int32) ≤ Int32.ofNat k from (zLE (a := 3179) (by omega) (by omega)).mpr hc), ai_ext (f' := gi S 61 0) (fun j => if_neg (by omega)), ai_self]
    · rw [brn (show ¬ (3179 : Int32) ≤ Int32.ofNat k from fun w => hc ((zLE (a := 3179) (by omega) (by omega)).mp w)), zMu, zAA, ck_t (ib (by omega) (by omega)), ck_t (ib (by omega) (by omega)), zN (by omega), zN (by omega), bvE, bvE, zp1, ih (k + 1) _ (by omega) (by omega)]
      show K (ai (ai S 61 0 (upd (gi S 61 0) k (gi S 62 0 (3179 * i + k)))) 61 0 (fun j => if k + 1 ≤ j ∧ j < 3179 then gi S 62 0 (3179 * i + j) else upd (gi S 61 0) k (gi S 62 0 (3179 * i + k)) j)) = _
      rw [ai_ai]
      congr 1
      refine ai_ext (fun j => ?_)
      by_cases e : j = k
      · subst e
        rw [if_neg (by omega), upd_eq, if_pos (by omega)]
      · rw [upd_ne e]
        by_cases e2 : k + 1 ≤ j ∧ j < 3179
        · rw [if_pos e2, if_pos (by omega)]
        · rw [if_neg e2, if_neg (by omega)]
theorem re77 (hi : i < 3) {K : St → Option St} : ∀ (n k : Nat) (S : St), k ≤ 9 → 9 - k < n → f_X12_restore_77 0 (Int32.ofNat i) K n (Int32.ofNat k) S = K (al S 63 0 (fun j => if k ≤ j ∧ j < 9 then gl S 64 0 (9 * i + j) else gl S 63 0 j)) := by
  intro n
  induction n with
  | zero => intro k S _ h; omega
  | succ n ih =>
    intro k S hk hn
    rw [f_X12_restore_77]
    by_cases hc : 9 ≤ k
    · rw [brp (show (9 : Int32) ≤ Int32.ofNat k from (zLE (a := 9) (by omega) (by omega)).mpr hc), al_ext (f' := gl S 63 0) (fun j => if_neg (by omega)), al_self]
    · rw [brn (show ¬ (9 : Int32) ≤ Int32.ofNat k from fun w => hc ((zLE (a := 9) (by omega) (by omega)).mp w)), zMu, zAA, ck_t (ib (by omega) (by omega)), ck_t (ib (by omega) (by omega)), zN (by omega), zN (by omega), bvE, bvE, zp1, ih (k + 1) _ (by omega) (by omega)]
      show K (al (al S 63 0 (vp_updL (gl S 63 0) k (gl S 64 0 (9 * i + k)))) 63 0 (fun j => if k + 1 ≤ j ∧ j < 9 then gl S 64 0 (9 * i + j) else vp_updL (gl S 63 0) k (gl S 64 0 (9 * i + k)) j)) = _
      rw [al_al]
      congr 1
      refine al_ext (fun j => ?_)
      by_cases e : j = k
      · subst e
        rw [if_neg (by omega), updL_eq, if_pos (by omega)]
      · rw [updL_ne e]
        by_cases e2 : k + 1 ≤ j ∧ j < 9
        · rw [if_pos e2, if_pos (by omega)]
        · rw [if_neg e2, if_neg (by omega)]
end IMG
theorem n_im {S : St} {g : Nat} {x : Int32} (h : ¬ (0 ≤ x ∧ x ≤ 2)) : f_X11_needImage g x S = some (.inl 3, S) := by
  unfold f_X11_needImage
  rw [bvE]
  by_cases h0 : x < 0
  · rw [brp h0]
  · rw [brn h0, brn (fun z => h ⟨Int32.not_lt.mp h0, ?_⟩)]
    rw [Int32.lt_iff_toInt_lt] at z
    rw [Int32.le_iff_toInt_le]
    have e2 : (2 : Int32).toInt = 2 := rfl
    have e3 : (3 : Int32).toInt = 3 := rfl
    omega
theorem y_im {S : St} {g n : Nat} (h : n < 3) : f_X11_needImage g (Int32.ofNat n) S = some (.inr (), S) := by
  unfold f_X11_needImage
  rw [bvE, brn (zNeg (by omega)), brp (show Int32.ofNat n < 3 from (zL (b := 3) (by omega) (by omega)).mpr h)]
theorem Inv.rest {t : Nat} {S S' : St} {W : Nat → Nat → Prop} (h : Inv t S) (hf : Fr W S S') (hw : ∀ k x, W k x → k ≠ 0 ∧ k ≠ 28 ∧ k ≠ 29 ∧ k ≠ 50 ∧ k ≠ 51 ∧ k ≠ 53 ∧ k ≠ 66 ∧ k ≠ 78 ∧ k ≠ 79 ∧ k ≠ 80) (h9 : gi S' 60 0 9 = gi S 60 0 9) (h18 : gi S' 60 0 18 = gi S 60 0 18) (h19 : gi S' 60 0 19 = gi S 60 0 19) (h26 : gl S' 60 0 26 = gl S 60 0 26) (h27 : gl S' 60 0 27 = gl S 60 0 27) : Crd S' ∧ Cfr S' ∧ Ctr S' := by
  have e : ∀ k x, (k = 0 ∨ k = 28 ∨ k = 29 ∨ k = 50 ∨ k = 51 ∨ k = 53 ∨ k = 66 ∨ k = 78 ∨ k = 79 ∨ k = 80) → gi S' k x = gi S k x ∧ gl S' k x = gl S k x ∧ gr S' k x = gr S k x ∧ gn S' k x = gn S k x := fun k x hk => hf k x (fun z => by have := hw k x z; omega)
  obtain ⟨q1, q2, q3, q4, q5⟩ := h
  refine ⟨?_, ?_, ?_⟩
  · unfold Crd
    rw [(e 28 0 (by omega)).1, (e 29 0 (by omega)).1, (e 66 0 (by omega)).1, h9, h18, h19]
    exact q3
  · unfold Cfr
    rw [(e 0 0 (by omega)).2.1, h26, h27]
    exact q4
  · intro t9 ht
    rw [(e 50 0 (by omega)).1, (e 78 0 (by omega)).1, (e 51 0 (by omega)).1, (e 79 0 (by omega)).1, (e 53 t9 (by omega)).2.1, (e 80 0 (by omega)).2.1]
    exact q5 t9 ht
-- CASE restore
theorem pc_38 {t : Nat} {S : St} {a1 a2 a3 a4 a5 : Int32} (h : Inv t S) : Ok (fc_38 (t + 1) a1 a2 a3 a4 a5 S) (Inv (t + 1)) := by
  unfold fc_38 f_L_restore f_X11_restore
  refine tw_v (S := S) ?_
  by_cases hr : 0 ≤ a1 ∧ a1 ≤ 2
  case neg => exact Ok.xl (n_im hr) (Tw.l (cd := 1) rfl (Ok.oe (m_wn (lo := 0) (hi := 2) (by decide) (by decide) hr) (Ok.v (Ok.bt rfl (Ok.v (Ok.bf (show ¬ (1 : Int32) ≤ 0 by decide) (Ok.sm ⟨rfl, pf_bad h⟩)))))))
  obtain ⟨i, hi2, rfl⟩ := zWle (n := 2) (by omega) hr
  have hi : i < 3 := by omega
  refine Ok.xr (y_im hi) (Ok.c (ib hi (by omega)) ?_)
  rw [zN (by omega)]
  have im := h.2.1.1 i hi
  cases hg : gr S 1 0 i with
  | none =>
    rw [hg] at im
    have im : gi S 65 0 i = 0 := im
    refine Ok.sm (Tw.l (cd := 2) rfl (Ok.oe (m_wy (lo := 0) (hi := 2) (by decide) (by decide) hr) (Ok.v (Ok.bf (by decide) (Ok.c (ib hi (by omega)) (Ok.bt ?_ (Ok.v (Ok.bf (show ¬ (2 : Int32) ≤ 0 by decide) (Ok.sm ⟨rfl, pf_bad h⟩)))))))))
    rw [zN (by omega)]; exact im
  | some g =>
    rw [hg] at im
    obtain ⟨i1, i2, i3, i4⟩ : gi S 65 0 i = 1 ∧ 0 < g ∧ g ≤ t ∧ Cr t S g (fun k => gi S 62 0 (3179 * i + k)) (fun k => gl S 64 0 (9 * i + k)) := im
    obtain ⟨N, D, hh, lv, ri, to, ch, c1, c2, -, -, -, -, -, -, -, -, -, -, -, -, c15⟩ := id h.1
    obtain ⟨S', e', f', q'⟩ := cpX2 (g0 := 0) (by omega) i4 c2.2.2.2.2.2.2.2.1 c2.2.2.2.2.2.2.2.2.1 c2.2.2.2.2.2.2.2.2.2.1 c2.2.2.2.2.2.2.2.2.2.2 (fun s r _ => c15 s r)
    show Ok (ck (inb (Int32.ofNat i) 3 = true) (on (f_X2_copyFrom 0 g S) _)) _
    have r60 := f' 60 0 (by unfold ow0; omega)
    have r61 := f' 61 0 (by unfold ow0; omega)
    have r62 := f' 62 0 (by unfold ow0; omega)
    have r63 := f' 63 0 (by unfold ow0; omega)
    have r64 := f' 64 0 (by unfold ow0; omega)
    have r65 := f' 65 0 (by unfold ow0; omega)
    refine Ok.c (ib hi (by omega)) (Ok.oe e' (Ok.sm (Tw.r (Ok.oe (m_wy (lo := 0) (hi := 2) (by decide) (by decide) hr) (Ok.v (Ok.bf (by decide) (Ok.c (ib hi (by omega)) (Ok.bf ?_ (Ok.v (Ok.bt (show (0 : Int32) ≤ 0 by decide) ?_)))))))))) 
    · rw [zN (by omega), r65.1, i1]; decide
    rw [show (0 : Int32) = Int32.ofNat 0 from rfl, re44 hi FU 0 _ (by omega) (by unfold FU; omega), re77 hi FU 0 _ (by omega) (by unfold FU; omega)]
    refine Ok.sm ⟨rfl, Inv.t (Nat.le_succ t) (h.now ?_ ?_ ?_ ?_ ?_ ?_ ?_)⟩
    · refine (f'.mono (fun k x hw => ?_)).tr ((Fr.si ?_).tr ((Fr.ai ?_).tr (Fr.al ?_)))
      · unfold ow0 at hw; unfold WN; omega
      · unfold WN WS; omega
      · unfold WN; omega
      · unfold WN; omega
    · show gi S' 60 0 9 = _; rw [r60.1]
    · show gi S' 60 0 18 = _; rw [r60.1]
    · show gi S' 60 0 19 = _; rw [r60.1]
    · show gl S' 60 0 26 = _; rw [r60.2.1]
    · show gl S' 60 0 27 = _; rw [r60.2.1]
    · refine Cr.cgT (T := fun k => gi S 62 0 (3179 * i + k)) (M := fun k => gl S 64 0 (9 * i + k)) (Cr.fr (W := fun k x => k = 60 ∨ k = 61 ∨ k = 63) ((Fr.si (by omega)).tr ((Fr.ai (by omega)).tr (Fr.al (by omega)))) (fun k x hw ho => by unfold own at ho; omega) q') (fun k hk => ?_) (fun k hk => ?_)
      · show (if 0 ≤ k ∧ k < 3179 then gi S' 62 0 (3179 * i + k) else gi S' 61 0 k) = _
        rw [if_pos ⟨by omega, hk⟩, r62.1]
      · show (if 0 ≤ k ∧ k < 9 then gl S' 64 0 (9 * i + k) else gl S' 63 0 k) = _
        rw [if_pos ⟨by omega, hk⟩, r64.2.1]
-- CASE image
theorem im_inv {t i g : Nat} {S S' : St} {W : Nat → Nat → Prop} (h : Inv t S) (hi : i < 3) (hg0 : 0 < g) (hgt : g ≤ t + 1) (hf : Fr W S S') (hW : ∀ k x, W k x → WI g k x ∨ (k = 1 ∧ x = 0)) (h1 : gr S' 1 0 = va_up (gr S 1 0) i (some g)) (hu : ∀ j, j < 3 → gr S 1 0 j = some g → j = i) (q : Cr (t + 1) S' g (gi S 61 0) (gl S 63 0)) : Ok (f_X12_image 0 (Int32.ofNat i) S') (fun o => gi o 60 0 5 = 0 ∧ Inv (t + 1) o) := by
  have nW : ∀ k x, 28 ≤ k → k ≤ 100 → ¬ W k x := fun k x h1 h2 hw => by
    have := hW k x hw
    unfold WI ow0 at this; omega
  have hr : (0 : Int32) ≤ Int32.ofNat i ∧ Int32.ofNat i ≤ 2 := ⟨zGe (by omega), (zLE (b := 2) (by omega) (by omega)).mpr (by omega)⟩
  refine Ok.oe (m_wy (lo := 0) (hi := 2) (by decide) (by decide) hr) (Ok.v (Ok.bf (by decide) (Ok.v (Ok.bt (show (0 : Int32) ≤ 0 by decide) (Ok.c (ib hi (by omega)) (Ok.v ?_))))))
  rw [zN (by omega), show vp_nar .boolean 1 = (1 : Int32) by decide, show (0 : Int32) = Int32.ofNat 0 from rfl, im38 hi FU 0 _ (by omega) (by unfold FU; omega), im71 hi FU 0 _ (by omega) (by unfold FU; omega)]
  have r60 := hf 60 0 (nW 60 0 (by omega) (by omega))
  have r61 := hf 61 0 (nW 61 0 (by omega) (by omega))
  have r62 := hf 62 0 (nW 62 0 (by omega) (by omega))
  have r63 := hf 63 0 (nW 63 0 (by omega) (by omega))
  have r64 := hf 64 0 (nW 64 0 (by omega) (by omega))
  have r65 := hf 65 0 (nW 65 0 (by omega) (by omega))
  refine Ok.sm ⟨rfl, ?_⟩
  have z62 : ∀ j, (if 3179 * i + 0 ≤ j ∧ j < 3179 * i + 3179 then gi S' 61 0 (j - 3179 * i) else gi S' 62 0 j) = if 3179 * i ≤ j ∧ j < 3179 * i + 3179 then gi S 61 0 (j - 3179 * i) else gi S 62 0 j := fun j => by
    rw [r61.1, r62.1]; rfl
  have z64 : ∀ j, (if 9 * i + 0 ≤ j ∧ j < 9 * i + 9 then gl S' 63 0 (j - 9 * i) else gl S' 64 0 j) = if 9 * i ≤ j ∧ j < 9 * i + 9 then gl S 63 0 (j - 9 * i) else gl S 64 0 j := fun j => by
    rw [r63.2.1, r64.2.1]; rfl
  generalize hZ : al (ai (si (si S' 60 0 5 (Int32.ofNat 0)) 65 0 i 1) 62 0 _) 64 0 _ = Z
  have fZ : Fr (fun k x => k = 60 ∨ k = 62 ∨ k = 64 ∨ k = 65) S' Z := by
    rw [← hZ]; exact (Fr.si (by omega)).tr ((Fr.si (by omega)).tr ((Fr.ai (by omega)).tr (Fr.al (by omega))))
  have y62 : ∀ j, gi Z 62 0 j = if 3179 * i ≤ j ∧ j < 3179 * i + 3179 then gi S 61 0 (j - 3179 * i) else gi S 62 0 j := fun j => by
    rw [← hZ]; exact z62 j
  have y64 : ∀ j, gl Z 64 0 j = if 9 * i ≤ j ∧ j < 9 * i + 9 then gl S 63 0 (j - 9 * i) else gl S 64 0 j := fun j => by
    rw [← hZ]; exact z64 j
  have y65 : gi Z 65 0 = upd (gi S 65 0) i 1 := by
    rw [← hZ, ← r65.1]; rfl
  have y60 : ∀ k, k ≠ 5 → gi Z 60 0 k = gi S 60 0 k := fun k hk => by
    rw [← hZ, ← r60.1]; exact upd_ne hk
  have y60l : gl Z 60 0 = gl S 60 0 := by
    rw [← hZ, ← r60.2.1]; rfl
  have y1 : gr Z 1 0 = va_up (gr S 1 0) i (some g) := by
    rw [(fZ 1 0 (by omega)).2.2.1, h1]
  have fSZ : Fr (fun k x => W k x ∨ (k = 60 ∨ k = 62 ∨ k = 64 ∨ k = 65)) S Z := (hf.mono (fun k x hw => Or.inl hw)).tr (fZ.mono (fun k x hw => Or.inr hw))
  have ot : ∀ g', g' ≤ t → g' ≠ g → ∀ k x, (W k x ∨ (k = 60 ∨ k = 62 ∨ k = 64 ∨ k = 65)) → ¬ own g' k x := fun g' h1 h2 k x hw ho => by
    rcases hw with hw | hw
    · have := hW k x hw
      unfold WI ow0 at this
      unfold own at ho
      omega
    · unfold own at ho
      omega
  obtain ⟨p3, p4, p5⟩ := h.rest fSZ (fun k x hw => by
    rcases hw with hw | hw
    · have := hW k x hw
      unfold WI ow0 at this
      omega
    · omega) (y60 9 (by omega)) (y60 18 (by omega)) (y60 19 (by omega)) (by rw [y60l]) (by rw [y60l])
  refine ⟨?_, ⟨fun j hj => ?_, fun j j' g' hj hj' => ?_⟩, p3, p4, p5⟩
  · rw [(fSZ 61 0 (fun z => z.elim (nW 61 0 (by omega) (by omega)) (by omega))).1, (fSZ 63 0 (fun z => z.elim (nW 63 0 (by omega) (by omega)) (by omega))).2.1]
    exact (Cr.fr fSZ (fun k x hw => ot 0 (by omega) (by omega) k x hw) h.1).t (Nat.le_succ t)
  · rw [y1]
    by_cases e : j = i
    · subst e
      rw [show va_up (gr S 1 0) j (some g) j = some g from if_pos rfl]
      refine ⟨by rw [y65]; exact upd_eq, hg0, hgt, ?_⟩
      refine Cr.cgT (Cr.fr fZ (fun k x hw ho => by unfold own at ho; omega) q) (fun k hk => ?_) (fun k hk => ?_)
      · rw [y62, if_pos (by omega), show 3179 * j + k - 3179 * j = k by omega]
      · rw [y64, if_pos (by omega), show 9 * j + k - 9 * j = k by omega]
    · rw [show va_up (gr S 1 0) i (some g) j = gr S 1 0 j from if_neg e]
      have im := h.2.1.1 j hj
      cases hg : gr S 1 0 j with
      | none =>
        rw [hg] at im
        show gi Z 65 0 j = 0
        rw [y65, upd_ne e]; exact im
      | some g' =>
        rw [hg] at im
        obtain ⟨i1, i2, i3, i4⟩ : gi S 65 0 j = 1 ∧ 0 < g' ∧ g' ≤ t ∧ Cr t S g' (fun k => gi S 62 0 (3179 * j + k)) (fun k => gl S 64 0 (9 * j + k)) := im
        have ng : g' ≠ g := fun z => e (hu j hj (by rw [hg, z]))
        refine ⟨by rw [y65, upd_ne e]; exact i1, i2, by omega, ?_⟩
        refine Cr.cgT ((Cr.fr fSZ (fun k x hw => ot g' i3 ng k x hw) i4).t (Nat.le_succ t)) (fun k hk => ?_) (fun k hk => ?_)
        · rw [y62, if_neg (by omega)]
        · rw [y64, if_neg (by omega)]
  · rw [y1]
    intro a b
    have H : ∀ j, j < 3 → va_up (gr S 1 0) i (some g) j = some g' → (j = i ∧ g' = g) ∨ (j ≠ i ∧ gr S 1 0 j = some g') := fun j _ a => by
      by_cases e : j = i
      · rw [e, show va_up (gr S 1 0) i (some g) i = some g from if_pos rfl] at a
        exact Or.inl ⟨e, (Option.some.inj a).symm⟩
      · rw [show va_up (gr S 1 0) i (some g) j = gr S 1 0 j from if_neg e] at a
        exact Or.inr ⟨e, a⟩
    rcases H j hj a with ⟨a1, a2⟩ | ⟨a1, a2⟩
    · rcases H j' hj' b with ⟨b1, b2⟩ | ⟨b1, b2⟩
      · rw [a1, b1]
      · exact absurd (hu j' hj' (by rw [b2, a2])) b1
    · rcases H j' hj' b with ⟨b1, b2⟩ | ⟨b1, b2⟩
      · exact absurd (hu j hj (by rw [a2, b2])) a1
      · exact h.2.1.2 j j' g' hj hj' a2 b2
theorem pc_37 {t : Nat} {S : St} {a1 a2 a3 a4 a5 : Int32} (h : Inv t S) : Ok (fc_37 (t + 1) a1 a2 a3 a4 a5 S) (Inv (t + 1)) := by
  unfold fc_37 f_L_image f_X11_image
  refine tw_v (S := S) ?_
  by_cases hr : 0 ≤ a1 ∧ a1 ≤ 2
  case neg => exact Ok.xl (n_im hr) (Tw.l (cd := 1) rfl (Ok.oe (m_wn (lo := 0) (hi := 2) (by decide) (by decide) hr) (Ok.v (Ok.bt rfl (Ok.v (Ok.bf (show ¬ (1 : Int32) ≤ 0 by decide) (Ok.sm ⟨rfl, pf_bad h⟩)))))))
  obtain ⟨i, hi2, rfl⟩ := zWle (n := 2) (by omega) hr
  have hi : i < 3 := by omega
  refine Ok.xr (y_im hi) (Ok.c (ib hi (by omega)) ?_)
  rw [zN (by omega)]
  have im := h.2.1.1 i hi
  cases hg : gr S 1 0 i with
  | some g =>
    rw [hg] at im
    obtain ⟨i1, i2, i3, i4⟩ : gi S 65 0 i = 1 ∧ 0 < g ∧ g ≤ t ∧ Cr t S g (fun k => gi S 62 0 (3179 * i + k)) (fun k => gl S 64 0 (9 * i + k)) := im
    obtain ⟨N, D, hh, lv, ri, to, ch, c1, c2, -, -, -, -, -, -, -, -, -, -, -, -, c15⟩ := id i4
    obtain ⟨S', e', f', q'⟩ := cpX2 (g0 := g) (g1 := 0) (by omega) h.1 c2.2.2.2.2.2.2.2.1 c2.2.2.2.2.2.2.2.2.1 c2.2.2.2.2.2.2.2.2.2.1 c2.2.2.2.2.2.2.2.2.2.2 (fun s r _ => c15 s r)
    show Ok (ck (inb (Int32.ofNat i) 3 = true) (on (f_X2_copyFrom g 0 S) _)) _
    refine Ok.c (ib hi (by omega)) (Ok.oe e' (Ok.sm (Tw.r ?_)))
    refine im_inv h hi i2 (by omega) f' (fun k x hw => Or.inl (Or.inl hw)) ?_ (fun j hj hj2 => h.2.1.2 j i g hj hi hj2 hg) (q'.t (Nat.le_succ t))
    rw [(f' 1 0 (by unfold ow0; omega)).2.2.1]
    funext j
    by_cases e : j = i
    · rw [e, show va_up (gr S 1 0) i (some g) i = some g from if_pos rfl]; exact hg
    · exact (show va_up (gr S 1 0) i (some g) j = gr S 1 0 j from if_neg e).symm
  | none =>
    rw [ozN]
    obtain ⟨S8, e8, f8, q8, r8⟩ := inCr (S := S) (g := t + 1) (t := t + 1) (T := fun k => if k < 7 then 0 else if 78 ≤ k ∧ k < 120 then 1 else if k = 120 ∨ k = 122 then -1 else 0) (M := fun _ => 0) ⟨fun i hi => by simp [hi], fun i h1 h2 => by simp [h1, h2]; omega, by simp, by simp, by simp, by simp, by simp⟩ (fun _ _ => rfl)
    refine Ok.v (Ok.oe e8 (Ok.c (ib hi (by omega)) (Ok.v (Ok.c (ib hi (by omega)) ?_))))
    have f9 : Fr (fun k x => WI (t + 1) k x ∨ (k = 1 ∧ x = 0)) S (sr S8 1 0 i (some (t + 1))) := (f8.mono (fun k x hw => Or.inl hw)).tr (Fr.sr (Or.inr ⟨rfl, rfl⟩))
    have g9 : gr (sr S8 1 0 i (some (t + 1))) 1 0 = va_up (gr S 1 0) i (some (t + 1)) := by
      rw [pgr_sr, if_pos ⟨rfl, rfl⟩, (f8 1 0 (by unfold WI ow0; omega)).2.2.1]
    rw [g9, show va_up (gr S 1 0) i (some (t + 1)) i = some (t + 1) from if_pos rfl]
    have c0 : Cr (t + 1) (sr S8 1 0 i (some (t + 1))) 0 (gi S 61 0) (gl S 63 0) := (Cr.fr f9 (fun k x hw ho => by
      unfold own at ho
      unfold WI ow0 at hw
      omega) h.1).t (Nat.le_succ t)
    obtain ⟨N, D, hh, lv, ri, to, ch, c1, c2, -⟩ := id q8
    obtain ⟨S', e', f', q'⟩ := cpX2 (g0 := t + 1) (g1 := 0) (by omega) c0 c2.2.2.2.2.2.2.2.1 c2.2.2.2.2.2.2.2.2.1 c2.2.2.2.2.2.2.2.2.2.1 c2.2.2.2.2.2.2.2.2.2.2 (fun s r _ hz => by
      have : gr S8 8 (t + 1) s = some r := hz
      rw [r8 s] at this; cases this)
    refine Ok.oe (x := t + 1) rfl (Ok.oe e' (Ok.sm (Tw.r ?_)))
    refine im_inv h hi (by omega) (by omega) (f9.tr (f'.mono (fun k x hw => Or.inl (Or.inl hw)))) (fun k x hw => hw) ?_ (fun j hj hj2 => ?_) q'
    · rw [(f' 1 0 (by unfold ow0; omega)).2.2.1, g9]
    · have im := h.2.1.1 j hj
      rw [hj2] at im
      have := im.2.2.1
      omega
