-- RISE
section RI
variable {A S : St} {L : List Int32} {x : Int32}
def one (x : Int32) : List Int32 := if x = -1 then [] else [x]
def Lw (A S : St) (L : List Int32) : Prop := Fr (fun k x => (k = 22 ∨ k = 25) ∧ x = 0) A S ∧ (∀ j, j ≠ 2 → gi S 22 0 j = gi A 22 0 j) ∧ gi S 22 0 2 = Int32.ofNat L.length ∧ ∀ k, k < L.length → gi S 25 0 k = L.getD k 0
theorem lw_add (h : Lw A S L) (hl : L.length < 18) : ∃ S', f_X8_addLag 0 x S = some S' ∧ Lw A S' (L ++ one x) := by
  unfold f_X8_addLag one
  rw [bvE]
  by_cases e : x = -1
  · rw [brp e, if_pos e, List.append_nil]; exact ⟨S, rfl, h⟩
  · rw [brn e, if_neg e, h.2.2.1, brn (fun w => absurd ((zLE (by omega) (by omega)).mp w) (by omega)), ck_t (ib hl (by omega)), zN (by omega), bvE, bvE]
    refine ⟨_, rfl, h.1.tr ((Fr.si ⟨Or.inr rfl, rfl⟩).tr (Fr.si ⟨Or.inl rfl, rfl⟩)), fun j hj => ?_, ?_, fun k hk => ?_⟩
    · show upd (gi S 22 0) 2 _ j = _
      rw [upd_ne hj]; exact h.2.1 j hj
    · show upd (gi S 22 0) 2 (gi S 22 0 2 + 1) 2 = _
      rw [upd_eq, h.2.2.1, zp1, List.length_append]; rfl
    · show upd (gi S 25 0) L.length x k = _
      rw [List.length_append] at hk
      have hk : k < L.length + 1 := hk
      by_cases e9 : k = L.length
      · subst e9
        rw [upd_eq, List.getD_eq_getElem?_getD, List.getElem?_append_right (Nat.le_refl _), Nat.sub_self]; rfl
      · rw [upd_ne e9, h.2.2.2 k (by omega), List.getD_eq_getElem?_getD, List.getD_eq_getElem?_getD, List.getElem?_append_left (by omega)]
end RI
theorem lags_len {T : Nat → Int32} {ri : Nat} : (lagsOf T ri).length ≤ 3 * ri := by
  unfold lagsOf
  refine Nat.le_trans (List.length_filter_le _ _) ?_
  rw [List.length_map, List.length_range]; exact Nat.le_refl _
theorem lags_next {T T' : Nat → Int32} {ri : Nat} {x y z : Int32} (h : ∀ i, i < 3 * ri → T' (60 + i) = T (60 + i)) (h1 : T' (60 + 3 * ri) = x) (h2 : T' (60 + 3 * ri + 1) = y) (h3 : T' (60 + 3 * ri + 2) = z) : lagsOf T' (ri + 1) = ((lagsOf T ri ++ one x) ++ one y) ++ one z := by
  unfold lagsOf
  have e : List.range (3 * (ri + 1)) = List.range (3 * ri) ++ [3 * ri] ++ [3 * ri + 1] ++ [3 * ri + 2] := by
    rw [show 3 * (ri + 1) = 3 * ri + 1 + 1 + 1 by omega, List.range_succ, List.range_succ, List.range_succ]
  have f1 : ∀ v : Int32, List.filter (fun x => decide (x ≠ -1)) [v] = one v := by
    intro v
    unfold one
    by_cases e : v = -1
    · rw [if_pos e, e]; rfl
    · rw [if_neg e, List.filter_cons_of_pos (by simpa using e)]; rfl
  rw [e, List.map_append, List.map_append, List.map_append, List.filter_append, List.filter_append, List.filter_append]
  rw [show [3 * ri].map (fun i => T' (60 + i)) = [x] by rw [← h1]; rfl, show [3 * ri + 1].map (fun i => T' (60 + i)) = [y] by rw [← h2]; rfl, show [3 * ri + 2].map (fun i => T' (60 + i)) = [z] by rw [← h3]; rfl, f1, f1, f1]
  congr 3
  congr 1
  refine List.map_congr_left (fun i hi => h i ?_)
  exact List.mem_range.mp hi
theorem Ok.jj {α : Type} {c : Prop} [Decidable c] {F : Int32 → St → Option α} {P : α → Prop} {v x y : Int32} {Z : St} (hv : v = if c then x else y) (z : Ok (F v Z) P) : Ok (bv F (fun J => br c (J x Z) (J y Z))) P := by
  rw [bvE]
  by_cases e : c
  · rw [if_pos e] at hv; rw [hv] at z; exact Ok.bt e z
  · rw [if_neg e] at hv; rw [hv] at z; exact Ok.bf e z
theorem Ok.jx {ρ : Type} {c : Prop} [Decidable c] {F : St → Option ((Nat ⊕ ρ) × St)} {P : (Nat ⊕ ρ) × St → Prop} {Z : St} {w : Option ((Nat ⊕ Unit) × St)} (h : ¬ c → w = some (.inr (), Z)) (z : Ok (F Z) P) : Ok (bv F (fun J => br c (J Z) (xb (τ := Unit) w (fun _u S => J S)))) P := by
  rw [bvE]
  by_cases e : c
  · exact Ok.bt e z
  · exact Ok.bf e (Ok.xr (h e) z)
theorem Ok.jo {α : Type} {c : Prop} [Decidable c] {F : St → Option α} {P : α → Prop} {Z : St} {w : Option Int32} {G : Option α} (h : ¬ c → w = some 1) (z : Ok (F Z) P) : Ok (bv F (fun J => br c (J Z) (on w (fun r => br (r = 0) G (J Z))))) P := by
  rw [bvE]
  by_cases e : c
  · exact Ok.bt e z
  · exact Ok.bf e (Ok.oe (h e) (Ok.bf (by decide) z))
theorem Cru.st {N : Nat} {S S' : St} {R : Nat → Option Nat} {T : Nat → Int32} (e : ∀ k x, k = 33 ∨ k = 34 → gi S' k x = gi S k x ∧ gn S' k x = gn S k x) (q : Cru N R S T) : Cru N R S' T := by
  refine ⟨q.1, fun s hs => ?_⟩
  have := q.2 s hs
  cases hr : R s with
  | none => rw [hr] at this; exact this
  | some r9 =>
    rw [hr] at this
    show ∃ rs, Cru1 rs (gn S' 33 r9) (gn S' 34 r9) (gi S' 33 r9) (gi S' 34 r9) T _
    rw [(e 33 r9 (Or.inl rfl)).1, (e 34 r9 (Or.inr rfl)).1, (e 33 r9 (Or.inl rfl)).2, (e 34 r9 (Or.inr rfl)).2]
    exact this
-- CASE rise
theorem pc_30 {t : Nat} {S : St} {a1 a2 a3 a4 a5 : Int32} (h : Inv t S) : Ok (fc_30 (t + 1) a1 a2 a3 a4 a5 S) (Inv (t + 1)) := by
  unfold fc_30 f_L_rise
  refine tw_i (S := S) ?_
  obtain ⟨⟨N, D, hh, lv, ri, to, ch, c1, c2, c3, c4, c5, c6, c7, c8, c9, c10, c11, c12, c13, c14, c15⟩, -⟩ := id h
  have b0 := c1.1.2
  have n4 := c1.2.2.2.2.1.1
  have b4 := c1.2.2.2.2.1.2
  have k4 := c2.2.2.2.2.1
  have lg : ∀ (y : Int32) (Z : St), ((0 ≤ y ∧ y ≤ 20) → f_X12_isLag y Z = some 1) ∧ (¬ (0 ≤ y ∧ y ≤ 20) → f_X12_isLag y Z = some 0) := by
    intro y Z
    unfold f_X12_isLag
    exact ⟨fun z => by rw [m_wy (lo := 0) (hi := 20) (by decide) (by decide) z]; rfl, fun z => by rw [m_wn (lo := 0) (hi := 20) (by decide) (by decide) z]; rfl⟩
  have two : ∀ v : Int32, (v = if a2 = -1 then -1 else a3) → Ok (f_X11_rise 0 a1 a2 a3 S) (Tw S (fun k S => br (k = 2) (some (1, S)) (none)) (fun cd => cd ≠ 0 ∧ Ok (f_X12_rise 0 a1 a2 a3 S) (fun o => gi o.2 60 0 5 = cd ∧ Inv (t + 1) o.2)) (fun r S1 => Ok (f_X12_rise 0 a1 a2 a3 (sl S1 81 0 (nn 0) r.toInt64)) (fun o => gi o.2 60 0 5 = 0 ∧ o.1 = r ∧ gl o.2 81 0 (nn 0) = r.toInt64 ∧ Inv (t + 1) o.2))) := by
    intro v hv
    unfold f_X11_rise
    by_cases h1 : 0 ≤ a1 ∧ a1 ≤ 20
    case neg => exact Ok.xl (n_wi h1) (Tw.l (cd := 1) rfl ⟨by decide, Ok.v (Ok.jj hv ((Ok.oe ((lg a1 _).2 h1) (Ok.v (Ok.bt rfl (Ok.o2e rfl (Ok.sm ⟨rfl, pf_bad h.thr⟩)))))))⟩)
    refine Ok.xr (y_wi h1) (Ok.jj hv ?_)
    by_cases h2 : a2 = -1 ∨ (0 ≤ a2 ∧ a2 ≤ 20)
    case neg =>
      have h2a : ¬ a2 = -1 := fun z => h2 (Or.inl z)
      have h2b : ¬ (0 ≤ a2 ∧ a2 ≤ 20) := fun z => h2 (Or.inr z)
      exact Ok.v (Ok.bf h2a (Ok.xl (n_wi h2b) (Tw.l (cd := 1) rfl ⟨by decide, Ok.v (Ok.jj hv ((Ok.oe ((lg a1 _).1 h1) (Ok.v (Ok.bf (by decide) (Ok.v (Ok.bf h2a (Ok.oe ((lg a2 _).2 h2b) (Ok.bt rfl (Ok.o2e rfl (Ok.sm ⟨rfl, pf_bad h.thr⟩)))))))))))⟩)))
    refine Ok.jx (fun e => y_wi (h2.resolve_left e)) ?_
    by_cases h3 : v = -1 ∨ (0 ≤ v ∧ v ≤ 20)
    case neg =>
      have h3a : ¬ v = -1 := fun z => h3 (Or.inl z)
      have h3b : ¬ (0 ≤ v ∧ v ≤ 20) := fun z => h3 (Or.inr z)
      exact Ok.v (Ok.bf h3a (Ok.xl (n_wi h3b) (Tw.l (cd := 1) rfl ⟨by decide, Ok.v (Ok.jj hv ((Ok.oe ((lg a1 _).1 h1) (Ok.v (Ok.bf (by decide) (Ok.jo (fun e => (lg a2 _).1 (h2.resolve_left e)) ((Ok.v (Ok.bf h3a (Ok.oe ((lg v _).2 h3b) (Ok.bt rfl (Ok.o2e rfl (Ok.sm ⟨rfl, pf_bad h.thr⟩)))))))))))))⟩)))
    refine Ok.jx (fun e => y_wi (h3.resolve_left e)) ?_
    unfold f_X8_addRise
    by_cases hr : ri < 6
    case neg =>
      have e6 : ri = 6 := by omega
      rw [k4, e6, brn (by decide)]
      refine Ok.o2e rfl (Ok.sm (Tw.r ?_))
      exact Ok.v (Ok.jj hv ((Ok.oe ((lg a1 _).1 h1) (Ok.v (Ok.bf (by decide) (Ok.jo (fun e => (lg a2 _).1 (h2.resolve_left e)) ((Ok.jo (fun e => (lg v _).1 (h3.resolve_left e)) ((Ok.c (by decide) (Ok.bt (show gi S 61 0 4 = 6 by rw [n4, e6]; rfl) (Ok.sm ⟨rfl, rfl, rfl, pf_bad h.out⟩))))))))))))
    rw [k4, brp (show Int32.ofNat ri < 6 from (zL (b := 6) (by omega) (by omega)).mpr hr)]
    have ln := lags_len (T := gi S 61 0) (ri := ri)
    have ol : ∀ y, (one y).length ≤ 1 := by intro y; unfold one; split <;> simp
    have L0 : Lw S S (lagsOf (gi S 61 0) ri) := ⟨Fr.rf, fun _ _ => rfl, c10.1, c10.2.1⟩
    obtain ⟨S1, s1, L1⟩ := lw_add (x := a1) L0 (by omega)
    obtain ⟨S2, s2, L2⟩ := lw_add (x := a2) L1 (by rw [List.length_append]; have := ol a1; omega)
    obtain ⟨S3, s3, L3⟩ := lw_add (x := v) L2 (by rw [List.length_append, List.length_append]; have := ol a1; have := ol a2; omega)
    have q3 : gi S3 22 0 3 = Int32.ofNat ri := by rw [L3.2.1 3 (by decide)]; exact k4
    refine Ok.o2 (Q := fun o => o = (Int32.ofNat ri, si S3 22 0 3 (Int32.ofNat (ri + 1)))) (Ok.oe s1 (Ok.oe s2 (Ok.oe s3 (Ok.v (Ok.v (Ok.sm (by rw [q3, zp1]))))))) (fun r9 S9 e9 => ?_)
    cases e9
    refine Ok.sm (Tw.r ?_)
    have r : ∀ k x, k ≠ 22 → k ≠ 25 → gi S3 k x = gi S k x ∧ gl S3 k x = gl S k x ∧ gr S3 k x = gr S k x ∧ gn S3 k x = gn S k x := fun k x h1 h2 => L3.1 k x (fun z => by omega)
    have e61 : gi S3 61 0 = gi S 61 0 := (r 61 0 (by decide) (by decide)).1
    refine Ok.v (Ok.jj hv ((Ok.oe ((lg a1 _).1 h1) (Ok.v (Ok.bf (by decide) (Ok.jo (fun e => (lg a2 _).1 (h2.resolve_left e)) ((Ok.jo (fun e => (lg v _).1 (h3.resolve_left e)) (?_)))))))))
    have p4 : gi (si (sl (si S3 22 0 3 (Int32.ofNat (ri + 1))) 81 0 (nn 0) (Int32.ofNat ri).toInt64) 60 0 5 0) 61 0 (nn 4) = Int32.ofNat ri := by
      show gi S3 61 0 4 = _
      rw [e61]; exact n4
    refine Ok.c (by decide) (Ok.bf (by rw [p4]; exact fun z => absurd ((zE (b := 6) (by omega) (by omega)).mp z) (by omega)) (Ok.c (by decide) (Ok.ve (x := Int32.ofNat (60 + 3 * ri)) (by rw [p4, zMu, zA]) ?_)))
    rw [zp1, zp2]
    refine Ok.c (ib (by omega) (by omega)) (Ok.v (Ok.c (ib (by omega) (by omega)) (Ok.v (Ok.c (ib (by omega) (by omega)) (Ok.v (Ok.c (by decide) (Ok.c (by decide) (Ok.ve (x := si (si (si (si (si (sl (si S3 22 0 3 (Int32.ofNat (ri + 1))) 81 0 (nn 0) (Int32.ofNat ri).toInt64) 60 0 5 0) 61 0 (60 + 3 * ri) a1) 61 0 (60 + 3 * ri + 1) a2) 61 0 (60 + 3 * ri + 2) v) 61 0 4 (Int32.ofNat (ri + 1))) ?_ (Ok.c (by decide) (Ok.sm ⟨?_, ?_, ?_, ?_⟩))))))))))
    · rw [zN (by omega), zN (by omega), zN (by omega), ← zp1]
      congr 1
      show upd (upd (upd (gi S3 61 0) (60 + 3 * ri) a1) (60 + 3 * ri + 1) a2) (60 + 3 * ri + 2) v 4 + 1 = _
      rw [upd_ne (by omega), upd_ne (by omega), upd_ne (by omega), e61]
      rw [n4]
    · rfl
    · show Int32.ofNat (ri + 1) - 1 = _
      rw [zSub1 (by omega)]; rfl
    · rfl
    · have nw : ∀ i, i ≠ 4 → (i < 60 + 3 * ri ∨ 60 + 3 * ri + 3 ≤ i) → upd (upd (upd (upd (gi S3 61 0) (60 + 3 * ri) a1) (60 + 3 * ri + 1) a2) (60 + 3 * ri + 2) v) 4 (Int32.ofNat (ri + 1)) i = gi S 61 0 i := fun i h4 hi => by
        rw [upd_ne h4, upd_ne (by omega), upd_ne (by omega), upd_ne (by omega), e61]
      refine Inv.t (Nat.le_succ t) (h.now (S' := si (si (si (si (si (sl (si S3 22 0 3 (Int32.ofNat (ri + 1))) 81 0 (nn 0) (Int32.ofNat ri).toInt64) 60 0 5 0) 61 0 (60 + 3 * ri) a1) 61 0 (60 + 3 * ri + 1) a2) 61 0 (60 + 3 * ri + 2) v) 61 0 4 (Int32.ofNat (ri + 1))) ?_ ?_ ?_ ?_ ?_ ?_ ?_)
      · have w61 : WN 61 0 := Or.inr (Or.inl ⟨rfl, rfl⟩)
        refine (L3.1.mono (fun k x hw => ?_)).tr ((Fr.si ?_).tr ((Fr.sl ?_).tr ((Fr.si ?_).tr ((Fr.si w61).tr ((Fr.si w61).tr ((Fr.si w61).tr (Fr.si w61)))))))
        · exact Or.inr (Or.inr (Or.inr (Or.inl ⟨by omega, hw.2⟩)))
        · exact Or.inr (Or.inr (Or.inr (Or.inl ⟨by omega, rfl⟩)))
        · exact Or.inl (Or.inl (by unfold Scr; omega))
        · exact Or.inl (Or.inr ⟨rfl, rfl⟩)
      · show gi S3 60 0 9 = _
        rw [(r 60 0 (by decide) (by decide)).1]
      · show gi S3 60 0 18 = _
        rw [(r 60 0 (by decide) (by decide)).1]
      · show gi S3 60 0 19 = _
        rw [(r 60 0 (by decide) (by decide)).1]
      · show gl S3 60 0 26 = _
        rw [(r 60 0 (by decide) (by decide)).2.1]
      · show gl S3 60 0 27 = _
        rw [(r 60 0 (by decide) (by decide)).2.1]
      · have R := fun k x (h1 : k ≠ 22) (h2 : k ≠ 25) => (r k x h1 h2).1
        have lx := lags_next (T := gi S 61 0) (T' := upd (upd (upd (upd (gi S3 61 0) (60 + 3 * ri) a1) (60 + 3 * ri + 1) a2) (60 + 3 * ri + 2) v) 4 (Int32.ofNat (ri + 1))) (ri := ri) (x := a1) (y := a2) (z := v) (fun i hi => nw (60 + i) (by omega) (by omega)) (by rw [upd_ne (by omega), upd_ne (by omega), upd_ne (by omega), upd_eq]) (by rw [upd_ne (by omega), upd_ne (by omega), upd_eq]) (by rw [upd_ne (by omega), upd_eq])
        refine ⟨N, D, hh, lv, ri + 1, to, ch, ⟨⟨(nw 0 (by omega) (by omega)).trans c1.1.1, c1.1.2⟩, ⟨(nw 1 (by omega) (by omega)).trans c1.2.1.1, c1.2.1.2⟩, ⟨(nw 2 (by omega) (by omega)).trans c1.2.2.1.1, c1.2.2.1.2⟩, ⟨(nw 3 (by omega) (by omega)).trans c1.2.2.2.1.1, c1.2.2.2.1.2⟩, ⟨rfl, by omega⟩, ⟨(nw 5 (by omega) (by omega)).trans c1.2.2.2.2.2.1.1, c1.2.2.2.2.2.1.2⟩, ⟨(nw 6 (by omega) (by omega)).trans c1.2.2.2.2.2.2.1, c1.2.2.2.2.2.2.2⟩⟩, ?_, ?_, ?_, ?_, ?_, ?_, ?_, ?_, ?_, ?_, ?_, ?_, ?_, ?_⟩
        · obtain ⟨d0, d1, d2, d3, d4, d5, d6, d7, d8, d9, d10⟩ := c2
          exact ⟨(congrFun (R 2 0 (by decide) (by decide)) 0).trans d0, (congrFun (R 9 0 (by decide) (by decide)) 0).trans d1, (congrFun (R 14 (2 * 0) (by decide) (by decide)) 3).trans d2, (congrFun (R 2 0 (by decide) (by decide)) 14).trans d3, rfl, (congrFun (R 14 (2 * 0 + 1) (by decide) (by decide)) 3).trans d5, (congrFun (R 17 0 (by decide) (by decide)) 3).trans d6, (congrFun (R 14 (2 * 0) (by decide) (by decide)) 0).trans d7, (congrFun (R 14 (2 * 0 + 1) (by decide) (by decide)) 0).trans d8, ((r 15 (2 * 0) (by decide) (by decide)).2.2.2).trans d9, ((r 15 (2 * 0 + 1) (by decide) (by decide)).2.2.2).trans d10⟩
        · show Cst N hh (gi S3 3 0) (gi S3 4 0) (gi S3 5 0) _
          rw [R 3 0 (by decide) (by decide), R 4 0 (by decide) (by decide), R 5 0 (by decide) (by decide)]; exact c3.cg b0 (fun i hi => nw i (by omega) (by omega))
        · show Csu (gl S3 6 0) (gl S3 7 0) (gl S3 2 0 6) (gl S3 63 0)
          rw [(r 6 0 (by decide) (by decide)).2.1, (r 7 0 (by decide) (by decide)).2.1, (r 2 0 (by decide) (by decide)).2.1, (r 63 0 (by decide) (by decide)).2.1]; exact c4
        · show Cdr N D (gi S3 10 0) (gi S3 11 0) (gi S3 12 0) (gi S3 13 0) _
          rw [R 10 0 (by decide) (by decide), R 11 0 (by decide) (by decide), R 12 0 (by decide) (by decide), R 13 0 (by decide) (by decide)]; exact c5.cg c1.2.1.2 (fun i hi => nw i (by omega) (by omega))
        · show Chr N hh (gi S3 15 (2 * 0)) (gi S3 16 (2 * 0)) _
          rw [R 15 (2 * 0) (by decide) (by decide), R 16 (2 * 0) (by decide) (by decide)]; exact c6.cg b0 (fun i hi => nw i (by omega) (by omega))
        · show Cto N to (gi S3 15 (2 * 0 + 1)) (gi S3 16 (2 * 0 + 1)) _
          rw [R 15 (2 * 0 + 1) (by decide) (by decide), R 16 (2 * 0 + 1) (by decide) (by decide)]; exact c7.cg b0 c1.2.2.2.2.2.1.2 (fun i hi => nw i (by omega) (by omega))
        · show Cch N hh ch (gi S3 18 0) (gi S3 19 0) (gi S3 20 0) _
          rw [R 18 0 (by decide) (by decide), R 19 0 (by decide) (by decide), R 20 0 (by decide) (by decide)]; exact c8.cg c1.2.2.2.2.2.2.2 (fun i hi => nw i (by omega) (by omega))
        · show Clv lv (gi S3 21 0) _
          rw [R 21 0 (by decide) (by decide)]; exact c9.cg c1.2.2.2.1.2 (fun i hi => nw i (by omega) (by omega))
        · show Cri (ri + 1) (gi S3 22 0 2) (gi S3 25 0) (upd (upd (upd (upd (gi S3 61 0) (60 + 3 * ri) a1) (60 + 3 * ri + 1) a2) (60 + 3 * ri + 2) v) 4 (Int32.ofNat (ri + 1)))
          unfold Cri
          rw [lx]
          refine ⟨L3.2.2.1, L3.2.2.2, fun y hy => ?_⟩
          have z20 : ∀ w : Int32, 0 ≤ w ∧ w ≤ 20 → Lt 21 w := fun w hw => by
            obtain ⟨d, hd, ed⟩ := zWle (n := 20) (by omega) hw
            exact ⟨d, by omega, ed⟩
          have zo : ∀ w : Int32, (w = -1 ∨ (0 ≤ w ∧ w ≤ 20)) → ∀ y ∈ one w, Lt 21 y := fun w hw y hy => by
            unfold one at hy
            by_cases e : w = -1
            · rw [if_pos e] at hy; exact absurd hy (List.not_mem_nil)
            · rw [if_neg e, List.mem_singleton] at hy
              rw [hy]; exact z20 w (hw.resolve_left e)
          rcases List.mem_append.mp hy with hy | hy
          · rcases List.mem_append.mp hy with hy | hy
            · rcases List.mem_append.mp hy with hy | hy
              · exact c10.2.2 y hy
              · exact zo a1 (Or.inr h1) y hy
            · exact zo a2 h2 y hy
          · exact zo v h3 y hy
        · show Cwe (gi S3 24 (2 * 0)) (gi S3 24 (2 * 0 + 1)) _
          rw [R 24 (2 * 0) (by decide) (by decide), R 24 (2 * 0 + 1) (by decide) (by decide)]; exact c11.cg (fun i hi => nw i (by omega) (by omega))
        · show Cla (gr S3 2 0 8) (gi S3 35) _
          rw [(r 2 0 (by decide) (by decide)).2.2.1, show gi S3 35 = gi S 35 from funext fun y => R 35 y (by decide) (by decide)]; exact c12.cg (fun i hi => nw i (by omega) (by omega))
        · show Cru N (gr S3 8 0) _ _
          rw [(r 8 0 (by decide) (by decide)).2.2.1]
          refine Cru.st (S := S) (fun k x hk => ⟨?_, ?_⟩) (c13.cg b0 (fun i hi => nw i (by omega) (by omega)))
          · rcases hk with rfl | rfl
            · exact R 33 x (by decide) (by decide)
            · exact R 34 x (by decide) (by decide)
          · rcases hk with rfl | rfl
            · exact (r 33 x (by decide) (by decide)).2.2.2
            · exact (r 34 x (by decide) (by decide)).2.2.2
        · show ∀ r9, gr S3 2 0 8 = some r9 → r9 ≤ t
          rw [(r 2 0 (by decide) (by decide)).2.2.1]; exact c14
        · show ∀ s r9, gr S3 8 0 s = some r9 → r9 ≤ t
          rw [(r 8 0 (by decide) (by decide)).2.2.1]; exact c15
  exact two _ rfl
