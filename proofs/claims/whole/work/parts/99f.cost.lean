-- CASE cost
theorem pc_2 {t : Nat} {S : St} {a1 a2 a3 a4 a5 : Int32} (h : Inv t S) : Ok (fc_2 (t + 1) a1 a2 a3 a4 a5 S) (Inv (t + 1)) := by
  unfold fc_2 f_L_cost f_X11_cost
  refine tw_i (S := S) ?_
  obtain ⟨⟨N, D, hh, lv, ri, to, ch, c1, c2, c3, c4, c5, c6, c7, c8, c9, c10, c11, c12, c13, c14, c15⟩, -⟩ := id h
  have b0 := c1.1.2
  have n0 := c1.1.1
  have n2 := c1.2.2.1.1
  have b2 := c1.2.2.1.2
  have n6 := c1.2.2.2.2.2.2.1
  have b6 := c1.2.2.2.2.2.2.2
  obtain ⟨d0, d1, d2, d3, d4, d5, d6, d7, d8, d9, d10⟩ := id c2
  by_cases hs : a1 < 0 ∨ ¬ a1 < Int32.ofNat N
  · exact Ok.xl (n_st d0 hs) (Tw.l (cd := 1) rfl ⟨by decide, Ok.v (Ok.oe (m_stn (S := si S 60 0 5 0) n0 b0 hs) (Ok.bt rfl (Ok.o2e rfl (Ok.sm ⟨rfl, pf_bad h.thr⟩))))⟩)
  obtain ⟨a, ha, rfl⟩ := or_st b0 hs
  refine Ok.xr (y_st d0 b0 ha) ?_
  by_cases hp : 0 ≤ a2 ∧ a2 ≤ 99
  case neg => exact Ok.xl (n_pr hp) (Tw.l (cd := 2) rfl ⟨by decide, Ok.v (Ok.oe (m_sty (S := si S 60 0 5 0) n0 b0 ha) (Ok.bf (by decide) (Ok.oe (m_wn (lo := 0) (hi := 99) (by decide) (by decide) hp) (Ok.bt rfl (Ok.o2e rfl (Ok.sm ⟨rfl, pf_bad h.thr⟩))))))⟩)
  refine Ok.xr (y_pr hp) (Ok.c (ib (by omega) (by omega)) (Ok.ve (x := gi S 61 0 (8 + a)) (by rw [zN (by omega)]; exact (c3 a ha).1) (Ok.v ?_)))
  have za : nn (Int32.ofNat a) = a := zN (by omega)
  have fin : ∀ (S1 : St) (T2 : Nat → Int32) (c : Nat) (v : Int64), c ≤ 10 → Fr Wc S S1 → (∀ j, j ≠ 3 → gi S1 17 0 j = gi S 17 0 j) → gi S1 17 0 3 = Int32.ofNat c → (∀ i, i < 3149 → i ≠ 6 → i ≠ 8 + a → T2 i = gi S 61 0 i) → T2 (8 + a) = a2 → T2 6 = Int32.ofNat c → Cch N hh c (gi S1 18 0) (gi S1 19 0) (gi S1 20 0) T2 → Inv (t + 1) (ai (si (sl (si S1 3 0 a a2) 81 0 (nn 0) v) 60 0 5 0) 61 0 T2) := by
    intro S1 T2 c v hc f6 g17 g173 nw na n6' cc
    have r : ∀ k x, ¬ Wc k x → gi S1 k x = gi S k x ∧ gl S1 k x = gl S k x ∧ gr S1 k x = gr S k x ∧ gn S1 k x = gn S k x := fun k x hn => f6 k x hn
    refine Inv.t (Nat.le_succ t) (h.now (S' := ai (si (sl (si S1 3 0 a a2) 81 0 (nn 0) v) 60 0 5 0) 61 0 T2) ?_ ?_ ?_ ?_ ?_ ?_ ?_)
    · refine (f6.mono (fun k x hw => ?_)).tr ((Fr.si ?_).tr ((Fr.sl ?_).tr ((Fr.si ?_).tr (Fr.ai (Or.inr (Or.inl ⟨rfl, rfl⟩))))))
      · unfold Wc at hw
        exact Or.inr (Or.inr (Or.inr (Or.inl ⟨by omega, hw.2⟩)))
      · exact Or.inr (Or.inr (Or.inr (Or.inl ⟨by omega, rfl⟩)))
      · exact Or.inl (Or.inl (by unfold Scr; omega))
      · exact Or.inl (Or.inr ⟨rfl, rfl⟩)
    · show gi S1 60 0 9 = _
      rw [(r 60 0 (fun z => by unfold Wc at z; omega)).1]
    · show gi S1 60 0 18 = _
      rw [(r 60 0 (fun z => by unfold Wc at z; omega)).1]
    · show gi S1 60 0 19 = _
      rw [(r 60 0 (fun z => by unfold Wc at z; omega)).1]
    · show gl S1 60 0 26 = _
      rw [(r 60 0 (fun z => by unfold Wc at z; omega)).2.1]
    · show gl S1 60 0 27 = _
      rw [(r 60 0 (fun z => by unfold Wc at z; omega)).2.1]
    · refine ⟨N, D, hh, lv, ri, to, c, ⟨⟨(nw 0 (by omega) (by omega) (by omega)).trans c1.1.1, c1.1.2⟩, ⟨(nw 1 (by omega) (by omega) (by omega)).trans c1.2.1.1, c1.2.1.2⟩, ⟨(nw 2 (by omega) (by omega) (by omega)).trans c1.2.2.1.1, c1.2.2.1.2⟩, ⟨(nw 3 (by omega) (by omega) (by omega)).trans c1.2.2.2.1.1, c1.2.2.2.1.2⟩, ⟨(nw 4 (by omega) (by omega) (by omega)).trans c1.2.2.2.2.1.1, c1.2.2.2.2.1.2⟩, ⟨(nw 5 (by omega) (by omega) (by omega)).trans c1.2.2.2.2.2.1.1, c1.2.2.2.2.2.1.2⟩, ⟨n6', hc⟩⟩, ?_, ?_, ?_, ?_, ?_, ?_, cc, ?_, ?_, ?_, ?_, ?_, ?_, ?_⟩
      · exact ⟨(congrFun (r 2 0 (fun z => by unfold Wc at z; omega)).1 0).trans d0, (congrFun (r 9 0 (fun z => by unfold Wc at z; omega)).1 0).trans d1, (congrFun (r 14 0 (fun z => by unfold Wc at z; omega)).1 3).trans d2, (congrFun (r 2 0 (fun z => by unfold Wc at z; omega)).1 14).trans d3, (congrFun (r 22 0 (fun z => by unfold Wc at z; omega)).1 3).trans d4, (congrFun (r 14 1 (fun z => by unfold Wc at z; omega)).1 3).trans d5, g173, (congrFun (r 14 0 (fun z => by unfold Wc at z; omega)).1 0).trans d7, (congrFun (r 14 1 (fun z => by unfold Wc at z; omega)).1 0).trans d8, (r 15 0 (fun z => by unfold Wc at z; omega)).2.2.2.trans d9, (r 15 1 (fun z => by unfold Wc at z; omega)).2.2.2.trans d10⟩
      · show Cst N hh (upd (gi S1 3 0) a a2) (gi S1 4 0) (gi S1 5 0) T2
        rw [(r 3 0 (fun z => by unfold Wc at z; omega)).1, (r 4 0 (fun z => by unfold Wc at z; omega)).1, (r 5 0 (fun z => by unfold Wc at z; omega)).1]
        intro s hs9
        obtain ⟨q1, q2, q3, q4, q5, q6⟩ := c3 s hs9
        rw [nw (16 + s) (by omega) (by omega) (by omega), nw (24 + s) (by omega) (by omega) (by omega)]
        by_cases e : s = a
        · subst e
          rw [upd_eq, na]
          obtain ⟨d, hd, ed⟩ := zWle (n := 99) (by omega) hp
          exact ⟨rfl, ⟨d, hd, ed⟩, q3, q4, q5, q6⟩
        · rw [upd_ne e, nw (8 + s) (by omega) (by omega) (by omega)]; exact ⟨q1, q2, q3, q4, q5, q6⟩
      · show Csu (gl S1 6 0) (gl S1 7 0) (gl S1 2 0 6) (gl S1 63 0)
        rw [(r 6 0 (fun z => by unfold Wc at z; omega)).2.1, (r 7 0 (fun z => by unfold Wc at z; omega)).2.1, (r 2 0 (fun z => by unfold Wc at z; omega)).2.1, (r 63 0 (fun z => by unfold Wc at z; omega)).2.1]; exact c4
      · show Cdr N D (gi S1 10 0) (gi S1 11 0) (gi S1 12 0) (gi S1 13 0) T2
        rw [(r 10 0 (fun z => by unfold Wc at z; omega)).1, (r 11 0 (fun z => by unfold Wc at z; omega)).1, (r 12 0 (fun z => by unfold Wc at z; omega)).1, (r 13 0 (fun z => by unfold Wc at z; omega)).1]; exact c5.cg c1.2.1.2 (fun i hi => nw i (by omega) (by omega) (by omega))
      · show Chr N hh (gi S1 15 0) (gi S1 16 0) T2
        rw [(r 15 0 (fun z => by unfold Wc at z; omega)).1, (r 16 0 (fun z => by unfold Wc at z; omega)).1]; exact c6.cg b0 (fun i hi => nw i (by omega) (by omega) (by omega))
      · show Cto N to (gi S1 15 1) (gi S1 16 1) T2
        rw [(r 15 1 (fun z => by unfold Wc at z; omega)).1, (r 16 1 (fun z => by unfold Wc at z; omega)).1]; exact c7.cg b0 c1.2.2.2.2.2.1.2 (fun i hi => nw i (by omega) (by omega) (by omega))
      · show Clv lv (gi S1 21 0) T2
        rw [(r 21 0 (fun z => by unfold Wc at z; omega)).1]; exact c9.cg c1.2.2.2.1.2 (fun i hi => nw i (by omega) (by omega) (by omega))
      · show Cri ri (gi S1 22 0 2) (gi S1 25 0) T2
        rw [(r 22 0 (fun z => by unfold Wc at z; omega)).1, (r 25 0 (fun z => by unfold Wc at z; omega)).1]; exact c10.cg c1.2.2.2.2.1.2 (fun i hi => nw i (by omega) (by omega) (by omega))
      · show Cwe (gi S1 24 0) (gi S1 24 1) T2
        rw [(r 24 0 (fun z => by unfold Wc at z; omega)).1, (r 24 1 (fun z => by unfold Wc at z; omega)).1]; exact c11.cg (fun i hi => nw i (by omega) (by omega) (by omega))
      · show Cla (gr S1 2 0 8) (gi S1 35) T2
        rw [(r 2 0 (fun z => by unfold Wc at z; omega)).2.2.1, show gi S1 35 = gi S 35 from funext fun y => (r 35 y (fun z => by unfold Wc at z; omega)).1]; exact c12.cg (fun i hi => nw i (by omega) (by omega) (by omega))
      · show Cru N (gr S1 8 0) _ _
        rw [(r 8 0 (fun z => by unfold Wc at z; omega)).2.2.1]
        refine Cru.st (S := S) (fun k x hk => ⟨?_, ?_⟩) (c13.cg b0 (fun i hi => nw i (by omega) (by omega) (by omega)))
        · rcases hk with rfl | rfl
          · exact (r 33 x (fun z => by unfold Wc at z; omega)).1
          · exact (r 34 x (fun z => by unfold Wc at z; omega)).1
        · rcases hk with rfl | rfl
          · exact (r 33 x (fun z => by unfold Wc at z; omega)).2.2.2
          · exact (r 34 x (fun z => by unfold Wc at z; omega)).2.2.2
      · show ∀ r9, gr S1 2 0 8 = some r9 → r9 ≤ t
        rw [(r 2 0 (fun z => by unfold Wc at z; omega)).2.2.1]; exact c14
      · show ∀ s r9, gr S1 8 0 s = some r9 → r9 ≤ t
        rw [(r 8 0 (fun z => by unfold Wc at z; omega)).2.2.1]; exact c15
  have md : ∀ (Z : St) (Q : Int32 × St → Prop), gi Z 61 0 = gi S 61 0 → Ok (br (a2 = gi S 61 0 (8 + a)) (some (gi S 61 0 (8 + a), si (si Z 60 0 5 0) 61 0 (8 + a) a2)) (on (f_X12_keepsChange 0 (Int32.ofNat a) (a2 - gi S 61 0 (8 + a)) (si (si Z 60 0 5 0) 61 0 (8 + a) a2)) (fun S_16 => some (gi S 61 0 (8 + a), S_16)))) Q → Ok (f_X12_cost 0 (Int32.ofNat a) a2 Z) Q := by
    intro Z Q e hq
    refine Ok.v (Ok.oe (m_sty (S := si Z 60 0 5 0) (by show gi Z 61 0 0 = _; rw [e]; exact n0) b0 ha) (Ok.bf (by decide) (Ok.oe (m_wy (lo := 0) (hi := 99) (by decide) (by decide) hp) (Ok.bf (by decide) (Ok.c (ibA (by omega) (by omega)) ?_)))))
    rw [nA (by omega)]
    refine Ok.ve (x := gi S 61 0 (8 + a)) (by show gi Z 61 0 (8 + a) = _; rw [e]) (Ok.c (ibA (by omega) (by omega)) (Ok.v (Ok.v hq)))
  by_cases e : a2 = gi S 61 0 (8 + a)
  · refine Ok.bt e (Ok.c (ib (by omega) (by omega)) (Ok.v (Ok.sm (Tw.r ?_))))
    rw [za]
    refine md _ _ rfl (Ok.bt e (Ok.sm ⟨rfl, rfl, rfl, ?_⟩))
    refine fin S (upd (gi S 61 0) (8 + a) a2) ch _ b6 Fr.rf (fun _ _ => rfl) d6 (fun i _ _ h9 => upd_ne h9) upd_eq (by rw [upd_ne (by omega)]; exact n6) (c8.cg b6 (fun i hi => upd_ne (by omega)))
  · obtain ⟨S1, s1, p1, p2, p3, p4, p5, p6, p7⟩ := co_add (a := a) (h := hh) (d := a2 - gi S 61 0 (8 + a)) d6 b6
    refine Ok.bf e ?_
    rw [d2]
    refine Ok.oe s1 (Ok.c (ib (by omega) (by omega)) (Ok.v (Ok.sm (Tw.r ?_))))
    rw [za]
    have e61 : gi S1 61 0 = gi S 61 0 := (p1 61 0 (fun z => by unfold Wc at z; omega)).1
    refine md _ _ e61 (Ok.bf e ?_)
    obtain ⟨T2, t1, u1, u2, u3, u4, u5, u6⟩ := co_keep (a := a) (d := a2 - gi S 61 0 (8 + a)) (Z := si (si (sl (si S1 3 0 a a2) 81 0 (nn 0) (gi S 61 0 (8 + a)).toInt64) 60 0 5 0) 61 0 (8 + a) a2) (ch := ch) (by
      show upd (gi S1 61 0) (8 + a) a2 6 = _
      rw [upd_ne (by omega), e61]; exact n6) b6
    have eT : gi (si (si (sl (si S1 3 0 a a2) 81 0 (nn 0) (gi S 61 0 (8 + a)).toInt64) 60 0 5 0) 61 0 (8 + a) a2) 61 0 = upd (gi S 61 0) (8 + a) a2 := by
      show upd (gi S1 61 0) (8 + a) a2 = _
      rw [e61]
    rw [eT] at u1 u3 u5
    refine Ok.oe t1 (Ok.sm ⟨rfl, rfl, rfl, ?_⟩)
    have e9 : ai (si (si (sl (si S1 3 0 a a2) 81 0 (nn 0) (gi S 61 0 (8 + a)).toInt64) 60 0 5 0) 61 0 (8 + a) a2) 61 0 T2 = ai (si (sl (si S1 3 0 a a2) 81 0 (nn 0) (gi S 61 0 (8 + a)).toInt64) 60 0 5 0) 61 0 T2 := by
      show ai (ai (si (sl (si S1 3 0 a a2) 81 0 (nn 0) (gi S 61 0 (8 + a)).toInt64) 60 0 5 0) 61 0 _) 61 0 T2 = _
      rw [ai_ai]
    show Inv (t + 1) (ai (si (si (sl (si S1 3 0 a a2) 81 0 (nn 0) (gi S 61 0 (8 + a)).toInt64) 60 0 5 0) 61 0 (8 + a) a2) 61 0 T2)
    rw [e9]
    obtain ⟨c, sh, hc9, hcs, ec, es⟩ : ∃ c sh, c < 10 ∧ c + sh = ch ∧ c = (if ch = 10 then 9 else ch) ∧ sh = (if ch = 10 then 1 else 0) := by
      by_cases q : ch = 10
      · exact ⟨9, 1, by omega, by omega, by rw [if_pos q], by rw [if_pos q]⟩
      · exact ⟨ch, 0, by omega, by omega, by rw [if_neg q], by rw [if_neg q]⟩
    rw [← ec] at p3 p4 p5 p6 p7 u2 u3 u4 u5 u6
    rw [← es] at p4 u3
    refine fin S1 T2 (c + 1) _ (by omega) p1 p2 p3 (fun i h1 h2 h3 => by rw [u1 i h1 h2, upd_ne h3]) (by rw [u1 (8 + a) (by omega) (by omega), upd_eq]) u2 (fun k hk => ?_)
    by_cases ek : k = c
    · subst ek
      rw [p5, p6, p7, u4, u5, u6, upd_ne (by omega), n2]
      obtain ⟨p8, hp8, ep8⟩ := zWle (n := 99) (by omega) hp
      obtain ⟨q8, hq8, eq8⟩ := (c3 a ha).2.1
      have e8 : (a2 - gi S 61 0 (8 + a)).toInt = (p8 : Int) - q8 := by
        rw [ep8, eq8, Int32.toInt_sub, zI (by omega), zI (by omega)]
        show ((p8 : Int) - q8).bmod (2 ^ 32) = _
        rw [Int.bmod_def]; omega
      exact ⟨rfl, rfl, rfl, ⟨a, ha, rfl⟩, ⟨hh, by omega, rfl⟩, by rw [e8]; omega, by rw [e8]; omega⟩
    · obtain ⟨o1, o2, o3⟩ := p4 k (by omega)
      obtain ⟨v1, v2, v3⟩ := u3 k (by omega)
      rw [o1, o2, o3, v1, v2, v3, upd_ne (by omega), upd_ne (by omega), upd_ne (by omega)]
      exact c8 (k + sh) (by omega)
