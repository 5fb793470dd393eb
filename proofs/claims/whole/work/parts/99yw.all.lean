section
-- ANY CALL, ANY RUN OF CALLS
theorem pure_step {t : Nat} {S : St} {a0 a1 a2 a3 a4 a5 : Int32} (h : Inv t S) : Ok (stepf (t + 1) a0 a1 a2 a3 a4 a5 S) (Inv (t + 1)) := by
  unfold stepf
  rw [bvN]
  refine Ok.b (fun _ => pc_0 h) (fun _ => ?_)
  refine Ok.b (fun _ => pc_1 h) (fun _ => ?_)
  refine Ok.b (fun _ => pc_2 h) (fun _ => ?_)
  refine Ok.b (fun _ => pc_3 h) (fun _ => ?_)
  refine Ok.b (fun _ => pc_4 h) (fun _ => ?_)
  refine Ok.b (fun _ => pc_5 h) (fun _ => ?_)
  refine Ok.b (fun _ => pc_6 h) (fun _ => ?_)
  refine Ok.b (fun _ => pc_7 h) (fun _ => ?_)
  refine Ok.b (fun _ => pc_8 h) (fun _ => ?_)
  refine Ok.b (fun _ => pc_9 h) (fun _ => ?_)
  refine Ok.b (fun _ => pc_10 h) (fun _ => ?_)
  refine Ok.b (fun _ => pc_11 h) (fun _ => ?_)
  refine Ok.b (fun _ => pc_12 h) (fun _ => ?_)
  refine Ok.b (fun _ => pc_13 h) (fun _ => ?_)
  refine Ok.b (fun _ => pc_14 h) (fun _ => ?_)
  refine Ok.b (fun _ => pc_15 h) (fun _ => ?_)
  refine Ok.b (fun _ => pc_16 h) (fun _ => ?_)
  refine Ok.b (fun _ => pc_17 h) (fun _ => ?_)
  refine Ok.b (fun _ => pc_18 h) (fun _ => ?_)
  refine Ok.b (fun _ => pc_19 h) (fun _ => ?_)
  refine Ok.b (fun _ => pc_20 h) (fun _ => ?_)
  refine Ok.b (fun _ => pc_21 h) (fun _ => ?_)
  refine Ok.b (fun _ => pc_22 h) (fun _ => ?_)
  refine Ok.b (fun _ => pc_23 h) (fun _ => ?_)
  refine Ok.b (fun _ => pc_24 h) (fun _ => ?_)
  refine Ok.b (fun _ => pc_25 h) (fun _ => ?_)
  refine Ok.b (fun _ => pc_26 h) (fun _ => ?_)
  refine Ok.b (fun _ => pc_27 h) (fun _ => ?_)
  refine Ok.b (fun _ => pc_28 h) (fun _ => ?_)
  refine Ok.b (fun _ => pc_29 h) (fun _ => ?_)
  refine Ok.b (fun _ => pc_30 h) (fun _ => ?_)
  refine Ok.b (fun _ => pc_31 h) (fun _ => ?_)
  refine Ok.b (fun _ => pc_32 h) (fun _ => ?_)
  refine Ok.b (fun _ => pc_33 h) (fun _ => ?_)
  refine Ok.b (fun _ => pc_34 h) (fun _ => ?_)
  refine Ok.b (fun _ => pc_35 h) (fun _ => ?_)
  refine Ok.b (fun _ => pc_36 h) (fun _ => ?_)
  refine Ok.b (fun _ => pc_37 h) (fun _ => ?_)
  refine Ok.b (fun _ => pc_38 h) (fun _ => ?_)
  refine Ok.b (fun _ => pc_39 h) (fun _ => ?_)
  exact Ok.sm (h.t (Nat.le_succ t))
theorem pure_law {xs : Nat → Int32} : ∀ (n t : Nat) (S : St), Inv t S → ∃ S', lawf xs n t S = some S' := by
  intro n
  induction n with
  | zero => intro t S _; exact ⟨S, rfl⟩
  | succ n ih =>
    intro t S h
    obtain ⟨S1, e1, h1⟩ := pure_step (a0 := xs (6 * t)) (a1 := xs (6 * t + 1)) (a2 := xs (6 * t + 2)) (a3 := xs (6 * t + 3)) (a4 := xs (6 * t + 4)) (a5 := xs (6 * t + 5)) h
    obtain ⟨S', e2⟩ := ih (t + 1) S1 h1
    refine ⟨S', ?_⟩
    rw [lawf, e1, onS, e2]
end
