-- A CELL's content under another book of addresses
section CG
variable {D : va_G} {cs : Nat → ClassId} {α α' : Nat → Nat → Nat} {Lv : Nat → Nat → Prop} {S : St} {H : Heap} {q : Nat}
theorem om_cg {v : Option Nat} {f f' : Nat → Nat} (h : ∀ r, v = some r → f' r = f r) : v.map f' = v.map f := by
  cases v with
  | none => rfl
  | some r => show some (f' r) = some (f r); rw [h r rfl]
theorem arrV_cg {cA : ClassId} {n : Nat} {f f' : Nat → Value} (h : ∀ j, j < n → f' j = f j) : arrV cA n f' = arrV cA n f := by
  unfold arrV
  congr 1
  exact congrArg (Array.ofFn (n := n)) (funext fun j => h j.val j.isLt)
theorem at_arr {cA : ClassId} {n : Nat} {f f' : Nat → Option Nat} (h : ∀ j, j < n → f' j = f j) (hat : va_at D vwCl (q, .inl (cA, n, .inr (.inr (.inr (.inr f))))) H) : va_at D vwCl (q, .inl (cA, n, .inr (.inr (.inr (.inr f'))))) H := by
  have e : vp_cell cA (n, .inr (.inr (.inr (.inr f')))) = vp_cell cA (n, .inr (.inr (.inr (.inr f)))) := by
    rw [vp_cell_q, vp_cell_q]
    exact arrV_cg (fun j hj => by rw [h j hj])
  show H[q]? = some (vp_cell _ _)
  rw [e]
  exact hat
theorem at_eq {x x' : va_E} (h : x' = x) (hat : va_at D vwCl (q, x) H) : va_at D vwCl (q, x') H := by rw [h]; exact hat
theorem cg_0 (hcl : Cl Lv) (hrv : Rv Lv S) (ha : ∀ k g, Lv k g → α' k g = α k g)  {g : Nat} (hv : ∀ j, j < 100 → 100 ≤ 0 → α' (1000 + 100 * (0 - 100) + j) g = α (1000 + 100 * (0 - 100) + j) g) (hl : Lv 0 g) (hat : va_at D vwCl (q, ce cs α S 0 g) H) : va_at D vwCl (q, ce cs α' S 0 g) H := at_eq (by
  show (.inr (11, [.ref (α' 2 (0)), .ref (α' 1 (0)), .ref (α' 28 (0)), .ref (α' 49 (0)), .ref (α' 36 (0)), .ref (α' 44 (0)), .long (gl S 0 g 6), .long (gl S 0 g 7)]) : va_E) = .inr (11, [.ref (α 2 (0)), .ref (α 1 (0)), .ref (α 28 (0)), .ref (α 49 (0)), .ref (α 36 (0)), .ref (α 44 (0)), .long (gl S 0 g 6), .long (gl S 0 g 7)])
  rw [ha 2 (0) (cl_0_now hcl hl), ha 1 (0) (cl_0_images hcl hl), ha 28 (0) (cl_0_reader hcl hl), ha 49 (0) (cl_0_trays hcl hl), ha 36 (0) (cl_0_game hcl hl), ha 44 (0) (cl_0_learners hcl hl)]) hat
theorem cg_1 (hcl : Cl Lv) (hrv : Rv Lv S) (ha : ∀ k g, Lv k g → α' k g = α k g)  {g : Nat} (hv : ∀ j, j < 100 → 100 ≤ 1 → α' (1000 + 100 * (1 - 100) + j) g = α (1000 + 100 * (1 - 100) + j) g) (hl : Lv 1 g) (hat : va_at D vwCl (q, ce cs α S 1 g) H) : va_at D vwCl (q, ce cs α' S 1 g) H := at_arr (fun j _ => om_cg (fun r hr => ha _ _ (hrv.1 g j r hl hr))) hat
theorem cg_2 (hcl : Cl Lv) (hrv : Rv Lv S) (ha : ∀ k g, Lv k g → α' k g = α k g)  {g : Nat} (hv : ∀ j, j < 100 → 100 ≤ 2 → α' (1000 + 100 * (2 - 100) + j) g = α (1000 + 100 * (2 - 100) + j) g) (hl : Lv 2 g) (hat : va_at D vwCl (q, ce cs α S 2 g) H) : va_at D vwCl (q, ce cs α' S 2 g) H := at_eq (by
  show (.inr (2, [.int (gi S 2 g 0), .ref (α' 3 (g)), .ref (α' 4 (g)), .ref (α' 5 (g)), .ref (α' 6 (g)), .ref (α' 7 (g)), .long (gl S 2 g 6), .ref (α' 8 (g)), va_rf ((gr S 2 g 8).map (α' 35)), .ref (α' 9 (g)), .ref (α' 14 (2 * g)), .ref (α' 14 (2 * g + 1)), .ref (α' 17 (g)), .ref (α' 21 (g)), .int (gi S 2 g 14), .ref (α' 22 (g)), .ref (α' 26 (g + 1)), .ref (α' 27 (g))]) : va_E) = .inr (2, [.int (gi S 2 g 0), .ref (α 3 (g)), .ref (α 4 (g)), .ref (α 5 (g)), .ref (α 6 (g)), .ref (α 7 (g)), .long (gl S 2 g 6), .ref (α 8 (g)), va_rf ((gr S 2 g 8).map (α 35)), .ref (α 9 (g)), .ref (α 14 (2 * g)), .ref (α 14 (2 * g + 1)), .ref (α 17 (g)), .ref (α 21 (g)), .int (gi S 2 g 14), .ref (α 22 (g)), .ref (α 26 (g + 1)), .ref (α 27 (g))])
  rw [ha 3 (g) (cl_2_costs hcl hl), ha 4 (g) (cl_2_lates hcl hl), ha 5 (g) (cl_2_changedIn hcl hl), ha 6 (g) (cl_2_profit hcl hl), ha 7 (g) (cl_2_sold hcl hl), ha 8 (g) (cl_2_rules hcl hl), om_cg (fun r hr => ha _ _ (hrv.2.1 g 8 r hl hr)), ha 9 (g) (cl_2_drivers hcl hl), ha 14 (2 * g) (cl_2_hours hcl hl), ha 14 (2 * g + 1) (cl_2_told hcl hl), ha 17 (g) (cl_2_changes hcl hl), ha 21 (g) (cl_2_levels hcl hl), ha 22 (g) (cl_2_stories hcl hl), ha 26 (g + 1) (cl_2_row hcl hl), ha 27 (g) (cl_2_seen hcl hl)]) hat
theorem cg_3 (hcl : Cl Lv) (hrv : Rv Lv S) (ha : ∀ k g, Lv k g → α' k g = α k g)  {g : Nat} (hv : ∀ j, j < 100 → 100 ≤ 3 → α' (1000 + 100 * (3 - 100) + j) g = α (1000 + 100 * (3 - 100) + j) g) (hl : Lv 3 g) (hat : va_at D vwCl (q, ce cs α S 3 g) H) : va_at D vwCl (q, ce cs α' S 3 g) H := hat
theorem cg_4 (hcl : Cl Lv) (hrv : Rv Lv S) (ha : ∀ k g, Lv k g → α' k g = α k g)  {g : Nat} (hv : ∀ j, j < 100 → 100 ≤ 4 → α' (1000 + 100 * (4 - 100) + j) g = α (1000 + 100 * (4 - 100) + j) g) (hl : Lv 4 g) (hat : va_at D vwCl (q, ce cs α S 4 g) H) : va_at D vwCl (q, ce cs α' S 4 g) H := hat
theorem cg_5 (hcl : Cl Lv) (hrv : Rv Lv S) (ha : ∀ k g, Lv k g → α' k g = α k g)  {g : Nat} (hv : ∀ j, j < 100 → 100 ≤ 5 → α' (1000 + 100 * (5 - 100) + j) g = α (1000 + 100 * (5 - 100) + j) g) (hl : Lv 5 g) (hat : va_at D vwCl (q, ce cs α S 5 g) H) : va_at D vwCl (q, ce cs α' S 5 g) H := hat
theorem cg_6 (hcl : Cl Lv) (hrv : Rv Lv S) (ha : ∀ k g, Lv k g → α' k g = α k g)  {g : Nat} (hv : ∀ j, j < 100 → 100 ≤ 6 → α' (1000 + 100 * (6 - 100) + j) g = α (1000 + 100 * (6 - 100) + j) g) (hl : Lv 6 g) (hat : va_at D vwCl (q, ce cs α S 6 g) H) : va_at D vwCl (q, ce cs α' S 6 g) H := hat
theorem cg_7 (hcl : Cl Lv) (hrv : Rv Lv S) (ha : ∀ k g, Lv k g → α' k g = α k g)  {g : Nat} (hv : ∀ j, j < 100 → 100 ≤ 7 → α' (1000 + 100 * (7 - 100) + j) g = α (1000 + 100 * (7 - 100) + j) g) (hl : Lv 7 g) (hat : va_at D vwCl (q, ce cs α S 7 g) H) : va_at D vwCl (q, ce cs α' S 7 g) H := hat
theorem cg_8 (hcl : Cl Lv) (hrv : Rv Lv S) (ha : ∀ k g, Lv k g → α' k g = α k g)  {g : Nat} (hv : ∀ j, j < 100 → 100 ≤ 8 → α' (1000 + 100 * (8 - 100) + j) g = α (1000 + 100 * (8 - 100) + j) g) (hl : Lv 8 g) (hat : va_at D vwCl (q, ce cs α S 8 g) H) : va_at D vwCl (q, ce cs α' S 8 g) H := at_arr (fun j _ => om_cg (fun r hr => ha _ _ (hrv.2.2 g j r hl hr))) hat
theorem cg_9 (hcl : Cl Lv) (hrv : Rv Lv S) (ha : ∀ k g, Lv k g → α' k g = α k g)  {g : Nat} (hv : ∀ j, j < 100 → 100 ≤ 9 → α' (1000 + 100 * (9 - 100) + j) g = α (1000 + 100 * (9 - 100) + j) g) (hl : Lv 9 g) (hat : va_at D vwCl (q, ce cs α S 9 g) H) : va_at D vwCl (q, ce cs α' S 9 g) H := at_eq (by
  show (.inr (3, [.int (gi S 9 g 0), .ref (α' 10 (g)), .ref (α' 11 (g)), .ref (α' 12 (g)), .ref (α' 13 (g))]) : va_E) = .inr (3, [.int (gi S 9 g 0), .ref (α 10 (g)), .ref (α 11 (g)), .ref (α 12 (g)), .ref (α 13 (g))])
  rw [ha 10 (g) (cl_9_many hcl hl), ha 11 (g) (cl_9_habits hcl hl), ha 12 (g) (cl_9_knows hcl hl), ha 13 (g) (cl_9_detours hcl hl)]) hat
theorem cg_10 (hcl : Cl Lv) (hrv : Rv Lv S) (ha : ∀ k g, Lv k g → α' k g = α k g)  {g : Nat} (hv : ∀ j, j < 100 → 100 ≤ 10 → α' (1000 + 100 * (10 - 100) + j) g = α (1000 + 100 * (10 - 100) + j) g) (hl : Lv 10 g) (hat : va_at D vwCl (q, ce cs α S 10 g) H) : va_at D vwCl (q, ce cs α' S 10 g) H := hat
theorem cg_11 (hcl : Cl Lv) (hrv : Rv Lv S) (ha : ∀ k g, Lv k g → α' k g = α k g)  {g : Nat} (hv : ∀ j, j < 100 → 100 ≤ 11 → α' (1000 + 100 * (11 - 100) + j) g = α (1000 + 100 * (11 - 100) + j) g) (hl : Lv 11 g) (hat : va_at D vwCl (q, ce cs α S 11 g) H) : va_at D vwCl (q, ce cs α' S 11 g) H := hat
theorem cg_12 (hcl : Cl Lv) (hrv : Rv Lv S) (ha : ∀ k g, Lv k g → α' k g = α k g)  {g : Nat} (hv : ∀ j, j < 100 → 100 ≤ 12 → α' (1000 + 100 * (12 - 100) + j) g = α (1000 + 100 * (12 - 100) + j) g) (hl : Lv 12 g) (hat : va_at D vwCl (q, ce cs α S 12 g) H) : va_at D vwCl (q, ce cs α' S 12 g) H := hat
theorem cg_13 (hcl : Cl Lv) (hrv : Rv Lv S) (ha : ∀ k g, Lv k g → α' k g = α k g)  {g : Nat} (hv : ∀ j, j < 100 → 100 ≤ 13 → α' (1000 + 100 * (13 - 100) + j) g = α (1000 + 100 * (13 - 100) + j) g) (hl : Lv 13 g) (hat : va_at D vwCl (q, ce cs α S 13 g) H) : va_at D vwCl (q, ce cs α' S 13 g) H := hat
theorem cg_14 (hcl : Cl Lv) (hrv : Rv Lv S) (ha : ∀ k g, Lv k g → α' k g = α k g)  {g : Nat} (hv : ∀ j, j < 100 → 100 ≤ 14 → α' (1000 + 100 * (14 - 100) + j) g = α (1000 + 100 * (14 - 100) + j) g) (hl : Lv 14 g) (hat : va_at D vwCl (q, ce cs α S 14 g) H) : va_at D vwCl (q, ce cs α' S 14 g) H := at_eq (by
  show (.inr (0, [.int (gi S 14 g 0), .ref (α' 15 (g)), .ref (α' 16 (g)), .int (gi S 14 g 3)]) : va_E) = .inr (0, [.int (gi S 14 g 0), .ref (α 15 (g)), .ref (α 16 (g)), .int (gi S 14 g 3)])
  rw [ha 15 (g) (cl_14_prices hcl hl), ha 16 (g) (cl_14_ahead hcl hl)]) hat
theorem cg_15 (hcl : Cl Lv) (hrv : Rv Lv S) (ha : ∀ k g, Lv k g → α' k g = α k g)  {g : Nat} (hv : ∀ j, j < 100 → 100 ≤ 15 → α' (1000 + 100 * (15 - 100) + j) g = α (1000 + 100 * (15 - 100) + j) g) (hl : Lv 15 g) (hat : va_at D vwCl (q, ce cs α S 15 g) H) : va_at D vwCl (q, ce cs α' S 15 g) H := hat
theorem cg_16 (hcl : Cl Lv) (hrv : Rv Lv S) (ha : ∀ k g, Lv k g → α' k g = α k g)  {g : Nat} (hv : ∀ j, j < 100 → 100 ≤ 16 → α' (1000 + 100 * (16 - 100) + j) g = α (1000 + 100 * (16 - 100) + j) g) (hl : Lv 16 g) (hat : va_at D vwCl (q, ce cs α S 16 g) H) : va_at D vwCl (q, ce cs α' S 16 g) H := hat
theorem cg_17 (hcl : Cl Lv) (hrv : Rv Lv S) (ha : ∀ k g, Lv k g → α' k g = α k g)  {g : Nat} (hv : ∀ j, j < 100 → 100 ≤ 17 → α' (1000 + 100 * (17 - 100) + j) g = α (1000 + 100 * (17 - 100) + j) g) (hl : Lv 17 g) (hat : va_at D vwCl (q, ce cs α S 17 g) H) : va_at D vwCl (q, ce cs α' S 17 g) H := at_eq (by
  show (.inr (1, [.ref (α' 18 (g)), .ref (α' 19 (g)), .ref (α' 20 (g)), .int (gi S 17 g 3)]) : va_E) = .inr (1, [.ref (α 18 (g)), .ref (α 19 (g)), .ref (α 20 (g)), .int (gi S 17 g 3)])
  rw [ha 18 (g) (cl_17_station hcl hl), ha 19 (g) (cl_17_hour hcl hl), ha 20 (g) (cl_17_by hcl hl)]) hat
theorem cg_18 (hcl : Cl Lv) (hrv : Rv Lv S) (ha : ∀ k g, Lv k g → α' k g = α k g)  {g : Nat} (hv : ∀ j, j < 100 → 100 ≤ 18 → α' (1000 + 100 * (18 - 100) + j) g = α (1000 + 100 * (18 - 100) + j) g) (hl : Lv 18 g) (hat : va_at D vwCl (q, ce cs α S 18 g) H) : va_at D vwCl (q, ce cs α' S 18 g) H := hat
theorem cg_19 (hcl : Cl Lv) (hrv : Rv Lv S) (ha : ∀ k g, Lv k g → α' k g = α k g)  {g : Nat} (hv : ∀ j, j < 100 → 100 ≤ 19 → α' (1000 + 100 * (19 - 100) + j) g = α (1000 + 100 * (19 - 100) + j) g) (hl : Lv 19 g) (hat : va_at D vwCl (q, ce cs α S 19 g) H) : va_at D vwCl (q, ce cs α' S 19 g) H := hat
theorem cg_20 (hcl : Cl Lv) (hrv : Rv Lv S) (ha : ∀ k g, Lv k g → α' k g = α k g)  {g : Nat} (hv : ∀ j, j < 100 → 100 ≤ 20 → α' (1000 + 100 * (20 - 100) + j) g = α (1000 + 100 * (20 - 100) + j) g) (hl : Lv 20 g) (hat : va_at D vwCl (q, ce cs α S 20 g) H) : va_at D vwCl (q, ce cs α' S 20 g) H := hat
theorem cg_21 (hcl : Cl Lv) (hrv : Rv Lv S) (ha : ∀ k g, Lv k g → α' k g = α k g)  {g : Nat} (hv : ∀ j, j < 100 → 100 ≤ 21 → α' (1000 + 100 * (21 - 100) + j) g = α (1000 + 100 * (21 - 100) + j) g) (hl : Lv 21 g) (hat : va_at D vwCl (q, ce cs α S 21 g) H) : va_at D vwCl (q, ce cs α' S 21 g) H := hat
theorem cg_22 (hcl : Cl Lv) (hrv : Rv Lv S) (ha : ∀ k g, Lv k g → α' k g = α k g)  {g : Nat} (hv : ∀ j, j < 100 → 100 ≤ 22 → α' (1000 + 100 * (22 - 100) + j) g = α (1000 + 100 * (22 - 100) + j) g) (hl : Lv 22 g) (hat : va_at D vwCl (q, ce cs α S 22 g) H) : va_at D vwCl (q, ce cs α' S 22 g) H := at_eq (by
  show (.inr (8, [.ref (α' 23 (g)), .ref (α' 25 (g)), .int (gi S 22 g 2), .int (gi S 22 g 3)]) : va_E) = .inr (8, [.ref (α 23 (g)), .ref (α 25 (g)), .int (gi S 22 g 2), .int (gi S 22 g 3)])
  rw [ha 23 (g) (cl_22_weights hcl hl), ha 25 (g) (cl_22_lags hcl hl)]) hat
theorem cg_23 (hcl : Cl Lv) (hrv : Rv Lv S) (ha : ∀ k g, Lv k g → α' k g = α k g)  {g : Nat} (hv : ∀ j, j < 100 → 100 ≤ 23 → α' (1000 + 100 * (23 - 100) + j) g = α (1000 + 100 * (23 - 100) + j) g) (hl : Lv 23 g) (hat : va_at D vwCl (q, ce cs α S 23 g) H) : va_at D vwCl (q, ce cs α' S 23 g) H := at_arr (fun j hj => congrArg some (ha _ _ (cl_23 hcl hl hj))) hat
theorem cg_24 (hcl : Cl Lv) (hrv : Rv Lv S) (ha : ∀ k g, Lv k g → α' k g = α k g)  {g : Nat} (hv : ∀ j, j < 100 → 100 ≤ 24 → α' (1000 + 100 * (24 - 100) + j) g = α (1000 + 100 * (24 - 100) + j) g) (hl : Lv 24 g) (hat : va_at D vwCl (q, ce cs α S 24 g) H) : va_at D vwCl (q, ce cs α' S 24 g) H := hat
theorem cg_25 (hcl : Cl Lv) (hrv : Rv Lv S) (ha : ∀ k g, Lv k g → α' k g = α k g)  {g : Nat} (hv : ∀ j, j < 100 → 100 ≤ 25 → α' (1000 + 100 * (25 - 100) + j) g = α (1000 + 100 * (25 - 100) + j) g) (hl : Lv 25 g) (hat : va_at D vwCl (q, ce cs α S 25 g) H) : va_at D vwCl (q, ce cs α' S 25 g) H := hat
theorem cg_26 (hcl : Cl Lv) (hrv : Rv Lv S) (ha : ∀ k g, Lv k g → α' k g = α k g)  {g : Nat} (hv : ∀ j, j < 100 → 100 ≤ 26 → α' (1000 + 100 * (26 - 100) + j) g = α (1000 + 100 * (26 - 100) + j) g) (hl : Lv 26 g) (hat : va_at D vwCl (q, ce cs α S 26 g) H) : va_at D vwCl (q, ce cs α' S 26 g) H := hat
theorem cg_27 (hcl : Cl Lv) (hrv : Rv Lv S) (ha : ∀ k g, Lv k g → α' k g = α k g)  {g : Nat} (hv : ∀ j, j < 100 → 100 ≤ 27 → α' (1000 + 100 * (27 - 100) + j) g = α (1000 + 100 * (27 - 100) + j) g) (hl : Lv 27 g) (hat : va_at D vwCl (q, ce cs α S 27 g) H) : va_at D vwCl (q, ce cs α' S 27 g) H := hat
theorem cg_28 (hcl : Cl Lv) (hrv : Rv Lv S) (ha : ∀ k g, Lv k g → α' k g = α k g)  {g : Nat} (hv : ∀ j, j < 100 → 100 ≤ 28 → α' (1000 + 100 * (28 - 100) + j) g = α (1000 + 100 * (28 - 100) + j) g) (hl : Lv 28 g) (hat : va_at D vwCl (q, ce cs α S 28 g) H) : va_at D vwCl (q, ce cs α' S 28 g) H := at_eq (by
  show (.inr (9, [.ref (α' 29 (g)), .int (gi S 28 g 1), .ref (α' 30 (g)), .int (gi S 28 g 3), .ref (α' 31 (g)), .int (gi S 28 g 5), .int (gi S 28 g 6), .int (gi S 28 g 7), .int (gi S 28 g 8), .int (gi S 28 g 9), .int (gi S 28 g 10)]) : va_E) = .inr (9, [.ref (α 29 (g)), .int (gi S 28 g 1), .ref (α 30 (g)), .int (gi S 28 g 3), .ref (α 31 (g)), .int (gi S 28 g 5), .int (gi S 28 g 6), .int (gi S 28 g 7), .int (gi S 28 g 8), .int (gi S 28 g 9), .int (gi S 28 g 10)])
  rw [ha 29 (g) (cl_28_tape hcl hl), ha 30 (g) (cl_28_tokens hcl hl), ha 31 (g) (cl_28_starts hcl hl)]) hat
theorem cg_29 (hcl : Cl Lv) (hrv : Rv Lv S) (ha : ∀ k g, Lv k g → α' k g = α k g)  {g : Nat} (hv : ∀ j, j < 100 → 100 ≤ 29 → α' (1000 + 100 * (29 - 100) + j) g = α (1000 + 100 * (29 - 100) + j) g) (hl : Lv 29 g) (hat : va_at D vwCl (q, ce cs α S 29 g) H) : va_at D vwCl (q, ce cs α' S 29 g) H := hat
theorem cg_30 (hcl : Cl Lv) (hrv : Rv Lv S) (ha : ∀ k g, Lv k g → α' k g = α k g)  {g : Nat} (hv : ∀ j, j < 100 → 100 ≤ 30 → α' (1000 + 100 * (30 - 100) + j) g = α (1000 + 100 * (30 - 100) + j) g) (hl : Lv 30 g) (hat : va_at D vwCl (q, ce cs α S 30 g) H) : va_at D vwCl (q, ce cs α' S 30 g) H := hat
theorem cg_31 (hcl : Cl Lv) (hrv : Rv Lv S) (ha : ∀ k g, Lv k g → α' k g = α k g)  {g : Nat} (hv : ∀ j, j < 100 → 100 ≤ 31 → α' (1000 + 100 * (31 - 100) + j) g = α (1000 + 100 * (31 - 100) + j) g) (hl : Lv 31 g) (hat : va_at D vwCl (q, ce cs α S 31 g) H) : va_at D vwCl (q, ce cs α' S 31 g) H := hat
theorem cg_32 (hcl : Cl Lv) (hrv : Rv Lv S) (ha : ∀ k g, Lv k g → α' k g = α k g)  {g : Nat} (hv : ∀ j, j < 100 → 100 ≤ 32 → α' (1000 + 100 * (32 - 100) + j) g = α (1000 + 100 * (32 - 100) + j) g) (hl : Lv 32 g) (hat : va_at D vwCl (q, ce cs α S 32 g) H) : va_at D vwCl (q, ce cs α' S 32 g) H := at_eq (by
  show (.inr (7, [.ref (α' 33 (g)), .ref (α' 34 (g))]) : va_E) = .inr (7, [.ref (α 33 (g)), .ref (α 34 (g))])
  rw [ha 33 (g) (cl_32_tokens hcl hl), ha 34 (g) (cl_32_starts hcl hl)]) hat
theorem cg_33 (hcl : Cl Lv) (hrv : Rv Lv S) (ha : ∀ k g, Lv k g → α' k g = α k g)  {g : Nat} (hv : ∀ j, j < 100 → 100 ≤ 33 → α' (1000 + 100 * (33 - 100) + j) g = α (1000 + 100 * (33 - 100) + j) g) (hl : Lv 33 g) (hat : va_at D vwCl (q, ce cs α S 33 g) H) : va_at D vwCl (q, ce cs α' S 33 g) H := hat
theorem cg_34 (hcl : Cl Lv) (hrv : Rv Lv S) (ha : ∀ k g, Lv k g → α' k g = α k g)  {g : Nat} (hv : ∀ j, j < 100 → 100 ≤ 34 → α' (1000 + 100 * (34 - 100) + j) g = α (1000 + 100 * (34 - 100) + j) g) (hl : Lv 34 g) (hat : va_at D vwCl (q, ce cs α S 34 g) H) : va_at D vwCl (q, ce cs α' S 34 g) H := hat
theorem cg_35 (hcl : Cl Lv) (hrv : Rv Lv S) (ha : ∀ k g, Lv k g → α' k g = α k g)  {g : Nat} (hv : ∀ j, j < 100 → 100 ≤ 35 → α' (1000 + 100 * (35 - 100) + j) g = α (1000 + 100 * (35 - 100) + j) g) (hl : Lv 35 g) (hat : va_at D vwCl (q, ce cs α S 35 g) H) : va_at D vwCl (q, ce cs α' S 35 g) H := hat
theorem cg_36 (hcl : Cl Lv) (hrv : Rv Lv S) (ha : ∀ k g, Lv k g → α' k g = α k g)  {g : Nat} (hv : ∀ j, j < 100 → 100 ≤ 36 → α' (1000 + 100 * (36 - 100) + j) g = α (1000 + 100 * (36 - 100) + j) g) (hl : Lv 36 g) (hat : va_at D vwCl (q, ce cs α S 36 g) H) : va_at D vwCl (q, ce cs α' S 36 g) H := at_eq (by
  show (.inr (4, [.int (gi S 36 g 0), .ref (α' 37 (g)), .ref (α' 39 (g)), .ref (α' 26 (0)), .ref (α' 41 (g)), .ref (α' 43 (g)), .ref (α' 47 (g))]) : va_E) = .inr (4, [.int (gi S 36 g 0), .ref (α 37 (g)), .ref (α 39 (g)), .ref (α 26 (0)), .ref (α 41 (g)), .ref (α 43 (g)), .ref (α 47 (g))])
  rw [ha 37 (g) (cl_36_gainA hcl hl), ha 39 (g) (cl_36_gainB hcl hl), ha 26 (0) (cl_36_prices hcl hl), ha 41 (g) (cl_36_choices hcl hl), ha 43 (g) (cl_36_moverSums hcl hl), ha 47 (g) (cl_36_waiterSums hcl hl)]) hat
theorem cg_37 (hcl : Cl Lv) (hrv : Rv Lv S) (ha : ∀ k g, Lv k g → α' k g = α k g)  {g : Nat} (hv : ∀ j, j < 100 → 100 ≤ 37 → α' (1000 + 100 * (37 - 100) + j) g = α (1000 + 100 * (37 - 100) + j) g) (hl : Lv 37 g) (hat : va_at D vwCl (q, ce cs α S 37 g) H) : va_at D vwCl (q, ce cs α' S 37 g) H := at_arr (fun j hj => congrArg some (ha _ _ (cl_37 hcl hl hj))) hat
theorem cg_38 (hcl : Cl Lv) (hrv : Rv Lv S) (ha : ∀ k g, Lv k g → α' k g = α k g)  {g : Nat} (hv : ∀ j, j < 100 → 100 ≤ 38 → α' (1000 + 100 * (38 - 100) + j) g = α (1000 + 100 * (38 - 100) + j) g) (hl : Lv 38 g) (hat : va_at D vwCl (q, ce cs α S 38 g) H) : va_at D vwCl (q, ce cs α' S 38 g) H := hat
theorem cg_39 (hcl : Cl Lv) (hrv : Rv Lv S) (ha : ∀ k g, Lv k g → α' k g = α k g)  {g : Nat} (hv : ∀ j, j < 100 → 100 ≤ 39 → α' (1000 + 100 * (39 - 100) + j) g = α (1000 + 100 * (39 - 100) + j) g) (hl : Lv 39 g) (hat : va_at D vwCl (q, ce cs α S 39 g) H) : va_at D vwCl (q, ce cs α' S 39 g) H := at_arr (fun j hj => congrArg some (ha _ _ (cl_39 hcl hl hj))) hat
theorem cg_40 (hcl : Cl Lv) (hrv : Rv Lv S) (ha : ∀ k g, Lv k g → α' k g = α k g)  {g : Nat} (hv : ∀ j, j < 100 → 100 ≤ 40 → α' (1000 + 100 * (40 - 100) + j) g = α (1000 + 100 * (40 - 100) + j) g) (hl : Lv 40 g) (hat : va_at D vwCl (q, ce cs α S 40 g) H) : va_at D vwCl (q, ce cs α' S 40 g) H := hat
theorem cg_41 (hcl : Cl Lv) (hrv : Rv Lv S) (ha : ∀ k g, Lv k g → α' k g = α k g)  {g : Nat} (hv : ∀ j, j < 100 → 100 ≤ 41 → α' (1000 + 100 * (41 - 100) + j) g = α (1000 + 100 * (41 - 100) + j) g) (hl : Lv 41 g) (hat : va_at D vwCl (q, ce cs α S 41 g) H) : va_at D vwCl (q, ce cs α' S 41 g) H := at_arr (fun j hj => congrArg some (ha _ _ (cl_41 hcl hl hj))) hat
theorem cg_42 (hcl : Cl Lv) (hrv : Rv Lv S) (ha : ∀ k g, Lv k g → α' k g = α k g)  {g : Nat} (hv : ∀ j, j < 100 → 100 ≤ 42 → α' (1000 + 100 * (42 - 100) + j) g = α (1000 + 100 * (42 - 100) + j) g) (hl : Lv 42 g) (hat : va_at D vwCl (q, ce cs α S 42 g) H) : va_at D vwCl (q, ce cs α' S 42 g) H := hat
theorem cg_43 (hcl : Cl Lv) (hrv : Rv Lv S) (ha : ∀ k g, Lv k g → α' k g = α k g)  {g : Nat} (hv : ∀ j, j < 100 → 100 ≤ 43 → α' (1000 + 100 * (43 - 100) + j) g = α (1000 + 100 * (43 - 100) + j) g) (hl : Lv 43 g) (hat : va_at D vwCl (q, ce cs α S 43 g) H) : va_at D vwCl (q, ce cs α' S 43 g) H := at_arr (fun j hj => congrArg some (ha _ _ (cl_43 hcl hl hj))) hat
theorem cg_44 (hcl : Cl Lv) (hrv : Rv Lv S) (ha : ∀ k g, Lv k g → α' k g = α k g)  {g : Nat} (hv : ∀ j, j < 100 → 100 ≤ 44 → α' (1000 + 100 * (44 - 100) + j) g = α (1000 + 100 * (44 - 100) + j) g) (hl : Lv 44 g) (hat : va_at D vwCl (q, ce cs α S 44 g) H) : va_at D vwCl (q, ce cs α' S 44 g) H := at_eq (by
  show (.inr (6, [.ref (α' 45 (0)), .ref (α' 45 (1)), .int (gi S 44 g 2), .int (gi S 44 g 3), .int (gi S 44 g 4), .int (gi S 44 g 5)]) : va_E) = .inr (6, [.ref (α 45 (0)), .ref (α 45 (1)), .int (gi S 44 g 2), .int (gi S 44 g 3), .int (gi S 44 g 4), .int (gi S 44 g 5)])
  rw [ha 45 (0) (cl_44_tableA hcl hl), ha 45 (1) (cl_44_tableB hcl hl)]) hat
theorem cg_45 (hcl : Cl Lv) (hrv : Rv Lv S) (ha : ∀ k g, Lv k g → α' k g = α k g)  {g : Nat} (hv : ∀ j, j < 100 → 100 ≤ 45 → α' (1000 + 100 * (45 - 100) + j) g = α (1000 + 100 * (45 - 100) + j) g) (hl : Lv 45 g) (hat : va_at D vwCl (q, ce cs α S 45 g) H) : va_at D vwCl (q, ce cs α' S 45 g) H := at_arr (fun j hj => congrArg some (ha _ _ (cl_45 hcl hl hj))) hat
theorem cg_46 (hcl : Cl Lv) (hrv : Rv Lv S) (ha : ∀ k g, Lv k g → α' k g = α k g)  {g : Nat} (hv : ∀ j, j < 100 → 100 ≤ 46 → α' (1000 + 100 * (46 - 100) + j) g = α (1000 + 100 * (46 - 100) + j) g) (hl : Lv 46 g) (hat : va_at D vwCl (q, ce cs α S 46 g) H) : va_at D vwCl (q, ce cs α' S 46 g) H := hat
theorem cg_47 (hcl : Cl Lv) (hrv : Rv Lv S) (ha : ∀ k g, Lv k g → α' k g = α k g)  {g : Nat} (hv : ∀ j, j < 100 → 100 ≤ 47 → α' (1000 + 100 * (47 - 100) + j) g = α (1000 + 100 * (47 - 100) + j) g) (hl : Lv 47 g) (hat : va_at D vwCl (q, ce cs α S 47 g) H) : va_at D vwCl (q, ce cs α' S 47 g) H := at_arr (fun j hj => congrArg some (ha _ _ (cl_47 hcl hl hj))) hat
theorem cg_48 (hcl : Cl Lv) (hrv : Rv Lv S) (ha : ∀ k g, Lv k g → α' k g = α k g)  {g : Nat} (hv : ∀ j, j < 100 → 100 ≤ 48 → α' (1000 + 100 * (48 - 100) + j) g = α (1000 + 100 * (48 - 100) + j) g) (hl : Lv 48 g) (hat : va_at D vwCl (q, ce cs α S 48 g) H) : va_at D vwCl (q, ce cs α' S 48 g) H := hat
theorem cg_49 (hcl : Cl Lv) (hrv : Rv Lv S) (ha : ∀ k g, Lv k g → α' k g = α k g)  {g : Nat} (hv : ∀ j, j < 100 → 100 ≤ 49 → α' (1000 + 100 * (49 - 100) + j) g = α (1000 + 100 * (49 - 100) + j) g) (hl : Lv 49 g) (hat : va_at D vwCl (q, ce cs α S 49 g) H) : va_at D vwCl (q, ce cs α' S 49 g) H := at_eq (by
  show (.inr (10, [.ref (α' 50 (g)), .ref (α' 51 (g)), .ref (α' 52 (g)), .ref (α' 54 (g)), .ref (α' 56 (g))]) : va_E) = .inr (10, [.ref (α 50 (g)), .ref (α 51 (g)), .ref (α 52 (g)), .ref (α 54 (g)), .ref (α 56 (g))])
  rw [ha 50 (g) (cl_49_sorts hcl hl), ha 51 (g) (cl_49_lengths hcl hl), ha 52 (g) (cl_49_numbers hcl hl), ha 54 (g) (cl_49_least hcl hl), ha 56 (g) (cl_49_filled hcl hl)]) hat
theorem cg_50 (hcl : Cl Lv) (hrv : Rv Lv S) (ha : ∀ k g, Lv k g → α' k g = α k g)  {g : Nat} (hv : ∀ j, j < 100 → 100 ≤ 50 → α' (1000 + 100 * (50 - 100) + j) g = α (1000 + 100 * (50 - 100) + j) g) (hl : Lv 50 g) (hat : va_at D vwCl (q, ce cs α S 50 g) H) : va_at D vwCl (q, ce cs α' S 50 g) H := hat
theorem cg_51 (hcl : Cl Lv) (hrv : Rv Lv S) (ha : ∀ k g, Lv k g → α' k g = α k g)  {g : Nat} (hv : ∀ j, j < 100 → 100 ≤ 51 → α' (1000 + 100 * (51 - 100) + j) g = α (1000 + 100 * (51 - 100) + j) g) (hl : Lv 51 g) (hat : va_at D vwCl (q, ce cs α S 51 g) H) : va_at D vwCl (q, ce cs α' S 51 g) H := hat
theorem cg_52 (hcl : Cl Lv) (hrv : Rv Lv S) (ha : ∀ k g, Lv k g → α' k g = α k g)  {g : Nat} (hv : ∀ j, j < 100 → 100 ≤ 52 → α' (1000 + 100 * (52 - 100) + j) g = α (1000 + 100 * (52 - 100) + j) g) (hl : Lv 52 g) (hat : va_at D vwCl (q, ce cs α S 52 g) H) : va_at D vwCl (q, ce cs α' S 52 g) H := at_arr (fun j hj => congrArg some (ha _ _ (cl_52 hcl hl hj))) hat
theorem cg_53 (hcl : Cl Lv) (hrv : Rv Lv S) (ha : ∀ k g, Lv k g → α' k g = α k g)  {g : Nat} (hv : ∀ j, j < 100 → 100 ≤ 53 → α' (1000 + 100 * (53 - 100) + j) g = α (1000 + 100 * (53 - 100) + j) g) (hl : Lv 53 g) (hat : va_at D vwCl (q, ce cs α S 53 g) H) : va_at D vwCl (q, ce cs α' S 53 g) H := hat
theorem cg_54 (hcl : Cl Lv) (hrv : Rv Lv S) (ha : ∀ k g, Lv k g → α' k g = α k g)  {g : Nat} (hv : ∀ j, j < 100 → 100 ≤ 54 → α' (1000 + 100 * (54 - 100) + j) g = α (1000 + 100 * (54 - 100) + j) g) (hl : Lv 54 g) (hat : va_at D vwCl (q, ce cs α S 54 g) H) : va_at D vwCl (q, ce cs α' S 54 g) H := at_arr (fun j hj => congrArg some (ha _ _ (cl_54 hcl hl hj))) hat
theorem cg_55 (hcl : Cl Lv) (hrv : Rv Lv S) (ha : ∀ k g, Lv k g → α' k g = α k g)  {g : Nat} (hv : ∀ j, j < 100 → 100 ≤ 55 → α' (1000 + 100 * (55 - 100) + j) g = α (1000 + 100 * (55 - 100) + j) g) (hl : Lv 55 g) (hat : va_at D vwCl (q, ce cs α S 55 g) H) : va_at D vwCl (q, ce cs α' S 55 g) H := hat
theorem cg_56 (hcl : Cl Lv) (hrv : Rv Lv S) (ha : ∀ k g, Lv k g → α' k g = α k g)  {g : Nat} (hv : ∀ j, j < 100 → 100 ≤ 56 → α' (1000 + 100 * (56 - 100) + j) g = α (1000 + 100 * (56 - 100) + j) g) (hl : Lv 56 g) (hat : va_at D vwCl (q, ce cs α S 56 g) H) : va_at D vwCl (q, ce cs α' S 56 g) H := at_arr (fun j hj => congrArg some (ha _ _ (cl_56 hcl hl hj))) hat
theorem cg_57 (hcl : Cl Lv) (hrv : Rv Lv S) (ha : ∀ k g, Lv k g → α' k g = α k g)  {g : Nat} (hv : ∀ j, j < 100 → 100 ≤ 57 → α' (1000 + 100 * (57 - 100) + j) g = α (1000 + 100 * (57 - 100) + j) g) (hl : Lv 57 g) (hat : va_at D vwCl (q, ce cs α S 57 g) H) : va_at D vwCl (q, ce cs α' S 57 g) H := hat
theorem cg_58 (hcl : Cl Lv) (hrv : Rv Lv S) (ha : ∀ k g, Lv k g → α' k g = α k g)  {g : Nat} (hv : ∀ j, j < 100 → 100 ≤ 58 → α' (1000 + 100 * (58 - 100) + j) g = α (1000 + 100 * (58 - 100) + j) g) (hl : Lv 58 g) (hat : va_at D vwCl (q, ce cs α S 58 g) H) : va_at D vwCl (q, ce cs α' S 58 g) H := hat
theorem cg_60 (hcl : Cl Lv) (hrv : Rv Lv S) (ha : ∀ k g, Lv k g → α' k g = α k g)  {g : Nat} (hv : ∀ j, j < 100 → 100 ≤ 60 → α' (1000 + 100 * (60 - 100) + j) g = α (1000 + 100 * (60 - 100) + j) g) (hl : Lv 60 g) (hat : va_at D vwCl (q, ce cs α S 60 g) H) : va_at D vwCl (q, ce cs α' S 60 g) H := at_eq (by
  show (.inr (12, [.ref (α' 61 (g)), .ref (α' 62 (g)), .ref (α' 63 (g)), .ref (α' 64 (g)), .ref (α' 65 (g)), .int (gi S 60 g 5), .ref (α' 66 (g)), .ref (α' 67 (g)), .ref (α' 68 (g)), .int (gi S 60 g 9), .int (gi S 60 g 10), .int (gi S 60 g 11), .int (gi S 60 g 12), .int (gi S 60 g 13), .int (gi S 60 g 14), .int (gi S 60 g 15), .int (gi S 60 g 16), .int (gi S 60 g 17), .int (gi S 60 g 18), .int (gi S 60 g 19), .int (gi S 60 g 20), .int (gi S 60 g 21), .ref (α' 69 (g)), .int (gi S 60 g 23), .ref (α' 70 (g)), .ref (α' 71 (g)), .long (gl S 60 g 26), .long (gl S 60 g 27), .ref (α' 72 (g)), .ref (α' 73 (g)), .ref (α' 74 (g)), .ref (α' 75 (g)), .ref (α' 76 (g)), .int (gi S 60 g 33), .int (gi S 60 g 34), .int (gi S 60 g 35), .ref (α' 77 (g)), .ref (α' 78 (g)), .ref (α' 79 (g)), .ref (α' 80 (g))]) : va_E) = .inr (12, [.ref (α 61 (g)), .ref (α 62 (g)), .ref (α 63 (g)), .ref (α 64 (g)), .ref (α 65 (g)), .int (gi S 60 g 5), .ref (α 66 (g)), .ref (α 67 (g)), .ref (α 68 (g)), .int (gi S 60 g 9), .int (gi S 60 g 10), .int (gi S 60 g 11), .int (gi S 60 g 12), .int (gi S 60 g 13), .int (gi S 60 g 14), .int (gi S 60 g 15), .int (gi S 60 g 16), .int (gi S 60 g 17), .int (gi S 60 g 18), .int (gi S 60 g 19), .int (gi S 60 g 20), .int (gi S 60 g 21), .ref (α 69 (g)), .int (gi S 60 g 23), .ref (α 70 (g)), .ref (α 71 (g)), .long (gl S 60 g 26), .long (gl S 60 g 27), .ref (α 72 (g)), .ref (α 73 (g)), .ref (α 74 (g)), .ref (α 75 (g)), .ref (α 76 (g)), .int (gi S 60 g 33), .int (gi S 60 g 34), .int (gi S 60 g 35), .ref (α 77 (g)), .ref (α 78 (g)), .ref (α 79 (g)), .ref (α 80 (g))])
  rw [ha 61 (g) (cl_60_told hcl hl), ha 62 (g) (cl_60_images hcl hl), ha 63 (g) (cl_60_sums hcl hl), ha 64 (g) (cl_60_imageSums hcl hl), ha 65 (g) (cl_60_isImage hcl hl), ha 66 (g) (cl_60_tape hcl hl), ha 67 (g) (cl_60_fresh hcl hl), ha 68 (g) (cl_60_freshLaw hcl hl), ha 69 (g) (cl_60_pile hcl hl), ha 70 (g) (cl_60_now hcl hl), ha 71 (g) (cl_60_nextPrice hcl hl), ha 72 (g) (cl_60_gains hcl hl), ha 73 (g) (cl_60_sets hcl hl), ha 74 (g) (cl_60_mine hcl hl), ha 75 (g) (cl_60_its hcl hl), ha 76 (g) (cl_60_table hcl hl), ha 77 (g) (cl_60_paid hcl hl), ha 78 (g) (cl_60_tSort hcl hl), ha 79 (g) (cl_60_tMany hcl hl), ha 80 (g) (cl_60_numbers hcl hl)]) hat
theorem cg_61 (hcl : Cl Lv) (hrv : Rv Lv S) (ha : ∀ k g, Lv k g → α' k g = α k g)  {g : Nat} (hv : ∀ j, j < 100 → 100 ≤ 61 → α' (1000 + 100 * (61 - 100) + j) g = α (1000 + 100 * (61 - 100) + j) g) (hl : Lv 61 g) (hat : va_at D vwCl (q, ce cs α S 61 g) H) : va_at D vwCl (q, ce cs α' S 61 g) H := hat
theorem cg_62 (hcl : Cl Lv) (hrv : Rv Lv S) (ha : ∀ k g, Lv k g → α' k g = α k g)  {g : Nat} (hv : ∀ j, j < 100 → 100 ≤ 62 → α' (1000 + 100 * (62 - 100) + j) g = α (1000 + 100 * (62 - 100) + j) g) (hl : Lv 62 g) (hat : va_at D vwCl (q, ce cs α S 62 g) H) : va_at D vwCl (q, ce cs α' S 62 g) H := hat
theorem cg_63 (hcl : Cl Lv) (hrv : Rv Lv S) (ha : ∀ k g, Lv k g → α' k g = α k g)  {g : Nat} (hv : ∀ j, j < 100 → 100 ≤ 63 → α' (1000 + 100 * (63 - 100) + j) g = α (1000 + 100 * (63 - 100) + j) g) (hl : Lv 63 g) (hat : va_at D vwCl (q, ce cs α S 63 g) H) : va_at D vwCl (q, ce cs α' S 63 g) H := hat
theorem cg_64 (hcl : Cl Lv) (hrv : Rv Lv S) (ha : ∀ k g, Lv k g → α' k g = α k g)  {g : Nat} (hv : ∀ j, j < 100 → 100 ≤ 64 → α' (1000 + 100 * (64 - 100) + j) g = α (1000 + 100 * (64 - 100) + j) g) (hl : Lv 64 g) (hat : va_at D vwCl (q, ce cs α S 64 g) H) : va_at D vwCl (q, ce cs α' S 64 g) H := hat
theorem cg_65 (hcl : Cl Lv) (hrv : Rv Lv S) (ha : ∀ k g, Lv k g → α' k g = α k g)  {g : Nat} (hv : ∀ j, j < 100 → 100 ≤ 65 → α' (1000 + 100 * (65 - 100) + j) g = α (1000 + 100 * (65 - 100) + j) g) (hl : Lv 65 g) (hat : va_at D vwCl (q, ce cs α S 65 g) H) : va_at D vwCl (q, ce cs α' S 65 g) H := hat
theorem cg_66 (hcl : Cl Lv) (hrv : Rv Lv S) (ha : ∀ k g, Lv k g → α' k g = α k g)  {g : Nat} (hv : ∀ j, j < 100 → 100 ≤ 66 → α' (1000 + 100 * (66 - 100) + j) g = α (1000 + 100 * (66 - 100) + j) g) (hl : Lv 66 g) (hat : va_at D vwCl (q, ce cs α S 66 g) H) : va_at D vwCl (q, ce cs α' S 66 g) H := hat
theorem cg_67 (hcl : Cl Lv) (hrv : Rv Lv S) (ha : ∀ k g, Lv k g → α' k g = α k g)  {g : Nat} (hv : ∀ j, j < 100 → 100 ≤ 67 → α' (1000 + 100 * (67 - 100) + j) g = α (1000 + 100 * (67 - 100) + j) g) (hl : Lv 67 g) (hat : va_at D vwCl (q, ce cs α S 67 g) H) : va_at D vwCl (q, ce cs α' S 67 g) H := hat
theorem cg_68 (hcl : Cl Lv) (hrv : Rv Lv S) (ha : ∀ k g, Lv k g → α' k g = α k g)  {g : Nat} (hv : ∀ j, j < 100 → 100 ≤ 68 → α' (1000 + 100 * (68 - 100) + j) g = α (1000 + 100 * (68 - 100) + j) g) (hl : Lv 68 g) (hat : va_at D vwCl (q, ce cs α S 68 g) H) : va_at D vwCl (q, ce cs α' S 68 g) H := hat
theorem cg_69 (hcl : Cl Lv) (hrv : Rv Lv S) (ha : ∀ k g, Lv k g → α' k g = α k g)  {g : Nat} (hv : ∀ j, j < 100 → 100 ≤ 69 → α' (1000 + 100 * (69 - 100) + j) g = α (1000 + 100 * (69 - 100) + j) g) (hl : Lv 69 g) (hat : va_at D vwCl (q, ce cs α S 69 g) H) : va_at D vwCl (q, ce cs α' S 69 g) H := hat
theorem cg_70 (hcl : Cl Lv) (hrv : Rv Lv S) (ha : ∀ k g, Lv k g → α' k g = α k g)  {g : Nat} (hv : ∀ j, j < 100 → 100 ≤ 70 → α' (1000 + 100 * (70 - 100) + j) g = α (1000 + 100 * (70 - 100) + j) g) (hl : Lv 70 g) (hat : va_at D vwCl (q, ce cs α S 70 g) H) : va_at D vwCl (q, ce cs α' S 70 g) H := hat
theorem cg_71 (hcl : Cl Lv) (hrv : Rv Lv S) (ha : ∀ k g, Lv k g → α' k g = α k g)  {g : Nat} (hv : ∀ j, j < 100 → 100 ≤ 71 → α' (1000 + 100 * (71 - 100) + j) g = α (1000 + 100 * (71 - 100) + j) g) (hl : Lv 71 g) (hat : va_at D vwCl (q, ce cs α S 71 g) H) : va_at D vwCl (q, ce cs α' S 71 g) H := hat
theorem cg_72 (hcl : Cl Lv) (hrv : Rv Lv S) (ha : ∀ k g, Lv k g → α' k g = α k g)  {g : Nat} (hv : ∀ j, j < 100 → 100 ≤ 72 → α' (1000 + 100 * (72 - 100) + j) g = α (1000 + 100 * (72 - 100) + j) g) (hl : Lv 72 g) (hat : va_at D vwCl (q, ce cs α S 72 g) H) : va_at D vwCl (q, ce cs α' S 72 g) H := hat
theorem cg_73 (hcl : Cl Lv) (hrv : Rv Lv S) (ha : ∀ k g, Lv k g → α' k g = α k g)  {g : Nat} (hv : ∀ j, j < 100 → 100 ≤ 73 → α' (1000 + 100 * (73 - 100) + j) g = α (1000 + 100 * (73 - 100) + j) g) (hl : Lv 73 g) (hat : va_at D vwCl (q, ce cs α S 73 g) H) : va_at D vwCl (q, ce cs α' S 73 g) H := hat
theorem cg_74 (hcl : Cl Lv) (hrv : Rv Lv S) (ha : ∀ k g, Lv k g → α' k g = α k g)  {g : Nat} (hv : ∀ j, j < 100 → 100 ≤ 74 → α' (1000 + 100 * (74 - 100) + j) g = α (1000 + 100 * (74 - 100) + j) g) (hl : Lv 74 g) (hat : va_at D vwCl (q, ce cs α S 74 g) H) : va_at D vwCl (q, ce cs α' S 74 g) H := hat
theorem cg_75 (hcl : Cl Lv) (hrv : Rv Lv S) (ha : ∀ k g, Lv k g → α' k g = α k g)  {g : Nat} (hv : ∀ j, j < 100 → 100 ≤ 75 → α' (1000 + 100 * (75 - 100) + j) g = α (1000 + 100 * (75 - 100) + j) g) (hl : Lv 75 g) (hat : va_at D vwCl (q, ce cs α S 75 g) H) : va_at D vwCl (q, ce cs α' S 75 g) H := hat
theorem cg_76 (hcl : Cl Lv) (hrv : Rv Lv S) (ha : ∀ k g, Lv k g → α' k g = α k g)  {g : Nat} (hv : ∀ j, j < 100 → 100 ≤ 76 → α' (1000 + 100 * (76 - 100) + j) g = α (1000 + 100 * (76 - 100) + j) g) (hl : Lv 76 g) (hat : va_at D vwCl (q, ce cs α S 76 g) H) : va_at D vwCl (q, ce cs α' S 76 g) H := hat
theorem cg_77 (hcl : Cl Lv) (hrv : Rv Lv S) (ha : ∀ k g, Lv k g → α' k g = α k g)  {g : Nat} (hv : ∀ j, j < 100 → 100 ≤ 77 → α' (1000 + 100 * (77 - 100) + j) g = α (1000 + 100 * (77 - 100) + j) g) (hl : Lv 77 g) (hat : va_at D vwCl (q, ce cs α S 77 g) H) : va_at D vwCl (q, ce cs α' S 77 g) H := hat
theorem cg_78 (hcl : Cl Lv) (hrv : Rv Lv S) (ha : ∀ k g, Lv k g → α' k g = α k g)  {g : Nat} (hv : ∀ j, j < 100 → 100 ≤ 78 → α' (1000 + 100 * (78 - 100) + j) g = α (1000 + 100 * (78 - 100) + j) g) (hl : Lv 78 g) (hat : va_at D vwCl (q, ce cs α S 78 g) H) : va_at D vwCl (q, ce cs α' S 78 g) H := hat
theorem cg_79 (hcl : Cl Lv) (hrv : Rv Lv S) (ha : ∀ k g, Lv k g → α' k g = α k g)  {g : Nat} (hv : ∀ j, j < 100 → 100 ≤ 79 → α' (1000 + 100 * (79 - 100) + j) g = α (1000 + 100 * (79 - 100) + j) g) (hl : Lv 79 g) (hat : va_at D vwCl (q, ce cs α S 79 g) H) : va_at D vwCl (q, ce cs α' S 79 g) H := hat
theorem cg_80 (hcl : Cl Lv) (hrv : Rv Lv S) (ha : ∀ k g, Lv k g → α' k g = α k g)  {g : Nat} (hv : ∀ j, j < 100 → 100 ≤ 80 → α' (1000 + 100 * (80 - 100) + j) g = α (1000 + 100 * (80 - 100) + j) g) (hl : Lv 80 g) (hat : va_at D vwCl (q, ce cs α S 80 g) H) : va_at D vwCl (q, ce cs α' S 80 g) H := hat
theorem cg_81 (hcl : Cl Lv) (hrv : Rv Lv S) (ha : ∀ k g, Lv k g → α' k g = α k g)  {g : Nat} (hv : ∀ j, j < 100 → 100 ≤ 81 → α' (1000 + 100 * (81 - 100) + j) g = α (1000 + 100 * (81 - 100) + j) g) (hl : Lv 81 g) (hat : va_at D vwCl (q, ce cs α S 81 g) H) : va_at D vwCl (q, ce cs α' S 81 g) H := hat
theorem cg_100 (hcl : Cl Lv) (hrv : Rv Lv S) (ha : ∀ k g, Lv k g → α' k g = α k g)  {g : Nat} (hv : ∀ j, j < 100 → 100 ≤ 100 → α' (1000 + 100 * (100 - 100) + j) g = α (1000 + 100 * (100 - 100) + j) g) (hl : Lv 100 g) (hat : va_at D vwCl (q, ce cs α S 100 g) H) : va_at D vwCl (q, ce cs α' S 100 g) H := at_eq (by
  show (.inr (11, [r0 (α' 1000 g), r0 (α' 1001 g), r0 (α' 1002 g), r0 (α' 1003 g), r0 (α' 1004 g), r0 (α' 1005 g), .long (gl S 100 g 6), .long (gl S 100 g 7)]) : va_E) = .inr (11, [r0 (α 1000 g), r0 (α 1001 g), r0 (α 1002 g), r0 (α 1003 g), r0 (α 1004 g), r0 (α 1005 g), .long (gl S 100 g 6), .long (gl S 100 g 7)])
  rw [(hv 0 (by decide) (by decide) : α' 1000 g = α 1000 g), (hv 1 (by decide) (by decide) : α' 1001 g = α 1001 g), (hv 2 (by decide) (by decide) : α' 1002 g = α 1002 g), (hv 3 (by decide) (by decide) : α' 1003 g = α 1003 g), (hv 4 (by decide) (by decide) : α' 1004 g = α 1004 g), (hv 5 (by decide) (by decide) : α' 1005 g = α 1005 g)]) hat
theorem cg_102 (hcl : Cl Lv) (hrv : Rv Lv S) (ha : ∀ k g, Lv k g → α' k g = α k g)  {g : Nat} (hv : ∀ j, j < 100 → 100 ≤ 102 → α' (1000 + 100 * (102 - 100) + j) g = α (1000 + 100 * (102 - 100) + j) g) (hl : Lv 102 g) (hat : va_at D vwCl (q, ce cs α S 102 g) H) : va_at D vwCl (q, ce cs α' S 102 g) H := at_eq (by
  show (.inr (2, [.int (gi S 102 g 0), r0 (α' 1201 g), r0 (α' 1202 g), r0 (α' 1203 g), r0 (α' 1204 g), r0 (α' 1205 g), .long (gl S 102 g 6), r0 (α' 1207 g), .null, r0 (α' 1209 g), r0 (α' 1210 g), r0 (α' 1211 g), r0 (α' 1212 g), r0 (α' 1213 g), .int (gi S 102 g 14), r0 (α' 1215 g), r0 (α' 1216 g), r0 (α' 1217 g)]) : va_E) = .inr (2, [.int (gi S 102 g 0), r0 (α 1201 g), r0 (α 1202 g), r0 (α 1203 g), r0 (α 1204 g), r0 (α 1205 g), .long (gl S 102 g 6), r0 (α 1207 g), .null, r0 (α 1209 g), r0 (α 1210 g), r0 (α 1211 g), r0 (α 1212 g), r0 (α 1213 g), .int (gi S 102 g 14), r0 (α 1215 g), r0 (α 1216 g), r0 (α 1217 g)])
  rw [(hv 1 (by decide) (by decide) : α' 1201 g = α 1201 g), (hv 2 (by decide) (by decide) : α' 1202 g = α 1202 g), (hv 3 (by decide) (by decide) : α' 1203 g = α 1203 g), (hv 4 (by decide) (by decide) : α' 1204 g = α 1204 g), (hv 5 (by decide) (by decide) : α' 1205 g = α 1205 g), (hv 7 (by decide) (by decide) : α' 1207 g = α 1207 g), (hv 9 (by decide) (by decide) : α' 1209 g = α 1209 g), (hv 10 (by decide) (by decide) : α' 1210 g = α 1210 g), (hv 11 (by decide) (by decide) : α' 1211 g = α 1211 g), (hv 12 (by decide) (by decide) : α' 1212 g = α 1212 g), (hv 13 (by decide) (by decide) : α' 1213 g = α 1213 g), (hv 15 (by decide) (by decide) : α' 1215 g = α 1215 g), (hv 16 (by decide) (by decide) : α' 1216 g = α 1216 g), (hv 17 (by decide) (by decide) : α' 1217 g = α 1217 g)]) hat
theorem cg_109 (hcl : Cl Lv) (hrv : Rv Lv S) (ha : ∀ k g, Lv k g → α' k g = α k g)  {g : Nat} (hv : ∀ j, j < 100 → 100 ≤ 109 → α' (1000 + 100 * (109 - 100) + j) g = α (1000 + 100 * (109 - 100) + j) g) (hl : Lv 109 g) (hat : va_at D vwCl (q, ce cs α S 109 g) H) : va_at D vwCl (q, ce cs α' S 109 g) H := at_eq (by
  show (.inr (3, [.int (gi S 109 g 0), r0 (α' 1901 g), r0 (α' 1902 g), r0 (α' 1903 g), r0 (α' 1904 g)]) : va_E) = .inr (3, [.int (gi S 109 g 0), r0 (α 1901 g), r0 (α 1902 g), r0 (α 1903 g), r0 (α 1904 g)])
  rw [(hv 1 (by decide) (by decide) : α' 1901 g = α 1901 g), (hv 2 (by decide) (by decide) : α' 1902 g = α 1902 g), (hv 3 (by decide) (by decide) : α' 1903 g = α 1903 g), (hv 4 (by decide) (by decide) : α' 1904 g = α 1904 g)]) hat
theorem cg_114 (hcl : Cl Lv) (hrv : Rv Lv S) (ha : ∀ k g, Lv k g → α' k g = α k g)  {g : Nat} (hv : ∀ j, j < 100 → 100 ≤ 114 → α' (1000 + 100 * (114 - 100) + j) g = α (1000 + 100 * (114 - 100) + j) g) (hl : Lv 114 g) (hat : va_at D vwCl (q, ce cs α S 114 g) H) : va_at D vwCl (q, ce cs α' S 114 g) H := at_eq (by
  show (.inr (0, [.int (gi S 114 g 0), r0 (α' 2401 g), r0 (α' 2402 g), .int (gi S 114 g 3)]) : va_E) = .inr (0, [.int (gi S 114 g 0), r0 (α 2401 g), r0 (α 2402 g), .int (gi S 114 g 3)])
  rw [(hv 1 (by decide) (by decide) : α' 2401 g = α 2401 g), (hv 2 (by decide) (by decide) : α' 2402 g = α 2402 g)]) hat
theorem cg_117 (hcl : Cl Lv) (hrv : Rv Lv S) (ha : ∀ k g, Lv k g → α' k g = α k g)  {g : Nat} (hv : ∀ j, j < 100 → 100 ≤ 117 → α' (1000 + 100 * (117 - 100) + j) g = α (1000 + 100 * (117 - 100) + j) g) (hl : Lv 117 g) (hat : va_at D vwCl (q, ce cs α S 117 g) H) : va_at D vwCl (q, ce cs α' S 117 g) H := at_eq (by
  show (.inr (1, [r0 (α' 2700 g), r0 (α' 2701 g), r0 (α' 2702 g), .int (gi S 117 g 3)]) : va_E) = .inr (1, [r0 (α 2700 g), r0 (α 2701 g), r0 (α 2702 g), .int (gi S 117 g 3)])
  rw [(hv 0 (by decide) (by decide) : α' 2700 g = α 2700 g), (hv 1 (by decide) (by decide) : α' 2701 g = α 2701 g), (hv 2 (by decide) (by decide) : α' 2702 g = α 2702 g)]) hat
theorem cg_122 (hcl : Cl Lv) (hrv : Rv Lv S) (ha : ∀ k g, Lv k g → α' k g = α k g)  {g : Nat} (hv : ∀ j, j < 100 → 100 ≤ 122 → α' (1000 + 100 * (122 - 100) + j) g = α (1000 + 100 * (122 - 100) + j) g) (hl : Lv 122 g) (hat : va_at D vwCl (q, ce cs α S 122 g) H) : va_at D vwCl (q, ce cs α' S 122 g) H := at_eq (by
  show (.inr (8, [r0 (α' 3200 g), r0 (α' 3201 g), .int (gi S 122 g 2), .int (gi S 122 g 3)]) : va_E) = .inr (8, [r0 (α 3200 g), r0 (α 3201 g), .int (gi S 122 g 2), .int (gi S 122 g 3)])
  rw [(hv 0 (by decide) (by decide) : α' 3200 g = α 3200 g), (hv 1 (by decide) (by decide) : α' 3201 g = α 3201 g)]) hat
theorem cg_128 (hcl : Cl Lv) (hrv : Rv Lv S) (ha : ∀ k g, Lv k g → α' k g = α k g)  {g : Nat} (hv : ∀ j, j < 100 → 100 ≤ 128 → α' (1000 + 100 * (128 - 100) + j) g = α (1000 + 100 * (128 - 100) + j) g) (hl : Lv 128 g) (hat : va_at D vwCl (q, ce cs α S 128 g) H) : va_at D vwCl (q, ce cs α' S 128 g) H := at_eq (by
  show (.inr (9, [r0 (α' 3800 g), .int (gi S 128 g 1), r0 (α' 3802 g), .int (gi S 128 g 3), r0 (α' 3804 g), .int (gi S 128 g 5), .int (gi S 128 g 6), .int (gi S 128 g 7), .int (gi S 128 g 8), .int (gi S 128 g 9), .int (gi S 128 g 10)]) : va_E) = .inr (9, [r0 (α 3800 g), .int (gi S 128 g 1), r0 (α 3802 g), .int (gi S 128 g 3), r0 (α 3804 g), .int (gi S 128 g 5), .int (gi S 128 g 6), .int (gi S 128 g 7), .int (gi S 128 g 8), .int (gi S 128 g 9), .int (gi S 128 g 10)])
  rw [(hv 0 (by decide) (by decide) : α' 3800 g = α 3800 g), (hv 2 (by decide) (by decide) : α' 3802 g = α 3802 g), (hv 4 (by decide) (by decide) : α' 3804 g = α 3804 g)]) hat
theorem cg_132 (hcl : Cl Lv) (hrv : Rv Lv S) (ha : ∀ k g, Lv k g → α' k g = α k g)  {g : Nat} (hv : ∀ j, j < 100 → 100 ≤ 132 → α' (1000 + 100 * (132 - 100) + j) g = α (1000 + 100 * (132 - 100) + j) g) (hl : Lv 132 g) (hat : va_at D vwCl (q, ce cs α S 132 g) H) : va_at D vwCl (q, ce cs α' S 132 g) H := at_eq (by
  show (.inr (7, [r0 (α' 4200 g), r0 (α' 4201 g)]) : va_E) = .inr (7, [r0 (α 4200 g), r0 (α 4201 g)])
  rw [(hv 0 (by decide) (by decide) : α' 4200 g = α 4200 g), (hv 1 (by decide) (by decide) : α' 4201 g = α 4201 g)]) hat
theorem cg_135 (hcl : Cl Lv) (hrv : Rv Lv S) (ha : ∀ k g, Lv k g → α' k g = α k g)  {g : Nat} (hv : ∀ j, j < 100 → 100 ≤ 135 → α' (1000 + 100 * (135 - 100) + j) g = α (1000 + 100 * (135 - 100) + j) g) (hl : Lv 135 g) (hat : va_at D vwCl (q, ce cs α S 135 g) H) : va_at D vwCl (q, ce cs α' S 135 g) H := hat
theorem cg_136 (hcl : Cl Lv) (hrv : Rv Lv S) (ha : ∀ k g, Lv k g → α' k g = α k g)  {g : Nat} (hv : ∀ j, j < 100 → 100 ≤ 136 → α' (1000 + 100 * (136 - 100) + j) g = α (1000 + 100 * (136 - 100) + j) g) (hl : Lv 136 g) (hat : va_at D vwCl (q, ce cs α S 136 g) H) : va_at D vwCl (q, ce cs α' S 136 g) H := at_eq (by
  show (.inr (4, [.int (gi S 136 g 0), r0 (α' 4601 g), r0 (α' 4602 g), r0 (α' 4603 g), r0 (α' 4604 g), r0 (α' 4605 g), r0 (α' 4606 g)]) : va_E) = .inr (4, [.int (gi S 136 g 0), r0 (α 4601 g), r0 (α 4602 g), r0 (α 4603 g), r0 (α 4604 g), r0 (α 4605 g), r0 (α 4606 g)])
  rw [(hv 1 (by decide) (by decide) : α' 4601 g = α 4601 g), (hv 2 (by decide) (by decide) : α' 4602 g = α 4602 g), (hv 3 (by decide) (by decide) : α' 4603 g = α 4603 g), (hv 4 (by decide) (by decide) : α' 4604 g = α 4604 g), (hv 5 (by decide) (by decide) : α' 4605 g = α 4605 g), (hv 6 (by decide) (by decide) : α' 4606 g = α 4606 g)]) hat
theorem cg_144 (hcl : Cl Lv) (hrv : Rv Lv S) (ha : ∀ k g, Lv k g → α' k g = α k g)  {g : Nat} (hv : ∀ j, j < 100 → 100 ≤ 144 → α' (1000 + 100 * (144 - 100) + j) g = α (1000 + 100 * (144 - 100) + j) g) (hl : Lv 144 g) (hat : va_at D vwCl (q, ce cs α S 144 g) H) : va_at D vwCl (q, ce cs α' S 144 g) H := at_eq (by
  show (.inr (6, [r0 (α' 5400 g), r0 (α' 5401 g), .int (gi S 144 g 2), .int (gi S 144 g 3), .int (gi S 144 g 4), .int (gi S 144 g 5)]) : va_E) = .inr (6, [r0 (α 5400 g), r0 (α 5401 g), .int (gi S 144 g 2), .int (gi S 144 g 3), .int (gi S 144 g 4), .int (gi S 144 g 5)])
  rw [(hv 0 (by decide) (by decide) : α' 5400 g = α 5400 g), (hv 1 (by decide) (by decide) : α' 5401 g = α 5401 g)]) hat
theorem cg_149 (hcl : Cl Lv) (hrv : Rv Lv S) (ha : ∀ k g, Lv k g → α' k g = α k g)  {g : Nat} (hv : ∀ j, j < 100 → 100 ≤ 149 → α' (1000 + 100 * (149 - 100) + j) g = α (1000 + 100 * (149 - 100) + j) g) (hl : Lv 149 g) (hat : va_at D vwCl (q, ce cs α S 149 g) H) : va_at D vwCl (q, ce cs α' S 149 g) H := at_eq (by
  show (.inr (10, [r0 (α' 5900 g), r0 (α' 5901 g), r0 (α' 5902 g), r0 (α' 5903 g), r0 (α' 5904 g)]) : va_E) = .inr (10, [r0 (α 5900 g), r0 (α 5901 g), r0 (α 5902 g), r0 (α 5903 g), r0 (α 5904 g)])
  rw [(hv 0 (by decide) (by decide) : α' 5900 g = α 5900 g), (hv 1 (by decide) (by decide) : α' 5901 g = α 5901 g), (hv 2 (by decide) (by decide) : α' 5902 g = α 5902 g), (hv 3 (by decide) (by decide) : α' 5903 g = α 5903 g), (hv 4 (by decide) (by decide) : α' 5904 g = α 5904 g)]) hat
theorem cg_160 (hcl : Cl Lv) (hrv : Rv Lv S) (ha : ∀ k g, Lv k g → α' k g = α k g)  {g : Nat} (hv : ∀ j, j < 100 → 100 ≤ 160 → α' (1000 + 100 * (160 - 100) + j) g = α (1000 + 100 * (160 - 100) + j) g) (hl : Lv 160 g) (hat : va_at D vwCl (q, ce cs α S 160 g) H) : va_at D vwCl (q, ce cs α' S 160 g) H := at_eq (by
  show (.inr (12, [r0 (α' 7000 g), r0 (α' 7001 g), r0 (α' 7002 g), r0 (α' 7003 g), r0 (α' 7004 g), .int (gi S 160 g 5), r0 (α' 7006 g), r0 (α' 7007 g), r0 (α' 7008 g), .int (gi S 160 g 9), .int (gi S 160 g 10), .int (gi S 160 g 11), .int (gi S 160 g 12), .int (gi S 160 g 13), .int (gi S 160 g 14), .int (gi S 160 g 15), .int (gi S 160 g 16), .int (gi S 160 g 17), .int (gi S 160 g 18), .int (gi S 160 g 19), .int (gi S 160 g 20), .int (gi S 160 g 21), r0 (α' 7022 g), .int (gi S 160 g 23), r0 (α' 7024 g), r0 (α' 7025 g), .long (gl S 160 g 26), .long (gl S 160 g 27), r0 (α' 7028 g), r0 (α' 7029 g), r0 (α' 7030 g), r0 (α' 7031 g), r0 (α' 7032 g), .int (gi S 160 g 33), .int (gi S 160 g 34), .int (gi S 160 g 35), r0 (α' 7036 g), r0 (α' 7037 g), r0 (α' 7038 g), r0 (α' 7039 g)]) : va_E) = .inr (12, [r0 (α 7000 g), r0 (α 7001 g), r0 (α 7002 g), r0 (α 7003 g), r0 (α 7004 g), .int (gi S 160 g 5), r0 (α 7006 g), r0 (α 7007 g), r0 (α 7008 g), .int (gi S 160 g 9), .int (gi S 160 g 10), .int (gi S 160 g 11), .int (gi S 160 g 12), .int (gi S 160 g 13), .int (gi S 160 g 14), .int (gi S 160 g 15), .int (gi S 160 g 16), .int (gi S 160 g 17), .int (gi S 160 g 18), .int (gi S 160 g 19), .int (gi S 160 g 20), .int (gi S 160 g 21), r0 (α 7022 g), .int (gi S 160 g 23), r0 (α 7024 g), r0 (α 7025 g), .long (gl S 160 g 26), .long (gl S 160 g 27), r0 (α 7028 g), r0 (α 7029 g), r0 (α 7030 g), r0 (α 7031 g), r0 (α 7032 g), .int (gi S 160 g 33), .int (gi S 160 g 34), .int (gi S 160 g 35), r0 (α 7036 g), r0 (α 7037 g), r0 (α 7038 g), r0 (α 7039 g)])
  rw [(hv 0 (by decide) (by decide) : α' 7000 g = α 7000 g), (hv 1 (by decide) (by decide) : α' 7001 g = α 7001 g), (hv 2 (by decide) (by decide) : α' 7002 g = α 7002 g), (hv 3 (by decide) (by decide) : α' 7003 g = α 7003 g), (hv 4 (by decide) (by decide) : α' 7004 g = α 7004 g), (hv 6 (by decide) (by decide) : α' 7006 g = α 7006 g), (hv 7 (by decide) (by decide) : α' 7007 g = α 7007 g), (hv 8 (by decide) (by decide) : α' 7008 g = α 7008 g), (hv 22 (by decide) (by decide) : α' 7022 g = α 7022 g), (hv 24 (by decide) (by decide) : α' 7024 g = α 7024 g), (hv 25 (by decide) (by decide) : α' 7025 g = α 7025 g), (hv 28 (by decide) (by decide) : α' 7028 g = α 7028 g), (hv 29 (by decide) (by decide) : α' 7029 g = α 7029 g), (hv 30 (by decide) (by decide) : α' 7030 g = α 7030 g), (hv 31 (by decide) (by decide) : α' 7031 g = α 7031 g), (hv 32 (by decide) (by decide) : α' 7032 g = α 7032 g), (hv 36 (by decide) (by decide) : α' 7036 g = α 7036 g), (hv 37 (by decide) (by decide) : α' 7037 g = α 7037 g), (hv 38 (by decide) (by decide) : α' 7038 g = α 7038 g), (hv 39 (by decide) (by decide) : α' 7039 g = α 7039 g)]) hat
theorem cg_all (hcl : Cl Lv) (hrv : Rv Lv S) (ha : ∀ k g, Lv k g → α' k g = α k g)  {k g : Nat} (hv : ∀ j, j < 100 → 100 ≤ k → α' (1000 + 100 * (k - 100) + j) g = α (1000 + 100 * (k - 100) + j) g) (hl : Lv k g) (hat : va_at D vwCl (q, ce cs α S k g) H) : va_at D vwCl (q, ce cs α' S k g) H := by
  by_cases h0 : k = 0
  · subst h0; exact cg_0 hcl hrv ha hv hl hat
  by_cases h1 : k = 1
  · subst h1; exact cg_1 hcl hrv ha hv hl hat
  by_cases h2 : k = 2
  · subst h2; exact cg_2 hcl hrv ha hv hl hat
  by_cases h3 : k = 3
  · subst h3; exact cg_3 hcl hrv ha hv hl hat
  by_cases h4 : k = 4
  · subst h4; exact cg_4 hcl hrv ha hv hl hat
  by_cases h5 : k = 5
  · subst h5; exact cg_5 hcl hrv ha hv hl hat
  by_cases h6 : k = 6
  · subst h6; exact cg_6 hcl hrv ha hv hl hat
  by_cases h7 : k = 7
  · subst h7; exact cg_7 hcl hrv ha hv hl hat
  by_cases h8 : k = 8
  · subst h8; exact cg_8 hcl hrv ha hv hl hat
  by_cases h9 : k = 9
  · subst h9; exact cg_9 hcl hrv ha hv hl hat
  by_cases h10 : k = 10
  · subst h10; exact cg_10 hcl hrv ha hv hl hat
  by_cases h11 : k = 11
  · subst h11; exact cg_11 hcl hrv ha hv hl hat
  by_cases h12 : k = 12
  · subst h12; exact cg_12 hcl hrv ha hv hl hat
  by_cases h13 : k = 13
  · subst h13; exact cg_13 hcl hrv ha hv hl hat
  by_cases h14 : k = 14
  · subst h14; exact cg_14 hcl hrv ha hv hl hat
  by_cases h15 : k = 15
  · subst h15; exact cg_15 hcl hrv ha hv hl hat
  by_cases h16 : k = 16
  · subst h16; exact cg_16 hcl hrv ha hv hl hat
  by_cases h17 : k = 17
  · subst h17; exact cg_17 hcl hrv ha hv hl hat
  by_cases h18 : k = 18
  · subst h18; exact cg_18 hcl hrv ha hv hl hat
  by_cases h19 : k = 19
  · subst h19; exact cg_19 hcl hrv ha hv hl hat
  by_cases h20 : k = 20
  · subst h20; exact cg_20 hcl hrv ha hv hl hat
  by_cases h21 : k = 21
  · subst h21; exact cg_21 hcl hrv ha hv hl hat
  by_cases h22 : k = 22
  · subst h22; exact cg_22 hcl hrv ha hv hl hat
  by_cases h23 : k = 23
  · subst h23; exact cg_23 hcl hrv ha hv hl hat
  by_cases h24 : k = 24
  · subst h24; exact cg_24 hcl hrv ha hv hl hat
  by_cases h25 : k = 25
  · subst h25; exact cg_25 hcl hrv ha hv hl hat
  by_cases h26 : k = 26
  · subst h26; exact cg_26 hcl hrv ha hv hl hat
  by_cases h27 : k = 27
  · subst h27; exact cg_27 hcl hrv ha hv hl hat
  by_cases h28 : k = 28
  · subst h28; exact cg_28 hcl hrv ha hv hl hat
  by_cases h29 : k = 29
  · subst h29; exact cg_29 hcl hrv ha hv hl hat
  by_cases h30 : k = 30
  · subst h30; exact cg_30 hcl hrv ha hv hl hat
  by_cases h31 : k = 31
  · subst h31; exact cg_31 hcl hrv ha hv hl hat
  by_cases h32 : k = 32
  · subst h32; exact cg_32 hcl hrv ha hv hl hat
  by_cases h33 : k = 33
  · subst h33; exact cg_33 hcl hrv ha hv hl hat
  by_cases h34 : k = 34
  · subst h34; exact cg_34 hcl hrv ha hv hl hat
  by_cases h35 : k = 35
  · subst h35; exact cg_35 hcl hrv ha hv hl hat
  by_cases h36 : k = 36
  · subst h36; exact cg_36 hcl hrv ha hv hl hat
  by_cases h37 : k = 37
  · subst h37; exact cg_37 hcl hrv ha hv hl hat
  by_cases h38 : k = 38
  · subst h38; exact cg_38 hcl hrv ha hv hl hat
  by_cases h39 : k = 39
  · subst h39; exact cg_39 hcl hrv ha hv hl hat
  by_cases h40 : k = 40
  · subst h40; exact cg_40 hcl hrv ha hv hl hat
  by_cases h41 : k = 41
  · subst h41; exact cg_41 hcl hrv ha hv hl hat
  by_cases h42 : k = 42
  · subst h42; exact cg_42 hcl hrv ha hv hl hat
  by_cases h43 : k = 43
  · subst h43; exact cg_43 hcl hrv ha hv hl hat
  by_cases h44 : k = 44
  · subst h44; exact cg_44 hcl hrv ha hv hl hat
  by_cases h45 : k = 45
  · subst h45; exact cg_45 hcl hrv ha hv hl hat
  by_cases h46 : k = 46
  · subst h46; exact cg_46 hcl hrv ha hv hl hat
  by_cases h47 : k = 47
  · subst h47; exact cg_47 hcl hrv ha hv hl hat
  by_cases h48 : k = 48
  · subst h48; exact cg_48 hcl hrv ha hv hl hat
  by_cases h49 : k = 49
  · subst h49; exact cg_49 hcl hrv ha hv hl hat
  by_cases h50 : k = 50
  · subst h50; exact cg_50 hcl hrv ha hv hl hat
  by_cases h51 : k = 51
  · subst h51; exact cg_51 hcl hrv ha hv hl hat
  by_cases h52 : k = 52
  · subst h52; exact cg_52 hcl hrv ha hv hl hat
  by_cases h53 : k = 53
  · subst h53; exact cg_53 hcl hrv ha hv hl hat
  by_cases h54 : k = 54
  · subst h54; exact cg_54 hcl hrv ha hv hl hat
  by_cases h55 : k = 55
  · subst h55; exact cg_55 hcl hrv ha hv hl hat
  by_cases h56 : k = 56
  · subst h56; exact cg_56 hcl hrv ha hv hl hat
  by_cases h57 : k = 57
  · subst h57; exact cg_57 hcl hrv ha hv hl hat
  by_cases h58 : k = 58
  · subst h58; exact cg_58 hcl hrv ha hv hl hat
  by_cases h60 : k = 60
  · subst h60; exact cg_60 hcl hrv ha hv hl hat
  by_cases h61 : k = 61
  · subst h61; exact cg_61 hcl hrv ha hv hl hat
  by_cases h62 : k = 62
  · subst h62; exact cg_62 hcl hrv ha hv hl hat
  by_cases h63 : k = 63
  · subst h63; exact cg_63 hcl hrv ha hv hl hat
  by_cases h64 : k = 64
  · subst h64; exact cg_64 hcl hrv ha hv hl hat
  by_cases h65 : k = 65
  · subst h65; exact cg_65 hcl hrv ha hv hl hat
  by_cases h66 : k = 66
  · subst h66; exact cg_66 hcl hrv ha hv hl hat
  by_cases h67 : k = 67
  · subst h67; exact cg_67 hcl hrv ha hv hl hat
  by_cases h68 : k = 68
  · subst h68; exact cg_68 hcl hrv ha hv hl hat
  by_cases h69 : k = 69
  · subst h69; exact cg_69 hcl hrv ha hv hl hat
  by_cases h70 : k = 70
  · subst h70; exact cg_70 hcl hrv ha hv hl hat
  by_cases h71 : k = 71
  · subst h71; exact cg_71 hcl hrv ha hv hl hat
  by_cases h72 : k = 72
  · subst h72; exact cg_72 hcl hrv ha hv hl hat
  by_cases h73 : k = 73
  · subst h73; exact cg_73 hcl hrv ha hv hl hat
  by_cases h74 : k = 74
  · subst h74; exact cg_74 hcl hrv ha hv hl hat
  by_cases h75 : k = 75
  · subst h75; exact cg_75 hcl hrv ha hv hl hat
  by_cases h76 : k = 76
  · subst h76; exact cg_76 hcl hrv ha hv hl hat
  by_cases h77 : k = 77
  · subst h77; exact cg_77 hcl hrv ha hv hl hat
  by_cases h78 : k = 78
  · subst h78; exact cg_78 hcl hrv ha hv hl hat
  by_cases h79 : k = 79
  · subst h79; exact cg_79 hcl hrv ha hv hl hat
  by_cases h80 : k = 80
  · subst h80; exact cg_80 hcl hrv ha hv hl hat
  by_cases h81 : k = 81
  · subst h81; exact cg_81 hcl hrv ha hv hl hat
  by_cases h100 : k = 100
  · subst h100; exact cg_100 hcl hrv ha hv hl hat
  by_cases h102 : k = 102
  · subst h102; exact cg_102 hcl hrv ha hv hl hat
  by_cases h109 : k = 109
  · subst h109; exact cg_109 hcl hrv ha hv hl hat
  by_cases h114 : k = 114
  · subst h114; exact cg_114 hcl hrv ha hv hl hat
  by_cases h117 : k = 117
  · subst h117; exact cg_117 hcl hrv ha hv hl hat
  by_cases h122 : k = 122
  · subst h122; exact cg_122 hcl hrv ha hv hl hat
  by_cases h128 : k = 128
  · subst h128; exact cg_128 hcl hrv ha hv hl hat
  by_cases h132 : k = 132
  · subst h132; exact cg_132 hcl hrv ha hv hl hat
  by_cases h135 : k = 135
  · subst h135; exact cg_135 hcl hrv ha hv hl hat
  by_cases h136 : k = 136
  · subst h136; exact cg_136 hcl hrv ha hv hl hat
  by_cases h144 : k = 144
  · subst h144; exact cg_144 hcl hrv ha hv hl hat
  by_cases h149 : k = 149
  · subst h149; exact cg_149 hcl hrv ha hv hl hat
  by_cases h160 : k = 160
  · subst h160; exact cg_160 hcl hrv ha hv hl hat
  have e : ∀ β : Nat → Nat → Nat, ce cs β S k g = .inr (0, []) := fun β => by
    unfold ce ce0
    split <;> first | rfl | (exact absurd rfl (by assumption))
  rw [e] at hat ⊢
  exact hat
theorem ce_no {S' : St} {k g : Nat} (h1 : gi S' k g = gi S k g) (h2 : gl S' k g = gl S k g) (h3 : gr S' k g = gr S k g) (h4 : gn S' k g = gn S k g) : ce cs α S' k g = ce cs α S k g := by
  unfold ce
  rw [h1, h2, h3, h4]
end CG
/-- one more live cell -/
def adL (Lv : Nat → Nat → Prop) (K G : Nat) : Nat → Nat → Prop := fun k g => (k = K ∧ g = G) ∨ Lv k g
theorem adL.s {Lv : Nat → Nat → Prop} {K G : Nat} : adL Lv K G K G := Or.inl ⟨rfl, rfl⟩
theorem adL.o {Lv : Nat → Nat → Prop} {K G k g : Nat} (h : Lv k g) : adL Lv K G k g := Or.inr h
section AL
variable {s : State} {D : va_G} {cs : Nat → ClassId} {B0 : Nat} {α : Nat → Nat → Nat} {Lv : Nat → Nat → Prop} {S S' : St} {H H1 : Heap} {locs : List Loc}
/-- a new cell behind the heap's end becomes live as K G -/
theorem Dy.new (hd : Dy s D cs B0 α Lv S H locs) (hcl : Cl Lv) (hB : B0 ≤ H.size) {K G : Nat} (hK : K < 1000) (hn : ¬ Lv K G) (hat : va_at D vwCl (H.size, ce cs (up2 α K G H.size) S' K G) H1) (z : H.size ≤ H1.size) (oq : ∀ q, q < H.size → H1[q]? = H[q]?)
    (hS : ∀ k g, ¬ (k = K ∧ g = G) → gi S' k g = gi S k g ∧ gl S' k g = gl S k g ∧ gr S' k g = gr S k g ∧ gn S' k g = gn S k g) (hrK : ∀ j, gr S' K G j = none) : Dy s D cs B0 (up2 α K G H.size) (adL Lv K G) S' H1 locs := by
  obtain ⟨⟨s1, s2, s3⟩, w1, w2, w3, w4⟩ := hd
  have hne : ∀ k g, Lv k g → ¬ (k = K ∧ g = G) := fun k g hl e => hn (by rw [← e.1, ← e.2]; exact hl)
  have ha : ∀ k g, Lv k g → up2 α K G H.size k g = α k g := fun k g hl => up2_n (hne k g hl)
  have hv : ∀ k g, 1000 ≤ k → up2 α K G H.size k g = α k g := fun k g hk => up2_n (fun e => by omega)
  have hlt : ∀ k g, Lv k g → α k g < H.size := fun k g hl => (w1 k g hl).lt
  refine ⟨⟨Nat.le_trans s1 z, fun q h1 h2 => (oq q (Nat.lt_of_lt_of_le h1 s1)).trans (s2 q h1 h2), s3⟩, ?_, ?_, ?_, ?_⟩
  · intro k g hl
    rcases hl with ⟨rfl, rfl⟩ | hl
    · rw [up2_s]; exact hat
    · rw [ha k g hl]
      have h0 := cg_all hcl w4 ha (fun j _ _ => hv _ _ (by omega)) hl ((w1 k g hl).kept (oq _ (hlt k g hl)))
      obtain ⟨e1, e2, e3, e4⟩ := hS k g (hne k g hl)
      exact at_eq (ce_no e1 e2 e3 e4) h0
  · intro k g k' g' hl hl' he
    rcases hl with ⟨rfl, rfl⟩ | hl <;> rcases hl' with ⟨rfl, rfl⟩ | hl'
    · exact ⟨rfl, rfl⟩
    · rw [up2_s, ha k' g' hl'] at he
      exact absurd he.symm (Nat.ne_of_lt (hlt k' g' hl'))
    · rw [up2_s, ha k g hl] at he
      exact absurd he (Nat.ne_of_lt (hlt k g hl))
    · rw [ha k g hl, ha k' g' hl'] at he
      exact w2 k g k' g' hl hl' he
  · intro k g hl
    rcases hl with ⟨rfl, rfl⟩ | hl
    · rw [up2_s]; exact hB
    · rw [ha k g hl]; exact w3 k g hl
  · have key : ∀ k0 t0, (∀ g j r, Lv k0 g → gr S k0 g j = some r → Lv t0 r) → ∀ g j r, adL Lv K G k0 g → gr S' k0 g j = some r → adL Lv K G t0 r := by
      intro k0 t0 h0 g j r hl hr
      rcases hl with ⟨rfl, rfl⟩ | hl
      · rw [hrK] at hr; cases hr
      · rw [(hS k0 g (hne k0 g hl)).2.2.1] at hr
        exact Or.inr (h0 g j r hl hr)
    exact ⟨key 1 2 w4.1, key 2 35 w4.2.1, key 8 32 w4.2.2⟩
/-- a raw slot gets a reference -/
theorem Dy.raw {locs1 : List Loc} (hd : Dy s D cs B0 α Lv S H locs) (hcl : Cl Lv) (hlt : ∀ k g, Lv k g → k < 1000) {K V k j g x : Nat} (hK : K = 100 + k) (hV : V = 1000 + 100 * k + j) (hj : j < 100) (hl : Lv K g) (he : va_at D vwCl (α K g, ce cs (up2 α V g x) S K g) H1) (z : H1.size = H.size) (oq : ∀ q : Nat, q ≠ α K g → H1[q]? = H[q]?) (hlo : ∀ x ∈ locs1, x ∈ locs ∨ x.base = α K g) : Dy s D cs B0 (up2 α V g x) Lv S H1 locs1 := by
  obtain ⟨⟨s1, s2, s3⟩, w1, w2, w3, w4⟩ := hd
  have ha : ∀ k g', Lv k g' → up2 α V g x k g' = α k g' := fun k g' hl => up2_n (fun e => by have := hlt k g' hl; omega)
  refine ⟨⟨by rw [z]; exact s1, fun q h1 h2 => ?_, fun q hq => ?_⟩, fun k' g' hl' => ?_, fun k1 g1 k2 g2 h1 h2 he => ?_, fun k' g' hl' => ?_, w4⟩
  · rw [oq q (fun e => h2 (by show B0 ≤ q; rw [e]; exact w3 K g hl))]
    exact s2 q h1 h2
  · rcases hlo q hq with h | h
    · exact s3 q h
    · show B0 ≤ q.base
      rw [h]; exact w3 K g hl
  · rw [ha k' g' hl']
    by_cases hk : k' = K ∧ g' = g
    · rw [hk.1, hk.2]; exact he
    · refine cg_all hcl w4 ha (fun j' hj' hk' => up2_n (fun e => hk ?_)) hl' ((w1 k' g' hl').kept (oq _ (fun e => hk (w2 k' g' K g hl' hl e))))
      exact ⟨by omega, e.2⟩
  · rw [ha k1 g1 h1, ha k2 g2 h2] at he
    exact w2 k1 g1 k2 g2 h1 h2 he
  · rw [ha k' g' hl']; exact w3 k' g' hl'
end AL
