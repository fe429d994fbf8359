theorem qc_isr (P : Int32 → Prop) (v : Int32) (h1 : qc_R8 v → P 1) (h0 : ¬ qc_R8 v → P 0) : wpX_isReg P () v := by
  rcases pk_ix v (n := 8) (by decide) with z | z | ⟨j, hj, rfl⟩
  · exact br_t z (h0 fun ⟨a, a8, e⟩ => absurd (e ▸ z) (nI_pos (by omega)))
  · refine br_f (fun w => absurd (Int32.lt_of_le_of_lt z w) (by decide)) (br_t z (h0 fun ⟨a, a8, e⟩ => ?_))
    rw [e] at z
    exact nI_ge a8 (by decide) z
  · exact br_f (nI_pos (by omega)) (br_f (nI_ge (b := 8) hj (by decide)) (h1 ⟨j, hj, rfl⟩))
theorem qc_isa (P : Int32 → Prop) (v : Int32) (h1 : qc_A6 v → P 1) (h0 : ¬ qc_A6 v → P 0) : wpX_isAddr P () v := by
  rcases pk_ix v (n := 64) (by decide) with z | z | ⟨j, hj, rfl⟩
  · exact br_t z (h0 fun ⟨a, a8, e⟩ => absurd (e ▸ z) (nI_pos (by omega)))
  · refine br_f (fun w => absurd (Int32.lt_of_le_of_lt z w) (by decide)) (br_t z (h0 fun ⟨a, a8, e⟩ => ?_))
    rw [e] at z
    exact nI_ge a8 (by decide) z
  · exact br_f (nI_pos (by omega)) (br_f (nI_ge (b := 64) hj (by decide)) (h1 ⟨j, hj, rfl⟩))
theorem qc_nr0 : narrow .boolean (.int 0) = .int 0 := by first | rfl | decide
theorem qc_nr1 : narrow .boolean (.int 1) = .int 1 := by first | rfl | decide
theorem qc_x92 (P : Int32 → Prop) (a : Int32) (h1 : qc_R8 a → P 1) (h0 : ¬ qc_R8 a → P 0) : wX_operandsFit_92 P a :=
  qc_isr _ _ (fun z => ⟨qc_nr1, h1 z⟩) (fun z => ⟨qc_nr0, h0 z⟩)
theorem qc_x97 (P : Int32 → Prop) (a b : Int32) (h1 : qc_R8 a ∧ qc_R8 b → P 1) (h0 : ¬ (qc_R8 a ∧ qc_R8 b) → P 0) : wX_operandsFit_97 P a b :=
  qc_isr _ _ (fun z => br_f (by decide) (qc_isr _ _ (fun y => br_f (by decide) (h1 ⟨z, y⟩)) (fun y => br_t rfl (h0 fun w => y w.2)))) (fun z => br_t rfl (h0 fun w => z w.1))
theorem qc_x117 (P : Int32 → Prop) (a b c : Int32) (h1 : qc_R8 a ∧ qc_R8 b ∧ qc_R8 c → P 1) (h0 : ¬ (qc_R8 a ∧ qc_R8 b ∧ qc_R8 c) → P 0) : wX_operandsFit_117 P a b c :=
  qc_isr _ _ (fun z => br_f (by decide) (qc_isr _ _ (fun y => br_f (by decide) (qc_isr _ _ (fun x => br_f (by decide) (h1 ⟨z, y, x⟩)) (fun x => br_t rfl (h0 fun w => x w.2.2)))) (fun y => br_t rfl (h0 fun w => y w.2.1)))) (fun z => br_t rfl (h0 fun w => z w.1))
theorem qc_x149 (P : Int32 → Prop) (a b : Int32) (h1 : qc_R8 a ∧ qc_A6 b → P 1) (h0 : ¬ (qc_R8 a ∧ qc_A6 b) → P 0) : wX_operandsFit_149 P a b :=
  qc_isr _ _ (fun z => br_f (by decide) (qc_isa _ _ (fun y => br_f (by decide) (h1 ⟨z, y⟩)) (fun y => br_t rfl (h0 fun w => y w.2)))) (fun z => br_t rfl (h0 fun w => z w.1))
theorem qc_F0 (a b c : Int32) : qc_Fit 0 a b c ↔ (qc_R8 a) := by
  simp only [qc_Fit, show ((0 : Int32) = 1) = False from eq_false (by decide), show ((0 : Int32) = 2) = False from eq_false (by decide), show ((0 : Int32) = 3) = False from eq_false (by decide), show ((0 : Int32) = 4) = False from eq_false (by decide), show ((0 : Int32) = 5) = False from eq_false (by decide), show ((0 : Int32) = 6) = False from eq_false (by decide), show ((0 : Int32) = 7) = False from eq_false (by decide), show ((0 : Int32) = 8) = False from eq_false (by decide), show ((0 : Int32) = 9) = False from eq_false (by decide), show ((0 : Int32) = 10) = False from eq_false (by decide), show ((0 : Int32) = 11) = False from eq_false (by decide), show ((0 : Int32) = 12) = False from eq_false (by decide), show ((0 : Int32) = 13) = False from eq_false (by decide), show ((0 : Int32) = 14) = False from eq_false (by decide), show ((0 : Int32) = 15) = False from eq_false (by decide), show ((0 : Int32) = 16) = False from eq_false (by decide), show ((0 : Int32) = 17) = False from eq_false (by decide), show ((0 : Int32) = 18) = False from eq_false (by decide), or_false, false_or, false_and, true_or, or_true, true_and]
theorem qc_F1 (a b c : Int32) : qc_Fit 1 a b c ↔ (qc_R8 a ∧ qc_R8 b) := by
  simp only [qc_Fit, show ((1 : Int32) = 0) = False from eq_false (by decide), show ((1 : Int32) = 2) = False from eq_false (by decide), show ((1 : Int32) = 3) = False from eq_false (by decide), show ((1 : Int32) = 4) = False from eq_false (by decide), show ((1 : Int32) = 5) = False from eq_false (by decide), show ((1 : Int32) = 6) = False from eq_false (by decide), show ((1 : Int32) = 7) = False from eq_false (by decide), show ((1 : Int32) = 8) = False from eq_false (by decide), show ((1 : Int32) = 9) = False from eq_false (by decide), show ((1 : Int32) = 10) = False from eq_false (by decide), show ((1 : Int32) = 11) = False from eq_false (by decide), show ((1 : Int32) = 12) = False from eq_false (by decide), show ((1 : Int32) = 13) = False from eq_false (by decide), show ((1 : Int32) = 14) = False from eq_false (by decide), show ((1 : Int32) = 15) = False from eq_false (by decide), show ((1 : Int32) = 16) = False from eq_false (by decide), show ((1 : Int32) = 17) = False from eq_false (by decide), show ((1 : Int32) = 18) = False from eq_false (by decide), or_false, false_or, false_and, true_or, or_true, true_and]
theorem qc_F2 (a b c : Int32) : qc_Fit 2 a b c ↔ (qc_R8 a ∧ qc_R8 b ∧ qc_R8 c) := by
  simp only [qc_Fit, show ((2 : Int32) = 0) = False from eq_false (by decide), show ((2 : Int32) = 1) = False from eq_false (by decide), show ((2 : Int32) = 3) = False from eq_false (by decide), show ((2 : Int32) = 4) = False from eq_false (by decide), show ((2 : Int32) = 5) = False from eq_false (by decide), show ((2 : Int32) = 6) = False from eq_false (by decide), show ((2 : Int32) = 7) = False from eq_false (by decide), show ((2 : Int32) = 8) = False from eq_false (by decide), show ((2 : Int32) = 9) = False from eq_false (by decide), show ((2 : Int32) = 10) = False from eq_false (by decide), show ((2 : Int32) = 11) = False from eq_false (by decide), show ((2 : Int32) = 12) = False from eq_false (by decide), show ((2 : Int32) = 13) = False from eq_false (by decide), show ((2 : Int32) = 14) = False from eq_false (by decide), show ((2 : Int32) = 15) = False from eq_false (by decide), show ((2 : Int32) = 16) = False from eq_false (by decide), show ((2 : Int32) = 17) = False from eq_false (by decide), show ((2 : Int32) = 18) = False from eq_false (by decide), or_false, false_or, false_and, true_or, or_true, true_and]
theorem qc_F3 (a b c : Int32) : qc_Fit 3 a b c ↔ (qc_R8 a ∧ qc_R8 b ∧ qc_R8 c) := by
  simp only [qc_Fit, show ((3 : Int32) = 0) = False from eq_false (by decide), show ((3 : Int32) = 1) = False from eq_false (by decide), show ((3 : Int32) = 2) = False from eq_false (by decide), show ((3 : Int32) = 4) = False from eq_false (by decide), show ((3 : Int32) = 5) = False from eq_false (by decide), show ((3 : Int32) = 6) = False from eq_false (by decide), show ((3 : Int32) = 7) = False from eq_false (by decide), show ((3 : Int32) = 8) = False from eq_false (by decide), show ((3 : Int32) = 9) = False from eq_false (by decide), show ((3 : Int32) = 10) = False from eq_false (by decide), show ((3 : Int32) = 11) = False from eq_false (by decide), show ((3 : Int32) = 12) = False from eq_false (by decide), show ((3 : Int32) = 13) = False from eq_false (by decide), show ((3 : Int32) = 14) = False from eq_false (by decide), show ((3 : Int32) = 15) = False from eq_false (by decide), show ((3 : Int32) = 16) = False from eq_false (by decide), show ((3 : Int32) = 17) = False from eq_false (by decide), show ((3 : Int32) = 18) = False from eq_false (by decide), or_false, false_or, false_and, true_or, or_true, true_and]
theorem qc_F4 (a b c : Int32) : qc_Fit 4 a b c ↔ (qc_R8 a ∧ qc_R8 b ∧ qc_R8 c) := by
  simp only [qc_Fit, show ((4 : Int32) = 0) = False from eq_false (by decide), show ((4 : Int32) = 1) = False from eq_false (by decide), show ((4 : Int32) = 2) = False from eq_false (by decide), show ((4 : Int32) = 3) = False from eq_false (by decide), show ((4 : Int32) = 5) = False from eq_false (by decide), show ((4 : Int32) = 6) = False from eq_false (by decide), show ((4 : Int32) = 7) = False from eq_false (by decide), show ((4 : Int32) = 8) = False from eq_false (by decide), show ((4 : Int32) = 9) = False from eq_false (by decide), show ((4 : Int32) = 10) = False from eq_false (by decide), show ((4 : Int32) = 11) = False from eq_false (by decide), show ((4 : Int32) = 12) = False from eq_false (by decide), show ((4 : Int32) = 13) = False from eq_false (by decide), show ((4 : Int32) = 14) = False from eq_false (by decide), show ((4 : Int32) = 15) = False from eq_false (by decide), show ((4 : Int32) = 16) = False from eq_false (by decide), show ((4 : Int32) = 17) = False from eq_false (by decide), show ((4 : Int32) = 18) = False from eq_false (by decide), or_false, false_or, false_and, true_or, or_true, true_and]
theorem qc_F5 (a b c : Int32) : qc_Fit 5 a b c ↔ (qc_A6 a) := by
  simp only [qc_Fit, show ((5 : Int32) = 0) = False from eq_false (by decide), show ((5 : Int32) = 1) = False from eq_false (by decide), show ((5 : Int32) = 2) = False from eq_false (by decide), show ((5 : Int32) = 3) = False from eq_false (by decide), show ((5 : Int32) = 4) = False from eq_false (by decide), show ((5 : Int32) = 6) = False from eq_false (by decide), show ((5 : Int32) = 7) = False from eq_false (by decide), show ((5 : Int32) = 8) = False from eq_false (by decide), show ((5 : Int32) = 9) = False from eq_false (by decide), show ((5 : Int32) = 10) = False from eq_false (by decide), show ((5 : Int32) = 11) = False from eq_false (by decide), show ((5 : Int32) = 12) = False from eq_false (by decide), show ((5 : Int32) = 13) = False from eq_false (by decide), show ((5 : Int32) = 14) = False from eq_false (by decide), show ((5 : Int32) = 15) = False from eq_false (by decide), show ((5 : Int32) = 16) = False from eq_false (by decide), show ((5 : Int32) = 17) = False from eq_false (by decide), show ((5 : Int32) = 18) = False from eq_false (by decide), or_false, false_or, false_and, true_or, or_true, true_and]
theorem qc_F6 (a b c : Int32) : qc_Fit 6 a b c ↔ (qc_R8 a ∧ qc_A6 b) := by
  simp only [qc_Fit, show ((6 : Int32) = 0) = False from eq_false (by decide), show ((6 : Int32) = 1) = False from eq_false (by decide), show ((6 : Int32) = 2) = False from eq_false (by decide), show ((6 : Int32) = 3) = False from eq_false (by decide), show ((6 : Int32) = 4) = False from eq_false (by decide), show ((6 : Int32) = 5) = False from eq_false (by decide), show ((6 : Int32) = 7) = False from eq_false (by decide), show ((6 : Int32) = 8) = False from eq_false (by decide), show ((6 : Int32) = 9) = False from eq_false (by decide), show ((6 : Int32) = 10) = False from eq_false (by decide), show ((6 : Int32) = 11) = False from eq_false (by decide), show ((6 : Int32) = 12) = False from eq_false (by decide), show ((6 : Int32) = 13) = False from eq_false (by decide), show ((6 : Int32) = 14) = False from eq_false (by decide), show ((6 : Int32) = 15) = False from eq_false (by decide), show ((6 : Int32) = 16) = False from eq_false (by decide), show ((6 : Int32) = 17) = False from eq_false (by decide), show ((6 : Int32) = 18) = False from eq_false (by decide), or_false, false_or, false_and, true_or, or_true, true_and]
theorem qc_F7 (a b c : Int32) : qc_Fit 7 a b c ↔ (qc_R8 a ∧ qc_A6 b ∧ qc_R8 c) := by
  simp only [qc_Fit, show ((7 : Int32) = 0) = False from eq_false (by decide), show ((7 : Int32) = 1) = False from eq_false (by decide), show ((7 : Int32) = 2) = False from eq_false (by decide), show ((7 : Int32) = 3) = False from eq_false (by decide), show ((7 : Int32) = 4) = False from eq_false (by decide), show ((7 : Int32) = 5) = False from eq_false (by decide), show ((7 : Int32) = 6) = False from eq_false (by decide), show ((7 : Int32) = 8) = False from eq_false (by decide), show ((7 : Int32) = 9) = False from eq_false (by decide), show ((7 : Int32) = 10) = False from eq_false (by decide), show ((7 : Int32) = 11) = False from eq_false (by decide), show ((7 : Int32) = 12) = False from eq_false (by decide), show ((7 : Int32) = 13) = False from eq_false (by decide), show ((7 : Int32) = 14) = False from eq_false (by decide), show ((7 : Int32) = 15) = False from eq_false (by decide), show ((7 : Int32) = 16) = False from eq_false (by decide), show ((7 : Int32) = 17) = False from eq_false (by decide), show ((7 : Int32) = 18) = False from eq_false (by decide), or_false, false_or, false_and, true_or, or_true, true_and]
theorem qc_F8 (a b c : Int32) : qc_Fit 8 a b c ↔ (qc_R8 a) := by
  simp only [qc_Fit, show ((8 : Int32) = 0) = False from eq_false (by decide), show ((8 : Int32) = 1) = False from eq_false (by decide), show ((8 : Int32) = 2) = False from eq_false (by decide), show ((8 : Int32) = 3) = False from eq_false (by decide), show ((8 : Int32) = 4) = False from eq_false (by decide), show ((8 : Int32) = 5) = False from eq_false (by decide), show ((8 : Int32) = 6) = False from eq_false (by decide), show ((8 : Int32) = 7) = False from eq_false (by decide), show ((8 : Int32) = 9) = False from eq_false (by decide), show ((8 : Int32) = 10) = False from eq_false (by decide), show ((8 : Int32) = 11) = False from eq_false (by decide), show ((8 : Int32) = 12) = False from eq_false (by decide), show ((8 : Int32) = 13) = False from eq_false (by decide), show ((8 : Int32) = 14) = False from eq_false (by decide), show ((8 : Int32) = 15) = False from eq_false (by decide), show ((8 : Int32) = 16) = False from eq_false (by decide), show ((8 : Int32) = 17) = False from eq_false (by decide), show ((8 : Int32) = 18) = False from eq_false (by decide), or_false, false_or, false_and, true_or, or_true, true_and]
theorem qc_F9 (a b c : Int32) : qc_Fit 9 a b c ↔ (qc_R8 a) := by
  simp only [qc_Fit, show ((9 : Int32) = 0) = False from eq_false (by decide), show ((9 : Int32) = 1) = False from eq_false (by decide), show ((9 : Int32) = 2) = False from eq_false (by decide), show ((9 : Int32) = 3) = False from eq_false (by decide), show ((9 : Int32) = 4) = False from eq_false (by decide), show ((9 : Int32) = 5) = False from eq_false (by decide), show ((9 : Int32) = 6) = False from eq_false (by decide), show ((9 : Int32) = 7) = False from eq_false (by decide), show ((9 : Int32) = 8) = False from eq_false (by decide), show ((9 : Int32) = 10) = False from eq_false (by decide), show ((9 : Int32) = 11) = False from eq_false (by decide), show ((9 : Int32) = 12) = False from eq_false (by decide), show ((9 : Int32) = 13) = False from eq_false (by decide), show ((9 : Int32) = 14) = False from eq_false (by decide), show ((9 : Int32) = 15) = False from eq_false (by decide), show ((9 : Int32) = 16) = False from eq_false (by decide), show ((9 : Int32) = 17) = False from eq_false (by decide), show ((9 : Int32) = 18) = False from eq_false (by decide), or_false, false_or, false_and, true_or, or_true, true_and]
theorem qc_F10 (a b c : Int32) : qc_Fit 10 a b c ↔ (qc_R8 a) := by
  simp only [qc_Fit, show ((10 : Int32) = 0) = False from eq_false (by decide), show ((10 : Int32) = 1) = False from eq_false (by decide), show ((10 : Int32) = 2) = False from eq_false (by decide), show ((10 : Int32) = 3) = False from eq_false (by decide), show ((10 : Int32) = 4) = False from eq_false (by decide), show ((10 : Int32) = 5) = False from eq_false (by decide), show ((10 : Int32) = 6) = False from eq_false (by decide), show ((10 : Int32) = 7) = False from eq_false (by decide), show ((10 : Int32) = 8) = False from eq_false (by decide), show ((10 : Int32) = 9) = False from eq_false (by decide), show ((10 : Int32) = 11) = False from eq_false (by decide), show ((10 : Int32) = 12) = False from eq_false (by decide), show ((10 : Int32) = 13) = False from eq_false (by decide), show ((10 : Int32) = 14) = False from eq_false (by decide), show ((10 : Int32) = 15) = False from eq_false (by decide), show ((10 : Int32) = 16) = False from eq_false (by decide), show ((10 : Int32) = 17) = False from eq_false (by decide), show ((10 : Int32) = 18) = False from eq_false (by decide), or_false, false_or, false_and, true_or, or_true, true_and]
theorem qc_F11 (a b c : Int32) : qc_Fit 11 a b c ↔ (qc_R8 a) := by
  simp only [qc_Fit, show ((11 : Int32) = 0) = False from eq_false (by decide), show ((11 : Int32) = 1) = False from eq_false (by decide), show ((11 : Int32) = 2) = False from eq_false (by decide), show ((11 : Int32) = 3) = False from eq_false (by decide), show ((11 : Int32) = 4) = False from eq_false (by decide), show ((11 : Int32) = 5) = False from eq_false (by decide), show ((11 : Int32) = 6) = False from eq_false (by decide), show ((11 : Int32) = 7) = False from eq_false (by decide), show ((11 : Int32) = 8) = False from eq_false (by decide), show ((11 : Int32) = 9) = False from eq_false (by decide), show ((11 : Int32) = 10) = False from eq_false (by decide), show ((11 : Int32) = 12) = False from eq_false (by decide), show ((11 : Int32) = 13) = False from eq_false (by decide), show ((11 : Int32) = 14) = False from eq_false (by decide), show ((11 : Int32) = 15) = False from eq_false (by decide), show ((11 : Int32) = 16) = False from eq_false (by decide), show ((11 : Int32) = 17) = False from eq_false (by decide), show ((11 : Int32) = 18) = False from eq_false (by decide), or_false, false_or, false_and, true_or, or_true, true_and]
theorem qc_F12 (a b c : Int32) : qc_Fit 12 a b c ↔ (qc_R8 a ∧ qc_A6 b) := by
  simp only [qc_Fit, show ((12 : Int32) = 0) = False from eq_false (by decide), show ((12 : Int32) = 1) = False from eq_false (by decide), show ((12 : Int32) = 2) = False from eq_false (by decide), show ((12 : Int32) = 3) = False from eq_false (by decide), show ((12 : Int32) = 4) = False from eq_false (by decide), show ((12 : Int32) = 5) = False from eq_false (by decide), show ((12 : Int32) = 6) = False from eq_false (by decide), show ((12 : Int32) = 7) = False from eq_false (by decide), show ((12 : Int32) = 8) = False from eq_false (by decide), show ((12 : Int32) = 9) = False from eq_false (by decide), show ((12 : Int32) = 10) = False from eq_false (by decide), show ((12 : Int32) = 11) = False from eq_false (by decide), show ((12 : Int32) = 13) = False from eq_false (by decide), show ((12 : Int32) = 14) = False from eq_false (by decide), show ((12 : Int32) = 15) = False from eq_false (by decide), show ((12 : Int32) = 16) = False from eq_false (by decide), show ((12 : Int32) = 17) = False from eq_false (by decide), show ((12 : Int32) = 18) = False from eq_false (by decide), or_false, false_or, false_and, true_or, or_true, true_and]
theorem qc_F13 (a b c : Int32) : qc_Fit 13 a b c ↔ (qc_R8 a ∧ qc_R8 b ∧ qc_R8 c) := by
  simp only [qc_Fit, show ((13 : Int32) = 0) = False from eq_false (by decide), show ((13 : Int32) = 1) = False from eq_false (by decide), show ((13 : Int32) = 2) = False from eq_false (by decide), show ((13 : Int32) = 3) = False from eq_false (by decide), show ((13 : Int32) = 4) = False from eq_false (by decide), show ((13 : Int32) = 5) = False from eq_false (by decide), show ((13 : Int32) = 6) = False from eq_false (by decide), show ((13 : Int32) = 7) = False from eq_false (by decide), show ((13 : Int32) = 8) = False from eq_false (by decide), show ((13 : Int32) = 9) = False from eq_false (by decide), show ((13 : Int32) = 10) = False from eq_false (by decide), show ((13 : Int32) = 11) = False from eq_false (by decide), show ((13 : Int32) = 12) = False from eq_false (by decide), show ((13 : Int32) = 14) = False from eq_false (by decide), show ((13 : Int32) = 15) = False from eq_false (by decide), show ((13 : Int32) = 16) = False from eq_false (by decide), show ((13 : Int32) = 17) = False from eq_false (by decide), show ((13 : Int32) = 18) = False from eq_false (by decide), or_false, false_or, false_and, true_or, or_true, true_and]
theorem qc_F14 (a b c : Int32) : qc_Fit 14 a b c ↔ (qc_R8 a ∧ qc_R8 b ∧ qc_R8 c) := by
  simp only [qc_Fit, show ((14 : Int32) = 0) = False from eq_false (by decide), show ((14 : Int32) = 1) = False from eq_false (by decide), show ((14 : Int32) = 2) = False from eq_false (by decide), show ((14 : Int32) = 3) = False from eq_false (by decide), show ((14 : Int32) = 4) = False from eq_false (by decide), show ((14 : Int32) = 5) = False from eq_false (by decide), show ((14 : Int32) = 6) = False from eq_false (by decide), show ((14 : Int32) = 7) = False from eq_false (by decide), show ((14 : Int32) = 8) = False from eq_false (by decide), show ((14 : Int32) = 9) = False from eq_false (by decide), show ((14 : Int32) = 10) = False from eq_false (by decide), show ((14 : Int32) = 11) = False from eq_false (by decide), show ((14 : Int32) = 12) = False from eq_false (by decide), show ((14 : Int32) = 13) = False from eq_false (by decide), show ((14 : Int32) = 15) = False from eq_false (by decide), show ((14 : Int32) = 16) = False from eq_false (by decide), show ((14 : Int32) = 17) = False from eq_false (by decide), show ((14 : Int32) = 18) = False from eq_false (by decide), or_false, false_or, false_and, true_or, or_true, true_and]
theorem qc_F15 (a b c : Int32) : qc_Fit 15 a b c ↔ (qc_R8 a ∧ qc_R8 b) := by
  simp only [qc_Fit, show ((15 : Int32) = 0) = False from eq_false (by decide), show ((15 : Int32) = 1) = False from eq_false (by decide), show ((15 : Int32) = 2) = False from eq_false (by decide), show ((15 : Int32) = 3) = False from eq_false (by decide), show ((15 : Int32) = 4) = False from eq_false (by decide), show ((15 : Int32) = 5) = False from eq_false (by decide), show ((15 : Int32) = 6) = False from eq_false (by decide), show ((15 : Int32) = 7) = False from eq_false (by decide), show ((15 : Int32) = 8) = False from eq_false (by decide), show ((15 : Int32) = 9) = False from eq_false (by decide), show ((15 : Int32) = 10) = False from eq_false (by decide), show ((15 : Int32) = 11) = False from eq_false (by decide), show ((15 : Int32) = 12) = False from eq_false (by decide), show ((15 : Int32) = 13) = False from eq_false (by decide), show ((15 : Int32) = 14) = False from eq_false (by decide), show ((15 : Int32) = 16) = False from eq_false (by decide), show ((15 : Int32) = 17) = False from eq_false (by decide), show ((15 : Int32) = 18) = False from eq_false (by decide), or_false, false_or, false_and, true_or, or_true, true_and]
theorem qc_F16 (a b c : Int32) : qc_Fit 16 a b c ↔ (qc_R8 a ∧ qc_R8 b) := by
  simp only [qc_Fit, show ((16 : Int32) = 0) = False from eq_false (by decide), show ((16 : Int32) = 1) = False from eq_false (by decide), show ((16 : Int32) = 2) = False from eq_false (by decide), show ((16 : Int32) = 3) = False from eq_false (by decide), show ((16 : Int32) = 4) = False from eq_false (by decide), show ((16 : Int32) = 5) = False from eq_false (by decide), show ((16 : Int32) = 6) = False from eq_false (by decide), show ((16 : Int32) = 7) = False from eq_false (by decide), show ((16 : Int32) = 8) = False from eq_false (by decide), show ((16 : Int32) = 9) = False from eq_false (by decide), show ((16 : Int32) = 10) = False from eq_false (by decide), show ((16 : Int32) = 11) = False from eq_false (by decide), show ((16 : Int32) = 12) = False from eq_false (by decide), show ((16 : Int32) = 13) = False from eq_false (by decide), show ((16 : Int32) = 14) = False from eq_false (by decide), show ((16 : Int32) = 15) = False from eq_false (by decide), show ((16 : Int32) = 17) = False from eq_false (by decide), show ((16 : Int32) = 18) = False from eq_false (by decide), or_false, false_or, false_and, true_or, or_true, true_and]
theorem qc_F17 (a b c : Int32) : qc_Fit 17 a b c ↔ (qc_R8 a ∧ qc_R8 b) := by
  simp only [qc_Fit, show ((17 : Int32) = 0) = False from eq_false (by decide), show ((17 : Int32) = 1) = False from eq_false (by decide), show ((17 : Int32) = 2) = False from eq_false (by decide), show ((17 : Int32) = 3) = False from eq_false (by decide), show ((17 : Int32) = 4) = False from eq_false (by decide), show ((17 : Int32) = 5) = False from eq_false (by decide), show ((17 : Int32) = 6) = False from eq_false (by decide), show ((17 : Int32) = 7) = False from eq_false (by decide), show ((17 : Int32) = 8) = False from eq_false (by decide), show ((17 : Int32) = 9) = False from eq_false (by decide), show ((17 : Int32) = 10) = False from eq_false (by decide), show ((17 : Int32) = 11) = False from eq_false (by decide), show ((17 : Int32) = 12) = False from eq_false (by decide), show ((17 : Int32) = 13) = False from eq_false (by decide), show ((17 : Int32) = 14) = False from eq_false (by decide), show ((17 : Int32) = 15) = False from eq_false (by decide), show ((17 : Int32) = 16) = False from eq_false (by decide), show ((17 : Int32) = 18) = False from eq_false (by decide), or_false, false_or, false_and, true_or, or_true, true_and]
theorem qc_F18 (a b c : Int32) : qc_Fit 18 a b c ↔ (qc_R8 a) := by
  simp only [qc_Fit, show ((18 : Int32) = 0) = False from eq_false (by decide), show ((18 : Int32) = 1) = False from eq_false (by decide), show ((18 : Int32) = 2) = False from eq_false (by decide), show ((18 : Int32) = 3) = False from eq_false (by decide), show ((18 : Int32) = 4) = False from eq_false (by decide), show ((18 : Int32) = 5) = False from eq_false (by decide), show ((18 : Int32) = 6) = False from eq_false (by decide), show ((18 : Int32) = 7) = False from eq_false (by decide), show ((18 : Int32) = 8) = False from eq_false (by decide), show ((18 : Int32) = 9) = False from eq_false (by decide), show ((18 : Int32) = 10) = False from eq_false (by decide), show ((18 : Int32) = 11) = False from eq_false (by decide), show ((18 : Int32) = 12) = False from eq_false (by decide), show ((18 : Int32) = 13) = False from eq_false (by decide), show ((18 : Int32) = 14) = False from eq_false (by decide), show ((18 : Int32) = 15) = False from eq_false (by decide), show ((18 : Int32) = 16) = False from eq_false (by decide), show ((18 : Int32) = 17) = False from eq_false (by decide), or_false, false_or, false_and, true_or, or_true, true_and]
theorem qc_xf0 (P : Int32 → Prop) (a b c : Int32) (h1 : qc_Fit 0 a b c → P 1) (h0 : ¬ qc_Fit 0 a b c → P 0) : wpX_operandsFit P () 0 a b c :=
  br_f (by decide) (br_f (by decide) (br_t rfl (qc_x92 P a (fun z => h1 ((qc_F0 a b c).mpr z)) (fun z => h0 (fun w => z ((qc_F0 a b c).mp w))))))
theorem qc_xf1 (P : Int32 → Prop) (a b c : Int32) (h1 : qc_Fit 1 a b c → P 1) (h0 : ¬ qc_Fit 1 a b c → P 0) : wpX_operandsFit P () 1 a b c :=
  br_f (by decide) (br_f (by decide) (br_f (by decide) (br_t rfl (qc_x97 P a b (fun z => h1 ((qc_F1 a b c).mpr z)) (fun z => h0 (fun w => z ((qc_F1 a b c).mp w)))))))
theorem qc_xf2 (P : Int32 → Prop) (a b c : Int32) (h1 : qc_Fit 2 a b c → P 1) (h0 : ¬ qc_Fit 2 a b c → P 0) : wpX_operandsFit P () 2 a b c :=
  br_f (by decide) (br_f (by decide) (br_f (by decide) (br_f (by decide) (br_t rfl (qc_x117 P a b c (fun z => h1 ((qc_F2 a b c).mpr z)) (fun z => h0 (fun w => z ((qc_F2 a b c).mp w))))))))
theorem qc_xf3 (P : Int32 → Prop) (a b c : Int32) (h1 : qc_Fit 3 a b c → P 1) (h0 : ¬ qc_Fit 3 a b c → P 0) : wpX_operandsFit P () 3 a b c :=
  br_f (by decide) (br_f (by decide) (br_f (by decide) (br_f (by decide) (br_f (by decide) (br_t rfl (qc_x117 P a b c (fun z => h1 ((qc_F3 a b c).mpr z)) (fun z => h0 (fun w => z ((qc_F3 a b c).mp w)))))))))
theorem qc_xf4 (P : Int32 → Prop) (a b c : Int32) (h1 : qc_Fit 4 a b c → P 1) (h0 : ¬ qc_Fit 4 a b c → P 0) : wpX_operandsFit P () 4 a b c :=
  br_f (by decide) (br_f (by decide) (br_f (by decide) (br_f (by decide) (br_f (by decide) (br_f (by decide) (br_t rfl (qc_x117 P a b c (fun z => h1 ((qc_F4 a b c).mpr z)) (fun z => h0 (fun w => z ((qc_F4 a b c).mp w))))))))))
theorem qc_xf5 (P : Int32 → Prop) (a b c : Int32) (h1 : qc_Fit 5 a b c → P 1) (h0 : ¬ qc_Fit 5 a b c → P 0) : wpX_operandsFit P () 5 a b c :=
  br_f (by decide) (br_f (by decide) (br_f (by decide) (br_f (by decide) (br_f (by decide) (br_f (by decide) (br_f (by decide) (br_t rfl (qc_isa _ _ (fun z => ⟨qc_nr1, h1 ((qc_F5 a b c).mpr z)⟩) (fun z => ⟨qc_nr0, h0 (fun w => z ((qc_F5 a b c).mp w))⟩)))))))))
theorem qc_xf6 (P : Int32 → Prop) (a b c : Int32) (h1 : qc_Fit 6 a b c → P 1) (h0 : ¬ qc_Fit 6 a b c → P 0) : wpX_operandsFit P () 6 a b c :=
  br_f (by decide) (br_f (by decide) (br_f (by decide) (br_f (by decide) (br_f (by decide) (br_f (by decide) (br_f (by decide) (br_f (by decide) (br_t rfl (qc_x149 P a b (fun z => h1 ((qc_F6 a b c).mpr z)) (fun z => h0 (fun w => z ((qc_F6 a b c).mp w))))))))))))
theorem qc_xf7 (P : Int32 → Prop) (a b c : Int32) (h1 : qc_Fit 7 a b c → P 1) (h0 : ¬ qc_Fit 7 a b c → P 0) : wpX_operandsFit P () 7 a b c :=
  br_f (by decide) (br_f (by decide) (br_f (by decide) (br_f (by decide) (br_f (by decide) (br_f (by decide) (br_f (by decide) (br_f (by decide) (br_f (by decide) (br_t rfl (qc_isr _ _ (fun z => br_f (by decide) (qc_isa _ _ (fun y => br_f (by decide) (qc_isr _ _ (fun x => br_f (by decide) (h1 ((qc_F7 a b c).mpr ⟨z, y, x⟩))) (fun x => br_t rfl (h0 fun w => x ((qc_F7 a b c).mp w).2.2)))) (fun y => br_t rfl (h0 fun w => y ((qc_F7 a b c).mp w).2.1)))) (fun z => br_t rfl (h0 fun w => z ((qc_F7 a b c).mp w).1))))))))))))
theorem qc_xf8 (P : Int32 → Prop) (a b c : Int32) (h1 : qc_Fit 8 a b c → P 1) (h0 : ¬ qc_Fit 8 a b c → P 0) : wpX_operandsFit P () 8 a b c :=
  br_f (by decide) (br_f (by decide) (br_f (by decide) (br_f (by decide) (br_f (by decide) (br_f (by decide) (br_f (by decide) (br_f (by decide) (br_f (by decide) (br_f (by decide) (br_t rfl (qc_x92 P a (fun z => h1 ((qc_F8 a b c).mpr z)) (fun z => h0 (fun w => z ((qc_F8 a b c).mp w))))))))))))))
theorem qc_xf9 (P : Int32 → Prop) (a b c : Int32) (h1 : qc_Fit 9 a b c → P 1) (h0 : ¬ qc_Fit 9 a b c → P 0) : wpX_operandsFit P () 9 a b c :=
  br_f (by decide) (br_f (by decide) (br_f (by decide) (br_f (by decide) (br_f (by decide) (br_f (by decide) (br_f (by decide) (br_f (by decide) (br_f (by decide) (br_f (by decide) (br_f (by decide) (br_t rfl (qc_x92 P a (fun z => h1 ((qc_F9 a b c).mpr z)) (fun z => h0 (fun w => z ((qc_F9 a b c).mp w)))))))))))))))
theorem qc_xf10 (P : Int32 → Prop) (a b c : Int32) (h1 : qc_Fit 10 a b c → P 1) (h0 : ¬ qc_Fit 10 a b c → P 0) : wpX_operandsFit P () 10 a b c :=
  br_f (by decide) (br_f (by decide) (br_f (by decide) (br_f (by decide) (br_f (by decide) (br_f (by decide) (br_f (by decide) (br_f (by decide) (br_f (by decide) (br_f (by decide) (br_f (by decide) (br_f (by decide) (br_t rfl (qc_x92 P a (fun z => h1 ((qc_F10 a b c).mpr z)) (fun z => h0 (fun w => z ((qc_F10 a b c).mp w))))))))))))))))
theorem qc_xf11 (P : Int32 → Prop) (a b c : Int32) (h1 : qc_Fit 11 a b c → P 1) (h0 : ¬ qc_Fit 11 a b c → P 0) : wpX_operandsFit P () 11 a b c :=
  br_f (by decide) (br_f (by decide) (br_f (by decide) (br_f (by decide) (br_f (by decide) (br_f (by decide) (br_f (by decide) (br_f (by decide) (br_f (by decide) (br_f (by decide) (br_f (by decide) (br_f (by decide) (br_f (by decide) (br_t rfl (qc_x92 P a (fun z => h1 ((qc_F11 a b c).mpr z)) (fun z => h0 (fun w => z ((qc_F11 a b c).mp w)))))))))))))))))
theorem qc_xf12 (P : Int32 → Prop) (a b c : Int32) (h1 : qc_Fit 12 a b c → P 1) (h0 : ¬ qc_Fit 12 a b c → P 0) : wpX_operandsFit P () 12 a b c :=
  br_f (by decide) (br_f (by decide) (br_f (by decide) (br_f (by decide) (br_f (by decide) (br_f (by decide) (br_f (by decide) (br_f (by decide) (br_f (by decide) (br_f (by decide) (br_f (by decide) (br_f (by decide) (br_f (by decide) (br_f (by decide) (br_t rfl (qc_x149 P a b (fun z => h1 ((qc_F12 a b c).mpr z)) (fun z => h0 (fun w => z ((qc_F12 a b c).mp w))))))))))))))))))
theorem qc_xf13 (P : Int32 → Prop) (a b c : Int32) (h1 : qc_Fit 13 a b c → P 1) (h0 : ¬ qc_Fit 13 a b c → P 0) : wpX_operandsFit P () 13 a b c :=
  br_f (by decide) (br_f (by decide) (br_f (by decide) (br_f (by decide) (br_f (by decide) (br_f (by decide) (br_f (by decide) (br_f (by decide) (br_f (by decide) (br_f (by decide) (br_f (by decide) (br_f (by decide) (br_f (by decide) (br_f (by decide) (br_f (by decide) (br_t rfl (qc_x117 P a b c (fun z => h1 ((qc_F13 a b c).mpr z)) (fun z => h0 (fun w => z ((qc_F13 a b c).mp w)))))))))))))))))))
theorem qc_xf14 (P : Int32 → Prop) (a b c : Int32) (h1 : qc_Fit 14 a b c → P 1) (h0 : ¬ qc_Fit 14 a b c → P 0) : wpX_operandsFit P () 14 a b c :=
  br_f (by decide) (br_f (by decide) (br_f (by decide) (br_f (by decide) (br_f (by decide) (br_f (by decide) (br_f (by decide) (br_f (by decide) (br_f (by decide) (br_f (by decide) (br_f (by decide) (br_f (by decide) (br_f (by decide) (br_f (by decide) (br_f (by decide) (br_f (by decide) (br_t rfl (qc_x117 P a b c (fun z => h1 ((qc_F14 a b c).mpr z)) (fun z => h0 (fun w => z ((qc_F14 a b c).mp w))))))))))))))))))))
theorem qc_xf15 (P : Int32 → Prop) (a b c : Int32) (h1 : qc_Fit 15 a b c → P 1) (h0 : ¬ qc_Fit 15 a b c → P 0) : wpX_operandsFit P () 15 a b c :=
  br_f (by decide) (br_f (by decide) (br_f (by decide) (br_f (by decide) (br_f (by decide) (br_f (by decide) (br_f (by decide) (br_f (by decide) (br_f (by decide) (br_f (by decide) (br_f (by decide) (br_f (by decide) (br_f (by decide) (br_f (by decide) (br_f (by decide) (br_f (by decide) (br_f (by decide) (br_t rfl (qc_x97 P a b (fun z => h1 ((qc_F15 a b c).mpr z)) (fun z => h0 (fun w => z ((qc_F15 a b c).mp w)))))))))))))))))))))
theorem qc_xf16 (P : Int32 → Prop) (a b c : Int32) (h1 : qc_Fit 16 a b c → P 1) (h0 : ¬ qc_Fit 16 a b c → P 0) : wpX_operandsFit P () 16 a b c :=
  br_f (by decide) (br_f (by decide) (br_f (by decide) (br_f (by decide) (br_f (by decide) (br_f (by decide) (br_f (by decide) (br_f (by decide) (br_f (by decide) (br_f (by decide) (br_f (by decide) (br_f (by decide) (br_f (by decide) (br_f (by decide) (br_f (by decide) (br_f (by decide) (br_f (by decide) (br_f (by decide) (br_t rfl (qc_x97 P a b (fun z => h1 ((qc_F16 a b c).mpr z)) (fun z => h0 (fun w => z ((qc_F16 a b c).mp w))))))))))))))))))))))
theorem qc_xf17 (P : Int32 → Prop) (a b c : Int32) (h1 : qc_Fit 17 a b c → P 1) (h0 : ¬ qc_Fit 17 a b c → P 0) : wpX_operandsFit P () 17 a b c :=
  br_f (by decide) (br_f (by decide) (br_f (by decide) (br_f (by decide) (br_f (by decide) (br_f (by decide) (br_f (by decide) (br_f (by decide) (br_f (by decide) (br_f (by decide) (br_f (by decide) (br_f (by decide) (br_f (by decide) (br_f (by decide) (br_f (by decide) (br_f (by decide) (br_f (by decide) (br_f (by decide) (br_f (by decide) (br_t rfl (qc_x97 P a b (fun z => h1 ((qc_F17 a b c).mpr z)) (fun z => h0 (fun w => z ((qc_F17 a b c).mp w)))))))))))))))))))))))
theorem qc_xf18 (P : Int32 → Prop) (a b c : Int32) (h1 : qc_Fit 18 a b c → P 1) (h0 : ¬ qc_Fit 18 a b c → P 0) : wpX_operandsFit P () 18 a b c :=
  br_f (by decide) (br_f (by decide) (br_f (by decide) (br_f (by decide) (br_f (by decide) (br_f (by decide) (br_f (by decide) (br_f (by decide) (br_f (by decide) (br_f (by decide) (br_f (by decide) (br_f (by decide) (br_f (by decide) (br_f (by decide) (br_f (by decide) (br_f (by decide) (br_f (by decide) (br_f (by decide) (br_f (by decide) (br_f (by decide) (br_t rfl (qc_x92 P a (fun z => h1 ((qc_F18 a b c).mpr z)) (fun z => h0 (fun w => z ((qc_F18 a b c).mp w))))))))))))))))))))))))
theorem qc_op (o : Int32) : o < 0 ∨ 18 < o ∨ o = 0 ∨ o = 1 ∨ o = 2 ∨ o = 3 ∨ o = 4 ∨ o = 5 ∨ o = 6 ∨ o = 7 ∨ o = 8 ∨ o = 9 ∨ o = 10 ∨ o = 11 ∨ o = 12 ∨ o = 13 ∨ o = 14 ∨ o = 15 ∨ o = 16 ∨ o = 17 ∨ o = 18 := by
  rcases pk_ix o (n := 19) (by decide) with z | z | ⟨j, hj, rfl⟩
  · exact .inl z
  · exact .inr (.inl (Int32.lt_of_lt_of_le (by decide) z))
  · right; right
    have e : j = 0 ∨ j = 1 ∨ j = 2 ∨ j = 3 ∨ j = 4 ∨ j = 5 ∨ j = 6 ∨ j = 7 ∨ j = 8 ∨ j = 9 ∨ j = 10 ∨ j = 11 ∨ j = 12 ∨ j = 13 ∨ j = 14 ∨ j = 15 ∨ j = 16 ∨ j = 17 ∨ j = 18 := by omega
    rcases e with rfl | rfl | rfl | rfl | rfl | rfl | rfl | rfl | rfl | rfl | rfl | rfl | rfl | rfl | rfl | rfl | rfl | rfl | rfl
    · exact .inl rfl
    · exact .inr (.inl rfl)
    · exact .inr (.inr (.inl rfl))
    · exact .inr (.inr (.inr (.inl rfl)))
    · exact .inr (.inr (.inr (.inr (.inl rfl))))
    · exact .inr (.inr (.inr (.inr (.inr (.inl rfl)))))
    · exact .inr (.inr (.inr (.inr (.inr (.inr (.inl rfl))))))
    · exact .inr (.inr (.inr (.inr (.inr (.inr (.inr (.inl rfl)))))))
    · exact .inr (.inr (.inr (.inr (.inr (.inr (.inr (.inr (.inl rfl))))))))
    · exact .inr (.inr (.inr (.inr (.inr (.inr (.inr (.inr (.inr (.inl rfl)))))))))
    · exact .inr (.inr (.inr (.inr (.inr (.inr (.inr (.inr (.inr (.inr (.inl rfl))))))))))
    · exact .inr (.inr (.inr (.inr (.inr (.inr (.inr (.inr (.inr (.inr (.inr (.inl rfl)))))))))))
    · exact .inr (.inr (.inr (.inr (.inr (.inr (.inr (.inr (.inr (.inr (.inr (.inr (.inl rfl))))))))))))
    · exact .inr (.inr (.inr (.inr (.inr (.inr (.inr (.inr (.inr (.inr (.inr (.inr (.inr (.inl rfl)))))))))))))
    · exact .inr (.inr (.inr (.inr (.inr (.inr (.inr (.inr (.inr (.inr (.inr (.inr (.inr (.inr (.inl rfl))))))))))))))
    · exact .inr (.inr (.inr (.inr (.inr (.inr (.inr (.inr (.inr (.inr (.inr (.inr (.inr (.inr (.inr (.inl rfl)))))))))))))))
    · exact .inr (.inr (.inr (.inr (.inr (.inr (.inr (.inr (.inr (.inr (.inr (.inr (.inr (.inr (.inr (.inr (.inl rfl))))))))))))))))
    · exact .inr (.inr (.inr (.inr (.inr (.inr (.inr (.inr (.inr (.inr (.inr (.inr (.inr (.inr (.inr (.inr (.inr (.inl rfl)))))))))))))))))
    · exact .inr (.inr (.inr (.inr (.inr (.inr (.inr (.inr (.inr (.inr (.inr (.inr (.inr (.inr (.inr (.inr (.inr (.inr (rfl))))))))))))))))))
theorem qc_Fno {o a b c : Int32} (h : qc_Fit o a b c) : ¬ o < 0 ∧ ¬ 18 < o := by
  unfold qc_Fit at h
  rcases h with ⟨h, -⟩ | ⟨h, -⟩ | ⟨h, -⟩ | ⟨h, -⟩ | ⟨h, -⟩ | ⟨h, -⟩
  · rcases h with rfl | rfl | rfl | rfl | rfl | rfl <;> decide
  · rcases h with rfl | rfl | rfl | rfl <;> decide
  · rcases h with rfl | rfl | rfl | rfl | rfl <;> decide
  · rw [h]; decide
  · rcases h with rfl | rfl <;> decide
  · rw [h]; decide
theorem qc_xof (P : Int32 → Prop) (o a b c : Int32) (h1 : qc_Fit o a b c → P 1) (h0 : ¬ qc_Fit o a b c → P 0) : wpX_operandsFit P () o a b c := by
  rcases qc_op o with z | z | rfl | rfl | rfl | rfl | rfl | rfl | rfl | rfl | rfl | rfl | rfl | rfl | rfl | rfl | rfl | rfl | rfl | rfl | rfl
  · exact br_t z (h0 fun w => (qc_Fno w).1 z)
  · exact br_f (fun y => absurd (Int32.lt_trans z y) (by decide)) (br_t z (h0 fun w => (qc_Fno w).2 z))
  · exact qc_xf0 P a b c h1 h0
  · exact qc_xf1 P a b c h1 h0
  · exact qc_xf2 P a b c h1 h0
  · exact qc_xf3 P a b c h1 h0
  · exact qc_xf4 P a b c h1 h0
  · exact qc_xf5 P a b c h1 h0
  · exact qc_xf6 P a b c h1 h0
  · exact qc_xf7 P a b c h1 h0
  · exact qc_xf8 P a b c h1 h0
  · exact qc_xf9 P a b c h1 h0
  · exact qc_xf10 P a b c h1 h0
  · exact qc_xf11 P a b c h1 h0
  · exact qc_xf12 P a b c h1 h0
  · exact qc_xf13 P a b c h1 h0
  · exact qc_xf14 P a b c h1 h0
  · exact qc_xf15 P a b c h1 h0
  · exact qc_xf16 P a b c h1 h0
  · exact qc_xf17 P a b c h1 h0
  · exact qc_xf18 P a b c h1 h0
section
variable {mc md cl lc cu h B mp mL : Nat} {st rt lh rd re : Int32} {D : Nat → Prop} {oo oa ob oc lg rg tg : Nat → Int32} {hd d s lv rs bd yr p q n m : Nat → Nat} {c r t x a b : Nat} {l L : List Nat}
theorem qz_em (P : Int32 → St2 → Prop) (o v2 v3 v4 : Int32) (c64 : cl ≤ 64)
    (h1 : cl < 64 → qc_Fit o v2 v3 v4 → P 1 (nI mc, nI md, nI (cl + 1), nI lc, 0, rt, nI cu, lh, rd, re, (upd oo cl o), (upd oa cl v2), (upd ob cl v3), (upd oc cl v4), lg, (fun zz => nI (hd zz)), (fun zz => nI (s zz)), (fun zz => nI (rs zz)), (fun zz => nI (bd zz)), (fun zz => nI (d zz)), (fun zz => nI (p zz)), (fun zz => nI (n zz)), rg, tg))
    (h0 : ¬ (cl < 64 ∧ qc_Fit o v2 v3 v4) → P 0 (nI mc, nI md, nI cl, nI lc, 0, rt, nI cu, lh, rd, re, oo, oa, ob, oc, lg, (fun zz => nI (hd zz)), (fun zz => nI (s zz)), (fun zz => nI (rs zz)), (fun zz => nI (bd zz)), (fun zz => nI (d zz)), (fun zz => nI (p zz)), (fun zz => nI (n zz)), rg, tg)) : wpX_emit P (nI mc, nI md, nI cl, nI lc, 0, rt, nI cu, lh, rd, re, oo, oa, ob, oc, lg, (fun zz => nI (hd zz)), (fun zz => nI (s zz)), (fun zz => nI (rs zz)), (fun zz => nI (bd zz)), (fun zz => nI (d zz)), (fun zz => nI (p zz)), (fun zz => nI (n zz)), rg, tg) o v2 v3 v4 := by
  by_cases z : cl < 64
  · refine br_t rfl (br_f (nI_ge (b := 64) z (by decide)) (qc_xof _ _ _ _ _ (fun F => br_f (by decide) ⟨vp_in_nI (by omega) (by decide), nm_r (qc_sr rfl (by omega) rfl) ⟨vp_in_nI (by omega) (by decide), nm_r (qc_sr rfl (by omega) rfl) ⟨vp_in_nI (by omega) (by decide), nm_r (qc_sr rfl (by omega) rfl) ⟨vp_in_nI (by omega) (by decide), nm_r (qc_sr rfl (by omega) rfl) (nm_r (nI_1 cl) (h1 z F))⟩⟩⟩⟩) (fun F => br_t rfl (h0 fun w => F w.2))))
  · exact br_t rfl (br_t (nI_le (a := 64) (by omega) (by omega)) (h0 fun w => z w.1))
end
def qz_cell (L : Nat) (xs : Nat → Int32) (k : Nat) : Int32 := if L ≤ k then 0 else xs k
def qz_pos (L : Nat) (xs : Nat → Int32) (k : Nat) : Nat := (qz_cell L xs k).toBitVec.toNat % 2 ^ 31
def qz_kd (L : Nat) (xs : Nat → Int32) (i : Nat) : Nat := qz_pos L xs (4 + 3 * i) % 8
def qz_hb (L : Nat) (xs : Nat → Int32) (i : Nat) : Nat := if qz_pos L xs (5 + 3 * i) % 2 = 0 then 1 else 5
theorem qz_cw (P : Int32 → Prop) {L : Nat} {xs : Nat → Int32} {k : Nat} {K : Int32} (hK : K = nI k) (hk : k < 2 ^ 31) (hL : L ≤ 260) (h : P (qz_cell L xs k)) : wpL_cell P L xs () K := by
  subst hK
  unfold qz_cell at h
  by_cases z : L ≤ k
  · rw [if_pos z] at h
    exact br_t (nI_le z hk) h
  · rw [if_neg z] at h
    refine br_f (nI_ge (by omega) (by omega)) ⟨vp_in_nI (by omega) (by omega), ?_⟩
    rw [nI_clamp hk]
    exact h
theorem qz_pl (L : Nat) (xs : Nat → Int32) (k : Nat) : qz_pos L xs k < 2 ^ 31 := Nat.mod_lt _ (by decide)
theorem qz_pw (P : Int32 → Prop) {L : Nat} {xs : Nat → Int32} {k : Nat} {K : Int32} (hK : K = nI k) (hk : k < 2 ^ 31) (hL : L ≤ 260) (h : P (nI (qz_pos L xs k))) : wpL_pos P L xs () K := by
  unfold wpL_pos
  refine qz_cw _ hK hk hL ?_
  rw [pk_and _ 31 (by decide)]
  exact h
theorem qz_i3 (a i : Nat) {A : Int32} (hA : A = nI a) : A + 3 * nI i = nI (a + 3 * i) := by
  have e : (3 : Int32) * nI i = nI (3 * i) := pk_mul 3 i
  rw [hA, e, nI_add]
theorem qz_kw (P : Int32 → Prop) {L : Nat} {xs : Nat → Int32} {i : Nat} (hi : i < 1000) (hL : L ≤ 260) (h : P (nI (qz_kd L xs i))) : wpL_mainKind P L xs () (nI i) := by
  unfold wpL_mainKind
  refine qz_pw _ (qz_i3 4 i rfl) (by omega) hL ⟨by decide, ?_⟩
  have e := pk_rem (qz_pl L xs (4 + 3 * i)) (d := 8) (by decide) (by decide)
  have e' : nI (qz_pos L xs (4 + 3 * i)) - nI (qz_pos L xs (4 + 3 * i)) / 8 * 8 = nI (qz_kd L xs i) := e
  rw [e']
  exact h
theorem qz_hw (P : Int32 → Prop) {L : Nat} {xs : Nat → Int32} {i : Nat} (hi : i < 1000) (hL : L ≤ 260) (h : P (nI (qz_hb L xs i))) : wpL_mainHb P L xs () (nI i) := by
  unfold wpL_mainHb
  refine qz_pw _ (qz_i3 5 i rfl) (by omega) hL ?_
  have b := qz_pl L xs (5 + 3 * i)
  have e : nI (qz_pos L xs (5 + 3 * i)) &&& 1 = nI (qz_pos L xs (5 + 3 * i) % 2) := pk_andN (by omega) 1 (by decide)
  unfold qz_hb at h
  rw [e]
  by_cases z : qz_pos L xs (5 + 3 * i) % 2 = 0
  · rw [if_pos z] at h
    exact br_t (by rw [z]; rfl) h
  · rw [if_neg z] at h
    exact br_f (fun w => z ((nI_eq (b := 0) (by omega) (by omega)).mp w)) h
theorem qz_hb8 (L : Nat) (xs : Nat → Int32) (i : Nat) : qz_hb L xs i = 1 ∨ qz_hb L xs i = 5 := by
  unfold qz_hb
  split
  · exact .inl rfl
  · exact .inr rfl
def qz_mi (L : Nat) (xs : Nat → Int32) (i : Nat) (o a b : Int32) : Prop :=
  qc_Fit o a b 0 ∧ (o = 0 ∨ o = 1 ∨ o = 12 ∨ o = 13 ∨ o = 14 ∨ o = 16 ∨ o = 17) ∧ ((qz_kd L xs i = 1 ∨ qz_kd L xs i = 7) → o = 13 ∧ a = 2 ∧ b = nI (qz_hb L xs i)) ∧ (qz_kd L xs i = 2 → o = 14 ∧ a = 2 ∧ b = nI (qz_hb L xs i))
section
variable {mc md cl lc cu h B mp mL : Nat} {st rt lh rd re : Int32} {D : Nat → Prop} {oo oa ob oc lg rg tg : Nat → Int32} {hd d s lv rs bd yr p q n m : Nat → Nat} {c r t x a b : Nat} {l L : List Nat}
theorem qz_emt (P : St2 → Prop) (o v2 v3 : Int32) (c64 : cl < 64) (F : qc_Fit o v2 v3 0)
    (hP : P (nI mc, nI md, nI (cl + 1), nI 0, 0, 0, nI 0, nI 0, 0, 0, (upd oo cl o), (upd oa cl v2), (upd ob cl v3), (upd oc cl 0), (fun _ => 0), (fun zz => nI (((fun _ => 0)) zz)), (fun zz => nI (s zz)), (fun zz => nI (((fun _ => 0)) zz)), (fun zz => nI (((fun _ => 0)) zz)), (fun zz => nI (((fun _ => 0)) zz)), (fun zz => nI (((fun _ => 0)) zz)), (fun zz => nI (((fun _ => 0)) zz)), (fun _ => 0), (fun _ => 0))) : wpX_emit (fun _ u => P u) (nI mc, nI md, nI cl, nI 0, 0, 0, nI 0, nI 0, 0, 0, oo, oa, ob, oc, (fun _ => 0), (fun zz => nI (((fun _ => 0)) zz)), (fun zz => nI (s zz)), (fun zz => nI (((fun _ => 0)) zz)), (fun zz => nI (((fun _ => 0)) zz)), (fun zz => nI (((fun _ => 0)) zz)), (fun zz => nI (((fun _ => 0)) zz)), (fun zz => nI (((fun _ => 0)) zz)), (fun _ => 0), (fun _ => 0)) o v2 v3 0 :=
  qz_em (lg := fun _ => 0) (rg := fun _ => 0) (tg := fun _ => 0) (hd := fun _ => 0) (rs := fun _ => 0) (bd := fun _ => 0) (d := fun _ => 0) (p := fun _ => 0) (n := fun _ => 0) _ _ _ _ _ (by omega) (fun _ _ => hP) (fun w => absurd ⟨c64, F⟩ w)
theorem qz_emM (P : St2 → Prop) {L : Nat} {xs : Nat → Int32} {i bb ll : Nat} (hL : L ≤ 260) (hi : i < 100) (hbl : bb + ll = 64) (l1 : 1 ≤ ll) (c64 : cl < 64)
    (H : ∀ o v2 v3, qz_mi L xs i o v2 v3 → P (nI mc, nI md, nI (cl + 1), nI 0, 0, 0, nI 0, nI 0, 0, 0, (upd oo cl o), (upd oa cl v2), (upd ob cl v3), (upd oc cl 0), (fun _ => 0), (fun zz => nI (((fun _ => 0)) zz)), (fun zz => nI (s zz)), (fun zz => nI (((fun _ => 0)) zz)), (fun zz => nI (((fun _ => 0)) zz)), (fun zz => nI (((fun _ => 0)) zz)), (fun zz => nI (((fun _ => 0)) zz)), (fun zz => nI (((fun _ => 0)) zz)), (fun _ => 0), (fun _ => 0))) :
    wpL_emitMain P L xs (nI mc, nI md, nI cl, nI 0, 0, 0, nI 0, nI 0, 0, 0, oo, oa, ob, oc, (fun _ => 0), (fun zz => nI (((fun _ => 0)) zz)), (fun zz => nI (s zz)), (fun zz => nI (((fun _ => 0)) zz)), (fun zz => nI (((fun _ => 0)) zz)), (fun zz => nI (((fun _ => 0)) zz)), (fun zz => nI (((fun _ => 0)) zz)), (fun zz => nI (((fun _ => 0)) zz)), (fun _ => 0), (fun _ => 0)) (nI i) (nI bb) (nI ll) := by
  unfold wpL_emitMain
  refine qz_kw _ (by omega) hL ?_
  refine qz_hw _ (by omega) hL ?_
  refine qz_pw _ (qz_i3 6 i rfl) (by omega) hL ?_
  have hp := qz_pl L xs (6 + 3 * i)
  have hb : qc_R8 (nI (qz_hb L xs i)) := by
    rcases qz_hb8 L xs i with e | e <;> rw [e]
    · exact ⟨1, by omega, rfl⟩
    · exact ⟨5, by omega, rfl⟩
  have r2 : qc_R8 (2 : Int32) := ⟨2, by omega, rfl⟩
  have r0 : qc_R8 (0 : Int32) := ⟨0, by omega, rfl⟩
  have kl : qz_kd L xs i < 8 := Nat.mod_lt _ (by decide)
  generalize hk : qz_kd L xs i = kd at *
  have c : kd = 0 ∨ kd = 1 ∨ kd = 2 ∨ kd = 3 ∨ kd = 4 ∨ kd = 5 ∨ kd = 6 ∨ kd = 7 := by omega
  have e1 : nI (qz_pos L xs (6 + 3 * i)) - nI (qz_pos L xs (6 + 3 * i)) / nI ll * nI ll = nI (qz_pos L xs (6 + 3 * i) % ll) := pk_rem hp (by omega) (by omega)
  have m1 : qz_pos L xs (6 + 3 * i) % ll < ll := Nat.mod_lt _ (by omega)
  rcases c with rfl | rfl | rfl | rfl | rfl | rfl | rfl | rfl
  · refine br_t rfl ⟨fun z => by have := (nI_eq (b := 0) (by omega) (by omega)).mp z; omega, ?_⟩
    rw [e1, nI_add]
    have F : qc_Fit 12 (nI (qz_hb L xs i)) (nI (bb + qz_pos L xs (6 + 3 * i) % ll)) 0 := (qc_F12 _ _ _).mpr ⟨hb, ⟨_, by omega, rfl⟩⟩
    exact qz_emt P _ _ _ c64 F (H _ _ _ ⟨F, by decide, fun w => by omega, fun w => by omega⟩)
  · have F : qc_Fit 13 2 (nI (qz_hb L xs i)) 0 := (qc_F13 _ _ _).mpr ⟨r2, hb, r0⟩
    exact br_f (by decide) (br_t rfl (qz_emt P _ _ _ c64 F (H _ _ _ ⟨F, by decide, fun _ => ⟨rfl, rfl, rfl⟩, fun w => by omega⟩)))
  · have F : qc_Fit 14 2 (nI (qz_hb L xs i)) 0 := (qc_F14 _ _ _).mpr ⟨r2, hb, r0⟩
    exact br_f (by decide) (br_f (by decide) (br_f (by decide) (br_t rfl (qz_emt P _ _ _ c64 F (H _ _ _ ⟨F, by decide, fun w => by omega, fun _ => ⟨rfl, rfl, rfl⟩⟩)))))
  · have F : qc_Fit 17 2 (nI (qz_hb L xs i)) 0 := (qc_F17 _ _ _).mpr ⟨r2, hb⟩
    exact br_f (by decide) (br_f (by decide) (br_f (by decide) (br_f (by decide) (br_t rfl (qz_emt P _ _ _ c64 F (H _ _ _ ⟨F, by decide, fun w => by omega, fun w => by omega⟩))))))
  · have F : qc_Fit 16 2 (nI (qz_hb L xs i)) 0 := (qc_F16 _ _ _).mpr ⟨r2, hb⟩
    exact br_f (by decide) (br_f (by decide) (br_f (by decide) (br_f (by decide) (br_f (by decide) (br_t rfl (qz_emt P _ _ _ c64 F (H _ _ _ ⟨F, by decide, fun w => by omega, fun w => by omega⟩)))))))
  · have F : ∀ v, qc_Fit 0 (nI (qz_hb L xs i)) v 0 := fun v => (qc_F0 _ _ _).mpr hb
    exact br_f (by decide) (br_f (by decide) (br_f (by decide) (br_f (by decide) (br_f (by decide) (br_f (by decide) (br_t rfl ⟨by decide, qz_emt P _ _ _ c64 (F _) (H _ _ _ ⟨F _, by decide, fun w => by omega, fun w => by omega⟩)⟩))))))
  · have r6 : qc_R8 (6 - nI (qz_hb L xs i)) := by
      rcases qz_hb8 L xs i with e | e <;> rw [e]
      · exact ⟨5, by omega, by decide⟩
      · exact ⟨1, by omega, by decide⟩
    have F : qc_Fit 1 (nI (qz_hb L xs i)) (6 - nI (qz_hb L xs i)) 0 := (qc_F1 _ _ _).mpr ⟨hb, r6⟩
    exact br_f (by decide) (br_f (by decide) (br_f (by decide) (br_f (by decide) (br_f (by decide) (br_f (by decide) (br_f (by decide) (qz_emt P _ _ _ c64 F (H _ _ _ ⟨F, by decide, fun w => by omega, fun w => by omega⟩))))))))
  · have F : qc_Fit 13 2 (nI (qz_hb L xs i)) 0 := (qc_F13 _ _ _).mpr ⟨r2, hb, r0⟩
    exact br_f (by decide) (br_f (by decide) (br_t rfl (qz_emt P _ _ _ c64 F (H _ _ _ ⟨F, by decide, fun _ => ⟨rfl, rfl, rfl⟩, fun w => by omega⟩))))
theorem qz_emB (P : St2 → Prop) {L : Nat} {xs : Nat → Int32} {i bb ll : Nat} (hL : L ≤ 260) (hi : i < 100) (l1 : 1 ≤ ll) (l64 : ll ≤ 64) (c64 : cl ≤ 64)
    (H : ∀ (cl' : Nat) (oo' oa' ob' oc' : Nat → Int32), cl ≤ cl' → cl' ≤ 64 → (∀ i, i < cl → oo' i = oo i ∧ oa' i = oa i ∧ ob' i = ob i) → ((∀ i, i < cl → qc_Fit (oo i) (oa i) (ob i) (oc i)) → ∀ i, i < cl' → qc_Fit (oo' i) (oa' i) (ob' i) (oc' i)) → P (nI mc, nI md, nI cl', nI 0, 0, 0, nI 0, nI 0, 0, 0, oo', oa', ob', oc', (fun _ => 0), (fun zz => nI (((fun _ => 0)) zz)), (fun zz => nI (s zz)), (fun zz => nI (((fun _ => 0)) zz)), (fun zz => nI (((fun _ => 0)) zz)), (fun zz => nI (((fun _ => 0)) zz)), (fun zz => nI (((fun _ => 0)) zz)), (fun zz => nI (((fun _ => 0)) zz)), (fun _ => 0), (fun _ => 0))) :
    wpL_emitBody P L xs (nI mc, nI md, nI cl, nI 0, 0, 0, nI 0, nI 0, 0, 0, oo, oa, ob, oc, (fun _ => 0), (fun zz => nI (((fun _ => 0)) zz)), (fun zz => nI (s zz)), (fun zz => nI (((fun _ => 0)) zz)), (fun zz => nI (((fun _ => 0)) zz)), (fun zz => nI (((fun _ => 0)) zz)), (fun zz => nI (((fun _ => 0)) zz)), (fun zz => nI (((fun _ => 0)) zz)), (fun _ => 0), (fun _ => 0)) (nI i) (nI bb) (nI ll) := by
  have E : ∀ o v2 v3 v4 : Int32, wpX_emit (fun _ u => P u) (nI mc, nI md, nI cl, nI 0, 0, 0, nI 0, nI 0, 0, 0, oo, oa, ob, oc, (fun _ => 0), (fun zz => nI (((fun _ => 0)) zz)), (fun zz => nI (s zz)), (fun zz => nI (((fun _ => 0)) zz)), (fun zz => nI (((fun _ => 0)) zz)), (fun zz => nI (((fun _ => 0)) zz)), (fun zz => nI (((fun _ => 0)) zz)), (fun zz => nI (((fun _ => 0)) zz)), (fun _ => 0), (fun _ => 0)) o v2 v3 v4 := by
    intro o v2 v3 v4
    refine qz_em (lg := fun _ => 0) (rg := fun _ => 0) (tg := fun _ => 0) (hd := fun _ => 0) (rs := fun _ => 0) (bd := fun _ => 0) (d := fun _ => 0) (p := fun _ => 0) (n := fun _ => 0) _ _ _ _ _ c64 (fun z F => ?_) (fun _ => ?_)
    · refine H (cl + 1) _ _ _ _ (by omega) (by omega) (fun i hi => ?_) (fun fit i hi => ?_)
      · exact ⟨pk_un (by omega), pk_un (by omega), pk_un (by omega)⟩
      · by_cases y : i = cl
        · rw [y, pk_us, pk_us, pk_us, pk_us]; exact F
        · rw [pk_un y, pk_un y, pk_un y, pk_un y]; exact fit i (by omega)
    · exact H cl oo oa ob oc (by omega) c64 (fun i _ => ⟨rfl, rfl, rfl⟩) (fun fit => fit)
  unfold wpL_emitBody
  refine qz_pw _ (k := 80 + i) (by rw [← nI_add]; rfl) (by omega) hL ⟨by decide, nm_e (nm_e (nm_e (nm_e ⟨fun z => by have := (nI_eq (b := 0) (by omega) (by omega)).mp z; omega, nm_e (nm_e ?_)⟩)))⟩
  refine br_c (fun _ => E _ _ _ _) (fun _ => br_c (fun _ => E _ _ _ _) (fun _ => br_c (fun _ => E _ _ _ _) (fun _ => br_c (fun _ => E _ _ _ _) (fun _ => br_c (fun _ => E _ _ _ _) (fun _ => br_c (fun _ => E _ _ _ _) (fun _ => br_c (fun _ => E _ _ _ _) (fun _ => br_c (fun _ => E _ _ _ _) (fun _ => br_c (fun _ => E _ _ _ _) (fun _ => br_c (fun _ => E _ _ _ _) (fun _ => br_c (fun _ => E _ _ _ _) (fun _ => E _ _ _ _)))))))))))
end
