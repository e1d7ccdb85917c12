-- ===== the reference's check =====
theorem PlM_fr {R : Nat → Nat → Prop} {h h' : mj_H} {W : List Wt} {kept : Nat} {P : mj_P} (A : PlM h W kept P) (f : fr R h h') (n1 : ∀ a i, ((a = 573 ∧ (i = 9 ∨ i = 10 ∨ i = 18)) ∨ (578 ≤ a ∧ a ≤ 599)) → ¬ R a i) : PlM h' W kept P := by
  obtain ⟨⟨a1, a2, a3, a4, a5⟩, a6, a7, a8, a9⟩ := A
  refine ⟨⟨(f.n (n1 _ _ (by omega))).trans a1, a2, (f.n (n1 _ _ (by omega))).trans a3, a4, (f.n (n1 _ _ (by omega))).trans a5⟩, fun j hj => (f.l (n1 _ _ (by omega))).trans (a6 j hj), fun p hp => (f.l (n1 _ _ (by omega))).trans (a7 p hp), fun k hk => (a8 k hk).fr f (Nat.le_refl _) ⟨n1 _ _ (by omega), fun i hi => ⟨n1 _ _ (by omega), n1 _ _ (by omega), n1 _ _ (by omega)⟩, fun q hq => ⟨n1 _ _ (by omega), n1 _ _ (by omega)⟩⟩, fun j hj => ?_⟩
  obtain ⟨c1, c2, c3, c4, c5⟩ := a9 j hj
  refine ⟨c1.fr f ⟨?_, fun i hi => ?_⟩, c2.fr f ⟨?_, fun a ha => ⟨?_, ?_, fun i hi => ?_⟩⟩, c3.fr f ⟨?_, fun r hr => ⟨?_, fun i hi => ⟨?_, ?_⟩⟩⟩, c4.fr f ⟨?_, fun r hr => ⟨?_, fun i hi => ⟨?_, ?_⟩⟩⟩, c5.fr f ?_ (fun i hi => ⟨?_, ?_, ?_⟩)⟩ <;> exact n1 _ _ (by omega)
section
variable {d j k kept : Nat} {h : mj_H} {Q : Option Value → mj_H → Prop} {P : mj_P} {y : Int64} {W : List Wt}
theorem s36P (H : mj_RS h) (hP : PlM h W kept P) (kk : Q (some (.int (jN P y))) h) : mr_C mj_KK d 36 [.ref 573, .long y] h Q := by
  refine s36 H hP.1.1 hP.1.2.1 ?_
  rw [fi_congr (q := fun j => decide ((P.sc j).1 = y)) (fun j h1 h2 => by rw [hP.2.1 j (by omega)])]
  exact kk
theorem s37P (H : mj_RS h) (hP : PlM h W kept P) (kk : Q (some (.int (pN P y))) h) : mr_C mj_KK d 37 [.ref 573, .long y] h Q := by
  refine s37 H hP.1.2.2.1 hP.1.2.2.2.1 ?_
  rw [fi_congr (q := fun p => decide ((P.sc (12 + p)).1 = y)) (fun j h1 h2 => by rw [hP.2.2.1 j (by omega)])]
  exact kk
theorem jN_pos {y : Int64} (h12 : P.nj ≤ 12) : (0 ≤ jN P y ↔ ¬ jN P y = -1) ∧ (jN P y < 0 ↔ jN P y = -1) := by
  rcases jN_of (P := P) (y := y) with v | ⟨q, h1, v⟩
  · rw [v]
    decide
  · rw [v]
    exact ⟨⟨fun _ => m1_ne (by omega), fun _ => i_nle (nI_pos (by omega))⟩, ⟨fun r => absurd r (nI_pos (by omega)), fun r => absurd r (m1_ne (by omega))⟩⟩
theorem pN_pos {y : Int64} (h12 : P.np ≤ 8) : (0 ≤ pN P y ↔ ¬ pN P y = -1) ∧ (pN P y < 0 ↔ pN P y = -1) := by
  rcases pN_of (P := P) (y := y) with v | ⟨q, h1, v⟩
  · rw [v]
    decide
  · rw [v]
    exact ⟨⟨fun _ => m1_ne (by omega), fun _ => i_nle (nI_pos (by omega))⟩, ⟨fun r => absurd r (nI_pos (by omega)), fun r => absurd r (m1_ne (by omega))⟩⟩
/-- lacks -/
theorem s55 (hd : 1 ≤ d) (H : mj_RS h) (hP : PlM h W kept P) (hj : j < 12) (hB : ∀ s ∈ (P.jr j).2.2.2.2.1, SB s) (kk : Q (some (.int (b2i (f1 P j)))) h) : mr_C mj_KK d 55 [.ref 573, .int (nI j)] h Q := by
  show mr_M mj_KK d 55 0 [some (.ref 573), some (.int (nI j)), none] [] h Q
  obtain ⟨⟨x1, x2, x3⟩, -, -, -, ⟨y1, y2, y3⟩⟩ := hP.2.2.2.2 j hj
  have j12 := hP.1.2.1
  unfold f1 at kk
  rw [akM_any] at kk
  generalize hxs : (P.jr j).1 = xs at *
  generalize hts : (P.jr j).2.2.2.2.1 = ts at *
  refine kb_55_0 ?_
  have loop2 : xs.any (mJ P) = false → ∀ n i, i + n = ts.length → (∀ k, k < i → (decide ((ts.getD k (0, 0, 0)).1 = 7 ∨ (ts.getD k (0, 0, 0)).1 = 8) && mJ P (ts.getD k (0, 0, 0)).2.1) = false) → mr_M mj_KK d 55 43 [some (.ref 573), some (.int (nI j)), some (.int (nI (20 * j + i)))] [] h Q := by
    intro h1 n
    rw [h1, Bool.false_or] at kk
    induction n with
    | zero =>
      intro i hi hq
      rw [any_f (x := (0, 0, 0)) (fun k hk => hq k (by omega))] at kk
      exact kb_55_43 (by first | with_reducible assumption | with_reducible exact kd_M | assumption) (by first | with_reducible assumption | exact rf_M_signCount H | assumption) (by first | with_reducible assumption | with_reducible exact kd_M_signCount | assumption) (by first | with_reducible assumption | (simp (disch := omega) only [z_0, z_1, z_2, z_3, z_4, z_5, z_6, z_7, z_8, z_9, z_10, z_12, z_13, z_20, z_21, z_25, z_56, z_350, z_31, z_32, z_36, z_48, z_57, z_61, z_97, z_100, z_122, z_125, z_126, z_144, z_255, z_700, z_1000, z_1548, nI_add, pk_mul, pk_sub, nI_clamp, nI_leI, nI_ltI, nI_eq, z_in, z_m1, z_m1b, lg_cmp_eq, z_cmp, Decidable.not_not, w_ie, w_in, w_il, w_le, w_ln, w_li, w_ir, w_lr, ln_P_tape, ln_W_text, ln_W_starts, ln_W_ends, ln_W_lines, ln_W_names, ln_W_values, ln_PL_jobs, ln_PL_parts, ln_FT_reached, ln_EX_jobs, ln_EX_codes, ln_CB_names, ln_CB_values, ln_M_tape, ln_M_source, ln_M_wordAt, ln_M_wordEnd, ln_M_names, ln_M_itemCount, ln_M_itemFirst, ln_M_itemWords, ln_M_itemUses, ln_M_keptAt, ln_M_keptEnd, ln_M_needCount, ln_M_axisCount, ln_M_valueCount, ln_M_needed, ln_M_axes, ln_M_values, ln_M_includes, ln_M_excludes, ln_M_pairCount, ln_M_pairName, ln_M_pairValue, ln_M_signCount, ln_M_signs, ln_M_signName, ln_M_signValue, ln_M_whose, ln_M_which, ln_M_pile, ln_M_reaches, ln_M_stepsOf, ln_M_known, ln_JB_needed, ln_JB_axes, ln_JS_used, ln_JS_stepWords, ln_PS_used, ln_PS_stepWords, ln_IN_rows, ln_EC_rows, ln_IR_names, ln_IR_values, ln_ER_names, ln_ER_values, ln_CD_kinds, ln_CD_names, ln_CD_values, ln_AX_values] <;> omega) | assumption) (fun _ => kb_55_101 kk) (fun c => (by simp (disch := omega) only [z_0, z_1, z_2, z_3, z_4, z_5, z_6, z_7, z_8, z_9, z_10, z_12, z_13, z_20, z_21, z_25, z_56, z_350, z_31, z_32, z_36, z_48, z_57, z_61, z_97, z_100, z_122, z_125, z_126, z_144, z_255, z_700, z_1000, z_1548, nI_add, pk_mul, pk_sub, nI_clamp, nI_leI, nI_ltI, nI_eq, z_in, z_m1, z_m1b, lg_cmp_eq, z_cmp, Decidable.not_not, w_ie, w_in, w_il, w_le, w_ln, w_li, w_ir, w_lr, y1] at c; exfalso; omega))
    | succ n ih =>
      intro i hi hq
      obtain ⟨e0, e1, e2⟩ := y3 i (by omega)
      have sb := (hB _ (getD_mem (x := (0, 0, 0)) (show i < ts.length by omega))).2
      have nx : (decide ((ts.getD i (0, 0, 0)).1 = 7 ∨ (ts.getD i (0, 0, 0)).1 = 8) && mJ P (ts.getD i (0, 0, 0)).2.1) = false → mr_M mj_KK d 55 95 [some (.ref 573), some (.int (nI j)), some (.int (nI (20 * j + i)))] [] h Q := by
        intro q
        refine kb_55_95 ?_
        rw [nI_1]
        exact ih (i + 1) (by omega) (lt_s hq q)
      have ask : ((ts.getD i (0, 0, 0)).1 = 7 ∨ (ts.getD i (0, 0, 0)).1 = 8) → mr_M mj_KK d 55 80 [some (.ref 573), some (.int (nI j)), some (.int (nI (20 * j + i)))] [] h Q := by
        intro q
        refine kb_55_80 (by first | with_reducible assumption | with_reducible exact kd_M | assumption) (by first | with_reducible assumption | exact rf_M_signName H | assumption) (by first | with_reducible assumption | with_reducible exact kd_M_signName | assumption) (by first | with_reducible assumption | (simp (disch := omega) only [z_0, z_1, z_2, z_3, z_4, z_5, z_6, z_7, z_8, z_9, z_10, z_12, z_13, z_20, z_21, z_25, z_56, z_350, z_31, z_32, z_36, z_48, z_57, z_61, z_97, z_100, z_122, z_125, z_126, z_144, z_255, z_700, z_1000, z_1548, nI_add, pk_mul, pk_sub, nI_clamp, nI_leI, nI_ltI, nI_eq, z_in, z_m1, z_m1b, lg_cmp_eq, z_cmp, Decidable.not_not, w_ie, w_in, w_il, w_le, w_ln, w_li, w_ir, w_lr, ln_P_tape, ln_W_text, ln_W_starts, ln_W_ends, ln_W_lines, ln_W_names, ln_W_values, ln_PL_jobs, ln_PL_parts, ln_FT_reached, ln_EX_jobs, ln_EX_codes, ln_CB_names, ln_CB_values, ln_M_tape, ln_M_source, ln_M_wordAt, ln_M_wordEnd, ln_M_names, ln_M_itemCount, ln_M_itemFirst, ln_M_itemWords, ln_M_itemUses, ln_M_keptAt, ln_M_keptEnd, ln_M_needCount, ln_M_axisCount, ln_M_valueCount, ln_M_needed, ln_M_axes, ln_M_values, ln_M_includes, ln_M_excludes, ln_M_pairCount, ln_M_pairName, ln_M_pairValue, ln_M_signCount, ln_M_signs, ln_M_signName, ln_M_signValue, ln_M_whose, ln_M_which, ln_M_pile, ln_M_reaches, ln_M_stepsOf, ln_M_known, ln_JB_needed, ln_JB_axes, ln_JS_used, ln_JS_stepWords, ln_PS_used, ln_PS_stepWords, ln_IN_rows, ln_EC_rows, ln_IR_names, ln_IR_values, ln_ER_names, ln_ER_values, ln_CD_kinds, ln_CD_names, ln_CD_values, ln_AX_values] <;> omega) | assumption) (by omega) ?_
        rw [nI_clamp (by omega), e1]
        refine s36P H hP (kb_55_90 (fun c => nx ?_) (fun c => kb_55_93 ?_))
        · rw [(jN_pos j12).1] at c
          unfold mJ
          rw [decide_eq_false c, Bool.and_false]
        · rw [(jN_pos j12).1, Decidable.not_not] at c
          rw [any_t (x := (0, 0, 0)) (i := i) (by omega) (by unfold mJ; rw [decide_eq_true c, decide_eq_true q]; rfl)] at kk
          exact kk
      refine kb_55_43 (by first | with_reducible assumption | with_reducible exact kd_M | assumption) (by first | with_reducible assumption | exact rf_M_signCount H | assumption) (by first | with_reducible assumption | with_reducible exact kd_M_signCount | assumption) (by first | with_reducible assumption | (simp (disch := omega) only [z_0, z_1, z_2, z_3, z_4, z_5, z_6, z_7, z_8, z_9, z_10, z_12, z_13, z_20, z_21, z_25, z_56, z_350, z_31, z_32, z_36, z_48, z_57, z_61, z_97, z_100, z_122, z_125, z_126, z_144, z_255, z_700, z_1000, z_1548, nI_add, pk_mul, pk_sub, nI_clamp, nI_leI, nI_ltI, nI_eq, z_in, z_m1, z_m1b, lg_cmp_eq, z_cmp, Decidable.not_not, w_ie, w_in, w_il, w_le, w_ln, w_li, w_ir, w_lr, ln_P_tape, ln_W_text, ln_W_starts, ln_W_ends, ln_W_lines, ln_W_names, ln_W_values, ln_PL_jobs, ln_PL_parts, ln_FT_reached, ln_EX_jobs, ln_EX_codes, ln_CB_names, ln_CB_values, ln_M_tape, ln_M_source, ln_M_wordAt, ln_M_wordEnd, ln_M_names, ln_M_itemCount, ln_M_itemFirst, ln_M_itemWords, ln_M_itemUses, ln_M_keptAt, ln_M_keptEnd, ln_M_needCount, ln_M_axisCount, ln_M_valueCount, ln_M_needed, ln_M_axes, ln_M_values, ln_M_includes, ln_M_excludes, ln_M_pairCount, ln_M_pairName, ln_M_pairValue, ln_M_signCount, ln_M_signs, ln_M_signName, ln_M_signValue, ln_M_whose, ln_M_which, ln_M_pile, ln_M_reaches, ln_M_stepsOf, ln_M_known, ln_JB_needed, ln_JB_axes, ln_JS_used, ln_JS_stepWords, ln_PS_used, ln_PS_stepWords, ln_IN_rows, ln_EC_rows, ln_IR_names, ln_IR_values, ln_ER_names, ln_ER_values, ln_CD_kinds, ln_CD_names, ln_CD_values, ln_AX_values] <;> omega) | assumption) (fun c => (by simp (disch := omega) only [z_0, z_1, z_2, z_3, z_4, z_5, z_6, z_7, z_8, z_9, z_10, z_12, z_13, z_20, z_21, z_25, z_56, z_350, z_31, z_32, z_36, z_48, z_57, z_61, z_97, z_100, z_122, z_125, z_126, z_144, z_255, z_700, z_1000, z_1548, nI_add, pk_mul, pk_sub, nI_clamp, nI_leI, nI_ltI, nI_eq, z_in, z_m1, z_m1b, lg_cmp_eq, z_cmp, Decidable.not_not, w_ie, w_in, w_il, w_le, w_ln, w_li, w_ir, w_lr, y1] at c; exfalso; omega)) (fun _ => kb_55_58 (by first | with_reducible assumption | with_reducible exact kd_M | assumption) (by first | with_reducible assumption | exact rf_M_signs H | assumption) (by first | with_reducible assumption | with_reducible exact kd_M_signs | assumption) (by first | with_reducible assumption | (simp (disch := omega) only [z_0, z_1, z_2, z_3, z_4, z_5, z_6, z_7, z_8, z_9, z_10, z_12, z_13, z_20, z_21, z_25, z_56, z_350, z_31, z_32, z_36, z_48, z_57, z_61, z_97, z_100, z_122, z_125, z_126, z_144, z_255, z_700, z_1000, z_1548, nI_add, pk_mul, pk_sub, nI_clamp, nI_leI, nI_ltI, nI_eq, z_in, z_m1, z_m1b, lg_cmp_eq, z_cmp, Decidable.not_not, w_ie, w_in, w_il, w_le, w_ln, w_li, w_ir, w_lr, ln_P_tape, ln_W_text, ln_W_starts, ln_W_ends, ln_W_lines, ln_W_names, ln_W_values, ln_PL_jobs, ln_PL_parts, ln_FT_reached, ln_EX_jobs, ln_EX_codes, ln_CB_names, ln_CB_values, ln_M_tape, ln_M_source, ln_M_wordAt, ln_M_wordEnd, ln_M_names, ln_M_itemCount, ln_M_itemFirst, ln_M_itemWords, ln_M_itemUses, ln_M_keptAt, ln_M_keptEnd, ln_M_needCount, ln_M_axisCount, ln_M_valueCount, ln_M_needed, ln_M_axes, ln_M_values, ln_M_includes, ln_M_excludes, ln_M_pairCount, ln_M_pairName, ln_M_pairValue, ln_M_signCount, ln_M_signs, ln_M_signName, ln_M_signValue, ln_M_whose, ln_M_which, ln_M_pile, ln_M_reaches, ln_M_stepsOf, ln_M_known, ln_JB_needed, ln_JB_axes, ln_JS_used, ln_JS_stepWords, ln_PS_used, ln_PS_stepWords, ln_IN_rows, ln_EC_rows, ln_IR_names, ln_IR_values, ln_ER_names, ln_ER_values, ln_CD_kinds, ln_CD_names, ln_CD_values, ln_AX_values] <;> omega) | assumption) (fun c => ask ?_) (fun c => kb_55_69 (by first | with_reducible assumption | with_reducible exact kd_M | assumption) (by first | with_reducible assumption | exact rf_M_signs H | assumption) (by first | with_reducible assumption | with_reducible exact kd_M_signs | assumption) (by first | with_reducible assumption | (simp (disch := omega) only [z_0, z_1, z_2, z_3, z_4, z_5, z_6, z_7, z_8, z_9, z_10, z_12, z_13, z_20, z_21, z_25, z_56, z_350, z_31, z_32, z_36, z_48, z_57, z_61, z_97, z_100, z_122, z_125, z_126, z_144, z_255, z_700, z_1000, z_1548, nI_add, pk_mul, pk_sub, nI_clamp, nI_leI, nI_ltI, nI_eq, z_in, z_m1, z_m1b, lg_cmp_eq, z_cmp, Decidable.not_not, w_ie, w_in, w_il, w_le, w_ln, w_li, w_ir, w_lr, ln_P_tape, ln_W_text, ln_W_starts, ln_W_ends, ln_W_lines, ln_W_names, ln_W_values, ln_PL_jobs, ln_PL_parts, ln_FT_reached, ln_EX_jobs, ln_EX_codes, ln_CB_names, ln_CB_values, ln_M_tape, ln_M_source, ln_M_wordAt, ln_M_wordEnd, ln_M_names, ln_M_itemCount, ln_M_itemFirst, ln_M_itemWords, ln_M_itemUses, ln_M_keptAt, ln_M_keptEnd, ln_M_needCount, ln_M_axisCount, ln_M_valueCount, ln_M_needed, ln_M_axes, ln_M_values, ln_M_includes, ln_M_excludes, ln_M_pairCount, ln_M_pairName, ln_M_pairValue, ln_M_signCount, ln_M_signs, ln_M_signName, ln_M_signValue, ln_M_whose, ln_M_which, ln_M_pile, ln_M_reaches, ln_M_stepsOf, ln_M_known, ln_JB_needed, ln_JB_axes, ln_JS_used, ln_JS_stepWords, ln_PS_used, ln_PS_stepWords, ln_IN_rows, ln_EC_rows, ln_IR_names, ln_IR_values, ln_ER_names, ln_ER_values, ln_CD_kinds, ln_CD_names, ln_CD_values, ln_AX_values] <;> omega) | assumption) (fun c2 => nx ?_) (fun c2 => ask ?_)))
      · simp (disch := omega) only [z_0, z_1, z_2, z_3, z_4, z_5, z_6, z_7, z_8, z_9, z_10, z_12, z_13, z_20, z_21, z_25, z_56, z_350, z_31, z_32, z_36, z_48, z_57, z_61, z_97, z_100, z_122, z_125, z_126, z_144, z_255, z_700, z_1000, z_1548, nI_add, pk_mul, pk_sub, nI_clamp, nI_leI, nI_ltI, nI_eq, z_in, z_m1, z_m1b, lg_cmp_eq, z_cmp, Decidable.not_not, w_ie, w_in, w_il, w_le, w_ln, w_li, w_ir, w_lr, e0] at c
        exact Or.inl c
      · simp (disch := omega) only [z_0, z_1, z_2, z_3, z_4, z_5, z_6, z_7, z_8, z_9, z_10, z_12, z_13, z_20, z_21, z_25, z_56, z_350, z_31, z_32, z_36, z_48, z_57, z_61, z_97, z_100, z_122, z_125, z_126, z_144, z_255, z_700, z_1000, z_1548, nI_add, pk_mul, pk_sub, nI_clamp, nI_leI, nI_ltI, nI_eq, z_in, z_m1, z_m1b, lg_cmp_eq, z_cmp, Decidable.not_not, w_ie, w_in, w_il, w_le, w_ln, w_li, w_ir, w_lr, e0] at c c2
        rw [decide_eq_false (fun r => r.elim c c2), Bool.false_and]
      · simp (disch := omega) only [z_0, z_1, z_2, z_3, z_4, z_5, z_6, z_7, z_8, z_9, z_10, z_12, z_13, z_20, z_21, z_25, z_56, z_350, z_31, z_32, z_36, z_48, z_57, z_61, z_97, z_100, z_122, z_125, z_126, z_144, z_255, z_700, z_1000, z_1548, nI_add, pk_mul, pk_sub, nI_clamp, nI_leI, nI_ltI, nI_eq, z_in, z_m1, z_m1b, lg_cmp_eq, z_cmp, Decidable.not_not, w_ie, w_in, w_il, w_le, w_ln, w_li, w_ir, w_lr, e0] at c2
        exact Or.inr c2
  have loop : ∀ n i, i + n = xs.length → (∀ k, k < i → mJ P (xs.getD k 0) = false) → mr_M mj_KK d 55 2 [some (.ref 573), some (.int (nI j)), some (.int (nI i))] [] h Q := by
    intro n
    induction n with
    | zero =>
      intro i hi hq
      refine kb_55_2 (by first | with_reducible assumption | with_reducible exact kd_M | assumption) (by first | with_reducible assumption | exact rf_M_needCount H | assumption) (by first | with_reducible assumption | with_reducible exact kd_M_needCount | assumption) (by first | with_reducible assumption | (simp (disch := omega) only [z_0, z_1, z_2, z_3, z_4, z_5, z_6, z_7, z_8, z_9, z_10, z_12, z_13, z_20, z_21, z_25, z_56, z_350, z_31, z_32, z_36, z_48, z_57, z_61, z_97, z_100, z_122, z_125, z_126, z_144, z_255, z_700, z_1000, z_1548, nI_add, pk_mul, pk_sub, nI_clamp, nI_leI, nI_ltI, nI_eq, z_in, z_m1, z_m1b, lg_cmp_eq, z_cmp, Decidable.not_not, w_ie, w_in, w_il, w_le, w_ln, w_li, w_ir, w_lr, ln_P_tape, ln_W_text, ln_W_starts, ln_W_ends, ln_W_lines, ln_W_names, ln_W_values, ln_PL_jobs, ln_PL_parts, ln_FT_reached, ln_EX_jobs, ln_EX_codes, ln_CB_names, ln_CB_values, ln_M_tape, ln_M_source, ln_M_wordAt, ln_M_wordEnd, ln_M_names, ln_M_itemCount, ln_M_itemFirst, ln_M_itemWords, ln_M_itemUses, ln_M_keptAt, ln_M_keptEnd, ln_M_needCount, ln_M_axisCount, ln_M_valueCount, ln_M_needed, ln_M_axes, ln_M_values, ln_M_includes, ln_M_excludes, ln_M_pairCount, ln_M_pairName, ln_M_pairValue, ln_M_signCount, ln_M_signs, ln_M_signName, ln_M_signValue, ln_M_whose, ln_M_which, ln_M_pile, ln_M_reaches, ln_M_stepsOf, ln_M_known, ln_JB_needed, ln_JB_axes, ln_JS_used, ln_JS_stepWords, ln_PS_used, ln_PS_stepWords, ln_IN_rows, ln_EC_rows, ln_IR_names, ln_IR_values, ln_ER_names, ln_ER_values, ln_CD_kinds, ln_CD_names, ln_CD_values, ln_AX_values] <;> omega) | assumption) (fun _ => kb_55_38 ?_) (fun c => (by simp (disch := omega) only [z_0, z_1, z_2, z_3, z_4, z_5, z_6, z_7, z_8, z_9, z_10, z_12, z_13, z_20, z_21, z_25, z_56, z_350, z_31, z_32, z_36, z_48, z_57, z_61, z_97, z_100, z_122, z_125, z_126, z_144, z_255, z_700, z_1000, z_1548, nI_add, pk_mul, pk_sub, nI_clamp, nI_leI, nI_ltI, nI_eq, z_in, z_m1, z_m1b, lg_cmp_eq, z_cmp, Decidable.not_not, w_ie, w_in, w_il, w_le, w_ln, w_li, w_ir, w_lr, x1] at c; exfalso; omega))
      have e9 : (20 : Int32) * nI j = nI (20 * j + 0) := pk_mul 20 j
      rw [e9]
      exact loop2 (any_f (x := 0) (fun k hk => hq k (by omega))) ts.length 0 (by omega) lt_0
    | succ n ih =>
      intro i hi hq
      have e0 := x3 i (by omega)
      refine kb_55_2 (by first | with_reducible assumption | with_reducible exact kd_M | assumption) (by first | with_reducible assumption | exact rf_M_needCount H | assumption) (by first | with_reducible assumption | with_reducible exact kd_M_needCount | assumption) (by first | with_reducible assumption | (simp (disch := omega) only [z_0, z_1, z_2, z_3, z_4, z_5, z_6, z_7, z_8, z_9, z_10, z_12, z_13, z_20, z_21, z_25, z_56, z_350, z_31, z_32, z_36, z_48, z_57, z_61, z_97, z_100, z_122, z_125, z_126, z_144, z_255, z_700, z_1000, z_1548, nI_add, pk_mul, pk_sub, nI_clamp, nI_leI, nI_ltI, nI_eq, z_in, z_m1, z_m1b, lg_cmp_eq, z_cmp, Decidable.not_not, w_ie, w_in, w_il, w_le, w_ln, w_li, w_ir, w_lr, ln_P_tape, ln_W_text, ln_W_starts, ln_W_ends, ln_W_lines, ln_W_names, ln_W_values, ln_PL_jobs, ln_PL_parts, ln_FT_reached, ln_EX_jobs, ln_EX_codes, ln_CB_names, ln_CB_values, ln_M_tape, ln_M_source, ln_M_wordAt, ln_M_wordEnd, ln_M_names, ln_M_itemCount, ln_M_itemFirst, ln_M_itemWords, ln_M_itemUses, ln_M_keptAt, ln_M_keptEnd, ln_M_needCount, ln_M_axisCount, ln_M_valueCount, ln_M_needed, ln_M_axes, ln_M_values, ln_M_includes, ln_M_excludes, ln_M_pairCount, ln_M_pairName, ln_M_pairValue, ln_M_signCount, ln_M_signs, ln_M_signName, ln_M_signValue, ln_M_whose, ln_M_which, ln_M_pile, ln_M_reaches, ln_M_stepsOf, ln_M_known, ln_JB_needed, ln_JB_axes, ln_JS_used, ln_JS_stepWords, ln_PS_used, ln_PS_stepWords, ln_IN_rows, ln_EC_rows, ln_IR_names, ln_IR_values, ln_ER_names, ln_ER_values, ln_CD_kinds, ln_CD_names, ln_CD_values, ln_AX_values] <;> omega) | assumption) (fun c => (by simp (disch := omega) only [z_0, z_1, z_2, z_3, z_4, z_5, z_6, z_7, z_8, z_9, z_10, z_12, z_13, z_20, z_21, z_25, z_56, z_350, z_31, z_32, z_36, z_48, z_57, z_61, z_97, z_100, z_122, z_125, z_126, z_144, z_255, z_700, z_1000, z_1548, nI_add, pk_mul, pk_sub, nI_clamp, nI_leI, nI_ltI, nI_eq, z_in, z_m1, z_m1b, lg_cmp_eq, z_cmp, Decidable.not_not, w_ie, w_in, w_il, w_le, w_ln, w_li, w_ir, w_lr, x1] at c; exfalso; omega)) (fun _ => kb_55_12 (by first | with_reducible assumption | with_reducible exact kd_M | assumption) (by first | with_reducible assumption | exact rf_M_needed H | assumption) (by first | with_reducible assumption | with_reducible exact kd_M_needed | assumption) (by first | with_reducible assumption | (simp (disch := omega) only [z_0, z_1, z_2, z_3, z_4, z_5, z_6, z_7, z_8, z_9, z_10, z_12, z_13, z_20, z_21, z_25, z_56, z_350, z_31, z_32, z_36, z_48, z_57, z_61, z_97, z_100, z_122, z_125, z_126, z_144, z_255, z_700, z_1000, z_1548, nI_add, pk_mul, pk_sub, nI_clamp, nI_leI, nI_ltI, nI_eq, z_in, z_m1, z_m1b, lg_cmp_eq, z_cmp, Decidable.not_not, w_ie, w_in, w_il, w_le, w_ln, w_li, w_ir, w_lr, ln_P_tape, ln_W_text, ln_W_starts, ln_W_ends, ln_W_lines, ln_W_names, ln_W_values, ln_PL_jobs, ln_PL_parts, ln_FT_reached, ln_EX_jobs, ln_EX_codes, ln_CB_names, ln_CB_values, ln_M_tape, ln_M_source, ln_M_wordAt, ln_M_wordEnd, ln_M_names, ln_M_itemCount, ln_M_itemFirst, ln_M_itemWords, ln_M_itemUses, ln_M_keptAt, ln_M_keptEnd, ln_M_needCount, ln_M_axisCount, ln_M_valueCount, ln_M_needed, ln_M_axes, ln_M_values, ln_M_includes, ln_M_excludes, ln_M_pairCount, ln_M_pairName, ln_M_pairValue, ln_M_signCount, ln_M_signs, ln_M_signName, ln_M_signValue, ln_M_whose, ln_M_which, ln_M_pile, ln_M_reaches, ln_M_stepsOf, ln_M_known, ln_JB_needed, ln_JB_axes, ln_JS_used, ln_JS_stepWords, ln_PS_used, ln_PS_stepWords, ln_IN_rows, ln_EC_rows, ln_IR_names, ln_IR_values, ln_ER_names, ln_ER_values, ln_CD_kinds, ln_CD_names, ln_CD_values, ln_AX_values] <;> omega) | assumption) (by omega) ?_)
      simp (disch := omega) only [z_0, z_1, z_2, z_3, z_4, z_5, z_6, z_7, z_8, z_9, z_10, z_12, z_13, z_20, z_21, z_25, z_56, z_350, z_31, z_32, z_36, z_48, z_57, z_61, z_97, z_100, z_122, z_125, z_126, z_144, z_255, z_700, z_1000, z_1548, nI_add, pk_mul, pk_sub, nI_clamp, nI_leI, nI_ltI, nI_eq, z_in, z_m1, z_m1b, lg_cmp_eq, z_cmp, Decidable.not_not, w_ie, w_in, w_il, w_le, w_ln, w_li, w_ir, w_lr, e0]
      refine s36P H hP (kb_55_27 (fun c => kb_55_32 ?_) (fun c => kb_55_30 ?_))
      · rw [(jN_pos j12).1] at c
        rw [nI_1]
        exact ih (i + 1) (by omega) (lt_s hq (decide_eq_false c))
      · rw [(jN_pos j12).1, Decidable.not_not] at c
        rw [any_t (p := mJ P) (x := 0) (i := i) (by omega) (decide_eq_true c), Bool.true_or] at kk
        exact kk
  exact loop xs.length 0 (by omega) lt_0
/-- usesNone -/
theorem s56 (hd : 1 ≤ d) (H : mj_RS h) (hP : PlM h W kept P) (hk : k < 20) (kk : Q (some (.int (b2i (f2 P k)))) h) : mr_C mj_KK d 56 [.ref 573, .int (nI k)] h Q := by
  show mr_M mj_KK d 56 0 [some (.ref 573), some (.int (nI k)), none] [] h Q
  obtain ⟨x1, x2, x3⟩ := hP.2.2.2.1 k hk
  have p8 := hP.1.2.2.2.1
  unfold f2 at kk
  generalize hxs : (P.sc k).2 = xs at *
  refine kb_56_0 ?_
  have e9 : (8 : Int32) * nI k = nI (8 * k + 0) := pk_mul 8 k
  rw [e9]
  have loop : ∀ n i, i + n = xs.length → (∀ k, k < i → (decide (¬ (xs.getD k (0, 0, 0)).1 = 0) && mP P (xs.getD k (0, 0, 0)).1) = false) → mr_M mj_KK d 56 5 [some (.ref 573), some (.int (nI k)), some (.int (nI (8 * k + i)))] [] h Q := by
    intro n
    induction n with
    | zero =>
      intro i hi hq
      rw [any_f (x := (0, 0, 0)) (fun k hk => hq k (by omega))] at kk
      exact kb_56_5 (by first | with_reducible assumption | with_reducible exact kd_M | assumption) (by first | with_reducible assumption | exact rf_M_itemCount H | assumption) (by first | with_reducible assumption | with_reducible exact kd_M_itemCount | assumption) (by first | with_reducible assumption | (simp (disch := omega) only [z_0, z_1, z_2, z_3, z_4, z_5, z_6, z_7, z_8, z_9, z_10, z_12, z_13, z_20, z_21, z_25, z_56, z_350, z_31, z_32, z_36, z_48, z_57, z_61, z_97, z_100, z_122, z_125, z_126, z_144, z_255, z_700, z_1000, z_1548, nI_add, pk_mul, pk_sub, nI_clamp, nI_leI, nI_ltI, nI_eq, z_in, z_m1, z_m1b, lg_cmp_eq, z_cmp, Decidable.not_not, w_ie, w_in, w_il, w_le, w_ln, w_li, w_ir, w_lr, ln_P_tape, ln_W_text, ln_W_starts, ln_W_ends, ln_W_lines, ln_W_names, ln_W_values, ln_PL_jobs, ln_PL_parts, ln_FT_reached, ln_EX_jobs, ln_EX_codes, ln_CB_names, ln_CB_values, ln_M_tape, ln_M_source, ln_M_wordAt, ln_M_wordEnd, ln_M_names, ln_M_itemCount, ln_M_itemFirst, ln_M_itemWords, ln_M_itemUses, ln_M_keptAt, ln_M_keptEnd, ln_M_needCount, ln_M_axisCount, ln_M_valueCount, ln_M_needed, ln_M_axes, ln_M_values, ln_M_includes, ln_M_excludes, ln_M_pairCount, ln_M_pairName, ln_M_pairValue, ln_M_signCount, ln_M_signs, ln_M_signName, ln_M_signValue, ln_M_whose, ln_M_which, ln_M_pile, ln_M_reaches, ln_M_stepsOf, ln_M_known, ln_JB_needed, ln_JB_axes, ln_JS_used, ln_JS_stepWords, ln_PS_used, ln_PS_stepWords, ln_IN_rows, ln_EC_rows, ln_IR_names, ln_IR_values, ln_ER_names, ln_ER_values, ln_CD_kinds, ln_CD_names, ln_CD_values, ln_AX_values] <;> omega) | assumption) (fun _ => kb_56_52 kk) (fun c => (by simp (disch := omega) only [z_0, z_1, z_2, z_3, z_4, z_5, z_6, z_7, z_8, z_9, z_10, z_12, z_13, z_20, z_21, z_25, z_56, z_350, z_31, z_32, z_36, z_48, z_57, z_61, z_97, z_100, z_122, z_125, z_126, z_144, z_255, z_700, z_1000, z_1548, nI_add, pk_mul, pk_sub, nI_clamp, nI_leI, nI_ltI, nI_eq, z_in, z_m1, z_m1b, lg_cmp_eq, z_cmp, Decidable.not_not, w_ie, w_in, w_il, w_le, w_ln, w_li, w_ir, w_lr, x1] at c; exfalso; omega))
    | succ n ih =>
      intro i hi hq
      have e0 := (x3 i (by omega)).1
      have nx : (decide (¬ (xs.getD i (0, 0, 0)).1 = 0) && mP P (xs.getD i (0, 0, 0)).1) = false → mr_M mj_KK d 56 46 [some (.ref 573), some (.int (nI k)), some (.int (nI (8 * k + i)))] [] h Q := by
        intro q
        refine kb_56_46 ?_
        rw [nI_1]
        exact ih (i + 1) (by omega) (lt_s hq q)
      refine kb_56_5 (by first | with_reducible assumption | with_reducible exact kd_M | assumption) (by first | with_reducible assumption | exact rf_M_itemCount H | assumption) (by first | with_reducible assumption | with_reducible exact kd_M_itemCount | assumption) (by first | with_reducible assumption | (simp (disch := omega) only [z_0, z_1, z_2, z_3, z_4, z_5, z_6, z_7, z_8, z_9, z_10, z_12, z_13, z_20, z_21, z_25, z_56, z_350, z_31, z_32, z_36, z_48, z_57, z_61, z_97, z_100, z_122, z_125, z_126, z_144, z_255, z_700, z_1000, z_1548, nI_add, pk_mul, pk_sub, nI_clamp, nI_leI, nI_ltI, nI_eq, z_in, z_m1, z_m1b, lg_cmp_eq, z_cmp, Decidable.not_not, w_ie, w_in, w_il, w_le, w_ln, w_li, w_ir, w_lr, ln_P_tape, ln_W_text, ln_W_starts, ln_W_ends, ln_W_lines, ln_W_names, ln_W_values, ln_PL_jobs, ln_PL_parts, ln_FT_reached, ln_EX_jobs, ln_EX_codes, ln_CB_names, ln_CB_values, ln_M_tape, ln_M_source, ln_M_wordAt, ln_M_wordEnd, ln_M_names, ln_M_itemCount, ln_M_itemFirst, ln_M_itemWords, ln_M_itemUses, ln_M_keptAt, ln_M_keptEnd, ln_M_needCount, ln_M_axisCount, ln_M_valueCount, ln_M_needed, ln_M_axes, ln_M_values, ln_M_includes, ln_M_excludes, ln_M_pairCount, ln_M_pairName, ln_M_pairValue, ln_M_signCount, ln_M_signs, ln_M_signName, ln_M_signValue, ln_M_whose, ln_M_which, ln_M_pile, ln_M_reaches, ln_M_stepsOf, ln_M_known, ln_JB_needed, ln_JB_axes, ln_JS_used, ln_JS_stepWords, ln_PS_used, ln_PS_stepWords, ln_IN_rows, ln_EC_rows, ln_IR_names, ln_IR_values, ln_ER_names, ln_ER_values, ln_CD_kinds, ln_CD_names, ln_CD_values, ln_AX_values] <;> omega) | assumption) (fun c => (by simp (disch := omega) only [z_0, z_1, z_2, z_3, z_4, z_5, z_6, z_7, z_8, z_9, z_10, z_12, z_13, z_20, z_21, z_25, z_56, z_350, z_31, z_32, z_36, z_48, z_57, z_61, z_97, z_100, z_122, z_125, z_126, z_144, z_255, z_700, z_1000, z_1548, nI_add, pk_mul, pk_sub, nI_clamp, nI_leI, nI_ltI, nI_eq, z_in, z_m1, z_m1b, lg_cmp_eq, z_cmp, Decidable.not_not, w_ie, w_in, w_il, w_le, w_ln, w_li, w_ir, w_lr, x1] at c; exfalso; omega)) (fun _ => kb_56_20 (by first | with_reducible assumption | with_reducible exact kd_M | assumption) (by first | with_reducible assumption | exact rf_M_itemUses H | assumption) (by first | with_reducible assumption | with_reducible exact kd_M_itemUses | assumption) (by first | with_reducible assumption | (simp (disch := omega) only [z_0, z_1, z_2, z_3, z_4, z_5, z_6, z_7, z_8, z_9, z_10, z_12, z_13, z_20, z_21, z_25, z_56, z_350, z_31, z_32, z_36, z_48, z_57, z_61, z_97, z_100, z_122, z_125, z_126, z_144, z_255, z_700, z_1000, z_1548, nI_add, pk_mul, pk_sub, nI_clamp, nI_leI, nI_ltI, nI_eq, z_in, z_m1, z_m1b, lg_cmp_eq, z_cmp, Decidable.not_not, w_ie, w_in, w_il, w_le, w_ln, w_li, w_ir, w_lr, ln_P_tape, ln_W_text, ln_W_starts, ln_W_ends, ln_W_lines, ln_W_names, ln_W_values, ln_PL_jobs, ln_PL_parts, ln_FT_reached, ln_EX_jobs, ln_EX_codes, ln_CB_names, ln_CB_values, ln_M_tape, ln_M_source, ln_M_wordAt, ln_M_wordEnd, ln_M_names, ln_M_itemCount, ln_M_itemFirst, ln_M_itemWords, ln_M_itemUses, ln_M_keptAt, ln_M_keptEnd, ln_M_needCount, ln_M_axisCount, ln_M_valueCount, ln_M_needed, ln_M_axes, ln_M_values, ln_M_includes, ln_M_excludes, ln_M_pairCount, ln_M_pairName, ln_M_pairValue, ln_M_signCount, ln_M_signs, ln_M_signName, ln_M_signValue, ln_M_whose, ln_M_which, ln_M_pile, ln_M_reaches, ln_M_stepsOf, ln_M_known, ln_JB_needed, ln_JB_axes, ln_JS_used, ln_JS_stepWords, ln_PS_used, ln_PS_stepWords, ln_IN_rows, ln_EC_rows, ln_IR_names, ln_IR_values, ln_ER_names, ln_ER_values, ln_CD_kinds, ln_CD_names, ln_CD_values, ln_AX_values] <;> omega) | assumption) (fun c => nx ?_) (fun c => kb_56_31 (by first | with_reducible assumption | with_reducible exact kd_M | assumption) (by first | with_reducible assumption | exact rf_M_itemUses H | assumption) (by first | with_reducible assumption | with_reducible exact kd_M_itemUses | assumption) (by first | with_reducible assumption | (simp (disch := omega) only [z_0, z_1, z_2, z_3, z_4, z_5, z_6, z_7, z_8, z_9, z_10, z_12, z_13, z_20, z_21, z_25, z_56, z_350, z_31, z_32, z_36, z_48, z_57, z_61, z_97, z_100, z_122, z_125, z_126, z_144, z_255, z_700, z_1000, z_1548, nI_add, pk_mul, pk_sub, nI_clamp, nI_leI, nI_ltI, nI_eq, z_in, z_m1, z_m1b, lg_cmp_eq, z_cmp, Decidable.not_not, w_ie, w_in, w_il, w_le, w_ln, w_li, w_ir, w_lr, ln_P_tape, ln_W_text, ln_W_starts, ln_W_ends, ln_W_lines, ln_W_names, ln_W_values, ln_PL_jobs, ln_PL_parts, ln_FT_reached, ln_EX_jobs, ln_EX_codes, ln_CB_names, ln_CB_values, ln_M_tape, ln_M_source, ln_M_wordAt, ln_M_wordEnd, ln_M_names, ln_M_itemCount, ln_M_itemFirst, ln_M_itemWords, ln_M_itemUses, ln_M_keptAt, ln_M_keptEnd, ln_M_needCount, ln_M_axisCount, ln_M_valueCount, ln_M_needed, ln_M_axes, ln_M_values, ln_M_includes, ln_M_excludes, ln_M_pairCount, ln_M_pairName, ln_M_pairValue, ln_M_signCount, ln_M_signs, ln_M_signName, ln_M_signValue, ln_M_whose, ln_M_which, ln_M_pile, ln_M_reaches, ln_M_stepsOf, ln_M_known, ln_JB_needed, ln_JB_axes, ln_JS_used, ln_JS_stepWords, ln_PS_used, ln_PS_stepWords, ln_IN_rows, ln_EC_rows, ln_IR_names, ln_IR_values, ln_ER_names, ln_ER_values, ln_CD_kinds, ln_CD_names, ln_CD_values, ln_AX_values] <;> omega) | assumption) (by omega) ?_))
      · simp (disch := omega) only [z_0, z_1, z_2, z_3, z_4, z_5, z_6, z_7, z_8, z_9, z_10, z_12, z_13, z_20, z_21, z_25, z_56, z_350, z_31, z_32, z_36, z_48, z_57, z_61, z_97, z_100, z_122, z_125, z_126, z_144, z_255, z_700, z_1000, z_1548, nI_add, pk_mul, pk_sub, nI_clamp, nI_leI, nI_ltI, nI_eq, z_in, z_m1, z_m1b, lg_cmp_eq, z_cmp, Decidable.not_not, w_ie, w_in, w_il, w_le, w_ln, w_li, w_ir, w_lr, e0] at c
        rw [decide_eq_false (fun r => r c), Bool.false_and]
      · simp (disch := omega) only [z_0, z_1, z_2, z_3, z_4, z_5, z_6, z_7, z_8, z_9, z_10, z_12, z_13, z_20, z_21, z_25, z_56, z_350, z_31, z_32, z_36, z_48, z_57, z_61, z_97, z_100, z_122, z_125, z_126, z_144, z_255, z_700, z_1000, z_1548, nI_add, pk_mul, pk_sub, nI_clamp, nI_leI, nI_ltI, nI_eq, z_in, z_m1, z_m1b, lg_cmp_eq, z_cmp, Decidable.not_not, w_ie, w_in, w_il, w_le, w_ln, w_li, w_ir, w_lr, e0] at c
        rw [nI_clamp (by omega), e0]
        refine s37P H hP (kb_56_41 (fun c2 => nx ?_) (fun c2 => kb_56_44 ?_))
        · rw [(pN_pos p8).1] at c2
          unfold mP
          rw [decide_eq_false c2, Bool.and_false]
        · rw [(pN_pos p8).1, Decidable.not_not] at c2
          rw [any_t (x := (0, 0, 0)) (i := i) (by omega) (by unfold mP; rw [decide_eq_true c2, decide_eq_true c]; rfl)] at kk
          exact kk
  exact loop xs.length 0 (by omega) lt_0
end
def inMg : Nat → Nat → Prop := fun a i => (a = 573 ∧ i = 39) ∨ a = 603
def inMh : Nat → Nat → Prop := fun a _ => a = 603
theorem nar1 : vp_nar .boolean 1 = 1 := by decide
theorem nar0 : vp_nar .boolean 0 = 0 := by decide
theorem narb {b : Bool} : vp_nar .boolean (b2i b) = b2i b := by cases b <;> decide
theorem b2i_0 {b : Bool} : (b2i b = 0) ↔ b = false := by cases b <;> decide
section
variable {d n kept : Nat} {h0 : mj_H} {Q : Option Value → mj_H → Prop} {P : mj_P} {W : List Wt}
/-- round -/
theorem s57 {E : Nat → Nat → Bool} (H0 : mj_RS h0) (hn : n ≤ 12) (hR : ∀ a, a < n → ∀ b, b < n → h0.1 603 (12 * a + b) = b2i (E a b)) (kk : ∀ h', fr inMh h0 h' → Q (some (.int (cyc n E))) h') : mr_C mj_KK d 57 [.ref 573, .int (nI n)] h0 Q := by
  show mr_M mj_KK d 57 0 [some (.ref 573), some (.int (nI n)), none, none, none] [] h0 Q
  refine kb_57_0 ?_
  have last : ∀ h, fr inMh h0 h → (∀ a, a < n → ∀ b, b < n → h.1 603 (12 * a + b) = b2i (wf n E a b)) → ∀ m i, i + m = n → fi (fun a => wf n E a a) i m = cyc n E → mr_M mj_KK d 57 104 [some (.ref 573), some (.int (nI n)), some (.int (nI i)), none, none] [] h Q := by
    intro h hf hb m
    have H := hf.rs H0
    have kk := kk h hf
    induction m with
    | zero =>
      intro i hi hq
      rw [← hq] at kk
      exact kb_57_104 (fun _ => kb_57_129 kk) (fun c => (by simp (disch := omega) only [z_0, z_1, z_2, z_3, z_4, z_5, z_6, z_7, z_8, z_9, z_10, z_12, z_13, z_20, z_21, z_25, z_56, z_350, z_31, z_32, z_36, z_48, z_57, z_61, z_97, z_100, z_122, z_125, z_126, z_144, z_255, z_700, z_1000, z_1548, nI_add, pk_mul, pk_sub, nI_clamp, nI_leI, nI_ltI, nI_eq, z_in, z_m1, z_m1b, lg_cmp_eq, z_cmp, Decidable.not_not, w_ie, w_in, w_il, w_le, w_ln, w_li, w_ir, w_lr] at c; exfalso; omega))
    | succ m ih =>
      intro i hi hq
      have e : fi (fun a => wf n E a a) i (m + 1) = if wf n E i i then nI i else fi (fun a => wf n E a a) (i + 1) m := rfl
      rw [e] at hq
      have e13 : (13 : Int32) * nI i = nI (12 * i + i) := by rw [show (13 : Int32) = nI 13 from rfl, pk_mul]; congr 1; omega
      have e9 := hb i (by omega) i (by omega)
      refine kb_57_104 (fun c => (by simp (disch := omega) only [z_0, z_1, z_2, z_3, z_4, z_5, z_6, z_7, z_8, z_9, z_10, z_12, z_13, z_20, z_21, z_25, z_56, z_350, z_31, z_32, z_36, z_48, z_57, z_61, z_97, z_100, z_122, z_125, z_126, z_144, z_255, z_700, z_1000, z_1548, nI_add, pk_mul, pk_sub, nI_clamp, nI_leI, nI_ltI, nI_eq, z_in, z_m1, z_m1b, lg_cmp_eq, z_cmp, Decidable.not_not, w_ie, w_in, w_il, w_le, w_ln, w_li, w_ir, w_lr] at c; exfalso; omega)) (fun _ => kb_57_109 kd_M (rf_M_reaches H) kd_M_reaches (by rw [e13, ln_M_reaches]; exact mj_inI (by omega) (by omega)) (fun c => kb_57_123 ?_) (fun c => kb_57_121 ?_))
      · rw [e13, nI_clamp (by omega), e9, b2i_0] at c
        rw [if_neg (by rw [c]; decide)] at hq
        rw [nI_1]
        exact ih (i + 1) (by omega) hq
      · rw [e13, nI_clamp (by omega), e9, b2i_0, Bool.not_eq_false] at c
        rw [if_pos c] at hq
        rw [hq]
        exact kk
  have outer : ∀ m k (h : mj_H), k + m = n → fr inMh h0 h → (∀ a, a < n → ∀ b, b < n → h.1 603 (12 * a + b) = b2i (wf k E a b)) → mr_M mj_KK d 57 2 [some (.ref 573), some (.int (nI n)), some (.int (nI k)), none, none] [] h Q := by
    intro m
    induction m with
    | zero =>
      intro k h hk hf hb
      have e : k = n := by omega
      subst e
      exact kb_57_2 (fun _ => kb_57_102 (last h hf hb k 0 (by omega) rfl)) (fun c => (by simp (disch := omega) only [z_0, z_1, z_2, z_3, z_4, z_5, z_6, z_7, z_8, z_9, z_10, z_12, z_13, z_20, z_21, z_25, z_56, z_350, z_31, z_32, z_36, z_48, z_57, z_61, z_97, z_100, z_122, z_125, z_126, z_144, z_255, z_700, z_1000, z_1548, nI_add, pk_mul, pk_sub, nI_clamp, nI_leI, nI_ltI, nI_eq, z_in, z_m1, z_m1b, lg_cmp_eq, z_cmp, Decidable.not_not, w_ie, w_in, w_il, w_le, w_ln, w_li, w_ir, w_lr] at c; exfalso; omega))
    | succ m ih =>
      intro k h hk hf hb
      refine kb_57_2 (fun c => (by simp (disch := omega) only [z_0, z_1, z_2, z_3, z_4, z_5, z_6, z_7, z_8, z_9, z_10, z_12, z_13, z_20, z_21, z_25, z_56, z_350, z_31, z_32, z_36, z_48, z_57, z_61, z_97, z_100, z_122, z_125, z_126, z_144, z_255, z_700, z_1000, z_1548, nI_add, pk_mul, pk_sub, nI_clamp, nI_leI, nI_ltI, nI_eq, z_in, z_m1, z_m1b, lg_cmp_eq, z_cmp, Decidable.not_not, w_ie, w_in, w_il, w_le, w_ln, w_li, w_ir, w_lr] at c; exfalso; omega)) (fun _ => kb_57_7 ?_)
      have mid : ∀ r a (h : mj_H), a + r = n → fr inMh h0 h → (∀ a2, a2 < n → ∀ b2, b2 < n → h.1 603 (12 * a2 + b2) = b2i (if a2 < a then wst (wf k E) k a2 b2 else wf k E a2 b2)) → mr_M mj_KK d 57 9 [some (.ref 573), some (.int (nI n)), some (.int (nI k)), some (.int (nI a)), none] [] h Q := by
        intro r
        induction r with
        | zero =>
          intro a h ha hf hb
          refine kb_57_9 (fun _ => kb_57_96 ?_) (fun c => (by simp (disch := omega) only [z_0, z_1, z_2, z_3, z_4, z_5, z_6, z_7, z_8, z_9, z_10, z_12, z_13, z_20, z_21, z_25, z_56, z_350, z_31, z_32, z_36, z_48, z_57, z_61, z_97, z_100, z_122, z_125, z_126, z_144, z_255, z_700, z_1000, z_1548, nI_add, pk_mul, pk_sub, nI_clamp, nI_leI, nI_ltI, nI_eq, z_in, z_m1, z_m1b, lg_cmp_eq, z_cmp, Decidable.not_not, w_ie, w_in, w_il, w_le, w_ln, w_li, w_ir, w_lr] at c; exfalso; omega))
          rw [nI_1]
          refine ih (k + 1) h (by omega) hf (fun a2 h2 b2 h3 => ?_)
          rw [hb a2 h2 b2 h3, if_pos (by omega)]
          rfl
        | succ r ih2 =>
          intro a h ha hf hb
          refine kb_57_9 (fun c => (by simp (disch := omega) only [z_0, z_1, z_2, z_3, z_4, z_5, z_6, z_7, z_8, z_9, z_10, z_12, z_13, z_20, z_21, z_25, z_56, z_350, z_31, z_32, z_36, z_48, z_57, z_61, z_97, z_100, z_122, z_125, z_126, z_144, z_255, z_700, z_1000, z_1548, nI_add, pk_mul, pk_sub, nI_clamp, nI_leI, nI_ltI, nI_eq, z_in, z_m1, z_m1b, lg_cmp_eq, z_cmp, Decidable.not_not, w_ie, w_in, w_il, w_le, w_ln, w_li, w_ir, w_lr] at c; exfalso; omega)) (fun _ => kb_57_14 ?_)
          have inner : ∀ s b (h : mj_H), b + s = n → fr inMh h0 h → (∀ a2, a2 < n → ∀ b2, b2 < n → h.1 603 (12 * a2 + b2) = b2i (if a2 < a ∨ (a2 = a ∧ b2 < b) then wst (wf k E) k a2 b2 else wf k E a2 b2)) → mr_M mj_KK d 57 17 [some (.ref 573), some (.int (nI n)), some (.int (nI k)), some (.int (nI a)), some (.int (nI b))] [] h Q := by
            intro s
            induction s with
            | zero =>
              intro b h hbn hf hb
              refine kb_57_17 (fun _ => kb_57_90 ?_) (fun c => (by simp (disch := omega) only [z_0, z_1, z_2, z_3, z_4, z_5, z_6, z_7, z_8, z_9, z_10, z_12, z_13, z_20, z_21, z_25, z_56, z_350, z_31, z_32, z_36, z_48, z_57, z_61, z_97, z_100, z_122, z_125, z_126, z_144, z_255, z_700, z_1000, z_1548, nI_add, pk_mul, pk_sub, nI_clamp, nI_leI, nI_ltI, nI_eq, z_in, z_m1, z_m1b, lg_cmp_eq, z_cmp, Decidable.not_not, w_ie, w_in, w_il, w_le, w_ln, w_li, w_ir, w_lr] at c; exfalso; omega))
              rw [nI_1]
              refine ih2 (a + 1) h (by omega) hf (fun a2 h2 b2 h3 => ?_)
              rw [hb a2 h2 b2 h3]
              by_cases q : a2 < a + 1
              · rw [if_pos q, if_pos (by omega)]
              · rw [if_neg q, if_neg (by omega)]
            | succ s ih3 =>
              intro b h hbn hf hb
              have H := hf.rs H0
              have v1 := hb a (by omega) b (by omega)
              rw [if_neg (by omega)] at v1
              have v2 := hb a (by omega) k (by omega)
              have w2 : (if a < a ∨ (a = a ∧ k < b) then wst (wf k E) k a k else wf k E a k) = wf k E a k := by
                split
                · exact wst_col
                · rfl
              rw [w2] at v2
              have v3 := hb k (by omega) b (by omega)
              have w3 : (if k < a ∨ (k = a ∧ b < b) then wst (wf k E) k k b else wf k E k b) = wf k E k b := by
                split
                · exact wst_row
                · rfl
              rw [w3] at v3
              have put : mr_M mj_KK d 57 83 [some (.ref 573), some (.int (nI n)), some (.int (nI k)), some (.int (nI a)), some (.int (nI b))] [.int (b2i (wst (wf k E) k a b)), .int (nI (12 * a + b)), .ref 603] h Q := by
                refine kb_57_83 (by first | with_reducible assumption | with_reducible exact kd_M_reaches | with_reducible exact kd_M_known | assumption) (by first | with_reducible assumption | (simp (disch := omega) only [z_0, z_1, z_2, z_3, z_4, z_5, z_6, z_7, z_8, z_9, z_10, z_12, z_13, z_20, z_21, z_25, z_56, z_350, z_31, z_32, z_36, z_48, z_57, z_61, z_97, z_100, z_122, z_125, z_126, z_144, z_255, z_700, z_1000, z_1548, nI_add, pk_mul, pk_sub, nI_clamp, nI_leI, nI_ltI, nI_eq, z_in, z_m1, z_m1b, lg_cmp_eq, z_cmp, Decidable.not_not, w_ie, w_in, w_il, w_le, w_ln, w_li, w_ir, w_lr, ln_P_tape, ln_W_text, ln_W_starts, ln_W_ends, ln_W_lines, ln_W_names, ln_W_values, ln_PL_jobs, ln_PL_parts, ln_FT_reached, ln_EX_jobs, ln_EX_codes, ln_CB_names, ln_CB_values, ln_M_tape, ln_M_source, ln_M_wordAt, ln_M_wordEnd, ln_M_names, ln_M_itemCount, ln_M_itemFirst, ln_M_itemWords, ln_M_itemUses, ln_M_keptAt, ln_M_keptEnd, ln_M_needCount, ln_M_axisCount, ln_M_valueCount, ln_M_needed, ln_M_axes, ln_M_values, ln_M_includes, ln_M_excludes, ln_M_pairCount, ln_M_pairName, ln_M_pairValue, ln_M_signCount, ln_M_signs, ln_M_signName, ln_M_signValue, ln_M_whose, ln_M_which, ln_M_pile, ln_M_reaches, ln_M_stepsOf, ln_M_known, ln_JB_needed, ln_JB_axes, ln_JS_used, ln_JS_stepWords, ln_PS_used, ln_PS_stepWords, ln_IN_rows, ln_EC_rows, ln_IR_names, ln_IR_values, ln_ER_names, ln_ER_values, ln_CD_kinds, ln_CD_names, ln_CD_values, ln_AX_values] <;> omega) | assumption) ?_
                rw [nI_1, nI_clamp (by omega), narb]
                refine ih3 (b + 1) _ (by omega) (hf.wi rfl) (fun a2 h2 b2 h3 => ?_)
                by_cases q : a2 = a ∧ b2 = b
                · obtain ⟨rfl, rfl⟩ := q
                  rw [w_ie ⟨rfl, rfl⟩, if_pos (by omega)]
                · rw [w_in (by omega), hb a2 h2 b2 h3]
                  by_cases q2 : a2 < a ∨ (a2 = a ∧ b2 < b)
                  · rw [if_pos q2, if_pos (by omega)]
                  · rw [if_neg q2, if_neg (by omega)]
              have e12 : (12 : Int32) * nI a + nI b = nI (12 * a + b) := by rw [show (12 : Int32) = nI 12 from rfl, pk_mul, nI_add]
              refine kb_57_17 (fun c => (by simp (disch := omega) only [z_0, z_1, z_2, z_3, z_4, z_5, z_6, z_7, z_8, z_9, z_10, z_12, z_13, z_20, z_21, z_25, z_56, z_350, z_31, z_32, z_36, z_48, z_57, z_61, z_97, z_100, z_122, z_125, z_126, z_144, z_255, z_700, z_1000, z_1548, nI_add, pk_mul, pk_sub, nI_clamp, nI_leI, nI_ltI, nI_eq, z_in, z_m1, z_m1b, lg_cmp_eq, z_cmp, Decidable.not_not, w_ie, w_in, w_il, w_le, w_ln, w_li, w_ir, w_lr] at c; exfalso; omega)) (fun _ => kb_57_23 (by first | with_reducible assumption | with_reducible exact kd_M | assumption) (by first | with_reducible assumption | exact rf_M_reaches H | assumption) (by first | with_reducible assumption | with_reducible exact kd_M_reaches | assumption) (by first | with_reducible assumption | (simp (disch := omega) only [z_0, z_1, z_2, z_3, z_4, z_5, z_6, z_7, z_8, z_9, z_10, z_12, z_13, z_20, z_21, z_25, z_56, z_350, z_31, z_32, z_36, z_48, z_57, z_61, z_97, z_100, z_122, z_125, z_126, z_144, z_255, z_700, z_1000, z_1548, nI_add, pk_mul, pk_sub, nI_clamp, nI_leI, nI_ltI, nI_eq, z_in, z_m1, z_m1b, lg_cmp_eq, z_cmp, Decidable.not_not, w_ie, w_in, w_il, w_le, w_ln, w_li, w_ir, w_lr, ln_P_tape, ln_W_text, ln_W_starts, ln_W_ends, ln_W_lines, ln_W_names, ln_W_values, ln_PL_jobs, ln_PL_parts, ln_FT_reached, ln_EX_jobs, ln_EX_codes, ln_CB_names, ln_CB_values, ln_M_tape, ln_M_source, ln_M_wordAt, ln_M_wordEnd, ln_M_names, ln_M_itemCount, ln_M_itemFirst, ln_M_itemWords, ln_M_itemUses, ln_M_keptAt, ln_M_keptEnd, ln_M_needCount, ln_M_axisCount, ln_M_valueCount, ln_M_needed, ln_M_axes, ln_M_values, ln_M_includes, ln_M_excludes, ln_M_pairCount, ln_M_pairName, ln_M_pairValue, ln_M_signCount, ln_M_signs, ln_M_signName, ln_M_signValue, ln_M_whose, ln_M_which, ln_M_pile, ln_M_reaches, ln_M_stepsOf, ln_M_known, ln_JB_needed, ln_JB_axes, ln_JS_used, ln_JS_stepWords, ln_PS_used, ln_PS_stepWords, ln_IN_rows, ln_EC_rows, ln_IR_names, ln_IR_values, ln_ER_names, ln_ER_values, ln_CD_kinds, ln_CD_names, ln_CD_values, ln_AX_values] <;> omega) | assumption) (fun c => kb_57_78 ?_) (fun c => kb_57_49 (by first | with_reducible assumption | with_reducible exact kd_M | assumption) (by first | with_reducible assumption | exact rf_M_reaches H | assumption) (by first | with_reducible assumption | with_reducible exact kd_M_reaches | assumption) (by first | with_reducible assumption | (simp (disch := omega) only [z_0, z_1, z_2, z_3, z_4, z_5, z_6, z_7, z_8, z_9, z_10, z_12, z_13, z_20, z_21, z_25, z_56, z_350, z_31, z_32, z_36, z_48, z_57, z_61, z_97, z_100, z_122, z_125, z_126, z_144, z_255, z_700, z_1000, z_1548, nI_add, pk_mul, pk_sub, nI_clamp, nI_leI, nI_ltI, nI_eq, z_in, z_m1, z_m1b, lg_cmp_eq, z_cmp, Decidable.not_not, w_ie, w_in, w_il, w_le, w_ln, w_li, w_ir, w_lr, ln_P_tape, ln_W_text, ln_W_starts, ln_W_ends, ln_W_lines, ln_W_names, ln_W_values, ln_PL_jobs, ln_PL_parts, ln_FT_reached, ln_EX_jobs, ln_EX_codes, ln_CB_names, ln_CB_values, ln_M_tape, ln_M_source, ln_M_wordAt, ln_M_wordEnd, ln_M_names, ln_M_itemCount, ln_M_itemFirst, ln_M_itemWords, ln_M_itemUses, ln_M_keptAt, ln_M_keptEnd, ln_M_needCount, ln_M_axisCount, ln_M_valueCount, ln_M_needed, ln_M_axes, ln_M_values, ln_M_includes, ln_M_excludes, ln_M_pairCount, ln_M_pairName, ln_M_pairValue, ln_M_signCount, ln_M_signs, ln_M_signName, ln_M_signValue, ln_M_whose, ln_M_which, ln_M_pile, ln_M_reaches, ln_M_stepsOf, ln_M_known, ln_JB_needed, ln_JB_axes, ln_JS_used, ln_JS_stepWords, ln_PS_used, ln_PS_stepWords, ln_IN_rows, ln_EC_rows, ln_IR_names, ln_IR_values, ln_ER_names, ln_ER_values, ln_CD_kinds, ln_CD_names, ln_CD_values, ln_AX_values] <;> omega) | assumption) (fun c2 => kb_57_82 ?_) (fun c2 => kb_57_63 (by first | with_reducible assumption | with_reducible exact kd_M | assumption) (by first | with_reducible assumption | exact rf_M_reaches H | assumption) (by first | with_reducible assumption | with_reducible exact kd_M_reaches | assumption) (by first | with_reducible assumption | (simp (disch := omega) only [z_0, z_1, z_2, z_3, z_4, z_5, z_6, z_7, z_8, z_9, z_10, z_12, z_13, z_20, z_21, z_25, z_56, z_350, z_31, z_32, z_36, z_48, z_57, z_61, z_97, z_100, z_122, z_125, z_126, z_144, z_255, z_700, z_1000, z_1548, nI_add, pk_mul, pk_sub, nI_clamp, nI_leI, nI_ltI, nI_eq, z_in, z_m1, z_m1b, lg_cmp_eq, z_cmp, Decidable.not_not, w_ie, w_in, w_il, w_le, w_ln, w_li, w_ir, w_lr, ln_P_tape, ln_W_text, ln_W_starts, ln_W_ends, ln_W_lines, ln_W_names, ln_W_values, ln_PL_jobs, ln_PL_parts, ln_FT_reached, ln_EX_jobs, ln_EX_codes, ln_CB_names, ln_CB_values, ln_M_tape, ln_M_source, ln_M_wordAt, ln_M_wordEnd, ln_M_names, ln_M_itemCount, ln_M_itemFirst, ln_M_itemWords, ln_M_itemUses, ln_M_keptAt, ln_M_keptEnd, ln_M_needCount, ln_M_axisCount, ln_M_valueCount, ln_M_needed, ln_M_axes, ln_M_values, ln_M_includes, ln_M_excludes, ln_M_pairCount, ln_M_pairName, ln_M_pairValue, ln_M_signCount, ln_M_signs, ln_M_signName, ln_M_signValue, ln_M_whose, ln_M_which, ln_M_pile, ln_M_reaches, ln_M_stepsOf, ln_M_known, ln_JB_needed, ln_JB_axes, ln_JS_used, ln_JS_stepWords, ln_PS_used, ln_PS_stepWords, ln_IN_rows, ln_EC_rows, ln_IR_names, ln_IR_values, ln_ER_names, ln_ER_values, ln_CD_kinds, ln_CD_names, ln_CD_values, ln_AX_values] <;> omega) | assumption) (fun c3 => kb_57_82 ?_) (fun c3 => kb_57_78 ?_))))
              · simp (disch := omega) only [z_0, z_1, z_2, z_3, z_4, z_5, z_6, z_7, z_8, z_9, z_10, z_12, z_13, z_20, z_21, z_25, z_56, z_350, z_31, z_32, z_36, z_48, z_57, z_61, z_97, z_100, z_122, z_125, z_126, z_144, z_255, z_700, z_1000, z_1548, nI_add, pk_mul, pk_sub, nI_clamp, nI_leI, nI_ltI, nI_eq, z_in, z_m1, z_m1b, lg_cmp_eq, z_cmp, Decidable.not_not, w_ie, w_in, w_il, w_le, w_ln, w_li, w_ir, w_lr, v1] at c
                rw [← z_0, b2i_0, Bool.not_eq_false] at c
                have : wst (wf k E) k a b = true := by unfold wst; rw [c]; rfl
                rw [this] at put
                rw [e12]
                exact put
              · simp (disch := omega) only [z_0, z_1, z_2, z_3, z_4, z_5, z_6, z_7, z_8, z_9, z_10, z_12, z_13, z_20, z_21, z_25, z_56, z_350, z_31, z_32, z_36, z_48, z_57, z_61, z_97, z_100, z_122, z_125, z_126, z_144, z_255, z_700, z_1000, z_1548, nI_add, pk_mul, pk_sub, nI_clamp, nI_leI, nI_ltI, nI_eq, z_in, z_m1, z_m1b, lg_cmp_eq, z_cmp, Decidable.not_not, w_ie, w_in, w_il, w_le, w_ln, w_li, w_ir, w_lr, v1] at c
                simp (disch := omega) only [z_0, z_1, z_2, z_3, z_4, z_5, z_6, z_7, z_8, z_9, z_10, z_12, z_13, z_20, z_21, z_25, z_56, z_350, z_31, z_32, z_36, z_48, z_57, z_61, z_97, z_100, z_122, z_125, z_126, z_144, z_255, z_700, z_1000, z_1548, nI_add, pk_mul, pk_sub, nI_clamp, nI_leI, nI_ltI, nI_eq, z_in, z_m1, z_m1b, lg_cmp_eq, z_cmp, Decidable.not_not, w_ie, w_in, w_il, w_le, w_ln, w_li, w_ir, w_lr, v2] at c2
                rw [← z_0, b2i_0] at c c2
                have : wst (wf k E) k a b = false := by unfold wst; rw [c, c2]; rfl
                rw [this] at put
                rw [e12]
                exact put
              · simp (disch := omega) only [z_0, z_1, z_2, z_3, z_4, z_5, z_6, z_7, z_8, z_9, z_10, z_12, z_13, z_20, z_21, z_25, z_56, z_350, z_31, z_32, z_36, z_48, z_57, z_61, z_97, z_100, z_122, z_125, z_126, z_144, z_255, z_700, z_1000, z_1548, nI_add, pk_mul, pk_sub, nI_clamp, nI_leI, nI_ltI, nI_eq, z_in, z_m1, z_m1b, lg_cmp_eq, z_cmp, Decidable.not_not, w_ie, w_in, w_il, w_le, w_ln, w_li, w_ir, w_lr, v1] at c
                simp (disch := omega) only [z_0, z_1, z_2, z_3, z_4, z_5, z_6, z_7, z_8, z_9, z_10, z_12, z_13, z_20, z_21, z_25, z_56, z_350, z_31, z_32, z_36, z_48, z_57, z_61, z_97, z_100, z_122, z_125, z_126, z_144, z_255, z_700, z_1000, z_1548, nI_add, pk_mul, pk_sub, nI_clamp, nI_leI, nI_ltI, nI_eq, z_in, z_m1, z_m1b, lg_cmp_eq, z_cmp, Decidable.not_not, w_ie, w_in, w_il, w_le, w_ln, w_li, w_ir, w_lr, v3] at c3
                rw [← z_0, b2i_0] at c c3
                have : wst (wf k E) k a b = false := by unfold wst; rw [c, c3, Bool.and_false]; rfl
                rw [this] at put
                rw [e12]
                exact put
              · simp (disch := omega) only [z_0, z_1, z_2, z_3, z_4, z_5, z_6, z_7, z_8, z_9, z_10, z_12, z_13, z_20, z_21, z_25, z_56, z_350, z_31, z_32, z_36, z_48, z_57, z_61, z_97, z_100, z_122, z_125, z_126, z_144, z_255, z_700, z_1000, z_1548, nI_add, pk_mul, pk_sub, nI_clamp, nI_leI, nI_ltI, nI_eq, z_in, z_m1, z_m1b, lg_cmp_eq, z_cmp, Decidable.not_not, w_ie, w_in, w_il, w_le, w_ln, w_li, w_ir, w_lr, v2] at c2
                simp (disch := omega) only [z_0, z_1, z_2, z_3, z_4, z_5, z_6, z_7, z_8, z_9, z_10, z_12, z_13, z_20, z_21, z_25, z_56, z_350, z_31, z_32, z_36, z_48, z_57, z_61, z_97, z_100, z_122, z_125, z_126, z_144, z_255, z_700, z_1000, z_1548, nI_add, pk_mul, pk_sub, nI_clamp, nI_leI, nI_ltI, nI_eq, z_in, z_m1, z_m1b, lg_cmp_eq, z_cmp, Decidable.not_not, w_ie, w_in, w_il, w_le, w_ln, w_li, w_ir, w_lr, v3] at c3
                rw [← z_0, b2i_0, Bool.not_eq_false] at c2 c3
                have : wst (wf k E) k a b = true := by unfold wst; rw [c2, c3, Bool.and_self, Bool.or_true]
                rw [this] at put
                rw [e12]
                exact put
          refine inner n 0 h (by omega) hf (fun a2 h2 b2 h3 => ?_)
          rw [hb a2 h2 b2 h3]
          by_cases q : a2 < a
          · rw [if_pos q, if_pos (Or.inl q)]
          · rw [if_neg q, if_neg (by omega)]
      exact mid n 0 h (by omega) hf (fun a2 h2 b2 h3 => by rw [hb a2 h2 b2 h3, if_neg (Nat.not_lt_zero a2)])
  exact outer n 0 h0 (by omega) fr.rfl' hR
/-- none -/
theorem s58 (H0 : mj_RS h0) (kk : ∀ h', (∀ i, i < 144 → h'.1 603 i = 0) → fr inMh h0 h' → Q none h') : mr_C mj_KK d 58 [.ref 573] h0 Q := by
  show mr_M mj_KK d 58 0 [some (.ref 573), none] [] h0 Q
  refine kb_58_0 ?_
  have loop : ∀ m i (h : mj_H), i + m = 144 → fr inMh h0 h → (∀ k, k < i → h.1 603 k = 0) → mr_M mj_KK d 58 2 [some (.ref 573), some (.int (nI i))] [] h Q := by
    intro m
    induction m with
    | zero =>
      intro i h hi hf hz
      exact kb_58_2 (fun _ => kb_58_22 (kk h (fun k hk => hz k (by omega)) hf)) (fun c => (by simp (disch := omega) only [z_0, z_1, z_2, z_3, z_4, z_5, z_6, z_7, z_8, z_9, z_10, z_12, z_13, z_20, z_21, z_25, z_56, z_350, z_31, z_32, z_36, z_48, z_57, z_61, z_97, z_100, z_122, z_125, z_126, z_144, z_255, z_700, z_1000, z_1548, nI_add, pk_mul, pk_sub, nI_clamp, nI_leI, nI_ltI, nI_eq, z_in, z_m1, z_m1b, lg_cmp_eq, z_cmp, Decidable.not_not, w_ie, w_in, w_il, w_le, w_ln, w_li, w_ir, w_lr] at c; exfalso; omega))
    | succ m ih =>
      intro i h hi hf hz
      have H := hf.rs H0
      refine kb_58_2 (fun c => (by simp (disch := omega) only [z_0, z_1, z_2, z_3, z_4, z_5, z_6, z_7, z_8, z_9, z_10, z_12, z_13, z_20, z_21, z_25, z_56, z_350, z_31, z_32, z_36, z_48, z_57, z_61, z_97, z_100, z_122, z_125, z_126, z_144, z_255, z_700, z_1000, z_1548, nI_add, pk_mul, pk_sub, nI_clamp, nI_leI, nI_ltI, nI_eq, z_in, z_m1, z_m1b, lg_cmp_eq, z_cmp, Decidable.not_not, w_ie, w_in, w_il, w_le, w_ln, w_li, w_ir, w_lr] at c; exfalso; omega)) (fun _ => kb_58_9 (by first | with_reducible assumption | with_reducible exact kd_M | assumption) (by first | with_reducible assumption | exact rf_M_reaches H | assumption) (by first | with_reducible assumption | with_reducible exact kd_M_reaches | assumption) (by first | with_reducible assumption | (simp (disch := omega) only [z_0, z_1, z_2, z_3, z_4, z_5, z_6, z_7, z_8, z_9, z_10, z_12, z_13, z_20, z_21, z_25, z_56, z_350, z_31, z_32, z_36, z_48, z_57, z_61, z_97, z_100, z_122, z_125, z_126, z_144, z_255, z_700, z_1000, z_1548, nI_add, pk_mul, pk_sub, nI_clamp, nI_leI, nI_ltI, nI_eq, z_in, z_m1, z_m1b, lg_cmp_eq, z_cmp, Decidable.not_not, w_ie, w_in, w_il, w_le, w_ln, w_li, w_ir, w_lr, ln_P_tape, ln_W_text, ln_W_starts, ln_W_ends, ln_W_lines, ln_W_names, ln_W_values, ln_PL_jobs, ln_PL_parts, ln_FT_reached, ln_EX_jobs, ln_EX_codes, ln_CB_names, ln_CB_values, ln_M_tape, ln_M_source, ln_M_wordAt, ln_M_wordEnd, ln_M_names, ln_M_itemCount, ln_M_itemFirst, ln_M_itemWords, ln_M_itemUses, ln_M_keptAt, ln_M_keptEnd, ln_M_needCount, ln_M_axisCount, ln_M_valueCount, ln_M_needed, ln_M_axes, ln_M_values, ln_M_includes, ln_M_excludes, ln_M_pairCount, ln_M_pairName, ln_M_pairValue, ln_M_signCount, ln_M_signs, ln_M_signName, ln_M_signValue, ln_M_whose, ln_M_which, ln_M_pile, ln_M_reaches, ln_M_stepsOf, ln_M_known, ln_JB_needed, ln_JB_axes, ln_JS_used, ln_JS_stepWords, ln_PS_used, ln_PS_stepWords, ln_IN_rows, ln_EC_rows, ln_IR_names, ln_IR_values, ln_ER_names, ln_ER_values, ln_CD_kinds, ln_CD_names, ln_CD_values, ln_AX_values] <;> omega) | assumption) ?_)
      rw [nI_1, nI_clamp (by omega), nar0]
      refine ih (i + 1) _ (by omega) (hf.wi rfl) (fun k hk => ?_)
      by_cases q : k = i
      · rw [w_ie ⟨rfl, q⟩]
      · rw [w_in (Or.inr q)]
        exact hz k (by omega)
  exact loop 144 0 h0 rfl fr.rfl' (fun k hk => absurd hk (Nat.not_lt_zero k))
theorem PlM_h {h h' : mj_H} (A : PlM h W kept P) (f : fr inMh h h') : PlM h' W kept P := PlM_fr A f (fun a i q => by unfold inMh; omega)
/-- partRound -/
theorem s59 (hd : 2 ≤ d) (H0 : mj_RS h0) (hP : PlM h0 W kept P) (hm : ∀ p, p < P.np → f2 P (12 + p) = false) (kk : ∀ h', fr inMh h0 h' → Q (some (.int (cyc P.np (E3 P)))) h') : mr_C mj_KK d 59 [.ref 573] h0 Q := by
  show mr_M mj_KK d 59 0 [some (.ref 573), none, none] [] h0 Q
  have p8 := hP.1.2.2.2.1
  have H := H0
  refine kb_59_0 (by first | with_reducible assumption | with_reducible exact kd_M | assumption) (by omega) (s58 H (fun h1 z1 g1 => kb_59_4 ?_))
  have outer : ∀ m p (h : mj_H), p + m = P.np → fr inMh h0 h → (∀ a, a < 12 → ∀ b, b < 12 → h.1 603 (12 * a + b) = b2i (if a < p then E3 P a b else false)) → mr_M mj_KK d 59 6 [some (.ref 573), some (.int (nI p)), none] [] h Q := by
    intro m
    induction m with
    | zero =>
      intro p h hp hf hb
      have H := hf.rs H0
      have a3 := (PlM_h hP hf).1.2.2.1
      refine kb_59_6 (by first | with_reducible assumption | with_reducible exact kd_M | assumption) (fun _ => kb_59_87 (by first | with_reducible assumption | with_reducible exact kd_M | assumption) (by omega) ?_) (fun c => (by simp (disch := omega) only [z_0, z_1, z_2, z_3, z_4, z_5, z_6, z_7, z_8, z_9, z_10, z_12, z_13, z_20, z_21, z_25, z_56, z_350, z_31, z_32, z_36, z_48, z_57, z_61, z_97, z_100, z_122, z_125, z_126, z_144, z_255, z_700, z_1000, z_1548, nI_add, pk_mul, pk_sub, nI_clamp, nI_leI, nI_ltI, nI_eq, z_in, z_m1, z_m1b, lg_cmp_eq, z_cmp, Decidable.not_not, w_ie, w_in, w_il, w_le, w_ln, w_li, w_ir, w_lr, a3] at c; exfalso; omega))
      rw [a3]
      refine s57 H (by omega) (fun a ha b hb2 => ?_) (fun h' g => kb_59_95 (kk h' (hf.trans g)))
      rw [hb a (by omega) b (by omega), if_pos (by omega)]
    | succ m ih =>
      intro p h hp hf hb
      have H := hf.rs H0
      have a3 := (PlM_h hP hf).1.2.2.1
      refine kb_59_6 (by first | with_reducible assumption | with_reducible exact kd_M | assumption) (fun c => (by simp (disch := omega) only [z_0, z_1, z_2, z_3, z_4, z_5, z_6, z_7, z_8, z_9, z_10, z_12, z_13, z_20, z_21, z_25, z_56, z_350, z_31, z_32, z_36, z_48, z_57, z_61, z_97, z_100, z_122, z_125, z_126, z_144, z_255, z_700, z_1000, z_1548, nI_add, pk_mul, pk_sub, nI_clamp, nI_leI, nI_ltI, nI_eq, z_in, z_m1, z_m1b, lg_cmp_eq, z_cmp, Decidable.not_not, w_ie, w_in, w_il, w_le, w_ln, w_li, w_ir, w_lr, a3] at c; exfalso; omega)) (fun _ => kb_59_14 ?_)
      have e9 : (8 : Int32) * (12 + nI p) = nI (8 * (12 + p) + 0) := by rw [show (12 : Int32) = nI 12 from rfl, show (8 : Int32) = nI 8 from rfl, nI_add, pk_mul]; rfl
      rw [e9]
      have inner : ∀ r i (h : mj_H), i + r = (P.sc (12 + p)).2.length → fr inMh h0 h → (∀ a, a < 12 → ∀ b, b < 12 → h.1 603 (12 * a + b) = b2i (if a < p then E3 P a b else if a = p then aT (fun i => decide (¬ ((P.sc (12 + p)).2.getD i (0, 0, 0)).1 = 0) && decide (pN P ((P.sc (12 + p)).2.getD i (0, 0, 0)).1 = nI b)) i else false)) → mr_M mj_KK d 59 22 [some (.ref 573), some (.int (nI p)), some (.int (nI (8 * (12 + p) + i)))] [] h Q := by
        intro r
        induction r with
        | zero =>
          intro i h hi hf hb
          have H := hf.rs H0
          obtain ⟨x1, x2, x3⟩ := (PlM_h hP hf).2.2.2.1 (12 + p) (by omega)
          refine kb_59_22 (by first | with_reducible assumption | with_reducible exact kd_M | assumption) (by first | with_reducible assumption | exact rf_M_itemCount H | assumption) (by first | with_reducible assumption | with_reducible exact kd_M_itemCount | assumption) (by first | with_reducible assumption | (simp (disch := omega) only [z_0, z_1, z_2, z_3, z_4, z_5, z_6, z_7, z_8, z_9, z_10, z_12, z_13, z_20, z_21, z_25, z_56, z_350, z_31, z_32, z_36, z_48, z_57, z_61, z_97, z_100, z_122, z_125, z_126, z_144, z_255, z_700, z_1000, z_1548, nI_add, pk_mul, pk_sub, nI_clamp, nI_leI, nI_ltI, nI_eq, z_in, z_m1, z_m1b, lg_cmp_eq, z_cmp, Decidable.not_not, w_ie, w_in, w_il, w_le, w_ln, w_li, w_ir, w_lr, ln_P_tape, ln_W_text, ln_W_starts, ln_W_ends, ln_W_lines, ln_W_names, ln_W_values, ln_PL_jobs, ln_PL_parts, ln_FT_reached, ln_EX_jobs, ln_EX_codes, ln_CB_names, ln_CB_values, ln_M_tape, ln_M_source, ln_M_wordAt, ln_M_wordEnd, ln_M_names, ln_M_itemCount, ln_M_itemFirst, ln_M_itemWords, ln_M_itemUses, ln_M_keptAt, ln_M_keptEnd, ln_M_needCount, ln_M_axisCount, ln_M_valueCount, ln_M_needed, ln_M_axes, ln_M_values, ln_M_includes, ln_M_excludes, ln_M_pairCount, ln_M_pairName, ln_M_pairValue, ln_M_signCount, ln_M_signs, ln_M_signName, ln_M_signValue, ln_M_whose, ln_M_which, ln_M_pile, ln_M_reaches, ln_M_stepsOf, ln_M_known, ln_JB_needed, ln_JB_axes, ln_JS_used, ln_JS_stepWords, ln_PS_used, ln_PS_stepWords, ln_IN_rows, ln_EC_rows, ln_IR_names, ln_IR_values, ln_ER_names, ln_ER_values, ln_CD_kinds, ln_CD_names, ln_CD_values, ln_AX_values] <;> omega) | assumption) (fun _ => kb_59_81 ?_) (fun c => (by simp (disch := omega) only [z_0, z_1, z_2, z_3, z_4, z_5, z_6, z_7, z_8, z_9, z_10, z_12, z_13, z_20, z_21, z_25, z_56, z_350, z_31, z_32, z_36, z_48, z_57, z_61, z_97, z_100, z_122, z_125, z_126, z_144, z_255, z_700, z_1000, z_1548, nI_add, pk_mul, pk_sub, nI_clamp, nI_leI, nI_ltI, nI_eq, z_in, z_m1, z_m1b, lg_cmp_eq, z_cmp, Decidable.not_not, w_ie, w_in, w_il, w_le, w_ln, w_li, w_ir, w_lr, x1] at c; exfalso; omega))
          rw [nI_1]
          have ei : i = (P.sc (12 + p)).2.length := by omega
          refine ih (p + 1) h (by omega) hf (fun a ha b hb2 => ?_)
          rw [hb a ha b hb2]
          by_cases q : a < p
          · rw [if_pos q, if_pos (by omega)]
          · rw [if_neg q]
            by_cases q2 : a = p
            · rw [if_pos q2, if_pos (by omega), ei, q2]
              rfl
            · rw [if_neg q2, if_neg (by omega)]
        | succ r ih2 =>
          intro i h hi hf hb
          have H := hf.rs H0
          have hPh := PlM_h hP hf
          obtain ⟨x1, x2, x3⟩ := hPh.2.2.2.1 (12 + p) (by omega)
          have e0 := (x3 i (by omega)).1
          refine kb_59_22 (by first | with_reducible assumption | with_reducible exact kd_M | assumption) (by first | with_reducible assumption | exact rf_M_itemCount H | assumption) (by first | with_reducible assumption | with_reducible exact kd_M_itemCount | assumption) (by first | with_reducible assumption | (simp (disch := omega) only [z_0, z_1, z_2, z_3, z_4, z_5, z_6, z_7, z_8, z_9, z_10, z_12, z_13, z_20, z_21, z_25, z_56, z_350, z_31, z_32, z_36, z_48, z_57, z_61, z_97, z_100, z_122, z_125, z_126, z_144, z_255, z_700, z_1000, z_1548, nI_add, pk_mul, pk_sub, nI_clamp, nI_leI, nI_ltI, nI_eq, z_in, z_m1, z_m1b, lg_cmp_eq, z_cmp, Decidable.not_not, w_ie, w_in, w_il, w_le, w_ln, w_li, w_ir, w_lr, ln_P_tape, ln_W_text, ln_W_starts, ln_W_ends, ln_W_lines, ln_W_names, ln_W_values, ln_PL_jobs, ln_PL_parts, ln_FT_reached, ln_EX_jobs, ln_EX_codes, ln_CB_names, ln_CB_values, ln_M_tape, ln_M_source, ln_M_wordAt, ln_M_wordEnd, ln_M_names, ln_M_itemCount, ln_M_itemFirst, ln_M_itemWords, ln_M_itemUses, ln_M_keptAt, ln_M_keptEnd, ln_M_needCount, ln_M_axisCount, ln_M_valueCount, ln_M_needed, ln_M_axes, ln_M_values, ln_M_includes, ln_M_excludes, ln_M_pairCount, ln_M_pairName, ln_M_pairValue, ln_M_signCount, ln_M_signs, ln_M_signName, ln_M_signValue, ln_M_whose, ln_M_which, ln_M_pile, ln_M_reaches, ln_M_stepsOf, ln_M_known, ln_JB_needed, ln_JB_axes, ln_JS_used, ln_JS_stepWords, ln_PS_used, ln_PS_stepWords, ln_IN_rows, ln_EC_rows, ln_IR_names, ln_IR_values, ln_ER_names, ln_ER_values, ln_CD_kinds, ln_CD_names, ln_CD_values, ln_AX_values] <;> omega) | assumption) (fun c => (by simp (disch := omega) only [z_0, z_1, z_2, z_3, z_4, z_5, z_6, z_7, z_8, z_9, z_10, z_12, z_13, z_20, z_21, z_25, z_56, z_350, z_31, z_32, z_36, z_48, z_57, z_61, z_97, z_100, z_122, z_125, z_126, z_144, z_255, z_700, z_1000, z_1548, nI_add, pk_mul, pk_sub, nI_clamp, nI_leI, nI_ltI, nI_eq, z_in, z_m1, z_m1b, lg_cmp_eq, z_cmp, Decidable.not_not, w_ie, w_in, w_il, w_le, w_ln, w_li, w_ir, w_lr, x1] at c; exfalso; omega)) (fun _ => kb_59_43 (by first | with_reducible assumption | with_reducible exact kd_M | assumption) (by first | with_reducible assumption | exact rf_M_itemUses H | assumption) (by first | with_reducible assumption | with_reducible exact kd_M_itemUses | assumption) (by first | with_reducible assumption | (simp (disch := omega) only [z_0, z_1, z_2, z_3, z_4, z_5, z_6, z_7, z_8, z_9, z_10, z_12, z_13, z_20, z_21, z_25, z_56, z_350, z_31, z_32, z_36, z_48, z_57, z_61, z_97, z_100, z_122, z_125, z_126, z_144, z_255, z_700, z_1000, z_1548, nI_add, pk_mul, pk_sub, nI_clamp, nI_leI, nI_ltI, nI_eq, z_in, z_m1, z_m1b, lg_cmp_eq, z_cmp, Decidable.not_not, w_ie, w_in, w_il, w_le, w_ln, w_li, w_ir, w_lr, ln_P_tape, ln_W_text, ln_W_starts, ln_W_ends, ln_W_lines, ln_W_names, ln_W_values, ln_PL_jobs, ln_PL_parts, ln_FT_reached, ln_EX_jobs, ln_EX_codes, ln_CB_names, ln_CB_values, ln_M_tape, ln_M_source, ln_M_wordAt, ln_M_wordEnd, ln_M_names, ln_M_itemCount, ln_M_itemFirst, ln_M_itemWords, ln_M_itemUses, ln_M_keptAt, ln_M_keptEnd, ln_M_needCount, ln_M_axisCount, ln_M_valueCount, ln_M_needed, ln_M_axes, ln_M_values, ln_M_includes, ln_M_excludes, ln_M_pairCount, ln_M_pairName, ln_M_pairValue, ln_M_signCount, ln_M_signs, ln_M_signName, ln_M_signValue, ln_M_whose, ln_M_which, ln_M_pile, ln_M_reaches, ln_M_stepsOf, ln_M_known, ln_JB_needed, ln_JB_axes, ln_JS_used, ln_JS_stepWords, ln_PS_used, ln_PS_stepWords, ln_IN_rows, ln_EC_rows, ln_IR_names, ln_IR_values, ln_ER_names, ln_ER_values, ln_CD_kinds, ln_CD_names, ln_CD_values, ln_AX_values] <;> omega) | assumption) (fun c => kb_59_75 ?_) (fun c => kb_59_54 (by first | with_reducible assumption | with_reducible exact kd_M | assumption) (by first | with_reducible assumption | exact rf_M_reaches H | assumption) (by first | with_reducible assumption | exact rf_M_itemUses H | assumption) (by first | with_reducible assumption | with_reducible exact kd_M_itemUses | assumption) (by first | with_reducible assumption | (simp (disch := omega) only [z_0, z_1, z_2, z_3, z_4, z_5, z_6, z_7, z_8, z_9, z_10, z_12, z_13, z_20, z_21, z_25, z_56, z_350, z_31, z_32, z_36, z_48, z_57, z_61, z_97, z_100, z_122, z_125, z_126, z_144, z_255, z_700, z_1000, z_1548, nI_add, pk_mul, pk_sub, nI_clamp, nI_leI, nI_ltI, nI_eq, z_in, z_m1, z_m1b, lg_cmp_eq, z_cmp, Decidable.not_not, w_ie, w_in, w_il, w_le, w_ln, w_li, w_ir, w_lr, ln_P_tape, ln_W_text, ln_W_starts, ln_W_ends, ln_W_lines, ln_W_names, ln_W_values, ln_PL_jobs, ln_PL_parts, ln_FT_reached, ln_EX_jobs, ln_EX_codes, ln_CB_names, ln_CB_values, ln_M_tape, ln_M_source, ln_M_wordAt, ln_M_wordEnd, ln_M_names, ln_M_itemCount, ln_M_itemFirst, ln_M_itemWords, ln_M_itemUses, ln_M_keptAt, ln_M_keptEnd, ln_M_needCount, ln_M_axisCount, ln_M_valueCount, ln_M_needed, ln_M_axes, ln_M_values, ln_M_includes, ln_M_excludes, ln_M_pairCount, ln_M_pairName, ln_M_pairValue, ln_M_signCount, ln_M_signs, ln_M_signName, ln_M_signValue, ln_M_whose, ln_M_which, ln_M_pile, ln_M_reaches, ln_M_stepsOf, ln_M_known, ln_JB_needed, ln_JB_axes, ln_JS_used, ln_JS_stepWords, ln_PS_used, ln_PS_stepWords, ln_IN_rows, ln_EC_rows, ln_IR_names, ln_IR_values, ln_ER_names, ln_ER_values, ln_CD_kinds, ln_CD_names, ln_CD_values, ln_AX_values] <;> omega) | assumption) (by omega) ?_))
          · simp (disch := omega) only [z_0, z_1, z_2, z_3, z_4, z_5, z_6, z_7, z_8, z_9, z_10, z_12, z_13, z_20, z_21, z_25, z_56, z_350, z_31, z_32, z_36, z_48, z_57, z_61, z_97, z_100, z_122, z_125, z_126, z_144, z_255, z_700, z_1000, z_1548, nI_add, pk_mul, pk_sub, nI_clamp, nI_leI, nI_ltI, nI_eq, z_in, z_m1, z_m1b, lg_cmp_eq, z_cmp, Decidable.not_not, w_ie, w_in, w_il, w_le, w_ln, w_li, w_ir, w_lr, e0] at c
            rw [nI_1]
            refine ih2 (i + 1) h (by omega) hf (fun a ha b hb2 => ?_)
            rw [hb a ha b hb2, aT_s, decide_eq_false (show ¬ ¬ ((P.sc (12 + p)).2.getD i (0, 0, 0)).1 = 0 from fun r => r c), Bool.false_and, Bool.or_false]
          · simp (disch := omega) only [z_0, z_1, z_2, z_3, z_4, z_5, z_6, z_7, z_8, z_9, z_10, z_12, z_13, z_20, z_21, z_25, z_56, z_350, z_31, z_32, z_36, z_48, z_57, z_61, z_97, z_100, z_122, z_125, z_126, z_144, z_255, z_700, z_1000, z_1548, nI_add, pk_mul, pk_sub, nI_clamp, nI_leI, nI_ltI, nI_eq, z_in, z_m1, z_m1b, lg_cmp_eq, z_cmp, Decidable.not_not, w_ie, w_in, w_il, w_le, w_ln, w_li, w_ir, w_lr, e0] at c
            rw [nI_clamp (by omega), e0]
            refine s37P H hPh ?_
            rcases pN_of (P := P) (y := ((P.sc (12 + p)).2.getD i (0, 0, 0)).1) with v | ⟨v, v1, v2⟩
            · have := hm p (by omega)
              unfold f2 at this
              rw [any_t (x := (0, 0, 0)) (i := i) (by omega) (by unfold mP; rw [decide_eq_true c, decide_eq_true v]; rfl)] at this
              cases this
            · rw [v2]
              have e12 : (12 : Int32) * nI p + nI v = nI (12 * p + v) := by rw [show (12 : Int32) = nI 12 from rfl, pk_mul, nI_add]
              refine kb_59_72 kd_M_reaches (by rw [e12, ln_M_reaches]; exact mj_inI (by omega) (by omega)) (kb_59_75 ?_)
              rw [e12, nI_clamp (by omega), nar1, nI_1]
              refine ih2 (i + 1) _ (by omega) (hf.wi rfl) (fun a ha b hb2 => ?_)
              by_cases q : a = p ∧ b = v
              · obtain ⟨rfl, rfl⟩ := q
                rw [w_ie ⟨rfl, rfl⟩, if_neg (Nat.lt_irrefl a), if_pos rfl, aT_s, decide_eq_true c, decide_eq_true v2, Bool.and_self, Bool.or_true]
                rfl
              · rw [w_in (by omega), hb a ha b hb2]
                by_cases q1 : a < p
                · rw [if_pos q1, if_pos q1]
                · rw [if_neg q1, if_neg q1]
                  by_cases q2 : a = p
                  · rw [if_pos q2, if_pos q2, aT_s, v2, decide_eq_false (show ¬ nI v = nI b from fun r => q ⟨q2, ((nI_eq (by omega) (by omega)).mp r).symm⟩), Bool.and_false, Bool.or_false]
                  · rw [if_neg q2, if_neg q2]
      refine inner (P.sc (12 + p)).2.length 0 h (by omega) hf (fun a ha b hb2 => ?_)
      rw [hb a ha b hb2]
      by_cases q : a < p
      · rw [if_pos q, if_pos q]
      · rw [if_neg q, if_neg q]
        split <;> rfl
  exact outer P.np 0 h1 (by omega) g1 (fun a ha b hb2 => by rw [z1 _ (by omega), if_neg (Nat.not_lt_zero a)]; rfl)
/-- jobRound -/
theorem s60 (hd : 2 ≤ d) (H0 : mj_RS h0) (hP : PlM h0 W kept P) (hm : ∀ j, j < P.nj → f1 P j = false) (kk : ∀ h', fr inMh h0 h' → Q (some (.int (cyc P.nj (E4 P)))) h') : mr_C mj_KK d 60 [.ref 573] h0 Q := by
  show mr_M mj_KK d 60 0 [some (.ref 573), none, none] [] h0 Q
  have p8 := hP.1.2.1
  have H := H0
  refine kb_60_0 (by first | with_reducible assumption | with_reducible exact kd_M | assumption) (by omega) (s58 H (fun h1 z1 g1 => kb_60_4 ?_))
  have outer : ∀ m p (h : mj_H), p + m = P.nj → fr inMh h0 h → (∀ a, a < 12 → ∀ b, b < 12 → h.1 603 (12 * a + b) = b2i (if a < p then E4 P a b else false)) → mr_M mj_KK d 60 6 [some (.ref 573), some (.int (nI p)), none] [] h Q := by
    intro m
    induction m with
    | zero =>
      intro p h hp hf hb
      have H := hf.rs H0
      have a3 := (PlM_h hP hf).1.1
      refine kb_60_6 (by first | with_reducible assumption | with_reducible exact kd_M | assumption) (fun _ => kb_60_64 (by first | with_reducible assumption | with_reducible exact kd_M | assumption) (by omega) ?_) (fun c => (by simp (disch := omega) only [z_0, z_1, z_2, z_3, z_4, z_5, z_6, z_7, z_8, z_9, z_10, z_12, z_13, z_20, z_21, z_25, z_56, z_350, z_31, z_32, z_36, z_48, z_57, z_61, z_97, z_100, z_122, z_125, z_126, z_144, z_255, z_700, z_1000, z_1548, nI_add, pk_mul, pk_sub, nI_clamp, nI_leI, nI_ltI, nI_eq, z_in, z_m1, z_m1b, lg_cmp_eq, z_cmp, Decidable.not_not, w_ie, w_in, w_il, w_le, w_ln, w_li, w_ir, w_lr, a3] at c; exfalso; omega))
      rw [a3]
      refine s57 H (by omega) (fun a ha b hb2 => ?_) (fun h' g => kb_60_72 (kk h' (hf.trans g)))
      rw [hb a (by omega) b (by omega), if_pos (by omega)]
    | succ m ih =>
      intro p h hp hf hb
      have H := hf.rs H0
      have a3 := (PlM_h hP hf).1.1
      refine kb_60_6 (by first | with_reducible assumption | with_reducible exact kd_M | assumption) (fun c => (by simp (disch := omega) only [z_0, z_1, z_2, z_3, z_4, z_5, z_6, z_7, z_8, z_9, z_10, z_12, z_13, z_20, z_21, z_25, z_56, z_350, z_31, z_32, z_36, z_48, z_57, z_61, z_97, z_100, z_122, z_125, z_126, z_144, z_255, z_700, z_1000, z_1548, nI_add, pk_mul, pk_sub, nI_clamp, nI_leI, nI_ltI, nI_eq, z_in, z_m1, z_m1b, lg_cmp_eq, z_cmp, Decidable.not_not, w_ie, w_in, w_il, w_le, w_ln, w_li, w_ir, w_lr, a3] at c; exfalso; omega)) (fun _ => kb_60_14 ?_)
      have inner : ∀ r i (h : mj_H), i + r = (P.jr p).1.length → fr inMh h0 h → (∀ a, a < 12 → ∀ b, b < 12 → h.1 603 (12 * a + b) = b2i (if a < p then E4 P a b else if a = p then aT (fun i => decide (jN P ((P.jr p).1.getD i 0) = nI b)) i else false)) → mr_M mj_KK d 60 16 [some (.ref 573), some (.int (nI p)), some (.int (nI i))] [] h Q := by
        intro r
        induction r with
        | zero =>
          intro i h hi hf hb
          have H := hf.rs H0
          obtain ⟨⟨x1, x2, x3⟩, -⟩ := (PlM_h hP hf).2.2.2.2 p (by omega)
          refine kb_60_16 (by first | with_reducible assumption | with_reducible exact kd_M | assumption) (by first | with_reducible assumption | exact rf_M_needCount H | assumption) (by first | with_reducible assumption | with_reducible exact kd_M_needCount | assumption) (by first | with_reducible assumption | (simp (disch := omega) only [z_0, z_1, z_2, z_3, z_4, z_5, z_6, z_7, z_8, z_9, z_10, z_12, z_13, z_20, z_21, z_25, z_56, z_350, z_31, z_32, z_36, z_48, z_57, z_61, z_97, z_100, z_122, z_125, z_126, z_144, z_255, z_700, z_1000, z_1548, nI_add, pk_mul, pk_sub, nI_clamp, nI_leI, nI_ltI, nI_eq, z_in, z_m1, z_m1b, lg_cmp_eq, z_cmp, Decidable.not_not, w_ie, w_in, w_il, w_le, w_ln, w_li, w_ir, w_lr, ln_P_tape, ln_W_text, ln_W_starts, ln_W_ends, ln_W_lines, ln_W_names, ln_W_values, ln_PL_jobs, ln_PL_parts, ln_FT_reached, ln_EX_jobs, ln_EX_codes, ln_CB_names, ln_CB_values, ln_M_tape, ln_M_source, ln_M_wordAt, ln_M_wordEnd, ln_M_names, ln_M_itemCount, ln_M_itemFirst, ln_M_itemWords, ln_M_itemUses, ln_M_keptAt, ln_M_keptEnd, ln_M_needCount, ln_M_axisCount, ln_M_valueCount, ln_M_needed, ln_M_axes, ln_M_values, ln_M_includes, ln_M_excludes, ln_M_pairCount, ln_M_pairName, ln_M_pairValue, ln_M_signCount, ln_M_signs, ln_M_signName, ln_M_signValue, ln_M_whose, ln_M_which, ln_M_pile, ln_M_reaches, ln_M_stepsOf, ln_M_known, ln_JB_needed, ln_JB_axes, ln_JS_used, ln_JS_stepWords, ln_PS_used, ln_PS_stepWords, ln_IN_rows, ln_EC_rows, ln_IR_names, ln_IR_values, ln_ER_names, ln_ER_values, ln_CD_kinds, ln_CD_names, ln_CD_values, ln_AX_values] <;> omega) | assumption) (fun _ => kb_60_58 ?_) (fun c => (by simp (disch := omega) only [z_0, z_1, z_2, z_3, z_4, z_5, z_6, z_7, z_8, z_9, z_10, z_12, z_13, z_20, z_21, z_25, z_56, z_350, z_31, z_32, z_36, z_48, z_57, z_61, z_97, z_100, z_122, z_125, z_126, z_144, z_255, z_700, z_1000, z_1548, nI_add, pk_mul, pk_sub, nI_clamp, nI_leI, nI_ltI, nI_eq, z_in, z_m1, z_m1b, lg_cmp_eq, z_cmp, Decidable.not_not, w_ie, w_in, w_il, w_le, w_ln, w_li, w_ir, w_lr, x1] at c; exfalso; omega))
          rw [nI_1]
          have ei : i = (P.jr p).1.length := by omega
          refine ih (p + 1) h (by omega) hf (fun a ha b hb2 => ?_)
          rw [hb a ha b hb2]
          by_cases q : a < p
          · rw [if_pos q, if_pos (by omega)]
          · rw [if_neg q]
            by_cases q2 : a = p
            · rw [if_pos q2, if_pos (by omega), ei, q2]
              rfl
            · rw [if_neg q2, if_neg (by omega)]
        | succ r ih2 =>
          intro i h hi hf hb
          have H := hf.rs H0
          have hPh := PlM_h hP hf
          obtain ⟨⟨x1, x2, x3⟩, -⟩ := hPh.2.2.2.2 p (by omega)
          have e0 := x3 i (by omega)
          refine kb_60_16 (by first | with_reducible assumption | with_reducible exact kd_M | assumption) (by first | with_reducible assumption | exact rf_M_needCount H | assumption) (by first | with_reducible assumption | with_reducible exact kd_M_needCount | assumption) (by first | with_reducible assumption | (simp (disch := omega) only [z_0, z_1, z_2, z_3, z_4, z_5, z_6, z_7, z_8, z_9, z_10, z_12, z_13, z_20, z_21, z_25, z_56, z_350, z_31, z_32, z_36, z_48, z_57, z_61, z_97, z_100, z_122, z_125, z_126, z_144, z_255, z_700, z_1000, z_1548, nI_add, pk_mul, pk_sub, nI_clamp, nI_leI, nI_ltI, nI_eq, z_in, z_m1, z_m1b, lg_cmp_eq, z_cmp, Decidable.not_not, w_ie, w_in, w_il, w_le, w_ln, w_li, w_ir, w_lr, ln_P_tape, ln_W_text, ln_W_starts, ln_W_ends, ln_W_lines, ln_W_names, ln_W_values, ln_PL_jobs, ln_PL_parts, ln_FT_reached, ln_EX_jobs, ln_EX_codes, ln_CB_names, ln_CB_values, ln_M_tape, ln_M_source, ln_M_wordAt, ln_M_wordEnd, ln_M_names, ln_M_itemCount, ln_M_itemFirst, ln_M_itemWords, ln_M_itemUses, ln_M_keptAt, ln_M_keptEnd, ln_M_needCount, ln_M_axisCount, ln_M_valueCount, ln_M_needed, ln_M_axes, ln_M_values, ln_M_includes, ln_M_excludes, ln_M_pairCount, ln_M_pairName, ln_M_pairValue, ln_M_signCount, ln_M_signs, ln_M_signName, ln_M_signValue, ln_M_whose, ln_M_which, ln_M_pile, ln_M_reaches, ln_M_stepsOf, ln_M_known, ln_JB_needed, ln_JB_axes, ln_JS_used, ln_JS_stepWords, ln_PS_used, ln_PS_stepWords, ln_IN_rows, ln_EC_rows, ln_IR_names, ln_IR_values, ln_ER_names, ln_ER_values, ln_CD_kinds, ln_CD_names, ln_CD_values, ln_AX_values] <;> omega) | assumption) (fun c => (by simp (disch := omega) only [z_0, z_1, z_2, z_3, z_4, z_5, z_6, z_7, z_8, z_9, z_10, z_12, z_13, z_20, z_21, z_25, z_56, z_350, z_31, z_32, z_36, z_48, z_57, z_61, z_97, z_100, z_122, z_125, z_126, z_144, z_255, z_700, z_1000, z_1548, nI_add, pk_mul, pk_sub, nI_clamp, nI_leI, nI_ltI, nI_eq, z_in, z_m1, z_m1b, lg_cmp_eq, z_cmp, Decidable.not_not, w_ie, w_in, w_il, w_le, w_ln, w_li, w_ir, w_lr, x1] at c; exfalso; omega)) (fun _ => kb_60_26 (by first | with_reducible assumption | with_reducible exact kd_M | assumption) (by first | with_reducible assumption | exact rf_M_reaches H | assumption) (by first | with_reducible assumption | exact rf_M_needed H | assumption) (by first | with_reducible assumption | with_reducible exact kd_M_needed | assumption) (by first | with_reducible assumption | (simp (disch := omega) only [z_0, z_1, z_2, z_3, z_4, z_5, z_6, z_7, z_8, z_9, z_10, z_12, z_13, z_20, z_21, z_25, z_56, z_350, z_31, z_32, z_36, z_48, z_57, z_61, z_97, z_100, z_122, z_125, z_126, z_144, z_255, z_700, z_1000, z_1548, nI_add, pk_mul, pk_sub, nI_clamp, nI_leI, nI_ltI, nI_eq, z_in, z_m1, z_m1b, lg_cmp_eq, z_cmp, Decidable.not_not, w_ie, w_in, w_il, w_le, w_ln, w_li, w_ir, w_lr, ln_P_tape, ln_W_text, ln_W_starts, ln_W_ends, ln_W_lines, ln_W_names, ln_W_values, ln_PL_jobs, ln_PL_parts, ln_FT_reached, ln_EX_jobs, ln_EX_codes, ln_CB_names, ln_CB_values, ln_M_tape, ln_M_source, ln_M_wordAt, ln_M_wordEnd, ln_M_names, ln_M_itemCount, ln_M_itemFirst, ln_M_itemWords, ln_M_itemUses, ln_M_keptAt, ln_M_keptEnd, ln_M_needCount, ln_M_axisCount, ln_M_valueCount, ln_M_needed, ln_M_axes, ln_M_values, ln_M_includes, ln_M_excludes, ln_M_pairCount, ln_M_pairName, ln_M_pairValue, ln_M_signCount, ln_M_signs, ln_M_signName, ln_M_signValue, ln_M_whose, ln_M_which, ln_M_pile, ln_M_reaches, ln_M_stepsOf, ln_M_known, ln_JB_needed, ln_JB_axes, ln_JS_used, ln_JS_stepWords, ln_PS_used, ln_PS_stepWords, ln_IN_rows, ln_EC_rows, ln_IR_names, ln_IR_values, ln_ER_names, ln_ER_values, ln_CD_kinds, ln_CD_names, ln_CD_values, ln_AX_values] <;> omega) | assumption) (by omega) ?_)
          simp (disch := omega) only [z_0, z_1, z_2, z_3, z_4, z_5, z_6, z_7, z_8, z_9, z_10, z_12, z_13, z_20, z_21, z_25, z_56, z_350, z_31, z_32, z_36, z_48, z_57, z_61, z_97, z_100, z_122, z_125, z_126, z_144, z_255, z_700, z_1000, z_1548, nI_add, pk_mul, pk_sub, nI_clamp, nI_leI, nI_ltI, nI_eq, z_in, z_m1, z_m1b, lg_cmp_eq, z_cmp, Decidable.not_not, w_ie, w_in, w_il, w_le, w_ln, w_li, w_ir, w_lr, e0]
          refine s36P H hPh ?_
          rcases jN_of (P := P) (y := (P.jr p).1.getD i 0) with v | ⟨v, v1, v2⟩
          · have := hm p (by omega)
            unfold f1 at this
            rw [any_t (p := mJ P) (x := 0) (i := i) (by omega) (decide_eq_true v), Bool.true_or] at this
            cases this
          · rw [v2]
            have e12 : nI (12 * p) + nI v = nI (12 * p + v) := nI_add _ _
            refine kb_60_49 kd_M_reaches (by rw [e12, ln_M_reaches]; exact mj_inI (by omega) (by omega)) ?_
            rw [e12, nI_clamp (by omega), nar1, nI_1]
            refine ih2 (i + 1) _ (by omega) (hf.wi rfl) (fun a ha b hb2 => ?_)
            by_cases q : a = p ∧ b = v
            · obtain ⟨rfl, rfl⟩ := q
              rw [w_ie ⟨rfl, rfl⟩, if_neg (Nat.lt_irrefl a), if_pos rfl, aT_s, decide_eq_true v2, Bool.or_true]
              rfl
            · rw [w_in (by omega), hb a ha b hb2]
              by_cases q1 : a < p
              · rw [if_pos q1, if_pos q1]
              · rw [if_neg q1, if_neg q1]
                by_cases q2 : a = p
                · rw [if_pos q2, if_pos q2, aT_s, v2, decide_eq_false (show ¬ nI v = nI b from fun r => q ⟨q2, ((nI_eq (by omega) (by omega)).mp r).symm⟩), Bool.or_false]
                · rw [if_neg q2, if_neg q2]
      refine inner (P.jr p).1.length 0 h (by omega) hf (fun a ha b hb2 => ?_)
      rw [hb a ha b hb2]
      by_cases q : a < p
      · rw [if_pos q, if_pos q]
      · rw [if_neg q, if_neg q]
        split <;> rfl
  exact outer P.nj 0 h1 (by omega) g1 (fun a ha b hb2 => by rw [z1 _ (by omega), if_neg (Nat.not_lt_zero a)]; rfl)
theorem fi_all {p : Nat → Bool} {n : Nat} (hn : n < 1000) (h : fi p 0 n = -1) : ∀ k, k < n → p k = false := by
  rcases fi_spec (p := p) (n := n) (i := 0) with ⟨a, b⟩ | ⟨k, a, b, c, e, f⟩
  · exact fun k hk => b k (Nat.zero_le k) (by omega)
  · rw [e] at h
    exact absurd h (m1_ne (by omega))
theorem PlM_g {h h' : mj_H} (A : PlM h W kept P) (f : fr inMg h h') : PlM h' W kept P := PlM_fr A f (fun a i q => by unfold inMg; omega)
/-- check -/
theorem s61 (hd : 4 ≤ d) (H0 : mj_RS h0) (hP : PlM h0 W kept P) (hJ : ∀ j, JV (P.jr j)) (kk : ∀ h', h'.1 573 39 = (fc P).2 → fr inMg h0 h' → Q (some (.int (fc P).1)) h') : mr_C mj_KK d 61 [.ref 573] h0 Q := by
  show mr_M mj_KK d 61 0 [some (.ref 573), none] [] h0 Q
  have j12 := hP.1.2.1
  have p8 := hP.1.2.2.2.1
  refine kb_61_0 (by first | with_reducible assumption | with_reducible exact kd_M | assumption) ?_
  have f0 : fr inMg h0 (mj_w h0 573 39 (.int (-1))) := fr.wi (P := inMg) fr.rfl' (by unfold inMg; omega)
  generalize mj_w h0 573 39 (.int (-1)) = h at f0
  have H := f0.rs H0
  have hPh := PlM_g hP f0
  have a1 := hPh.1.1
  have a3 := hPh.1.2.2.1
  unfold fc at kk
  have l3 : fi (f1 P) 0 P.nj = -1 → fi (f2 P) 0 P.nj = -1 → ∀ m i, i + m = P.np → fi (fun p => f2 P (12 + p)) i m = fi (fun p => f2 P (12 + p)) 0 P.np → mr_M mj_KK d 61 69 [some (.ref 573), some (.int (nI i))] [] h Q := by
    intro q1 q2 m
    rw [if_neg (fun r => r q1), if_neg (fun r => r q2)] at kk
    induction m with
    | zero =>
      intro i hi hq
      have q3 : fi (fun p => f2 P (12 + p)) 0 P.np = -1 := hq.symm
      rw [if_neg (fun r => r q3)] at kk
      refine kb_61_69 (by first | with_reducible assumption | with_reducible exact kd_M | assumption) (fun _ => kb_61_104 (by first | with_reducible assumption | with_reducible exact kd_M | assumption) (by omega) (s59 (by omega) H hPh (fi_all (by omega) q3) (fun h3 g3 => ?_))) (fun c => (by simp (disch := omega) only [z_0, z_1, z_2, z_3, z_4, z_5, z_6, z_7, z_8, z_9, z_10, z_12, z_13, z_20, z_21, z_25, z_56, z_350, z_31, z_32, z_36, z_48, z_57, z_61, z_97, z_100, z_122, z_125, z_126, z_144, z_255, z_700, z_1000, z_1548, nI_add, pk_mul, pk_sub, nI_clamp, nI_leI, nI_ltI, nI_eq, z_in, z_m1, z_m1b, lg_cmp_eq, z_cmp, Decidable.not_not, w_ie, w_in, w_il, w_le, w_ln, w_li, w_ir, w_lr, a3] at c; exfalso; omega))
      have f3 : fr inMg h0 h3 := f0.trans (g3.mono (fun a i q => Or.inr q))
      have H := f3.rs H0
      rcases cyc_of (n := P.np) (E := E3 P) with v | ⟨v, v1, v2⟩
      · rw [if_neg (fun r => r v)] at kk
        rw [v]
        refine kb_61_108 (fun _ => kb_61_123 (by first | with_reducible assumption | with_reducible exact kd_M | assumption) (by omega) (s60 (by omega) H (PlM_g hP f3) (fi_all (by omega) q1) (fun h4 g4 => ?_))) (fun c => absurd m1_neg c)
        have f4 : fr inMg h0 h4 := f3.trans (g4.mono (fun a i q => Or.inr q))
        have f5 : ∀ x, fr inMg h0 (mj_w h4 573 39 (.int x)) := fun x => f4.wi (by unfold inMg; omega)
        rcases cyc_of (n := P.nj) (E := E4 P) with u | ⟨u, u1, u2⟩
        · rw [if_neg (fun r => r u)] at kk
          rw [u]
          exact kb_61_128 (by first | with_reducible assumption | with_reducible exact kd_M | assumption) (by first | with_reducible assumption | with_reducible exact kd_M | assumption) (fun _ => kb_61_142 (kb_61_143 (kk _ (w_ie ⟨rfl, rfl⟩) (f5 _)))) (fun c => absurd (by rw [w_ie ⟨rfl, rfl⟩]; exact m1_neg) c)
        · rw [if_pos (by rw [u2]; exact m1_ne (by omega))] at kk
          refine kb_61_128 (by first | with_reducible assumption | with_reducible exact kd_M | assumption) (by first | with_reducible assumption | with_reducible exact kd_M | assumption) (fun c => ?_) (fun _ => kb_61_138 (kb_61_143 (kk _ (w_ie ⟨rfl, rfl⟩) (f5 _))))
          rw [w_ie ⟨rfl, rfl⟩, u2] at c
          exact absurd c (nI_pos (by omega))
      · rw [if_pos (by rw [v2]; exact m1_ne (by omega))] at kk
        refine kb_61_108 (fun c => ?_) (fun _ => kb_61_113 (by first | with_reducible assumption | with_reducible exact kd_M | assumption) (kk _ (w_ie ⟨rfl, rfl⟩) (f3.wi (by unfold inMg; omega))))
        rw [v2] at c
        exact absurd c (nI_pos (by omega))
    | succ m ih =>
      intro i hi hq
      have e : fi (fun p => f2 P (12 + p)) i (m + 1) = if f2 P (12 + i) then nI i else fi (fun p => f2 P (12 + p)) (i + 1) m := rfl
      rw [e] at hq
      have e12 : (12 : Int32) + nI i = nI (12 + i) := nI_add 12 i
      refine kb_61_69 (by first | with_reducible assumption | with_reducible exact kd_M | assumption) (fun c => (by simp (disch := omega) only [z_0, z_1, z_2, z_3, z_4, z_5, z_6, z_7, z_8, z_9, z_10, z_12, z_13, z_20, z_21, z_25, z_56, z_350, z_31, z_32, z_36, z_48, z_57, z_61, z_97, z_100, z_122, z_125, z_126, z_144, z_255, z_700, z_1000, z_1548, nI_add, pk_mul, pk_sub, nI_clamp, nI_leI, nI_ltI, nI_eq, z_in, z_m1, z_m1b, lg_cmp_eq, z_cmp, Decidable.not_not, w_ie, w_in, w_il, w_le, w_ln, w_li, w_ir, w_lr, a3] at c; exfalso; omega)) (fun _ => kb_61_77 (by first | with_reducible assumption | with_reducible exact kd_M | assumption) (by omega) ?_)
      rw [e12]
      refine s56 (by omega) H hPh (by omega) ?_
      cases hb : f2 P (12 + i) with
      | true =>
        rw [if_pos hb] at hq
        rw [← hq, if_pos (m1_ne (by omega))] at kk
        exact kb_61_85 (fun c => absurd c (by decide)) (fun _ => kb_61_88 (by first | with_reducible assumption | with_reducible exact kd_M | assumption) (kk _ (w_ie ⟨rfl, rfl⟩) (f0.wi (by unfold inMg; omega))))
      | false =>
        rw [if_neg (by rw [hb]; decide)] at hq
        refine kb_61_85 (fun _ => kb_61_98 ?_) (fun c => absurd rfl c)
        rw [nI_1]
        exact ih (i + 1) (by omega) hq
  have l2 : fi (f1 P) 0 P.nj = -1 → ∀ m i, i + m = P.nj → fi (f2 P) i m = fi (f2 P) 0 P.nj → mr_M mj_KK d 61 38 [some (.ref 573), some (.int (nI i))] [] h Q := by
    intro q1 m
    induction m with
    | zero =>
      intro i hi hq
      exact kb_61_38 (by first | with_reducible assumption | with_reducible exact kd_M | assumption) (fun _ => kb_61_67 (l3 q1 hq.symm P.np 0 (by omega) rfl)) (fun c => (by simp (disch := omega) only [z_0, z_1, z_2, z_3, z_4, z_5, z_6, z_7, z_8, z_9, z_10, z_12, z_13, z_20, z_21, z_25, z_56, z_350, z_31, z_32, z_36, z_48, z_57, z_61, z_97, z_100, z_122, z_125, z_126, z_144, z_255, z_700, z_1000, z_1548, nI_add, pk_mul, pk_sub, nI_clamp, nI_leI, nI_ltI, nI_eq, z_in, z_m1, z_m1b, lg_cmp_eq, z_cmp, Decidable.not_not, w_ie, w_in, w_il, w_le, w_ln, w_li, w_ir, w_lr, a1] at c; exfalso; omega))
    | succ m ih =>
      intro i hi hq
      have e : fi (f2 P) i (m + 1) = if f2 P i then nI i else fi (f2 P) (i + 1) m := rfl
      rw [e] at hq
      refine kb_61_38 (by first | with_reducible assumption | with_reducible exact kd_M | assumption) (fun c => (by simp (disch := omega) only [z_0, z_1, z_2, z_3, z_4, z_5, z_6, z_7, z_8, z_9, z_10, z_12, z_13, z_20, z_21, z_25, z_56, z_350, z_31, z_32, z_36, z_48, z_57, z_61, z_97, z_100, z_122, z_125, z_126, z_144, z_255, z_700, z_1000, z_1548, nI_add, pk_mul, pk_sub, nI_clamp, nI_leI, nI_ltI, nI_eq, z_in, z_m1, z_m1b, lg_cmp_eq, z_cmp, Decidable.not_not, w_ie, w_in, w_il, w_le, w_ln, w_li, w_ir, w_lr, a1] at c; exfalso; omega)) (fun _ => kb_61_46 (by first | with_reducible assumption | with_reducible exact kd_M | assumption) (by omega) (s56 (by omega) H hPh (by omega) ?_))
      cases hb : f2 P i with
      | true =>
        rw [if_pos hb] at hq
        rw [if_neg (fun r => r q1), ← hq, if_pos (m1_ne (by omega))] at kk
        exact kb_61_51 (fun c => absurd c (by decide)) (fun _ => kb_61_54 (by first | with_reducible assumption | with_reducible exact kd_M | assumption) (kk _ (w_ie ⟨rfl, rfl⟩) (f0.wi (by unfold inMg; omega))))
      | false =>
        rw [if_neg (by rw [hb]; decide)] at hq
        refine kb_61_51 (fun _ => kb_61_61 ?_) (fun c => absurd rfl c)
        rw [nI_1]
        exact ih (i + 1) (by omega) hq
  have l1 : ∀ m i, i + m = P.nj → fi (f1 P) i m = fi (f1 P) 0 P.nj → mr_M mj_KK d 61 7 [some (.ref 573), some (.int (nI i))] [] h Q := by
    intro m
    induction m with
    | zero =>
      intro i hi hq
      exact kb_61_7 (by first | with_reducible assumption | with_reducible exact kd_M | assumption) (fun _ => kb_61_36 (l2 hq.symm P.nj 0 (by omega) rfl)) (fun c => (by simp (disch := omega) only [z_0, z_1, z_2, z_3, z_4, z_5, z_6, z_7, z_8, z_9, z_10, z_12, z_13, z_20, z_21, z_25, z_56, z_350, z_31, z_32, z_36, z_48, z_57, z_61, z_97, z_100, z_122, z_125, z_126, z_144, z_255, z_700, z_1000, z_1548, nI_add, pk_mul, pk_sub, nI_clamp, nI_leI, nI_ltI, nI_eq, z_in, z_m1, z_m1b, lg_cmp_eq, z_cmp, Decidable.not_not, w_ie, w_in, w_il, w_le, w_ln, w_li, w_ir, w_lr, a1] at c; exfalso; omega))
    | succ m ih =>
      intro i hi hq
      have e : fi (f1 P) i (m + 1) = if f1 P i then nI i else fi (f1 P) (i + 1) m := rfl
      rw [e] at hq
      refine kb_61_7 (by first | with_reducible assumption | with_reducible exact kd_M | assumption) (fun c => (by simp (disch := omega) only [z_0, z_1, z_2, z_3, z_4, z_5, z_6, z_7, z_8, z_9, z_10, z_12, z_13, z_20, z_21, z_25, z_56, z_350, z_31, z_32, z_36, z_48, z_57, z_61, z_97, z_100, z_122, z_125, z_126, z_144, z_255, z_700, z_1000, z_1548, nI_add, pk_mul, pk_sub, nI_clamp, nI_leI, nI_ltI, nI_eq, z_in, z_m1, z_m1b, lg_cmp_eq, z_cmp, Decidable.not_not, w_ie, w_in, w_il, w_le, w_ln, w_li, w_ir, w_lr, a1] at c; exfalso; omega)) (fun _ => kb_61_15 (by first | with_reducible assumption | with_reducible exact kd_M | assumption) (by omega) (s55 (by omega) H hPh (by omega) (hJ i).2.2.2.2.2 ?_))
      cases hb : f1 P i with
      | true =>
        rw [if_pos hb] at hq
        rw [← hq, if_pos (m1_ne (by omega))] at kk
        exact kb_61_20 (fun c => absurd c (by decide)) (fun _ => kb_61_23 (by first | with_reducible assumption | with_reducible exact kd_M | assumption) (kk _ (w_ie ⟨rfl, rfl⟩) (f0.wi (by unfold inMg; omega))))
      | false =>
        rw [if_neg (by rw [hb]; decide)] at hq
        refine kb_61_20 (fun _ => kb_61_30 ?_) (fun c => absurd rfl c)
        rw [nI_1]
        exact ih (i + 1) (by omega) hq
  exact l1 P.nj 0 (by omega) rfl
end
