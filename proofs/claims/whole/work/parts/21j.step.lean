-- ===== step, the call =====
theorem mj_op11 (x y z : Int32) : mj_Op mj_J mj_KK 573 11 83 [.int x, .int y, .int z] := by
  refine mj_op_of (fun h hJ => ?_)
  obtain ⟨H, b, t, P, X, L, W, kept, XE, r, e⟩ := id hJ
  obtain ⟨r1, r2, r3, r4, r5, r6, r7, r8, r9, r10⟩ := r
  have n12 := r4.1
  have n8 := r4.2.1
  have lx := e.1.2.1
  show mr_M mj_KK 60 11 0 [some (.ref 0), some (.int x), some (.int y), some (.int z), none] [] h _
  refine kb_11_0 (by first | with_reducible assumption | with_reducible exact kd_P | assumption) (by first | with_reducible assumption | exact rf_P_expansion H | assumption) (by first | with_reducible assumption | with_reducible exact kd_EX | assumption) (by omega) (s103 e.1.1 ?_)
  rcases in_cases (x := x) (N := XE.length) (by omega) with q | ⟨i, hi, rfl⟩
  · rw [q]
    refine kb_11_8 (fun _ => kb_11_26 ⟨_, rfl, ?_⟩) (fun c => absurd rfl c)
    show mr_M mj_KK 60 83 0 [some (.ref 573), some (.int x), some (.int y), some (.int z), none, none, none, none, none, none, none, none] [] h _
    refine kb_83_0 (by first | with_reducible assumption | with_reducible exact kd_M | assumption) (by omega) (s23 ?_)
    rw [e.2.1.1, q]
    exact kb_83_8 (fun _ => kb_83_32 ⟨rfl, hJ⟩) (fun c => absurd rfl c)
  · rw [in_yes hi (by omega)]
    obtain ⟨f0, ho⟩ := JE_at e hi
    have eC := XC_en e.1 hi
    have eM := XM_en e.2.1 hi
    have m34 := e.2.1.1
    generalize XE.getD i (0, 0, 0) = en at ho eC eM
    have hV := r4.2.2.2.2.2 en.1
    have hj := ho.1
    have hj12 : en.1 < 12 := by omega
    have cl : (nI i).toNatClampNeg = i := nI_clamp (by omega)
    have tl := tot_le (P := P) (σ := σF P) (xs := (P.sc en.1).2)
    have te : totI P (σF P) (P.sc en.1).2 = if 1000 < sI P (σF P) (P.sc en.1).2 (P.sc en.1).2.length then 1000 else sI P (σF P) (P.sc en.1).2 (P.sc en.1).2.length := rfl
    generalize totI P (σF P) (P.sc en.1).2 = tot at te tl
    have mhead : ∀ (h1 : mj_H) (Q : Option Value → mj_H → Prop), fr (inP 570) h h1 → (∀ h2, fr inQ h h2 → SM h2 (σF P) → mr_M mj_KK 60 83 22 [some (.ref 573), some (.int (nI i)), some (.int y), some (.int z), none, none, none, none, none, none, none, none] [.int (nI tot), .int y] h2 Q) → mr_C mj_KK 60 83 (.ref 573 :: [.int (nI i), .int y, .int z]) h1 Q := by
      intro h1 Q f1 kk
      have H := f1.rs H
      have M1 := PlM_P r6 f1
      have E12 := (EnM_P eM f1).2.1
      have m34 := (f1.n (a := 573) (i := 34) (by unfold inP; omega)).trans m34
      show mr_M mj_KK 60 83 0 [some (.ref 573), some (.int (nI i)), some (.int y), some (.int z), none, none, none, none, none, none, none, none] [] h1 _
      refine kb_83_0 (by first | with_reducible assumption | with_reducible exact kd_M | assumption) (by omega) (s23 ?_)
      rw [m34, in_yes hi (by omega)]
      refine kb_83_8 (fun c => absurd c b2i_n0) (fun _ => kb_83_11 (by first | with_reducible assumption | with_reducible exact kd_M | assumption) (by first | with_reducible assumption | exact rf_M_whose H | assumption) (by first | with_reducible assumption | with_reducible exact kd_M_whose | assumption) (by first | with_reducible assumption | (simp (disch := omega) only [z_0, z_1, z_2, z_3, z_4, z_5, z_6, z_7, z_8, z_9, z_10, z_12, z_13, z_20, z_21, z_25, z_56, z_350, z_31, z_32, z_36, z_48, z_57, z_61, z_97, z_100, z_122, z_125, z_126, z_144, z_255, z_700, z_1000, z_1548, nI_add, pk_mul, pk_sub, nI_clamp, nI_leI, nI_ltI, nI_eq, z_in, z_m1, z_m1b, lg_cmp_eq, z_cmp, Decidable.not_not, w_ie, w_in, w_il, w_le, w_ln, w_li, w_ir, w_lr, ln_P_tape, ln_W_text, ln_W_starts, ln_W_ends, ln_W_lines, ln_W_names, ln_W_values, ln_PL_jobs, ln_PL_parts, ln_FT_reached, ln_EX_jobs, ln_EX_codes, ln_CB_names, ln_CB_values, ln_M_tape, ln_M_source, ln_M_wordAt, ln_M_wordEnd, ln_M_names, ln_M_itemCount, ln_M_itemFirst, ln_M_itemWords, ln_M_itemUses, ln_M_keptAt, ln_M_keptEnd, ln_M_needCount, ln_M_axisCount, ln_M_valueCount, ln_M_needed, ln_M_axes, ln_M_values, ln_M_includes, ln_M_excludes, ln_M_pairCount, ln_M_pairName, ln_M_pairValue, ln_M_signCount, ln_M_signs, ln_M_signName, ln_M_signValue, ln_M_whose, ln_M_which, ln_M_pile, ln_M_reaches, ln_M_stepsOf, ln_M_known, ln_JB_needed, ln_JB_axes, ln_JS_used, ln_JS_stepWords, ln_PS_used, ln_PS_stepWords, ln_IN_rows, ln_EC_rows, ln_IR_names, ln_IR_values, ln_ER_names, ln_ER_values, ln_CD_kinds, ln_CD_names, ln_CD_values, ln_AX_values] <;> omega) | assumption) (by omega) ?_)
      rw [cl, E12]
      refine s74 (by decide) H M1 hj f0 (fun h2 g1 g2 => ?_)
      have te2 : totI P (σF P) (P.sc en.1).2 = tot := te.symm
      rw [te2]
      exact kk h2 ((f1.mono (fun a i q => inP_Q q)).trans (g2.mono (fun a i q => by unfold inMt at q; unfold inQ; omega))) g1
    rcases in_cases (x := y) (N := tot) (by omega) with q | ⟨l, hlt, rfl⟩
    · have bad : ∃ r, some (Value.int (-1)) = some (Value.int r) ∧ mr_C mj_KK 60 83 (.ref 573 :: [.int (nI i), .int y, .int z]) h (fun v2 h2 => v2 = some (.int r) ∧ mj_J h2) := by
        refine ⟨_, rfl, mhead h _ fr.rfl' (fun h2 g1 g2 => kb_83_22 (by decide) (s23 ?_))⟩
        rw [q]
        exact kb_83_25 (fun _ => kb_83_32 ⟨rfl, J_keep hJ g1⟩) (fun c => absurd rfl c)
      refine kb_11_8 (fun c => absurd c b2i_n0) (fun _ => kb_11_11 (fun _ => kb_11_26 bad) (fun c => kb_11_15 (fun _ => kb_11_26 bad) (fun c2 => kb_11_22 (fun c3 => ?_) (fun _ => kb_11_26 bad))))
      obtain ⟨l, hl, rfl⟩ := pos_cases c
      simp (disch := omega) only [z_0, z_1, z_2, z_3, z_4, z_5, z_6, z_7, z_8, z_9, z_10, z_12, z_13, z_20, z_21, z_25, z_56, z_350, z_31, z_32, z_36, z_48, z_57, z_61, z_97, z_100, z_122, z_125, z_126, z_144, z_255, z_700, z_1000, z_1548, nI_add, pk_mul, pk_sub, nI_clamp, nI_leI, nI_ltI, nI_eq, z_in, z_m1, z_m1b, lg_cmp_eq, z_cmp, Decidable.not_not, w_ie, w_in, w_il, w_le, w_ln, w_li, w_ir, w_lr] at c2
      have q := of_decide_eq_false q
      have ql : ¬ l < tot := fun z => q ⟨by rw [z_0, nI_leI (by omega) (by omega)]; omega, by rw [nI_ltI (by omega) (by omega)]; exact z⟩
      have lo : fd P (σF P) 9 en.1 l = none := fd_out (by
        rw [te] at ql
        split at ql
        · omega
        · omega)
      refine kb_11_28 (by first | with_reducible assumption | with_reducible exact kd_P | assumption) (by first | with_reducible assumption | exact rf_P_plan H | assumption) (by omega) (s13 H eC hj12 (kb_11_37 (by first | with_reducible assumption | with_reducible exact kd_JB _ (by omega) | assumption) (by first | with_reducible assumption | exact rf_JB_section H (by omega) | assumption) (by first | with_reducible assumption | with_reducible exact kd_PL | assumption) (by omega) ?_))
      have q := s147 (d := 59) (l := l) (Q := fun v h' => mr_M mj_KK 60 11 44 [some (.ref 0), some (.int (nI i)), none, some (.int z), none] (v.toList ++ []) h' (fun v h1 => ∃ r, v = some (.int r) ∧ mr_C mj_KK 60 83 (.ref 573 :: [.int (nI i), .int (nI l), .int z]) h1 (fun v2 h2 => v2 = some (.int r) ∧ mj_J h2))) (by decide) H r5 hj (r9 f0) (pf_rd (r := P.np)) (by omega) (fun _ => kb_11_44 (fun c => absurd rfl c) (fun _ => kb_11_52 (kb_11_68 bad))) (fun r z => by rw [lo] at z; cases z)
      rw [sa_j hj12] at q
      exact q
    · have hs : l < sI P (σF P) (P.sc en.1).2 (P.sc en.1).2.length := by omega
      have mneg : ¬ 0 ≤ z → ∃ r, some (Value.int (-1)) = some (Value.int r) ∧ mr_C mj_KK 60 83 (.ref 573 :: [.int (nI i), .int (nI l), .int z]) h (fun v2 h2 => v2 = some (.int r) ∧ mj_J h2) := by
        intro c
        refine ⟨_, rfl, mhead h _ fr.rfl' (fun h2 g1 g2 => kb_83_22 (by decide) (s23 ?_))⟩
        rw [in_yes hlt (by omega)]
        exact kb_83_25 (fun c => absurd c b2i_n0) (fun _ => kb_83_28 (fun c2 => absurd c2 c) (fun _ => kb_83_32 ⟨rfl, J_keep hJ g1⟩))
      refine kb_11_8 (fun c => absurd c b2i_n0) (fun _ => kb_11_11 (fun c => (by simp (disch := omega) only [z_0, z_1, z_2, z_3, z_4, z_5, z_6, z_7, z_8, z_9, z_10, z_12, z_13, z_20, z_21, z_25, z_56, z_350, z_31, z_32, z_36, z_48, z_57, z_61, z_97, z_100, z_122, z_125, z_126, z_144, z_255, z_700, z_1000, z_1548, nI_add, pk_mul, pk_sub, nI_clamp, nI_leI, nI_ltI, nI_eq, z_in, z_m1, z_m1b, lg_cmp_eq, z_cmp, Decidable.not_not, w_ie, w_in, w_il, w_le, w_ln, w_li, w_ir, w_lr] at c; exfalso; omega)) (fun _ => kb_11_15 (fun c => (by simp (disch := omega) only [z_0, z_1, z_2, z_3, z_4, z_5, z_6, z_7, z_8, z_9, z_10, z_12, z_13, z_20, z_21, z_25, z_56, z_350, z_31, z_32, z_36, z_48, z_57, z_61, z_97, z_100, z_122, z_125, z_126, z_144, z_255, z_700, z_1000, z_1548, nI_add, pk_mul, pk_sub, nI_clamp, nI_leI, nI_ltI, nI_eq, z_in, z_m1, z_m1b, lg_cmp_eq, z_cmp, Decidable.not_not, w_ie, w_in, w_il, w_le, w_ln, w_li, w_ir, w_lr] at c; exfalso; omega)) (fun _ => kb_11_22 (fun c => ?_) (fun c => kb_11_26 (mneg c)))))
      obtain ⟨k, hk, rfl⟩ := pos_cases (fun q => i_nlt q c)
      obtain ⟨g, hg⟩ := fd_job n8 hj n12 f0 hs
      refine kb_11_28 (by first | with_reducible assumption | with_reducible exact kd_P | assumption) (by first | with_reducible assumption | exact rf_P_plan H | assumption) (by omega) (s13 H eC hj12 (kb_11_37 (by first | with_reducible assumption | with_reducible exact kd_JB _ (by omega) | assumption) (by first | with_reducible assumption | exact rf_JB_section H (by omega) | assumption) (by first | with_reducible assumption | with_reducible exact kd_PL | assumption) (by omega) ?_))
      have q := s147 (d := 59) (l := l) (Q := fun v h' => mr_M mj_KK 60 11 44 [some (.ref 0), some (.int (nI i)), none, some (.int (nI k)), none] (v.toList ++ []) h' (fun v h1 => ∃ r, v = some (.int r) ∧ mr_C mj_KK 60 83 (.ref 573 :: [.int (nI i), .int (nI l), .int (nI k)]) h1 (fun v2 h2 => v2 = some (.int r) ∧ mj_J h2))) (by decide) H r5 hj (r9 f0) (pf_rd (r := P.np)) (by omega) (fun z => by rw [show fd P (σF P) 9 en.1 l = some g from hg] at z; cases z) (fun g2 hg2 u1 u2 u3 => ?_)
      · rw [sa_j hj12] at q
        exact q
      · have eg : g2 = g := Option.some.inj (hg2.symm.trans hg)
        subst eg
        have g20 : g2.1 < 20 := by omega
        obtain ⟨w1, w2, w3⟩ := r6.2.2.2.1 g2.1 g20
        obtain ⟨o1, o2⟩ := r4.2.2.2.2.1 g2.1 _ (getD_mem (x := (0, 0, 0)) u1) u2
        obtain ⟨z1, z2⟩ := w3 g2.2 u1
        obtain ⟨f, z3, z4, z5, z6⟩ := z2 u2
        generalize (P.sc g2.1).2.getD g2.2 (0, 0, 0) = it at *
        have wl := o2.2.1
        have w350 := r2.2.2.2.1
        refine kb_11_44 (fun _ => kb_11_56 (by first | with_reducible assumption | with_reducible exact kd_P | assumption) (by omega) (s14 (by decide) H r5 eC ho hV (fun h1 g1 f1 => ?_))) (fun c => absurd (m1_ne (by omega)) c)
        have H1 := f1.rs H
        have W1 := r2.fr f1 (fun a i h1 h2 => by unfold inP; omega)
        refine kb_11_64 kd_P (by decide) (s15 (by decide) H1 W1 g1 (cmb_nn hV ho) o2 hk (kb_11_68 ⟨_, rfl, ?_⟩))
        refine mhead h1 _ f1 (fun h2 k1 k2 => kb_83_22 (by decide) (s23 ?_))
        rw [in_yes hlt (by omega)]
        have H := k1.rs H
        have M2 := PlM_fr r6 k1 (fun a i q => by unfold inQ; omega)
        have E2 : EnM h2 i en := ⟨eM.1, (k1.n (by unfold inQ; omega)).trans eM.2.1, (k1.n (by unfold inQ; omega)).trans eM.2.2⟩
        have E22 := E2.2.1
        have W2 := r2.fr k1 (fun a i h1 h2 => by unfold inQ; omega)
        refine kb_83_25 (fun c => absurd c b2i_n0) (fun _ => kb_83_28 (fun _ => kb_83_34 (by first | with_reducible assumption | with_reducible exact kd_M | assumption) (by first | with_reducible assumption | exact rf_M_whose H | assumption) (by first | with_reducible assumption | with_reducible exact kd_M_whose | assumption) (by first | with_reducible assumption | (simp (disch := omega) only [z_0, z_1, z_2, z_3, z_4, z_5, z_6, z_7, z_8, z_9, z_10, z_12, z_13, z_20, z_21, z_25, z_56, z_350, z_31, z_32, z_36, z_48, z_57, z_61, z_97, z_100, z_122, z_125, z_126, z_144, z_255, z_700, z_1000, z_1548, nI_add, pk_mul, pk_sub, nI_clamp, nI_leI, nI_ltI, nI_eq, z_in, z_m1, z_m1b, lg_cmp_eq, z_cmp, Decidable.not_not, w_ie, w_in, w_il, w_le, w_ln, w_li, w_ir, w_lr, ln_P_tape, ln_W_text, ln_W_starts, ln_W_ends, ln_W_lines, ln_W_names, ln_W_values, ln_PL_jobs, ln_PL_parts, ln_FT_reached, ln_EX_jobs, ln_EX_codes, ln_CB_names, ln_CB_values, ln_M_tape, ln_M_source, ln_M_wordAt, ln_M_wordEnd, ln_M_names, ln_M_itemCount, ln_M_itemFirst, ln_M_itemWords, ln_M_itemUses, ln_M_keptAt, ln_M_keptEnd, ln_M_needCount, ln_M_axisCount, ln_M_valueCount, ln_M_needed, ln_M_axes, ln_M_values, ln_M_includes, ln_M_excludes, ln_M_pairCount, ln_M_pairName, ln_M_pairValue, ln_M_signCount, ln_M_signs, ln_M_signName, ln_M_signValue, ln_M_whose, ln_M_which, ln_M_pile, ln_M_reaches, ln_M_stepsOf, ln_M_known, ln_JB_needed, ln_JB_axes, ln_JS_used, ln_JS_stepWords, ln_PS_used, ln_PS_stepWords, ln_IN_rows, ln_EC_rows, ln_IR_names, ln_IR_values, ln_ER_names, ln_ER_values, ln_CD_kinds, ln_CD_names, ln_CD_values, ln_AX_values] <;> omega) | assumption) (by omega) ?_) (fun c2 => absurd c c2))
        rw [cl, E22]
        refine s75 (by decide) H M2 hj f0 k2 (pf_rd (r := P.np)) (by omega) hg (s83b (by decide) H M2 E2 ho hV W2 (fun i hi => (k1.n (by unfold inQ; omega)).trans (r1 i hi)) (by omega) r10 ((k1.n (by unfold inQ; omega)).trans z3) ((k1.n (by unfold inQ; omega)).trans z4) z5 wl (fun q hq => ⟨(k1.n (by unfold inQ; omega)).trans (z6 q hq).1, (k1.n (by unfold inQ; omega)).trans (z6 q hq).2⟩) hk ⟨rfl, J_keep hJ k1⟩)
