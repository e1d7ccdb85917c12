-- ===== wants =====
theorem f1_no {P : mj_P} {j : Nat} (h : f1 P j = false) (hV : JV (P.jr j)) : (∀ y ∈ (P.jr j).1, ¬ jN P y = -1) ∧ (∀ s ∈ (P.jr j).2.2.2.2.1, (s.1 = 7 ∨ s.1 = 8) → ¬ jN P s.2.1 = -1) ∧ ∀ s ∈ (P.jr j).2.2.2.2.2, (s.1 = 1 ∨ s.1 = 2) → ¬ jN P s.2.1 = -1 := by
  unfold f1 at h
  rw [Bool.or_eq_false_iff] at h
  obtain ⟨h1, h2⟩ := h
  have h3 : (akC (P.jr j).2.2.2.2.2).any (mJ P) = false := by rw [hV.2.2.2.1.2.2.2.1]; exact h2
  rw [akM_any] at h2
  rw [akC_any] at h3
  rw [List.any_eq_false] at h1 h2 h3
  refine ⟨fun y hy q => h1 y hy (decide_eq_true q), fun s hs c q => h2 s hs ?_, fun s hs c q => h3 s hs ?_⟩
  · rw [decide_eq_true c, Bool.true_and]
    exact decide_eq_true q
  · rw [decide_eq_true c, Bool.true_and]
    exact decide_eq_true q
theorem bt_s0 {x : Int32} {k : Nat} (hk : k < 32) : bt (x >>> (nI k &&& 31)) 0 = bt x k := by
  rw [b_sshr k (by omega) x (by decide), if_pos (by omega), Nat.add_zero]
/-- the needs are all ok -/
def oW (P : mj_P) (out : Int32) (ns : List Int64) : Bool := ns.all (fun y => bt out (2 * (jN P y).toNatClampNeg))
section
variable {d j kept : Nat} {h : mj_H} {Q : Option Value → mj_H → Prop} {P : mj_P} {W : List Wt} {out : Int32}
theorem s12l (hd : 1 ≤ d) (H : mj_RS h) (hP : PlC h P) (hj : j < P.nj) (hn : ∀ y ∈ (P.jr j).1, ¬ jN P y = -1) (kk : Q (some (.int (b2i (oW P out (P.jr j).1)))) h) : mr_M mj_KK d 12 51 [some (.ref 0), none, some (.int out), some (.ref (12 + 44 * j)), none] [] h Q := by
  have n12 := hP.2.1
  have hj12 : j < 12 := by omega
  obtain ⟨a1, a2, a3⟩ := (hP.2.2.2.2.1 j hj).2.1
  have loop : ∀ n k, k + n = (P.jr j).1.length → (∀ q, q < k → bt out (2 * (jN P ((P.jr j).1.getD q 0)).toNatClampNeg) = true) → mr_M mj_KK d 12 54 [some (.ref 0), none, some (.int out), some (.ref (12 + 44 * j)), some (.int (nI k))] [] h Q := by
    intro n
    induction n with
    | zero =>
      intro k hk g
      refine kb_12_54 (by first | with_reducible assumption | with_reducible exact kd_JB _ (by omega) | assumption) (fun _ => kb_12_92 ?_) (fun c => (by simp (disch := omega) only [z_0, z_1, z_2, z_3, z_4, z_5, z_6, z_7, z_8, z_9, z_10, z_12, z_13, z_20, z_21, z_25, z_56, z_350, z_31, z_32, z_36, z_48, z_57, z_61, z_97, z_100, z_122, z_125, z_126, z_144, z_255, z_700, z_1000, z_1548, nI_add, pk_mul, pk_sub, nI_clamp, nI_leI, nI_ltI, nI_eq, z_in, z_m1, z_m1b, lg_cmp_eq, z_cmp, Decidable.not_not, w_ie, w_in, w_il, w_le, w_ln, w_li, w_ir, w_lr, a1] at c; exfalso; omega))
      have : oW P out (P.jr j).1 = true := all_t (x := 0) (fun i hi => g i (by omega))
      rw [this] at kk
      exact kk
    | succ n ih =>
      intro k hk g
      refine kb_12_54 (by first | with_reducible assumption | with_reducible exact kd_JB _ (by omega) | assumption) (fun c => (by simp (disch := omega) only [z_0, z_1, z_2, z_3, z_4, z_5, z_6, z_7, z_8, z_9, z_10, z_12, z_13, z_20, z_21, z_25, z_56, z_350, z_31, z_32, z_36, z_48, z_57, z_61, z_97, z_100, z_122, z_125, z_126, z_144, z_255, z_700, z_1000, z_1548, nI_add, pk_mul, pk_sub, nI_clamp, nI_leI, nI_ltI, nI_eq, z_in, z_m1, z_m1b, lg_cmp_eq, z_cmp, Decidable.not_not, w_ie, w_in, w_il, w_le, w_ln, w_li, w_ir, w_lr, a1] at c; exfalso; omega)) (fun _ => kb_12_63 (by first | with_reducible assumption | with_reducible exact kd_P | assumption) (by first | with_reducible assumption | exact rf_P_plan H | assumption) (by first | with_reducible assumption | with_reducible exact kd_JB _ (by omega) | assumption) (by first | with_reducible assumption | exact rf_JB_needed H (by omega) | assumption) (by first | with_reducible assumption | with_reducible exact kd_JB_needed _ (by omega) | assumption) (by first | with_reducible assumption | (simp (disch := omega) only [z_0, z_1, z_2, z_3, z_4, z_5, z_6, z_7, z_8, z_9, z_10, z_12, z_13, z_20, z_21, z_25, z_56, z_350, z_31, z_32, z_36, z_48, z_57, z_61, z_97, z_100, z_122, z_125, z_126, z_144, z_255, z_700, z_1000, z_1548, nI_add, pk_mul, pk_sub, nI_clamp, nI_leI, nI_ltI, nI_eq, z_in, z_m1, z_m1b, lg_cmp_eq, z_cmp, Decidable.not_not, w_ie, w_in, w_il, w_le, w_ln, w_li, w_ir, w_lr, ln_P_tape, ln_W_text, ln_W_starts, ln_W_ends, ln_W_lines, ln_W_names, ln_W_values, ln_PL_jobs, ln_PL_parts, ln_FT_reached, ln_EX_jobs, ln_EX_codes, ln_CB_names, ln_CB_values, ln_M_tape, ln_M_source, ln_M_wordAt, ln_M_wordEnd, ln_M_names, ln_M_itemCount, ln_M_itemFirst, ln_M_itemWords, ln_M_itemUses, ln_M_keptAt, ln_M_keptEnd, ln_M_needCount, ln_M_axisCount, ln_M_valueCount, ln_M_needed, ln_M_axes, ln_M_values, ln_M_includes, ln_M_excludes, ln_M_pairCount, ln_M_pairName, ln_M_pairValue, ln_M_signCount, ln_M_signs, ln_M_signName, ln_M_signValue, ln_M_whose, ln_M_which, ln_M_pile, ln_M_reaches, ln_M_stepsOf, ln_M_known, ln_JB_needed, ln_JB_axes, ln_JS_used, ln_JS_stepWords, ln_PS_used, ln_PS_stepWords, ln_IN_rows, ln_EC_rows, ln_IR_names, ln_IR_values, ln_ER_names, ln_ER_values, ln_CD_kinds, ln_CD_names, ln_CD_values, ln_AX_values] <;> omega) | assumption) (by first | with_reducible assumption | with_reducible exact kd_PL | assumption) (by omega) ?_)
      have a3 := a3 k (by omega)
      rw [Nat.zero_add] at a3
      rw [nI_clamp (by omega), a3]
      have nj := hn _ (getD_mem (x := 0) (show k < (P.jr j).1.length by omega))
      refine s142P H hP (kb_12_77 hd ?_)
      rcases jN_of (P := P) (y := (P.jr j).1.getD k 0) with v | ⟨q, q1, q2⟩
      · exact absurd v nj
      · rw [q2]
        have cq : (jN P ((P.jr j).1.getD k 0)).toNatClampNeg = q := nI_cl q2 (by omega)
        refine s17 (by omega) (kb_12_81 (fun c => kb_12_86 ?_) (fun c => kb_12_84 ?_))
        · rw [nI_1]
          refine ih (k + 1) (by omega) (fun i hi => ?_)
          rcases Nat.lt_or_ge i k with r | r
          · exact g i r
          · have : i = k := by omega
            rw [this, cq]
            rw [b2i_0, Bool.not_eq_false] at c
            exact c
        · rw [Decidable.not_not, b2i_0] at c
          have : oW P out (P.jr j).1 = false := all_f (x := 0) (i := k) (by omega) (by rw [cq]; exact c)
          rw [this] at kk
          exact kk
  exact kb_12_51 (loop (P.jr j).1.length 0 (by omega) (fun q hq => absurd hq (Nat.not_lt_zero q)))
theorem s87l (hd : 1 ≤ d) (H : mj_RS h) (hP : PlM h W kept P) (hj : j < P.nj) (hn : ∀ y ∈ (P.jr j).1, ¬ jN P y = -1) (kk : Q (some (.int (b2i (oW P out (P.jr j).1)))) h) : mr_M mj_KK d 87 36 [some (.ref 573), none, some (.int out), some (.int (nI j)), none] [] h Q := by
  have n12 := hP.1.2.1
  have hj12 : j < 12 := by omega
  obtain ⟨a1, a2, a3⟩ := (hP.2.2.2.2 j hj12).1
  have loop : ∀ n k, k + n = (P.jr j).1.length → (∀ q, q < k → bt out (2 * (jN P ((P.jr j).1.getD q 0)).toNatClampNeg) = true) → mr_M mj_KK d 87 39 [some (.ref 573), none, some (.int out), some (.int (nI j)), some (.int (nI k))] [] h Q := by
    intro n
    induction n with
    | zero =>
      intro k hk g
      refine kb_87_39 (by first | with_reducible assumption | with_reducible exact kd_M | assumption) (by first | with_reducible assumption | exact rf_M_needCount H | assumption) (by first | with_reducible assumption | with_reducible exact kd_M_needCount | assumption) (by first | with_reducible assumption | (simp (disch := omega) only [z_0, z_1, z_2, z_3, z_4, z_5, z_6, z_7, z_8, z_9, z_10, z_12, z_13, z_20, z_21, z_25, z_56, z_350, z_31, z_32, z_36, z_48, z_57, z_61, z_97, z_100, z_122, z_125, z_126, z_144, z_255, z_700, z_1000, z_1548, nI_add, pk_mul, pk_sub, nI_clamp, nI_leI, nI_ltI, nI_eq, z_in, z_m1, z_m1b, lg_cmp_eq, z_cmp, Decidable.not_not, w_ie, w_in, w_il, w_le, w_ln, w_li, w_ir, w_lr, a1, ln_P_tape, ln_W_text, ln_W_starts, ln_W_ends, ln_W_lines, ln_W_names, ln_W_values, ln_PL_jobs, ln_PL_parts, ln_FT_reached, ln_EX_jobs, ln_EX_codes, ln_CB_names, ln_CB_values, ln_M_tape, ln_M_source, ln_M_wordAt, ln_M_wordEnd, ln_M_names, ln_M_itemCount, ln_M_itemFirst, ln_M_itemWords, ln_M_itemUses, ln_M_keptAt, ln_M_keptEnd, ln_M_needCount, ln_M_axisCount, ln_M_valueCount, ln_M_needed, ln_M_axes, ln_M_values, ln_M_includes, ln_M_excludes, ln_M_pairCount, ln_M_pairName, ln_M_pairValue, ln_M_signCount, ln_M_signs, ln_M_signName, ln_M_signValue, ln_M_whose, ln_M_which, ln_M_pile, ln_M_reaches, ln_M_stepsOf, ln_M_known, ln_JB_needed, ln_JB_axes, ln_JS_used, ln_JS_stepWords, ln_PS_used, ln_PS_stepWords, ln_IN_rows, ln_EC_rows, ln_IR_names, ln_IR_values, ln_ER_names, ln_ER_values, ln_CD_kinds, ln_CD_names, ln_CD_values, ln_AX_values] <;> omega) | assumption) (fun _ => kb_87_83 ?_) (fun c => (by simp (disch := omega) only [z_0, z_1, z_2, z_3, z_4, z_5, z_6, z_7, z_8, z_9, z_10, z_12, z_13, z_20, z_21, z_25, z_56, z_350, z_31, z_32, z_36, z_48, z_57, z_61, z_97, z_100, z_122, z_125, z_126, z_144, z_255, z_700, z_1000, z_1548, nI_add, pk_mul, pk_sub, nI_clamp, nI_leI, nI_ltI, nI_eq, z_in, z_m1, z_m1b, lg_cmp_eq, z_cmp, Decidable.not_not, w_ie, w_in, w_il, w_le, w_ln, w_li, w_ir, w_lr, a1] at c; exfalso; omega))
      have : oW P out (P.jr j).1 = true := all_t (x := 0) (fun i hi => g i (by omega))
      rw [this] at kk
      exact kk
    | succ n ih =>
      intro k hk g
      refine kb_87_39 (by first | with_reducible assumption | with_reducible exact kd_M | assumption) (by first | with_reducible assumption | exact rf_M_needCount H | assumption) (by first | with_reducible assumption | with_reducible exact kd_M_needCount | assumption) (by first | with_reducible assumption | (simp (disch := omega) only [z_0, z_1, z_2, z_3, z_4, z_5, z_6, z_7, z_8, z_9, z_10, z_12, z_13, z_20, z_21, z_25, z_56, z_350, z_31, z_32, z_36, z_48, z_57, z_61, z_97, z_100, z_122, z_125, z_126, z_144, z_255, z_700, z_1000, z_1548, nI_add, pk_mul, pk_sub, nI_clamp, nI_leI, nI_ltI, nI_eq, z_in, z_m1, z_m1b, lg_cmp_eq, z_cmp, Decidable.not_not, w_ie, w_in, w_il, w_le, w_ln, w_li, w_ir, w_lr, a1, ln_P_tape, ln_W_text, ln_W_starts, ln_W_ends, ln_W_lines, ln_W_names, ln_W_values, ln_PL_jobs, ln_PL_parts, ln_FT_reached, ln_EX_jobs, ln_EX_codes, ln_CB_names, ln_CB_values, ln_M_tape, ln_M_source, ln_M_wordAt, ln_M_wordEnd, ln_M_names, ln_M_itemCount, ln_M_itemFirst, ln_M_itemWords, ln_M_itemUses, ln_M_keptAt, ln_M_keptEnd, ln_M_needCount, ln_M_axisCount, ln_M_valueCount, ln_M_needed, ln_M_axes, ln_M_values, ln_M_includes, ln_M_excludes, ln_M_pairCount, ln_M_pairName, ln_M_pairValue, ln_M_signCount, ln_M_signs, ln_M_signName, ln_M_signValue, ln_M_whose, ln_M_which, ln_M_pile, ln_M_reaches, ln_M_stepsOf, ln_M_known, ln_JB_needed, ln_JB_axes, ln_JS_used, ln_JS_stepWords, ln_PS_used, ln_PS_stepWords, ln_IN_rows, ln_EC_rows, ln_IR_names, ln_IR_values, ln_ER_names, ln_ER_values, ln_CD_kinds, ln_CD_names, ln_CD_values, ln_AX_values] <;> omega) | assumption) (fun c => (by simp (disch := omega) only [z_0, z_1, z_2, z_3, z_4, z_5, z_6, z_7, z_8, z_9, z_10, z_12, z_13, z_20, z_21, z_25, z_56, z_350, z_31, z_32, z_36, z_48, z_57, z_61, z_97, z_100, z_122, z_125, z_126, z_144, z_255, z_700, z_1000, z_1548, nI_add, pk_mul, pk_sub, nI_clamp, nI_leI, nI_ltI, nI_eq, z_in, z_m1, z_m1b, lg_cmp_eq, z_cmp, Decidable.not_not, w_ie, w_in, w_il, w_le, w_ln, w_li, w_ir, w_lr, a1] at c; exfalso; omega)) (fun _ => kb_87_50 (by first | with_reducible assumption | with_reducible exact kd_M | assumption) (by first | with_reducible assumption | exact rf_M_needed H | assumption) (by first | with_reducible assumption | with_reducible exact kd_M_needed | assumption) (by first | with_reducible assumption | (simp (disch := omega) only [z_0, z_1, z_2, z_3, z_4, z_5, z_6, z_7, z_8, z_9, z_10, z_12, z_13, z_20, z_21, z_25, z_56, z_350, z_31, z_32, z_36, z_48, z_57, z_61, z_97, z_100, z_122, z_125, z_126, z_144, z_255, z_700, z_1000, z_1548, nI_add, pk_mul, pk_sub, nI_clamp, nI_leI, nI_ltI, nI_eq, z_in, z_m1, z_m1b, lg_cmp_eq, z_cmp, Decidable.not_not, w_ie, w_in, w_il, w_le, w_ln, w_li, w_ir, w_lr, ln_P_tape, ln_W_text, ln_W_starts, ln_W_ends, ln_W_lines, ln_W_names, ln_W_values, ln_PL_jobs, ln_PL_parts, ln_FT_reached, ln_EX_jobs, ln_EX_codes, ln_CB_names, ln_CB_values, ln_M_tape, ln_M_source, ln_M_wordAt, ln_M_wordEnd, ln_M_names, ln_M_itemCount, ln_M_itemFirst, ln_M_itemWords, ln_M_itemUses, ln_M_keptAt, ln_M_keptEnd, ln_M_needCount, ln_M_axisCount, ln_M_valueCount, ln_M_needed, ln_M_axes, ln_M_values, ln_M_includes, ln_M_excludes, ln_M_pairCount, ln_M_pairName, ln_M_pairValue, ln_M_signCount, ln_M_signs, ln_M_signName, ln_M_signValue, ln_M_whose, ln_M_which, ln_M_pile, ln_M_reaches, ln_M_stepsOf, ln_M_known, ln_JB_needed, ln_JB_axes, ln_JS_used, ln_JS_stepWords, ln_PS_used, ln_PS_stepWords, ln_IN_rows, ln_EC_rows, ln_IR_names, ln_IR_values, ln_ER_names, ln_ER_values, ln_CD_kinds, ln_CD_names, ln_CD_values, ln_AX_values] <;> omega) | assumption) (by omega) ?_)
      have e6 : (6 : Int32) * nI j + nI k = nI (6 * j + k) := by rw [show (6 : Int32) = nI 6 from rfl, pk_mul, nI_add]
      rw [e6, nI_clamp (by omega), a3 k (by omega)]
      have nj := hn _ (getD_mem (x := 0) (show k < (P.jr j).1.length by omega))
      refine s36P H hP ?_
      rcases jN_of (P := P) (y := (P.jr j).1.getD k 0) with v | ⟨q, q1, q2⟩
      · exact absurd v nj
      · rw [q2]
        have cq : (jN P ((P.jr j).1.getD k 0)).toNatClampNeg = q := nI_cl q2 (by omega)
        have e2 : (2 : Int32) * nI q = nI (2 * q) := pk_mul 2 q
        have b1 := bt_ext1 (z := (out >>> (nI (2 * q) &&& 31)))
        rw [bt_s0 (by omega)] at b1
        refine kb_87_68 (fun c => kb_87_77 ?_) (fun c => kb_87_75 ?_)
        · rw [nI_1]
          refine ih (k + 1) (by omega) (fun i hi => ?_)
          rcases Nat.lt_or_ge i k with r | r
          · exact g i r
          · have : i = k := by omega
            rw [this, cq]
            rw [e2, b1.1, Bool.not_eq_false] at c
            exact c
        · rw [Decidable.not_not, e2, b1.1] at c
          have : oW P out (P.jr j).1 = false := all_f (x := 0) (i := k) (by omega) (by rw [cq]; exact c)
          rw [this] at kk
          exact kk
  exact kb_87_36 (loop (P.jr j).1.length 0 (by omega) (fun q hq => absurd hq (Nat.not_lt_zero q)))
end
theorem mj_op12 (x out : Int32) : mj_Op mj_J mj_KK 573 12 87 [.int x, .int out] := by
  refine mj_op_of (fun h hJ => ?_)
  obtain ⟨H, b, t, P, X, L, W, kept, XE, r, e⟩ := id hJ
  obtain ⟨r1, r2, r3, r4, r5, r6, r7, r8, r9, r10⟩ := r
  have n12 := r4.1
  have lx := e.1.2.1
  show mr_M mj_KK 60 12 0 [some (.ref 0), some (.int x), some (.int out), none, none] [] h _
  refine kb_12_0 (by first | with_reducible assumption | with_reducible exact kd_P | assumption) (by first | with_reducible assumption | exact rf_P_expansion H | assumption) (by first | with_reducible assumption | with_reducible exact kd_EX | assumption) (by omega) (s103 e.1.1 ?_)
  rcases in_cases (x := x) (N := XE.length) (by omega) with q | ⟨i, hi, rfl⟩
  · rw [q]
    refine kb_12_8 (fun c => absurd rfl c) (fun _ => kb_12_11 ⟨_, rfl, ?_⟩)
    show mr_M mj_KK 60 87 0 [some (.ref 573), some (.int x), some (.int out), none, none] [] h _
    refine kb_87_0 (by first | with_reducible assumption | with_reducible exact kd_M | assumption) (by omega) (s23 ?_)
    rw [e.2.1.1, q]
    exact kb_87_8 (fun c => absurd rfl c) (fun _ => kb_87_11 ⟨rfl, hJ⟩)
  · rw [in_yes hi (by omega)]
    obtain ⟨f0, ho⟩ := JE_at e hi
    have eC := XC_en e.1 hi
    have eM := XM_en e.2.1 hi
    have m34 := e.2.1.1
    generalize XE.getD i (0, 0, 0) = en at ho eC eM
    have hV := r4.2.2.2.2.2 en.1
    have hj := ho.1
    have hj12 : en.1 < 12 := by omega
    have cl : (nI i).toNatClampNeg = i := nI_clamp (by omega)
    have cj : (nI en.1).toNatClampNeg = en.1 := nI_clamp (by omega)
    have nf := f1_no (fi_all (by omega) (fc_0 f0).1 en.1 hj) hV
    obtain ⟨c1, c2, c3, c4, c5⟩ := hV.2.2.2.1
    have cd := (r5.2.2.2.2.1 en.1 hj).2.2.2.2.2
    have sg := (r6.2.2.2.2 en.1 hj12).2.2.2.2
    have a3 := cd.1
    have a4 := sg.1
    have mhead : ∀ (h1 : mj_H) (Q : Option Value → mj_H → Prop), fr (inP 570) h h1 → ((P.jr en.1).2.2.2.2.1 = [] → mr_M mj_KK 60 87 36 [some (.ref 573), none, some (.int out), some (.int (nI en.1)), none] [] h1 Q) → (¬ (P.jr en.1).2.2.2.2.1 = [] → mr_M mj_KK 60 87 29 [some (.ref 573), some (.int (nI i)), some (.int out), none, none] [] h1 Q) → mr_C mj_KK 60 87 (.ref 573 :: [.int (nI i), .int out]) h1 Q := by
      intro h1 Q f1 k1 k2
      have H := f1.rs H
      have m34 := (f1.n (a := 573) (i := 34) (by unfold inP; omega)).trans m34
      have E12 := (EnM_P eM f1).2.1
      have a4 := (f1.n (a := 596) (i := en.1) (by unfold inP; omega)).trans a4
      show mr_M mj_KK 60 87 0 [some (.ref 573), some (.int (nI i)), some (.int out), none, none] [] h1 _
      refine kb_87_0 (by first | with_reducible assumption | with_reducible exact kd_M | assumption) (by omega) (s23 ?_)
      rw [m34, in_yes hi (by omega)]
      refine kb_87_8 (fun _ => kb_87_13 (by first | with_reducible assumption | with_reducible exact kd_M | assumption) (by first | with_reducible assumption | exact rf_M_whose H | assumption) (by first | with_reducible assumption | with_reducible exact kd_M_whose | assumption) (by first | with_reducible assumption | (simp (disch := omega) only [z_0, z_1, z_2, z_3, z_4, z_5, z_6, z_7, z_8, z_9, z_10, z_12, z_13, z_20, z_21, z_25, z_56, z_350, z_31, z_32, z_36, z_48, z_57, z_61, z_97, z_100, z_122, z_125, z_126, z_144, z_255, z_700, z_1000, z_1548, nI_add, pk_mul, pk_sub, nI_clamp, nI_leI, nI_ltI, nI_eq, z_in, z_m1, z_m1b, lg_cmp_eq, z_cmp, Decidable.not_not, w_ie, w_in, w_il, w_le, w_ln, w_li, w_ir, w_lr, cl, E12, ln_P_tape, ln_W_text, ln_W_starts, ln_W_ends, ln_W_lines, ln_W_names, ln_W_values, ln_PL_jobs, ln_PL_parts, ln_FT_reached, ln_EX_jobs, ln_EX_codes, ln_CB_names, ln_CB_values, ln_M_tape, ln_M_source, ln_M_wordAt, ln_M_wordEnd, ln_M_names, ln_M_itemCount, ln_M_itemFirst, ln_M_itemWords, ln_M_itemUses, ln_M_keptAt, ln_M_keptEnd, ln_M_needCount, ln_M_axisCount, ln_M_valueCount, ln_M_needed, ln_M_axes, ln_M_values, ln_M_includes, ln_M_excludes, ln_M_pairCount, ln_M_pairName, ln_M_pairValue, ln_M_signCount, ln_M_signs, ln_M_signName, ln_M_signValue, ln_M_whose, ln_M_which, ln_M_pile, ln_M_reaches, ln_M_stepsOf, ln_M_known, ln_JB_needed, ln_JB_axes, ln_JS_used, ln_JS_stepWords, ln_PS_used, ln_PS_stepWords, ln_IN_rows, ln_EC_rows, ln_IR_names, ln_IR_values, ln_ER_names, ln_ER_values, ln_CD_kinds, ln_CD_names, ln_CD_values, ln_AX_values] <;> omega) | assumption) (by first | with_reducible assumption | exact rf_M_signCount H | assumption) (by first | with_reducible assumption | with_reducible exact kd_M_signCount | assumption) (by first | with_reducible assumption | (simp (disch := omega) only [z_0, z_1, z_2, z_3, z_4, z_5, z_6, z_7, z_8, z_9, z_10, z_12, z_13, z_20, z_21, z_25, z_56, z_350, z_31, z_32, z_36, z_48, z_57, z_61, z_97, z_100, z_122, z_125, z_126, z_144, z_255, z_700, z_1000, z_1548, nI_add, pk_mul, pk_sub, nI_clamp, nI_leI, nI_ltI, nI_eq, z_in, z_m1, z_m1b, lg_cmp_eq, z_cmp, Decidable.not_not, w_ie, w_in, w_il, w_le, w_ln, w_li, w_ir, w_lr, cl, E12, ln_P_tape, ln_W_text, ln_W_starts, ln_W_ends, ln_W_lines, ln_W_names, ln_W_values, ln_PL_jobs, ln_PL_parts, ln_FT_reached, ln_EX_jobs, ln_EX_codes, ln_CB_names, ln_CB_values, ln_M_tape, ln_M_source, ln_M_wordAt, ln_M_wordEnd, ln_M_names, ln_M_itemCount, ln_M_itemFirst, ln_M_itemWords, ln_M_itemUses, ln_M_keptAt, ln_M_keptEnd, ln_M_needCount, ln_M_axisCount, ln_M_valueCount, ln_M_needed, ln_M_axes, ln_M_values, ln_M_includes, ln_M_excludes, ln_M_pairCount, ln_M_pairName, ln_M_pairValue, ln_M_signCount, ln_M_signs, ln_M_signName, ln_M_signValue, ln_M_whose, ln_M_which, ln_M_pile, ln_M_reaches, ln_M_stepsOf, ln_M_known, ln_JB_needed, ln_JB_axes, ln_JS_used, ln_JS_stepWords, ln_PS_used, ln_PS_stepWords, ln_IN_rows, ln_EC_rows, ln_IR_names, ln_IR_values, ln_ER_names, ln_ER_values, ln_CD_kinds, ln_CD_names, ln_CD_values, ln_AX_values] <;> omega) | assumption) (fun c => ?_) (fun c => ?_)) (fun c => absurd b2i_n0 c)
      · rw [cl, E12, cj, a4] at c
        rw [cl, E12]
        simp (disch := omega) only [z_0, z_1, z_2, z_3, z_4, z_5, z_6, z_7, z_8, z_9, z_10, z_12, z_13, z_20, z_21, z_25, z_56, z_350, z_31, z_32, z_36, z_48, z_57, z_61, z_97, z_100, z_122, z_125, z_126, z_144, z_255, z_700, z_1000, z_1548, nI_add, pk_mul, pk_sub, nI_clamp, nI_leI, nI_ltI, nI_eq, z_in, z_m1, z_m1b, lg_cmp_eq, z_cmp, Decidable.not_not, w_ie, w_in, w_il, w_le, w_ln, w_li, w_ir, w_lr] at c
        exact k1 (List.eq_nil_of_length_eq_zero (by omega))
      · rw [cl, E12, cj, a4] at c
        simp (disch := omega) only [z_0, z_1, z_2, z_3, z_4, z_5, z_6, z_7, z_8, z_9, z_10, z_12, z_13, z_20, z_21, z_25, z_56, z_350, z_31, z_32, z_36, z_48, z_57, z_61, z_97, z_100, z_122, z_125, z_126, z_144, z_255, z_700, z_1000, z_1548, nI_add, pk_mul, pk_sub, nI_clamp, nI_leI, nI_ltI, nI_eq, z_in, z_m1, z_m1b, lg_cmp_eq, z_cmp, Decidable.not_not, w_ie, w_in, w_il, w_le, w_ln, w_li, w_ir, w_lr] at c
        exact k2 (fun q => by rw [q] at c; exact c (Nat.le_refl 0))
    refine kb_12_8 (fun _ => kb_12_13 (by first | with_reducible assumption | with_reducible exact kd_P | assumption) (by omega) (s13 H eC hj12 ?_)) (fun c => absurd b2i_n0 c)
    refine kb_12_18 (by first | with_reducible assumption | with_reducible exact kd_JB _ (by omega) | assumption) (by first | with_reducible assumption | exact rf_JB_condition H (by omega) | assumption) (by first | with_reducible assumption | with_reducible exact kd_CD _ (by omega) | assumption) (fun c => ?_) (fun c => ?_)
    · simp (disch := omega) only [z_0, z_1, z_2, z_3, z_4, z_5, z_6, z_7, z_8, z_9, z_10, z_12, z_13, z_20, z_21, z_25, z_56, z_350, z_31, z_32, z_36, z_48, z_57, z_61, z_97, z_100, z_122, z_125, z_126, z_144, z_255, z_700, z_1000, z_1548, nI_add, pk_mul, pk_sub, nI_clamp, nI_leI, nI_ltI, nI_eq, z_in, z_m1, z_m1b, lg_cmp_eq, z_cmp, Decidable.not_not, w_ie, w_in, w_il, w_le, w_ln, w_li, w_ir, w_lr, a3] at c
      have p0 : (P.jr en.1).2.2.2.2.2 = [] := List.eq_nil_of_length_eq_zero (by omega)
      have t0 := c3.mpr p0
      exact s12l (by decide) H r5 hj nf.1 ⟨_, rfl, mhead h _ fr.rfl' (fun _ => s87l (by decide) H r6 hj nf.1 ⟨rfl, hJ⟩) (fun q => absurd t0 q)⟩
    · simp (disch := omega) only [z_0, z_1, z_2, z_3, z_4, z_5, z_6, z_7, z_8, z_9, z_10, z_12, z_13, z_20, z_21, z_25, z_56, z_350, z_31, z_32, z_36, z_48, z_57, z_61, z_97, z_100, z_122, z_125, z_126, z_144, z_255, z_700, z_1000, z_1548, nI_add, pk_mul, pk_sub, nI_clamp, nI_leI, nI_ltI, nI_eq, z_in, z_m1, z_m1b, lg_cmp_eq, z_cmp, Decidable.not_not, w_ie, w_in, w_il, w_le, w_ln, w_li, w_ir, w_lr, a3] at c
      have p0 : ¬ (P.jr en.1).2.2.2.2.1 = [] := fun q => by rw [c3.mp q] at c; exact c (Nat.le_refl 0)
      obtain ⟨v, v1, v2⟩ := c5 p0 (tQ P (cmb P en) (h.2.1 0 2) out)
      refine kb_12_29 (by first | with_reducible assumption | with_reducible exact kd_JB _ (by omega) | assumption) (by first | with_reducible assumption | exact rf_JB_condition H (by omega) | assumption) (by first | with_reducible assumption | with_reducible exact kd_P | assumption) (by first | with_reducible assumption | exact rf_P_plan H | assumption) (by omega) (s14 (by decide) H r5 eC ho hV (fun h1 g1 f1 => ?_))
      have H := f1.rs H
      have br1 : h1.2.1 0 2 = h.2.1 0 2 := f1.l (by unfold inP; omega)
      have br2 : h1.2.1 573 4 = h.2.1 0 2 := (f1.l (by unfold inP; omega)).trans b
      have P1 := PlC_P r5 f1
      have M1 := PlM_P r6 f1
      have J1 := J_keep hJ (f1.mono (fun a i q => inP_Q q))
      have sg1 := (M1.2.2.2.2 en.1 hj12).2.2.2.2
      refine kb_12_42 kd_P (kd_CD _ hj12) (by decide) ?_
      rw [br1]
      refine s99 (by decide) H P1 hj12 (P1.2.2.2.2.1 en.1 hj).2.2.2.2.2 g1 hV.2.2.2.2.1 nf.2.2 v1 (kb_12_50 (b2i_01 v) ⟨_, rfl, ?_⟩)
      refine mhead h1 _ f1 (fun q => absurd q p0) (fun _ => kb_87_29 (by first | with_reducible assumption | with_reducible exact kd_M | assumption) (by omega) (s86 (by decide) H M1 (EnM_P eM f1) ho hV br2 sg1 hV.2.2.2.2.2 nf.2.1 v2 (fun h2 g2 => kb_87_35 (b2i_01 v) ⟨rfl, J_keep J1 (g2.mono (fun a i q => by unfold inMe at q; unfold inQ; omega))⟩)))
