-- ===== expanded, pair =====
section
variable {d i : Nat} {h : mj_H} {Q : Option Value → mj_H → Prop} {P : mj_P} {XE : List En} {e : En}
theorem JE_at (A : JE h P XE) (hi : i < XE.length) : (fc P).1 = 0 ∧ enOK P (XE.getD i (0, 0, 0)) := by
  rcases A.2.2 with q | ⟨q1, q2⟩
  · rw [q] at hi
    exact absurd hi (Nat.not_lt_zero i)
  · refine ⟨q2, exA_mem (Nat.le_refl _) (?_ : _ ∈ exA P P.nj)⟩
    rw [← q1]
    exact getD_mem hi
/-- an expanded one in the class -/
def EnC (h : mj_H) (P : mj_P) (i : Nat) (e : En) : Prop := i < 1548 ∧ h.1 568 i = nI e.1 ∧ h.1 569 i = nI (cEn P e)
theorem XC_en (hX : XC h P XE) (hi : i < XE.length) : EnC h P i (XE.getD i (0, 0, 0)) := ⟨by have := hX.2.1; omega, (hX.2.2 i hi).1, (hX.2.2 i hi).2⟩
/-- jobOf -/
theorem s13 (H : mj_RS h) (hE : EnC h P i e) (he : e.1 < 12) (kk : Q (some (.ref (12 + 44 * e.1))) h) : mr_C mj_KK d 13 [.ref 0, .int (nI i)] h Q := by
  show mr_M mj_KK d 13 0 [some (.ref 0), some (.int (nI i))] [] h Q
  obtain ⟨i5, e1, e2⟩ := hE
  have cl : (nI i).toNatClampNeg = i := nI_clamp (by omega)
  have cj : (nI e.1).toNatClampNeg = e.1 := nI_clamp (by omega)
  refine kb_13_0 kd_P (rf_P_plan H) kd_PL (rf_PL_jobs H) (rf_P_expansion H) kd_EX (rf_EX_jobs H) kd_EX_jobs (by rw [ln_EX_jobs]; exact mj_inI (by omega) (by omega)) kd_PL_jobs (by rw [cl, e1, ln_PL_jobs]; exact mj_inI (by omega) (by omega)) (by rw [cl, e1, cj]; exact rf_jobs H he) kk
/-- pairsOf -/
theorem s14 (hd : 4 ≤ d) (H : mj_RS h) (hP : PlC h P) (hE : EnC h P i e) (ho : enOK P e) (hV : JV (P.jr e.1)) (kk : ∀ h', PrC h' 570 (cmb P e) → fr (inP 570) h h' → Q (some (.ref 570)) h') : mr_C mj_KK d 14 [.ref 0, .int (nI i)] h Q := by
  show mr_M mj_KK d 14 0 [some (.ref 0), some (.int (nI i))] [] h Q
  have hj12 : e.1 < 12 := by have := hP.2.1; have := ho.1; omega
  refine kb_14_0 (by first | with_reducible assumption | with_reducible exact kd_P | assumption) (by omega) (s13 H hE hj12 ?_)
  obtain ⟨i5, e1, e2⟩ := hE
  have cl : (nI i).toNatClampNeg = i := nI_clamp (by omega)
  refine kb_14_5 (by first | with_reducible assumption | with_reducible exact kd_P | assumption) (by first | with_reducible assumption | exact rf_P_expansion H | assumption) (by first | with_reducible assumption | with_reducible exact kd_EX | assumption) (by first | with_reducible assumption | exact rf_EX_codes H | assumption) (by first | with_reducible assumption | with_reducible exact kd_EX_codes | assumption) (by first | with_reducible assumption | (simp (disch := omega) only [z_0, z_1, z_2, z_3, z_4, z_5, z_6, z_7, z_8, z_9, z_10, z_12, z_13, z_20, z_21, z_25, z_56, z_350, z_31, z_32, z_36, z_48, z_57, z_61, z_97, z_100, z_122, z_125, z_126, z_144, z_255, z_700, z_1000, z_1548, nI_add, pk_mul, pk_sub, nI_clamp, nI_leI, nI_ltI, nI_eq, z_in, z_m1, z_m1b, lg_cmp_eq, z_cmp, Decidable.not_not, w_ie, w_in, w_il, w_le, w_ln, w_li, w_ir, w_lr, ln_P_tape, ln_W_text, ln_W_starts, ln_W_ends, ln_W_lines, ln_W_names, ln_W_values, ln_PL_jobs, ln_PL_parts, ln_FT_reached, ln_EX_jobs, ln_EX_codes, ln_CB_names, ln_CB_values, ln_M_tape, ln_M_source, ln_M_wordAt, ln_M_wordEnd, ln_M_names, ln_M_itemCount, ln_M_itemFirst, ln_M_itemWords, ln_M_itemUses, ln_M_keptAt, ln_M_keptEnd, ln_M_needCount, ln_M_axisCount, ln_M_valueCount, ln_M_needed, ln_M_axes, ln_M_values, ln_M_includes, ln_M_excludes, ln_M_pairCount, ln_M_pairName, ln_M_pairValue, ln_M_signCount, ln_M_signs, ln_M_signName, ln_M_signValue, ln_M_whose, ln_M_which, ln_M_pile, ln_M_reaches, ln_M_stepsOf, ln_M_known, ln_JB_needed, ln_JB_axes, ln_JS_used, ln_JS_stepWords, ln_PS_used, ln_PS_stepWords, ln_IN_rows, ln_EC_rows, ln_IR_names, ln_IR_values, ln_ER_names, ln_ER_values, ln_CD_kinds, ln_CD_names, ln_CD_values, ln_AX_values] <;> omega) | assumption) (by first | with_reducible assumption | exact rf_EX_combination H | assumption) (by first | with_reducible assumption | with_reducible exact kd_JB _ (by omega) | assumption) (by omega) ?_
  rw [cl, e2]
  have fin : ∀ h', PrC h' 570 (cmb P e) → fr (inP 570) h h' → mr_M mj_KK d 14 24 [some (.ref 0), none] [] h' Q := by
    intro h' g1 g2
    have H := g2.rs H
    exact kb_14_24 (by first | with_reducible assumption | with_reducible exact kd_P | assumption) (by first | with_reducible assumption | exact rf_P_expansion H | assumption) (by first | with_reducible assumption | with_reducible exact kd_EX | assumption) (by first | with_reducible assumption | exact rf_EX_combination H | assumption) (kk h' g1 g2)
  rcases ho.2 with ⟨q1, q2⟩ | ⟨q1, q2⟩
  · have ec : cEn P e = cC (P.jr e.1).2.1 e.2.2 := if_pos q1
    rw [ec]
    refine s126a (by omega) H hP ho.1 hV.1 q2 (fun h' g1 g2 => fin h' ?_ g2)
    rw [cmb0 q1]
    exact g1
  · have ec : cEn P e = 125 + e.2.2 := if_neg (by omega)
    rw [ec]
    refine s126i (by omega) H hP ho.1 q2 (fun h' g1 g2 => fin h' ?_ g2)
    rw [cmb1 q1]
    exact g1
end
/-- what expanded answers -/
def eW (P : mj_P) (e : En) (x : Int32) : Int32 := if x = nI 0 then nI e.1 else if x = nI 1 then nI (cmb P e).length else if x = nI 2 then nI (totI P (σF P) (P.sc e.1).2) else -1
theorem eW_d {P : mj_P} {e : En} {x : Int32} (c : x.toInt < 0 ∨ 2 < x.toInt) : eW P e x = -1 := by
  have n : ∀ k, k < 3 → ¬ x = nI k := by
    intro k hk e
    subst e
    rw [nI_toInt (by omega)] at c
    omega
  unfold eW
  rw [if_neg (n 0 (by decide)), if_neg (n 1 (by decide)), if_neg (n 2 (by decide))]
theorem inP_Q {a i : Nat} (h : inP 570 a i) : inQ a i := by
  unfold inP at h
  unfold inQ
  omega
theorem EnC_P {h h' : mj_H} {P : mj_P} {i : Nat} {e : En} (A : EnC h P i e) (f : fr (inP 570) h h') : EnC h' P i e := ⟨A.1, (f.n (by unfold inP; omega)).trans A.2.1, (f.n (by unfold inP; omega)).trans A.2.2⟩
theorem EnM_P {h h' : mj_H} {i : Nat} {e : En} (A : EnM h i e) (f : fr (inP 570) h h') : EnM h' i e := ⟨A.1, (f.n (by unfold inP; omega)).trans A.2.1, (f.n (by unfold inP; omega)).trans A.2.2⟩
theorem PlM_P {h h' : mj_H} {P : mj_P} {W : List Wt} {kept : Nat} (A : PlM h W kept P) (f : fr (inP 570) h h') : PlM h' W kept P := PlM_fr A f (fun a i q => by unfold inP; omega)
theorem mj_op9 (x y : Int32) : mj_Op mj_J mj_KK 573 9 80 [.int x, .int y] := by
  refine mj_op_of (fun h hJ => ?_)
  obtain ⟨H, b, t, P, X, L, W, kept, XE, r, e⟩ := id hJ
  obtain ⟨r1, r2, r3, r4, r5, r6, r7, r8, r9, r10⟩ := r
  have n12 := r4.1
  have lx := e.1.2.1
  show mr_M mj_KK 60 9 0 [some (.ref 0), some (.int x), some (.int y)] [] h _
  refine kb_9_0 (by first | with_reducible assumption | with_reducible exact kd_P | assumption) (by first | with_reducible assumption | exact rf_P_expansion H | assumption) (by first | with_reducible assumption | with_reducible exact kd_EX | assumption) (by omega) (s103 e.1.1 ?_)
  rcases in_cases (x := x) (N := XE.length) (by omega) with q | ⟨i, hi, rfl⟩
  · rw [q]
    refine kb_9_8 (fun c => absurd rfl c) (fun _ => kb_9_11 ⟨_, rfl, ?_⟩)
    show mr_M mj_KK 60 80 0 [some (.ref 573), some (.int x), some (.int y)] [] h _
    refine kb_80_0 (by first | with_reducible assumption | with_reducible exact kd_M | assumption) (by omega) (s23 ?_)
    rw [e.2.1.1, q]
    exact kb_80_8 (fun c => absurd rfl c) (fun _ => kb_80_11 ⟨rfl, hJ⟩)
  · rw [in_yes hi (by omega)]
    obtain ⟨f0, ho⟩ := JE_at e hi
    have eC := XC_en e.1 hi
    have eM := XM_en e.2.1 hi
    have m34 := e.2.1.1
    generalize XE.getD i (0, 0, 0) = en at ho eC eM
    have hV := r4.2.2.2.2.2 en.1
    have hj12 : en.1 < 12 := by have := ho.1; omega
    have cl : (nI i).toNatClampNeg = i := nI_clamp (by omega)
    have mrun : ∀ h1, fr (inP 570) h h1 → mr_C mj_KK 60 80 (.ref 573 :: [.int (nI i), .int y]) h1 (fun v2 h2 => v2 = some (.int (eW P en y)) ∧ mj_J h2) := by
      intro h1 f1
      have H := f1.rs H
      have M1 := PlM_P r6 f1
      have E1 := EnM_P eM f1
      have J1 := J_keep hJ (f1.mono (fun a i q => inP_Q q))
      have m34 := (f1.n (a := 573) (i := 34) (by unfold inP; omega)).trans m34
      have E12 := E1.2.1
      show mr_M mj_KK 60 80 0 [some (.ref 573), some (.int (nI i)), some (.int y)] [] h1 _
      refine kb_80_0 (by first | with_reducible assumption | with_reducible exact kd_M | assumption) (by omega) (s23 ?_)
      rw [m34, in_yes hi (by omega)]
      refine kb_80_8 (fun _ => kb_80_13 (fun c => kb_80_64 ⟨?_, J1⟩) (fun c => kb_80_40 (by first | with_reducible assumption | with_reducible exact kd_M | assumption) (by first | with_reducible assumption | exact rf_M_whose H | assumption) (by first | with_reducible assumption | with_reducible exact kd_M_whose | assumption) (by first | with_reducible assumption | (simp (disch := omega) only [z_0, z_1, z_2, z_3, z_4, z_5, z_6, z_7, z_8, z_9, z_10, z_12, z_13, z_20, z_21, z_25, z_56, z_350, z_31, z_32, z_36, z_48, z_57, z_61, z_97, z_100, z_122, z_125, z_126, z_144, z_255, z_700, z_1000, z_1548, nI_add, pk_mul, pk_sub, nI_clamp, nI_leI, nI_ltI, nI_eq, z_in, z_m1, z_m1b, lg_cmp_eq, z_cmp, Decidable.not_not, w_ie, w_in, w_il, w_le, w_ln, w_li, w_ir, w_lr, ln_P_tape, ln_W_text, ln_W_starts, ln_W_ends, ln_W_lines, ln_W_names, ln_W_values, ln_PL_jobs, ln_PL_parts, ln_FT_reached, ln_EX_jobs, ln_EX_codes, ln_CB_names, ln_CB_values, ln_M_tape, ln_M_source, ln_M_wordAt, ln_M_wordEnd, ln_M_names, ln_M_itemCount, ln_M_itemFirst, ln_M_itemWords, ln_M_itemUses, ln_M_keptAt, ln_M_keptEnd, ln_M_needCount, ln_M_axisCount, ln_M_valueCount, ln_M_needed, ln_M_axes, ln_M_values, ln_M_includes, ln_M_excludes, ln_M_pairCount, ln_M_pairName, ln_M_pairValue, ln_M_signCount, ln_M_signs, ln_M_signName, ln_M_signValue, ln_M_whose, ln_M_which, ln_M_pile, ln_M_reaches, ln_M_stepsOf, ln_M_known, ln_JB_needed, ln_JB_axes, ln_JS_used, ln_JS_stepWords, ln_PS_used, ln_PS_stepWords, ln_IN_rows, ln_EC_rows, ln_IR_names, ln_IR_values, ln_ER_names, ln_ER_values, ln_CD_kinds, ln_CD_names, ln_CD_values, ln_AX_values] <;> omega) | assumption) ⟨?_, J1⟩) (fun c => kb_80_47 (by first | with_reducible assumption | with_reducible exact kd_M | assumption) (by omega) (s76 H M1 E1 ho hV (kb_80_52 ⟨?_, J1⟩))) (fun c => kb_80_53 (by first | with_reducible assumption | with_reducible exact kd_M | assumption) (by first | with_reducible assumption | exact rf_M_whose H | assumption) (by first | with_reducible assumption | with_reducible exact kd_M_whose | assumption) (by first | with_reducible assumption | (simp (disch := omega) only [z_0, z_1, z_2, z_3, z_4, z_5, z_6, z_7, z_8, z_9, z_10, z_12, z_13, z_20, z_21, z_25, z_56, z_350, z_31, z_32, z_36, z_48, z_57, z_61, z_97, z_100, z_122, z_125, z_126, z_144, z_255, z_700, z_1000, z_1548, nI_add, pk_mul, pk_sub, nI_clamp, nI_leI, nI_ltI, nI_eq, z_in, z_m1, z_m1b, lg_cmp_eq, z_cmp, Decidable.not_not, w_ie, w_in, w_il, w_le, w_ln, w_li, w_ir, w_lr, ln_P_tape, ln_W_text, ln_W_starts, ln_W_ends, ln_W_lines, ln_W_names, ln_W_values, ln_PL_jobs, ln_PL_parts, ln_FT_reached, ln_EX_jobs, ln_EX_codes, ln_CB_names, ln_CB_values, ln_M_tape, ln_M_source, ln_M_wordAt, ln_M_wordEnd, ln_M_names, ln_M_itemCount, ln_M_itemFirst, ln_M_itemWords, ln_M_itemUses, ln_M_keptAt, ln_M_keptEnd, ln_M_needCount, ln_M_axisCount, ln_M_valueCount, ln_M_needed, ln_M_axes, ln_M_values, ln_M_includes, ln_M_excludes, ln_M_pairCount, ln_M_pairName, ln_M_pairValue, ln_M_signCount, ln_M_signs, ln_M_signName, ln_M_signValue, ln_M_whose, ln_M_which, ln_M_pile, ln_M_reaches, ln_M_stepsOf, ln_M_known, ln_JB_needed, ln_JB_axes, ln_JS_used, ln_JS_stepWords, ln_PS_used, ln_PS_stepWords, ln_IN_rows, ln_EC_rows, ln_IR_names, ln_IR_values, ln_ER_names, ln_ER_values, ln_CD_kinds, ln_CD_names, ln_CD_values, ln_AX_values] <;> omega) | assumption) (by omega) ?_)) (fun c => absurd b2i_n0 c)
      · rw [eW_d c]
      · subst c
        rw [cl, E12]
        rfl
      · subst c
        rfl
      · subst c
        rw [cl, E12]
        exact s74 (by decide) H M1 ho.1 f0 (fun h2 g1 g2 => kb_80_63 ⟨rfl, J_keep J1 (g2.mono (fun a i q => by unfold inMt at q; unfold inQ; omega))⟩)
    refine kb_9_8 (fun _ => kb_9_13 (fun c => kb_9_75 ?_) (fun c => kb_9_40 (by first | with_reducible assumption | with_reducible exact kd_P | assumption) (by first | with_reducible assumption | exact rf_P_expansion H | assumption) (by first | with_reducible assumption | with_reducible exact kd_EX | assumption) (by first | with_reducible assumption | exact rf_EX_jobs H | assumption) (by first | with_reducible assumption | with_reducible exact kd_EX_jobs | assumption) (by first | with_reducible assumption | (simp (disch := omega) only [z_0, z_1, z_2, z_3, z_4, z_5, z_6, z_7, z_8, z_9, z_10, z_12, z_13, z_20, z_21, z_25, z_56, z_350, z_31, z_32, z_36, z_48, z_57, z_61, z_97, z_100, z_122, z_125, z_126, z_144, z_255, z_700, z_1000, z_1548, nI_add, pk_mul, pk_sub, nI_clamp, nI_leI, nI_ltI, nI_eq, z_in, z_m1, z_m1b, lg_cmp_eq, z_cmp, Decidable.not_not, w_ie, w_in, w_il, w_le, w_ln, w_li, w_ir, w_lr, ln_P_tape, ln_W_text, ln_W_starts, ln_W_ends, ln_W_lines, ln_W_names, ln_W_values, ln_PL_jobs, ln_PL_parts, ln_FT_reached, ln_EX_jobs, ln_EX_codes, ln_CB_names, ln_CB_values, ln_M_tape, ln_M_source, ln_M_wordAt, ln_M_wordEnd, ln_M_names, ln_M_itemCount, ln_M_itemFirst, ln_M_itemWords, ln_M_itemUses, ln_M_keptAt, ln_M_keptEnd, ln_M_needCount, ln_M_axisCount, ln_M_valueCount, ln_M_needed, ln_M_axes, ln_M_values, ln_M_includes, ln_M_excludes, ln_M_pairCount, ln_M_pairName, ln_M_pairValue, ln_M_signCount, ln_M_signs, ln_M_signName, ln_M_signValue, ln_M_whose, ln_M_which, ln_M_pile, ln_M_reaches, ln_M_stepsOf, ln_M_known, ln_JB_needed, ln_JB_axes, ln_JS_used, ln_JS_stepWords, ln_PS_used, ln_PS_stepWords, ln_IN_rows, ln_EC_rows, ln_IR_names, ln_IR_values, ln_ER_names, ln_ER_values, ln_CD_kinds, ln_CD_names, ln_CD_values, ln_AX_values] <;> omega) | assumption) ?_) (fun c => kb_9_50 (by first | with_reducible assumption | with_reducible exact kd_P | assumption) (by omega) (s14 (by decide) H r5 eC ho hV (fun h1 g1 g2 => kb_9_55 kd_CB ?_))) (fun c => kb_9_59 (by first | with_reducible assumption | with_reducible exact kd_P | assumption) (by first | with_reducible assumption | exact rf_P_plan H | assumption) (by omega) (s13 H eC hj12 (kb_9_68 (by first | with_reducible assumption | with_reducible exact kd_JB _ (by omega) | assumption) (by first | with_reducible assumption | exact rf_JB_section H (by omega) | assumption) (by first | with_reducible assumption | with_reducible exact kd_PL | assumption) (by omega) ?_)))) (fun c => absurd b2i_n0 c)
    · exact ⟨_, rfl, (eW_d (P := P) (e := en) c) ▸ mrun h fr.rfl'⟩
    · subst c
      rw [cl, eC.2.1]
      exact ⟨_, rfl, mrun h fr.rfl'⟩
    · subst c
      rw [g1.1]
      exact ⟨_, rfl, mrun h1 g2⟩
    · subst c
      have q := s145 (d := 59) (Q := fun v h' => mr_M mj_KK 60 9 74 [none, none, none] (v.toList ++ []) h' (fun v h1 => ∃ r, v = some (.int r) ∧ mr_C mj_KK 60 80 (.ref 573 :: [.int (nI i), .int (nI 2)]) h1 (fun v2 h2 => v2 = some (.int r) ∧ mj_J h2))) (by decide) H r5 (Or.inl ho.1) (r9 f0) (pf_rd (r := P.np)) (kb_9_74 ⟨_, rfl, mrun h fr.rfl'⟩)
      rw [sa_j hj12] at q
      exact q
theorem nn_of {y : Int64} (h : nn y) : ∃ m, m < 2 ^ 63 ∧ y = lN m := h
theorem pos_cases {x : Int32} (c : ¬ x < 0) : ∃ k, k < 2 ^ 31 ∧ x = nI k := by
  obtain ⟨k, e, h1, h2⟩ := mr_swN (x := x) (l2 := 0) (h2 := 2147483647) 0 2147483647 rfl rfl (by
    rw [Int32.lt_iff_toInt_lt] at c
    have e0 : (0 : Int32).toInt = 0 := by decide
    have := Int32.toInt_lt x
    omega) (by decide)
  exact ⟨k, by omega, e⟩
/-- what pair answers -/
def pW (m n k : Nat) : Int32 := if k < nl m then nI (chr m k) else if k = nl m then 61 else if k - nl m - 1 < nl n then nI (chr n (k - nl m - 1)) else -1
theorem mj_op10 (x y z : Int32) : mj_Op mj_J mj_KK 573 10 81 [.int x, .int y, .int z] := by
  refine mj_op_of (fun h hJ => ?_)
  obtain ⟨H, b, t, P, X, L, W, kept, XE, r, e⟩ := id hJ
  obtain ⟨r1, r2, r3, r4, r5, r6, r7, r8, r9, r10⟩ := r
  have n12 := r4.1
  have lx := e.1.2.1
  show mr_M mj_KK 60 10 0 [some (.ref 0), some (.int x), some (.int y), some (.int z), none, none] [] h _
  refine kb_10_0 (by first | with_reducible assumption | with_reducible exact kd_P | assumption) (by first | with_reducible assumption | exact rf_P_expansion H | assumption) (by first | with_reducible assumption | with_reducible exact kd_EX | assumption) (by omega) (s103 e.1.1 ?_)
  rcases in_cases (x := x) (N := XE.length) (by omega) with q | ⟨i, hi, rfl⟩
  · rw [q]
    refine kb_10_8 (fun c => absurd rfl c) (fun _ => kb_10_11 ⟨_, rfl, ?_⟩)
    show mr_M mj_KK 60 81 0 [some (.ref 573), some (.int x), some (.int y), some (.int z), none, none, none, none, none] [] h _
    refine kb_81_0 (by first | with_reducible assumption | with_reducible exact kd_M | assumption) (by omega) (s23 ?_)
    rw [e.2.1.1, q]
    exact kb_81_8 (fun _ => kb_81_27 ⟨rfl, hJ⟩) (fun c => absurd rfl c)
  · rw [in_yes hi (by omega)]
    obtain ⟨f0, ho⟩ := JE_at e hi
    have eC := XC_en e.1 hi
    have eM := XM_en e.2.1 hi
    have m34 := e.2.1.1
    generalize XE.getD i (0, 0, 0) = en at ho eC eM
    have hV := r4.2.2.2.2.2 en.1
    have hj12 : en.1 < 12 := by have := ho.1; omega
    have cl : (nI i).toNatClampNeg = i := nI_clamp (by omega)
    refine kb_10_8 (fun _ => kb_10_13 (by first | with_reducible assumption | with_reducible exact kd_P | assumption) (by omega) (s14 (by decide) H r5 eC ho hV (fun h1 g1 f1 => ?_))) (fun c => absurd b2i_n0 c)
    have H := f1.rs H
    have M1 := PlM_P r6 f1
    have E1 := EnM_P eM f1
    have J1 := J_keep hJ (f1.mono (fun a i q => inP_Q q))
    have m34 := (f1.n (a := 573) (i := 34) (by unfold inP; omega)).trans m34
    have l4 := g1.2.1
    have g11 := g1.1
    rcases in_cases (x := y) (N := (cmb P en).length) (by omega) with q | ⟨p, hp, rfl⟩
    · have bad : ∃ r, some (Value.int (-1)) = some (Value.int r) ∧ mr_C mj_KK 60 81 (.ref 573 :: [.int (nI i), .int y, .int z]) h1 (fun v2 h2 => v2 = some (.int r) ∧ mj_J h2) := by
        refine ⟨_, rfl, ?_⟩
        show mr_M mj_KK 60 81 0 [some (.ref 573), some (.int (nI i)), some (.int y), some (.int z), none, none, none, none, none] [] h1 _
        refine kb_81_0 (by first | with_reducible assumption | with_reducible exact kd_M | assumption) (by omega) (s23 ?_)
        rw [m34, in_yes hi (by omega)]
        refine kb_81_8 (fun c => absurd c b2i_n0) (fun _ => kb_81_11 (by first | with_reducible assumption | with_reducible exact kd_M | assumption) (by omega) (s76 H M1 E1 ho hV (kb_81_17 (by decide) (s23 ?_))))
        rw [q]
        exact kb_81_20 (fun _ => kb_81_27 ⟨rfl, J1⟩) (fun c => absurd rfl c)
      refine kb_10_18 (fun _ => kb_10_33 bad) (fun c => kb_10_24 kd_CB (fun c2 => ?_) (fun _ => kb_10_33 bad))
      rw [g11] at c2
      exact absurd (decide_eq_true (show 0 ≤ y ∧ y < nI (cmb P en).length from ⟨i_nle c, c2⟩)) (by rw [q]; decide)
    · have clp : (nI p).toNatClampNeg = p := nI_clamp (by omega)
      obtain ⟨v1, v2⟩ := g1.2.2 p hp
      obtain ⟨w1, w2⟩ := cmb_nn hV ho _ (getD_mem (x := (0, 0)) hp)
      obtain ⟨m, hm, em⟩ := nn_of w1
      obtain ⟨n, hn, en2⟩ := nn_of w2
      rw [em] at v1
      rw [en2] at v2
      have n8 : nl m ≤ 8 := nlF_le
      have n8b : nl n ≤ 8 := nlF_le
      have bp : mj_in (nI p) 4 = true := mj_inI (by omega) (by omega)
      have mrun : ∀ (Q : Option Value → mj_H → Prop), (z < 0 → Q (some (.int (-1))) h1) → (∀ k, k < 2 ^ 31 → z = nI k → Q (some (.int (pW m n k))) h1) → mr_C mj_KK 60 81 (.ref 573 :: [.int (nI i), .int (nI p), .int z]) h1 Q := by
        intro Q k1 k2
        show mr_M mj_KK 60 81 0 [some (.ref 573), some (.int (nI i)), some (.int (nI p)), some (.int z), none, none, none, none, none] [] h1 _
        refine kb_81_0 (by first | with_reducible assumption | with_reducible exact kd_M | assumption) (by omega) (s23 ?_)
        rw [m34, in_yes hi (by omega)]
        refine kb_81_8 (fun c => absurd c b2i_n0) (fun _ => kb_81_11 (by first | with_reducible assumption | with_reducible exact kd_M | assumption) (by omega) (s76 H M1 E1 ho hV (kb_81_17 (by decide) (s23 ?_))))
        rw [in_yes hp (by omega)]
        refine kb_81_20 (fun c => absurd c b2i_n0) (fun _ => kb_81_23 (fun c => ?_) (fun c => kb_81_27 (k1 (i_lt c))))
        obtain ⟨k, hk, rfl⟩ := pos_cases (fun q => i_nlt q c)
        have k2 := k2 k hk rfl
        unfold pW at k2
        refine kb_81_29 (by first | with_reducible assumption | with_reducible exact kd_M | assumption) (by omega) (s77 H M1 E1 ho hV hp (kb_81_35 (by first | with_reducible assumption | with_reducible exact kd_M | assumption) (by omega) (s78 (by decide) H M1 E1 ho hV hp ?_)))
        rw [em, en2]
        refine kb_81_43 (by decide) (s28 hm (kb_81_50 (fun c2 => ?_) (fun c2 => ?_)))
        · simp (disch := omega) only [z_0, z_1, z_2, z_3, z_4, z_5, z_6, z_7, z_8, z_9, z_10, z_12, z_13, z_20, z_21, z_25, z_56, z_350, z_31, z_32, z_36, z_48, z_57, z_61, z_97, z_100, z_122, z_125, z_126, z_144, z_255, z_700, z_1000, z_1548, nI_add, pk_mul, pk_sub, nI_clamp, nI_leI, nI_ltI, nI_eq, z_in, z_m1, z_m1b, lg_cmp_eq, z_cmp, Decidable.not_not, w_ie, w_in, w_il, w_le, w_ln, w_li, w_ir, w_lr] at c2
          rw [if_neg (by omega)] at k2
          refine kb_81_65 (fun c3 => ?_) (fun c3 => ?_)
          · simp (disch := omega) only [z_0, z_1, z_2, z_3, z_4, z_5, z_6, z_7, z_8, z_9, z_10, z_12, z_13, z_20, z_21, z_25, z_56, z_350, z_31, z_32, z_36, z_48, z_57, z_61, z_97, z_100, z_122, z_125, z_126, z_144, z_255, z_700, z_1000, z_1548, nI_add, pk_mul, pk_sub, nI_clamp, nI_leI, nI_ltI, nI_eq, z_in, z_m1, z_m1b, lg_cmp_eq, z_cmp, Decidable.not_not, w_ie, w_in, w_il, w_le, w_ln, w_li, w_ir, w_lr] at c3
            rw [if_neg c3] at k2
            have es : nI k - nI (nl m) - 1 = nI (k - nl m - 1) := by rw [show (1 : Int32) = nI 1 from rfl, pk_sub (by omega), pk_sub (by omega)]
            refine kb_81_74 (by decide) (s28 hn ?_)
            rw [es]
            refine kb_81_85 (fun c4 => kb_81_102 (kb_81_103 ?_)) (fun c4 => kb_81_88 (by decide) ?_)
            · simp (disch := omega) only [z_0, z_1, z_2, z_3, z_4, z_5, z_6, z_7, z_8, z_9, z_10, z_12, z_13, z_20, z_21, z_25, z_56, z_350, z_31, z_32, z_36, z_48, z_57, z_61, z_97, z_100, z_122, z_125, z_126, z_144, z_255, z_700, z_1000, z_1548, nI_add, pk_mul, pk_sub, nI_clamp, nI_leI, nI_ltI, nI_eq, z_in, z_m1, z_m1b, lg_cmp_eq, z_cmp, Decidable.not_not, w_ie, w_in, w_il, w_le, w_ln, w_li, w_ir, w_lr] at c4
              rw [if_neg (by omega)] at k2
              exact k2
            · simp (disch := omega) only [z_0, z_1, z_2, z_3, z_4, z_5, z_6, z_7, z_8, z_9, z_10, z_12, z_13, z_20, z_21, z_25, z_56, z_350, z_31, z_32, z_36, z_48, z_57, z_61, z_97, z_100, z_122, z_125, z_126, z_144, z_255, z_700, z_1000, z_1548, nI_add, pk_mul, pk_sub, nI_clamp, nI_leI, nI_ltI, nI_eq, z_in, z_m1, z_m1b, lg_cmp_eq, z_cmp, Decidable.not_not, w_ie, w_in, w_il, w_le, w_ln, w_li, w_ir, w_lr] at c4
              rw [if_pos (by omega)] at k2
              rw [es]
              exact s29 (by decide) hn (by omega) (kb_81_99 (kb_81_103 k2))
          · simp (disch := omega) only [z_0, z_1, z_2, z_3, z_4, z_5, z_6, z_7, z_8, z_9, z_10, z_12, z_13, z_20, z_21, z_25, z_56, z_350, z_31, z_32, z_36, z_48, z_57, z_61, z_97, z_100, z_122, z_125, z_126, z_144, z_255, z_700, z_1000, z_1548, nI_add, pk_mul, pk_sub, nI_clamp, nI_leI, nI_ltI, nI_eq, z_in, z_m1, z_m1b, lg_cmp_eq, z_cmp, Decidable.not_not, w_ie, w_in, w_il, w_le, w_ln, w_li, w_ir, w_lr] at c3
            rw [if_pos c3] at k2
            exact kb_81_71 k2
        · simp (disch := omega) only [z_0, z_1, z_2, z_3, z_4, z_5, z_6, z_7, z_8, z_9, z_10, z_12, z_13, z_20, z_21, z_25, z_56, z_350, z_31, z_32, z_36, z_48, z_57, z_61, z_97, z_100, z_122, z_125, z_126, z_144, z_255, z_700, z_1000, z_1548, nI_add, pk_mul, pk_sub, nI_clamp, nI_leI, nI_ltI, nI_eq, z_in, z_m1, z_m1b, lg_cmp_eq, z_cmp, Decidable.not_not, w_ie, w_in, w_il, w_le, w_ln, w_li, w_ir, w_lr] at c2
          rw [if_pos (by omega)] at k2
          exact kb_81_58 (by decide) (s29 (by decide) hm (by omega) (kb_81_64 k2))
      refine kb_10_18 (fun c => (by simp (disch := omega) only [z_0, z_1, z_2, z_3, z_4, z_5, z_6, z_7, z_8, z_9, z_10, z_12, z_13, z_20, z_21, z_25, z_56, z_350, z_31, z_32, z_36, z_48, z_57, z_61, z_97, z_100, z_122, z_125, z_126, z_144, z_255, z_700, z_1000, z_1548, nI_add, pk_mul, pk_sub, nI_clamp, nI_leI, nI_ltI, nI_eq, z_in, z_m1, z_m1b, lg_cmp_eq, z_cmp, Decidable.not_not, w_ie, w_in, w_il, w_le, w_ln, w_li, w_ir, w_lr] at c; exfalso; omega)) (fun _ => kb_10_24 kd_CB (fun _ => kb_10_35 kd_CB (rf_CB_names H) kd_CB_names (by rw [ln_CB_names]; exact bp) (by decide) ?_) (fun c => (by simp (disch := omega) only [z_0, z_1, z_2, z_3, z_4, z_5, z_6, z_7, z_8, z_9, z_10, z_12, z_13, z_20, z_21, z_25, z_56, z_350, z_31, z_32, z_36, z_48, z_57, z_61, z_97, z_100, z_122, z_125, z_126, z_144, z_255, z_700, z_1000, z_1548, nI_add, pk_mul, pk_sub, nI_clamp, nI_leI, nI_ltI, nI_eq, z_in, z_m1, z_m1b, lg_cmp_eq, z_cmp, Decidable.not_not, w_ie, w_in, w_il, w_le, w_ln, w_li, w_ir, w_lr, g11] at c; exfalso; omega)))
      rw [clp, v1]
      refine s20 hm (kb_10_45 (fun c => ?_) (fun c => kb_10_53 kd_CB (rf_CB_names H) kd_CB_names (by rw [ln_CB_names]; exact bp) (by decide) ?_))
      · obtain ⟨k, hk, rfl⟩ := pos_cases (x := z) (fun q => by
          have := i_nle (x := z) (y := nI (nl m)) (fun q => i_nlt q c)
          exact absurd (Int32.lt_of_le_of_lt c q) (nI_neg (by omega)))
        simp (disch := omega) only [z_0, z_1, z_2, z_3, z_4, z_5, z_6, z_7, z_8, z_9, z_10, z_12, z_13, z_20, z_21, z_25, z_56, z_350, z_31, z_32, z_36, z_48, z_57, z_61, z_97, z_100, z_122, z_125, z_126, z_144, z_255, z_700, z_1000, z_1548, nI_add, pk_mul, pk_sub, nI_clamp, nI_leI, nI_ltI, nI_eq, z_in, z_m1, z_m1b, lg_cmp_eq, z_cmp, Decidable.not_not, w_ie, w_in, w_il, w_le, w_ln, w_li, w_ir, w_lr] at c
        refine kb_10_65 (fun c2 => kb_10_76 kd_CB (rf_CB_values H) kd_CB_values (by rw [ln_CB_values]; exact bp) (by decide) ?_) (fun c2 => kb_10_71 (kb_10_92 ⟨_, rfl, ?_⟩))
        · simp (disch := omega) only [z_0, z_1, z_2, z_3, z_4, z_5, z_6, z_7, z_8, z_9, z_10, z_12, z_13, z_20, z_21, z_25, z_56, z_350, z_31, z_32, z_36, z_48, z_57, z_61, z_97, z_100, z_122, z_125, z_126, z_144, z_255, z_700, z_1000, z_1548, nI_add, pk_mul, pk_sub, nI_clamp, nI_leI, nI_ltI, nI_eq, z_in, z_m1, z_m1b, lg_cmp_eq, z_cmp, Decidable.not_not, w_ie, w_in, w_il, w_le, w_ln, w_li, w_ir, w_lr] at c2
          have es : nI k - nI (nl m) - 1 = nI (k - nl m - 1) := by rw [show (1 : Int32) = nI 1 from rfl, pk_sub (by omega), pk_sub (by omega)]
          rw [clp, v2, es]
          refine s21 (by decide) hn (fun c3 => kb_10_92 ⟨_, rfl, ?_⟩) (fun q eq hq => kb_10_92 ⟨_, rfl, ?_⟩)
          · refine mrun _ (fun q => absurd q (nI_neg hk)) (fun k' hk' e' => ⟨?_, J1⟩)
            have e' := (nI_eq hk hk').mp e'
            subst e'
            have c3 : ¬ k - nl m - 1 < nl n := by
              rcases c3 with c3 | c3
              · exact absurd c3 (nI_neg (by omega))
              · rw [nI_ltI (by omega) (by omega)] at c3
                exact c3
            unfold pW
            rw [if_neg (by omega), if_neg c2, if_neg c3]
          · refine mrun _ (fun q => absurd q (nI_neg hk)) (fun k' hk' e' => ⟨?_, J1⟩)
            have e' := (nI_eq hk hk').mp e'
            subst e'
            have eq := (nI_eq (by omega) (by omega)).mp eq
            unfold pW
            rw [if_neg (by omega), if_neg c2, if_pos (by omega), eq]
        · simp (disch := omega) only [z_0, z_1, z_2, z_3, z_4, z_5, z_6, z_7, z_8, z_9, z_10, z_12, z_13, z_20, z_21, z_25, z_56, z_350, z_31, z_32, z_36, z_48, z_57, z_61, z_97, z_100, z_122, z_125, z_126, z_144, z_255, z_700, z_1000, z_1548, nI_add, pk_mul, pk_sub, nI_clamp, nI_leI, nI_ltI, nI_eq, z_in, z_m1, z_m1b, lg_cmp_eq, z_cmp, Decidable.not_not, w_ie, w_in, w_il, w_le, w_ln, w_li, w_ir, w_lr] at c2
          refine mrun _ (fun q => absurd q (nI_neg hk)) (fun k' hk' e' => ⟨?_, J1⟩)
          have e' := (nI_eq hk hk').mp e'
          subst e'
          unfold pW
          rw [if_neg (by omega), if_pos c2]
      · rw [clp, v1]
        refine s21 (by decide) hm (fun c2 => kb_10_64 ⟨_, rfl, ?_⟩) (fun q eq hq => kb_10_64 ⟨_, rfl, ?_⟩)
        · refine mrun _ (fun _ => ⟨rfl, J1⟩) (fun k hk e' => ?_)
          subst e'
          simp (disch := omega) only [z_0, z_1, z_2, z_3, z_4, z_5, z_6, z_7, z_8, z_9, z_10, z_12, z_13, z_20, z_21, z_25, z_56, z_350, z_31, z_32, z_36, z_48, z_57, z_61, z_97, z_100, z_122, z_125, z_126, z_144, z_255, z_700, z_1000, z_1548, nI_add, pk_mul, pk_sub, nI_clamp, nI_leI, nI_ltI, nI_eq, z_in, z_m1, z_m1b, lg_cmp_eq, z_cmp, Decidable.not_not, w_ie, w_in, w_il, w_le, w_ln, w_li, w_ir, w_lr] at c
          rcases c2 with c2 | c2
          · exact absurd c2 (nI_neg hk)
          · rw [nI_ltI (by omega) (by omega)] at c2
            exact absurd c2 (by omega)
        · subst eq
          refine mrun _ (fun q => absurd q (nI_neg (by omega))) (fun k' hk' e' => ⟨?_, J1⟩)
          have e' := (nI_eq (by omega) hk').mp e'
          subst e'
          unfold pW
          rw [if_pos hq]
