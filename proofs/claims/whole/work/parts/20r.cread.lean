-- ===== the class's loop over the words =====
theorem ws_len {X : Nat → Int32} : ∀ {n l s a : Nat}, s ≤ a → 2 * (ws X l s a n).length ≤ a + n - s + 1
  | 0, l, s, a, hs => by
    rw [ws_0]
    unfold wd1
    split
    · show 2 * 1 ≤ _
      omega
    · exact Nat.zero_le _
  | n + 1, l, s, a, hs => by
    have one : ∀ l2, 2 * (wd1 l s a ++ ws X l2 (a + 1) (a + 1) n).length ≤ a + (n + 1) - s + 1 := by
      intro l2
      have h1 := ws_len (X := X) (n := n) (l := l2) (Nat.le_refl (a + 1))
      have h2 : (wd1 l s a).length ≤ 1 ∧ (s = a → (wd1 l s a).length = 0) := by
        unfold wd1
        split
        · exact ⟨Nat.le_refl 1, fun e => absurd e (by omega)⟩
        · exact ⟨Nat.zero_le 1, fun _ => rfl⟩
      rw [List.length_append]
      rcases Nat.lt_or_ge s a with q | q
      · omega
      · have := h2.2 (by omega)
        omega
    rw [ws_s]
    split
    · exact one l
    · split
      · exact one (l + 1)
      · have := ws_len (X := X) (n := n) (l := l) (s := s) (a := a + 1) (by omega)
        omega
theorem ws_350 {X : Nat → Int32} {L : Nat} (h : L ≤ 700) : (ws X 0 0 0 L).length ≤ 350 := by
  have := ws_len (X := X) (n := L) (l := 0) (Nat.le_refl 0)
  omega
theorem m1_ne {n : Nat} (h : n < 2 ^ 31) : ¬ nI n = -1 := fun q => (z_m1 h).mp q
/-- the loop of read -/
theorem s2loop {d L : Nat} {h0 : mj_H} {Q : Option Value → mj_H → Prop} {X : Nat → Int32} {W : List Wt} (hd : 36 ≤ d) (H0 : mj_RS h0) (hL : L ≤ 700) (ht : ∀ i, i < L → tch2 (X i)) (hWW : WW h0 X L W) (hk : wks X W)
    (kI : ∀ l h', rdA X W L (L + 1) 0 0 0 P0 = .inl l → l ≤ 700 → fq inCl h0 h' → mr_M mj_KK d 2 108 [some (.ref 0), some (.int (nI l)), none] [] h' Q)
    (kP : ∀ P h', rdA X W L (L + 1) 0 0 0 P0 = .inr P → VP W P → PlC h' P → ZC h' P.np → fq inCl h0 h' → mr_M mj_KK d 2 108 [some (.ref 0), some (.int (-1)), none] [] h' Q) :
    ∀ f l a w (pre : List Wt) (P : mj_P) (h : mj_H), L + 1 ≤ a + f → a ≤ L + 1 → l ≤ a → pre.length = w → W = pre ++ ws X l a a (L - a) → (∀ u ∈ pre, u.2.2 < l) → VP W P → PlC h P → ZC h P.np → OwC h P.own → fq inCl h0 h → rdA X W L f l a w P = rdA X W L (L + 1) 0 0 0 P0 → mr_M mj_KK d 2 46 [some (.ref 0), some (.int (-1)), some (.int (nI w))] [] h Q := by
  intro f
  have hw4 := hWW.2.2.2.1
  have hWf : ∀ {h}, fq inCl h0 h → WW h X L W := fun g => WW_fq hWW g (fun a i h1 h2 => by unfold inCl; omega)
  induction f with
  | zero =>
    intro l a w pre P h hf ha hla hpw hWp hpre hV hP hZ hO hfr he
    have c6 := (hWf hfr).2.2.1
    have H := hfr.rs H0
    have e0 : L - a = 0 := by omega
    have e1 : wd1 l a a = [] := if_neg (Nat.lt_irrefl _)
    rw [e0, ws_0, e1, List.append_nil] at hWp
    have : w = W.length := by rw [hWp, hpw]
    exact kb_2_46 (by first | with_reducible assumption | with_reducible exact kd_P | assumption) (by first | with_reducible assumption | exact rf_P_words H | assumption) (by first | with_reducible assumption | with_reducible exact kd_W | assumption) (fun _ => kP P h he.symm hV hP hZ hfr) (fun c => (by simp (disch := omega) only [z_0, z_1, z_2, z_3, z_4, z_5, z_6, z_7, z_8, z_9, z_10, z_12, z_13, z_20, z_21, z_25, z_56, z_350, z_31, z_32, z_36, z_48, z_57, z_61, z_97, z_100, z_122, z_125, z_126, z_144, z_255, z_700, z_1000, z_1548, nI_add, pk_mul, pk_sub, nI_clamp, nI_leI, nI_ltI, nI_eq, z_in, z_m1, z_m1b, lg_cmp_eq, z_cmp, Decidable.not_not, w_ie, w_in, w_il, w_le, w_ln, w_li, w_ir, w_lr, c6] at c; exfalso; omega))
  | succ f ih =>
    intro l a w pre P h hf ha hla hpw hWp hpre hV hP hZ hO hfr he
    have hWh := hWf hfr
    have c6 := hWh.2.2.1
    have H := hfr.rs H0
    rw [rdA_s] at he
    rcases Nat.lt_or_ge a L with hal | hal
    rotate_left
    · rw [if_neg (by omega)] at he
      have e0 : L - a = 0 := by omega
      have e1 : wd1 l a a = [] := if_neg (Nat.lt_irrefl _)
      rw [e0, ws_0, e1, List.append_nil] at hWp
      have : w = W.length := by rw [hWp, hpw]
      exact kb_2_46 (by first | with_reducible assumption | with_reducible exact kd_P | assumption) (by first | with_reducible assumption | exact rf_P_words H | assumption) (by first | with_reducible assumption | with_reducible exact kd_W | assumption) (fun _ => kP P h he.symm hV hP hZ hfr) (fun c => (by simp (disch := omega) only [z_0, z_1, z_2, z_3, z_4, z_5, z_6, z_7, z_8, z_9, z_10, z_12, z_13, z_20, z_21, z_25, z_56, z_350, z_31, z_32, z_36, z_48, z_57, z_61, z_97, z_100, z_122, z_125, z_126, z_144, z_255, z_700, z_1000, z_1548, nI_add, pk_mul, pk_sub, nI_clamp, nI_leI, nI_ltI, nI_eq, z_in, z_m1, z_m1b, lg_cmp_eq, z_cmp, Decidable.not_not, w_ie, w_in, w_il, w_le, w_ln, w_li, w_ir, w_lr, c6] at c; exfalso; omega))
    rw [if_pos hal] at he
    obtain ⟨b1, b2, b3, b4⟩ := nlA_ok (X := X) (n := L - a) (a := a)
    have hsp := ws_line (X := X) (l := l) hal
    generalize nlA X a (L - a) = t at *
    generalize hVV : ws X l a a (t - a) = V at *
    have VL : ∀ u ∈ V, u.2.2 = l := fun u hu => ws_same (fun i h1 h2 => b3 i h1 (by omega)) (hVV ▸ hu)
    have RL : ∀ u ∈ ws X (l + 1) (t + 1) (t + 1) (L - (t + 1)), l + 1 ≤ u.2.2 := fun u hu => ws_lines hu
    rw [hsp] at hWp
    have vlen : w + V.length ≤ W.length := by
      rw [hWp, List.length_append, List.length_append]
      omega
    by_cases hv : V.length = 0
    · rw [if_pos hv] at he
      have hv0 : V = [] := List.length_eq_zero_iff.mp hv
      exact ih (l + 1) (t + 1) w pre P h (by omega) (by omega) (by omega) hpw (by rw [hv0, List.nil_append] at hWp; exact hWp) (fun u hu => Nat.lt_succ_of_lt (hpre u hu)) hV hP hZ hO hfr he
    · rw [if_neg hv] at he
      obtain ⟨isl, ln0⟩ := isL_of hWp (by omega) VL RL
      rw [hpw] at isl ln0
      obtain ⟨i1, i2, i3, i4⟩ := id isl
      refine kb_2_46 (by first | with_reducible assumption | with_reducible exact kd_P | assumption) (by first | with_reducible assumption | exact rf_P_words H | assumption) (by first | with_reducible assumption | with_reducible exact kd_W | assumption) (fun c => (by simp (disch := omega) only [z_0, z_1, z_2, z_3, z_4, z_5, z_6, z_7, z_8, z_9, z_10, z_12, z_13, z_20, z_21, z_25, z_56, z_350, z_31, z_32, z_36, z_48, z_57, z_61, z_97, z_100, z_122, z_125, z_126, z_144, z_255, z_700, z_1000, z_1548, nI_add, pk_mul, pk_sub, nI_clamp, nI_leI, nI_ltI, nI_eq, z_in, z_m1, z_m1b, lg_cmp_eq, z_cmp, Decidable.not_not, w_ie, w_in, w_il, w_le, w_ln, w_li, w_ir, w_lr, c6] at c; exfalso; omega)) (fun _ => kb_2_57 (fun c => absurd rfl c) (fun _ => kb_2_62 (by first | with_reducible assumption | with_reducible exact kd_P | assumption) (by first | with_reducible assumption | exact rf_P_words H | assumption) (by first | with_reducible assumption | with_reducible exact kd_W | assumption) (by omega) (s168 (by omega) H hWh (by omega) (fun _ => ?_) (fun v1 v2 => ?_))))
      rotate_left
      · have hm : W.getD (w - 1) (0, 0, 0) ∈ pre := by
          rw [hWp, getD_l (by omega)]
          exact getD_mem (by omega)
        have := hpre _ hm
        have e2 : (W.getD w (0, 0, 0)).2.2 = l := ln0
        omega
      refine kb_2_70 (fun c => absurd c (by decide)) (fun _ => kb_2_73 (by first | with_reducible assumption | with_reducible exact kd_P | assumption) (by first | with_reducible assumption | exact rf_P_reader H | assumption) (by first | with_reducible assumption | exact rf_P_words H | assumption) (by first | with_reducible assumption | exact rf_P_plan H | assumption) (by first | with_reducible assumption | with_reducible exact kd_RD | assumption) (by omega) (s150 (by omega) H hWh hk i1 i2 i3 i4 hP hZ hO hV.2.2.1 (fun q h9 g => ?_) (fun P2 q h9 g1 g2 g3 g4 => ?_)))
      · rw [q] at he
        have fr9 := hfr.trans g
        have H := fr9.rs H0
        have hW9 := hWf fr9
        obtain ⟨y1, y2, y3, y4, y5, y6, y7, y8⟩ := hW9.2.2.2.2 w (by omega)
        refine kb_2_89 (fun c => absurd rfl c) (fun _ => kb_2_92 (by first | with_reducible assumption | with_reducible exact kd_P | assumption) (by first | with_reducible assumption | exact rf_P_words H | assumption) (by first | with_reducible assumption | with_reducible exact kd_W | assumption) (by first | with_reducible assumption | exact rf_W_lines H | assumption) (by first | with_reducible assumption | with_reducible exact kd_W_lines | assumption) (by first | with_reducible assumption | (simp (disch := omega) only [z_0, z_1, z_2, z_3, z_4, z_5, z_6, z_7, z_8, z_9, z_10, z_12, z_13, z_20, z_21, z_25, z_56, z_350, z_31, z_32, z_36, z_48, z_57, z_61, z_97, z_100, z_122, z_125, z_126, z_144, z_255, z_700, z_1000, z_1548, nI_add, pk_mul, pk_sub, nI_clamp, nI_leI, nI_ltI, nI_eq, z_in, z_m1, z_m1b, lg_cmp_eq, z_cmp, Decidable.not_not, w_ie, w_in, w_il, w_le, w_ln, w_li, w_ir, w_lr, ln_P_tape, ln_W_text, ln_W_starts, ln_W_ends, ln_W_lines, ln_W_names, ln_W_values, ln_PL_jobs, ln_PL_parts, ln_FT_reached, ln_EX_jobs, ln_EX_codes, ln_CB_names, ln_CB_values, ln_M_tape, ln_M_source, ln_M_wordAt, ln_M_wordEnd, ln_M_names, ln_M_itemCount, ln_M_itemFirst, ln_M_itemWords, ln_M_itemUses, ln_M_keptAt, ln_M_keptEnd, ln_M_needCount, ln_M_axisCount, ln_M_valueCount, ln_M_needed, ln_M_axes, ln_M_values, ln_M_includes, ln_M_excludes, ln_M_pairCount, ln_M_pairName, ln_M_pairValue, ln_M_signCount, ln_M_signs, ln_M_signName, ln_M_signValue, ln_M_whose, ln_M_which, ln_M_pile, ln_M_reaches, ln_M_stepsOf, ln_M_known, ln_JB_needed, ln_JB_axes, ln_JS_used, ln_JS_stepWords, ln_PS_used, ln_PS_stepWords, ln_IN_rows, ln_EC_rows, ln_IR_names, ln_IR_values, ln_ER_names, ln_ER_values, ln_CD_kinds, ln_CD_names, ln_CD_values, ln_AX_values] <;> omega) | assumption) (kb_2_102 ?_))
        have e2 : (W.getD w (0, 0, 0)).2.2 = l := ln0
        rw [nI_clamp (by omega), y6, e2, nI_1]
        have kk := kI l h9 he.symm (by omega) fr9
        exact kb_2_46 (by first | with_reducible assumption | with_reducible exact kd_P | assumption) (by first | with_reducible assumption | exact rf_P_words H | assumption) (by first | with_reducible assumption | with_reducible exact kd_W | assumption) (fun _ => kk) (fun _ => kb_2_57 (fun _ => kk) (fun c => absurd (m1_ne (by omega)) c))
      · rw [q] at he
        have fr9 := hfr.trans g4
        have H := fr9.rs H0
        have hW9 := hWf fr9
        have c9 := hW9.2.2.1
        refine kb_2_89 (fun _ => kb_2_102 ?_) (fun c => absurd (by decide) c)
        rw [nI_1]
        have skip : ∀ m i, i + m = V.length → 1 ≤ i → mr_M mj_KK d 2 46 [some (.ref 0), some (.int (-1)), some (.int (nI (w + i)))] [] h9 Q := by
          intro m
          induction m with
          | zero =>
            intro i hi h1
            have e : i = V.length := by omega
            subst e
            refine ih (l + 1) (t + 1) (w + V.length) (pre ++ V) P2 h9 (by omega) (by omega) (by omega) (by rw [List.length_append, hpw]) (by rw [List.append_assoc]; exact hWp) (fun u hu => ?_) (rdL_VP hk isl hV q) g1 g2 g3 fr9 he
            rcases List.mem_append.mp hu with v | v
            · exact Nat.lt_succ_of_lt (hpre u v)
            · rw [VL u v]
              exact Nat.lt_succ_self l
          | succ m ih2 =>
            intro i hi h1
            refine kb_2_46 (by first | with_reducible assumption | with_reducible exact kd_P | assumption) (by first | with_reducible assumption | exact rf_P_words H | assumption) (by first | with_reducible assumption | with_reducible exact kd_W | assumption) (fun c => (by simp (disch := omega) only [z_0, z_1, z_2, z_3, z_4, z_5, z_6, z_7, z_8, z_9, z_10, z_12, z_13, z_20, z_21, z_25, z_56, z_350, z_31, z_32, z_36, z_48, z_57, z_61, z_97, z_100, z_122, z_125, z_126, z_144, z_255, z_700, z_1000, z_1548, nI_add, pk_mul, pk_sub, nI_clamp, nI_leI, nI_ltI, nI_eq, z_in, z_m1, z_m1b, lg_cmp_eq, z_cmp, Decidable.not_not, w_ie, w_in, w_il, w_le, w_ln, w_li, w_ir, w_lr, c9] at c; exfalso; omega)) (fun _ => kb_2_57 (fun c => absurd rfl c) (fun _ => kb_2_62 (by first | with_reducible assumption | with_reducible exact kd_P | assumption) (by first | with_reducible assumption | exact rf_P_words H | assumption) (by first | with_reducible assumption | with_reducible exact kd_W | assumption) (by omega) (s168 (by omega) H hW9 (by omega) (fun v => ?_) (fun v1 v2 => kb_2_70 (fun _ => kb_2_102 ?_) (fun c => absurd rfl c)))))
            · have e3 := i3 i (by omega)
              have e4 := i3 (i - 1) (by omega)
              unfold lnW at e3 e4
              rcases v with v | v
              · omega
              · rw [show w + i - 1 = w + (i - 1) from by omega] at v
                exact absurd (e4.trans e3.symm) v
            · rw [nI_1]
              exact ih2 (i + 1) (by omega) (by omega)
        exact skip (V.length - 1) 1 (by omega) (Nat.le_refl 1)
