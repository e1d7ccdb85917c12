-- ===== faults: what is asked, and the class's look =====
def mJ (P : mj_P) (y : Int64) : Bool := decide (jN P y = -1)
def mP (P : mj_P) (y : Int64) : Bool := decide (pN P y = -1)
def f1 (P : mj_P) (j : Nat) : Bool := (P.jr j).1.any (mJ P) || (akM (P.jr j).2.2.2.2.1).any (mJ P)
def f2 (P : mj_P) (k : Nat) : Bool := (P.sc k).2.any (fun t => decide (¬ t.1 = 0) && mP P t.1)
def aT (g : Nat → Bool) : Nat → Bool
  | 0 => false
  | n + 1 => aT g n || g n
theorem aT_s {g : Nat → Bool} {n : Nat} : aT g (n + 1) = (aT g n || g n) := rfl
theorem aT_t {g : Nat → Bool} {n : Nat} : aT g n = true ↔ ∃ i, i < n ∧ g i = true := by
  induction n with
  | zero => exact ⟨fun q => absurd q Bool.false_ne_true, fun ⟨i, hi, _⟩ => absurd hi (Nat.not_lt_zero i)⟩
  | succ n ih =>
    rw [aT_s, Bool.or_eq_true, ih]
    constructor
    · intro q
      rcases q with ⟨i, hi, e⟩ | e
      · exact ⟨i, by omega, e⟩
      · exact ⟨n, by omega, e⟩
    · intro ⟨i, hi, e⟩
      rcases Nat.lt_or_ge i n with w | w
      · exact Or.inl ⟨i, w, e⟩
      · have : i = n := by omega
        exact Or.inr (this ▸ e)
def E3 (P : mj_P) (p q : Nat) : Bool := aT (fun i => decide (¬ ((P.sc (12 + p)).2.getD i (0, 0, 0)).1 = 0) && decide (pN P ((P.sc (12 + p)).2.getD i (0, 0, 0)).1 = nI q)) (P.sc (12 + p)).2.length
def E4 (P : mj_P) (j q : Nat) : Bool := aT (fun i => decide (jN P ((P.jr j).1.getD i 0) = nI q)) (P.jr j).1.length
def wst (R : Nat → Nat → Bool) (k a b : Nat) : Bool := R a b || (R a k && R k b)
def wf : Nat → (Nat → Nat → Bool) → Nat → Nat → Bool
  | 0, R => R
  | k + 1, R => wst (wf k R) k
theorem wf_s {k : Nat} {R : Nat → Nat → Bool} : wf (k + 1) R = wst (wf k R) k := rfl
theorem wst_row {R : Nat → Nat → Bool} {k b : Nat} : wst R k k b = R k b := by
  unfold wst
  cases R k b <;> cases R k k <;> rfl
theorem wst_col {R : Nat → Nat → Bool} {k a : Nat} : wst R k a k = R a k := by
  unfold wst
  cases R a k <;> cases R k k <;> rfl
def cyc (n : Nat) (E : Nat → Nat → Bool) : Int32 := fi (fun a => wf n E a a) 0 n
def fc (P : mj_P) : Int32 × Int32 :=
  if ¬ fi (f1 P) 0 P.nj = -1 then (1, fi (f1 P) 0 P.nj)
  else if ¬ fi (f2 P) 0 P.nj = -1 then (2, fi (f2 P) 0 P.nj)
  else if ¬ fi (fun p => f2 P (12 + p)) 0 P.np = -1 then (2, 100 + fi (fun p => f2 P (12 + p)) 0 P.np)
  else if ¬ cyc P.np (E3 P) = -1 then (3, 100 + cyc P.np (E3 P))
  else if ¬ cyc P.nj (E4 P) = -1 then (4, cyc P.nj (E4 P)) else (0, -1)
theorem jN_of {P : mj_P} {y : Int64} : jN P y = -1 ∨ ∃ q, q < P.nj ∧ jN P y = nI q := by
  rcases fi_spec (p := fun j => decide ((P.sc j).1 = y)) (n := P.nj) (i := 0) with ⟨a, b⟩ | ⟨k, a, b, c, e, f⟩
  · exact Or.inl a
  · exact Or.inr ⟨k, by omega, e⟩
theorem pN_of {P : mj_P} {y : Int64} : pN P y = -1 ∨ ∃ q, q < P.np ∧ pN P y = nI q := by
  rcases fi_spec (p := fun j => decide ((P.sc (12 + j)).1 = y)) (n := P.np) (i := 0) with ⟨a, b⟩ | ⟨k, a, b, c, e, f⟩
  · exact Or.inl a
  · exact Or.inr ⟨k, by omega, e⟩
theorem akC_any {f : Int64 → Bool} {p : List Sg} : (akC p).any f = p.any (fun s => decide (s.1 = 1 ∨ s.1 = 2) && f s.2.1) := by
  induction p with
  | nil => rfl
  | cons s r ih =>
    rw [List.any_cons, ← ih]
    by_cases q : s.1 = 1 ∨ s.1 = 2
    · have e : akC (s :: r) = s.2.1 :: akC r := by
        unfold akC
        rw [List.filterMap_cons, if_pos q]
      rw [e, List.any_cons, decide_eq_true q, Bool.true_and]
    · have e : akC (s :: r) = akC r := by
        unfold akC
        rw [List.filterMap_cons, if_neg q]
      rw [e, decide_eq_false q, Bool.false_and, Bool.false_or]
theorem akM_any {f : Int64 → Bool} {p : List Sg} : (akM p).any f = p.any (fun s => decide (s.1 = 7 ∨ s.1 = 8) && f s.2.1) := by
  induction p with
  | nil => rfl
  | cons s r ih =>
    rw [List.any_cons, ← ih]
    by_cases q : s.1 = 7 ∨ s.1 = 8
    · have e : akM (s :: r) = s.2.1 :: akM r := by
        unfold akM
        rw [List.filterMap_cons, if_pos q]
      rw [e, List.any_cons, decide_eq_true q, Bool.true_and]
    · have e : akM (s :: r) = akM r := by
        unfold akM
        rw [List.filterMap_cons, if_neg q]
      rw [e, decide_eq_false q, Bool.false_and, Bool.false_or]
section
variable {d j k : Nat} {h : mj_H} {Q : Option Value → mj_H → Prop} {P : mj_P}
/-- Faults.needsMissing -/
theorem s112 (hd : 1 ≤ d) (H : mj_RS h) (hP : PlC h P) (hj : j < P.nj) (kk : Q (some (.int (b2i ((P.jr j).1.any (mJ P))))) h) : mr_C mj_KK d 112 [.ref 9, .ref (12 + 44 * j)] h Q := by
  show mr_M mj_KK d 112 0 [some (.ref 9), some (.ref (12 + 44 * j)), none] [] h Q
  have hj12 : j < 12 := by have := hP.2.1; omega
  obtain ⟨⟨x1, x2, x3⟩, -⟩ := (hP.2.2.2.2.1 j hj).2
  generalize hxs : (P.jr j).1 = xs at *
  refine kb_112_0 ?_
  have loop : ∀ n i, i + n = xs.length → (∀ k, k < i → mJ P (xs.getD k 0) = false) → mr_M mj_KK d 112 2 [some (.ref 9), some (.ref (12 + 44 * j)), some (.int (nI i))] [] h Q := by
    intro n
    induction n with
    | zero =>
      intro i hi hq
      rw [any_f (x := 0) (fun k hk => hq k (by omega))] at kk
      exact kb_112_2 (by first | with_reducible assumption | with_reducible exact kd_JB _ (by omega) | assumption) (fun _ => kb_112_32 kk) (fun c => (by simp (disch := omega) only [z_0, z_1, z_2, z_3, z_4, z_5, z_6, z_7, z_8, z_9, z_10, z_12, z_13, z_20, z_21, z_25, z_56, z_350, z_31, z_32, z_36, z_48, z_57, z_61, z_97, z_100, z_122, z_125, z_126, z_144, z_255, z_700, z_1000, z_1548, nI_add, pk_mul, pk_sub, nI_clamp, nI_leI, nI_ltI, nI_eq, z_in, z_m1, z_m1b, lg_cmp_eq, z_cmp, Decidable.not_not, w_ie, w_in, w_il, w_le, w_ln, w_li, w_ir, w_lr, x1] at c; exfalso; omega))
    | succ n ih =>
      intro i hi hq
      have e0 := x3 i (by omega)
      rw [Nat.zero_add] at e0
      refine kb_112_2 (by first | with_reducible assumption | with_reducible exact kd_JB _ (by omega) | assumption) (fun c => (by simp (disch := omega) only [z_0, z_1, z_2, z_3, z_4, z_5, z_6, z_7, z_8, z_9, z_10, z_12, z_13, z_20, z_21, z_25, z_56, z_350, z_31, z_32, z_36, z_48, z_57, z_61, z_97, z_100, z_122, z_125, z_126, z_144, z_255, z_700, z_1000, z_1548, nI_add, pk_mul, pk_sub, nI_clamp, nI_leI, nI_ltI, nI_eq, z_in, z_m1, z_m1b, lg_cmp_eq, z_cmp, Decidable.not_not, w_ie, w_in, w_il, w_le, w_ln, w_li, w_ir, w_lr, x1] at c; exfalso; omega)) (fun _ => kb_112_10 (by first | with_reducible assumption | with_reducible exact kd_JB _ (by omega) | assumption) (by first | with_reducible assumption | exact rf_JB_needed H (by omega) | assumption) (by first | with_reducible assumption | with_reducible exact kd_JB_needed _ (by omega) | assumption) (by first | with_reducible assumption | (simp (disch := omega) only [z_0, z_1, z_2, z_3, z_4, z_5, z_6, z_7, z_8, z_9, z_10, z_12, z_13, z_20, z_21, z_25, z_56, z_350, z_31, z_32, z_36, z_48, z_57, z_61, z_97, z_100, z_122, z_125, z_126, z_144, z_255, z_700, z_1000, z_1548, nI_add, pk_mul, pk_sub, nI_clamp, nI_leI, nI_ltI, nI_eq, z_in, z_m1, z_m1b, lg_cmp_eq, z_cmp, Decidable.not_not, w_ie, w_in, w_il, w_le, w_ln, w_li, w_ir, w_lr, ln_P_tape, ln_W_text, ln_W_starts, ln_W_ends, ln_W_lines, ln_W_names, ln_W_values, ln_PL_jobs, ln_PL_parts, ln_FT_reached, ln_EX_jobs, ln_EX_codes, ln_CB_names, ln_CB_values, ln_M_tape, ln_M_source, ln_M_wordAt, ln_M_wordEnd, ln_M_names, ln_M_itemCount, ln_M_itemFirst, ln_M_itemWords, ln_M_itemUses, ln_M_keptAt, ln_M_keptEnd, ln_M_needCount, ln_M_axisCount, ln_M_valueCount, ln_M_needed, ln_M_axes, ln_M_values, ln_M_includes, ln_M_excludes, ln_M_pairCount, ln_M_pairName, ln_M_pairValue, ln_M_signCount, ln_M_signs, ln_M_signName, ln_M_signValue, ln_M_whose, ln_M_which, ln_M_pile, ln_M_reaches, ln_M_stepsOf, ln_M_known, ln_JB_needed, ln_JB_axes, ln_JS_used, ln_JS_stepWords, ln_PS_used, ln_PS_stepWords, ln_IN_rows, ln_EC_rows, ln_IR_names, ln_IR_values, ln_ER_names, ln_ER_values, ln_CD_kinds, ln_CD_names, ln_CD_values, ln_AX_values] <;> omega) | assumption) (by first | with_reducible assumption | with_reducible exact kd_PL | assumption) (by omega) ?_)
      rw [nI_clamp (by omega), e0]
      refine s142P H hP (kb_112_20 (fun c => kb_112_26 ?_) (fun c => kb_112_24 ?_))
      · rw [nI_1]
        exact ih (i + 1) (by omega) (lt_s hq (decide_eq_false c))
      · rw [Decidable.not_not] at c
        rw [any_t (p := mJ P) (x := 0) (i := i) (by omega) (decide_eq_true c)] at kk
        exact kk
  exact loop xs.length 0 (by omega) lt_0
/-- Condition.asksForMissing -/
theorem s98 (hd : 1 ≤ d) (H : mj_RS h) (hP : PlC h P) (hj : j < P.nj) (hA : ∀ s ∈ (P.jr j).2.2.2.2.2, SA s) (kk : Q (some (.int (b2i ((akC (P.jr j).2.2.2.2.2).any (mJ P))))) h) : mr_C mj_KK d 98 [.ref (46 + 44 * j), .ref 9] h Q := by
  show mr_M mj_KK d 98 0 [some (.ref (46 + 44 * j)), some (.ref 9), none] [] h Q
  have hj12 : j < 12 := by have := hP.2.1; omega
  obtain ⟨-, -, -, -, x1, x2, x3⟩ := (hP.2.2.2.2.1 j hj).2
  generalize hxs : (P.jr j).2.2.2.2.2 = xs at *
  rw [akC_any] at kk
  refine kb_98_0 ?_
  have loop : ∀ n i, i + n = xs.length → (∀ k, k < i → (decide ((xs.getD k (0, 0, 0)).1 = 1 ∨ (xs.getD k (0, 0, 0)).1 = 2) && mJ P (xs.getD k (0, 0, 0)).2.1) = false) → mr_M mj_KK d 98 2 [some (.ref (46 + 44 * j)), some (.ref 9), some (.int (nI i))] [] h Q := by
    intro n
    induction n with
    | zero =>
      intro i hi hq
      rw [any_f (x := (0, 0, 0)) (fun k hk => hq k (by omega))] at kk
      exact kb_98_2 (by first | with_reducible assumption | with_reducible exact kd_CD _ (by omega) | assumption) (fun _ => kb_98_52 kk) (fun c => (by simp (disch := omega) only [z_0, z_1, z_2, z_3, z_4, z_5, z_6, z_7, z_8, z_9, z_10, z_12, z_13, z_20, z_21, z_25, z_56, z_350, z_31, z_32, z_36, z_48, z_57, z_61, z_97, z_100, z_122, z_125, z_126, z_144, z_255, z_700, z_1000, z_1548, nI_add, pk_mul, pk_sub, nI_clamp, nI_leI, nI_ltI, nI_eq, z_in, z_m1, z_m1b, lg_cmp_eq, z_cmp, Decidable.not_not, w_ie, w_in, w_il, w_le, w_ln, w_li, w_ir, w_lr, x1] at c; exfalso; omega))
    | succ n ih =>
      intro i hi hq
      obtain ⟨e0, e1, e2⟩ := x3 i (by omega)
      have sa6 := (hA _ (getD_mem (x := (0, 0, 0)) (show i < xs.length by omega))).1
      have nx : (decide ((xs.getD i (0, 0, 0)).1 = 1 ∨ (xs.getD i (0, 0, 0)).1 = 2) && mJ P (xs.getD i (0, 0, 0)).2.1) = false → mr_M mj_KK d 98 46 [some (.ref (46 + 44 * j)), some (.ref 9), some (.int (nI i))] [] h Q := by
        intro q
        refine kb_98_46 ?_
        rw [nI_1]
        exact ih (i + 1) (by omega) (lt_s hq q)
      have ask : ((xs.getD i (0, 0, 0)).1 = 1 ∨ (xs.getD i (0, 0, 0)).1 = 2) → mr_M mj_KK d 98 30 [some (.ref (46 + 44 * j)), some (.ref 9), some (.int (nI i))] [] h Q := by
        intro q
        refine kb_98_30 (by first | with_reducible assumption | with_reducible exact kd_CD _ (by omega) | assumption) (by first | with_reducible assumption | exact rf_CD_names H (by omega) | assumption) (by first | with_reducible assumption | with_reducible exact kd_CD_names _ (by omega) | assumption) (by first | with_reducible assumption | (simp (disch := omega) only [z_0, z_1, z_2, z_3, z_4, z_5, z_6, z_7, z_8, z_9, z_10, z_12, z_13, z_20, z_21, z_25, z_56, z_350, z_31, z_32, z_36, z_48, z_57, z_61, z_97, z_100, z_122, z_125, z_126, z_144, z_255, z_700, z_1000, z_1548, nI_add, pk_mul, pk_sub, nI_clamp, nI_leI, nI_ltI, nI_eq, z_in, z_m1, z_m1b, lg_cmp_eq, z_cmp, Decidable.not_not, w_ie, w_in, w_il, w_le, w_ln, w_li, w_ir, w_lr, ln_P_tape, ln_W_text, ln_W_starts, ln_W_ends, ln_W_lines, ln_W_names, ln_W_values, ln_PL_jobs, ln_PL_parts, ln_FT_reached, ln_EX_jobs, ln_EX_codes, ln_CB_names, ln_CB_values, ln_M_tape, ln_M_source, ln_M_wordAt, ln_M_wordEnd, ln_M_names, ln_M_itemCount, ln_M_itemFirst, ln_M_itemWords, ln_M_itemUses, ln_M_keptAt, ln_M_keptEnd, ln_M_needCount, ln_M_axisCount, ln_M_valueCount, ln_M_needed, ln_M_axes, ln_M_values, ln_M_includes, ln_M_excludes, ln_M_pairCount, ln_M_pairName, ln_M_pairValue, ln_M_signCount, ln_M_signs, ln_M_signName, ln_M_signValue, ln_M_whose, ln_M_which, ln_M_pile, ln_M_reaches, ln_M_stepsOf, ln_M_known, ln_JB_needed, ln_JB_axes, ln_JS_used, ln_JS_stepWords, ln_PS_used, ln_PS_stepWords, ln_IN_rows, ln_EC_rows, ln_IR_names, ln_IR_values, ln_ER_names, ln_ER_values, ln_CD_kinds, ln_CD_names, ln_CD_values, ln_AX_values] <;> omega) | assumption) (by first | with_reducible assumption | with_reducible exact kd_PL | assumption) (by omega) ?_
        rw [nI_clamp (by omega), show (48 + 44 * j) = 46 + 44 * j + 2 from by omega, e1]
        refine s142P H hP (kb_98_40 (fun c => nx ?_) (fun c => kb_98_44 ?_))
        · unfold mJ
          rw [decide_eq_false c, Bool.and_false]
        · rw [Decidable.not_not] at c
          rw [any_t (x := (0, 0, 0)) (i := i) (by omega) (by unfold mJ; rw [decide_eq_true c, decide_eq_true q]; rfl)] at kk
          exact kk
      have e0 : h.1 (47 + 44 * j) i = nI (xs.getD i (0, 0, 0)).1 := by rw [show (47 + 44 * j) = 46 + 44 * j + 1 from by omega]; exact e0
      refine kb_98_2 (by first | with_reducible assumption | with_reducible exact kd_CD _ (by omega) | assumption) (fun c => (by simp (disch := omega) only [z_0, z_1, z_2, z_3, z_4, z_5, z_6, z_7, z_8, z_9, z_10, z_12, z_13, z_20, z_21, z_25, z_56, z_350, z_31, z_32, z_36, z_48, z_57, z_61, z_97, z_100, z_122, z_125, z_126, z_144, z_255, z_700, z_1000, z_1548, nI_add, pk_mul, pk_sub, nI_clamp, nI_leI, nI_ltI, nI_eq, z_in, z_m1, z_m1b, lg_cmp_eq, z_cmp, Decidable.not_not, w_ie, w_in, w_il, w_le, w_ln, w_li, w_ir, w_lr, x1] at c; exfalso; omega)) (fun _ => kb_98_10 (by first | with_reducible assumption | with_reducible exact kd_CD _ (by omega) | assumption) (by first | with_reducible assumption | exact rf_CD_kinds H (by omega) | assumption) (by first | with_reducible assumption | with_reducible exact kd_CD_kinds _ (by omega) | assumption) (by first | with_reducible assumption | (simp (disch := omega) only [z_0, z_1, z_2, z_3, z_4, z_5, z_6, z_7, z_8, z_9, z_10, z_12, z_13, z_20, z_21, z_25, z_56, z_350, z_31, z_32, z_36, z_48, z_57, z_61, z_97, z_100, z_122, z_125, z_126, z_144, z_255, z_700, z_1000, z_1548, nI_add, pk_mul, pk_sub, nI_clamp, nI_leI, nI_ltI, nI_eq, z_in, z_m1, z_m1b, lg_cmp_eq, z_cmp, Decidable.not_not, w_ie, w_in, w_il, w_le, w_ln, w_li, w_ir, w_lr, ln_P_tape, ln_W_text, ln_W_starts, ln_W_ends, ln_W_lines, ln_W_names, ln_W_values, ln_PL_jobs, ln_PL_parts, ln_FT_reached, ln_EX_jobs, ln_EX_codes, ln_CB_names, ln_CB_values, ln_M_tape, ln_M_source, ln_M_wordAt, ln_M_wordEnd, ln_M_names, ln_M_itemCount, ln_M_itemFirst, ln_M_itemWords, ln_M_itemUses, ln_M_keptAt, ln_M_keptEnd, ln_M_needCount, ln_M_axisCount, ln_M_valueCount, ln_M_needed, ln_M_axes, ln_M_values, ln_M_includes, ln_M_excludes, ln_M_pairCount, ln_M_pairName, ln_M_pairValue, ln_M_signCount, ln_M_signs, ln_M_signName, ln_M_signValue, ln_M_whose, ln_M_which, ln_M_pile, ln_M_reaches, ln_M_stepsOf, ln_M_known, ln_JB_needed, ln_JB_axes, ln_JS_used, ln_JS_stepWords, ln_PS_used, ln_PS_stepWords, ln_IN_rows, ln_EC_rows, ln_IR_names, ln_IR_values, ln_ER_names, ln_ER_values, ln_CD_kinds, ln_CD_names, ln_CD_values, ln_AX_values] <;> omega) | assumption) (fun c => ask ?_) (fun c => kb_98_20 (by first | with_reducible assumption | with_reducible exact kd_CD _ (by omega) | assumption) (by first | with_reducible assumption | exact rf_CD_kinds H (by omega) | assumption) (by first | with_reducible assumption | with_reducible exact kd_CD_kinds _ (by omega) | assumption) (by first | with_reducible assumption | (simp (disch := omega) only [z_0, z_1, z_2, z_3, z_4, z_5, z_6, z_7, z_8, z_9, z_10, z_12, z_13, z_20, z_21, z_25, z_56, z_350, z_31, z_32, z_36, z_48, z_57, z_61, z_97, z_100, z_122, z_125, z_126, z_144, z_255, z_700, z_1000, z_1548, nI_add, pk_mul, pk_sub, nI_clamp, nI_leI, nI_ltI, nI_eq, z_in, z_m1, z_m1b, lg_cmp_eq, z_cmp, Decidable.not_not, w_ie, w_in, w_il, w_le, w_ln, w_li, w_ir, w_lr, ln_P_tape, ln_W_text, ln_W_starts, ln_W_ends, ln_W_lines, ln_W_names, ln_W_values, ln_PL_jobs, ln_PL_parts, ln_FT_reached, ln_EX_jobs, ln_EX_codes, ln_CB_names, ln_CB_values, ln_M_tape, ln_M_source, ln_M_wordAt, ln_M_wordEnd, ln_M_names, ln_M_itemCount, ln_M_itemFirst, ln_M_itemWords, ln_M_itemUses, ln_M_keptAt, ln_M_keptEnd, ln_M_needCount, ln_M_axisCount, ln_M_valueCount, ln_M_needed, ln_M_axes, ln_M_values, ln_M_includes, ln_M_excludes, ln_M_pairCount, ln_M_pairName, ln_M_pairValue, ln_M_signCount, ln_M_signs, ln_M_signName, ln_M_signValue, ln_M_whose, ln_M_which, ln_M_pile, ln_M_reaches, ln_M_stepsOf, ln_M_known, ln_JB_needed, ln_JB_axes, ln_JS_used, ln_JS_stepWords, ln_PS_used, ln_PS_stepWords, ln_IN_rows, ln_EC_rows, ln_IR_names, ln_IR_values, ln_ER_names, ln_ER_values, ln_CD_kinds, ln_CD_names, ln_CD_values, ln_AX_values] <;> omega) | assumption) (fun c2 => nx ?_) (fun c2 => ask ?_)))
      · simp (disch := omega) only [z_0, z_1, z_2, z_3, z_4, z_5, z_6, z_7, z_8, z_9, z_10, z_12, z_13, z_20, z_21, z_25, z_56, z_350, z_31, z_32, z_36, z_48, z_57, z_61, z_97, z_100, z_122, z_125, z_126, z_144, z_255, z_700, z_1000, z_1548, nI_add, pk_mul, pk_sub, nI_clamp, nI_leI, nI_ltI, nI_eq, z_in, z_m1, z_m1b, lg_cmp_eq, z_cmp, Decidable.not_not, w_ie, w_in, w_il, w_le, w_ln, w_li, w_ir, w_lr, e0] at c
        exact Or.inl c
      · simp (disch := omega) only [z_0, z_1, z_2, z_3, z_4, z_5, z_6, z_7, z_8, z_9, z_10, z_12, z_13, z_20, z_21, z_25, z_56, z_350, z_31, z_32, z_36, z_48, z_57, z_61, z_97, z_100, z_122, z_125, z_126, z_144, z_255, z_700, z_1000, z_1548, nI_add, pk_mul, pk_sub, nI_clamp, nI_leI, nI_ltI, nI_eq, z_in, z_m1, z_m1b, lg_cmp_eq, z_cmp, Decidable.not_not, w_ie, w_in, w_il, w_le, w_ln, w_li, w_ir, w_lr, e0] at c c2
        rw [decide_eq_false (fun r => r.elim c c2), Bool.false_and]
      · simp (disch := omega) only [z_0, z_1, z_2, z_3, z_4, z_5, z_6, z_7, z_8, z_9, z_10, z_12, z_13, z_20, z_21, z_25, z_56, z_350, z_31, z_32, z_36, z_48, z_57, z_61, z_97, z_100, z_122, z_125, z_126, z_144, z_255, z_700, z_1000, z_1548, nI_add, pk_mul, pk_sub, nI_clamp, nI_leI, nI_ltI, nI_eq, z_in, z_m1, z_m1b, lg_cmp_eq, z_cmp, Decidable.not_not, w_ie, w_in, w_il, w_le, w_ln, w_li, w_ir, w_lr, e0] at c2
        exact Or.inr c2
  exact loop xs.length 0 (by omega) lt_0
/-- Faults.jobThatAsksForMissing -/
theorem s111 (hd : 2 ≤ d) (H : mj_RS h) (hP : PlC h P) (hJ : ∀ j, JV (P.jr j)) (kk : Q (some (.int (fi (f1 P) 0 P.nj))) h) : mr_C mj_KK d 111 [.ref 9] h Q := by
  show mr_M mj_KK d 111 0 [some (.ref 9), none] [] h Q
  have a1 := hP.1
  have a2 := hP.2.1
  refine kb_111_0 ?_
  have loop : ∀ n i, i + n = P.nj → Q (some (.int (fi (f1 P) i n))) h → mr_M mj_KK d 111 2 [some (.ref 9), some (.int (nI i))] [] h Q := by
    intro n
    induction n with
    | zero =>
      intro i hi hq
      exact kb_111_2 (by first | with_reducible assumption | with_reducible exact kd_PL | assumption) (fun _ => kb_111_47 hq) (fun c => (by simp (disch := omega) only [z_0, z_1, z_2, z_3, z_4, z_5, z_6, z_7, z_8, z_9, z_10, z_12, z_13, z_20, z_21, z_25, z_56, z_350, z_31, z_32, z_36, z_48, z_57, z_61, z_97, z_100, z_122, z_125, z_126, z_144, z_255, z_700, z_1000, z_1548, nI_add, pk_mul, pk_sub, nI_clamp, nI_leI, nI_ltI, nI_eq, z_in, z_m1, z_m1b, lg_cmp_eq, z_cmp, Decidable.not_not, w_ie, w_in, w_il, w_le, w_ln, w_li, w_ir, w_lr, a1] at c; exfalso; omega))
    | succ n ih =>
      intro i hi hq
      have hi12 : i < 12 := by omega
      have e : fi (f1 P) i (n + 1) = if f1 P i then nI i else fi (f1 P) (i + 1) n := rfl
      rw [e] at hq
      obtain ⟨-, -, -, c4, c5, -⟩ := hJ i
      refine kb_111_2 (by first | with_reducible assumption | with_reducible exact kd_PL | assumption) (fun c => (by simp (disch := omega) only [z_0, z_1, z_2, z_3, z_4, z_5, z_6, z_7, z_8, z_9, z_10, z_12, z_13, z_20, z_21, z_25, z_56, z_350, z_31, z_32, z_36, z_48, z_57, z_61, z_97, z_100, z_122, z_125, z_126, z_144, z_255, z_700, z_1000, z_1548, nI_add, pk_mul, pk_sub, nI_clamp, nI_leI, nI_ltI, nI_eq, z_in, z_m1, z_m1b, lg_cmp_eq, z_cmp, Decidable.not_not, w_ie, w_in, w_il, w_le, w_ln, w_li, w_ir, w_lr, a1] at c; exfalso; omega)) (fun _ => kb_111_10 (by first | with_reducible assumption | with_reducible exact kd_PL | assumption) (by first | with_reducible assumption | exact rf_PL_jobs H | assumption) (by first | with_reducible assumption | with_reducible exact kd_PL_jobs | assumption) (by first | with_reducible assumption | (simp (disch := omega) only [z_0, z_1, z_2, z_3, z_4, z_5, z_6, z_7, z_8, z_9, z_10, z_12, z_13, z_20, z_21, z_25, z_56, z_350, z_31, z_32, z_36, z_48, z_57, z_61, z_97, z_100, z_122, z_125, z_126, z_144, z_255, z_700, z_1000, z_1548, nI_add, pk_mul, pk_sub, nI_clamp, nI_leI, nI_ltI, nI_eq, z_in, z_m1, z_m1b, lg_cmp_eq, z_cmp, Decidable.not_not, w_ie, w_in, w_il, w_le, w_ln, w_li, w_ir, w_lr, ln_P_tape, ln_W_text, ln_W_starts, ln_W_ends, ln_W_lines, ln_W_names, ln_W_values, ln_PL_jobs, ln_PL_parts, ln_FT_reached, ln_EX_jobs, ln_EX_codes, ln_CB_names, ln_CB_values, ln_M_tape, ln_M_source, ln_M_wordAt, ln_M_wordEnd, ln_M_names, ln_M_itemCount, ln_M_itemFirst, ln_M_itemWords, ln_M_itemUses, ln_M_keptAt, ln_M_keptEnd, ln_M_needCount, ln_M_axisCount, ln_M_valueCount, ln_M_needed, ln_M_axes, ln_M_values, ln_M_includes, ln_M_excludes, ln_M_pairCount, ln_M_pairName, ln_M_pairValue, ln_M_signCount, ln_M_signs, ln_M_signName, ln_M_signValue, ln_M_whose, ln_M_which, ln_M_pile, ln_M_reaches, ln_M_stepsOf, ln_M_known, ln_JB_needed, ln_JB_axes, ln_JS_used, ln_JS_stepWords, ln_PS_used, ln_PS_stepWords, ln_IN_rows, ln_EC_rows, ln_IR_names, ln_IR_values, ln_ER_names, ln_ER_values, ln_CD_kinds, ln_CD_names, ln_CD_values, ln_AX_values] <;> omega) | assumption) (by first | with_reducible assumption | exact rf_jobs H (by omega) | (simp (disch := omega) only [z_0, z_1, z_2, z_3, z_4, z_5, z_6, z_7, z_8, z_9, z_10, z_12, z_13, z_20, z_21, z_25, z_56, z_350, z_31, z_32, z_36, z_48, z_57, z_61, z_97, z_100, z_122, z_125, z_126, z_144, z_255, z_700, z_1000, z_1548, nI_add, pk_mul, pk_sub, nI_clamp, nI_leI, nI_ltI, nI_eq, z_in, z_m1, z_m1b, lg_cmp_eq, z_cmp, Decidable.not_not, w_ie, w_in, w_il, w_le, w_ln, w_li, w_ir, w_lr]; exact rf_jobs H (by omega)) | (simp (disch := omega) only [z_0, z_1, z_2, z_3, z_4, z_5, z_6, z_7, z_8, z_9, z_10, z_12, z_13, z_20, z_21, z_25, z_56, z_350, z_31, z_32, z_36, z_48, z_57, z_61, z_97, z_100, z_122, z_125, z_126, z_144, z_255, z_700, z_1000, z_1548, nI_add, pk_mul, pk_sub, nI_clamp, nI_leI, nI_ltI, nI_eq, z_in, z_m1, z_m1b, lg_cmp_eq, z_cmp, Decidable.not_not, w_ie, w_in, w_il, w_le, w_ln, w_li, w_ir, w_lr]; assumption) | assumption) (by omega) (s112 (by omega) H hP (by omega) ?_))
      cases hb : (P.jr i).1.any (mJ P) with
      | true =>
        have : f1 P i = true := by unfold f1; rw [hb]; rfl
        rw [if_pos this] at hq
        exact kb_111_20 (fun _ => kb_111_39 hq) (fun c => absurd (by decide) c)
      | false =>
        refine kb_111_20 (fun c => absurd rfl c) (fun _ => kb_111_23 (by first | with_reducible assumption | with_reducible exact kd_PL | assumption) (by first | with_reducible assumption | exact rf_PL_jobs H | assumption) (by first | with_reducible assumption | with_reducible exact kd_PL_jobs | assumption) (by first | with_reducible assumption | (simp (disch := omega) only [z_0, z_1, z_2, z_3, z_4, z_5, z_6, z_7, z_8, z_9, z_10, z_12, z_13, z_20, z_21, z_25, z_56, z_350, z_31, z_32, z_36, z_48, z_57, z_61, z_97, z_100, z_122, z_125, z_126, z_144, z_255, z_700, z_1000, z_1548, nI_add, pk_mul, pk_sub, nI_clamp, nI_leI, nI_ltI, nI_eq, z_in, z_m1, z_m1b, lg_cmp_eq, z_cmp, Decidable.not_not, w_ie, w_in, w_il, w_le, w_ln, w_li, w_ir, w_lr, ln_P_tape, ln_W_text, ln_W_starts, ln_W_ends, ln_W_lines, ln_W_names, ln_W_values, ln_PL_jobs, ln_PL_parts, ln_FT_reached, ln_EX_jobs, ln_EX_codes, ln_CB_names, ln_CB_values, ln_M_tape, ln_M_source, ln_M_wordAt, ln_M_wordEnd, ln_M_names, ln_M_itemCount, ln_M_itemFirst, ln_M_itemWords, ln_M_itemUses, ln_M_keptAt, ln_M_keptEnd, ln_M_needCount, ln_M_axisCount, ln_M_valueCount, ln_M_needed, ln_M_axes, ln_M_values, ln_M_includes, ln_M_excludes, ln_M_pairCount, ln_M_pairName, ln_M_pairValue, ln_M_signCount, ln_M_signs, ln_M_signName, ln_M_signValue, ln_M_whose, ln_M_which, ln_M_pile, ln_M_reaches, ln_M_stepsOf, ln_M_known, ln_JB_needed, ln_JB_axes, ln_JS_used, ln_JS_stepWords, ln_PS_used, ln_PS_stepWords, ln_IN_rows, ln_EC_rows, ln_IR_names, ln_IR_values, ln_ER_names, ln_ER_values, ln_CD_kinds, ln_CD_names, ln_CD_values, ln_AX_values] <;> omega) | assumption) (by first | with_reducible assumption | exact rf_jobs H (by omega) | (simp (disch := omega) only [z_0, z_1, z_2, z_3, z_4, z_5, z_6, z_7, z_8, z_9, z_10, z_12, z_13, z_20, z_21, z_25, z_56, z_350, z_31, z_32, z_36, z_48, z_57, z_61, z_97, z_100, z_122, z_125, z_126, z_144, z_255, z_700, z_1000, z_1548, nI_add, pk_mul, pk_sub, nI_clamp, nI_leI, nI_ltI, nI_eq, z_in, z_m1, z_m1b, lg_cmp_eq, z_cmp, Decidable.not_not, w_ie, w_in, w_il, w_le, w_ln, w_li, w_ir, w_lr]; exact rf_jobs H (by omega)) | (simp (disch := omega) only [z_0, z_1, z_2, z_3, z_4, z_5, z_6, z_7, z_8, z_9, z_10, z_12, z_13, z_20, z_21, z_25, z_56, z_350, z_31, z_32, z_36, z_48, z_57, z_61, z_97, z_100, z_122, z_125, z_126, z_144, z_255, z_700, z_1000, z_1548, nI_add, pk_mul, pk_sub, nI_clamp, nI_leI, nI_ltI, nI_eq, z_in, z_m1, z_m1b, lg_cmp_eq, z_cmp, Decidable.not_not, w_ie, w_in, w_il, w_le, w_ln, w_li, w_ir, w_lr]; assumption) | assumption) (by first | with_reducible assumption | with_reducible exact kd_JB _ (by omega) | assumption) (by first | with_reducible assumption | exact rf_JB_condition H (by omega) | assumption) (by first | with_reducible assumption | with_reducible exact kd_CD _ (by omega) | assumption) (by omega) (s98 (by omega) H hP (by omega) c5 ?_))
        rw [c4.2.2.2.1]
        cases hb2 : (akM (P.jr i).2.2.2.2.1).any (mJ P) with
        | true =>
          have : f1 P i = true := by unfold f1; rw [hb, hb2]; rfl
          rw [if_pos this] at hq
          exact kb_111_36 (fun c => absurd c (by decide)) (fun _ => kb_111_39 hq)
        | false =>
          have : ¬ f1 P i = true := by unfold f1; rw [hb, hb2]; decide
          rw [if_neg this] at hq
          refine kb_111_36 (fun _ => kb_111_41 ?_) (fun c => absurd rfl c)
          rw [nI_1]
          exact ih (i + 1) (by omega) hq
  exact loop P.nj 0 (by omega) kk
/-- Faults.usesMissing -/
theorem s114 {s : Nat} (hd : 1 ≤ d) (H : mj_RS h) (hP : PlC h P) (hs : isS s) (hS : ScC h s (P.sc k)) (kk : Q (some (.int (b2i (f2 P k)))) h) : mr_C mj_KK d 114 [.ref 9, .ref s] h Q := by
  show mr_M mj_KK d 114 0 [some (.ref 9), some (.ref s), none] [] h Q
  obtain ⟨z1, z2, z3, z4, z5, z6, z7⟩ := hs
  have z8 : h.2.2 s 1 = some (s + 1) := H _ z6
  obtain ⟨-, x1, x2, x3⟩ := hS
  unfold f2 at kk
  generalize hxs : (P.sc k).2 = xs at *
  refine kb_114_0 ?_
  have loop : ∀ n i, i + n = xs.length → (∀ k, k < i → (decide (¬ (xs.getD k (0, 0, 0)).1 = 0) && mP P (xs.getD k (0, 0, 0)).1) = false) → mr_M mj_KK d 114 2 [some (.ref 9), some (.ref s), some (.int (nI i))] [] h Q := by
    intro n
    induction n with
    | zero =>
      intro i hi hq
      rw [any_f (x := (0, 0, 0)) (fun k hk => hq k (by omega))] at kk
      exact kb_114_2 (by first | with_reducible assumption | with_reducible exact kd_JS _ (by omega) | with_reducible exact kd_PS _ (by omega) | assumption) (fun _ => kb_114_43 kk) (fun c => (by simp (disch := omega) only [z_0, z_1, z_2, z_3, z_4, z_5, z_6, z_7, z_8, z_9, z_10, z_12, z_13, z_20, z_21, z_25, z_56, z_350, z_31, z_32, z_36, z_48, z_57, z_61, z_97, z_100, z_122, z_125, z_126, z_144, z_255, z_700, z_1000, z_1548, nI_add, pk_mul, pk_sub, nI_clamp, nI_leI, nI_ltI, nI_eq, z_in, z_m1, z_m1b, lg_cmp_eq, z_cmp, Decidable.not_not, w_ie, w_in, w_il, w_le, w_ln, w_li, w_ir, w_lr, x1] at c; exfalso; omega))
    | succ n ih =>
      intro i hi hq
      obtain ⟨e0, -⟩ := x3 i (by omega)
      have nx : (decide (¬ (xs.getD i (0, 0, 0)).1 = 0) && mP P (xs.getD i (0, 0, 0)).1) = false → mr_M mj_KK d 114 37 [some (.ref 9), some (.ref s), some (.int (nI i))] [] h Q := by
        intro q
        refine kb_114_37 ?_
        rw [nI_1]
        exact ih (i + 1) (by omega) (lt_s hq q)
      refine kb_114_2 (by first | with_reducible assumption | with_reducible exact kd_JS _ (by omega) | with_reducible exact kd_PS _ (by omega) | assumption) (fun c => (by simp (disch := omega) only [z_0, z_1, z_2, z_3, z_4, z_5, z_6, z_7, z_8, z_9, z_10, z_12, z_13, z_20, z_21, z_25, z_56, z_350, z_31, z_32, z_36, z_48, z_57, z_61, z_97, z_100, z_122, z_125, z_126, z_144, z_255, z_700, z_1000, z_1548, nI_add, pk_mul, pk_sub, nI_clamp, nI_leI, nI_ltI, nI_eq, z_in, z_m1, z_m1b, lg_cmp_eq, z_cmp, Decidable.not_not, w_ie, w_in, w_il, w_le, w_ln, w_li, w_ir, w_lr, x1] at c; exfalso; omega)) (fun _ => kb_114_10 (by first | with_reducible assumption | with_reducible exact kd_JS _ (by omega) | with_reducible exact kd_PS _ (by omega) | assumption) (by first | with_reducible assumption | exact rf_JS_used H (by omega) | exact rf_PS_used H (by omega) | assumption) (by first | with_reducible assumption | with_reducible exact kd_JS_used _ (by omega) | with_reducible exact kd_PS_used _ (by omega) | assumption) (by first | with_reducible assumption | (simp (disch := omega) only [z_0, z_1, z_2, z_3, z_4, z_5, z_6, z_7, z_8, z_9, z_10, z_12, z_13, z_20, z_21, z_25, z_56, z_350, z_31, z_32, z_36, z_48, z_57, z_61, z_97, z_100, z_122, z_125, z_126, z_144, z_255, z_700, z_1000, z_1548, nI_add, pk_mul, pk_sub, nI_clamp, nI_leI, nI_ltI, nI_eq, z_in, z_m1, z_m1b, lg_cmp_eq, z_cmp, Decidable.not_not, w_ie, w_in, w_il, w_le, w_ln, w_li, w_ir, w_lr, z3, ln_P_tape, ln_W_text, ln_W_starts, ln_W_ends, ln_W_lines, ln_W_names, ln_W_values, ln_PL_jobs, ln_PL_parts, ln_FT_reached, ln_EX_jobs, ln_EX_codes, ln_CB_names, ln_CB_values, ln_M_tape, ln_M_source, ln_M_wordAt, ln_M_wordEnd, ln_M_names, ln_M_itemCount, ln_M_itemFirst, ln_M_itemWords, ln_M_itemUses, ln_M_keptAt, ln_M_keptEnd, ln_M_needCount, ln_M_axisCount, ln_M_valueCount, ln_M_needed, ln_M_axes, ln_M_values, ln_M_includes, ln_M_excludes, ln_M_pairCount, ln_M_pairName, ln_M_pairValue, ln_M_signCount, ln_M_signs, ln_M_signName, ln_M_signValue, ln_M_whose, ln_M_which, ln_M_pile, ln_M_reaches, ln_M_stepsOf, ln_M_known, ln_JB_needed, ln_JB_axes, ln_JS_used, ln_JS_stepWords, ln_PS_used, ln_PS_stepWords, ln_IN_rows, ln_EC_rows, ln_IR_names, ln_IR_values, ln_ER_names, ln_ER_values, ln_CD_kinds, ln_CD_names, ln_CD_values, ln_AX_values] <;> omega) | assumption) (fun c => nx ?_) (fun c => kb_114_21 (by first | with_reducible assumption | with_reducible exact kd_JS _ (by omega) | with_reducible exact kd_PS _ (by omega) | assumption) (by first | with_reducible assumption | exact rf_JS_used H (by omega) | exact rf_PS_used H (by omega) | assumption) (by first | with_reducible assumption | with_reducible exact kd_JS_used _ (by omega) | with_reducible exact kd_PS_used _ (by omega) | assumption) (by first | with_reducible assumption | (simp (disch := omega) only [z_0, z_1, z_2, z_3, z_4, z_5, z_6, z_7, z_8, z_9, z_10, z_12, z_13, z_20, z_21, z_25, z_56, z_350, z_31, z_32, z_36, z_48, z_57, z_61, z_97, z_100, z_122, z_125, z_126, z_144, z_255, z_700, z_1000, z_1548, nI_add, pk_mul, pk_sub, nI_clamp, nI_leI, nI_ltI, nI_eq, z_in, z_m1, z_m1b, lg_cmp_eq, z_cmp, Decidable.not_not, w_ie, w_in, w_il, w_le, w_ln, w_li, w_ir, w_lr, z3, ln_P_tape, ln_W_text, ln_W_starts, ln_W_ends, ln_W_lines, ln_W_names, ln_W_values, ln_PL_jobs, ln_PL_parts, ln_FT_reached, ln_EX_jobs, ln_EX_codes, ln_CB_names, ln_CB_values, ln_M_tape, ln_M_source, ln_M_wordAt, ln_M_wordEnd, ln_M_names, ln_M_itemCount, ln_M_itemFirst, ln_M_itemWords, ln_M_itemUses, ln_M_keptAt, ln_M_keptEnd, ln_M_needCount, ln_M_axisCount, ln_M_valueCount, ln_M_needed, ln_M_axes, ln_M_values, ln_M_includes, ln_M_excludes, ln_M_pairCount, ln_M_pairName, ln_M_pairValue, ln_M_signCount, ln_M_signs, ln_M_signName, ln_M_signValue, ln_M_whose, ln_M_which, ln_M_pile, ln_M_reaches, ln_M_stepsOf, ln_M_known, ln_JB_needed, ln_JB_axes, ln_JS_used, ln_JS_stepWords, ln_PS_used, ln_PS_stepWords, ln_IN_rows, ln_EC_rows, ln_IR_names, ln_IR_values, ln_ER_names, ln_ER_values, ln_CD_kinds, ln_CD_names, ln_CD_values, ln_AX_values] <;> omega) | assumption) (by first | with_reducible assumption | with_reducible exact kd_PL | assumption) (by omega) ?_))
      · simp (disch := omega) only [z_0, z_1, z_2, z_3, z_4, z_5, z_6, z_7, z_8, z_9, z_10, z_12, z_13, z_20, z_21, z_25, z_56, z_350, z_31, z_32, z_36, z_48, z_57, z_61, z_97, z_100, z_122, z_125, z_126, z_144, z_255, z_700, z_1000, z_1548, nI_add, pk_mul, pk_sub, nI_clamp, nI_leI, nI_ltI, nI_eq, z_in, z_m1, z_m1b, lg_cmp_eq, z_cmp, Decidable.not_not, w_ie, w_in, w_il, w_le, w_ln, w_li, w_ir, w_lr, e0] at c
        rw [decide_eq_false (fun r => r c), Bool.false_and]
      · simp (disch := omega) only [z_0, z_1, z_2, z_3, z_4, z_5, z_6, z_7, z_8, z_9, z_10, z_12, z_13, z_20, z_21, z_25, z_56, z_350, z_31, z_32, z_36, z_48, z_57, z_61, z_97, z_100, z_122, z_125, z_126, z_144, z_255, z_700, z_1000, z_1548, nI_add, pk_mul, pk_sub, nI_clamp, nI_leI, nI_ltI, nI_eq, z_in, z_m1, z_m1b, lg_cmp_eq, z_cmp, Decidable.not_not, w_ie, w_in, w_il, w_le, w_ln, w_li, w_ir, w_lr, e0] at c
        rw [nI_clamp (by omega), e0]
        refine s143P H hP (kb_114_31 (fun c2 => nx ?_) (fun c2 => kb_114_35 ?_))
        · unfold mP
          rw [decide_eq_false c2, Bool.and_false]
        · rw [Decidable.not_not] at c2
          rw [any_t (x := (0, 0, 0)) (i := i) (by omega) (by unfold mP; rw [decide_eq_true c2, decide_eq_true c]; rfl)] at kk
          exact kk
  exact loop xs.length 0 (by omega) lt_0
/-- the second fault's teller -/
def g2 (P : mj_P) : Int32 := if ¬ fi (f2 P) 0 P.nj = -1 then fi (f2 P) 0 P.nj else if ¬ fi (fun p => f2 P (12 + p)) 0 P.np = -1 then 100 + fi (fun p => f2 P (12 + p)) 0 P.np else -1
/-- Faults.sectionThatUsesMissing -/
theorem s113 (hd : 2 ≤ d) (H : mj_RS h) (hP : PlC h P) (kk : Q (some (.int (g2 P))) h) : mr_C mj_KK d 113 [.ref 9] h Q := by
  show mr_M mj_KK d 113 0 [some (.ref 9), none] [] h Q
  have a1 := hP.1
  have a2 := hP.2.1
  have a3 := hP.2.2.1
  have a4 := hP.2.2.2.1
  unfold g2 at kk
  refine kb_113_0 ?_
  have loop2 : fi (f2 P) 0 P.nj = -1 → ∀ n i, i + n = P.np → fi (fun p => f2 P (12 + p)) i n = fi (fun p => f2 P (12 + p)) 0 P.np → mr_M mj_KK d 113 36 [some (.ref 9), some (.int (nI i))] [] h Q := by
    intro h1 n
    rw [if_neg (fun r => r h1)] at kk
    induction n with
    | zero =>
      intro i hi hq
      have e0 : fi (fun p => f2 P (12 + p)) i 0 = -1 := rfl
      rw [← hq, e0, if_neg (fun r => r rfl)] at kk
      exact kb_113_36 (by first | with_reducible assumption | with_reducible exact kd_PL | assumption) (fun _ => kb_113_68 kk) (fun c => (by simp (disch := omega) only [z_0, z_1, z_2, z_3, z_4, z_5, z_6, z_7, z_8, z_9, z_10, z_12, z_13, z_20, z_21, z_25, z_56, z_350, z_31, z_32, z_36, z_48, z_57, z_61, z_97, z_100, z_122, z_125, z_126, z_144, z_255, z_700, z_1000, z_1548, nI_add, pk_mul, pk_sub, nI_clamp, nI_leI, nI_ltI, nI_eq, z_in, z_m1, z_m1b, lg_cmp_eq, z_cmp, Decidable.not_not, w_ie, w_in, w_il, w_le, w_ln, w_li, w_ir, w_lr, a3] at c; exfalso; omega))
    | succ n ih =>
      intro i hi hq
      have hi8 : i < 8 := by omega
      have e : fi (fun p => f2 P (12 + p)) i (n + 1) = if f2 P (12 + i) then nI i else fi (fun p => f2 P (12 + p)) (i + 1) n := rfl
      rw [e] at hq
      refine kb_113_36 (by first | with_reducible assumption | with_reducible exact kd_PL | assumption) (fun c => (by simp (disch := omega) only [z_0, z_1, z_2, z_3, z_4, z_5, z_6, z_7, z_8, z_9, z_10, z_12, z_13, z_20, z_21, z_25, z_56, z_350, z_31, z_32, z_36, z_48, z_57, z_61, z_97, z_100, z_122, z_125, z_126, z_144, z_255, z_700, z_1000, z_1548, nI_add, pk_mul, pk_sub, nI_clamp, nI_leI, nI_ltI, nI_eq, z_in, z_m1, z_m1b, lg_cmp_eq, z_cmp, Decidable.not_not, w_ie, w_in, w_il, w_le, w_ln, w_li, w_ir, w_lr, a3] at c; exfalso; omega)) (fun _ => kb_113_44 (by first | with_reducible assumption | with_reducible exact kd_PL | assumption) (by first | with_reducible assumption | exact rf_PL_parts H | assumption) (by first | with_reducible assumption | with_reducible exact kd_PL_parts | assumption) (by first | with_reducible assumption | (simp (disch := omega) only [z_0, z_1, z_2, z_3, z_4, z_5, z_6, z_7, z_8, z_9, z_10, z_12, z_13, z_20, z_21, z_25, z_56, z_350, z_31, z_32, z_36, z_48, z_57, z_61, z_97, z_100, z_122, z_125, z_126, z_144, z_255, z_700, z_1000, z_1548, nI_add, pk_mul, pk_sub, nI_clamp, nI_leI, nI_ltI, nI_eq, z_in, z_m1, z_m1b, lg_cmp_eq, z_cmp, Decidable.not_not, w_ie, w_in, w_il, w_le, w_ln, w_li, w_ir, w_lr, ln_P_tape, ln_W_text, ln_W_starts, ln_W_ends, ln_W_lines, ln_W_names, ln_W_values, ln_PL_jobs, ln_PL_parts, ln_FT_reached, ln_EX_jobs, ln_EX_codes, ln_CB_names, ln_CB_values, ln_M_tape, ln_M_source, ln_M_wordAt, ln_M_wordEnd, ln_M_names, ln_M_itemCount, ln_M_itemFirst, ln_M_itemWords, ln_M_itemUses, ln_M_keptAt, ln_M_keptEnd, ln_M_needCount, ln_M_axisCount, ln_M_valueCount, ln_M_needed, ln_M_axes, ln_M_values, ln_M_includes, ln_M_excludes, ln_M_pairCount, ln_M_pairName, ln_M_pairValue, ln_M_signCount, ln_M_signs, ln_M_signName, ln_M_signValue, ln_M_whose, ln_M_which, ln_M_pile, ln_M_reaches, ln_M_stepsOf, ln_M_known, ln_JB_needed, ln_JB_axes, ln_JS_used, ln_JS_stepWords, ln_PS_used, ln_PS_stepWords, ln_IN_rows, ln_EC_rows, ln_IR_names, ln_IR_values, ln_ER_names, ln_ER_values, ln_CD_kinds, ln_CD_names, ln_CD_values, ln_AX_values] <;> omega) | assumption) (by first | with_reducible assumption | exact rf_parts H (by omega) | (simp (disch := omega) only [z_0, z_1, z_2, z_3, z_4, z_5, z_6, z_7, z_8, z_9, z_10, z_12, z_13, z_20, z_21, z_25, z_56, z_350, z_31, z_32, z_36, z_48, z_57, z_61, z_97, z_100, z_122, z_125, z_126, z_144, z_255, z_700, z_1000, z_1548, nI_add, pk_mul, pk_sub, nI_clamp, nI_leI, nI_ltI, nI_eq, z_in, z_m1, z_m1b, lg_cmp_eq, z_cmp, Decidable.not_not, w_ie, w_in, w_il, w_le, w_ln, w_li, w_ir, w_lr]; exact rf_parts H (by omega)) | (simp (disch := omega) only [z_0, z_1, z_2, z_3, z_4, z_5, z_6, z_7, z_8, z_9, z_10, z_12, z_13, z_20, z_21, z_25, z_56, z_350, z_31, z_32, z_36, z_48, z_57, z_61, z_97, z_100, z_122, z_125, z_126, z_144, z_255, z_700, z_1000, z_1548, nI_add, pk_mul, pk_sub, nI_clamp, nI_leI, nI_ltI, nI_eq, z_in, z_m1, z_m1b, lg_cmp_eq, z_cmp, Decidable.not_not, w_ie, w_in, w_il, w_le, w_ln, w_li, w_ir, w_lr]; assumption) | assumption) (by omega) (s114 (k := 12 + i) (by omega) H hP (isS_PS hi8) (hP.2.2.2.2.2 i (by omega)) ?_))
      cases hb : f2 P (12 + i) with
      | true =>
        rw [if_pos hb] at hq
        rw [← hq, if_pos (m1_ne (by omega))] at kk
        exact kb_113_54 (fun c => absurd c (by decide)) (fun _ => kb_113_57 kk)
      | false =>
        rw [if_neg (by rw [hb]; decide)] at hq
        refine kb_113_54 (fun _ => kb_113_62 ?_) (fun c => absurd rfl c)
        rw [nI_1]
        exact ih (i + 1) (by omega) hq
  have loop : ∀ n i, i + n = P.nj → fi (f2 P) i n = fi (f2 P) 0 P.nj → mr_M mj_KK d 113 2 [some (.ref 9), some (.int (nI i))] [] h Q := by
    intro n
    induction n with
    | zero =>
      intro i hi hq
      exact kb_113_2 (by first | with_reducible assumption | with_reducible exact kd_PL | assumption) (fun _ => kb_113_34 (loop2 hq.symm P.np 0 (by omega) rfl)) (fun c => (by simp (disch := omega) only [z_0, z_1, z_2, z_3, z_4, z_5, z_6, z_7, z_8, z_9, z_10, z_12, z_13, z_20, z_21, z_25, z_56, z_350, z_31, z_32, z_36, z_48, z_57, z_61, z_97, z_100, z_122, z_125, z_126, z_144, z_255, z_700, z_1000, z_1548, nI_add, pk_mul, pk_sub, nI_clamp, nI_leI, nI_ltI, nI_eq, z_in, z_m1, z_m1b, lg_cmp_eq, z_cmp, Decidable.not_not, w_ie, w_in, w_il, w_le, w_ln, w_li, w_ir, w_lr, a1] at c; exfalso; omega))
    | succ n ih =>
      intro i hi hq
      have hi12 : i < 12 := by omega
      have e : fi (f2 P) i (n + 1) = if f2 P i then nI i else fi (f2 P) (i + 1) n := rfl
      rw [e] at hq
      refine kb_113_2 (by first | with_reducible assumption | with_reducible exact kd_PL | assumption) (fun c => (by simp (disch := omega) only [z_0, z_1, z_2, z_3, z_4, z_5, z_6, z_7, z_8, z_9, z_10, z_12, z_13, z_20, z_21, z_25, z_56, z_350, z_31, z_32, z_36, z_48, z_57, z_61, z_97, z_100, z_122, z_125, z_126, z_144, z_255, z_700, z_1000, z_1548, nI_add, pk_mul, pk_sub, nI_clamp, nI_leI, nI_ltI, nI_eq, z_in, z_m1, z_m1b, lg_cmp_eq, z_cmp, Decidable.not_not, w_ie, w_in, w_il, w_le, w_ln, w_li, w_ir, w_lr, a1] at c; exfalso; omega)) (fun _ => kb_113_10 (by first | with_reducible assumption | with_reducible exact kd_PL | assumption) (by first | with_reducible assumption | exact rf_PL_jobs H | assumption) (by first | with_reducible assumption | with_reducible exact kd_PL_jobs | assumption) (by first | with_reducible assumption | (simp (disch := omega) only [z_0, z_1, z_2, z_3, z_4, z_5, z_6, z_7, z_8, z_9, z_10, z_12, z_13, z_20, z_21, z_25, z_56, z_350, z_31, z_32, z_36, z_48, z_57, z_61, z_97, z_100, z_122, z_125, z_126, z_144, z_255, z_700, z_1000, z_1548, nI_add, pk_mul, pk_sub, nI_clamp, nI_leI, nI_ltI, nI_eq, z_in, z_m1, z_m1b, lg_cmp_eq, z_cmp, Decidable.not_not, w_ie, w_in, w_il, w_le, w_ln, w_li, w_ir, w_lr, ln_P_tape, ln_W_text, ln_W_starts, ln_W_ends, ln_W_lines, ln_W_names, ln_W_values, ln_PL_jobs, ln_PL_parts, ln_FT_reached, ln_EX_jobs, ln_EX_codes, ln_CB_names, ln_CB_values, ln_M_tape, ln_M_source, ln_M_wordAt, ln_M_wordEnd, ln_M_names, ln_M_itemCount, ln_M_itemFirst, ln_M_itemWords, ln_M_itemUses, ln_M_keptAt, ln_M_keptEnd, ln_M_needCount, ln_M_axisCount, ln_M_valueCount, ln_M_needed, ln_M_axes, ln_M_values, ln_M_includes, ln_M_excludes, ln_M_pairCount, ln_M_pairName, ln_M_pairValue, ln_M_signCount, ln_M_signs, ln_M_signName, ln_M_signValue, ln_M_whose, ln_M_which, ln_M_pile, ln_M_reaches, ln_M_stepsOf, ln_M_known, ln_JB_needed, ln_JB_axes, ln_JS_used, ln_JS_stepWords, ln_PS_used, ln_PS_stepWords, ln_IN_rows, ln_EC_rows, ln_IR_names, ln_IR_values, ln_ER_names, ln_ER_values, ln_CD_kinds, ln_CD_names, ln_CD_values, ln_AX_values] <;> omega) | assumption) (by first | with_reducible assumption | exact rf_jobs H (by omega) | (simp (disch := omega) only [z_0, z_1, z_2, z_3, z_4, z_5, z_6, z_7, z_8, z_9, z_10, z_12, z_13, z_20, z_21, z_25, z_56, z_350, z_31, z_32, z_36, z_48, z_57, z_61, z_97, z_100, z_122, z_125, z_126, z_144, z_255, z_700, z_1000, z_1548, nI_add, pk_mul, pk_sub, nI_clamp, nI_leI, nI_ltI, nI_eq, z_in, z_m1, z_m1b, lg_cmp_eq, z_cmp, Decidable.not_not, w_ie, w_in, w_il, w_le, w_ln, w_li, w_ir, w_lr]; exact rf_jobs H (by omega)) | (simp (disch := omega) only [z_0, z_1, z_2, z_3, z_4, z_5, z_6, z_7, z_8, z_9, z_10, z_12, z_13, z_20, z_21, z_25, z_56, z_350, z_31, z_32, z_36, z_48, z_57, z_61, z_97, z_100, z_122, z_125, z_126, z_144, z_255, z_700, z_1000, z_1548, nI_add, pk_mul, pk_sub, nI_clamp, nI_leI, nI_ltI, nI_eq, z_in, z_m1, z_m1b, lg_cmp_eq, z_cmp, Decidable.not_not, w_ie, w_in, w_il, w_le, w_ln, w_li, w_ir, w_lr]; assumption) | assumption) (by first | with_reducible assumption | with_reducible exact kd_JB _ (by omega) | assumption) (by first | with_reducible assumption | exact rf_JB_section H (by omega) | assumption) (by omega) (s114 (k := i) (by omega) H hP (isS_JS hi12) (hP.2.2.2.2.1 i (by omega)).1 ?_))
      cases hb : f2 P i with
      | true =>
        rw [if_pos hb] at hq
        rw [← hq, if_pos (m1_ne (by omega))] at kk
        exact kb_113_23 (fun c => absurd c (by decide)) (fun _ => kb_113_26 kk)
      | false =>
        rw [if_neg (by rw [hb]; decide)] at hq
        refine kb_113_23 (fun _ => kb_113_28 ?_) (fun c => absurd rfl c)
        rw [nI_1]
        exact ih (i + 1) (by omega) hq
  exact loop P.nj 0 (by omega) rfl
/-- Faults.bit -/
theorem bt_1 : ∀ i, i < 32 → bt 1 i = decide (i = 0) := by decide +kernel
theorem bt_bit {k i : Nat} (hk : k < 32) (hi : i < 32) : bt ((1 : Int32) <<< (nI k &&& 31)) i = decide (i = k) := by
  rw [b_shl k hk 1 hi]
  rcases Nat.lt_or_ge i k with q | q
  · rw [decide_eq_false (by omega), decide_eq_false (by omega), Bool.false_and]
  · rw [decide_eq_true q, Bool.true_and, bt_1 _ (by omega)]
    congr 1
    exact propext ⟨fun _ => by omega, fun _ => by omega⟩
theorem s118 {x : Int32} (hx : x = -1 ∨ ∃ k, k < 32 ∧ x = nI k) (kk : ∀ z, (∀ i, i < 32 → bt z i = decide (x = nI i)) → Q (some (.int z)) h) : mr_C mj_KK d 118 [.int x] h Q := by
  show mr_M mj_KK d 118 0 [some (.int x)] [] h Q
  rcases hx with e | ⟨k, hk, e⟩
  · refine kb_118_0 (fun c => absurd e c) (fun _ => kb_118_5 (kb_118_12 (kk 0 (fun i hi => ?_))))
    rw [b_0, e]
    exact (decide_eq_false (fun r => m1_ne (by omega) r.symm)).symm
  · refine kb_118_0 (fun _ => kb_118_9 (kb_118_12 (kk _ (fun i hi => ?_)))) (fun c => absurd (e ▸ m1_ne (by omega)) c)
    rw [e, bt_bit hk hi]
    congr 1
    exact propext ⟨fun r => by rw [r], fun r => ((nI_eq (by omega) (by omega)).mp r).symm⟩
theorem bt_and0 {x z : Int32} {k : Nat} (hk : k < 32) (hz : ∀ i, i < 32 → bt z i = decide (nI k = nI i)) : (x &&& z = 0) ↔ bt x k = false := by
  constructor
  · intro e
    have := congrArg (fun v => bt v k) e
    simp only [b_and, b_0, hz k hk, decide_true, Bool.and_true] at this
    exact this
  · intro e
    apply b_ext
    intro i hi
    rw [b_and, b_0, hz i hi]
    by_cases q : k = i
    · rw [← q, e, Bool.false_and]
    · rw [decide_eq_false (fun r => q ((nI_eq (by omega) (by omega)).mp r)), Bool.and_false]
def RB (h : mj_H) (n : Nat) (R : Nat → Nat → Bool) : Prop := ∀ a, a < n → ∀ i, i < 32 → bt (h.1 566 a) i = R a i
def inF : Nat → Nat → Prop := fun a _ => a = 566
/-- Faults.firstThatReachesItself -/
theorem s117 {n : Nat} {h0 : mj_H} {E : Nat → Nat → Bool} (hd : 1 ≤ d) (H0 : mj_RS h0) (hn : n ≤ 12) (hR : RB h0 n E) (kk : ∀ h', fr inF h0 h' → Q (some (.int (cyc n E))) h') : mr_C mj_KK d 117 [.ref 565, .int (nI n)] h0 Q := by
  show mr_M mj_KK d 117 0 [some (.ref 565), some (.int (nI n)), none, none] [] h0 Q
  refine kb_117_0 ?_
  have last : ∀ h, fr inF h0 h → RB h n (wf n E) → ∀ m i, i + m = n → fi (fun a => wf n E a a) i m = cyc n E → mr_M mj_KK d 117 57 [some (.ref 565), some (.int (nI n)), some (.int (nI i)), none] [] h Q := by
    intro h hf hb m
    have H := hf.rs H0
    have kk := kk h hf
    induction m with
    | zero =>
      intro i hi hq
      rw [← hq] at kk
      exact kb_117_57 (fun _ => kb_117_84 kk) (fun c => (by simp (disch := omega) only [z_0, z_1, z_2, z_3, z_4, z_5, z_6, z_7, z_8, z_9, z_10, z_12, z_13, z_20, z_21, z_25, z_56, z_350, z_31, z_32, z_36, z_48, z_57, z_61, z_97, z_100, z_122, z_125, z_126, z_144, z_255, z_700, z_1000, z_1548, nI_add, pk_mul, pk_sub, nI_clamp, nI_leI, nI_ltI, nI_eq, z_in, z_m1, z_m1b, lg_cmp_eq, z_cmp, Decidable.not_not, w_ie, w_in, w_il, w_le, w_ln, w_li, w_ir, w_lr] at c; exfalso; omega))
    | succ m ih =>
      intro i hi hq
      have e : fi (fun a => wf n E a a) i (m + 1) = if wf n E i i then nI i else fi (fun a => wf n E a a) (i + 1) m := rfl
      rw [e] at hq
      refine kb_117_57 (fun c => (by simp (disch := omega) only [z_0, z_1, z_2, z_3, z_4, z_5, z_6, z_7, z_8, z_9, z_10, z_12, z_13, z_20, z_21, z_25, z_56, z_350, z_31, z_32, z_36, z_48, z_57, z_61, z_97, z_100, z_122, z_125, z_126, z_144, z_255, z_700, z_1000, z_1548, nI_add, pk_mul, pk_sub, nI_clamp, nI_leI, nI_ltI, nI_eq, z_in, z_m1, z_m1b, lg_cmp_eq, z_cmp, Decidable.not_not, w_ie, w_in, w_il, w_le, w_ln, w_li, w_ir, w_lr] at c; exfalso; omega)) (fun _ => kb_117_62 (by first | with_reducible assumption | with_reducible exact kd_FT | assumption) (by first | with_reducible assumption | exact rf_FT_reached H | assumption) (by first | with_reducible assumption | with_reducible exact kd_FT_reached | assumption) (by first | with_reducible assumption | (simp (disch := omega) only [z_0, z_1, z_2, z_3, z_4, z_5, z_6, z_7, z_8, z_9, z_10, z_12, z_13, z_20, z_21, z_25, z_56, z_350, z_31, z_32, z_36, z_48, z_57, z_61, z_97, z_100, z_122, z_125, z_126, z_144, z_255, z_700, z_1000, z_1548, nI_add, pk_mul, pk_sub, nI_clamp, nI_leI, nI_ltI, nI_eq, z_in, z_m1, z_m1b, lg_cmp_eq, z_cmp, Decidable.not_not, w_ie, w_in, w_il, w_le, w_ln, w_li, w_ir, w_lr, ln_P_tape, ln_W_text, ln_W_starts, ln_W_ends, ln_W_lines, ln_W_names, ln_W_values, ln_PL_jobs, ln_PL_parts, ln_FT_reached, ln_EX_jobs, ln_EX_codes, ln_CB_names, ln_CB_values, ln_M_tape, ln_M_source, ln_M_wordAt, ln_M_wordEnd, ln_M_names, ln_M_itemCount, ln_M_itemFirst, ln_M_itemWords, ln_M_itemUses, ln_M_keptAt, ln_M_keptEnd, ln_M_needCount, ln_M_axisCount, ln_M_valueCount, ln_M_needed, ln_M_axes, ln_M_values, ln_M_includes, ln_M_excludes, ln_M_pairCount, ln_M_pairName, ln_M_pairValue, ln_M_signCount, ln_M_signs, ln_M_signName, ln_M_signValue, ln_M_whose, ln_M_which, ln_M_pile, ln_M_reaches, ln_M_stepsOf, ln_M_known, ln_JB_needed, ln_JB_axes, ln_JS_used, ln_JS_stepWords, ln_PS_used, ln_PS_stepWords, ln_IN_rows, ln_EC_rows, ln_IR_names, ln_IR_values, ln_ER_names, ln_ER_values, ln_CD_kinds, ln_CD_names, ln_CD_values, ln_AX_values] <;> omega) | assumption) (by omega) (s118 (Or.inr ⟨i, by omega, rfl⟩) (fun z hz => ?_)))
      rw [nI_clamp (by omega)]
      have ea := bt_and0 (x := h.1 566 i) (show i < 32 by omega) hz
      rw [hb i (by omega) i (by omega)] at ea
      refine kb_117_72 (fun c => kb_117_78 ?_) (fun c => kb_117_76 ?_)
      · rw [ea] at c
        rw [if_neg (by rw [c]; decide)] at hq
        rw [nI_1]
        exact ih (i + 1) (by omega) hq
      · rw [ea, Bool.not_eq_false] at c
        rw [if_pos c] at hq
        rw [hq]
        exact kk
  have outer : ∀ m k (h : mj_H), k + m = n → fr inF h0 h → RB h n (wf k E) → mr_M mj_KK d 117 2 [some (.ref 565), some (.int (nI n)), some (.int (nI k)), none] [] h Q := by
    intro m
    induction m with
    | zero =>
      intro k h hk hf hb
      have e : k = n := by omega
      subst e
      exact kb_117_2 (fun _ => kb_117_55 (last h hf hb k 0 (by omega) rfl)) (fun c => (by simp (disch := omega) only [z_0, z_1, z_2, z_3, z_4, z_5, z_6, z_7, z_8, z_9, z_10, z_12, z_13, z_20, z_21, z_25, z_56, z_350, z_31, z_32, z_36, z_48, z_57, z_61, z_97, z_100, z_122, z_125, z_126, z_144, z_255, z_700, z_1000, z_1548, nI_add, pk_mul, pk_sub, nI_clamp, nI_leI, nI_ltI, nI_eq, z_in, z_m1, z_m1b, lg_cmp_eq, z_cmp, Decidable.not_not, w_ie, w_in, w_il, w_le, w_ln, w_li, w_ir, w_lr] at c; exfalso; omega))
    | succ m ih =>
      intro k h hk hf hb
      refine kb_117_2 (fun c => (by simp (disch := omega) only [z_0, z_1, z_2, z_3, z_4, z_5, z_6, z_7, z_8, z_9, z_10, z_12, z_13, z_20, z_21, z_25, z_56, z_350, z_31, z_32, z_36, z_48, z_57, z_61, z_97, z_100, z_122, z_125, z_126, z_144, z_255, z_700, z_1000, z_1548, nI_add, pk_mul, pk_sub, nI_clamp, nI_leI, nI_ltI, nI_eq, z_in, z_m1, z_m1b, lg_cmp_eq, z_cmp, Decidable.not_not, w_ie, w_in, w_il, w_le, w_ln, w_li, w_ir, w_lr] at c; exfalso; omega)) (fun _ => kb_117_7 ?_)
      have inner : ∀ r f (h : mj_H), f + r = n → fr inF h0 h → (∀ a, a < n → ∀ i, i < 32 → bt (h.1 566 a) i = if a < f then wst (wf k E) k a i else wf k E a i) → mr_M mj_KK d 117 9 [some (.ref 565), some (.int (nI n)), some (.int (nI k)), some (.int (nI f))] [] h Q := by
        intro r
        induction r with
        | zero =>
          intro f h hfn hf hb
          refine kb_117_9 (fun _ => kb_117_49 ?_) (fun c => (by simp (disch := omega) only [z_0, z_1, z_2, z_3, z_4, z_5, z_6, z_7, z_8, z_9, z_10, z_12, z_13, z_20, z_21, z_25, z_56, z_350, z_31, z_32, z_36, z_48, z_57, z_61, z_97, z_100, z_122, z_125, z_126, z_144, z_255, z_700, z_1000, z_1548, nI_add, pk_mul, pk_sub, nI_clamp, nI_leI, nI_ltI, nI_eq, z_in, z_m1, z_m1b, lg_cmp_eq, z_cmp, Decidable.not_not, w_ie, w_in, w_il, w_le, w_ln, w_li, w_ir, w_lr] at c; exfalso; omega))
          rw [nI_1]
          refine ih (k + 1) h (by omega) hf (fun a ha i hi => ?_)
          rw [hb a ha i hi, if_pos (by omega)]
          rfl
        | succ r ih2 =>
          intro f h hfn hf hb
          have H := hf.rs H0
          refine kb_117_9 (fun c => (by simp (disch := omega) only [z_0, z_1, z_2, z_3, z_4, z_5, z_6, z_7, z_8, z_9, z_10, z_12, z_13, z_20, z_21, z_25, z_56, z_350, z_31, z_32, z_36, z_48, z_57, z_61, z_97, z_100, z_122, z_125, z_126, z_144, z_255, z_700, z_1000, z_1548, nI_add, pk_mul, pk_sub, nI_clamp, nI_leI, nI_ltI, nI_eq, z_in, z_m1, z_m1b, lg_cmp_eq, z_cmp, Decidable.not_not, w_ie, w_in, w_il, w_le, w_ln, w_li, w_ir, w_lr] at c; exfalso; omega)) (fun _ => kb_117_14 (by first | with_reducible assumption | with_reducible exact kd_FT | assumption) (by first | with_reducible assumption | exact rf_FT_reached H | assumption) (by first | with_reducible assumption | with_reducible exact kd_FT_reached | assumption) (by first | with_reducible assumption | (simp (disch := omega) only [z_0, z_1, z_2, z_3, z_4, z_5, z_6, z_7, z_8, z_9, z_10, z_12, z_13, z_20, z_21, z_25, z_56, z_350, z_31, z_32, z_36, z_48, z_57, z_61, z_97, z_100, z_122, z_125, z_126, z_144, z_255, z_700, z_1000, z_1548, nI_add, pk_mul, pk_sub, nI_clamp, nI_leI, nI_ltI, nI_eq, z_in, z_m1, z_m1b, lg_cmp_eq, z_cmp, Decidable.not_not, w_ie, w_in, w_il, w_le, w_ln, w_li, w_ir, w_lr, ln_P_tape, ln_W_text, ln_W_starts, ln_W_ends, ln_W_lines, ln_W_names, ln_W_values, ln_PL_jobs, ln_PL_parts, ln_FT_reached, ln_EX_jobs, ln_EX_codes, ln_CB_names, ln_CB_values, ln_M_tape, ln_M_source, ln_M_wordAt, ln_M_wordEnd, ln_M_names, ln_M_itemCount, ln_M_itemFirst, ln_M_itemWords, ln_M_itemUses, ln_M_keptAt, ln_M_keptEnd, ln_M_needCount, ln_M_axisCount, ln_M_valueCount, ln_M_needed, ln_M_axes, ln_M_values, ln_M_includes, ln_M_excludes, ln_M_pairCount, ln_M_pairName, ln_M_pairValue, ln_M_signCount, ln_M_signs, ln_M_signName, ln_M_signValue, ln_M_whose, ln_M_which, ln_M_pile, ln_M_reaches, ln_M_stepsOf, ln_M_known, ln_JB_needed, ln_JB_axes, ln_JS_used, ln_JS_stepWords, ln_PS_used, ln_PS_stepWords, ln_IN_rows, ln_EC_rows, ln_IR_names, ln_IR_values, ln_ER_names, ln_ER_values, ln_CD_kinds, ln_CD_names, ln_CD_values, ln_AX_values] <;> omega) | assumption) (by omega) (s118 (Or.inr ⟨k, by omega, rfl⟩) (fun z hz => ?_)))
          rw [nI_clamp (by omega)]
          have ea := bt_and0 (x := h.1 566 f) (show k < 32 by omega) hz
          rw [hb f (by omega) k (by omega), if_neg (Nat.lt_irrefl f)] at ea
          refine kb_117_24 (fun c => kb_117_43 ?_) (fun c => kb_117_28 (by first | with_reducible assumption | with_reducible exact kd_FT | assumption) (by first | with_reducible assumption | exact rf_FT_reached H | assumption) (by first | with_reducible assumption | with_reducible exact kd_FT_reached | assumption) (by first | with_reducible assumption | (simp (disch := omega) only [z_0, z_1, z_2, z_3, z_4, z_5, z_6, z_7, z_8, z_9, z_10, z_12, z_13, z_20, z_21, z_25, z_56, z_350, z_31, z_32, z_36, z_48, z_57, z_61, z_97, z_100, z_122, z_125, z_126, z_144, z_255, z_700, z_1000, z_1548, nI_add, pk_mul, pk_sub, nI_clamp, nI_leI, nI_ltI, nI_eq, z_in, z_m1, z_m1b, lg_cmp_eq, z_cmp, Decidable.not_not, w_ie, w_in, w_il, w_le, w_ln, w_li, w_ir, w_lr, ln_P_tape, ln_W_text, ln_W_starts, ln_W_ends, ln_W_lines, ln_W_names, ln_W_values, ln_PL_jobs, ln_PL_parts, ln_FT_reached, ln_EX_jobs, ln_EX_codes, ln_CB_names, ln_CB_values, ln_M_tape, ln_M_source, ln_M_wordAt, ln_M_wordEnd, ln_M_names, ln_M_itemCount, ln_M_itemFirst, ln_M_itemWords, ln_M_itemUses, ln_M_keptAt, ln_M_keptEnd, ln_M_needCount, ln_M_axisCount, ln_M_valueCount, ln_M_needed, ln_M_axes, ln_M_values, ln_M_includes, ln_M_excludes, ln_M_pairCount, ln_M_pairName, ln_M_pairValue, ln_M_signCount, ln_M_signs, ln_M_signName, ln_M_signValue, ln_M_whose, ln_M_which, ln_M_pile, ln_M_reaches, ln_M_stepsOf, ln_M_known, ln_JB_needed, ln_JB_axes, ln_JS_used, ln_JS_stepWords, ln_PS_used, ln_PS_stepWords, ln_IN_rows, ln_EC_rows, ln_IR_names, ln_IR_values, ln_ER_names, ln_ER_values, ln_CD_kinds, ln_CD_names, ln_CD_values, ln_AX_values] <;> omega) | assumption) (by first | with_reducible assumption | (simp (disch := omega) only [z_0, z_1, z_2, z_3, z_4, z_5, z_6, z_7, z_8, z_9, z_10, z_12, z_13, z_20, z_21, z_25, z_56, z_350, z_31, z_32, z_36, z_48, z_57, z_61, z_97, z_100, z_122, z_125, z_126, z_144, z_255, z_700, z_1000, z_1548, nI_add, pk_mul, pk_sub, nI_clamp, nI_leI, nI_ltI, nI_eq, z_in, z_m1, z_m1b, lg_cmp_eq, z_cmp, Decidable.not_not, w_ie, w_in, w_il, w_le, w_ln, w_li, w_ir, w_lr, ln_P_tape, ln_W_text, ln_W_starts, ln_W_ends, ln_W_lines, ln_W_names, ln_W_values, ln_PL_jobs, ln_PL_parts, ln_FT_reached, ln_EX_jobs, ln_EX_codes, ln_CB_names, ln_CB_values, ln_M_tape, ln_M_source, ln_M_wordAt, ln_M_wordEnd, ln_M_names, ln_M_itemCount, ln_M_itemFirst, ln_M_itemWords, ln_M_itemUses, ln_M_keptAt, ln_M_keptEnd, ln_M_needCount, ln_M_axisCount, ln_M_valueCount, ln_M_needed, ln_M_axes, ln_M_values, ln_M_includes, ln_M_excludes, ln_M_pairCount, ln_M_pairName, ln_M_pairValue, ln_M_signCount, ln_M_signs, ln_M_signName, ln_M_signValue, ln_M_whose, ln_M_which, ln_M_pile, ln_M_reaches, ln_M_stepsOf, ln_M_known, ln_JB_needed, ln_JB_axes, ln_JS_used, ln_JS_stepWords, ln_PS_used, ln_PS_stepWords, ln_IN_rows, ln_EC_rows, ln_IR_names, ln_IR_values, ln_ER_names, ln_ER_values, ln_CD_kinds, ln_CD_names, ln_CD_values, ln_AX_values] <;> omega) | assumption) (by first | with_reducible assumption | (simp (disch := omega) only [z_0, z_1, z_2, z_3, z_4, z_5, z_6, z_7, z_8, z_9, z_10, z_12, z_13, z_20, z_21, z_25, z_56, z_350, z_31, z_32, z_36, z_48, z_57, z_61, z_97, z_100, z_122, z_125, z_126, z_144, z_255, z_700, z_1000, z_1548, nI_add, pk_mul, pk_sub, nI_clamp, nI_leI, nI_ltI, nI_eq, z_in, z_m1, z_m1b, lg_cmp_eq, z_cmp, Decidable.not_not, w_ie, w_in, w_il, w_le, w_ln, w_li, w_ir, w_lr, ln_P_tape, ln_W_text, ln_W_starts, ln_W_ends, ln_W_lines, ln_W_names, ln_W_values, ln_PL_jobs, ln_PL_parts, ln_FT_reached, ln_EX_jobs, ln_EX_codes, ln_CB_names, ln_CB_values, ln_M_tape, ln_M_source, ln_M_wordAt, ln_M_wordEnd, ln_M_names, ln_M_itemCount, ln_M_itemFirst, ln_M_itemWords, ln_M_itemUses, ln_M_keptAt, ln_M_keptEnd, ln_M_needCount, ln_M_axisCount, ln_M_valueCount, ln_M_needed, ln_M_axes, ln_M_values, ln_M_includes, ln_M_excludes, ln_M_pairCount, ln_M_pairName, ln_M_pairValue, ln_M_signCount, ln_M_signs, ln_M_signName, ln_M_signValue, ln_M_whose, ln_M_which, ln_M_pile, ln_M_reaches, ln_M_stepsOf, ln_M_known, ln_JB_needed, ln_JB_axes, ln_JS_used, ln_JS_stepWords, ln_PS_used, ln_PS_stepWords, ln_IN_rows, ln_EC_rows, ln_IR_names, ln_IR_values, ln_ER_names, ln_ER_values, ln_CD_kinds, ln_CD_names, ln_CD_values, ln_AX_values] <;> omega) | assumption) (kb_117_43 ?_))
          · rw [ea] at c
            rw [nI_1]
            refine ih2 (f + 1) h (by omega) hf (fun a ha i hi => ?_)
            rw [hb a ha i hi]
            by_cases q : a = f
            · subst q
              rw [if_neg (Nat.lt_irrefl a), if_pos (Nat.lt_succ_self a)]
              unfold wst
              rw [c, Bool.false_and, Bool.or_false]
            · rcases Nat.lt_or_ge a f with w | w
              · rw [if_pos w, if_pos (by omega)]
              · rw [if_neg (by omega), if_neg (by omega)]
          · rw [ea, Bool.not_eq_false] at c
            rw [nI_1, nI_clamp (by omega), nI_clamp (by omega)]
            refine ih2 (f + 1) _ (by omega) (hf.wi rfl) (fun a ha i hi => ?_)
            by_cases q : a = f
            · subst q
              rw [w_ie ⟨rfl, rfl⟩, b_or, hb a ha i hi, if_neg (Nat.lt_irrefl a), if_pos (Nat.lt_succ_self a), hb k (by omega) i hi]
              have ek : (if k < a then wst (wf k E) k k i else wf k E k i) = wf k E k i := by
                split
                · exact wst_row
                · rfl
              rw [ek]
              unfold wst
              rw [c, Bool.true_and]
            · rw [w_in (Or.inr q), hb a ha i hi]
              rcases Nat.lt_or_ge a f with w | w
              · rw [if_pos w, if_pos (by omega)]
              · rw [if_neg (by omega), if_neg (by omega)]
      exact inner n 0 h (by omega) hf (fun a ha i hi => by rw [hb a ha i hi, if_neg (Nat.not_lt_zero a)])
  exact outer n 0 h0 (by omega) fr.rfl' hR
end
theorem PlC_F {h h' : mj_H} {P : mj_P} (A : PlC h P) (f : fr inF h h') : PlC h' P := A.fr f (fun a i h1 h2 h3 => by unfold inF; omega)
section
variable {d : Nat} {h0 : mj_H} {Q : Option Value → mj_H → Prop} {P : mj_P}
/-- Faults.partThatUsesItself -/
theorem s115 (hd : 2 ≤ d) (H0 : mj_RS h0) (hP : PlC h0 P) (kk : ∀ h', fr inF h0 h' → Q (some (.int (cyc P.np (E3 P)))) h') : mr_C mj_KK d 115 [.ref 565, .ref 9] h0 Q := by
  show mr_M mj_KK d 115 0 [some (.ref 565), some (.ref 9), none, none, none] [] h0 Q
  have a4 := hP.2.2.2.1
  refine kb_115_0 ?_
  have outer : ∀ m p (h : mj_H), p + m = P.np → fr inF h0 h → (∀ a, a < p → ∀ i, i < 32 → bt (h.1 566 a) i = E3 P a i) → mr_M mj_KK d 115 2 [some (.ref 565), some (.ref 9), some (.int (nI p)), none, none] [] h Q := by
    intro m
    induction m with
    | zero =>
      intro p h hp hf hb
      have H := hf.rs H0
      have hPh := PlC_F hP hf
      have a3 := hPh.2.2.1
      refine kb_115_2 (by first | with_reducible assumption | with_reducible exact kd_PL | assumption) (fun _ => kb_115_87 (by first | with_reducible assumption | with_reducible exact kd_PL | assumption) (by first | with_reducible assumption | with_reducible exact kd_FT | assumption) (by omega) ?_) (fun c => (by simp (disch := omega) only [z_0, z_1, z_2, z_3, z_4, z_5, z_6, z_7, z_8, z_9, z_10, z_12, z_13, z_20, z_21, z_25, z_56, z_350, z_31, z_32, z_36, z_48, z_57, z_61, z_97, z_100, z_122, z_125, z_126, z_144, z_255, z_700, z_1000, z_1548, nI_add, pk_mul, pk_sub, nI_clamp, nI_leI, nI_ltI, nI_eq, z_in, z_m1, z_m1b, lg_cmp_eq, z_cmp, Decidable.not_not, w_ie, w_in, w_il, w_le, w_ln, w_li, w_ir, w_lr, a3] at c; exfalso; omega))
      rw [a3]
      exact s117 (by omega) H (by omega) (fun a ha i hi => hb a (by omega) i hi) (fun h' g => kb_115_95 (kk h' (hf.trans g)))
    | succ m ih =>
      intro p h hp hf hb
      have H := hf.rs H0
      have hPh := PlC_F hP hf
      have a3 := hPh.2.2.1
      have hp8 : p < 8 := by omega
      have isp := isS_PS hp8
      obtain ⟨z1, z2, z3, z4, z5, z6, z7⟩ := isp
      refine kb_115_2 (by first | with_reducible assumption | with_reducible exact kd_PL | assumption) (fun c => (by simp (disch := omega) only [z_0, z_1, z_2, z_3, z_4, z_5, z_6, z_7, z_8, z_9, z_10, z_12, z_13, z_20, z_21, z_25, z_56, z_350, z_31, z_32, z_36, z_48, z_57, z_61, z_97, z_100, z_122, z_125, z_126, z_144, z_255, z_700, z_1000, z_1548, nI_add, pk_mul, pk_sub, nI_clamp, nI_leI, nI_ltI, nI_eq, z_in, z_m1, z_m1b, lg_cmp_eq, z_cmp, Decidable.not_not, w_ie, w_in, w_il, w_le, w_ln, w_li, w_ir, w_lr, a3] at c; exfalso; omega)) (fun _ => kb_115_10 (by first | with_reducible assumption | with_reducible exact kd_PL | assumption) (by first | with_reducible assumption | exact rf_PL_parts H | assumption) (by first | with_reducible assumption | with_reducible exact kd_PL_parts | assumption) (by first | with_reducible assumption | (simp (disch := omega) only [z_0, z_1, z_2, z_3, z_4, z_5, z_6, z_7, z_8, z_9, z_10, z_12, z_13, z_20, z_21, z_25, z_56, z_350, z_31, z_32, z_36, z_48, z_57, z_61, z_97, z_100, z_122, z_125, z_126, z_144, z_255, z_700, z_1000, z_1548, nI_add, pk_mul, pk_sub, nI_clamp, nI_leI, nI_ltI, nI_eq, z_in, z_m1, z_m1b, lg_cmp_eq, z_cmp, Decidable.not_not, w_ie, w_in, w_il, w_le, w_ln, w_li, w_ir, w_lr, ln_P_tape, ln_W_text, ln_W_starts, ln_W_ends, ln_W_lines, ln_W_names, ln_W_values, ln_PL_jobs, ln_PL_parts, ln_FT_reached, ln_EX_jobs, ln_EX_codes, ln_CB_names, ln_CB_values, ln_M_tape, ln_M_source, ln_M_wordAt, ln_M_wordEnd, ln_M_names, ln_M_itemCount, ln_M_itemFirst, ln_M_itemWords, ln_M_itemUses, ln_M_keptAt, ln_M_keptEnd, ln_M_needCount, ln_M_axisCount, ln_M_valueCount, ln_M_needed, ln_M_axes, ln_M_values, ln_M_includes, ln_M_excludes, ln_M_pairCount, ln_M_pairName, ln_M_pairValue, ln_M_signCount, ln_M_signs, ln_M_signName, ln_M_signValue, ln_M_whose, ln_M_which, ln_M_pile, ln_M_reaches, ln_M_stepsOf, ln_M_known, ln_JB_needed, ln_JB_axes, ln_JS_used, ln_JS_stepWords, ln_PS_used, ln_PS_stepWords, ln_IN_rows, ln_EC_rows, ln_IR_names, ln_IR_values, ln_ER_names, ln_ER_values, ln_CD_kinds, ln_CD_names, ln_CD_values, ln_AX_values] <;> omega) | assumption) (by first | with_reducible assumption | exact rf_parts H (by omega) | (simp (disch := omega) only [z_0, z_1, z_2, z_3, z_4, z_5, z_6, z_7, z_8, z_9, z_10, z_12, z_13, z_20, z_21, z_25, z_56, z_350, z_31, z_32, z_36, z_48, z_57, z_61, z_97, z_100, z_122, z_125, z_126, z_144, z_255, z_700, z_1000, z_1548, nI_add, pk_mul, pk_sub, nI_clamp, nI_leI, nI_ltI, nI_eq, z_in, z_m1, z_m1b, lg_cmp_eq, z_cmp, Decidable.not_not, w_ie, w_in, w_il, w_le, w_ln, w_li, w_ir, w_lr]; exact rf_parts H (by omega)) | (simp (disch := omega) only [z_0, z_1, z_2, z_3, z_4, z_5, z_6, z_7, z_8, z_9, z_10, z_12, z_13, z_20, z_21, z_25, z_56, z_350, z_31, z_32, z_36, z_48, z_57, z_61, z_97, z_100, z_122, z_125, z_126, z_144, z_255, z_700, z_1000, z_1548, nI_add, pk_mul, pk_sub, nI_clamp, nI_leI, nI_ltI, nI_eq, z_in, z_m1, z_m1b, lg_cmp_eq, z_cmp, Decidable.not_not, w_ie, w_in, w_il, w_le, w_ln, w_li, w_ir, w_lr]; assumption) | assumption) (by first | with_reducible assumption | with_reducible exact kd_FT | assumption) (by first | with_reducible assumption | exact rf_FT_reached H | assumption) (by first | with_reducible assumption | with_reducible exact kd_FT_reached | assumption) (by first | with_reducible assumption | (simp (disch := omega) only [z_0, z_1, z_2, z_3, z_4, z_5, z_6, z_7, z_8, z_9, z_10, z_12, z_13, z_20, z_21, z_25, z_56, z_350, z_31, z_32, z_36, z_48, z_57, z_61, z_97, z_100, z_122, z_125, z_126, z_144, z_255, z_700, z_1000, z_1548, nI_add, pk_mul, pk_sub, nI_clamp, nI_leI, nI_ltI, nI_eq, z_in, z_m1, z_m1b, lg_cmp_eq, z_cmp, Decidable.not_not, w_ie, w_in, w_il, w_le, w_ln, w_li, w_ir, w_lr, ln_P_tape, ln_W_text, ln_W_starts, ln_W_ends, ln_W_lines, ln_W_names, ln_W_values, ln_PL_jobs, ln_PL_parts, ln_FT_reached, ln_EX_jobs, ln_EX_codes, ln_CB_names, ln_CB_values, ln_M_tape, ln_M_source, ln_M_wordAt, ln_M_wordEnd, ln_M_names, ln_M_itemCount, ln_M_itemFirst, ln_M_itemWords, ln_M_itemUses, ln_M_keptAt, ln_M_keptEnd, ln_M_needCount, ln_M_axisCount, ln_M_valueCount, ln_M_needed, ln_M_axes, ln_M_values, ln_M_includes, ln_M_excludes, ln_M_pairCount, ln_M_pairName, ln_M_pairValue, ln_M_signCount, ln_M_signs, ln_M_signName, ln_M_signValue, ln_M_whose, ln_M_which, ln_M_pile, ln_M_reaches, ln_M_stepsOf, ln_M_known, ln_JB_needed, ln_JB_axes, ln_JS_used, ln_JS_stepWords, ln_PS_used, ln_PS_stepWords, ln_IN_rows, ln_EC_rows, ln_IR_names, ln_IR_values, ln_ER_names, ln_ER_values, ln_CD_kinds, ln_CD_names, ln_CD_values, ln_AX_values] <;> omega) | assumption) ?_)
      rw [nI_clamp (by omega)]
      have inner : ∀ r i (h : mj_H), i + r = (P.sc (12 + p)).2.length → fr inF h0 h → (∀ a, a < p → ∀ i, i < 32 → bt (h.1 566 a) i = E3 P a i) → (∀ q, q < 32 → bt (h.1 566 p) q = aT (fun i => decide (¬ ((P.sc (12 + p)).2.getD i (0, 0, 0)).1 = 0) && decide (pN P ((P.sc (12 + p)).2.getD i (0, 0, 0)).1 = nI q)) i) → mr_M mj_KK d 115 27 [some (.ref 565), some (.ref 9), some (.int (nI p)), some (.ref (540 + 3 * p)), some (.int (nI i))] [] h Q := by
        intro r
        induction r with
        | zero =>
          intro i h hi hf hb hc
          have hPh := PlC_F hP hf
          obtain ⟨-, x1, x2, x3⟩ := hPh.2.2.2.2.2 p (by omega)
          refine kb_115_27 (by first | with_reducible assumption | with_reducible exact kd_JS _ (by omega) | with_reducible exact kd_PS _ (by omega) | assumption) (fun _ => kb_115_81 ?_) (fun c => (by simp (disch := omega) only [z_0, z_1, z_2, z_3, z_4, z_5, z_6, z_7, z_8, z_9, z_10, z_12, z_13, z_20, z_21, z_25, z_56, z_350, z_31, z_32, z_36, z_48, z_57, z_61, z_97, z_100, z_122, z_125, z_126, z_144, z_255, z_700, z_1000, z_1548, nI_add, pk_mul, pk_sub, nI_clamp, nI_leI, nI_ltI, nI_eq, z_in, z_m1, z_m1b, lg_cmp_eq, z_cmp, Decidable.not_not, w_ie, w_in, w_il, w_le, w_ln, w_li, w_ir, w_lr, x1] at c; exfalso; omega))
          rw [nI_1]
          have ei : i = (P.sc (12 + p)).2.length := by omega
          refine ih (p + 1) h (by omega) hf (fun a ha q hq => ?_)
          rcases Nat.lt_or_ge a p with w | w
          · exact hb a w q hq
          · have : a = p := by omega
            subst this
            rw [hc q hq, ei]
            rfl
        | succ r ih2 =>
          intro i h hi hf hb hc
          have H := hf.rs H0
          have hPh := PlC_F hP hf
          have z8 : h.2.2 (540 + 3 * p) 1 = some (540 + 3 * p + 1) := H _ z6
          obtain ⟨-, x1, x2, x3⟩ := hPh.2.2.2.2.2 p (by omega)
          obtain ⟨e0, -⟩ := x3 i (by omega)
          have go : ∀ x : Int32, (x = -1 ∨ ∃ k, k < 32 ∧ x = nI k) → (∀ q, q < 32 → decide (x = nI q) = (decide (¬ ((P.sc (12 + p)).2.getD i (0, 0, 0)).1 = 0) && decide (pN P ((P.sc (12 + p)).2.getD i (0, 0, 0)).1 = nI q))) → mr_M mj_KK d 115 70 [some (.ref 565), some (.ref 9), some (.int (nI p)), some (.ref (540 + 3 * p)), some (.int (nI i))] [.int x, .int (h.1 566 p), .int (nI p), .ref 566] h Q := by
            intro x hx hxq
            refine kb_115_70 (by omega) (s118 hx (fun z hz => kb_115_73 (by first | with_reducible assumption | with_reducible exact kd_W_starts | with_reducible exact kd_W_ends | with_reducible exact kd_W_lines | with_reducible exact kd_FT_reached | with_reducible exact kd_EX_jobs | with_reducible exact kd_EX_codes | with_reducible exact kd_M_tape | with_reducible exact kd_M_source | with_reducible exact kd_M_wordAt | with_reducible exact kd_M_wordEnd | with_reducible exact kd_M_itemCount | with_reducible exact kd_M_itemFirst | with_reducible exact kd_M_itemWords | with_reducible exact kd_M_keptAt | with_reducible exact kd_M_keptEnd | with_reducible exact kd_M_needCount | with_reducible exact kd_M_axisCount | with_reducible exact kd_M_valueCount | with_reducible exact kd_M_includes | with_reducible exact kd_M_excludes | with_reducible exact kd_M_pairCount | with_reducible exact kd_M_signCount | with_reducible exact kd_M_signs | with_reducible exact kd_M_whose | with_reducible exact kd_M_which | with_reducible exact kd_M_pile | with_reducible exact kd_M_stepsOf | with_reducible exact kd_JS_stepWords _ (by omega) | with_reducible exact kd_PS_stepWords _ (by omega) | with_reducible exact kd_CD_kinds _ (by omega) | assumption) (by first | with_reducible assumption | (simp (disch := omega) only [z_0, z_1, z_2, z_3, z_4, z_5, z_6, z_7, z_8, z_9, z_10, z_12, z_13, z_20, z_21, z_25, z_56, z_350, z_31, z_32, z_36, z_48, z_57, z_61, z_97, z_100, z_122, z_125, z_126, z_144, z_255, z_700, z_1000, z_1548, nI_add, pk_mul, pk_sub, nI_clamp, nI_leI, nI_ltI, nI_eq, z_in, z_m1, z_m1b, lg_cmp_eq, z_cmp, Decidable.not_not, w_ie, w_in, w_il, w_le, w_ln, w_li, w_ir, w_lr, ln_P_tape, ln_W_text, ln_W_starts, ln_W_ends, ln_W_lines, ln_W_names, ln_W_values, ln_PL_jobs, ln_PL_parts, ln_FT_reached, ln_EX_jobs, ln_EX_codes, ln_CB_names, ln_CB_values, ln_M_tape, ln_M_source, ln_M_wordAt, ln_M_wordEnd, ln_M_names, ln_M_itemCount, ln_M_itemFirst, ln_M_itemWords, ln_M_itemUses, ln_M_keptAt, ln_M_keptEnd, ln_M_needCount, ln_M_axisCount, ln_M_valueCount, ln_M_needed, ln_M_axes, ln_M_values, ln_M_includes, ln_M_excludes, ln_M_pairCount, ln_M_pairName, ln_M_pairValue, ln_M_signCount, ln_M_signs, ln_M_signName, ln_M_signValue, ln_M_whose, ln_M_which, ln_M_pile, ln_M_reaches, ln_M_stepsOf, ln_M_known, ln_JB_needed, ln_JB_axes, ln_JS_used, ln_JS_stepWords, ln_PS_used, ln_PS_stepWords, ln_IN_rows, ln_EC_rows, ln_IR_names, ln_IR_values, ln_ER_names, ln_ER_values, ln_CD_kinds, ln_CD_names, ln_CD_values, ln_AX_values] <;> omega) | assumption) ?_))
            rw [nI_1, nI_clamp (by omega)]
            refine ih2 (i + 1) _ (by omega) (hf.wi rfl) (fun a ha q hq => ?_) (fun q hq => ?_)
            · rw [w_in (by omega)]
              exact hb a ha q hq
            · rw [w_ie ⟨rfl, rfl⟩, b_or, hc q hq, hz q hq, hxq q hq, aT_s]
          refine kb_115_27 (by first | with_reducible assumption | with_reducible exact kd_JS _ (by omega) | with_reducible exact kd_PS _ (by omega) | assumption) (fun c => (by simp (disch := omega) only [z_0, z_1, z_2, z_3, z_4, z_5, z_6, z_7, z_8, z_9, z_10, z_12, z_13, z_20, z_21, z_25, z_56, z_350, z_31, z_32, z_36, z_48, z_57, z_61, z_97, z_100, z_122, z_125, z_126, z_144, z_255, z_700, z_1000, z_1548, nI_add, pk_mul, pk_sub, nI_clamp, nI_leI, nI_ltI, nI_eq, z_in, z_m1, z_m1b, lg_cmp_eq, z_cmp, Decidable.not_not, w_ie, w_in, w_il, w_le, w_ln, w_li, w_ir, w_lr, x1] at c; exfalso; omega)) (fun _ => kb_115_36 (by first | with_reducible assumption | with_reducible exact kd_FT | assumption) (by first | with_reducible assumption | exact rf_FT_reached H | assumption) (by first | with_reducible assumption | with_reducible exact kd_FT_reached | assumption) (by first | with_reducible assumption | (simp (disch := omega) only [z_0, z_1, z_2, z_3, z_4, z_5, z_6, z_7, z_8, z_9, z_10, z_12, z_13, z_20, z_21, z_25, z_56, z_350, z_31, z_32, z_36, z_48, z_57, z_61, z_97, z_100, z_122, z_125, z_126, z_144, z_255, z_700, z_1000, z_1548, nI_add, pk_mul, pk_sub, nI_clamp, nI_leI, nI_ltI, nI_eq, z_in, z_m1, z_m1b, lg_cmp_eq, z_cmp, Decidable.not_not, w_ie, w_in, w_il, w_le, w_ln, w_li, w_ir, w_lr, z3, ln_P_tape, ln_W_text, ln_W_starts, ln_W_ends, ln_W_lines, ln_W_names, ln_W_values, ln_PL_jobs, ln_PL_parts, ln_FT_reached, ln_EX_jobs, ln_EX_codes, ln_CB_names, ln_CB_values, ln_M_tape, ln_M_source, ln_M_wordAt, ln_M_wordEnd, ln_M_names, ln_M_itemCount, ln_M_itemFirst, ln_M_itemWords, ln_M_itemUses, ln_M_keptAt, ln_M_keptEnd, ln_M_needCount, ln_M_axisCount, ln_M_valueCount, ln_M_needed, ln_M_axes, ln_M_values, ln_M_includes, ln_M_excludes, ln_M_pairCount, ln_M_pairName, ln_M_pairValue, ln_M_signCount, ln_M_signs, ln_M_signName, ln_M_signValue, ln_M_whose, ln_M_which, ln_M_pile, ln_M_reaches, ln_M_stepsOf, ln_M_known, ln_JB_needed, ln_JB_axes, ln_JS_used, ln_JS_stepWords, ln_PS_used, ln_PS_stepWords, ln_IN_rows, ln_EC_rows, ln_IR_names, ln_IR_values, ln_ER_names, ln_ER_values, ln_CD_kinds, ln_CD_names, ln_CD_values, ln_AX_values] <;> omega) | assumption) (by first | with_reducible assumption | with_reducible exact kd_JS _ (by omega) | with_reducible exact kd_PS _ (by omega) | assumption) (by first | with_reducible assumption | exact rf_JS_used H (by omega) | exact rf_PS_used H (by omega) | assumption) (by first | with_reducible assumption | with_reducible exact kd_JS_used _ (by omega) | with_reducible exact kd_PS_used _ (by omega) | assumption) (by first | with_reducible assumption | (simp (disch := omega) only [z_0, z_1, z_2, z_3, z_4, z_5, z_6, z_7, z_8, z_9, z_10, z_12, z_13, z_20, z_21, z_25, z_56, z_350, z_31, z_32, z_36, z_48, z_57, z_61, z_97, z_100, z_122, z_125, z_126, z_144, z_255, z_700, z_1000, z_1548, nI_add, pk_mul, pk_sub, nI_clamp, nI_leI, nI_ltI, nI_eq, z_in, z_m1, z_m1b, lg_cmp_eq, z_cmp, Decidable.not_not, w_ie, w_in, w_il, w_le, w_ln, w_li, w_ir, w_lr, z3, ln_P_tape, ln_W_text, ln_W_starts, ln_W_ends, ln_W_lines, ln_W_names, ln_W_values, ln_PL_jobs, ln_PL_parts, ln_FT_reached, ln_EX_jobs, ln_EX_codes, ln_CB_names, ln_CB_values, ln_M_tape, ln_M_source, ln_M_wordAt, ln_M_wordEnd, ln_M_names, ln_M_itemCount, ln_M_itemFirst, ln_M_itemWords, ln_M_itemUses, ln_M_keptAt, ln_M_keptEnd, ln_M_needCount, ln_M_axisCount, ln_M_valueCount, ln_M_needed, ln_M_axes, ln_M_values, ln_M_includes, ln_M_excludes, ln_M_pairCount, ln_M_pairName, ln_M_pairValue, ln_M_signCount, ln_M_signs, ln_M_signName, ln_M_signValue, ln_M_whose, ln_M_which, ln_M_pile, ln_M_reaches, ln_M_stepsOf, ln_M_known, ln_JB_needed, ln_JB_axes, ln_JS_used, ln_JS_stepWords, ln_PS_used, ln_PS_stepWords, ln_IN_rows, ln_EC_rows, ln_IR_names, ln_IR_values, ln_ER_names, ln_ER_values, ln_CD_kinds, ln_CD_names, ln_CD_values, ln_AX_values] <;> omega) | assumption) (fun c => kb_115_59 (by first | with_reducible assumption | with_reducible exact kd_JS _ (by omega) | with_reducible exact kd_PS _ (by omega) | assumption) (by first | with_reducible assumption | exact rf_JS_used H (by omega) | exact rf_PS_used H (by omega) | assumption) (by first | with_reducible assumption | with_reducible exact kd_JS_used _ (by omega) | with_reducible exact kd_PS_used _ (by omega) | assumption) (by first | with_reducible assumption | (simp (disch := omega) only [z_0, z_1, z_2, z_3, z_4, z_5, z_6, z_7, z_8, z_9, z_10, z_12, z_13, z_20, z_21, z_25, z_56, z_350, z_31, z_32, z_36, z_48, z_57, z_61, z_97, z_100, z_122, z_125, z_126, z_144, z_255, z_700, z_1000, z_1548, nI_add, pk_mul, pk_sub, nI_clamp, nI_leI, nI_ltI, nI_eq, z_in, z_m1, z_m1b, lg_cmp_eq, z_cmp, Decidable.not_not, w_ie, w_in, w_il, w_le, w_ln, w_li, w_ir, w_lr, z3, ln_P_tape, ln_W_text, ln_W_starts, ln_W_ends, ln_W_lines, ln_W_names, ln_W_values, ln_PL_jobs, ln_PL_parts, ln_FT_reached, ln_EX_jobs, ln_EX_codes, ln_CB_names, ln_CB_values, ln_M_tape, ln_M_source, ln_M_wordAt, ln_M_wordEnd, ln_M_names, ln_M_itemCount, ln_M_itemFirst, ln_M_itemWords, ln_M_itemUses, ln_M_keptAt, ln_M_keptEnd, ln_M_needCount, ln_M_axisCount, ln_M_valueCount, ln_M_needed, ln_M_axes, ln_M_values, ln_M_includes, ln_M_excludes, ln_M_pairCount, ln_M_pairName, ln_M_pairValue, ln_M_signCount, ln_M_signs, ln_M_signName, ln_M_signValue, ln_M_whose, ln_M_which, ln_M_pile, ln_M_reaches, ln_M_stepsOf, ln_M_known, ln_JB_needed, ln_JB_axes, ln_JS_used, ln_JS_stepWords, ln_PS_used, ln_PS_stepWords, ln_IN_rows, ln_EC_rows, ln_IR_names, ln_IR_values, ln_ER_names, ln_ER_values, ln_CD_kinds, ln_CD_names, ln_CD_values, ln_AX_values] <;> omega) | assumption) (by first | with_reducible assumption | with_reducible exact kd_PL | assumption) (by omega) ?_) (fun c => kb_115_55 ?_))
          · simp (disch := omega) only [z_0, z_1, z_2, z_3, z_4, z_5, z_6, z_7, z_8, z_9, z_10, z_12, z_13, z_20, z_21, z_25, z_56, z_350, z_31, z_32, z_36, z_48, z_57, z_61, z_97, z_100, z_122, z_125, z_126, z_144, z_255, z_700, z_1000, z_1548, nI_add, pk_mul, pk_sub, nI_clamp, nI_leI, nI_ltI, nI_eq, z_in, z_m1, z_m1b, lg_cmp_eq, z_cmp, Decidable.not_not, w_ie, w_in, w_il, w_le, w_ln, w_li, w_ir, w_lr, e0] at c
            rw [nI_clamp (by omega), nI_clamp (by omega), e0]
            refine s143P H hPh (go _ ?_ (fun q hq => ?_))
            · rcases pN_of (P := P) (y := ((P.sc (12 + p)).2.getD i (0, 0, 0)).1) with v | ⟨v, v1, v2⟩
              · exact Or.inl v
              · exact Or.inr ⟨v, by omega, v2⟩
            · rw [decide_eq_true c, Bool.true_and]
          · simp (disch := omega) only [z_0, z_1, z_2, z_3, z_4, z_5, z_6, z_7, z_8, z_9, z_10, z_12, z_13, z_20, z_21, z_25, z_56, z_350, z_31, z_32, z_36, z_48, z_57, z_61, z_97, z_100, z_122, z_125, z_126, z_144, z_255, z_700, z_1000, z_1548, nI_add, pk_mul, pk_sub, nI_clamp, nI_leI, nI_ltI, nI_eq, z_in, z_m1, z_m1b, lg_cmp_eq, z_cmp, Decidable.not_not, w_ie, w_in, w_il, w_le, w_ln, w_li, w_ir, w_lr, e0] at c
            rw [nI_clamp (by omega)]
            refine go (-1) (Or.inl rfl) (fun q hq => ?_)
            rw [decide_eq_false (show ¬ ¬ ((P.sc (12 + p)).2.getD i (0, 0, 0)).1 = 0 from fun r => r c), Bool.false_and]
            exact decide_eq_false (fun r => m1_ne (by omega) r.symm)
      refine inner (P.sc (12 + p)).2.length 0 _ (by omega) (hf.wi rfl) (fun a ha i hi => ?_) (fun q hq => ?_)
      · rw [w_in (by omega)]
        exact hb a ha i hi
      · rw [w_ie ⟨rfl, rfl⟩, b_0]
        rfl
  exact outer P.np 0 h0 (by omega) fr.rfl' (fun a ha => absurd ha (Nat.not_lt_zero a))
/-- Faults.jobThatNeedsItself -/
theorem s116 (hd : 2 ≤ d) (H0 : mj_RS h0) (hP : PlC h0 P) (kk : ∀ h', fr inF h0 h' → Q (some (.int (cyc P.nj (E4 P)))) h') : mr_C mj_KK d 116 [.ref 565, .ref 9] h0 Q := by
  show mr_M mj_KK d 116 0 [some (.ref 565), some (.ref 9), none, none, none] [] h0 Q
  have a2 := hP.2.1
  refine kb_116_0 ?_
  have outer : ∀ m p (h : mj_H), p + m = P.nj → fr inF h0 h → (∀ a, a < p → ∀ i, i < 32 → bt (h.1 566 a) i = E4 P a i) → mr_M mj_KK d 116 2 [some (.ref 565), some (.ref 9), some (.int (nI p)), none, none] [] h Q := by
    intro m
    induction m with
    | zero =>
      intro p h hp hf hb
      have H := hf.rs H0
      have hPh := PlC_F hP hf
      have a3 := hPh.1
      refine kb_116_2 (by first | with_reducible assumption | with_reducible exact kd_PL | assumption) (fun _ => kb_116_71 (by first | with_reducible assumption | with_reducible exact kd_PL | assumption) (by first | with_reducible assumption | with_reducible exact kd_FT | assumption) (by omega) ?_) (fun c => (by simp (disch := omega) only [z_0, z_1, z_2, z_3, z_4, z_5, z_6, z_7, z_8, z_9, z_10, z_12, z_13, z_20, z_21, z_25, z_56, z_350, z_31, z_32, z_36, z_48, z_57, z_61, z_97, z_100, z_122, z_125, z_126, z_144, z_255, z_700, z_1000, z_1548, nI_add, pk_mul, pk_sub, nI_clamp, nI_leI, nI_ltI, nI_eq, z_in, z_m1, z_m1b, lg_cmp_eq, z_cmp, Decidable.not_not, w_ie, w_in, w_il, w_le, w_ln, w_li, w_ir, w_lr, a3] at c; exfalso; omega))
      rw [a3]
      exact s117 (by omega) H (by omega) (fun a ha i hi => hb a (by omega) i hi) (fun h' g => kb_116_79 (kk h' (hf.trans g)))
    | succ m ih =>
      intro p h hp hf hb
      have H := hf.rs H0
      have hPh := PlC_F hP hf
      have a3 := hPh.1
      have hp8 : p < 12 := by omega
      refine kb_116_2 (by first | with_reducible assumption | with_reducible exact kd_PL | assumption) (fun c => (by simp (disch := omega) only [z_0, z_1, z_2, z_3, z_4, z_5, z_6, z_7, z_8, z_9, z_10, z_12, z_13, z_20, z_21, z_25, z_56, z_350, z_31, z_32, z_36, z_48, z_57, z_61, z_97, z_100, z_122, z_125, z_126, z_144, z_255, z_700, z_1000, z_1548, nI_add, pk_mul, pk_sub, nI_clamp, nI_leI, nI_ltI, nI_eq, z_in, z_m1, z_m1b, lg_cmp_eq, z_cmp, Decidable.not_not, w_ie, w_in, w_il, w_le, w_ln, w_li, w_ir, w_lr, a3] at c; exfalso; omega)) (fun _ => kb_116_10 (by first | with_reducible assumption | with_reducible exact kd_PL | assumption) (by first | with_reducible assumption | exact rf_PL_jobs H | assumption) (by first | with_reducible assumption | with_reducible exact kd_PL_jobs | assumption) (by first | with_reducible assumption | (simp (disch := omega) only [z_0, z_1, z_2, z_3, z_4, z_5, z_6, z_7, z_8, z_9, z_10, z_12, z_13, z_20, z_21, z_25, z_56, z_350, z_31, z_32, z_36, z_48, z_57, z_61, z_97, z_100, z_122, z_125, z_126, z_144, z_255, z_700, z_1000, z_1548, nI_add, pk_mul, pk_sub, nI_clamp, nI_leI, nI_ltI, nI_eq, z_in, z_m1, z_m1b, lg_cmp_eq, z_cmp, Decidable.not_not, w_ie, w_in, w_il, w_le, w_ln, w_li, w_ir, w_lr, ln_P_tape, ln_W_text, ln_W_starts, ln_W_ends, ln_W_lines, ln_W_names, ln_W_values, ln_PL_jobs, ln_PL_parts, ln_FT_reached, ln_EX_jobs, ln_EX_codes, ln_CB_names, ln_CB_values, ln_M_tape, ln_M_source, ln_M_wordAt, ln_M_wordEnd, ln_M_names, ln_M_itemCount, ln_M_itemFirst, ln_M_itemWords, ln_M_itemUses, ln_M_keptAt, ln_M_keptEnd, ln_M_needCount, ln_M_axisCount, ln_M_valueCount, ln_M_needed, ln_M_axes, ln_M_values, ln_M_includes, ln_M_excludes, ln_M_pairCount, ln_M_pairName, ln_M_pairValue, ln_M_signCount, ln_M_signs, ln_M_signName, ln_M_signValue, ln_M_whose, ln_M_which, ln_M_pile, ln_M_reaches, ln_M_stepsOf, ln_M_known, ln_JB_needed, ln_JB_axes, ln_JS_used, ln_JS_stepWords, ln_PS_used, ln_PS_stepWords, ln_IN_rows, ln_EC_rows, ln_IR_names, ln_IR_values, ln_ER_names, ln_ER_values, ln_CD_kinds, ln_CD_names, ln_CD_values, ln_AX_values] <;> omega) | assumption) (by first | with_reducible assumption | exact rf_jobs H (by omega) | (simp (disch := omega) only [z_0, z_1, z_2, z_3, z_4, z_5, z_6, z_7, z_8, z_9, z_10, z_12, z_13, z_20, z_21, z_25, z_56, z_350, z_31, z_32, z_36, z_48, z_57, z_61, z_97, z_100, z_122, z_125, z_126, z_144, z_255, z_700, z_1000, z_1548, nI_add, pk_mul, pk_sub, nI_clamp, nI_leI, nI_ltI, nI_eq, z_in, z_m1, z_m1b, lg_cmp_eq, z_cmp, Decidable.not_not, w_ie, w_in, w_il, w_le, w_ln, w_li, w_ir, w_lr]; exact rf_jobs H (by omega)) | (simp (disch := omega) only [z_0, z_1, z_2, z_3, z_4, z_5, z_6, z_7, z_8, z_9, z_10, z_12, z_13, z_20, z_21, z_25, z_56, z_350, z_31, z_32, z_36, z_48, z_57, z_61, z_97, z_100, z_122, z_125, z_126, z_144, z_255, z_700, z_1000, z_1548, nI_add, pk_mul, pk_sub, nI_clamp, nI_leI, nI_ltI, nI_eq, z_in, z_m1, z_m1b, lg_cmp_eq, z_cmp, Decidable.not_not, w_ie, w_in, w_il, w_le, w_ln, w_li, w_ir, w_lr]; assumption) | assumption) (by first | with_reducible assumption | with_reducible exact kd_FT | assumption) (by first | with_reducible assumption | exact rf_FT_reached H | assumption) (by first | with_reducible assumption | with_reducible exact kd_FT_reached | assumption) (by first | with_reducible assumption | (simp (disch := omega) only [z_0, z_1, z_2, z_3, z_4, z_5, z_6, z_7, z_8, z_9, z_10, z_12, z_13, z_20, z_21, z_25, z_56, z_350, z_31, z_32, z_36, z_48, z_57, z_61, z_97, z_100, z_122, z_125, z_126, z_144, z_255, z_700, z_1000, z_1548, nI_add, pk_mul, pk_sub, nI_clamp, nI_leI, nI_ltI, nI_eq, z_in, z_m1, z_m1b, lg_cmp_eq, z_cmp, Decidable.not_not, w_ie, w_in, w_il, w_le, w_ln, w_li, w_ir, w_lr, ln_P_tape, ln_W_text, ln_W_starts, ln_W_ends, ln_W_lines, ln_W_names, ln_W_values, ln_PL_jobs, ln_PL_parts, ln_FT_reached, ln_EX_jobs, ln_EX_codes, ln_CB_names, ln_CB_values, ln_M_tape, ln_M_source, ln_M_wordAt, ln_M_wordEnd, ln_M_names, ln_M_itemCount, ln_M_itemFirst, ln_M_itemWords, ln_M_itemUses, ln_M_keptAt, ln_M_keptEnd, ln_M_needCount, ln_M_axisCount, ln_M_valueCount, ln_M_needed, ln_M_axes, ln_M_values, ln_M_includes, ln_M_excludes, ln_M_pairCount, ln_M_pairName, ln_M_pairValue, ln_M_signCount, ln_M_signs, ln_M_signName, ln_M_signValue, ln_M_whose, ln_M_which, ln_M_pile, ln_M_reaches, ln_M_stepsOf, ln_M_known, ln_JB_needed, ln_JB_axes, ln_JS_used, ln_JS_stepWords, ln_PS_used, ln_PS_stepWords, ln_IN_rows, ln_EC_rows, ln_IR_names, ln_IR_values, ln_ER_names, ln_ER_values, ln_CD_kinds, ln_CD_names, ln_CD_values, ln_AX_values] <;> omega) | assumption) ?_)
      rw [nI_clamp (by omega)]
      have inner : ∀ r i (h : mj_H), i + r = (P.jr p).1.length → fr inF h0 h → (∀ a, a < p → ∀ i, i < 32 → bt (h.1 566 a) i = E4 P a i) → (∀ q, q < 32 → bt (h.1 566 p) q = aT (fun i => decide (jN P ((P.jr p).1.getD i 0) = nI q)) i) → mr_M mj_KK d 116 27 [some (.ref 565), some (.ref 9), some (.int (nI p)), some (.ref (12 + 44 * p)), some (.int (nI i))] [] h Q := by
        intro r
        induction r with
        | zero =>
          intro i h hi hf hb hc
          have hPh := PlC_F hP hf
          obtain ⟨x1, x2, x3⟩ := (hPh.2.2.2.2.1 p (by omega)).2.1
          refine kb_116_27 (by first | with_reducible assumption | with_reducible exact kd_JB _ (by omega) | assumption) (fun _ => kb_116_65 ?_) (fun c => (by simp (disch := omega) only [z_0, z_1, z_2, z_3, z_4, z_5, z_6, z_7, z_8, z_9, z_10, z_12, z_13, z_20, z_21, z_25, z_56, z_350, z_31, z_32, z_36, z_48, z_57, z_61, z_97, z_100, z_122, z_125, z_126, z_144, z_255, z_700, z_1000, z_1548, nI_add, pk_mul, pk_sub, nI_clamp, nI_leI, nI_ltI, nI_eq, z_in, z_m1, z_m1b, lg_cmp_eq, z_cmp, Decidable.not_not, w_ie, w_in, w_il, w_le, w_ln, w_li, w_ir, w_lr, x1] at c; exfalso; omega))
          rw [nI_1]
          have ei : i = (P.jr p).1.length := by omega
          refine ih (p + 1) h (by omega) hf (fun a ha q hq => ?_)
          rcases Nat.lt_or_ge a p with w | w
          · exact hb a w q hq
          · have : a = p := by omega
            subst this
            rw [hc q hq, ei]
            rfl
        | succ r ih2 =>
          intro i h hi hf hb hc
          have H := hf.rs H0
          have hPh := PlC_F hP hf
          obtain ⟨x1, x2, x3⟩ := (hPh.2.2.2.2.1 p (by omega)).2.1
          have e0 := x3 i (by omega)
          rw [Nat.zero_add] at e0
          refine kb_116_27 (by first | with_reducible assumption | with_reducible exact kd_JB _ (by omega) | assumption) (fun c => (by simp (disch := omega) only [z_0, z_1, z_2, z_3, z_4, z_5, z_6, z_7, z_8, z_9, z_10, z_12, z_13, z_20, z_21, z_25, z_56, z_350, z_31, z_32, z_36, z_48, z_57, z_61, z_97, z_100, z_122, z_125, z_126, z_144, z_255, z_700, z_1000, z_1548, nI_add, pk_mul, pk_sub, nI_clamp, nI_leI, nI_ltI, nI_eq, z_in, z_m1, z_m1b, lg_cmp_eq, z_cmp, Decidable.not_not, w_ie, w_in, w_il, w_le, w_ln, w_li, w_ir, w_lr, x1] at c; exfalso; omega)) (fun _ => kb_116_36 (by first | with_reducible assumption | with_reducible exact kd_FT | assumption) (by first | with_reducible assumption | exact rf_FT_reached H | assumption) (by first | with_reducible assumption | with_reducible exact kd_FT_reached | assumption) (by first | with_reducible assumption | (simp (disch := omega) only [z_0, z_1, z_2, z_3, z_4, z_5, z_6, z_7, z_8, z_9, z_10, z_12, z_13, z_20, z_21, z_25, z_56, z_350, z_31, z_32, z_36, z_48, z_57, z_61, z_97, z_100, z_122, z_125, z_126, z_144, z_255, z_700, z_1000, z_1548, nI_add, pk_mul, pk_sub, nI_clamp, nI_leI, nI_ltI, nI_eq, z_in, z_m1, z_m1b, lg_cmp_eq, z_cmp, Decidable.not_not, w_ie, w_in, w_il, w_le, w_ln, w_li, w_ir, w_lr, ln_P_tape, ln_W_text, ln_W_starts, ln_W_ends, ln_W_lines, ln_W_names, ln_W_values, ln_PL_jobs, ln_PL_parts, ln_FT_reached, ln_EX_jobs, ln_EX_codes, ln_CB_names, ln_CB_values, ln_M_tape, ln_M_source, ln_M_wordAt, ln_M_wordEnd, ln_M_names, ln_M_itemCount, ln_M_itemFirst, ln_M_itemWords, ln_M_itemUses, ln_M_keptAt, ln_M_keptEnd, ln_M_needCount, ln_M_axisCount, ln_M_valueCount, ln_M_needed, ln_M_axes, ln_M_values, ln_M_includes, ln_M_excludes, ln_M_pairCount, ln_M_pairName, ln_M_pairValue, ln_M_signCount, ln_M_signs, ln_M_signName, ln_M_signValue, ln_M_whose, ln_M_which, ln_M_pile, ln_M_reaches, ln_M_stepsOf, ln_M_known, ln_JB_needed, ln_JB_axes, ln_JS_used, ln_JS_stepWords, ln_PS_used, ln_PS_stepWords, ln_IN_rows, ln_EC_rows, ln_IR_names, ln_IR_values, ln_ER_names, ln_ER_values, ln_CD_kinds, ln_CD_names, ln_CD_values, ln_AX_values] <;> omega) | assumption) (by first | with_reducible assumption | with_reducible exact kd_JB _ (by omega) | assumption) (by first | with_reducible assumption | exact rf_JB_needed H (by omega) | assumption) (by first | with_reducible assumption | with_reducible exact kd_JB_needed _ (by omega) | assumption) (by first | with_reducible assumption | (simp (disch := omega) only [z_0, z_1, z_2, z_3, z_4, z_5, z_6, z_7, z_8, z_9, z_10, z_12, z_13, z_20, z_21, z_25, z_56, z_350, z_31, z_32, z_36, z_48, z_57, z_61, z_97, z_100, z_122, z_125, z_126, z_144, z_255, z_700, z_1000, z_1548, nI_add, pk_mul, pk_sub, nI_clamp, nI_leI, nI_ltI, nI_eq, z_in, z_m1, z_m1b, lg_cmp_eq, z_cmp, Decidable.not_not, w_ie, w_in, w_il, w_le, w_ln, w_li, w_ir, w_lr, ln_P_tape, ln_W_text, ln_W_starts, ln_W_ends, ln_W_lines, ln_W_names, ln_W_values, ln_PL_jobs, ln_PL_parts, ln_FT_reached, ln_EX_jobs, ln_EX_codes, ln_CB_names, ln_CB_values, ln_M_tape, ln_M_source, ln_M_wordAt, ln_M_wordEnd, ln_M_names, ln_M_itemCount, ln_M_itemFirst, ln_M_itemWords, ln_M_itemUses, ln_M_keptAt, ln_M_keptEnd, ln_M_needCount, ln_M_axisCount, ln_M_valueCount, ln_M_needed, ln_M_axes, ln_M_values, ln_M_includes, ln_M_excludes, ln_M_pairCount, ln_M_pairName, ln_M_pairValue, ln_M_signCount, ln_M_signs, ln_M_signName, ln_M_signValue, ln_M_whose, ln_M_which, ln_M_pile, ln_M_reaches, ln_M_stepsOf, ln_M_known, ln_JB_needed, ln_JB_axes, ln_JS_used, ln_JS_stepWords, ln_PS_used, ln_PS_stepWords, ln_IN_rows, ln_EC_rows, ln_IR_names, ln_IR_values, ln_ER_names, ln_ER_values, ln_CD_kinds, ln_CD_names, ln_CD_values, ln_AX_values] <;> omega) | assumption) (by first | with_reducible assumption | with_reducible exact kd_PL | assumption) (by omega) ?_)
          rw [nI_clamp (by omega), nI_clamp (by omega), e0]
          refine s142P H hPh (kb_116_54 (by omega) (s118 ?_ (fun z hz => kb_116_57 (by first | with_reducible assumption | with_reducible exact kd_W_starts | with_reducible exact kd_W_ends | with_reducible exact kd_W_lines | with_reducible exact kd_FT_reached | with_reducible exact kd_EX_jobs | with_reducible exact kd_EX_codes | with_reducible exact kd_M_tape | with_reducible exact kd_M_source | with_reducible exact kd_M_wordAt | with_reducible exact kd_M_wordEnd | with_reducible exact kd_M_itemCount | with_reducible exact kd_M_itemFirst | with_reducible exact kd_M_itemWords | with_reducible exact kd_M_keptAt | with_reducible exact kd_M_keptEnd | with_reducible exact kd_M_needCount | with_reducible exact kd_M_axisCount | with_reducible exact kd_M_valueCount | with_reducible exact kd_M_includes | with_reducible exact kd_M_excludes | with_reducible exact kd_M_pairCount | with_reducible exact kd_M_signCount | with_reducible exact kd_M_signs | with_reducible exact kd_M_whose | with_reducible exact kd_M_which | with_reducible exact kd_M_pile | with_reducible exact kd_M_stepsOf | with_reducible exact kd_JS_stepWords _ (by omega) | with_reducible exact kd_PS_stepWords _ (by omega) | with_reducible exact kd_CD_kinds _ (by omega) | assumption) (by first | with_reducible assumption | (simp (disch := omega) only [z_0, z_1, z_2, z_3, z_4, z_5, z_6, z_7, z_8, z_9, z_10, z_12, z_13, z_20, z_21, z_25, z_56, z_350, z_31, z_32, z_36, z_48, z_57, z_61, z_97, z_100, z_122, z_125, z_126, z_144, z_255, z_700, z_1000, z_1548, nI_add, pk_mul, pk_sub, nI_clamp, nI_leI, nI_ltI, nI_eq, z_in, z_m1, z_m1b, lg_cmp_eq, z_cmp, Decidable.not_not, w_ie, w_in, w_il, w_le, w_ln, w_li, w_ir, w_lr, ln_P_tape, ln_W_text, ln_W_starts, ln_W_ends, ln_W_lines, ln_W_names, ln_W_values, ln_PL_jobs, ln_PL_parts, ln_FT_reached, ln_EX_jobs, ln_EX_codes, ln_CB_names, ln_CB_values, ln_M_tape, ln_M_source, ln_M_wordAt, ln_M_wordEnd, ln_M_names, ln_M_itemCount, ln_M_itemFirst, ln_M_itemWords, ln_M_itemUses, ln_M_keptAt, ln_M_keptEnd, ln_M_needCount, ln_M_axisCount, ln_M_valueCount, ln_M_needed, ln_M_axes, ln_M_values, ln_M_includes, ln_M_excludes, ln_M_pairCount, ln_M_pairName, ln_M_pairValue, ln_M_signCount, ln_M_signs, ln_M_signName, ln_M_signValue, ln_M_whose, ln_M_which, ln_M_pile, ln_M_reaches, ln_M_stepsOf, ln_M_known, ln_JB_needed, ln_JB_axes, ln_JS_used, ln_JS_stepWords, ln_PS_used, ln_PS_stepWords, ln_IN_rows, ln_EC_rows, ln_IR_names, ln_IR_values, ln_ER_names, ln_ER_values, ln_CD_kinds, ln_CD_names, ln_CD_values, ln_AX_values] <;> omega) | assumption) ?_)))
          · rcases jN_of (P := P) (y := (P.jr p).1.getD i 0) with v | ⟨v, v1, v2⟩
            · exact Or.inl v
            · exact Or.inr ⟨v, by omega, v2⟩
          · rw [nI_1, nI_clamp (by omega)]
            refine ih2 (i + 1) _ (by omega) (hf.wi rfl) (fun a ha q hq => ?_) (fun q hq => ?_)
            · rw [w_in (by omega)]
              exact hb a ha q hq
            · rw [w_ie ⟨rfl, rfl⟩, b_or, hc q hq, hz q hq, aT_s]
      refine inner (P.jr p).1.length 0 _ (by omega) (hf.wi rfl) (fun a ha i hi => ?_) (fun q hq => ?_)
      · rw [w_in (by omega)]
        exact hb a ha i hi
      · rw [w_ie ⟨rfl, rfl⟩, b_0]
        rfl
  exact outer P.nj 0 h0 (by omega) fr.rfl' (fun a ha => absurd ha (Nat.not_lt_zero a))
def inFt : Nat → Nat → Prop := fun a _ => a = 565 ∨ a = 566
/-- Faults.tell -/
theorem s110 {h : mj_H} {f x : Int32} (k0 : x = -1 → Q (some (.int 0)) h) (k1 : ¬ x = -1 → ∀ h', h'.1 565 1 = f → h'.1 565 2 = x → fr inFt h h' → Q (some (.int 1)) h') : mr_C mj_KK d 110 [.ref 565, .int f, .int x] h Q := by
  show mr_M mj_KK d 110 0 [some (.ref 565), some (.int f), some (.int x)] [] h Q
  refine kb_110_0 (fun c => kb_110_7 (by first | with_reducible assumption | with_reducible exact kd_FT | assumption) (k1 c _ (by rw [w_in (by omega), w_ie ⟨rfl, rfl⟩]) (w_ie ⟨rfl, rfl⟩) ((fr.wi (P := inFt) fr.rfl' (Or.inl rfl)).wi (Or.inl rfl)))) (fun c => kb_110_5 (k0 (Decidable.not_not.mp c)))
theorem nI100 {n : Nat} : (100 : Int32) + nI n = nI (100 + n) := nI_add 100 n
theorem cyc_of {n : Nat} {E : Nat → Nat → Bool} : cyc n E = -1 ∨ ∃ q, q < n ∧ cyc n E = nI q := by
  rcases fi_spec (p := fun a => wf n E a a) (n := n) (i := 0) with ⟨a, b⟩ | ⟨k, a, b, c, e, f⟩
  · exact Or.inl a
  · exact Or.inr ⟨k, by omega, e⟩
/-- Faults.look -/
theorem s109 (hd : 4 ≤ d) (H0 : mj_RS h0) (hP : PlC h0 P) (hJ : ∀ j, JV (P.jr j)) (kk : ∀ h', h'.1 565 1 = (fc P).1 → h'.1 565 2 = (fc P).2 → fr inFt h0 h' → Q none h') : mr_C mj_KK d 109 [.ref 565, .ref 9] h0 Q := by
  show mr_M mj_KK d 109 0 [some (.ref 565), some (.ref 9), none] [] h0 Q
  have a2 := hP.2.1
  have a4 := hP.2.2.2.1
  refine kb_109_0 (by first | with_reducible assumption | with_reducible exact kd_FT | assumption) (by omega) ?_
  have f0 : fr inFt h0 (mj_w (mj_w h0 565 1 (.int 0)) 565 2 (.int (-1))) := (fr.wi (P := inFt) fr.rfl' (Or.inl rfl)).wi (Or.inl rfl)
  have r1 : (mj_w (mj_w h0 565 1 (.int 0)) 565 2 (.int (-1))).1 565 1 = 0 := by rw [w_in (by omega), w_ie ⟨rfl, rfl⟩]
  have r2 : (mj_w (mj_w h0 565 1 (.int 0)) 565 2 (.int (-1))).1 565 2 = -1 := w_ie ⟨rfl, rfl⟩
  generalize mj_w (mj_w h0 565 1 (.int 0)) 565 2 (.int (-1)) = h at f0 r1 r2
  have H := f0.rs H0
  have plc : ∀ {h'}, fr inFt h0 h' → PlC h' P := fun g => hP.fr g (fun a i h1 h2 h3 => by unfold inFt; omega)
  unfold fc at kk
  refine s111 (by omega) H (plc f0) hJ (kb_109_16 (by first | with_reducible assumption | with_reducible exact kd_FT | assumption) (by omega) (s110 (fun c1 => ?_) (fun c1 h' g1 g2' g3 => ?_)))
  rotate_left
  · rw [if_pos c1] at kk
    exact kb_109_19 (fun _ => kb_109_34 (kk h' g1 g2' (f0.trans g3))) (fun c => absurd (by decide) c)
  rw [if_neg (fun r => r c1)] at kk
  refine kb_109_19 (fun c => absurd rfl c) (fun _ => kb_109_22 (by omega) (s113 (by omega) H (plc f0) (kb_109_28 (by first | with_reducible assumption | with_reducible exact kd_FT | assumption) (by omega) (s110 (fun c2 => ?_) (fun c2 h' e1 e2 e3 => ?_)))))
  rotate_left
  · refine kb_109_31 (fun c => absurd c (by decide)) (fun _ => kb_109_34 ?_)
    unfold g2 at c2 e2
    by_cases q : fi (f2 P) 0 P.nj = -1
    · rw [if_neg (fun r => r q)] at c2 e2 kk
      by_cases q2 : fi (fun p => f2 P (12 + p)) 0 P.np = -1
      · rw [if_neg (fun r => r q2)] at c2
        exact absurd rfl c2
      · rw [if_pos q2] at e2 kk
        exact kk h' e1 e2 (f0.trans e3)
    · rw [if_pos q] at e2 kk
      exact kk h' e1 e2 (f0.trans e3)
  have q1 : fi (f2 P) 0 P.nj = -1 := by
    by_cases q : fi (f2 P) 0 P.nj = -1
    · exact q
    · unfold g2 at c2
      rw [if_pos q] at c2
      exact c2
  have q2 : fi (fun p => f2 P (12 + p)) 0 P.np = -1 := by
    rcases fi_spec (p := fun p => f2 P (12 + p)) (n := P.np) (i := 0) with ⟨a, b⟩ | ⟨k, a, b, c, e, f⟩
    · exact a
    · unfold g2 at c2
      rw [if_neg (fun r => r q1), if_pos (by rw [e]; exact m1_ne (by omega)), e, nI100] at c2
      exact absurd c2 (m1_ne (by omega))
  rw [if_neg (fun r => r q1), if_neg (fun r => r q2)] at kk
  refine kb_109_31 (fun _ => kb_109_35 (by first | with_reducible assumption | with_reducible exact kd_FT | assumption) (by omega) (s115 (by omega) H (plc f0) (fun h3 g3 => ?_))) (fun c => absurd rfl c)
  have f3 : fr inFt h0 h3 := f0.trans (g3.mono (fun a i q => Or.inr q))
  have H := f3.rs H0
  have s1 : h3.1 565 1 = 0 := (g3.n (by unfold inF; omega)).trans r1
  have s2 : h3.1 565 2 = -1 := (g3.n (by unfold inF; omega)).trans r2
  rcases cyc_of (n := P.np) (E := E3 P) with v | ⟨v, v1, v2⟩
  · rw [if_neg (fun r => r v)] at kk
    refine kb_109_40 (fun c => absurd v c) (fun _ => kb_109_48 (kb_109_56 (by first | with_reducible assumption | with_reducible exact kd_FT | assumption) (by omega) (s110 (fun _ => ?_) (fun c => absurd rfl c))))
    refine kb_109_59 (fun c => absurd rfl c) (fun _ => kb_109_62 (by first | with_reducible assumption | with_reducible exact kd_FT | assumption) (by omega) (s116 (by omega) H (plc f3) (fun h4 g4 => ?_)))
    have f4 : fr inFt h0 h4 := f3.trans (g4.mono (fun a i q => Or.inr q))
    have t1 : h4.1 565 1 = 0 := (g4.n (by unfold inF; omega)).trans s1
    have t2 : h4.1 565 2 = -1 := (g4.n (by unfold inF; omega)).trans s2
    refine kb_109_69 (by first | with_reducible assumption | with_reducible exact kd_FT | assumption) (by omega) (s110 (fun c => ?_) (fun c h5 e1 e2 e3 => ?_))
    · rw [if_neg (fun r => r c)] at kk
      exact kb_109_72 (kb_109_73 (kk h4 t1 t2 f4))
    · rw [if_pos c] at kk
      exact kb_109_72 (kb_109_73 (kk h5 e1 e2 (f4.trans e3)))
  · rw [if_pos (by rw [v2]; exact m1_ne (by omega))] at kk
    refine kb_109_40 (fun _ => kb_109_52 (kb_109_56 (by first | with_reducible assumption | with_reducible exact kd_FT | assumption) (by omega) (s110 (fun c => ?_) (fun c h5 e1 e2 e3 => ?_)))) (fun c => absurd (by rw [v2]; exact m1_ne (by omega)) c)
    · rw [v2, nI100] at c
      exact absurd c (m1_ne (by omega))
    · exact kb_109_59 (fun _ => kb_109_73 (kk h5 e1 e2 (f3.trans e3))) (fun c => absurd (by decide) c)
end
