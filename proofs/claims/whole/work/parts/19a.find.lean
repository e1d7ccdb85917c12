-- ===== methods: searches and tests =====
/-- the first number from i on, of n, that p holds of; -1 if none -/
def fi (p : Nat → Bool) : Nat → Nat → Int32
  | _, 0 => -1
  | i, n + 1 => if p i then nI i else fi p (i + 1) n
def b2i (b : Bool) : Int32 := if b then 1 else 0
theorem b2i_01 (b : Bool) : b2i b = 0 ∨ b2i b = 1 := by cases b <;> decide
theorem mj_inI {i n : Nat} (h : i < n) (hn : n < 2 ^ 31) : mj_in (nI i) n = true := decide_eq_true (nI_in h hn)
theorem s36 {d : Nat} {h : mj_H} {Q : Option Value → mj_H → Prop} {y : Int64} {N : Nat} (H : mj_RS h) (hN : h.1 573 9 = nI N) (hN2 : N ≤ 12) (k : Q (some (.int (fi (fun j => decide (h.2.1 578 j = y)) 0 N))) h) : mr_C mj_KK d 36 [.ref 573, .long y] h Q := by
  show mr_M mj_KK d 36 0 [some (.ref 573), some (.long y), none, none] [] h Q
  refine kb_36_0 ?_
  have loop : ∀ n i, i + n = N → Q (some (.int (fi (fun j => decide (h.2.1 578 j = y)) i n))) h → mr_M mj_KK d 36 2 [some (.ref 573), some (.long y), none, some (.int (nI i))] [] h Q := by
    intro n
    induction n with
    | zero =>
      intro i hi hq
      refine kb_36_2 kd_M (fun _ => kb_36_29 hq) (fun c => absurd ?_ c)
      rw [hN]
      exact nI_le (by omega) (by omega)
    | succ n ih =>
      intro i hi hq
      refine kb_36_2 kd_M (fun c => ?_) (fun _ => ?_)
      · rw [hN] at c
        exact absurd c (nI_ge (by omega) (by omega))
      · refine kb_36_10 kd_M (rf_M_names H) kd_M_names (by rw [ln_M_names]; exact mj_inI (by omega) (by omega)) (fun c => ?_) (fun c => ?_)
        · rw [nI_clamp (by omega), lg_cmp_eq] at c
          refine kb_36_23 ?_
          rw [nI_1]
          refine ih (i + 1) (by omega) ?_
          unfold fi at hq
          rw [if_neg (by simpa using c)] at hq
          exact hq
        · rw [nI_clamp (by omega), lg_cmp_eq] at c
          refine kb_36_21 ?_
          unfold fi at hq
          rw [if_pos (by simpa using c)] at hq
          exact hq
  exact loop N 0 (by omega) k
theorem s142 {d : Nat} {h : mj_H} {Q : Option Value → mj_H → Prop} {y : Int64} {N : Nat} (H : mj_RS h) (hN : h.1 9 1 = nI N) (hN2 : N ≤ 12) (k : Q (some (.int (fi (fun j => decide (h.2.1 (13 + 44 * j) 0 = y)) 0 N))) h) : mr_C mj_KK d 142 [.ref 9, .long y] h Q := by
  show mr_M mj_KK d 142 0 [some (.ref 9), some (.long y), none, none] [] h Q
  refine kb_142_0 ?_
  have loop : ∀ n i, i + n = N → Q (some (.int (fi (fun j => decide (h.2.1 (13 + 44 * j) 0 = y)) i n))) h → mr_M mj_KK d 142 2 [some (.ref 9), some (.long y), none, some (.int (nI i))] [] h Q := by
    intro n
    induction n with
    | zero =>
      intro i hi hq
      refine kb_142_2 kd_PL (fun _ => kb_142_35 hq) (fun c => absurd ?_ c)
      rw [hN]
      exact nI_le (by omega) (by omega)
    | succ n ih =>
      intro i hi hq
      have hi12 : i < 12 := by omega
      refine kb_142_2 kd_PL (fun c => ?_) (fun _ => ?_)
      · rw [hN] at c
        exact absurd c (nI_ge (by omega) (by omega))
      · refine kb_142_10 kd_PL (rf_PL_jobs H) kd_PL_jobs (by rw [ln_PL_jobs]; exact mj_inI hi12 (by omega)) (by rw [nI_clamp (by omega)]; exact rf_jobs H hi12) (kd_JB i hi12) (rf_JB_section H hi12) (kd_JS i hi12) (fun c => ?_) (fun c => ?_)
        · rw [lg_cmp_eq] at c
          refine kb_142_29 ?_
          rw [nI_1]
          refine ih (i + 1) (by omega) ?_
          unfold fi at hq
          rw [if_neg (by simpa using c)] at hq
          exact hq
        · rw [lg_cmp_eq] at c
          refine kb_142_27 ?_
          unfold fi at hq
          rw [if_pos (by simpa using c)] at hq
          exact hq
  exact loop N 0 (by omega) k
