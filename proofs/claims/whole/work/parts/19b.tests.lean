theorem s37 {d : Nat} {h : mj_H} {Q : Option Value → mj_H → Prop} {y : Int64} {N : Nat} (H : mj_RS h) (hN : h.1 573 10 = nI N) (hN2 : N ≤ 8) (k : Q (some (.int (fi (fun j => decide (h.2.1 578 (12 + j) = y)) 0 N))) h) : mr_C mj_KK d 37 [.ref 573, .long y] h Q := by
  show mr_M mj_KK d 37 0 [some (.ref 573), some (.long y), none, none] [] h Q
  refine kb_37_0 ?_
  have loop : ∀ n i, i + n = N → Q (some (.int (fi (fun j => decide (h.2.1 578 (12 + j) = y)) i n))) h → mr_M mj_KK d 37 2 [some (.ref 573), some (.long y), none, some (.int (nI i))] [] h Q := by
    intro n
    induction n with
    | zero =>
      intro i hi hq
      refine kb_37_2 kd_M (fun _ => kb_37_32 hq) (fun c => absurd ?_ c)
      rw [hN]
      exact nI_le (by omega) (by omega)
    | succ n ih =>
      intro i hi hq
      have e12 : (12 : Int32) + nI i = nI (12 + i) := nI_add 12 i
      refine kb_37_2 kd_M (fun c => ?_) (fun _ => ?_)
      · rw [hN] at c
        exact absurd c (nI_ge (by omega) (by omega))
      · refine kb_37_10 kd_M (rf_M_names H) kd_M_names (by rw [ln_M_names, e12]; exact mj_inI (by omega) (by omega)) (fun c => ?_) (fun c => ?_)
        · rw [e12, nI_clamp (by omega), lg_cmp_eq] at c
          refine kb_37_26 ?_
          rw [nI_1]
          refine ih (i + 1) (by omega) ?_
          unfold fi at hq
          rw [if_neg (by simpa using c)] at hq
          exact hq
        · rw [e12, nI_clamp (by omega), lg_cmp_eq] at c
          refine kb_37_24 ?_
          unfold fi at hq
          rw [if_pos (by simpa using c)] at hq
          exact hq
  exact loop N 0 (by omega) k
theorem s143 {d : Nat} {h : mj_H} {Q : Option Value → mj_H → Prop} {y : Int64} {N : Nat} (H : mj_RS h) (hN : h.1 9 3 = nI N) (hN2 : N ≤ 8) (k : Q (some (.int (fi (fun j => decide (h.2.1 (540 + 3 * j) 0 = y)) 0 N))) h) : mr_C mj_KK d 143 [.ref 9, .long y] h Q := by
  show mr_M mj_KK d 143 0 [some (.ref 9), some (.long y), none, none] [] h Q
  refine kb_143_0 ?_
  have loop : ∀ n i, i + n = N → Q (some (.int (fi (fun j => decide (h.2.1 (540 + 3 * j) 0 = y)) i n))) h → mr_M mj_KK d 143 2 [some (.ref 9), some (.long y), none, some (.int (nI i))] [] h Q := by
    intro n
    induction n with
    | zero =>
      intro i hi hq
      refine kb_143_2 kd_PL (fun _ => kb_143_32 hq) (fun c => absurd ?_ c)
      rw [hN]
      exact nI_le (by omega) (by omega)
    | succ n ih =>
      intro i hi hq
      have hi8 : i < 8 := by omega
      refine kb_143_2 kd_PL (fun c => ?_) (fun _ => ?_)
      · rw [hN] at c
        exact absurd c (nI_ge (by omega) (by omega))
      · refine kb_143_10 kd_PL (rf_PL_parts H) kd_PL_parts (by rw [ln_PL_parts]; exact mj_inI hi8 (by omega)) (by rw [nI_clamp (by omega)]; exact rf_parts H hi8) (kd_PS i hi8) (fun c => ?_) (fun c => ?_)
        · rw [lg_cmp_eq] at c
          refine kb_143_26 ?_
          rw [nI_1]
          refine ih (i + 1) (by omega) ?_
          unfold fi at hq
          rw [if_neg (by simpa using c)] at hq
          exact hq
        · rw [lg_cmp_eq] at c
          refine kb_143_24 ?_
          unfold fi at hq
          rw [if_pos (by simpa using c)] at hq
          exact hq
  exact loop N 0 (by omega) k
theorem i_nlt {x y : Int32} (h : x < y) : ¬ y ≤ x := fun q => by
  rw [Int32.lt_iff_toInt_lt] at h
  rw [Int32.le_iff_toInt_le] at q
  omega
theorem i_nle {x y : Int32} (h : ¬ x < y) : y ≤ x := by
  rw [Int32.lt_iff_toInt_lt] at h
  rw [Int32.le_iff_toInt_le]
  omega
theorem i_lt {x y : Int32} (h : ¬ y ≤ x) : x < y := by
  rw [Int32.le_iff_toInt_le] at h
  rw [Int32.lt_iff_toInt_lt]
  omega
theorem s23 {K : mj_K} {d : Nat} {h : mj_H} {Q : Option Value → mj_H → Prop} {x c : Int32} (k : Q (some (.int (b2i (decide (0 ≤ x ∧ x < c))))) h) : mr_C K d 23 [.int x, .int c] h Q := by
  show mr_M K d 23 0 [some (.int x), some (.int c)] [] h Q
  have f : ∀ b : Bool, decide (0 ≤ x ∧ x < c) = b → mr_M K d 23 14 [none, none] [.int (b2i b)] h Q := fun b e => kb_23_14 (b2i_01 b) (e ▸ k)
  refine kb_23_0 (fun c1 => kb_23_13 (f false (decide_eq_false fun q => i_nlt c1 q.1))) (fun c1 => kb_23_4 (fun c2 => kb_23_13 (f false (decide_eq_false fun q => i_nlt q.2 c2))) (fun c2 => kb_23_9 (f true (decide_eq_true ⟨i_nle c1, i_lt c2⟩))))
/-- a letter or a digit -/
def mj_let (x : Int32) : Bool := (decide (97 ≤ x) && decide (x ≤ 122)) || (decide (48 ≤ x) && decide (x ≤ 57))
theorem s25 {K : mj_K} {d : Nat} {h : mj_H} {Q : Option Value → mj_H → Prop} {x : Int32} (k : Q (some (.int (b2i (mj_let x)))) h) : mr_C K d 25 [.int x] h Q := by
  show mr_M K d 25 0 [some (.int x)] [] h Q
  have f : ∀ b : Bool, mj_let x = b → mr_M K d 25 29 [none] [.int (b2i b)] h Q := fun b e => kb_25_29 (b2i_01 b) (e ▸ k)
  have low : ¬ (97 ≤ x ∧ x ≤ 122) → mr_M K d 25 12 [some (.int x)] [] h Q := by
    intro hn
    have hn' : (decide (97 ≤ x) && decide (x ≤ 122)) = false := by simpa using hn
    refine kb_25_12 (fun c1 => kb_25_28 (f false ?_)) (fun c1 => kb_25_18 (fun c2 => kb_25_28 (f false ?_)) (fun c2 => kb_25_24 (f true ?_)))
    · unfold mj_let; rw [hn']; simp [i_nlt c1]
    · unfold mj_let; rw [hn']; simp [i_nlt c2]
    · unfold mj_let; rw [hn']; simp [i_nle c1, i_nle c2]
  refine kb_25_0 (fun c1 => low (fun q => i_nlt c1 q.1)) (fun c1 => kb_25_6 (fun c2 => kb_25_24 (f true ?_)) (fun c2 => low (fun q => c2 q.2)))
  unfold mj_let
  simp [i_nle c1, c2]
