-- ===== names, packed =====
def sh8 (v : Int64) (c : Int32) : Int64 := (v <<< ((8 : Int32).toInt64 &&& 63)) ||| c.toInt64
def pk (c : Nat → Int32) : Nat → Nat → Int64 → Int64
  | _, 0, v => v
  | s, n + 1, v => pk c (s + 1) n (sh8 v (c s))
/-- letters and digits alone -/
def al (c : Nat → Int32) : Nat → Nat → Bool
  | _, 0 => true
  | s, n + 1 => mj_let (c s) && al c (s + 1) n
/-- the NAME of n characters from s on, packed, or 0 -/
def nm (c : Nat → Int32) (s n : Nat) : Int64 := if n ≤ 8 ∧ al c s n = true then pk c s n 0 else 0
theorem s26 {d : Nat} {h : mj_H} {Q : Option Value → mj_H → Prop} {s n : Nat} (H : mj_RS h) (hs : s + n ≤ 700) (k : Q (some (.long (if n ≤ 8 then pk (h.1 575) s n 0 else 0))) h) : mr_C mj_KK d 26 [.ref 573, .int (nI s), .int (nI (s + n))] h Q := by
  show mr_M mj_KK d 26 0 [some (.ref 573), some (.int (nI s)), some (.int (nI (s + n))), none, none, none] [] h Q
  refine kb_26_0 ?_
  have esub : nI (s + n) - nI s = nI n := by rw [pk_sub (by omega)]; congr 1; omega
  have loop : ∀ m i v, i + m = s + n → (n ≤ 8 → Q (some (.long (pk (h.1 575) i m v))) h) → (¬ n ≤ 8 → Q (some (.long v)) h) → mr_M mj_KK d 26 5 [some (.ref 573), some (.int (nI s)), some (.int (nI (s + n))), some (.long v), none, some (.int (nI i))] [] h Q := by
    intro m
    induction m with
    | zero =>
      intro i v hi h1 h2
      refine kb_26_5 (fun _ => kb_26_39 ?_) (fun c => absurd (nI_le (by omega) (by omega)) c)
      by_cases h8 : n ≤ 8
      · exact h1 h8
      · exact h2 h8
    | succ m ih =>
      intro i v hi h1 h2
      refine kb_26_5 (fun c => absurd c (nI_ge (by omega) (by omega))) (fun _ => kb_26_11 (fun c => kb_26_39 ?_) (fun c => ?_))
      · rw [esub] at c
        exact h2 (fun q => nI_nlt (a := 8) q (by omega) c)
      · rw [esub] at c
        have h8 : n ≤ 8 := by
          rcases Nat.lt_or_ge 8 n with q | q
          · exact absurd (nI_lt q (by omega)) c
          · exact q
        refine kb_26_19 kd_M (rf_M_source H) kd_M_source (by rw [ln_M_source]; exact mj_inI (by omega) (by omega)) ?_
        rw [nI_1, nI_clamp (by omega)]
        exact ih (i + 1) _ (by omega) (fun q => h1 q) (fun q => absurd h8 q)
  refine loop n s 0 rfl (fun h8 => ?_) (fun h8 => ?_)
  · rw [if_pos h8] at k
    exact k
  · rw [if_neg h8] at k
    exact k
theorem s27 {d : Nat} {h : mj_H} {Q : Option Value → mj_H → Prop} {s n : Nat} (hd : 1 ≤ d) (H : mj_RS h) (hs : s + n ≤ 700) (k : Q (some (.long (nm (h.1 575) s n))) h) : mr_C mj_KK d 27 [.ref 573, .int (nI s), .int (nI (s + n))] h Q := by
  show mr_M mj_KK d 27 0 [some (.ref 573), some (.int (nI s)), some (.int (nI (s + n))), none] [] h Q
  refine kb_27_0 ?_
  have loop : ∀ m i, i + m = s + n → (al (h.1 575) i m = true → Q (some (.long (if n ≤ 8 then pk (h.1 575) s n 0 else 0))) h) → (al (h.1 575) i m = false → Q (some (.long 0)) h) → mr_M mj_KK d 27 2 [some (.ref 573), some (.int (nI s)), some (.int (nI (s + n))), some (.int (nI i))] [] h Q := by
    intro m
    induction m with
    | zero =>
      intro i hi h1 h2
      refine kb_27_2 (fun _ => ?_) (fun c => absurd (nI_le (by omega) (by omega)) c)
      exact kb_27_27 kd_M hd (s26 H hs (kb_27_33 (h1 rfl)))
    | succ m ih =>
      intro i hi h1 h2
      refine kb_27_2 (fun c => absurd c (nI_ge (by omega) (by omega))) (fun _ => ?_)
      refine kb_27_7 kd_M (rf_M_source H) kd_M_source (by rw [ln_M_source]; exact mj_inI (by omega) (by omega)) hd (s25 ?_)
      rw [nI_clamp (by omega)]
      show mr_M mj_KK d 27 16 _ [.int (b2i (mj_let (h.1 575 i)))] h Q
      cases hb : mj_let (h.1 575 i) with
      | true =>
        refine kb_27_16 (fun _ => kb_27_21 ?_) (fun c => absurd (by decide) c)
        rw [nI_1]
        exact ih (i + 1) (by omega) (fun q => h1 (by unfold al; rw [hb, q]; rfl)) (fun q => h2 (by unfold al; rw [hb, q]; rfl))
      | false =>
        refine kb_27_16 (fun c => absurd rfl c) (fun _ => kb_27_19 (h2 (by unfold al; rw [hb]; rfl)))
  refine loop n s rfl (fun q => ?_) (fun q => ?_)
  · unfold nm at k
    rw [q] at k
    simpa using k
  · unfold nm at k
    rw [q] at k
    simpa using k
theorem s19 {d a : Nat} {h : mj_H} {Q : Option Value → mj_H → Prop} {s e : Nat} (hk : mj_kd mj_KK a = 102) (hl : mj_ln mj_KK a = 700) (hs : s ≤ 701) (he : e ≤ 700) (k : Q (some (.long (nm (h.1 a) s (e - s)))) h) : mr_C mj_KK d 19 [.ref a, .int (nI s), .int (nI e)] h Q := by
  show mr_M mj_KK d 19 0 [some (.ref a), some (.int (nI s)), some (.int (nI e)), none, none, none, none] [] h Q
  refine kb_19_0 (fun c => absurd c (nI_pos (by omega))) (fun _ => ?_)
  refine kb_19_4 (by rw [hk]; decide) (fun c => ?_) (fun _ => ?_)
  · rw [hl] at c
    exact absurd c (nI_nlt (b := e) (a := 700) he (by omega))
  by_cases hse : e ≤ s
  · have k0 : Q (some (.long 0)) h := by
      have e0 : e - s = 0 := by omega
      rw [e0] at k
      exact k
    exact kb_19_10 (fun _ => kb_19_23 k0) (fun c => absurd (nI_le hse (by omega)) c)
  refine kb_19_10 (fun c => absurd c (nI_ge (by omega) (by omega))) (fun _ => ?_)
  obtain ⟨n, rfl⟩ : ∃ n, e = s + n := ⟨e - s, by omega⟩
  have esub : nI (s + n) - nI s = nI n := by rw [pk_sub (by omega)]; congr 1; omega
  have en : s + n - s = n := by omega
  rw [en] at k
  refine kb_19_15 (fun c => ?_) (fun c => ?_)
  · rw [esub] at c
    have h8 : n ≤ 8 := by
      rcases Nat.lt_or_ge 8 n with q | q
      · exact absurd c (nI_ge q (by omega))
      · exact q
    refine kb_19_25 ?_
    have loop : ∀ m i v, i + m = s + n → (al (h.1 a) i m = true → Q (some (.long (pk (h.1 a) i m v))) h) → (al (h.1 a) i m = false → Q (some (.long 0)) h) → mr_M mj_KK d 19 30 [some (.ref a), none, some (.int (nI (s + n))), some (.long v), none, some (.int (nI i)), none] [] h Q := by
      intro m
      induction m with
      | zero =>
        intro i v hi h1 h2
        exact kb_19_30 (fun _ => kb_19_87 (h1 rfl)) (fun c => absurd (nI_le (by omega) (by omega)) c)
      | succ m ih =>
        intro i v hi h1 h2
        refine kb_19_30 (fun c => absurd c (nI_ge (by omega) (by omega))) (fun _ => ?_)
        have yes : mj_let (h.1 a i) = true → mr_M mj_KK d 19 72 [some (.ref a), none, some (.int (nI (s + n))), some (.long v), none, some (.int (nI i)), some (.int (h.1 a i))] [] h Q := by
          intro hb
          refine kb_19_72 ?_
          rw [nI_1]
          exact ih (i + 1) _ (by omega) (fun q => h1 (by unfold al; rw [hb, q]; rfl)) (fun q => h2 (by unfold al; rw [hb, q]; rfl))
        have no : mj_let (h.1 a i) = false → mr_M mj_KK d 19 70 [none, none, none, none, none, none, none] [] h Q := fun hb => kb_19_70 (h2 (by unfold al; rw [hb]; rfl))
        have low : ¬ (97 ≤ h.1 a i ∧ h.1 a i ≤ 122) → mr_M mj_KK d 19 56 [some (.ref a), none, some (.int (nI (s + n))), some (.long v), none, some (.int (nI i)), some (.int (h.1 a i))] [] h Q := by
          intro hn
          have hn' : (decide (97 ≤ h.1 a i) && decide (h.1 a i ≤ 122)) = false := by simpa using hn
          refine kb_19_56 (fun c1 => no ?_) (fun c1 => kb_19_63 (fun c2 => yes ?_) (fun c2 => no ?_))
          · unfold mj_let; rw [hn']; simp [i_nlt c1]
          · unfold mj_let; rw [hn']; simp [i_nle c1, c2]
          · unfold mj_let; rw [hn']; simp [c2]
        refine kb_19_36 hk (by rw [hl]; exact mj_inI (by omega) (by omega)) (fun c1 => ?_) (fun c1 => ?_)
        · rw [nI_clamp (by omega)] at c1 ⊢
          exact low (fun q => i_nlt c1 q.1)
        · rw [nI_clamp (by omega)] at c1 ⊢
          refine kb_19_49 (fun c2 => yes ?_) (fun c2 => low (fun q => c2 q.2))
          unfold mj_let
          simp [i_nle c1, c2]
    refine loop n s 0 rfl (fun q => ?_) (fun q => ?_)
    · unfold nm at k
      rw [if_pos ⟨h8, q⟩] at k
      exact k
    · unfold nm at k
      rw [if_neg (fun w => by rw [q] at w; cases w.2)] at k
      exact k
  · rw [esub] at c
    have h8 : ¬ n ≤ 8 := fun q => c (nI_le (b := 8) q (by decide))
    refine kb_19_23 ?_
    unfold nm at k
    rw [if_neg (fun w => h8 w.1)] at k
    exact k
