-- ===== runs that make nothing: rules for reasoning =====
theorem mj_run_succ (f d j pc : Nat) (ls : mj_L) (st : List Value) (K : mj_K) (h : mj_H) : mj_run (f + 1) d j pc ls st K h = (match mj_code j pc with
    | none => none
    | some x => match mj_ctl x (mj_ret j) st with
      | some (.inl v) => some (v, K, h)
      | some (.inr (j', As, rest)) => match d with
        | 0 => none
        | d' + 1 => if (mj_sl As).length ≤ mj_ml j' ∧ (rest.map fun v => v.category).sum ≤ 8 ∧ mj_rok x K As = true then
            (match mj_run f d' j' 0 (mj_entry j' As) [] K h with
            | none => none
            | some (v, K1, h1) => mj_run f (d' + 1) j (pc + 3) (mj_clear (mj_dead j (pc + 3)) ls) (v.toList ++ rest) K1 h1)
          else none
      | none => match mj_plain x d pc ls st K h with
        | none => none
        | some (pc', ls', st', K', h') => mj_run f d j pc' (mj_clear (mj_dead j pc') ls') st' K' h') := by
  rfl
theorem mj_run_more : ∀ (f d j pc : Nat) (ls : mj_L) (st : List Value) (K : mj_K) (h : mj_H) (r : Option Value × mj_K × mj_H), mj_run f d j pc ls st K h = some r → mj_run (f + 1) d j pc ls st K h = some r := by
  intro f
  induction f with
  | zero => intro d j pc ls st K h r hr; cases hr
  | succ f ih =>
    intro d j pc ls st K h r hr
    rw [mj_run_succ] at hr ⊢
    cases hx : mj_code j pc with
    | none => rw [hx] at hr; cases hr
    | some x =>
      simp only [hx] at hr ⊢
      cases hv : mj_ctl x (mj_ret j) st with
      | some q =>
        cases q with
        | inl v => simp only [hv] at hr ⊢; exact hr
        | inr q =>
          obtain ⟨j', As, rest⟩ := q
          simp only [hv] at hr ⊢
          cases d with
          | zero => cases hr
          | succ d' =>
            simp only [] at hr ⊢
            by_cases hck : (mj_sl As).length ≤ mj_ml j' ∧ (rest.map fun v => v.category).sum ≤ 8 ∧ mj_rok x K As = true
            · rw [if_pos hck] at hr ⊢
              cases h2 : mj_run f d' j' 0 (mj_entry j' As) [] K h with
              | none => rw [h2] at hr; cases hr
              | some q =>
                obtain ⟨v1, K1, h1⟩ := q
                rw [h2] at hr
                rw [ih _ _ _ _ _ _ _ _ h2]
                exact ih _ _ _ _ _ _ _ _ hr
            · rw [if_neg hck] at hr
              cases hr
      | none =>
        simp only [hv] at hr ⊢
        cases hp : mj_plain x d pc ls st K h with
        | none => simp only [hp] at hr; cases hr
        | some q =>
          obtain ⟨pc2, ls2, st2, K2, h2⟩ := q
          simp only [hp] at hr ⊢
          exact ih _ _ _ _ _ _ _ _ hr
theorem mj_run_le {f f' d j pc : Nat} {ls : mj_L} {st : List Value} {K : mj_K} {h : mj_H} {r : Option Value × mj_K × mj_H} (hr : mj_run f d j pc ls st K h = some r) (hf : f ≤ f') : mj_run f' d j pc ls st K h = some r := by
  obtain ⟨k, rfl⟩ := Nat.exists_eq_add_of_le hf
  induction k with
  | zero => exact hr
  | succ k ih => exact mj_run_more _ _ _ _ _ _ _ _ _ (ih (by omega))
/-- from here the run ends, without a new cell, and Q holds of its answer and heap -/
def mr_M (K : mj_K) (d j pc : Nat) (ls : mj_L) (st : List Value) (h : mj_H) (Q : Option Value → mj_H → Prop) : Prop := ∃ (f : Nat) (v : Option Value) (h' : mj_H), mj_run f d j pc ls st K h = some (v, K, h') ∧ Q v h'
abbrev mr_C (K : mj_K) (d j : Nat) (As : List Value) (h : mj_H) (Q : Option Value → mj_H → Prop) : Prop := mr_M K d j 0 (mj_entry j As) [] h Q
section MJR
variable {K : mj_K} {d j pc pc' : Nat} {ls ls' ls2 : mj_L} {st st' : List Value} {h h' : mj_H} {Q Q' : Option Value → mj_H → Prop} {x : mj_X}
theorem mr_M.mono (k : mr_M K d j pc ls st h Q) (hq : ∀ v h', Q v h' → Q' v h') : mr_M K d j pc ls st h Q' := by
  obtain ⟨f, v, h', h1, h2⟩ := k
  exact ⟨f, v, h', h1, hq v h' h2⟩
theorem mr_M.next (hc : mj_code j pc = some x) (h0 : mj_ctl x (mj_ret j) st = none) (hp : mj_plain x d pc ls st K h = some (pc', ls', st', K, h')) (hl : mj_clear (mj_dead j pc') ls' = ls2) (k : mr_M K d j pc' ls2 st' h' Q) : mr_M K d j pc ls st h Q := by
  obtain ⟨f, v, h2, h3, h4⟩ := k
  refine ⟨f + 1, v, h2, ?_, h4⟩
  unfold mj_run
  simp only [hc, h0, hp, hl]
  exact h3
theorem mr_M.ret {v : Option Value} (hc : mj_code j pc = some x) (h0 : mj_ctl x (mj_ret j) st = some (.inl v)) (k : Q v h) : mr_M K d j pc ls st h Q := by
  refine ⟨1, v, h, ?_, k⟩
  unfold mj_run
  simp only [hc, h0]
theorem mr_M.call {j' : Nat} {As rest : List Value} (hc : mj_code j pc = some x) (h0 : mj_ctl x (mj_ret j) st = some (.inr (j', As, rest))) (hd : 1 ≤ d) (h1 : (mj_sl As).length ≤ mj_ml j') (h2 : (rest.map fun v => v.category).sum ≤ 8) (h3 : mj_rok x K As = true) (hl : mj_clear (mj_dead j (pc + 3)) ls = ls2)
    (k : mr_C K (d - 1) j' As h (fun v h' => mr_M K d j (pc + 3) ls2 (v.toList ++ rest) h' Q)) : mr_M K d j pc ls st h Q := by
  obtain ⟨f, v, h', r1, f2, v2, h2', r2, hq⟩ := k
  obtain ⟨d', rfl⟩ : ∃ d', d = d' + 1 := ⟨d - 1, by omega⟩
  refine ⟨max f f2 + 1, v2, h2', ?_, hq⟩
  unfold mj_run
  simp only [hc, h0]
  rw [Nat.add_sub_cancel] at r1
  rw [if_pos ⟨h1, h2, h3⟩, mj_run_le r1 (Nat.le_max_left f f2)]
  simp only [hl]
  exact mj_run_le r2 (Nat.le_max_right f f2)
/-- a branch -/
theorem mr_M.br {t : Nat} {b : Bool} {o : Int} {r : List Value} {lt lf : mj_L} {n a b' c0 : Nat} {I : Instr} (hc : mj_code j pc = some (I, n, a, b', c0)) (h0 : mj_ctl (I, n, a, b', c0) (mj_ret j) st = none) (hI : mj_plain (I, n, a, b', c0) d pc ls st K h = (mj_simple I n pc ls st).map (fun (q : Nat × mj_L × List Value) => (q.1, q.2.1, q.2.2, K, h))) (hld : mj_ldi I = none) (hsd : mj_sti I = none) (hb : mj_br I st = some (b, o, r)) (ht : mj_tgt pc o = some t) (hn : n = 3) (hlt : mj_clear (mj_dead j t) ls = lt) (hlf : mj_clear (mj_dead j (pc + 3)) ls = lf)
    (kt : b = true → mr_M K d j t lt r h Q) (kf : b = false → mr_M K d j (pc + 3) lf r h Q) : mr_M K d j pc ls st h Q := by
  have hp : mj_plain (I, n, a, b', c0) d pc ls st K h = some (if b then t else pc + 3, ls, r, K, h) := by
    rw [hI]
    unfold mj_simple
    simp only [hld, hsd, hb, ht, hn]
    rfl
  cases hbv : b with
  | true =>
    rw [hbv] at hp
    exact mr_M.next hc h0 hp hlt (kt hbv)
  | false =>
    rw [hbv] at hp
    exact mr_M.next hc h0 hp hlf (kf hbv)
end MJR
