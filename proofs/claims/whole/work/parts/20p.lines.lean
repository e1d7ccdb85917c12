-- ===== lines of a text; what holds of every plan that was read =====
/-- where the line ends that goes on from a -/
def nlA (X : Nat → Int32) : Nat → Nat → Nat
  | a, 0 => a
  | a, n + 1 => if X a = 10 then a else nlA X (a + 1) n
theorem nlA_s {X : Nat → Int32} {a n : Nat} : nlA X a (n + 1) = if X a = 10 then a else nlA X (a + 1) n := rfl
theorem nlA_ok {X : Nat → Int32} {n a : Nat} : a ≤ nlA X a n ∧ nlA X a n ≤ a + n ∧ (∀ i, a ≤ i → i < nlA X a n → ¬ X i = 10) ∧ (nlA X a n < a + n → X (nlA X a n) = 10) := by
  induction n generalizing a with
  | zero => exact ⟨Nat.le_refl _, Nat.le_refl _, fun i h1 h2 => absurd h2 (by show ¬ i < a; omega), fun q => absurd q (by show ¬ a < a + 0; omega)⟩
  | succ n ih =>
    rw [nlA_s]
    split
    · rename_i q
      exact ⟨Nat.le_refl _, by omega, fun i h1 h2 => absurd h2 (by omega), fun _ => q⟩
    · rename_i q
      obtain ⟨b1, b2, b3, b4⟩ := ih (a := a + 1)
      refine ⟨by omega, by omega, fun i h1 h2 => ?_, fun r => b4 (by omega)⟩
      rcases Nat.lt_or_ge a i with v | v
      · exact b3 i v h2
      · have : i = a := by omega
        rw [this]
        exact q
theorem ws_nl {X : Nat → Int32} {l s a m r : Nat} (hb : ∀ i, a ≤ i → i < a + m → ¬ X i = 10) (hX : X (a + m) = 10) : ws X l s a (m + 1 + r) = ws X l s a m ++ ws X (l + 1) (a + m + 1) (a + m + 1) r := by
  induction m generalizing s a with
  | zero =>
    rw [Nat.zero_add, Nat.add_comm 1 r, ws_s, ws_0]
    rw [Nat.add_zero] at hX ⊢
    rw [if_neg (by rw [hX]; decide), if_pos hX]
  | succ m ih =>
    have e : m + 1 + 1 + r = (m + 1 + r) + 1 := by omega
    have nb := hb a (Nat.le_refl a) (by omega)
    have e2 : a + 1 + m = a + (m + 1) := by omega
    have ih2 : ∀ s, ws X l s (a + 1) (m + 1 + r) = ws X l s (a + 1) m ++ ws X (l + 1) (a + (m + 1) + 1) (a + (m + 1) + 1) r := by
      intro s
      rw [ih (fun i h1 h2 => hb i (by omega) (by omega)) (by rw [e2]; exact hX), e2]
    rw [e, ws_s, ws_s]
    by_cases q : X a = 32
    · rw [if_pos q, if_pos q, ih2, List.append_assoc]
    · rw [if_neg q, if_neg q, if_neg nb, if_neg nb, ih2]
/-- the line's words, then those of the lines behind -/
theorem ws_line {X : Nat → Int32} {l a L : Nat} (h : a < L) : ws X l a a (L - a) = ws X l a a (nlA X a (L - a) - a) ++ ws X (l + 1) (nlA X a (L - a) + 1) (nlA X a (L - a) + 1) (L - (nlA X a (L - a) + 1)) := by
  obtain ⟨b1, b2, b3, b4⟩ := nlA_ok (X := X) (n := L - a) (a := a)
  generalize nlA X a (L - a) = t at *
  rcases Nat.lt_or_ge t L with q | q
  · have e : L - a = (t - a) + 1 + (L - (t + 1)) := by omega
    have e2 : a + (t - a) = t := by omega
    rw [e, ws_nl (fun i h1 h2 => b3 i h1 (by omega)) (by rw [e2]; exact b4 (by omega)), e2]
  · have e : t = L := by omega
    subst e
    have e2 : t - (t + 1) = 0 := by omega
    have e3 : wd1 (l + 1) (t + 1) (t + 1) = [] := if_neg (Nat.lt_irrefl _)
    rw [e2, ws_0, e3, List.append_nil]
theorem ws_lines {X : Nat → Int32} : ∀ {n l s a : Nat} {t : Wt}, t ∈ ws X l s a n → l ≤ t.2.2
  | 0, l, s, a, t, h => by
    rw [ws_0] at h
    unfold wd1 at h
    split at h
    · rw [List.mem_singleton.mp h]
      exact Nat.le_refl l
    · exact absurd h List.not_mem_nil
  | n + 1, l, s, a, t, h => by
    have one : t ∈ wd1 l s a → l ≤ t.2.2 := by
      intro h
      unfold wd1 at h
      split at h
      · rw [List.mem_singleton.mp h]
        exact Nat.le_refl l
      · exact absurd h List.not_mem_nil
    rw [ws_s] at h
    split at h
    · rcases List.mem_append.mp h with r | r
      · exact one r
      · exact ws_lines r
    · split at h
      · rcases List.mem_append.mp h with r | r
        · exact one r
        · exact Nat.le_trans (Nat.le_succ l) (ws_lines r)
      · exact ws_lines h
theorem ws_same {X : Nat → Int32} : ∀ {n l s a : Nat} {t : Wt}, (∀ i, a ≤ i → i < a + n → ¬ X i = 10) → t ∈ ws X l s a n → t.2.2 = l
  | 0, l, s, a, t, hb, h => by
    rw [ws_0] at h
    unfold wd1 at h
    split at h
    · rw [List.mem_singleton.mp h]
    · exact absurd h List.not_mem_nil
  | n + 1, l, s, a, t, hb, h => by
    have one : t ∈ wd1 l s a → t.2.2 = l := by
      intro h
      unfold wd1 at h
      split at h
      · rw [List.mem_singleton.mp h]
      · exact absurd h List.not_mem_nil
    have nb := hb a (Nat.le_refl a) (by omega)
    rw [ws_s] at h
    by_cases q : X a = 32
    · rw [if_pos q] at h
      rcases List.mem_append.mp h with r | r
      · exact one r
      · exact ws_same (fun i h1 h2 => hb i (by omega) (by omega)) r
    · rw [if_neg q, if_neg nb] at h
      exact ws_same (fun i h1 h2 => hb i (by omega) (by omega)) h
/-- a character of the tape, as text lets it -/
def tch2 (x : Int32) : Prop := x = 10 ∨ x = 32 ∨ wch x
theorem ws_ok {X : Nat → Int32} : ∀ {n l s a : Nat} {t : Wt}, s ≤ a → (∀ i, s ≤ i → i < a → wch (X i)) → (∀ i, a ≤ i → i < a + n → tch2 (X i)) → t ∈ ws X l s a n → s ≤ t.1 ∧ t.2.1 ≤ a + n ∧ wok X (sp t)
  | 0, l, s, a, t, hs, hw, hb, h => by
    rw [ws_0] at h
    unfold wd1 at h
    split at h
    · rename_i q
      rw [List.mem_singleton.mp h]
      exact ⟨Nat.le_refl _, Nat.le_refl _, q, hw⟩
    · exact absurd h List.not_mem_nil
  | n + 1, l, s, a, t, hs, hw, hb, h => by
    have one : t ∈ wd1 l s a → s ≤ t.1 ∧ t.2.1 ≤ a + (n + 1) ∧ wok X (sp t) := by
      intro h
      unfold wd1 at h
      split at h
      · rename_i q
        rw [List.mem_singleton.mp h]
        exact ⟨Nat.le_refl _, Nat.le_add_right _ _, q, hw⟩
      · exact absurd h List.not_mem_nil
    have nx : ∀ l, t ∈ ws X l (a + 1) (a + 1) n → s ≤ t.1 ∧ t.2.1 ≤ a + (n + 1) ∧ wok X (sp t) := by
      intro l r
      obtain ⟨c1, c2, c3⟩ := ws_ok (Nat.le_refl _) (fun i h1 h2 => absurd h2 (by omega)) (fun i h1 h2 => hb i (by omega) (by omega)) r
      exact ⟨by omega, by omega, c3⟩
    rw [ws_s] at h
    split at h
    · rcases List.mem_append.mp h with r | r
      · exact one r
      · exact nx _ r
    · split at h
      · rcases List.mem_append.mp h with r | r
        · exact one r
        · exact nx _ r
      · rename_i q1 q2
        have wa : wch (X a) := by
          rcases hb a (Nat.le_refl a) (by omega) with v | v | v
          · exact absurd v q2
          · exact absurd v q1
          · exact v
        obtain ⟨c1, c2, c3⟩ := ws_ok (by omega) (fun i h1 h2 => by
          rcases Nat.lt_or_ge i a with v | v
          · exact hw i h1 v
          · have : i = a := by omega
            rw [this]
            exact wa) (fun i h1 h2 => hb i (by omega) (by omega)) h
        exact ⟨c1, by omega, c3⟩
/-- all lines from a on: what is read, or the ILL line -/
def rdA (X : Nat → Int32) (W : List Wt) (L : Nat) : Nat → Nat → Nat → Nat → mj_P → Sum Nat mj_P
  | 0, _, _, _, P => .inr P
  | f + 1, l, a, w, P => if a < L then (if (ws X l a a (nlA X a (L - a) - a)).length = 0 then rdA X W L f (l + 1) (nlA X a (L - a) + 1) w P else match rdL X W P w (ws X l a a (nlA X a (L - a) - a)).length with
    | none => .inl l
    | some P2 => rdA X W L f (l + 1) (nlA X a (L - a) + 1) (w + (ws X l a a (nlA X a (L - a) - a)).length) P2) else .inr P
theorem rdA_s {X : Nat → Int32} {W : List Wt} {L f l a w : Nat} {P : mj_P} : rdA X W L (f + 1) l a w P = if a < L then (if (ws X l a a (nlA X a (L - a) - a)).length = 0 then rdA X W L f (l + 1) (nlA X a (L - a) + 1) w P else match rdL X W P w (ws X l a a (nlA X a (L - a) - a)).length with | none => .inl l | some P2 => rdA X W L f (l + 1) (nlA X a (L - a) + 1) (w + (ws X l a a (nlA X a (L - a) - a)).length) P2) else .inr P := rfl
def P0 : mj_P := (0, 0, 20, fun _ => (0, []), fun _ => E0)
def lnW (W : List Wt) (w : Nat) : Nat := (W.getD w (0, 0, 0)).2.2
/-- a line of the words -/
def isL (W : List Wt) (w n : Nat) : Prop := 0 < n ∧ w + n ≤ W.length ∧ (∀ i, i < n → lnW W (w + i) = lnW W w) ∧ (w + n = W.length ∨ ¬ lnW W (w + n) = lnW W w)
def itOK (W : List Wt) (t : It) : Prop := t.1 = 0 → t.2.2 ≤ 6 ∧ isL W t.2.1 t.2.2
def vsOK (vs : List Int64) : Prop := vs.length ≤ 5 ∧ vs.Nodup ∧ ∀ v ∈ vs, ¬ v = 0 ∧ nn v
def axOK (as : List (Int64 × List Int64)) : Prop := as.length ≤ 3 ∧ (as.map Prod.fst).Nodup ∧ ∀ x ∈ as, ¬ x.1 = 0 ∧ nn x.1 ∧ ¬ x.2 = [] ∧ vsOK x.2
def rwOK (r : Pp) : Prop := r.length ≤ 4 ∧ (r.map Prod.fst).Nodup ∧ ∀ q ∈ r, nn q.1 ∧ ¬ q.2 = 0 ∧ nn q.2
def rsOK (rs : List Pp) : Prop := rs.length ≤ 4 ∧ ∀ r ∈ rs, ¬ r = [] ∧ rwOK r
def SA (s : Sg) : Prop := s.1 ≤ 6 ∧ (s.1 = 3 → ¬ s.2.2 = 0)
def SB (s : Sg) : Prop := 1 ≤ s.1 ∧ s.1 ≤ 9
def JV (J : Jr) : Prop := axOK J.2.1 ∧ rsOK J.2.2.1 ∧ rsOK J.2.2.2.1 ∧ CR J.2.2.2.2.1 J.2.2.2.2.2 ∧ (∀ s ∈ J.2.2.2.2.2, SA s) ∧ ∀ s ∈ J.2.2.2.2.1, SB s
def VP (W : List Wt) (P : mj_P) : Prop := P.nj ≤ 12 ∧ P.np ≤ 8 ∧ OwP P ∧ EmP P ∧ (∀ k, ∀ t ∈ (P.sc k).2, itOK W t) ∧ ∀ j, JV (P.jr j)
theorem JV_0 : JV E0 := ⟨⟨by decide, List.nodup_nil, fun x h => absurd h List.not_mem_nil⟩, ⟨by decide, fun x h => absurd h List.not_mem_nil⟩, ⟨by decide, fun x h => absurd h List.not_mem_nil⟩, CR_nil, fun x h => absurd h List.not_mem_nil, fun x h => absurd h List.not_mem_nil⟩
theorem VP_0 {W : List Wt} : VP W P0 := ⟨by decide, by decide, Or.inl rfl, ⟨fun j _ _ => ⟨rfl, rfl⟩, fun p _ _ => rfl⟩, fun k t h => absurd h List.not_mem_nil, fun j => JV_0⟩
theorem nodup_app {α : Type} {xs : List α} {y : α} (h : xs.Nodup) (hn : y ∉ xs) : (xs ++ [y]).Nodup := by
  rw [List.nodup_append]
  refine ⟨h, List.nodup_cons.mpr ⟨List.not_mem_nil, List.nodup_nil⟩, fun a ha b hb => ?_⟩
  rw [List.mem_singleton.mp hb]
  intro e
  exact hn (e ▸ ha)
theorem vF_ok : ∀ {r vs vs2 : List Int64}, vsOK vs → (∀ y ∈ r, nn y) → vF vs r = some vs2 → vsOK vs2 ∧ vs2.length = vs.length + r.length
  | [], vs, vs2, hv, _, h => by
    cases h
    exact ⟨hv, rfl⟩
  | y :: r, vs, vs2, hv, hn, h => by
    rw [vF_s] at h
    split at h
    · cases h
    · rename_i q
      have q1 : ¬ y = 0 := fun v => q (Or.inl v)
      have q2 : vs.length < 5 := Decidable.byContradiction (fun v => q (Or.inr (Or.inl v)))
      have q3 : y ∉ vs := fun v => q (Or.inr (Or.inr v))
      obtain ⟨a, b⟩ := vF_ok (vs := vs ++ [y]) ⟨by rw [List.length_append]; exact q2, nodup_app hv.2.1 q3, fun v hv2 => by
        rcases List.mem_append.mp hv2 with w | w
        · exact hv.2.2 v w
        · rw [List.mem_singleton.mp w]
          exact ⟨q1, hn y List.mem_cons_self⟩⟩ (fun z hz => hn z (List.mem_cons_of_mem _ hz)) h
      refine ⟨a, ?_⟩
      have e1 : (vs ++ [y]).length = vs.length + 1 := by rw [List.length_append]; rfl
      have e2 : (y :: r).length = r.length + 1 := rfl
      omega
theorem axF_ok {as as2 : List (Int64 × List Int64)} {l : List Int64} (ha : axOK as) (hn : ∀ y ∈ l, nn y) (h : axF as l = some as2) : axOK as2 := by
  match l, hn, h with
  | [], _, h => cases h
  | y :: r, hn, h =>
    rw [axF_s] at h
    split at h
    · cases h
    · rename_i q
      have q1 : ¬ y = 0 := fun v => q (Or.inl v)
      have q2 : ¬ r = [] := fun v => q (Or.inr (Or.inl v))
      have q3 : as.length < 3 := Decidable.byContradiction (fun v => q (Or.inr (Or.inr (Or.inl v))))
      have q4 : y ∉ as.map Prod.fst := fun v => q (Or.inr (Or.inr (Or.inr v)))
      cases hv : vF [] r with
      | none =>
        rw [hv] at h
        cases h
      | some vs =>
        rw [hv] at h
        cases h
        obtain ⟨a, b⟩ := vF_ok ⟨by decide, List.nodup_nil, fun v hv2 => absurd hv2 List.not_mem_nil⟩ (fun z hz => hn z (List.mem_cons_of_mem _ hz)) hv
        refine ⟨by rw [List.length_append]; exact q3, by rw [List.map_append]; exact nodup_app ha.2.1 q4, fun x hx => ?_⟩
        rcases List.mem_append.mp hx with w | w
        · exact ha.2.2 x w
        · rw [List.mem_singleton.mp w]
          refine ⟨q1, hn y List.mem_cons_self, fun e => q2 ?_, a⟩
          have e : vs = [] := e
          rw [e] at b
          have b : 0 = 0 + r.length := b
          exact List.length_eq_zero_iff.mp (by omega)
theorem rwF_ok : ∀ {r ps ps2 : Pp}, rwOK ps → (∀ q ∈ r, nn q.1 ∧ nn q.2) → rwF ps r = some ps2 → rwOK ps2 ∧ ps2.length = ps.length + r.length
  | [], vs, vs2, hv, _, h => by
    cases h
    exact ⟨hv, rfl⟩
  | y :: r, ps, ps2, hv, hn, h => by
    rw [rwF_s] at h
    split at h
    · cases h
    · rename_i q
      have q1 : ¬ y.2 = 0 := fun v => q (Or.inl v)
      have q2 : ps.length < 4 := Decidable.byContradiction (fun v => q (Or.inr (Or.inl v)))
      have q3 : vO ps y.1 = 0 := Decidable.byContradiction (fun v => q (Or.inr (Or.inr v)))
      have q4 := (vO_mem (fun q hq => (hv.2.2 q hq).2.1)).mp q3
      obtain ⟨a, b⟩ := rwF_ok (ps := ps ++ [y]) ⟨by rw [List.length_append]; exact q2, by
        rw [List.map_append]
        refine nodup_app hv.2.1 (fun m => ?_)
        obtain ⟨x, hx, ex⟩ := List.mem_map.mp m
        obtain ⟨i, hi, ei⟩ := mem_getD (x := (0, 0)) hx
        exact q4 i hi (by rw [ei]; exact ex), fun v hv2 => by
        rcases List.mem_append.mp hv2 with w | w
        · exact hv.2.2 v w
        · rw [List.mem_singleton.mp w]
          exact ⟨(hn y List.mem_cons_self).1, q1, (hn y List.mem_cons_self).2⟩⟩ (fun z hz => hn z (List.mem_cons_of_mem _ hz)) h
      refine ⟨a, ?_⟩
      have e1 : (ps ++ [y]).length = ps.length + 1 := by rw [List.length_append]; rfl
      have e2 : (y :: r).length = r.length + 1 := rfl
      omega
theorem rsF_ok {rs rs2 : List Pp} {l : Pp} (ha : rsOK rs) (hn : ∀ q ∈ l, nn q.1 ∧ nn q.2) (h : rsF rs l = some rs2) : rsOK rs2 := by
  unfold rsF at h
  split at h
  · cases h
  · rename_i q
    have q2 : ¬ l = [] := fun v => q (Or.inr v)
    have q3 : rs.length < 4 := Decidable.byContradiction (fun v => q (Or.inl v))
    cases hv : rwF [] l with
    | none =>
      rw [hv] at h
      cases h
    | some ps =>
      rw [hv] at h
      cases h
      obtain ⟨a, b⟩ := rwF_ok (ps := []) ⟨by decide, List.nodup_nil, fun v hv2 => absurd hv2 List.not_mem_nil⟩ hn hv
      refine ⟨by rw [List.length_append]; exact q3, fun x hx => ?_⟩
      rcases List.mem_append.mp hx with w | w
      · exact ha.2 x w
      · rw [List.mem_singleton.mp w]
        refine ⟨fun e => q2 ?_, a⟩
        rw [e] at b
        have b : 0 = 0 + l.length := b
        exact List.length_eq_zero_iff.mp (by omega)
theorem all_app {α : Type} {A : α → Prop} {xs : List α} {y : α} (h : ∀ s ∈ xs, A s) (hy : A y) : ∀ s ∈ xs ++ [y], A s := by
  intro s hs
  rcases List.mem_append.mp hs with w | w
  · exact h s w
  · rw [List.mem_singleton.mp w]
    exact hy
theorem cP_K {T : Nat → Tk} {e : Nat} : ∀ f m d a p t r, cP T e f m d a p t = some r → (∀ s ∈ p, SA s) → (∀ s ∈ t, SB s) → (∀ s ∈ r.2.1, SA s) ∧ ∀ s ∈ r.2.2, SB s := by
  intro f
  induction f with
  | zero =>
    intro m d a p t r h
    cases h
  | succ f ih =>
    have c4 : ∀ d a p t r, cP T e (f + 1) 4 d a p t = some r → (∀ s ∈ p, SA s) → (∀ s ∈ t, SB s) → (∀ s ∈ r.2.1, SA s) ∧ ∀ s ∈ r.2.2, SB s := by
      intro d a p t r h hp ht
      rw [cP_4] at h
      split at h
      · obtain ⟨r1, h1, h2⟩ := bd_some h
        obtain ⟨a1, a2⟩ := ih _ _ _ _ _ _ h1 hp (all_app ht ⟨by decide, by decide⟩)
        exact ih _ _ _ _ _ _ h2 (all_app a1 ⟨by decide, fun q => absurd q (by decide)⟩) a2
      · cases h
        exact ⟨hp, ht⟩
    intro m d a p t r h hp ht
    match m with
    | 0 =>
      rw [cP_0] at h
      split at h
      · cases h
      · split at h
        · split at h
          · obtain ⟨r1, h1, h2⟩ := bd_some h
            cases h2
            obtain ⟨a1, a2⟩ := ih _ _ _ _ _ _ h1 hp (all_app ht ⟨by decide, by decide⟩)
            exact ⟨all_app a1 ⟨by decide, fun q => absurd q (by decide)⟩, a2⟩
          · cases h
        · split at h
          · split at h
            · obtain ⟨r1, h1, h2⟩ := bd_some h
              split at h2
              · cases h2
                obtain ⟨a1, a2⟩ := ih _ _ _ _ _ _ h1 hp (all_app ht ⟨by decide, by decide⟩)
                exact ⟨a1, all_app a2 ⟨by decide, by decide⟩⟩
              · cases h2
            · cases h
          · unfold cK at h
            split at h
            · rename_i q
              cases h
              exact ⟨all_app hp ⟨by show 3 ≤ 6; decide, fun _ => q⟩, all_app ht ⟨by show 1 ≤ 9; decide, by show 9 ≤ 9; decide⟩⟩
            · split at h
              · cases h
                exact ⟨all_app hp ⟨by decide, fun q => absurd q (by decide)⟩, all_app ht ⟨by decide, by decide⟩⟩
              · split at h
                · rename_i q
                  cases h
                  refine ⟨all_app hp ⟨?_, fun v => ?_⟩, all_app ht ⟨?_, ?_⟩⟩
                  · show (T a).1 - 6 ≤ 6
                    omega
                  · have v : (T a).1 - 6 = 3 := v
                    omega
                  · show 1 ≤ (T a).1
                    omega
                  · show (T a).1 ≤ 9
                    omega
                · cases h
    | 1 =>
      rw [cP_1] at h
      obtain ⟨r1, h1, h2⟩ := bd_some h
      obtain ⟨a1, a2⟩ := ih _ _ _ _ _ _ h1 hp ht
      exact ih _ _ _ _ _ _ h2 a1 a2
    | 2 =>
      rw [cP_2] at h
      split at h
      · obtain ⟨r1, h1, h2⟩ := bd_some h
        obtain ⟨a1, a2⟩ := ih _ _ _ _ _ _ h1 hp (all_app ht ⟨by decide, by decide⟩)
        exact ih _ _ _ _ _ _ h2 (all_app a1 ⟨by decide, fun q => absurd q (by decide)⟩) a2
      · cases h
        exact ⟨hp, ht⟩
    | 3 =>
      rw [cP_3] at h
      obtain ⟨r1, h1, h2⟩ := bd_some h
      obtain ⟨a1, a2⟩ := ih _ _ _ _ _ _ h1 hp ht
      exact ih _ _ _ _ _ _ h2 a1 a2
    | 4 => exact c4 d a p t r h hp ht
    | m + 5 => exact c4 d a p t r h hp ht
section
variable {X : Nat → Int32} {W : List Wt} {P P2 : mj_P} {w n : Nat}
theorem nn_nw (hk : wks X W) (w : Nat) : nn (nw X (sp (W.getD w (0, 0, 0)))) := by
  rcases Nat.lt_or_ge w W.length with q | q
  · exact nn_nm (fun i h1 h2 => ((hk w q).2 i h1 (by have := (hk w q).1; omega)).t)
  · rw [getD_out q]
    exact nn_0
theorem nn_pwW (hk : wks X W) (w : Nat) : nn (pw X (sp (W.getD w (0, 0, 0)))).1 ∧ nn (pw X (sp (W.getD w (0, 0, 0)))).2 := by
  rcases Nat.lt_or_ge w W.length with q | q
  · exact nn_pw (Nat.le_of_lt (hk w q).1) (fun i h1 h2 => ((hk w q).2 i h1 h2).t)
  · rw [getD_out q]
    exact nn_pw (Nat.le_refl 0) (fun i h1 h2 => absurd h2 (Nat.not_lt_zero i))
theorem nn_nws (hk : wks X W) : ∀ y ∈ nws X W w n, nn y := by
  intro y hy
  obtain ⟨i, h1, h2, h3⟩ := ups_mem hy
  rw [h3]
  exact nn_nw hk i
theorem nn_pws (hk : wks X W) : ∀ q ∈ pws X W w n, nn q.1 ∧ nn q.2 := by
  intro y hy
  obtain ⟨i, h1, h2, h3⟩ := ups_mem hy
  rw [h3]
  exact nn_pwW hk i
theorem VP_jr {J : Jr} (hV : VP W P) (ho : P.own < 12) (hJ : JV J) : VP W (wJr P J) := by
  obtain ⟨a1, a2, a3, a4, a5, a6⟩ := hV
  refine ⟨a1, a2, a3, ⟨fun j h1 h2 => ⟨(a4.1 j h1 h2).1, ?_⟩, a4.2⟩, a5, fun j => ?_⟩
  · have : ¬ j = P.own := by
      rcases a3 with v | v | v
      · omega
      · have h1 : P.nj ≤ j := h1
        omega
      · omega
    show up P.jr P.own J j = E0
    rw [up_n this]
    exact (a4.1 j h1 h2).2
  · show JV (up P.jr P.own J j)
    by_cases q : j = P.own
    · rw [q, up_e]
      exact hJ
    · rw [up_n q]
      exact a6 j
theorem VP_sc {t : It} (hV : VP W P) (ho : P.own < 20) (ht : itOK W t) : VP W (wSc P t) := by
  obtain ⟨a1, a2, a3, a4, a5, a6⟩ := hV
  refine ⟨a1, a2, a3, ⟨fun j h1 h2 => ⟨?_, (a4.1 j h1 h2).2⟩, fun p h1 h2 => ?_⟩, fun k t2 h2 => ?_, a6⟩
  · have : ¬ j = P.own := by
      have h1 : P.nj ≤ j := h1
      rcases a3 with v | v | v <;> omega
    show (up P.sc P.own _ j).2 = []
    rw [up_n this]
    exact (a4.1 j h1 h2).1
  · have : ¬ 12 + p = P.own := by
      have h1 : P.np ≤ p := h1
      rcases a3 with v | v | v <;> omega
    show (up P.sc P.own _ (12 + p)).2 = []
    rw [up_n this]
    exact a4.2 p h1 h2
  · have h2 : t2 ∈ (up P.sc P.own ((P.sc P.own).1, (P.sc P.own).2 ++ [t]) k).2 := h2
    by_cases q : k = P.own
    · rw [q, up_e] at h2
      rcases List.mem_append.mp h2 with v | v
      · exact a5 _ t2 v
      · rw [List.mem_singleton.mp v]
        exact ht
    · rw [up_n q] at h2
      exact a5 k t2 h2
theorem mp_some {α β : Type} {x : Option α} {g : α → β} {y : β} (h : x.map g = some y) : ∃ r, x = some r ∧ g r = y := by
  cases x with
  | none => cases h
  | some r => exact ⟨r, rfl, Option.some.inj h⟩
theorem rdL_VP (hk : wks X W) (hl : isL W w n) (hV : VP W P) (h : rdL X W P w n = some P2) : VP W P2 := by
  obtain ⟨a1, a2, a3, a4, a5, a6⟩ := id hV
  unfold rdL at h
  by_cases q8 : wx X W w = mj_str 8
  · rw [if_pos q8] at h
    split at h
    · rename_i q
      cases h
      have hj := q.2.2.1
      refine ⟨by show P.nj + 1 ≤ 12; omega, a2, Or.inr (Or.inl (Nat.lt_succ_self _)), ⟨fun j h1 h2 => ?_, fun p h1 h2 => ?_⟩, fun k t ht => ?_, fun j => ?_⟩
      · have h1 : P.nj + 1 ≤ j := h1
        show (up P.sc P.nj _ j).2 = [] ∧ up P.jr P.nj _ j = E0
        rw [up_n (by omega), up_n (by omega)]
        exact a4.1 j (by omega) h2
      · show (up P.sc P.nj _ (12 + p)).2 = []
        rw [up_n (by omega)]
        exact a4.2 p h1 h2
      · have ht : t ∈ (up P.sc P.nj (wy X W (w + 1), []) k).2 := ht
        by_cases v : k = P.nj
        · rw [v, up_e] at ht
          exact absurd ht List.not_mem_nil
        · rw [up_n v] at ht
          exact a5 k t ht
      · show JV (up P.jr P.nj E0 j)
        by_cases v : j = P.nj
        · rw [v, up_e]
          exact JV_0
        · rw [up_n v]
          exact a6 j
    · cases h
  · rw [if_neg q8] at h
    by_cases q9 : wx X W w = mj_str 9
    · rw [if_pos q9] at h
      split at h
      · rename_i q
        cases h
        have hj := q.2.2.1
        refine ⟨a1, by show P.np + 1 ≤ 8; omega, Or.inr (Or.inr ⟨by show 12 ≤ 12 + P.np; omega, by show 12 + P.np < 12 + (P.np + 1); omega⟩), ⟨fun j h1 h2 => ?_, fun p h1 h2 => ?_⟩, fun k t ht => ?_, a6⟩
        · show (up P.sc (12 + P.np) _ j).2 = [] ∧ P.jr j = E0
          rw [up_n (by omega)]
          exact a4.1 j h1 h2
        · have h1 : P.np + 1 ≤ p := h1
          show (up P.sc (12 + P.np) _ (12 + p)).2 = []
          rw [up_n (by omega)]
          exact a4.2 p (by omega) h2
        · have ht : t ∈ (up P.sc (12 + P.np) (wy X W (w + 1), []) k).2 := ht
          by_cases v : k = 12 + P.np
          · rw [v, up_e] at ht
            exact absurd ht List.not_mem_nil
          · rw [up_n v] at ht
            exact a5 k t ht
      · cases h
    · rw [if_neg q9] at h
      by_cases o20 : P.own < 20
      rotate_left
      · rw [if_pos o20] at h
        cases h
      · rw [if_neg (fun v => v o20)] at h
        by_cases q10 : wx X W w = mj_str 10
        · rw [if_pos q10] at h
          split at h
          · rename_i q
            cases h
            obtain ⟨l1, l2, l3, l4⟩ := hl
            refine VP_sc hV o20 (fun _ => ⟨by show n - 1 ≤ 6; omega, by show 0 < n - 1; omega, by show w + 1 + (n - 1) ≤ _; omega, fun i hi => ?_, ?_⟩)
            · have hi : i < n - 1 := hi
              show lnW W (w + 1 + i) = lnW W (w + 1)
              rw [Nat.add_assoc, l3 (1 + i) (by omega), l3 1 (by omega)]
            · show w + 1 + (n - 1) = W.length ∨ ¬ lnW W (w + 1 + (n - 1)) = lnW W (w + 1)
              rw [show w + 1 + (n - 1) = w + n from by omega, l3 1 (by omega)]
              exact l4
          · cases h
        · rw [if_neg q10] at h
          by_cases q11 : wx X W w = mj_str 11
          · rw [if_pos q11] at h
            split at h
            · rename_i q
              cases h
              exact VP_sc hV o20 (fun e => absurd e q.2.1)
            · cases h
          · rw [if_neg q11] at h
            by_cases o12 : P.own < 12
            rotate_left
            · rw [if_pos o12] at h
              cases h
            · rw [if_neg (fun v => v o12)] at h
              obtain ⟨b1, b2, b3, b4, b5, b6⟩ := id (a6 P.own)
              by_cases q12 : wx X W w = mj_str 12
              · rw [if_pos q12] at h
                split at h
                · cases h
                · obtain ⟨x, h1, h2⟩ := mp_some h
                  subst h2
                  exact VP_jr hV o12 ⟨b1, b2, b3, b4, b5, b6⟩
              · rw [if_neg q12] at h
                by_cases q13 : wx X W w = mj_str 13
                · rw [if_pos q13] at h
                  obtain ⟨x, h1, h2⟩ := mp_some h
                  subst h2
                  exact VP_jr hV o12 ⟨axF_ok b1 (nn_nws hk) h1, b2, b3, b4, b5, b6⟩
                · rw [if_neg q13] at h
                  by_cases q14 : wx X W w = mj_str 14
                  · rw [if_pos q14] at h
                    obtain ⟨x, h1, h2⟩ := mp_some h
                    subst h2
                    exact VP_jr hV o12 ⟨b1, rsF_ok b2 (nn_pws hk) h1, b3, b4, b5, b6⟩
                  · rw [if_neg q14] at h
                    by_cases q15 : wx X W w = mj_str 15
                    · rw [if_pos q15] at h
                      obtain ⟨x, h1, h2⟩ := mp_some h
                      subst h2
                      exact VP_jr hV o12 ⟨b1, b2, rsF_ok b3 (nn_pws hk) h1, b4, b5, b6⟩
                    · rw [if_neg q15] at h
                      by_cases q16 : wx X W w = mj_str 16
                      · rw [if_pos q16] at h
                        split at h
                        · cases h
                        · rename_i q
                          obtain ⟨x, h1, h2⟩ := mp_some h
                          subst h2
                          have hn := hl.1
                          have q2 : ¬ 20 < n - 1 := fun v => q (Or.inr v)
                          have hC := (cF_CR (by omega) (by omega) h1).1
                          unfold cF at h1
                          obtain ⟨r1, g1, g2⟩ := bd_some h1
                          split at g2
                          · cases g2
                            obtain ⟨u1, u2⟩ := cP_K _ _ _ _ _ _ _ g1 (fun s hs => absurd hs List.not_mem_nil) (fun s hs => absurd hs List.not_mem_nil)
                            exact VP_jr hV o12 ⟨b1, b2, b3, hC, u1, u2⟩
                          · cases g2
                      · rw [if_neg q16] at h
                        cases h
end
