-- ===== conditions: the class's descent and the reference's pile read alike, and hold alike =====
abbrev Tk : Type := Nat × Int64 × (Int64 × Int64)
/-- an asking: the class's sign and the reference's -/
def cK (T : Nat → Tk) (e a : Nat) (p t : List Sg) : Option (Nat × List Sg × List Sg) :=
  if (T a).2.2.2 ≠ 0 then some (a + 1, p ++ [(3, (T a).2.2.1, (T a).2.2.2)], t ++ [(9, (T a).2.2.1, (T a).2.2.2)])
  else if (T a).1 = 6 then some (a + 1, p ++ [(0, 0, 0)], t ++ [(6, 0, 0)])
  else if ((T a).1 = 7 ∨ (T a).1 = 8) ∧ a + 1 < e ∧ (T (a + 1)).2.1 ≠ 0 then some (a + 2, p ++ [((T a).1 - 6, (T (a + 1)).2.1, 0)], t ++ [((T a).1, (T (a + 1)).2.1, 0)])
  else none
/-- the class's reading: 0 readNot, 1 readAll, 2 its loop, 3 readAny, 4 its loop; with the signs as the reference keeps them beside -/
def cP (T : Nat → Tk) (e : Nat) : Nat → Nat → Nat → Nat → List Sg → List Sg → Option (Nat × List Sg × List Sg)
  | 0, _, _, _, _, _ => none
  | f + 1, 0, d, a, p, t =>
    if ¬ a < e then none
    else if (T a).1 = 3 then (if d < 6 then (cP T e f 0 (d + 1) (a + 1) p (t ++ [(3, 0, 0)])).bind (fun r => some (r.1, r.2.1 ++ [(4, 0, 0)], r.2.2)) else none)
    else if (T a).1 = 4 then (if d < 6 then (cP T e f 3 (d + 1) (a + 1) p (t ++ [(4, 0, 0)])).bind (fun r => if r.1 < e ∧ (T r.1).1 = 5 then some (r.1 + 1, r.2.1, r.2.2 ++ [(5, 0, 0)]) else none) else none)
    else cK T e a p t
  | f + 1, 1, d, a, p, t => (cP T e f 0 d a p t).bind (fun r => cP T e f 2 d r.1 r.2.1 r.2.2)
  | f + 1, 2, d, a, p, t => if a < e ∧ (T a).1 = 2 then (cP T e f 0 d (a + 1) p (t ++ [(2, 0, 0)])).bind (fun r => cP T e f 2 d r.1 (r.2.1 ++ [(5, 0, 0)]) r.2.2) else some (a, p, t)
  | f + 1, 3, d, a, p, t => (cP T e f 1 d a p t).bind (fun r => cP T e f 4 d r.1 r.2.1 r.2.2)
  | f + 1, _ + 4, d, a, p, t => if a < e ∧ (T a).1 = 1 then (cP T e f 1 d (a + 1) p (t ++ [(1, 0, 0)])).bind (fun r => cP T e f 4 d r.1 (r.2.1 ++ [(6, 0, 0)]) r.2.2) else some (a, p, t)
section
variable {T : Nat → Tk} {e f d a : Nat} {p t : List Sg}
theorem cP_0 : cP T e (f + 1) 0 d a p t = if ¬ a < e then none else if (T a).1 = 3 then (if d < 6 then (cP T e f 0 (d + 1) (a + 1) p (t ++ [(3, 0, 0)])).bind (fun r => some (r.1, r.2.1 ++ [(4, 0, 0)], r.2.2)) else none) else if (T a).1 = 4 then (if d < 6 then (cP T e f 3 (d + 1) (a + 1) p (t ++ [(4, 0, 0)])).bind (fun r => if r.1 < e ∧ (T r.1).1 = 5 then some (r.1 + 1, r.2.1, r.2.2 ++ [(5, 0, 0)]) else none) else none) else cK T e a p t := rfl
theorem cP_1 : cP T e (f + 1) 1 d a p t = (cP T e f 0 d a p t).bind (fun r => cP T e f 2 d r.1 r.2.1 r.2.2) := rfl
theorem cP_2 : cP T e (f + 1) 2 d a p t = if a < e ∧ (T a).1 = 2 then (cP T e f 0 d (a + 1) p (t ++ [(2, 0, 0)])).bind (fun r => cP T e f 2 d r.1 (r.2.1 ++ [(5, 0, 0)]) r.2.2) else some (a, p, t) := rfl
theorem cP_3 : cP T e (f + 1) 3 d a p t = (cP T e f 1 d a p t).bind (fun r => cP T e f 4 d r.1 r.2.1 r.2.2) := rfl
theorem cP_4 : cP T e (f + 1) 4 d a p t = if a < e ∧ (T a).1 = 1 then (cP T e f 1 d (a + 1) p (t ++ [(1, 0, 0)])).bind (fun r => cP T e f 4 d r.1 (r.2.1 ++ [(6, 0, 0)]) r.2.2) else some (a, p, t) := rfl
end
theorem bd_some {α β : Type} {x : Option α} {g : α → Option β} {y : β} (h : x.bind g = some y) : ∃ r, x = some r ∧ g r = some y := by
  cases x with
  | none => cases h
  | some r => exact ⟨r, rfl, h⟩
def cL (e a : Nat) (p t : List Sg) (r : Nat × List Sg × List Sg) : Prop := a ≤ r.1 ∧ r.1 ≤ e ∧ r.2.1.length + a ≤ p.length + r.1 ∧ r.2.2.length + a ≤ t.length + r.1
theorem cK_len {T : Nat → Tk} {e a : Nat} {p t : List Sg} {r : Nat × List Sg × List Sg} (he : a < e) (h : cK T e a p t = some r) : cL e a p t r ∧ a < r.1 := by
  unfold cK at h
  split at h
  · cases h
    unfold cL
    simp only [List.length_append, List.length_cons, List.length_nil]
    omega
  · split at h
    · cases h
      unfold cL
      simp only [List.length_append, List.length_cons, List.length_nil]
      omega
    · split at h
      · cases h
        unfold cL
        simp only [List.length_append, List.length_cons, List.length_nil]
        omega
      · cases h
theorem cP_len {T : Nat → Tk} {e : Nat} : ∀ f m d a p t r, cP T e f m d a p t = some r → a ≤ e → cL e a p t r ∧ (m = 0 ∨ m = 1 ∨ m = 3 → a < r.1) := by
  intro f
  induction f with
  | zero =>
    intro m d a p t r h
    cases h
  | succ f ih =>
    intro m d a p t r h he
    match m with
    | 0 =>
      rw [cP_0] at h
      split at h
      · cases h
      · rename_i ha
        split at h
        · split at h
          · obtain ⟨r1, h1, h2⟩ := bd_some h
            cases h2
            obtain ⟨q, q2⟩ := ih _ _ _ _ _ _ h1 (by omega)
            unfold cL at q ⊢
            simp only [List.length_append, List.length_cons, List.length_nil] at q ⊢
            omega
          · cases h
        · split at h
          · split at h
            · obtain ⟨r1, h1, h2⟩ := bd_some h
              split at h2
              · rename_i hb
                cases h2
                obtain ⟨q, q2⟩ := ih _ _ _ _ _ _ h1 (by omega)
                unfold cL at q ⊢
                simp only [List.length_append, List.length_cons, List.length_nil] at q ⊢
                omega
              · cases h2
            · cases h
          · obtain ⟨q1, q2⟩ := cK_len (by omega) h
            exact ⟨q1, fun _ => q2⟩
    | 1 =>
      rw [cP_1] at h
      obtain ⟨r1, h1, h2⟩ := bd_some h
      obtain ⟨q, q2⟩ := ih _ _ _ _ _ _ h1 he
      have q2 := q2 (Or.inl rfl)
      unfold cL at q ⊢
      obtain ⟨w, -⟩ := ih _ _ _ _ _ _ h2 (by omega)
      unfold cL at w
      omega
    | 2 =>
      rw [cP_2] at h
      split at h
      · obtain ⟨r1, h1, h2⟩ := bd_some h
        obtain ⟨q, q2⟩ := ih _ _ _ _ _ _ h1 (by omega)
        unfold cL at q ⊢
        obtain ⟨w, -⟩ := ih _ _ _ _ _ _ h2 (by omega)
        unfold cL at w
        simp only [List.length_append, List.length_cons, List.length_nil] at q w ⊢
        omega
      · cases h
        exact ⟨⟨Nat.le_refl _, he, Nat.le_refl _, Nat.le_refl _⟩, fun w => absurd w (by omega)⟩
    | 3 =>
      rw [cP_3] at h
      obtain ⟨r1, h1, h2⟩ := bd_some h
      obtain ⟨q, q2⟩ := ih _ _ _ _ _ _ h1 he
      have q2 := q2 (Or.inr (Or.inl rfl))
      unfold cL at q ⊢
      obtain ⟨w, -⟩ := ih _ _ _ _ _ _ h2 (by omega)
      unfold cL at w
      omega
    | 4 =>
      rw [cP_4] at h
      split at h
      · obtain ⟨r1, h1, h2⟩ := bd_some h
        obtain ⟨q, q2⟩ := ih _ _ _ _ _ _ h1 (by omega)
        unfold cL at q ⊢
        obtain ⟨w, -⟩ := ih _ _ _ _ _ _ h2 (by omega)
        unfold cL at w
        simp only [List.length_append, List.length_cons, List.length_nil] at q w ⊢
        omega
      · cases h
        exact ⟨⟨Nat.le_refl _, he, Nat.le_refl _, Nat.le_refl _⟩, fun w => absurd w (by omega)⟩
    | m + 5 =>
      have e5 : cP T e (f + 1) (m + 5) d a p t = cP T e (f + 1) 4 d a p t := rfl
      rw [e5, cP_4] at h
      split at h
      · obtain ⟨r1, h1, h2⟩ := bd_some h
        obtain ⟨q, q2⟩ := ih _ _ _ _ _ _ h1 (by omega)
        unfold cL at q ⊢
        obtain ⟨w, -⟩ := ih _ _ _ _ _ _ h2 (by omega)
        unfold cL at w
        simp only [List.length_append, List.length_cons, List.length_nil] at q w ⊢
        omega
      · cases h
        exact ⟨⟨Nat.le_refl _, he, Nat.le_refl _, Nat.le_refl _⟩, fun w => absurd w (by omega)⟩
/-- where the class's loops stop -/
theorem cP_stop {T : Nat → Tk} {e : Nat} : ∀ f d a p t r, (cP T e f 1 d a p t = some r → ¬ (r.1 < e ∧ (T r.1).1 = 2)) ∧ (cP T e f 2 d a p t = some r → ¬ (r.1 < e ∧ (T r.1).1 = 2)) ∧ (cP T e f 3 d a p t = some r → ¬ (r.1 < e ∧ (T r.1).1 = 2) ∧ ¬ (r.1 < e ∧ (T r.1).1 = 1)) ∧ (cP T e f 4 d a p t = some r → ¬ (a < e ∧ (T a).1 = 2) → ¬ (r.1 < e ∧ (T r.1).1 = 2) ∧ ¬ (r.1 < e ∧ (T r.1).1 = 1)) := by
  intro f
  induction f with
  | zero =>
    intro d a p t r
    exact ⟨fun h => (by cases h), fun h => (by cases h), fun h => (by cases h), fun h => (by cases h)⟩
  | succ f ih =>
    intro d a p t r
    refine ⟨fun h => ?_, fun h => ?_, fun h => ?_, fun h hn => ?_⟩
    · rw [cP_1] at h
      obtain ⟨r1, h1, h2⟩ := bd_some h
      exact (ih _ _ _ _ _).2.1 h2
    · rw [cP_2] at h
      split at h
      · obtain ⟨r1, h1, h2⟩ := bd_some h
        exact (ih _ _ _ _ _).2.1 h2
      · rename_i q
        cases h
        exact q
    · rw [cP_3] at h
      obtain ⟨r1, h1, h2⟩ := bd_some h
      exact (ih _ _ _ _ _).2.2.2 h2 ((ih _ _ _ _ _).1 h1)
    · rw [cP_4] at h
      split at h
      · obtain ⟨r1, h1, h2⟩ := bd_some h
        exact (ih _ _ _ _ _).2.2.2 h2 ((ih _ _ _ _ _).1 h1)
      · rename_i q
        cases h
        exact ⟨hn, q⟩
/-- the pile without the nots on top -/
def sN : List Nat → List Nat
  | [] => []
  | s :: r => if s = 3 then sN r else s :: r
/-- the reference's reading of n words from k on -/
def rp (T : Nat → Tk) : Nat → Bool → Nat → List Nat → List Sg → Option (List Sg)
  | 0, due, _, π, t => if due = false ∧ π = [] then some t else none
  | n + 1, true, k, π, t =>
    if (T k).1 = 3 ∨ (T k).1 = 4 then (if π.length < 6 then rp T n true (k + 1) ((T k).1 :: π) (t ++ [((T k).1, 0, 0)]) else none)
    else if (T k).1 = 6 then rp T n false (k + 1) (sN π) (t ++ [(6, 0, 0)])
    else if (T k).1 = 7 ∨ (T k).1 = 8 then (match n with
      | 0 => none
      | m + 1 => if (T (k + 1)).2.1 ≠ 0 then rp T m false (k + 2) (sN π) (t ++ [((T k).1, (T (k + 1)).2.1, 0)]) else none)
    else if (T k).2.2.2 ≠ 0 then rp T n false (k + 1) (sN π) (t ++ [(9, (T k).2.2.1, (T k).2.2.2)]) else none
  | n + 1, false, k, π, t =>
    if (T k).1 = 1 ∨ (T k).1 = 2 then rp T n true (k + 1) π (t ++ [((T k).1, 0, 0)])
    else if (T k).1 = 5 ∧ π ≠ [] then rp T n false (k + 1) (sN π.tail) (t ++ [(5, 0, 0)]) else none
section
variable {T : Nat → Tk} {n k : Nat} {due : Bool} {π : List Nat} {t : List Sg}
theorem rp_0 : rp T 0 due k π t = if due = false ∧ π = [] then some t else none := rfl
theorem rp_t : rp T (n + 1) true k π t = if (T k).1 = 3 ∨ (T k).1 = 4 then (if π.length < 6 then rp T n true (k + 1) ((T k).1 :: π) (t ++ [((T k).1, 0, 0)]) else none) else if (T k).1 = 6 then rp T n false (k + 1) (sN π) (t ++ [(6, 0, 0)]) else if (T k).1 = 7 ∨ (T k).1 = 8 then (match n with | 0 => none | m + 1 => if (T (k + 1)).2.1 ≠ 0 then rp T m false (k + 2) (sN π) (t ++ [((T k).1, (T (k + 1)).2.1, 0)]) else none) else if (T k).2.2.2 ≠ 0 then rp T n false (k + 1) (sN π) (t ++ [(9, (T k).2.2.1, (T k).2.2.2)]) else none := by
  cases n <;> rfl
theorem rp_f : rp T (n + 1) false k π t = if (T k).1 = 1 ∨ (T k).1 = 2 then rp T n true (k + 1) π (t ++ [((T k).1, 0, 0)]) else if (T k).1 = 5 ∧ π ≠ [] then rp T n false (k + 1) (sN π.tail) (t ++ [(5, 0, 0)]) else none := rfl
end
theorem bd_n {α β : Type} {g : α → Option β} : (none : Option α).bind g = none := rfl
theorem bd_s {α β : Type} {g : α → Option β} {x : α} : (some x : Option α).bind g = g x := rfl
theorem cP_rp {T : Nat → Tk} {e : Nat} (hT : ∀ k, (T k).1 ≠ 0 → (T k).2.2.2 = 0) : ∀ f d a (p t : List Sg) (π : List Nat), a ≤ e → π.length = d →
    (3 * (e - a) + 1 ≤ f → rp T (e - a) true a π t = (cP T e f 0 d a p t).bind (fun r => rp T (e - r.1) false r.1 (sN π) r.2.2)) ∧
    (sN π = π → (3 * (e - a) + 2 ≤ f → rp T (e - a) true a π t = (cP T e f 1 d a p t).bind (fun r => rp T (e - r.1) false r.1 π r.2.2)) ∧
      (3 * (e - a) + 1 ≤ f → rp T (e - a) false a π t = (cP T e f 2 d a p t).bind (fun r => rp T (e - r.1) false r.1 π r.2.2)) ∧
      (3 * (e - a) + 3 ≤ f → rp T (e - a) true a π t = (cP T e f 3 d a p t).bind (fun r => rp T (e - r.1) false r.1 π r.2.2)) ∧
      (3 * (e - a) + 1 ≤ f → rp T (e - a) false a π t = (cP T e f 4 d a p t).bind (fun r => rp T (e - r.1) false r.1 π r.2.2))) := by
  intro f
  induction f with
  | zero =>
    intro d a p t π ha hd
    exact ⟨fun q => absurd q (by omega), fun _ => ⟨fun q => absurd q (by omega), fun q => absurd q (by omega), fun q => absurd q (by omega), fun q => absurd q (by omega)⟩⟩
  | succ f ih =>
    intro d a p t π ha hd
    refine ⟨fun hf => ?_, fun hs => ⟨fun hf => ?_, fun hf => ?_, fun hf => ?_, fun hf => ?_⟩⟩
    · rw [cP_0]
      by_cases q : a < e
      · rw [if_neg (by omega)]
        obtain ⟨n, hn⟩ : ∃ n, e - a = n + 1 := ⟨e - a - 1, by omega⟩
        have hn' : n = e - (a + 1) := by omega
        rw [hn, rp_t]
        by_cases k3 : (T a).1 = 3
        · rw [if_pos (Or.inl k3), if_pos k3, hd]
          by_cases hd6 : d < 6
          · rw [if_pos hd6, if_pos hd6, hn', k3, (ih (d + 1) (a + 1) p _ (3 :: π) (by omega) (by rw [List.length_cons, hd])).1 (by omega)]
            cases cP T e f 0 (d + 1) (a + 1) p (t ++ [(3, 0, 0)]) with
            | none => rfl
            | some r => rfl
          · rw [if_neg hd6, if_neg hd6]
            rfl
        · rw [if_neg k3]
          by_cases k4 : (T a).1 = 4
          · rw [if_pos (Or.inr k4), if_pos k4, hd]
            by_cases hd6 : d < 6
            · rw [if_pos hd6, if_pos hd6, hn', k4, ((ih (d + 1) (a + 1) p _ (4 :: π) (by omega) (by rw [List.length_cons, hd])).2 rfl).2.2.1 (by omega)]
              cases hc : cP T e f 3 (d + 1) (a + 1) p (t ++ [(4, 0, 0)]) with
              | none => rfl
              | some r =>
                rw [bd_s, bd_s]
                obtain ⟨⟨l1, l2, l3, l4⟩, -⟩ := cP_len _ _ _ _ _ _ _ hc (by omega)
                obtain ⟨s1, s2⟩ := (cP_stop _ _ _ _ _ _).2.2.1 hc
                by_cases hb : r.1 < e
                · obtain ⟨m, hm⟩ : ∃ m, e - r.1 = m + 1 := ⟨e - r.1 - 1, by omega⟩
                  have hm' : m = e - (r.1 + 1) := by omega
                  rw [hm, rp_f, if_neg (fun w => w.elim (fun w => s2 ⟨hb, w⟩) (fun w => s1 ⟨hb, w⟩))]
                  by_cases k5 : (T r.1).1 = 5
                  · rw [if_pos ⟨k5, List.cons_ne_nil _ _⟩, if_pos ⟨hb, k5⟩, hm']
                    rfl
                  · rw [if_neg (fun w => k5 w.1), if_neg (fun w => k5 w.2)]
                    rfl
                · have : e - r.1 = 0 := by omega
                  rw [this, rp_0, if_neg (fun w => absurd w.2 (List.cons_ne_nil _ _)), if_neg (fun w => hb w.1)]
                  rfl
            · rw [if_neg hd6, if_neg hd6]
              rfl
          · rw [if_neg (fun w => w.elim k3 k4), if_neg k4]
            by_cases hp : (T a).2.2.2 = 0
            · by_cases k6 : (T a).1 = 6
              · have ec : cK T e a p t = some (a + 1, p ++ [(0, 0, 0)], t ++ [(6, 0, 0)]) := by
                  unfold cK
                  rw [if_neg (fun w => w hp), if_pos k6]
                rw [if_pos k6, hn', ec]
                rfl
              · rw [if_neg k6]
                by_cases k78 : (T a).1 = 7 ∨ (T a).1 = 8
                · rw [if_pos k78]
                  match n, hn, hn' with
                  | 0, hn, hn' =>
                    have ec : cK T e a p t = none := by
                      unfold cK
                      rw [if_neg (fun w => w hp), if_neg k6, if_neg (fun w => absurd w.2.1 (by omega))]
                    rw [ec]
                    rfl
                  | m + 1, hn, hn' =>
                    by_cases hz : (T (a + 1)).2.1 = 0
                    · have ec : cK T e a p t = none := by
                        unfold cK
                        rw [if_neg (fun w => w hp), if_neg k6, if_neg (fun w => w.2.2 hz)]
                      rw [ec]
                      show (if (T (a + 1)).2.1 ≠ 0 then _ else none) = _
                      rw [if_neg (fun w => w hz)]
                      rfl
                    · have ec : cK T e a p t = some (a + 2, p ++ [((T a).1 - 6, (T (a + 1)).2.1, 0)], t ++ [((T a).1, (T (a + 1)).2.1, 0)]) := by
                        unfold cK
                        rw [if_neg (fun w => w hp), if_neg k6, if_pos ⟨k78, by omega, hz⟩]
                      rw [ec]
                      show (if (T (a + 1)).2.1 ≠ 0 then _ else none) = _
                      rw [if_pos hz]
                      have : m = e - (a + 2) := by omega
                      rw [this]
                      rfl
                · have ec : cK T e a p t = none := by
                    unfold cK
                    rw [if_neg (fun w => w hp), if_neg k6, if_neg (fun w => k78 w.1)]
                  rw [if_neg k78, if_neg (fun w => w hp), ec]
                  rfl
            · have k0 : (T a).1 = 0 := by
                by_cases w : (T a).1 = 0
                · exact w
                · exact absurd (hT a w) hp
              have ec : cK T e a p t = some (a + 1, p ++ [(3, (T a).2.2.1, (T a).2.2.2)], t ++ [(9, (T a).2.2.1, (T a).2.2.2)]) := by
                unfold cK
                rw [if_pos hp]
              rw [if_neg (by omega), if_neg (by omega), if_pos hp, hn', ec]
              rfl
      · have : e - a = 0 := by omega
        rw [this, rp_0, if_neg (fun w => absurd w.1 (by decide)), if_pos q]
        rfl
    · rw [cP_1, (ih d a p t π ha hd).1 (by omega)]
      cases hc : cP T e f 0 d a p t with
      | none => rfl
      | some r =>
        rw [bd_s, bd_s, hs]
        obtain ⟨⟨l1, l2, -⟩, l3⟩ := cP_len _ _ _ _ _ _ _ hc ha
        have l3 := l3 (Or.inl rfl)
        exact ((ih d r.1 r.2.1 r.2.2 π l2 hd).2 hs).2.1 (by omega)
    · rw [cP_2]
      by_cases q : a < e ∧ (T a).1 = 2
      · rw [if_pos q]
        obtain ⟨q, k2⟩ := q
        obtain ⟨n, hn⟩ : ∃ n, e - a = n + 1 := ⟨e - a - 1, by omega⟩
        have hn' : n = e - (a + 1) := by omega
        rw [hn, rp_f, if_pos (Or.inr k2), k2, hn', (ih d (a + 1) p _ π (by omega) hd).1 (by omega)]
        cases hc : cP T e f 0 d (a + 1) p (t ++ [(2, 0, 0)]) with
        | none => rfl
        | some r =>
          rw [bd_s, bd_s, hs]
          obtain ⟨⟨l1, l2, -⟩, l3⟩ := cP_len _ _ _ _ _ _ _ hc (by omega)
          exact ((ih d r.1 _ r.2.2 π l2 hd).2 hs).2.1 (by omega)
      · rw [if_neg q]
        rfl
    · rw [cP_3, ((ih d a p t π ha hd).2 hs).1 (by omega)]
      cases hc : cP T e f 1 d a p t with
      | none => rfl
      | some r =>
        rw [bd_s, bd_s]
        obtain ⟨⟨l1, l2, -⟩, l3⟩ := cP_len _ _ _ _ _ _ _ hc ha
        have l3 := l3 (Or.inr (Or.inl rfl))
        exact ((ih d r.1 r.2.1 r.2.2 π l2 hd).2 hs).2.2.2 (by omega)
    · rw [cP_4]
      by_cases q : a < e ∧ (T a).1 = 1
      · rw [if_pos q]
        obtain ⟨q, k2⟩ := q
        obtain ⟨n, hn⟩ : ∃ n, e - a = n + 1 := ⟨e - a - 1, by omega⟩
        have hn' : n = e - (a + 1) := by omega
        rw [hn, rp_f, if_pos (Or.inl k2), k2, hn', ((ih d (a + 1) p _ π (by omega) hd).2 hs).1 (by omega)]
        cases hc : cP T e f 1 d (a + 1) p (t ++ [(1, 0, 0)]) with
        | none => rfl
        | some r =>
          rw [bd_s, bd_s]
          obtain ⟨⟨l1, l2, -⟩, l3⟩ := cP_len _ _ _ _ _ _ _ hc (by omega)
          exact ((ih d r.1 _ r.2.2 π l2 hd).2 hs).2.2.2 (by omega)
      · rw [if_neg q]
        rfl
/-- a line's condition: the class's signs and the reference's, or none -/
def cF (T : Nat → Tk) (a e : Nat) : Option (List Sg × List Sg) := (cP T e (3 * (e - a) + 3) 3 0 a [] []).bind (fun r => if r.1 = e then some (r.2.1, r.2.2) else none)
theorem cF_rp {T : Nat → Tk} {a e : Nat} (hT : ∀ k, (T k).1 ≠ 0 → (T k).2.2.2 = 0) (ha : a ≤ e) : rp T (e - a) true a [] [] = (cF T a e).map Prod.snd := by
  unfold cF
  rw [((cP_rp hT (3 * (e - a) + 3) 0 a [] [] [] ha rfl).2 rfl).2.2.1 (Nat.le_refl _)]
  cases hc : cP T e (3 * (e - a) + 3) 3 0 a [] [] with
  | none => rfl
  | some r =>
    rw [bd_s, bd_s]
    obtain ⟨⟨l1, l2, -⟩, l3⟩ := cP_len _ _ _ _ _ _ _ hc ha
    obtain ⟨s1, s2⟩ := (cP_stop _ _ _ _ _ _).2.2.1 hc
    by_cases q : r.1 = e
    · rw [if_pos q, q, Nat.sub_self, rp_0, if_pos ⟨rfl, rfl⟩]
      rfl
    · obtain ⟨m, hm⟩ : ∃ m, e - r.1 = m + 1 := ⟨e - r.1 - 1, by omega⟩
      have hb : r.1 < e := by omega
      rw [if_neg q, hm, rp_f, if_neg (fun w => w.elim (fun w => s2 ⟨hb, w⟩) (fun w => s1 ⟨hb, w⟩)), if_neg (fun w => w.2 rfl)]
      rfl
/-- the reference's joining of what waits on the pile -/
def ap (l : Nat) : List Nat → List Bool → Option (List Nat × List Bool)
  | [], ks => some ([], ks)
  | s :: π, ks => if s = 4 ∨ s < l then some (s :: π, ks) else if s = 3 then (match ks with
      | [] => none
      | b :: r => ap l π ((!b) :: r)) else (match ks with
      | b :: a :: r => ap l π ((if s = 2 then a && b else a || b) :: r)
      | _ => none)
/-- the reference's pass over its signs -/
def re (τ : Sg → Bool) : List Sg → List Nat → List Bool → Option (List Nat × List Bool)
  | [], π, ks => some (π, ks)
  | s :: t, π, ks =>
    if s.1 = 3 ∨ s.1 = 4 then re τ t (s.1 :: π) ks
    else if s.1 = 1 ∨ s.1 = 2 then (ap s.1 π ks).bind (fun q => re τ t (s.1 :: q.1) q.2)
    else if s.1 = 5 then (ap 1 π ks).bind (fun q => match q.1 with
      | [] => none
      | _ :: π2 => (ap 3 π2 q.2).bind (fun q => re τ t q.1 q.2))
    else (ap 3 π (τ (s.1 - 6, s.2) :: ks)).bind (fun q => re τ t q.1 q.2)
/-- the class's pass over its signs -/
def pe (τ : Sg → Bool) : List Sg → List Bool → Option (List Bool)
  | [], ks => some ks
  | s :: p, ks =>
    if s.1 = 4 then (match ks with
      | [] => none
      | b :: r => pe τ p ((!b) :: r))
    else if s.1 = 5 then (match ks with
      | b :: a :: r => pe τ p ((a && b) :: r)
      | _ => none)
    else if s.1 = 6 then (match ks with
      | b :: a :: r => pe τ p ((a || b) :: r)
      | _ => none)
    else pe τ p (τ s :: ks)
theorem re_s {τ : Sg → Bool} {s : Sg} {t : List Sg} {π : List Nat} {ks : List Bool} : re τ (s :: t) π ks = if s.1 = 3 ∨ s.1 = 4 then re τ t (s.1 :: π) ks else if s.1 = 1 ∨ s.1 = 2 then (ap s.1 π ks).bind (fun q => re τ t (s.1 :: q.1) q.2) else if s.1 = 5 then (ap 1 π ks).bind (fun q => match q.1 with | [] => none | _ :: π2 => (ap 3 π2 q.2).bind (fun q => re τ t q.1 q.2)) else (ap 3 π (τ (s.1 - 6, s.2) :: ks)).bind (fun q => re τ t q.1 q.2) := rfl
theorem pe_s {τ : Sg → Bool} {s : Sg} {p : List Sg} {ks : List Bool} : pe τ (s :: p) ks = if s.1 = 4 then (match ks with | [] => none | b :: r => pe τ p ((!b) :: r)) else if s.1 = 5 then (match ks with | b :: a :: r => pe τ p ((a && b) :: r) | _ => none) else if s.1 = 6 then (match ks with | b :: a :: r => pe τ p ((a || b) :: r) | _ => none) else pe τ p (τ s :: ks) := rfl
theorem ap_s {l s : Nat} {π : List Nat} {ks : List Bool} : ap l (s :: π) ks = if s = 4 ∨ s < l then some (s :: π, ks) else if s = 3 then (match ks with | [] => none | b :: r => ap l π ((!b) :: r)) else (match ks with | b :: a :: r => ap l π ((if s = 2 then a && b else a || b) :: r) | _ => none) := rfl
theorem re_app {τ : Sg → Bool} {t u : List Sg} {π : List Nat} {ks : List Bool} : re τ (t ++ u) π ks = (re τ t π ks).bind (fun q => re τ u q.1 q.2) := by
  induction t generalizing π ks with
  | nil => rfl
  | cons s t ih =>
    rw [List.cons_append, re_s, re_s]
    split
    · exact ih
    · split
      · rw [Option.bind_assoc]
        congr 1
        funext q
        exact ih
      · split
        · rw [Option.bind_assoc]
          congr 1
          funext q
          cases q.1 with
          | nil => rfl
          | cons s2 π2 =>
            show Option.bind _ _ = Option.bind (Option.bind _ _) _
            rw [Option.bind_assoc]
            congr 1
            funext q
            exact ih
        · rw [Option.bind_assoc]
          congr 1
          funext q
          exact ih
theorem pe_app {τ : Sg → Bool} {t u : List Sg} {ks : List Bool} : pe τ (t ++ u) ks = (pe τ t ks).bind (fun q => pe τ u q) := by
  induction t generalizing ks with
  | nil => rfl
  | cons s t ih =>
    rw [List.cons_append, pe_s, pe_s]
    split
    · cases ks with
      | nil => rfl
      | cons b r => exact ih
    · split
      · match ks with
        | [] => rfl
        | [b] => rfl
        | b :: a :: r => exact ih
      · split
        · match ks with
          | [] => rfl
          | [b] => rfl
          | b :: a :: r => exact ih
        · exact ih
/-- nothing on top of the pile that is joined -/
def gd (l : Nat) : List Nat → Prop
  | [] => True
  | s :: _ => s = 4 ∨ s < l
theorem ap_gd {l : Nat} {π : List Nat} {ks : List Bool} (h : gd l π) : ap l π ks = some (π, ks) := by
  cases π with
  | nil => rfl
  | cons s r =>
    rw [ap_s]
    exact if_pos h
theorem gd_mono {l m : Nat} {π : List Nat} (h : gd l π) (hl : l ≤ m) : gd m π := by
  cases π with
  | nil => exact trivial
  | cons s r =>
    have h : s = 4 ∨ s < l := h
    show s = 4 ∨ s < m
    omega
theorem ap_ap {l m : Nat} {π : List Nat} {ks : List Bool} (hl : l ≤ m) : (ap m π ks).bind (fun q => ap l q.1 q.2) = ap l π ks := by
  induction π generalizing ks with
  | nil => rfl
  | cons s r ih =>
    by_cases q : s = 4 ∨ s < m
    · have : ap m (s :: r) ks = some (s :: r, ks) := ap_gd q
      rw [this]
      rfl
    · have n2 : ¬ (s = 4 ∨ s < l) := by omega
      by_cases q3 : s = 3
      · cases ks with
        | nil =>
          rw [ap_s, ap_s, if_neg q, if_neg n2, if_pos q3]
          rfl
        | cons b t =>
          rw [ap_s, ap_s, if_neg q, if_neg n2, if_pos q3, if_pos q3]
          exact ih
      · match ks with
        | [] =>
          rw [ap_s, ap_s, if_neg q, if_neg n2, if_neg q3]
          rfl
        | [b] =>
          rw [ap_s, ap_s, if_neg q, if_neg n2, if_neg q3, if_neg q3]
          rfl
        | b :: a :: t =>
          rw [ap_s, ap_s, if_neg q, if_neg n2, if_neg q3, if_neg q3]
          exact ih
/-- the names asked for by ok and bad -/
def akC (p : List Sg) : List Int64 := p.filterMap (fun s => if s.1 = 1 ∨ s.1 = 2 then some s.2.1 else none)
def akM (t : List Sg) : List Int64 := t.filterMap (fun s => if s.1 = 7 ∨ s.1 = 8 then some s.2.1 else none)
theorem akC_app {p q : List Sg} : akC (p ++ q) = akC p ++ akC q := List.filterMap_append
theorem akM_app {p q : List Sg} : akM (p ++ q) = akM p ++ akM q := List.filterMap_append
def U0 (q u : List Sg) : Prop := akC q = akM u ∧ ∀ τ, ∃ v, (∀ ks, pe τ q ks = some (v :: ks)) ∧ ∀ π ks, re τ u π ks = ap 3 π (v :: ks)
def U1 (l : Nat) (q u : List Sg) : Prop := akC q = akM u ∧ ∀ τ, ∃ v, (∀ ks, pe τ q ks = some (v :: ks)) ∧ ∀ π ks, gd l π → (re τ u π ks).bind (fun s => ap l s.1 s.2) = some (π, v :: ks)
def U2 (l : Nat) (q u : List Sg) : Prop := akC q = akM u ∧ ∀ τ v, ∃ v2, (∀ ks, pe τ q (v :: ks) = some (v2 :: ks)) ∧ ∀ π ks π1 ks1, gd l π → ap l π1 ks1 = some (π, v :: ks) → (re τ u π1 ks1).bind (fun s => ap l s.1 s.2) = some (π, v2 :: ks)
theorem U2_nil {l : Nat} : U2 l [] [] := ⟨rfl, fun τ v => ⟨v, fun ks => rfl, fun π ks π1 ks1 hg h => h⟩⟩
theorem U1_2 {l : Nat} {q u q2 u2 : List Sg} (h : U1 l q u) (h2 : U2 l q2 u2) : U1 l (q ++ q2) (u ++ u2) := by
  refine ⟨by rw [akC_app, akM_app, h.1, h2.1], fun τ => ?_⟩
  obtain ⟨v, a1, a2⟩ := h.2 τ
  obtain ⟨v2, b1, b2⟩ := h2.2 τ v
  refine ⟨v2, fun ks => ?_, fun π ks hg => ?_⟩
  · rw [pe_app, a1, bd_s]
    exact b1 ks
  · obtain ⟨s, c1, c2⟩ := bd_some (a2 π ks hg)
    rw [re_app, c1, bd_s]
    exact b2 π ks s.1 s.2 hg c2
theorem U0_1 {q u : List Sg} (h : U0 q u) : U1 2 q u := by
  refine ⟨h.1, fun τ => ?_⟩
  obtain ⟨v, a1, a2⟩ := h.2 τ
  refine ⟨v, a1, fun π ks hg => ?_⟩
  rw [a2, ap_gd (gd_mono hg (by decide)), bd_s]
  exact ap_gd hg
theorem U1_1 {q u : List Sg} (h : U1 2 q u) : U1 1 q u := by
  refine ⟨h.1, fun τ => ?_⟩
  obtain ⟨v, a1, a2⟩ := h.2 τ
  refine ⟨v, a1, fun π ks hg => ?_⟩
  obtain ⟨s, c1, c2⟩ := bd_some (a2 π ks (gd_mono hg (by decide)))
  rw [c1, bd_s, ← ap_ap (show 1 ≤ 2 by decide), c2, bd_s]
  exact ap_gd hg
/-- one joining by AND (s = 2) or OR (s = 1), of a unit that stands behind it -/
theorem U2_and {q u q2 u2 : List Sg} (h : U0 q u) (h2 : U2 2 q2 u2) : U2 2 (q ++ [(5, 0, 0)] ++ q2) ((2, 0, 0) :: u ++ u2) := by
  refine ⟨?_, fun τ v => ?_⟩
  · have e1 : akM ((2, 0, 0) :: u ++ u2) = akM u ++ akM u2 := akM_app (p := (2, 0, 0) :: u)
    rw [e1, akC_app, akC_app, h.1, h2.1]
    show _ ++ [] ++ _ = _
    rw [List.append_nil]
  obtain ⟨w, a1, a2⟩ := h.2 τ
  obtain ⟨v2, b1, b2⟩ := h2.2 τ (v && w)
  refine ⟨v2, fun ks => ?_, fun π ks π1 ks1 hg hq => ?_⟩
  · rw [pe_app, pe_app, a1, bd_s]
    exact b1 ks
  · have e1 : re τ ((2, 0, 0) :: u ++ u2) π1 ks1 = (ap 2 π1 ks1).bind (fun q => re τ (u ++ u2) (2 :: q.1) q.2) := rfl
    rw [e1, hq, bd_s, re_app, a2]
    have e2 : ap 3 (2 :: π) (w :: v :: ks) = some (2 :: π, w :: v :: ks) := rfl
    rw [e2, bd_s]
    exact b2 π ks (2 :: π) (w :: v :: ks) hg (show ap 2 π ((v && w) :: ks) = _ from ap_gd hg)
theorem U2_or {q u q2 u2 : List Sg} (h : U1 2 q u) (h2 : U2 1 q2 u2) : U2 1 (q ++ [(6, 0, 0)] ++ q2) ((1, 0, 0) :: u ++ u2) := by
  refine ⟨?_, fun τ v => ?_⟩
  · have e1 : akM ((1, 0, 0) :: u ++ u2) = akM u ++ akM u2 := akM_app (p := (1, 0, 0) :: u)
    rw [e1, akC_app, akC_app, h.1, h2.1]
    show _ ++ [] ++ _ = _
    rw [List.append_nil]
  obtain ⟨w, a1, a2⟩ := h.2 τ
  obtain ⟨v2, b1, b2⟩ := h2.2 τ (v || w)
  refine ⟨v2, fun ks => ?_, fun π ks π1 ks1 hg hq => ?_⟩
  · rw [pe_app, pe_app, a1, bd_s]
    exact b1 ks
  · have e1 : re τ ((1, 0, 0) :: u ++ u2) π1 ks1 = (ap 1 π1 ks1).bind (fun q => re τ (u ++ u2) (1 :: q.1) q.2) := rfl
    obtain ⟨s, c1, c2⟩ := bd_some (a2 (1 :: π) (v :: ks) (Or.inr (by decide)))
    rw [e1, hq, bd_s, re_app, c1, bd_s]
    refine b2 π ks s.1 s.2 hg ?_
    rw [← ap_ap (show 1 ≤ 2 by decide), c2, bd_s]
    exact (show ap 1 π ((v || w) :: ks) = _ from ap_gd hg)
theorem U0_not {q u : List Sg} (h : U0 q u) : U0 (q ++ [(4, 0, 0)]) ((3, 0, 0) :: u) := by
  refine ⟨?_, fun τ => ?_⟩
  · have e1 : akM ((3, 0, 0) :: u) = akM u := rfl
    rw [e1, akC_app, h.1]
    show _ ++ [] = _
    rw [List.append_nil]
  obtain ⟨w, a1, a2⟩ := h.2 τ
  refine ⟨!w, fun ks => ?_, fun π ks => ?_⟩
  · rw [pe_app, a1, bd_s]
    rfl
  · have e1 : re τ ((3, 0, 0) :: u) π ks = re τ u (3 :: π) ks := rfl
    rw [e1, a2]
    rfl
theorem U0_open {q u : List Sg} (h : U1 1 q u) : U0 q ((4, 0, 0) :: u ++ [(5, 0, 0)]) := by
  refine ⟨?_, fun τ => ?_⟩
  · have e1 : akM ((4, 0, 0) :: u ++ [(5, 0, 0)]) = akM u ++ akM [(5, 0, 0)] := akM_app (p := (4, 0, 0) :: u)
    rw [e1, h.1]
    show _ = _ ++ []
    rw [List.append_nil]
  obtain ⟨w, a1, a2⟩ := h.2 τ
  refine ⟨w, a1, fun π ks => ?_⟩
  have e1 : re τ ((4, 0, 0) :: u ++ [(5, 0, 0)]) π ks = re τ (u ++ [(5, 0, 0)]) (4 :: π) ks := rfl
  obtain ⟨s, c1, c2⟩ := bd_some (a2 (4 :: π) ks (Or.inl rfl))
  rw [e1, re_app, c1, bd_s]
  have e2 : re τ [(5, 0, 0)] s.1 s.2 = (ap 1 s.1 s.2).bind (fun q => match q.1 with | [] => none | _ :: π2 => (ap 3 π2 q.2).bind (fun q => some (q.1, q.2))) := rfl
  rw [e2, c2, bd_s]
  show (ap 3 π (w :: ks)).bind (fun q => some (q.1, q.2)) = _
  cases ap 3 π (w :: ks) with
  | none => rfl
  | some x => rfl
theorem U0_ask {k : Nat} {n v : Int64} (h : k < 4) : U0 [(k, n, v)] [(k + 6, n, v)] := by
  have hk : k = 0 ∨ k = 1 ∨ k = 2 ∨ k = 3 := by omega
  have fin : ∀ (π : List Nat) (ks : List Bool), (ap 3 π ks).bind (fun q => some (q.1, q.2)) = ap 3 π ks := by
    intro π ks
    cases ap 3 π ks with
    | none => rfl
    | some x => rfl
  rcases hk with r | r | r | r <;> subst r
  · exact ⟨rfl, fun τ => ⟨τ (0, n, v), fun ks => rfl, fun π ks => fin _ _⟩⟩
  · exact ⟨rfl, fun τ => ⟨τ (1, n, v), fun ks => rfl, fun π ks => fin _ _⟩⟩
  · exact ⟨rfl, fun τ => ⟨τ (2, n, v), fun ks => rfl, fun π ks => fin _ _⟩⟩
  · exact ⟨rfl, fun τ => ⟨τ (3, n, v), fun ks => rfl, fun π ks => fin _ _⟩⟩
def cE (U : List Sg → List Sg → Prop) (p t : List Sg) (r : Nat × List Sg × List Sg) : Prop := ∃ q u, r.2.1 = p ++ q ∧ r.2.2 = t ++ u ∧ U q u
theorem cK_U {T : Nat → Tk} {e a : Nat} {p t : List Sg} {r : Nat × List Sg × List Sg} (h : cK T e a p t = some r) : cE U0 p t r := by
  unfold cK at h
  split at h
  · cases h
    exact ⟨_, _, rfl, rfl, U0_ask (k := 3) (by decide)⟩
  · split at h
    · cases h
      exact ⟨_, _, rfl, rfl, U0_ask (k := 0) (by decide)⟩
    · split at h
      · rename_i q
        cases h
        refine ⟨_, _, rfl, rfl, ?_⟩
        rcases q.1 with w | w
        · rw [w]
          exact U0_ask (k := 1) (by decide)
        · rw [w]
          exact U0_ask (k := 2) (by decide)
      · cases h
theorem cP_U {T : Nat → Tk} {e : Nat} : ∀ f d a p t r, (cP T e f 0 d a p t = some r → cE U0 p t r) ∧ (cP T e f 1 d a p t = some r → cE (U1 2) p t r) ∧ (cP T e f 2 d a p t = some r → cE (U2 2) p t r) ∧ (cP T e f 3 d a p t = some r → cE (U1 1) p t r) ∧ (cP T e f 4 d a p t = some r → cE (U2 1) p t r) := by
  intro f
  induction f with
  | zero =>
    intro d a p t r
    exact ⟨fun h => (by cases h), fun h => (by cases h), fun h => (by cases h), fun h => (by cases h), fun h => (by cases h)⟩
  | succ f ih =>
    intro d a p t r
    refine ⟨fun h => ?_, fun h => ?_, fun h => ?_, fun h => ?_, fun h => ?_⟩
    · rw [cP_0] at h
      split at h
      · cases h
      · split at h
        · split at h
          · obtain ⟨r1, h1, h2⟩ := bd_some h
            cases h2
            obtain ⟨q, u, e1, e2, hu⟩ := (ih _ _ _ _ _).1 h1
            exact ⟨q ++ [(4, 0, 0)], (3, 0, 0) :: u, by show r1.2.1 ++ _ = _; rw [e1, List.append_assoc], by show r1.2.2 = _; rw [e2, List.append_assoc]; rfl, U0_not hu⟩
          · cases h
        · split at h
          · split at h
            · obtain ⟨r1, h1, h2⟩ := bd_some h
              split at h2
              · cases h2
                obtain ⟨q, u, e1, e2, hu⟩ := (ih _ _ _ _ _).2.2.2.1 h1
                exact ⟨q, (4, 0, 0) :: u ++ [(5, 0, 0)], e1, by show r1.2.2 ++ _ = _; rw [e2, List.append_assoc, List.append_assoc]; rfl, U0_open hu⟩
              · cases h2
            · cases h
          · exact cK_U h
    · rw [cP_1] at h
      obtain ⟨r1, h1, h2⟩ := bd_some h
      obtain ⟨q, u, e1, e2, hu⟩ := (ih _ _ _ _ _).1 h1
      obtain ⟨q2, u2, e3, e4, hu2⟩ := (ih _ _ _ _ _).2.2.1 h2
      exact ⟨q ++ q2, u ++ u2, by rw [e3, e1, List.append_assoc], by rw [e4, e2, List.append_assoc], U1_2 (U0_1 hu) hu2⟩
    · rw [cP_2] at h
      split at h
      · obtain ⟨r1, h1, h2⟩ := bd_some h
        obtain ⟨q, u, e1, e2, hu⟩ := (ih _ _ _ _ _).1 h1
        obtain ⟨q2, u2, e3, e4, hu2⟩ := (ih _ _ _ _ _).2.2.1 h2
        exact ⟨q ++ [(5, 0, 0)] ++ q2, (2, 0, 0) :: u ++ u2, by rw [e3, e1]; simp only [List.append_assoc], by rw [e4, e2]; simp only [List.append_assoc, List.cons_append, List.nil_append], U2_and hu hu2⟩
      · cases h
        exact ⟨[], [], (List.append_nil p).symm, (List.append_nil t).symm, U2_nil⟩
    · rw [cP_3] at h
      obtain ⟨r1, h1, h2⟩ := bd_some h
      obtain ⟨q, u, e1, e2, hu⟩ := (ih _ _ _ _ _).2.1 h1
      obtain ⟨q2, u2, e3, e4, hu2⟩ := (ih _ _ _ _ _).2.2.2.2 h2
      exact ⟨q ++ q2, u ++ u2, by rw [e3, e1, List.append_assoc], by rw [e4, e2, List.append_assoc], U1_2 (U1_1 hu) hu2⟩
    · rw [cP_4] at h
      split at h
      · obtain ⟨r1, h1, h2⟩ := bd_some h
        obtain ⟨q, u, e1, e2, hu⟩ := (ih _ _ _ _ _).2.1 h1
        obtain ⟨q2, u2, e3, e4, hu2⟩ := (ih _ _ _ _ _).2.2.2.2 h2
        exact ⟨q ++ [(6, 0, 0)] ++ q2, (1, 0, 0) :: u ++ u2, by rw [e3, e1]; simp only [List.append_assoc], by rw [e4, e2]; simp only [List.append_assoc, List.cons_append, List.nil_append], U2_or hu hu2⟩
      · cases h
        exact ⟨[], [], (List.append_nil p).symm, (List.append_nil t).symm, U2_nil⟩
/-- the class's signs p and the reference's t hold alike -/
def CR (t p : List Sg) : Prop := t.length ≤ 20 ∧ p.length ≤ 20 ∧ (t = [] ↔ p = []) ∧ akC p = akM t ∧ (¬ t = [] → ∀ τ, ∃ v, pe τ p [] = some [v] ∧ (re τ t [] []).bind (fun s => ap 1 s.1 s.2) = some ([], [v]))
theorem CR_nil : CR [] [] := ⟨by decide, by decide, ⟨fun _ => rfl, fun _ => rfl⟩, rfl, fun h => absurd rfl h⟩
theorem cF_CR {T : Nat → Tk} {a e : Nat} {r : List Sg × List Sg} (ha : a ≤ e) (he : e ≤ a + 20) (h : cF T a e = some r) : CR r.2 r.1 ∧ ¬ r.2 = [] := by
  unfold cF at h
  obtain ⟨r1, h1, h2⟩ := bd_some h
  split at h2
  · rename_i hr
    cases h2
    obtain ⟨⟨l1, l2, l3, l4⟩, -⟩ := cP_len _ _ _ _ _ _ _ h1 ha
    have l3 : r1.2.1.length + a ≤ 0 + r1.1 := l3
    have l4 : r1.2.2.length + a ≤ 0 + r1.1 := l4
    obtain ⟨q, u, e1, e2, hu⟩ := (cP_U _ _ _ _ _ _).2.2.2.1 h1
    have e1 : r1.2.1 = q := e1
    have e2 : r1.2.2 = u := e2
    have nu : ¬ r1.2.2 = [] := by
      intro w
      rw [e2] at w
      obtain ⟨v, -, b⟩ := hu.2 (fun _ => true)
      have := b [] [] trivial
      rw [w] at this
      cases this
    have nq : ¬ r1.2.1 = [] := by
      intro w
      rw [e1] at w
      obtain ⟨v, b, -⟩ := hu.2 (fun _ => true)
      have := b []
      rw [w] at this
      cases this
    refine ⟨⟨by show r1.2.2.length ≤ 20; omega, by show r1.2.1.length ≤ 20; omega, ⟨fun w => absurd w nu, fun w => absurd w nq⟩, by show akC r1.2.1 = akM r1.2.2; rw [e1, e2]; exact hu.1, fun _ τ => ?_⟩, nu⟩
    obtain ⟨v, b1, b2⟩ := hu.2 τ
    refine ⟨v, ?_, ?_⟩
    · show pe τ r1.2.1 [] = _
      rw [e1]
      exact b1 []
    · show (re τ r1.2.2 [] []).bind _ = _
      rw [e2]
      exact b2 [] [] trivial
  · cases h2
