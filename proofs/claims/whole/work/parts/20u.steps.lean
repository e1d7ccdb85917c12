-- ===== steps: how many, and which =====
def szI (P : mj_P) (σ : Nat → Nat) (t : It) : Nat := if t.1 = 0 then 1 else if pN P t.1 = -1 then 0 else σ (pN P t.1).toNatClampNeg
def sI (P : mj_P) (σ : Nat → Nat) (xs : List It) : Nat → Nat
  | 0 => 0
  | n + 1 => sI P σ xs n + szI P σ (xs.getD n (0, 0, 0))
theorem sI_s {P : mj_P} {σ : Nat → Nat} {xs : List It} {n : Nat} : sI P σ xs (n + 1) = sI P σ xs n + szI P σ (xs.getD n (0, 0, 0)) := rfl
def totI (P : mj_P) (σ : Nat → Nat) (xs : List It) : Nat := if 1000 < sI P σ xs xs.length then 1000 else sI P σ xs xs.length
/-- one pass over the parts -/
def sw (P : mj_P) (σ : Nat → Nat) : Nat → Nat → Nat
  | 0 => σ
  | k + 1 => up (sw P σ k) k (totI P (sw P σ k) (P.sc (12 + k)).2)
def rdS (P : mj_P) : Nat → Nat → Nat
  | 0 => fun _ => 0
  | r + 1 => sw P (rdS P r) P.np
def σF (P : mj_P) : Nat → Nat := rdS P P.np
theorem sw_s {P : mj_P} {σ : Nat → Nat} {k : Nat} : sw P σ (k + 1) = up (sw P σ k) k (totI P (sw P σ k) (P.sc (12 + k)).2) := rfl
theorem rdS_s {P : mj_P} {r : Nat} : rdS P (r + 1) = sw P (rdS P r) P.np := rfl
/-- no count is more than its part gives -/
def pf (P : mj_P) (σ : Nat → Nat) : Prop := ∀ p, σ p ≤ 1000 ∧ (p < P.np → σ p ≤ sI P σ (P.sc (12 + p)).2 (P.sc (12 + p)).2.length) ∧ (P.np ≤ p → σ p = 0)
theorem sz_mono {P : mj_P} {σ τ : Nat → Nat} {t : It} (h : ∀ p, σ p ≤ τ p) : szI P σ t ≤ szI P τ t := by
  unfold szI
  split
  · exact Nat.le_refl 1
  · split
    · exact Nat.le_refl 0
    · exact h _
theorem sI_mono {P : mj_P} {σ τ : Nat → Nat} {xs : List It} {n : Nat} (h : ∀ p, σ p ≤ τ p) : sI P σ xs n ≤ sI P τ xs n := by
  induction n with
  | zero => exact Nat.le_refl 0
  | succ n ih =>
    rw [sI_s, sI_s]
    exact Nat.add_le_add ih (sz_mono h)
theorem tot_le {P : mj_P} {σ : Nat → Nat} {xs : List It} : totI P σ xs ≤ 1000 ∧ totI P σ xs ≤ sI P σ xs xs.length := by
  unfold totI
  split <;> omega
theorem pf_up {P : mj_P} {σ : Nat → Nat} {k : Nat} (h : pf P σ) (hk : k < P.np) : pf P (up σ k (totI P σ (P.sc (12 + k)).2)) := by
  have m : ∀ p, σ p ≤ up σ k (totI P σ (P.sc (12 + k)).2) p := by
    intro p
    by_cases q : p = k
    · rw [q, up_e]
      unfold totI
      have := (h k).1
      have := (h k).2.1 hk
      split <;> omega
    · rw [up_n q]
      exact Nat.le_refl _
  intro p
  by_cases q : p = k
  · subst q
    have e := tot_le (P := P) (σ := σ) (xs := (P.sc (12 + p)).2)
    rw [up_e]
    exact ⟨e.1, fun _ => Nat.le_trans e.2 (sI_mono m), fun r => absurd r (by omega)⟩
  · rw [up_n q]
    exact ⟨(h p).1, fun r => Nat.le_trans ((h p).2.1 r) (sI_mono m), (h p).2.2⟩
theorem pf_sw {P : mj_P} {σ : Nat → Nat} {k : Nat} (h : pf P σ) (hk : k ≤ P.np) : pf P (sw P σ k) := by
  induction k with
  | zero => exact h
  | succ k ih => exact pf_up (ih (by omega)) (by omega)
theorem pf_rd {P : mj_P} {r : Nat} : pf P (rdS P r) := by
  induction r with
  | zero => exact fun p => ⟨Nat.zero_le _, fun _ => Nat.zero_le _, fun _ => rfl⟩
  | succ r ih => exact pf_sw ih (Nat.le_refl _)
theorem sz_le {P : mj_P} {σ : Nat → Nat} {t : It} (h : pf P σ) : szI P σ t ≤ 1000 := by
  unfold szI
  split
  · omega
  · split
    · omega
    · exact (h _).1
theorem sI_le {P : mj_P} {σ : Nat → Nat} {xs : List It} {n : Nat} (h : pf P σ) : sI P σ xs n ≤ 1000 * n := by
  induction n with
  | zero => exact Nat.le_refl 0
  | succ n ih =>
    rw [sI_s]
    have := sz_le (t := xs.getD n (0, 0, 0)) h
    omega
/-- where the l-th step of the items from i on lies -/
def scn (P : mj_P) (σ : Nat → Nat) (xs : List It) : Nat → Nat → Nat → Nat × Nat
  | 0, i, l => (i, l)
  | n + 1, i, l => if l < szI P σ (xs.getD i (0, 0, 0)) then (i, l) else scn P σ xs n (i + 1) (l - szI P σ (xs.getD i (0, 0, 0)))
theorem scn_s {P : mj_P} {σ : Nat → Nat} {xs : List It} {n i l : Nat} : scn P σ xs (n + 1) i l = if l < szI P σ (xs.getD i (0, 0, 0)) then (i, l) else scn P σ xs n (i + 1) (l - szI P σ (xs.getD i (0, 0, 0))) := rfl
def fd (P : mj_P) (σ : Nat → Nat) : Nat → Nat → Nat → Option (Nat × Nat)
  | 0, _, _ => none
  | f + 1, k, l => if (scn P σ (P.sc k).2 (P.sc k).2.length 0 l).1 < (P.sc k).2.length then
      (if ((P.sc k).2.getD (scn P σ (P.sc k).2 (P.sc k).2.length 0 l).1 (0, 0, 0)).1 = 0 then some (k, (scn P σ (P.sc k).2 (P.sc k).2.length 0 l).1)
      else if pN P ((P.sc k).2.getD (scn P σ (P.sc k).2 (P.sc k).2.length 0 l).1 (0, 0, 0)).1 = -1 then none
      else fd P σ f (12 + (pN P ((P.sc k).2.getD (scn P σ (P.sc k).2 (P.sc k).2.length 0 l).1 (0, 0, 0)).1).toNatClampNeg) (scn P σ (P.sc k).2 (P.sc k).2.length 0 l).2)
    else none
theorem fd_s {P : mj_P} {σ : Nat → Nat} {f k l : Nat} : fd P σ (f + 1) k l = if (scn P σ (P.sc k).2 (P.sc k).2.length 0 l).1 < (P.sc k).2.length then (if ((P.sc k).2.getD (scn P σ (P.sc k).2 (P.sc k).2.length 0 l).1 (0, 0, 0)).1 = 0 then some (k, (scn P σ (P.sc k).2 (P.sc k).2.length 0 l).1) else if pN P ((P.sc k).2.getD (scn P σ (P.sc k).2 (P.sc k).2.length 0 l).1 (0, 0, 0)).1 = -1 then none else fd P σ f (12 + (pN P ((P.sc k).2.getD (scn P σ (P.sc k).2 (P.sc k).2.length 0 l).1 (0, 0, 0)).1).toNatClampNeg) (scn P σ (P.sc k).2 (P.sc k).2.length 0 l).2) else none := rfl
theorem scn_in {P : mj_P} {σ : Nat → Nat} {xs : List It} : ∀ {n i l : Nat}, l + sI P σ xs i < sI P σ xs (i + n) → (scn P σ xs n i l).1 < i + n ∧ (scn P σ xs n i l).2 < szI P σ (xs.getD (scn P σ xs n i l).1 (0, 0, 0))
  | 0, i, l, h => absurd h (by rw [Nat.add_zero]; omega)
  | n + 1, i, l, h => by
    rw [scn_s]
    split
    · rename_i q
      exact ⟨by omega, q⟩
    · rename_i q
      have e : i + (n + 1) = i + 1 + n := by omega
      rw [e] at h ⊢
      refine scn_in ?_
      rw [sI_s]
      omega
theorem sI_up {P : mj_P} {σ : Nat → Nat} {xs : List It} {n m : Nat} : sI P σ xs n ≤ sI P σ xs (n + m) := by
  induction m with
  | zero => exact Nat.le_refl _
  | succ m ih => exact Nat.le_trans ih (Nat.le_add_right _ (szI P σ (xs.getD (n + m) (0, 0, 0))))
theorem scn_out {P : mj_P} {σ : Nat → Nat} {xs : List It} : ∀ {n i l : Nat}, sI P σ xs (i + n) ≤ l + sI P σ xs i → (scn P σ xs n i l).1 = i + n
  | 0, i, l, h => rfl
  | n + 1, i, l, h => by
    have e : i + (n + 1) = i + 1 + n := by omega
    have m1 := sI_up (P := P) (σ := σ) (xs := xs) (n := i + 1) (m := n)
    rw [e] at h
    rw [scn_s, if_neg (by rw [sI_s] at m1; omega), scn_out (by rw [sI_s]; rw [sI_s] at m1; omega)]
    omega
theorem scn_le {P : mj_P} {σ : Nat → Nat} {xs : List It} : ∀ {n i l : Nat}, (scn P σ xs n i l).2 ≤ l ∧ i ≤ (scn P σ xs n i l).1 ∧ (scn P σ xs n i l).1 ≤ i + n
  | 0, i, l => ⟨Nat.le_refl l, Nat.le_refl i, Nat.le_refl i⟩
  | n + 1, i, l => by
    rw [scn_s]
    split
    · exact ⟨Nat.le_refl l, Nat.le_refl i, by show i ≤ i + (n + 1); omega⟩
    · have := scn_le (P := P) (σ := σ) (xs := xs) (n := n) (i := i + 1) (l := l - szI P σ (xs.getD i (0, 0, 0)))
      omega
/-- reaching -/
theorem wf_sub {R : Nat → Nat → Bool} {k a b : Nat} (h : R a b = true) : wf k R a b = true := by
  induction k with
  | zero => exact h
  | succ k ih =>
    rw [wf_s]
    unfold wst
    rw [ih]
    rfl
theorem wf_tr {R : Nat → Nat → Bool} {k : Nat} : ∀ {a b c : Nat}, c < k → wf k R a c = true → wf k R c b = true → wf k R a b = true := by
  induction k with
  | zero =>
    intro a b c hc
    exact absurd hc (Nat.not_lt_zero c)
  | succ k ih =>
    intro a b c hc h1 h2
    rw [wf_s] at h1 h2 ⊢
    unfold wst at h1 h2 ⊢
    rw [Bool.or_eq_true, Bool.and_eq_true] at h1 h2 ⊢
    by_cases q : c = k
    · subst q
      have g1 : wf c R a c = true := h1.elim id (fun r => r.1)
      have g2 : wf c R c b = true := h2.elim id (fun r => r.2)
      exact Or.inr ⟨g1, g2⟩
    · have hc2 : c < k := by omega
      rcases h1 with h1 | h1
      · rcases h2 with h2 | h2
        · exact Or.inl (ih hc2 h1 h2)
        · exact Or.inr ⟨ih hc2 h1 h2.1, h2.2⟩
      · rcases h2 with h2 | h2
        · exact Or.inr ⟨h1.1, ih hc2 h1.2 h2⟩
        · exact Or.inr ⟨h1.1, h2.2⟩
def cT (g : Nat → Bool) : Nat → Nat
  | 0 => 0
  | n + 1 => cT g n + (if g n then 1 else 0)
theorem cT_le {g : Nat → Bool} {n : Nat} : cT g n ≤ n := by
  induction n with
  | zero => exact Nat.le_refl 0
  | succ n ih =>
    show cT g n + (if g n then 1 else 0) ≤ n + 1
    split <;> omega
theorem cT_mono {f g : Nat → Bool} {n : Nat} (h : ∀ i, i < n → f i = true → g i = true) : cT f n ≤ cT g n := by
  induction n with
  | zero => exact Nat.le_refl 0
  | succ n ih =>
    have := ih (fun i hi => h i (by omega))
    show cT f n + (if f n then 1 else 0) ≤ cT g n + (if g n then 1 else 0)
    by_cases q : f n = true
    · rw [if_pos q, if_pos (h n (by omega) q)]
      omega
    · rw [if_neg q]
      omega
theorem cT_lt {f g : Nat → Bool} {n k : Nat} (h : ∀ i, i < n → f i = true → g i = true) (hk : k < n) (hf : f k = false) (hg : g k = true) : cT f n < cT g n := by
  induction n with
  | zero => exact absurd hk (Nat.not_lt_zero k)
  | succ n ih =>
    show cT f n + (if f n then 1 else 0) < cT g n + (if g n then 1 else 0)
    by_cases q : k = n
    · subst q
      have := cT_mono (n := k) (fun i hi => h i (by omega))
      rw [hf, hg]
      show cT f k + 0 < cT g k + 1
      omega
    · have := ih (fun i hi => h i (by omega)) (by omega)
      by_cases q2 : f n = true
      · rw [if_pos q2, if_pos (h n (by omega) q2)]
        omega
      · rw [if_neg q2]
        omega
theorem fc_0 {P : mj_P} (h : (fc P).1 = 0) : fi (f1 P) 0 P.nj = -1 ∧ fi (f2 P) 0 P.nj = -1 ∧ fi (fun p => f2 P (12 + p)) 0 P.np = -1 ∧ cyc P.np (E3 P) = -1 ∧ cyc P.nj (E4 P) = -1 := by
  unfold fc at h
  by_cases q1 : fi (f1 P) 0 P.nj = -1
  · rw [if_neg (fun r => r q1)] at h
    by_cases q2 : fi (f2 P) 0 P.nj = -1
    · rw [if_neg (fun r => r q2)] at h
      by_cases q3 : fi (fun p => f2 P (12 + p)) 0 P.np = -1
      · rw [if_neg (fun r => r q3)] at h
        by_cases q4 : cyc P.np (E3 P) = -1
        · rw [if_neg (fun r => r q4)] at h
          by_cases q5 : cyc P.nj (E4 P) = -1
          · exact ⟨q1, q2, q3, q4, q5⟩
          · rw [if_pos q5] at h
            exact absurd h (by show ¬ (4 : Int32) = 0; decide)
        · rw [if_pos q4] at h
          exact absurd h (by show ¬ (3 : Int32) = 0; decide)
      · rw [if_pos q3] at h
        exact absurd h (by show ¬ (2 : Int32) = 0; decide)
    · rw [if_pos q2] at h
      exact absurd h (by show ¬ (2 : Int32) = 0; decide)
  · rw [if_pos q1] at h
    exact absurd h (by show ¬ (1 : Int32) = 0; decide)
theorem f2_use {P : mj_P} {k i : Nat} (h : f2 P k = false) (hi : i < (P.sc k).2.length) (hu : ¬ ((P.sc k).2.getD i (0, 0, 0)).1 = 0) : ∃ q, q < P.np ∧ pN P ((P.sc k).2.getD i (0, 0, 0)).1 = nI q := by
  rcases pN_of (P := P) (y := ((P.sc k).2.getD i (0, 0, 0)).1) with v | v
  · unfold f2 at h
    rw [any_t (x := (0, 0, 0)) (i := i) hi (by unfold mP; rw [decide_eq_true hu, decide_eq_true v]; rfl)] at h
    cases h
  · exact v
/-- without a fault every step is found -/
theorem fd_part {P : mj_P} (hp8 : P.np ≤ 8) (h : (fc P).1 = 0) : ∀ f p l, p < P.np → cT (fun q => wf P.np (E3 P) p q) P.np < f → l < sI P (σF P) (P.sc (12 + p)).2 (P.sc (12 + p)).2.length → ∃ r, fd P (σF P) f (12 + p) l = some r := by
  obtain ⟨-, -, h3, h4, -⟩ := fc_0 h
  have hf := fi_all (by omega) h3
  have irr := fi_all (p := fun a => wf P.np (E3 P) a a) (by omega) h4
  intro f
  induction f with
  | zero =>
    intro p l hp hr
    exact absurd hr (Nat.not_lt_zero _)
  | succ f ih =>
    intro p l hp hr hl
    obtain ⟨a, b⟩ := scn_in (P := P) (σ := σF P) (xs := (P.sc (12 + p)).2) (n := (P.sc (12 + p)).2.length) (i := 0) (l := l) (by rw [Nat.zero_add]; exact hl)
    rw [Nat.zero_add] at a
    rw [fd_s, if_pos a]
    generalize scn P (σF P) (P.sc (12 + p)).2 (P.sc (12 + p)).2.length 0 l = s at *
    by_cases hu : ((P.sc (12 + p)).2.getD s.1 (0, 0, 0)).1 = 0
    · rw [if_pos hu]
      exact ⟨_, rfl⟩
    · obtain ⟨q, q1, q2⟩ := f2_use (hf p hp) a hu
      rw [if_neg hu, if_neg (by rw [q2]; exact m1_ne (by omega)), q2, nI_clamp (by omega)]
      unfold szI at b
      rw [if_neg hu, if_neg (by rw [q2]; exact m1_ne (by omega)), q2, nI_clamp (by omega)] at b
      have e : E3 P p q = true := aT_t.mpr ⟨s.1, a, by rw [decide_eq_true hu, decide_eq_true q2]; rfl⟩
      have w := wf_sub (k := P.np) e
      refine ih q s.2 q1 ?_ (Nat.lt_of_lt_of_le b ((pf_rd q).2.1 q1))
      have := cT_lt (f := fun z => wf P.np (E3 P) q z) (g := fun z => wf P.np (E3 P) p z) (n := P.np) (k := q) (fun i hi v => wf_tr q1 w v) q1 (irr q q1) w
      omega
theorem fd_job {P : mj_P} {j l : Nat} (hp8 : P.np ≤ 8) (hj : j < P.nj) (hj12 : P.nj ≤ 12) (h : (fc P).1 = 0) (hl : l < sI P (σF P) (P.sc j).2 (P.sc j).2.length) : ∃ r, fd P (σF P) 9 j l = some r := by
  obtain ⟨-, h2, h3, h4, -⟩ := fc_0 h
  have hf := fi_all (by omega) h2
  have irr := fi_all (p := fun a => wf P.np (E3 P) a a) (by omega) h4
  obtain ⟨a, b⟩ := scn_in (P := P) (σ := σF P) (xs := (P.sc j).2) (n := (P.sc j).2.length) (i := 0) (l := l) (by rw [Nat.zero_add]; exact hl)
  rw [Nat.zero_add] at a
  rw [fd_s, if_pos a]
  generalize scn P (σF P) (P.sc j).2 (P.sc j).2.length 0 l = s at *
  by_cases hu : ((P.sc j).2.getD s.1 (0, 0, 0)).1 = 0
  · rw [if_pos hu]
    exact ⟨_, rfl⟩
  · obtain ⟨q, q1, q2⟩ := f2_use (hf j hj) a hu
    rw [if_neg hu, if_neg (by rw [q2]; exact m1_ne (by omega)), q2, nI_clamp (by omega)]
    unfold szI at b
    rw [if_neg hu, if_neg (by rw [q2]; exact m1_ne (by omega)), q2, nI_clamp (by omega)] at b
    refine fd_part hp8 h 8 q s.2 q1 ?_ (Nat.lt_of_lt_of_le b ((pf_rd q).2.1 q1))
    have := cT_lt (f := fun z => wf P.np (E3 P) q z) (g := fun _ => true) (n := P.np) (k := q) (fun i hi v => rfl) q1 (irr q q1) rfl
    have := cT_le (g := fun _ => true) (n := P.np)
    omega
theorem fd_out {P : mj_P} {σ : Nat → Nat} {j l f : Nat} (hl : sI P σ (P.sc j).2 (P.sc j).2.length ≤ l) : fd P σ f j l = none := by
  cases f with
  | zero => rfl
  | succ f =>
    have := scn_out (P := P) (σ := σ) (xs := (P.sc j).2) (n := (P.sc j).2.length) (i := 0) (l := l) (by rw [Nat.zero_add]; exact hl)
    rw [fd_s, if_neg (by rw [this]; omega)]
/-- the class's counts -/
def SC (h : mj_H) (P : mj_P) (σ : Nat → Nat) : Prop := ∀ p, p < P.np → h.1 (540 + 3 * p) 4 = nI (σ p)
theorem nI_cl {n : Nat} {x : Int32} (h : x = nI n) (hn : n < 2 ^ 31) : x.toNatClampNeg = n := by rw [h, nI_clamp hn]
section
variable {d k i : Nat} {h h0 : mj_H} {Q : Option Value → mj_H → Prop} {P : mj_P} {σ : Nat → Nat}
theorem ScC_sa (hP : PlC h P) (hk : k < P.nj ∨ (12 ≤ k ∧ k < 12 + P.np)) : ScC h (sa k) (P.sc k) := by
  have := hP.2.1
  rcases hk with v | v
  · rw [sa_j (by omega)]
    exact (hP.2.2.2.2.1 _ v).1
  · have := hP.2.2.2.2.2 (k - 12) (by omega)
    rw [show 12 + (k - 12) = k from by omega] at this
    have e : sa k = 540 + 3 * (k - 12) := by
      unfold sa
      rw [if_neg (by omega)]
    rw [e]
    exact this
/-- Plan.stepsOf -/
theorem s146 (hd : 1 ≤ d) (H : mj_RS h) (hP : PlC h P) (hk : k < P.nj ∨ (12 ≤ k ∧ k < 12 + P.np)) (hσ : SC h P σ) (hi : i < (P.sc k).2.length) (kk : Q (some (.int (nI (szI P σ ((P.sc k).2.getD i (0, 0, 0)))))) h) : mr_C mj_KK d 146 [.ref 9, .ref (sa k), .int (nI i)] h Q := by
  show mr_M mj_KK d 146 0 [some (.ref 9), some (.ref (sa k)), some (.int (nI i)), none] [] h Q
  have j12 := hP.2.1
  have p8 := hP.2.2.2.1
  obtain ⟨z1, z2, z3, z4, z5, z6, z7⟩ := isS_sa (k := k) (by omega)
  have z8 : h.2.2 (sa k) 1 = some (sa k + 1) := H _ z6
  obtain ⟨-, x1, x2, x3⟩ := ScC_sa hP hk
  obtain ⟨e0, -⟩ := x3 i hi
  unfold szI at kk
  refine kb_146_0 (by first | with_reducible assumption | with_reducible exact kd_JS _ (by omega) | with_reducible exact kd_PS _ (by omega) | assumption) (by first | with_reducible assumption | exact rf_JS_used H (by omega) | exact rf_PS_used H (by omega) | assumption) (by first | with_reducible assumption | with_reducible exact kd_JS_used _ (by omega) | with_reducible exact kd_PS_used _ (by omega) | assumption) (by first | with_reducible assumption | (simp (disch := omega) only [z_0, z_1, z_2, z_3, z_4, z_5, z_6, z_7, z_8, z_9, z_10, z_12, z_13, z_20, z_21, z_25, z_56, z_350, z_31, z_32, z_36, z_48, z_57, z_61, z_97, z_100, z_122, z_125, z_126, z_144, z_255, z_700, z_1000, z_1548, nI_add, pk_mul, pk_sub, nI_clamp, nI_leI, nI_ltI, nI_eq, z_in, z_m1, z_m1b, lg_cmp_eq, z_cmp, Decidable.not_not, w_ie, w_in, w_il, w_le, w_ln, w_li, w_ir, w_lr, z3, ln_P_tape, ln_W_text, ln_W_starts, ln_W_ends, ln_W_lines, ln_W_names, ln_W_values, ln_PL_jobs, ln_PL_parts, ln_FT_reached, ln_EX_jobs, ln_EX_codes, ln_CB_names, ln_CB_values, ln_M_tape, ln_M_source, ln_M_wordAt, ln_M_wordEnd, ln_M_names, ln_M_itemCount, ln_M_itemFirst, ln_M_itemWords, ln_M_itemUses, ln_M_keptAt, ln_M_keptEnd, ln_M_needCount, ln_M_axisCount, ln_M_valueCount, ln_M_needed, ln_M_axes, ln_M_values, ln_M_includes, ln_M_excludes, ln_M_pairCount, ln_M_pairName, ln_M_pairValue, ln_M_signCount, ln_M_signs, ln_M_signName, ln_M_signValue, ln_M_whose, ln_M_which, ln_M_pile, ln_M_reaches, ln_M_stepsOf, ln_M_known, ln_JB_needed, ln_JB_axes, ln_JS_used, ln_JS_stepWords, ln_PS_used, ln_PS_stepWords, ln_IN_rows, ln_EC_rows, ln_IR_names, ln_IR_values, ln_ER_names, ln_ER_values, ln_CD_kinds, ln_CD_names, ln_CD_values, ln_AX_values] <;> omega) | assumption) (fun c => kb_146_13 (by first | with_reducible assumption | with_reducible exact kd_JS _ (by omega) | with_reducible exact kd_PS _ (by omega) | assumption) (by first | with_reducible assumption | exact rf_JS_used H (by omega) | exact rf_PS_used H (by omega) | assumption) (by first | with_reducible assumption | with_reducible exact kd_JS_used _ (by omega) | with_reducible exact kd_PS_used _ (by omega) | assumption) (by first | with_reducible assumption | (simp (disch := omega) only [z_0, z_1, z_2, z_3, z_4, z_5, z_6, z_7, z_8, z_9, z_10, z_12, z_13, z_20, z_21, z_25, z_56, z_350, z_31, z_32, z_36, z_48, z_57, z_61, z_97, z_100, z_122, z_125, z_126, z_144, z_255, z_700, z_1000, z_1548, nI_add, pk_mul, pk_sub, nI_clamp, nI_leI, nI_ltI, nI_eq, z_in, z_m1, z_m1b, lg_cmp_eq, z_cmp, Decidable.not_not, w_ie, w_in, w_il, w_le, w_ln, w_li, w_ir, w_lr, z3, ln_P_tape, ln_W_text, ln_W_starts, ln_W_ends, ln_W_lines, ln_W_names, ln_W_values, ln_PL_jobs, ln_PL_parts, ln_FT_reached, ln_EX_jobs, ln_EX_codes, ln_CB_names, ln_CB_values, ln_M_tape, ln_M_source, ln_M_wordAt, ln_M_wordEnd, ln_M_names, ln_M_itemCount, ln_M_itemFirst, ln_M_itemWords, ln_M_itemUses, ln_M_keptAt, ln_M_keptEnd, ln_M_needCount, ln_M_axisCount, ln_M_valueCount, ln_M_needed, ln_M_axes, ln_M_values, ln_M_includes, ln_M_excludes, ln_M_pairCount, ln_M_pairName, ln_M_pairValue, ln_M_signCount, ln_M_signs, ln_M_signName, ln_M_signValue, ln_M_whose, ln_M_which, ln_M_pile, ln_M_reaches, ln_M_stepsOf, ln_M_known, ln_JB_needed, ln_JB_axes, ln_JS_used, ln_JS_stepWords, ln_PS_used, ln_PS_stepWords, ln_IN_rows, ln_EC_rows, ln_IR_names, ln_IR_values, ln_ER_names, ln_ER_values, ln_CD_kinds, ln_CD_names, ln_CD_values, ln_AX_values] <;> omega) | assumption) (by first | with_reducible assumption | with_reducible exact kd_PL | assumption) (by omega) ?_) (fun c => kb_146_11 ?_)
  · simp (disch := omega) only [z_0, z_1, z_2, z_3, z_4, z_5, z_6, z_7, z_8, z_9, z_10, z_12, z_13, z_20, z_21, z_25, z_56, z_350, z_31, z_32, z_36, z_48, z_57, z_61, z_97, z_100, z_122, z_125, z_126, z_144, z_255, z_700, z_1000, z_1548, nI_add, pk_mul, pk_sub, nI_clamp, nI_leI, nI_ltI, nI_eq, z_in, z_m1, z_m1b, lg_cmp_eq, z_cmp, Decidable.not_not, w_ie, w_in, w_il, w_le, w_ln, w_li, w_ir, w_lr, e0] at c
    rw [nI_clamp (by omega), e0]
    rw [if_neg c] at kk
    refine s143P H hP (kb_146_23 (fun c2 => ?_) (fun c2 => kb_146_29 (kb_146_42 ?_)))
    · rw [if_neg c2] at kk
      rcases pN_of (P := P) (y := ((P.sc k).2.getD i (0, 0, 0)).1) with v | ⟨q, q1, q2⟩
      · exact absurd v c2
      · rw [q2] at kk ⊢
        have q8 : q < 8 := by omega
        refine kb_146_33 (by first | with_reducible assumption | with_reducible exact kd_PL | assumption) (by first | with_reducible assumption | exact rf_PL_parts H | assumption) (by first | with_reducible assumption | with_reducible exact kd_PL_parts | assumption) (by first | with_reducible assumption | (simp (disch := omega) only [z_0, z_1, z_2, z_3, z_4, z_5, z_6, z_7, z_8, z_9, z_10, z_12, z_13, z_20, z_21, z_25, z_56, z_350, z_31, z_32, z_36, z_48, z_57, z_61, z_97, z_100, z_122, z_125, z_126, z_144, z_255, z_700, z_1000, z_1548, nI_add, pk_mul, pk_sub, nI_clamp, nI_leI, nI_ltI, nI_eq, z_in, z_m1, z_m1b, lg_cmp_eq, z_cmp, Decidable.not_not, w_ie, w_in, w_il, w_le, w_ln, w_li, w_ir, w_lr, ln_P_tape, ln_W_text, ln_W_starts, ln_W_ends, ln_W_lines, ln_W_names, ln_W_values, ln_PL_jobs, ln_PL_parts, ln_FT_reached, ln_EX_jobs, ln_EX_codes, ln_CB_names, ln_CB_values, ln_M_tape, ln_M_source, ln_M_wordAt, ln_M_wordEnd, ln_M_names, ln_M_itemCount, ln_M_itemFirst, ln_M_itemWords, ln_M_itemUses, ln_M_keptAt, ln_M_keptEnd, ln_M_needCount, ln_M_axisCount, ln_M_valueCount, ln_M_needed, ln_M_axes, ln_M_values, ln_M_includes, ln_M_excludes, ln_M_pairCount, ln_M_pairName, ln_M_pairValue, ln_M_signCount, ln_M_signs, ln_M_signName, ln_M_signValue, ln_M_whose, ln_M_which, ln_M_pile, ln_M_reaches, ln_M_stepsOf, ln_M_known, ln_JB_needed, ln_JB_axes, ln_JS_used, ln_JS_stepWords, ln_PS_used, ln_PS_stepWords, ln_IN_rows, ln_EC_rows, ln_IR_names, ln_IR_values, ln_ER_names, ln_ER_values, ln_CD_kinds, ln_CD_names, ln_CD_values, ln_AX_values] <;> omega) | assumption) (by first | with_reducible assumption | exact rf_parts H (by omega) | (simp (disch := omega) only [z_0, z_1, z_2, z_3, z_4, z_5, z_6, z_7, z_8, z_9, z_10, z_12, z_13, z_20, z_21, z_25, z_56, z_350, z_31, z_32, z_36, z_48, z_57, z_61, z_97, z_100, z_122, z_125, z_126, z_144, z_255, z_700, z_1000, z_1548, nI_add, pk_mul, pk_sub, nI_clamp, nI_leI, nI_ltI, nI_eq, z_in, z_m1, z_m1b, lg_cmp_eq, z_cmp, Decidable.not_not, w_ie, w_in, w_il, w_le, w_ln, w_li, w_ir, w_lr]; exact rf_parts H (by omega)) | (simp (disch := omega) only [z_0, z_1, z_2, z_3, z_4, z_5, z_6, z_7, z_8, z_9, z_10, z_12, z_13, z_20, z_21, z_25, z_56, z_350, z_31, z_32, z_36, z_48, z_57, z_61, z_97, z_100, z_122, z_125, z_126, z_144, z_255, z_700, z_1000, z_1548, nI_add, pk_mul, pk_sub, nI_clamp, nI_leI, nI_ltI, nI_eq, z_in, z_m1, z_m1b, lg_cmp_eq, z_cmp, Decidable.not_not, w_ie, w_in, w_il, w_le, w_ln, w_li, w_ir, w_lr]; assumption) | assumption) (by first | with_reducible assumption | with_reducible exact kd_PS _ (by omega) | assumption) (kb_146_42 ?_)
        rw [nI_clamp (by omega)] at kk
        rw [hσ q q1]
        exact kk
    · rw [Decidable.not_not] at c2
      rw [if_pos c2] at kk
      exact kk
  · simp (disch := omega) only [z_0, z_1, z_2, z_3, z_4, z_5, z_6, z_7, z_8, z_9, z_10, z_12, z_13, z_20, z_21, z_25, z_56, z_350, z_31, z_32, z_36, z_48, z_57, z_61, z_97, z_100, z_122, z_125, z_126, z_144, z_255, z_700, z_1000, z_1548, nI_add, pk_mul, pk_sub, nI_clamp, nI_leI, nI_ltI, nI_eq, z_in, z_m1, z_m1b, lg_cmp_eq, z_cmp, Decidable.not_not, w_ie, w_in, w_il, w_le, w_ln, w_li, w_ir, w_lr, e0] at c
    rw [if_pos c] at kk
    exact kk
/-- Plan.stepsIn -/
theorem s145 (hd : 2 ≤ d) (H : mj_RS h) (hP : PlC h P) (hk : k < P.nj ∨ (12 ≤ k ∧ k < 12 + P.np)) (hσ : SC h P σ) (hp : pf P σ) (kk : Q (some (.int (nI (totI P σ (P.sc k).2)))) h) : mr_C mj_KK d 145 [.ref 9, .ref (sa k)] h Q := by
  show mr_M mj_KK d 145 0 [some (.ref 9), some (.ref (sa k)), none, none] [] h Q
  have j12 := hP.2.1
  have p8 := hP.2.2.2.1
  have z1 := (isS_sa (k := k) (by omega)).1
  obtain ⟨-, x1, x2, x3⟩ := ScC_sa hP hk
  refine kb_145_0 ?_
  have loop : ∀ n i, i + n = (P.sc k).2.length → mr_M mj_KK d 145 4 [some (.ref 9), some (.ref (sa k)), some (.int (nI (sI P σ (P.sc k).2 i))), some (.int (nI i))] [] h Q := by
    intro n
    induction n with
    | zero =>
      intro i hi
      have ei : i = (P.sc k).2.length := by omega
      subst ei
      refine kb_145_4 (by first | with_reducible assumption | with_reducible exact kd_JS _ (by omega) | with_reducible exact kd_PS _ (by omega) | assumption) (fun _ => kb_145_27 (by omega) ?_) (fun c => (by simp (disch := omega) only [z_0, z_1, z_2, z_3, z_4, z_5, z_6, z_7, z_8, z_9, z_10, z_12, z_13, z_20, z_21, z_25, z_56, z_350, z_31, z_32, z_36, z_48, z_57, z_61, z_97, z_100, z_122, z_125, z_126, z_144, z_255, z_700, z_1000, z_1548, nI_add, pk_mul, pk_sub, nI_clamp, nI_leI, nI_ltI, nI_eq, z_in, z_m1, z_m1b, lg_cmp_eq, z_cmp, Decidable.not_not, w_ie, w_in, w_il, w_le, w_ln, w_li, w_ir, w_lr, x1] at c; exfalso; omega))
      have b := sI_le (xs := (P.sc k).2) (n := (P.sc k).2.length) hp
      unfold totI at kk
      by_cases q : 1000 < sI P σ (P.sc k).2 (P.sc k).2.length
      · rw [if_pos q] at kk
        rw [z_1000, if_pos (nI_lt q (by omega))]
        exact kk
      · rw [if_neg q] at kk
        rw [z_1000, if_neg (nI_nlt (show sI P σ (P.sc k).2 (P.sc k).2.length ≤ 1000 by omega) (by omega))]
        exact kk
    | succ n ih =>
      intro i hi
      refine kb_145_4 (by first | with_reducible assumption | with_reducible exact kd_JS _ (by omega) | with_reducible exact kd_PS _ (by omega) | assumption) (fun c => (by simp (disch := omega) only [z_0, z_1, z_2, z_3, z_4, z_5, z_6, z_7, z_8, z_9, z_10, z_12, z_13, z_20, z_21, z_25, z_56, z_350, z_31, z_32, z_36, z_48, z_57, z_61, z_97, z_100, z_122, z_125, z_126, z_144, z_255, z_700, z_1000, z_1548, nI_add, pk_mul, pk_sub, nI_clamp, nI_leI, nI_ltI, nI_eq, z_in, z_m1, z_m1b, lg_cmp_eq, z_cmp, Decidable.not_not, w_ie, w_in, w_il, w_le, w_ln, w_li, w_ir, w_lr, x1] at c; exfalso; omega)) (fun _ => kb_145_12 (by first | with_reducible assumption | with_reducible exact kd_PL | assumption) (by omega) (s146 (by omega) H hP hk hσ (by omega) (kb_145_19 ?_)))
      rw [nI_add, nI_1]
      exact ih (i + 1) (by omega)
  exact loop (P.sc k).2.length 0 (by omega)
def inZ : Nat → Nat → Prop := fun a i => 540 ≤ a ∧ a < 564 ∧ a % 3 = 0 ∧ i = 4
/-- Plan.countSteps -/
theorem s144 (hd : 3 ≤ d) (H0 : mj_RS h0) (hP : PlC h0 P) (hZ : ZC h0 P.np) (kk : ∀ h', SC h' P (σF P) → fr inZ h0 h' → Q none h') : mr_C mj_KK d 144 [.ref 9] h0 Q := by
  show mr_M mj_KK d 144 0 [some (.ref 9), none, none] [] h0 Q
  have p8 := hP.2.2.2.1
  have plc : ∀ {h'}, fr inZ h0 h' → PlC h' P := fun g => hP.fr g (fun a i h1 h2 h3 => by unfold inZ; omega)
  refine kb_144_0 ?_
  have outer : ∀ m r (h : mj_H), r + m = P.np → fr inZ h0 h → SC h P (rdS P r) → mr_M mj_KK d 144 2 [some (.ref 9), some (.int (nI r)), none] [] h Q := by
    intro m
    induction m with
    | zero =>
      intro r h hr hf hs
      have a3 := (plc hf).2.2.1
      have e : r = P.np := by omega
      subst e
      exact kb_144_2 (by first | with_reducible assumption | with_reducible exact kd_PL | assumption) (fun _ => kb_144_51 (kk h hs hf)) (fun c => (by simp (disch := omega) only [z_0, z_1, z_2, z_3, z_4, z_5, z_6, z_7, z_8, z_9, z_10, z_12, z_13, z_20, z_21, z_25, z_56, z_350, z_31, z_32, z_36, z_48, z_57, z_61, z_97, z_100, z_122, z_125, z_126, z_144, z_255, z_700, z_1000, z_1548, nI_add, pk_mul, pk_sub, nI_clamp, nI_leI, nI_ltI, nI_eq, z_in, z_m1, z_m1b, lg_cmp_eq, z_cmp, Decidable.not_not, w_ie, w_in, w_il, w_le, w_ln, w_li, w_ir, w_lr, a3] at c; exfalso; omega))
    | succ m ih =>
      intro r h hr hf hs
      have a3 := (plc hf).2.2.1
      refine kb_144_2 (by first | with_reducible assumption | with_reducible exact kd_PL | assumption) (fun c => (by simp (disch := omega) only [z_0, z_1, z_2, z_3, z_4, z_5, z_6, z_7, z_8, z_9, z_10, z_12, z_13, z_20, z_21, z_25, z_56, z_350, z_31, z_32, z_36, z_48, z_57, z_61, z_97, z_100, z_122, z_125, z_126, z_144, z_255, z_700, z_1000, z_1548, nI_add, pk_mul, pk_sub, nI_clamp, nI_leI, nI_ltI, nI_eq, z_in, z_m1, z_m1b, lg_cmp_eq, z_cmp, Decidable.not_not, w_ie, w_in, w_il, w_le, w_ln, w_li, w_ir, w_lr, a3] at c; exfalso; omega)) (fun _ => kb_144_10 ?_)
      have inner : ∀ n p (h : mj_H), p + n = P.np → fr inZ h0 h → SC h P (sw P (rdS P r) p) → mr_M mj_KK d 144 12 [some (.ref 9), some (.int (nI r)), some (.int (nI p))] [] h Q := by
        intro n
        induction n with
        | zero =>
          intro p h hp hf hs
          have a3 := (plc hf).2.2.1
          have e : p = P.np := by omega
          subst e
          refine kb_144_12 (by first | with_reducible assumption | with_reducible exact kd_PL | assumption) (fun _ => kb_144_45 ?_) (fun c => (by simp (disch := omega) only [z_0, z_1, z_2, z_3, z_4, z_5, z_6, z_7, z_8, z_9, z_10, z_12, z_13, z_20, z_21, z_25, z_56, z_350, z_31, z_32, z_36, z_48, z_57, z_61, z_97, z_100, z_122, z_125, z_126, z_144, z_255, z_700, z_1000, z_1548, nI_add, pk_mul, pk_sub, nI_clamp, nI_leI, nI_ltI, nI_eq, z_in, z_m1, z_m1b, lg_cmp_eq, z_cmp, Decidable.not_not, w_ie, w_in, w_il, w_le, w_ln, w_li, w_ir, w_lr, a3] at c; exfalso; omega))
          rw [nI_1]
          exact ih (r + 1) h (by omega) hf hs
        | succ n ih2 =>
          intro p h hp hf hs
          have H := hf.rs H0
          have hPh := plc hf
          have a3 := hPh.2.2.1
          have hp8 : p < 8 := by omega
          have es : 540 + 3 * p = sa (12 + p) := sa_p.symm
          refine kb_144_12 (by first | with_reducible assumption | with_reducible exact kd_PL | assumption) (fun c => (by simp (disch := omega) only [z_0, z_1, z_2, z_3, z_4, z_5, z_6, z_7, z_8, z_9, z_10, z_12, z_13, z_20, z_21, z_25, z_56, z_350, z_31, z_32, z_36, z_48, z_57, z_61, z_97, z_100, z_122, z_125, z_126, z_144, z_255, z_700, z_1000, z_1548, nI_add, pk_mul, pk_sub, nI_clamp, nI_leI, nI_ltI, nI_eq, z_in, z_m1, z_m1b, lg_cmp_eq, z_cmp, Decidable.not_not, w_ie, w_in, w_il, w_le, w_ln, w_li, w_ir, w_lr, a3] at c; exfalso; omega)) (fun _ => kb_144_20 (by first | with_reducible assumption | with_reducible exact kd_PL | assumption) (by first | with_reducible assumption | exact rf_PL_parts H | assumption) (by first | with_reducible assumption | with_reducible exact kd_PL_parts | assumption) (by first | with_reducible assumption | (simp (disch := omega) only [z_0, z_1, z_2, z_3, z_4, z_5, z_6, z_7, z_8, z_9, z_10, z_12, z_13, z_20, z_21, z_25, z_56, z_350, z_31, z_32, z_36, z_48, z_57, z_61, z_97, z_100, z_122, z_125, z_126, z_144, z_255, z_700, z_1000, z_1548, nI_add, pk_mul, pk_sub, nI_clamp, nI_leI, nI_ltI, nI_eq, z_in, z_m1, z_m1b, lg_cmp_eq, z_cmp, Decidable.not_not, w_ie, w_in, w_il, w_le, w_ln, w_li, w_ir, w_lr, ln_P_tape, ln_W_text, ln_W_starts, ln_W_ends, ln_W_lines, ln_W_names, ln_W_values, ln_PL_jobs, ln_PL_parts, ln_FT_reached, ln_EX_jobs, ln_EX_codes, ln_CB_names, ln_CB_values, ln_M_tape, ln_M_source, ln_M_wordAt, ln_M_wordEnd, ln_M_names, ln_M_itemCount, ln_M_itemFirst, ln_M_itemWords, ln_M_itemUses, ln_M_keptAt, ln_M_keptEnd, ln_M_needCount, ln_M_axisCount, ln_M_valueCount, ln_M_needed, ln_M_axes, ln_M_values, ln_M_includes, ln_M_excludes, ln_M_pairCount, ln_M_pairName, ln_M_pairValue, ln_M_signCount, ln_M_signs, ln_M_signName, ln_M_signValue, ln_M_whose, ln_M_which, ln_M_pile, ln_M_reaches, ln_M_stepsOf, ln_M_known, ln_JB_needed, ln_JB_axes, ln_JS_used, ln_JS_stepWords, ln_PS_used, ln_PS_stepWords, ln_IN_rows, ln_EC_rows, ln_IR_names, ln_IR_values, ln_ER_names, ln_ER_values, ln_CD_kinds, ln_CD_names, ln_CD_values, ln_AX_values] <;> omega) | assumption) (by first | with_reducible assumption | exact rf_parts H (by omega) | (simp (disch := omega) only [z_0, z_1, z_2, z_3, z_4, z_5, z_6, z_7, z_8, z_9, z_10, z_12, z_13, z_20, z_21, z_25, z_56, z_350, z_31, z_32, z_36, z_48, z_57, z_61, z_97, z_100, z_122, z_125, z_126, z_144, z_255, z_700, z_1000, z_1548, nI_add, pk_mul, pk_sub, nI_clamp, nI_leI, nI_ltI, nI_eq, z_in, z_m1, z_m1b, lg_cmp_eq, z_cmp, Decidable.not_not, w_ie, w_in, w_il, w_le, w_ln, w_li, w_ir, w_lr]; exact rf_parts H (by omega)) | (simp (disch := omega) only [z_0, z_1, z_2, z_3, z_4, z_5, z_6, z_7, z_8, z_9, z_10, z_12, z_13, z_20, z_21, z_25, z_56, z_350, z_31, z_32, z_36, z_48, z_57, z_61, z_97, z_100, z_122, z_125, z_126, z_144, z_255, z_700, z_1000, z_1548, nI_add, pk_mul, pk_sub, nI_clamp, nI_leI, nI_ltI, nI_eq, z_in, z_m1, z_m1b, lg_cmp_eq, z_cmp, Decidable.not_not, w_ie, w_in, w_il, w_le, w_ln, w_li, w_ir, w_lr]; assumption) | assumption) (by first | with_reducible assumption | (simp (disch := omega) only [z_0, z_1, z_2, z_3, z_4, z_5, z_6, z_7, z_8, z_9, z_10, z_12, z_13, z_20, z_21, z_25, z_56, z_350, z_31, z_32, z_36, z_48, z_57, z_61, z_97, z_100, z_122, z_125, z_126, z_144, z_255, z_700, z_1000, z_1548, nI_add, pk_mul, pk_sub, nI_clamp, nI_leI, nI_ltI, nI_eq, z_in, z_m1, z_m1b, lg_cmp_eq, z_cmp, Decidable.not_not, w_ie, w_in, w_il, w_le, w_ln, w_li, w_ir, w_lr, ln_P_tape, ln_W_text, ln_W_starts, ln_W_ends, ln_W_lines, ln_W_names, ln_W_values, ln_PL_jobs, ln_PL_parts, ln_FT_reached, ln_EX_jobs, ln_EX_codes, ln_CB_names, ln_CB_values, ln_M_tape, ln_M_source, ln_M_wordAt, ln_M_wordEnd, ln_M_names, ln_M_itemCount, ln_M_itemFirst, ln_M_itemWords, ln_M_itemUses, ln_M_keptAt, ln_M_keptEnd, ln_M_needCount, ln_M_axisCount, ln_M_valueCount, ln_M_needed, ln_M_axes, ln_M_values, ln_M_includes, ln_M_excludes, ln_M_pairCount, ln_M_pairName, ln_M_pairValue, ln_M_signCount, ln_M_signs, ln_M_signName, ln_M_signValue, ln_M_whose, ln_M_which, ln_M_pile, ln_M_reaches, ln_M_stepsOf, ln_M_known, ln_JB_needed, ln_JB_axes, ln_JS_used, ln_JS_stepWords, ln_PS_used, ln_PS_stepWords, ln_IN_rows, ln_EC_rows, ln_IR_names, ln_IR_values, ln_ER_names, ln_ER_values, ln_CD_kinds, ln_CD_names, ln_CD_values, ln_AX_values] <;> omega) | assumption) (by first | with_reducible assumption | exact rf_parts H (by omega) | (simp (disch := omega) only [z_0, z_1, z_2, z_3, z_4, z_5, z_6, z_7, z_8, z_9, z_10, z_12, z_13, z_20, z_21, z_25, z_56, z_350, z_31, z_32, z_36, z_48, z_57, z_61, z_97, z_100, z_122, z_125, z_126, z_144, z_255, z_700, z_1000, z_1548, nI_add, pk_mul, pk_sub, nI_clamp, nI_leI, nI_ltI, nI_eq, z_in, z_m1, z_m1b, lg_cmp_eq, z_cmp, Decidable.not_not, w_ie, w_in, w_il, w_le, w_ln, w_li, w_ir, w_lr]; exact rf_parts H (by omega)) | (simp (disch := omega) only [z_0, z_1, z_2, z_3, z_4, z_5, z_6, z_7, z_8, z_9, z_10, z_12, z_13, z_20, z_21, z_25, z_56, z_350, z_31, z_32, z_36, z_48, z_57, z_61, z_97, z_100, z_122, z_125, z_126, z_144, z_255, z_700, z_1000, z_1548, nI_add, pk_mul, pk_sub, nI_clamp, nI_leI, nI_ltI, nI_eq, z_in, z_m1, z_m1b, lg_cmp_eq, z_cmp, Decidable.not_not, w_ie, w_in, w_il, w_le, w_ln, w_li, w_ir, w_lr]; assumption) | assumption) (by omega) ?_)
          rw [show (Value.ref (540 + 3 * p)) = Value.ref (sa (12 + p)) from by rw [es]]
          refine s145 (k := 12 + p) (by omega) H hPh (by omega) hs (pf_sw pf_rd (by omega)) ?_
          rw [← es]
          refine kb_144_36 (by first | with_reducible assumption | with_reducible exact kd_JS _ (by omega) | with_reducible exact kd_PS _ (by omega) | assumption) ?_
          rw [nI_1]
          refine ih2 (p + 1) _ (by omega) (hf.wi (by unfold inZ; omega)) (fun q hq => ?_)
          rw [sw_s]
          by_cases v : q = p
          · subst v
            rw [w_ie ⟨rfl, rfl⟩, up_e]
          · rw [w_in (by omega), up_n v]
            exact hs q hq
      exact inner P.np 0 h (by omega) hf hs
  exact outer P.np 0 h0 (by omega) fr.rfl' (fun p hp => hZ p hp)
/-- Plan.findStep -/
theorem s147 {l : Nat} (hd : 2 ≤ d) (H : mj_RS h) (hP : PlC h P) (hk : k < P.nj) (hσ : SC h P σ) (hp : pf P σ) (hl : l < 100000) (k0 : fd P σ 9 k l = none → Q (some (.int (-1))) h) (k1 : ∀ r, fd P σ 9 k l = some r → r.2 < (P.sc r.1).2.length → ((P.sc r.1).2.getD r.2 (0, 0, 0)).1 = 0 → (r.1 < P.nj ∨ (12 ≤ r.1 ∧ r.1 < 12 + P.np)) → Q (some (.int (nI ((P.sc r.1).2.getD r.2 (0, 0, 0)).2.1))) h) : mr_C mj_KK d 147 [.ref 9, .ref (sa k), .int (nI l)] h Q := by
  show mr_M mj_KK d 147 0 [some (.ref 9), some (.ref (sa k)), some (.int (nI l)), none, none, none, none, none] [] h Q
  have j12 := hP.2.1
  have p8 := hP.2.2.2.1
  refine kb_147_0 ?_
  have outer : ∀ f e k l, e + f = 9 → (k < P.nj ∨ (12 ≤ k ∧ k < 12 + P.np)) → l < 100000 → (fd P σ f k l = none → Q (some (.int (-1))) h) → (∀ r, fd P σ f k l = some r → r.2 < (P.sc r.1).2.length → ((P.sc r.1).2.getD r.2 (0, 0, 0)).1 = 0 → (r.1 < P.nj ∨ (12 ≤ r.1 ∧ r.1 < 12 + P.np)) → Q (some (.int (nI ((P.sc r.1).2.getD r.2 (0, 0, 0)).2.1))) h) → mr_M mj_KK d 147 8 [some (.ref 9), none, none, some (.ref (sa k)), some (.int (nI l)), some (.int (nI e)), none, none] [] h Q := by
    intro f
    induction f with
    | zero =>
      intro e k l he hk hl k0 k1
      exact kb_147_8 (fun _ => kb_147_123 (k0 rfl)) (fun c => (by simp (disch := omega) only [z_0, z_1, z_2, z_3, z_4, z_5, z_6, z_7, z_8, z_9, z_10, z_12, z_13, z_20, z_21, z_25, z_56, z_350, z_31, z_32, z_36, z_48, z_57, z_61, z_97, z_100, z_122, z_125, z_126, z_144, z_255, z_700, z_1000, z_1548, nI_add, pk_mul, pk_sub, nI_clamp, nI_leI, nI_ltI, nI_eq, z_in, z_m1, z_m1b, lg_cmp_eq, z_cmp, Decidable.not_not, w_ie, w_in, w_il, w_le, w_ln, w_li, w_ir, w_lr] at c; exfalso; omega))
    | succ f ih =>
      intro e k l he hk hl k0 k1
      obtain ⟨z1, z2, z3, z4, z5, z6, z7⟩ := isS_sa (k := k) (by omega)
      have z8 : h.2.2 (sa k) 1 = some (sa k + 1) := H _ z6
      have z9 : h.2.2 (sa k) 2 = some (sa k + 2) := H _ z7
      obtain ⟨-, x1, x2, x3⟩ := ScC_sa hP hk
      rw [fd_s] at k0
      simp only [fd_s] at k1
      refine kb_147_8 (fun c => (by simp (disch := omega) only [z_0, z_1, z_2, z_3, z_4, z_5, z_6, z_7, z_8, z_9, z_10, z_12, z_13, z_20, z_21, z_25, z_56, z_350, z_31, z_32, z_36, z_48, z_57, z_61, z_97, z_100, z_122, z_125, z_126, z_144, z_255, z_700, z_1000, z_1548, nI_add, pk_mul, pk_sub, nI_clamp, nI_leI, nI_ltI, nI_eq, z_in, z_m1, z_m1b, lg_cmp_eq, z_cmp, Decidable.not_not, w_ie, w_in, w_il, w_le, w_ln, w_li, w_ir, w_lr] at c; exfalso; omega)) (fun _ => kb_147_15 ?_)
      have fin : ∀ i l2, l2 < 100000 → i ≤ (P.sc k).2.length → scn P σ (P.sc k).2 (P.sc k).2.length 0 l = (i, l2) → mr_M mj_KK d 147 57 [some (.ref 9), none, none, some (.ref (sa k)), some (.int (nI l2)), some (.int (nI e)), some (.int (nI i)), none] [] h Q := by
        intro i l2 hl2 hi he2
        rw [he2] at k0
        simp only [he2] at k1
        rcases Nat.lt_or_ge i (P.sc k).2.length with hi2 | hi2
        · have hi3 : (i, l2).1 < (P.sc k).2.length := hi2
          rw [if_pos hi3] at k0
          simp only [if_pos hi2] at k1
          obtain ⟨e0, e1⟩ := x3 i hi2
          refine kb_147_57 (by first | with_reducible assumption | with_reducible exact kd_JS _ (by omega) | with_reducible exact kd_PS _ (by omega) | assumption) (fun _ => kb_147_68 (by first | with_reducible assumption | with_reducible exact kd_JS _ (by omega) | with_reducible exact kd_PS _ (by omega) | assumption) (by first | with_reducible assumption | exact rf_JS_used H (by omega) | exact rf_PS_used H (by omega) | assumption) (by first | with_reducible assumption | with_reducible exact kd_JS_used _ (by omega) | with_reducible exact kd_PS_used _ (by omega) | assumption) (by first | with_reducible assumption | (simp (disch := omega) only [z_0, z_1, z_2, z_3, z_4, z_5, z_6, z_7, z_8, z_9, z_10, z_12, z_13, z_20, z_21, z_25, z_56, z_350, z_31, z_32, z_36, z_48, z_57, z_61, z_97, z_100, z_122, z_125, z_126, z_144, z_255, z_700, z_1000, z_1548, nI_add, pk_mul, pk_sub, nI_clamp, nI_leI, nI_ltI, nI_eq, z_in, z_m1, z_m1b, lg_cmp_eq, z_cmp, Decidable.not_not, w_ie, w_in, w_il, w_le, w_ln, w_li, w_ir, w_lr, z3, ln_P_tape, ln_W_text, ln_W_starts, ln_W_ends, ln_W_lines, ln_W_names, ln_W_values, ln_PL_jobs, ln_PL_parts, ln_FT_reached, ln_EX_jobs, ln_EX_codes, ln_CB_names, ln_CB_values, ln_M_tape, ln_M_source, ln_M_wordAt, ln_M_wordEnd, ln_M_names, ln_M_itemCount, ln_M_itemFirst, ln_M_itemWords, ln_M_itemUses, ln_M_keptAt, ln_M_keptEnd, ln_M_needCount, ln_M_axisCount, ln_M_valueCount, ln_M_needed, ln_M_axes, ln_M_values, ln_M_includes, ln_M_excludes, ln_M_pairCount, ln_M_pairName, ln_M_pairValue, ln_M_signCount, ln_M_signs, ln_M_signName, ln_M_signValue, ln_M_whose, ln_M_which, ln_M_pile, ln_M_reaches, ln_M_stepsOf, ln_M_known, ln_JB_needed, ln_JB_axes, ln_JS_used, ln_JS_stepWords, ln_PS_used, ln_PS_stepWords, ln_IN_rows, ln_EC_rows, ln_IR_names, ln_IR_values, ln_ER_names, ln_ER_values, ln_CD_kinds, ln_CD_names, ln_CD_values, ln_AX_values] <;> omega) | assumption) (fun c => kb_147_88 (by first | with_reducible assumption | with_reducible exact kd_JS _ (by omega) | with_reducible exact kd_PS _ (by omega) | assumption) (by first | with_reducible assumption | exact rf_JS_used H (by omega) | exact rf_PS_used H (by omega) | assumption) (by first | with_reducible assumption | with_reducible exact kd_JS_used _ (by omega) | with_reducible exact kd_PS_used _ (by omega) | assumption) (by first | with_reducible assumption | (simp (disch := omega) only [z_0, z_1, z_2, z_3, z_4, z_5, z_6, z_7, z_8, z_9, z_10, z_12, z_13, z_20, z_21, z_25, z_56, z_350, z_31, z_32, z_36, z_48, z_57, z_61, z_97, z_100, z_122, z_125, z_126, z_144, z_255, z_700, z_1000, z_1548, nI_add, pk_mul, pk_sub, nI_clamp, nI_leI, nI_ltI, nI_eq, z_in, z_m1, z_m1b, lg_cmp_eq, z_cmp, Decidable.not_not, w_ie, w_in, w_il, w_le, w_ln, w_li, w_ir, w_lr, z3, ln_P_tape, ln_W_text, ln_W_starts, ln_W_ends, ln_W_lines, ln_W_names, ln_W_values, ln_PL_jobs, ln_PL_parts, ln_FT_reached, ln_EX_jobs, ln_EX_codes, ln_CB_names, ln_CB_values, ln_M_tape, ln_M_source, ln_M_wordAt, ln_M_wordEnd, ln_M_names, ln_M_itemCount, ln_M_itemFirst, ln_M_itemWords, ln_M_itemUses, ln_M_keptAt, ln_M_keptEnd, ln_M_needCount, ln_M_axisCount, ln_M_valueCount, ln_M_needed, ln_M_axes, ln_M_values, ln_M_includes, ln_M_excludes, ln_M_pairCount, ln_M_pairName, ln_M_pairValue, ln_M_signCount, ln_M_signs, ln_M_signName, ln_M_signValue, ln_M_whose, ln_M_which, ln_M_pile, ln_M_reaches, ln_M_stepsOf, ln_M_known, ln_JB_needed, ln_JB_axes, ln_JS_used, ln_JS_stepWords, ln_PS_used, ln_PS_stepWords, ln_IN_rows, ln_EC_rows, ln_IR_names, ln_IR_values, ln_ER_names, ln_ER_values, ln_CD_kinds, ln_CD_names, ln_CD_values, ln_AX_values] <;> omega) | assumption) (by first | with_reducible assumption | with_reducible exact kd_PL | assumption) (by omega) ?_) (fun c => kb_147_80 (by first | with_reducible assumption | with_reducible exact kd_JS _ (by omega) | with_reducible exact kd_PS _ (by omega) | assumption) (by first | with_reducible assumption | exact rf_JS_stepWords H (by omega) | exact rf_PS_stepWords H (by omega) | assumption) (by first | with_reducible assumption | with_reducible exact kd_JS_stepWords _ (by omega) | with_reducible exact kd_PS_stepWords _ (by omega) | assumption) (by first | with_reducible assumption | (simp (disch := omega) only [z_0, z_1, z_2, z_3, z_4, z_5, z_6, z_7, z_8, z_9, z_10, z_12, z_13, z_20, z_21, z_25, z_56, z_350, z_31, z_32, z_36, z_48, z_57, z_61, z_97, z_100, z_122, z_125, z_126, z_144, z_255, z_700, z_1000, z_1548, nI_add, pk_mul, pk_sub, nI_clamp, nI_leI, nI_ltI, nI_eq, z_in, z_m1, z_m1b, lg_cmp_eq, z_cmp, Decidable.not_not, w_ie, w_in, w_il, w_le, w_ln, w_li, w_ir, w_lr, z5, ln_P_tape, ln_W_text, ln_W_starts, ln_W_ends, ln_W_lines, ln_W_names, ln_W_values, ln_PL_jobs, ln_PL_parts, ln_FT_reached, ln_EX_jobs, ln_EX_codes, ln_CB_names, ln_CB_values, ln_M_tape, ln_M_source, ln_M_wordAt, ln_M_wordEnd, ln_M_names, ln_M_itemCount, ln_M_itemFirst, ln_M_itemWords, ln_M_itemUses, ln_M_keptAt, ln_M_keptEnd, ln_M_needCount, ln_M_axisCount, ln_M_valueCount, ln_M_needed, ln_M_axes, ln_M_values, ln_M_includes, ln_M_excludes, ln_M_pairCount, ln_M_pairName, ln_M_pairValue, ln_M_signCount, ln_M_signs, ln_M_signName, ln_M_signValue, ln_M_whose, ln_M_which, ln_M_pile, ln_M_reaches, ln_M_stepsOf, ln_M_known, ln_JB_needed, ln_JB_axes, ln_JS_used, ln_JS_stepWords, ln_PS_used, ln_PS_stepWords, ln_IN_rows, ln_EC_rows, ln_IR_names, ln_IR_values, ln_ER_names, ln_ER_values, ln_CD_kinds, ln_CD_names, ln_CD_values, ln_AX_values] <;> omega) | assumption) ?_)) (fun c => (by simp (disch := omega) only [z_0, z_1, z_2, z_3, z_4, z_5, z_6, z_7, z_8, z_9, z_10, z_12, z_13, z_20, z_21, z_25, z_56, z_350, z_31, z_32, z_36, z_48, z_57, z_61, z_97, z_100, z_122, z_125, z_126, z_144, z_255, z_700, z_1000, z_1548, nI_add, pk_mul, pk_sub, nI_clamp, nI_leI, nI_ltI, nI_eq, z_in, z_m1, z_m1b, lg_cmp_eq, z_cmp, Decidable.not_not, w_ie, w_in, w_il, w_le, w_ln, w_li, w_ir, w_lr, x1] at c; exfalso; omega))
          · simp (disch := omega) only [z_0, z_1, z_2, z_3, z_4, z_5, z_6, z_7, z_8, z_9, z_10, z_12, z_13, z_20, z_21, z_25, z_56, z_350, z_31, z_32, z_36, z_48, z_57, z_61, z_97, z_100, z_122, z_125, z_126, z_144, z_255, z_700, z_1000, z_1548, nI_add, pk_mul, pk_sub, nI_clamp, nI_leI, nI_ltI, nI_eq, z_in, z_m1, z_m1b, lg_cmp_eq, z_cmp, Decidable.not_not, w_ie, w_in, w_il, w_le, w_ln, w_li, w_ir, w_lr, e0] at c
            have c9 : ¬ ((P.sc k).2.getD (i, l2).1 (0, 0, 0)).1 = 0 := c
            rw [if_neg c9] at k0
            simp only [if_neg c] at k1
            rw [nI_clamp (by omega), e0]
            refine s143P H hP (kb_147_99 (fun c2 => ?_) (fun c2 => kb_147_107 (k0 ?_)))
            · have c8 : ¬ pN P ((P.sc k).2.getD (i, l2).1 (0, 0, 0)).1 = -1 := c2
              rw [if_neg c8] at k0
              simp only [if_neg c2] at k1
              rcases pN_of (P := P) (y := ((P.sc k).2.getD i (0, 0, 0)).1) with v | ⟨q, q1, q2⟩
              · exact absurd v c2
              · have q8 : q < 8 := by omega
                have q9 : (pN P ((P.sc k).2.getD i (0, 0, 0)).1).toNatClampNeg = q := nI_cl q2 (by omega)
                have q9' : (pN P ((P.sc k).2.getD (i, l2).1 (0, 0, 0)).1).toNatClampNeg = q := q9
                rw [q9'] at k0
                simp only [q9] at k1
                rw [q2]
                refine kb_147_109 (by first | with_reducible assumption | with_reducible exact kd_PL | assumption) (by first | with_reducible assumption | exact rf_PL_parts H | assumption) (by first | with_reducible assumption | with_reducible exact kd_PL_parts | assumption) (by first | with_reducible assumption | (simp (disch := omega) only [z_0, z_1, z_2, z_3, z_4, z_5, z_6, z_7, z_8, z_9, z_10, z_12, z_13, z_20, z_21, z_25, z_56, z_350, z_31, z_32, z_36, z_48, z_57, z_61, z_97, z_100, z_122, z_125, z_126, z_144, z_255, z_700, z_1000, z_1548, nI_add, pk_mul, pk_sub, nI_clamp, nI_leI, nI_ltI, nI_eq, z_in, z_m1, z_m1b, lg_cmp_eq, z_cmp, Decidable.not_not, w_ie, w_in, w_il, w_le, w_ln, w_li, w_ir, w_lr, ln_P_tape, ln_W_text, ln_W_starts, ln_W_ends, ln_W_lines, ln_W_names, ln_W_values, ln_PL_jobs, ln_PL_parts, ln_FT_reached, ln_EX_jobs, ln_EX_codes, ln_CB_names, ln_CB_values, ln_M_tape, ln_M_source, ln_M_wordAt, ln_M_wordEnd, ln_M_names, ln_M_itemCount, ln_M_itemFirst, ln_M_itemWords, ln_M_itemUses, ln_M_keptAt, ln_M_keptEnd, ln_M_needCount, ln_M_axisCount, ln_M_valueCount, ln_M_needed, ln_M_axes, ln_M_values, ln_M_includes, ln_M_excludes, ln_M_pairCount, ln_M_pairName, ln_M_pairValue, ln_M_signCount, ln_M_signs, ln_M_signName, ln_M_signValue, ln_M_whose, ln_M_which, ln_M_pile, ln_M_reaches, ln_M_stepsOf, ln_M_known, ln_JB_needed, ln_JB_axes, ln_JS_used, ln_JS_stepWords, ln_PS_used, ln_PS_stepWords, ln_IN_rows, ln_EC_rows, ln_IR_names, ln_IR_values, ln_ER_names, ln_ER_values, ln_CD_kinds, ln_CD_names, ln_CD_values, ln_AX_values] <;> omega) | assumption) (by first | with_reducible assumption | exact rf_parts H (by omega) | (simp (disch := omega) only [z_0, z_1, z_2, z_3, z_4, z_5, z_6, z_7, z_8, z_9, z_10, z_12, z_13, z_20, z_21, z_25, z_56, z_350, z_31, z_32, z_36, z_48, z_57, z_61, z_97, z_100, z_122, z_125, z_126, z_144, z_255, z_700, z_1000, z_1548, nI_add, pk_mul, pk_sub, nI_clamp, nI_leI, nI_ltI, nI_eq, z_in, z_m1, z_m1b, lg_cmp_eq, z_cmp, Decidable.not_not, w_ie, w_in, w_il, w_le, w_ln, w_li, w_ir, w_lr]; exact rf_parts H (by omega)) | (simp (disch := omega) only [z_0, z_1, z_2, z_3, z_4, z_5, z_6, z_7, z_8, z_9, z_10, z_12, z_13, z_20, z_21, z_25, z_56, z_350, z_31, z_32, z_36, z_48, z_57, z_61, z_97, z_100, z_122, z_125, z_126, z_144, z_255, z_700, z_1000, z_1548, nI_add, pk_mul, pk_sub, nI_clamp, nI_leI, nI_ltI, nI_eq, z_in, z_m1, z_m1b, lg_cmp_eq, z_cmp, Decidable.not_not, w_ie, w_in, w_il, w_le, w_ln, w_li, w_ir, w_lr]; assumption) | assumption) ?_
                rw [nI_1, show (Value.ref (540 + 3 * q)) = Value.ref (sa (12 + q)) from by rw [sa_p]]
                exact ih (e + 1) (12 + q) l2 (by omega) (Or.inr ⟨by omega, by omega⟩) hl2 k0 k1
            · have c8 : pN P ((P.sc k).2.getD (i, l2).1 (0, 0, 0)).1 = -1 := Decidable.not_not.mp c2
              rw [if_pos c8]
          · simp (disch := omega) only [z_0, z_1, z_2, z_3, z_4, z_5, z_6, z_7, z_8, z_9, z_10, z_12, z_13, z_20, z_21, z_25, z_56, z_350, z_31, z_32, z_36, z_48, z_57, z_61, z_97, z_100, z_122, z_125, z_126, z_144, z_255, z_700, z_1000, z_1548, nI_add, pk_mul, pk_sub, nI_clamp, nI_leI, nI_ltI, nI_eq, z_in, z_m1, z_m1b, lg_cmp_eq, z_cmp, Decidable.not_not, w_ie, w_in, w_il, w_le, w_ln, w_li, w_ir, w_lr, e0] at c
            simp only [if_pos c] at k1
            rw [nI_clamp (by omega), e1 c]
            exact k1 (k, i) rfl hi2 c hk
        · have hi3 : ¬ (i, l2).1 < (P.sc k).2.length := by show ¬ i < _; omega
          rw [if_neg hi3] at k0
          exact kb_147_57 (by first | with_reducible assumption | with_reducible exact kd_JS _ (by omega) | with_reducible exact kd_PS _ (by omega) | assumption) (fun c => (by simp (disch := omega) only [z_0, z_1, z_2, z_3, z_4, z_5, z_6, z_7, z_8, z_9, z_10, z_12, z_13, z_20, z_21, z_25, z_56, z_350, z_31, z_32, z_36, z_48, z_57, z_61, z_97, z_100, z_122, z_125, z_126, z_144, z_255, z_700, z_1000, z_1548, nI_add, pk_mul, pk_sub, nI_clamp, nI_leI, nI_ltI, nI_eq, z_in, z_m1, z_m1b, lg_cmp_eq, z_cmp, Decidable.not_not, w_ie, w_in, w_il, w_le, w_ln, w_li, w_ir, w_lr, x1] at c; exfalso; omega)) (fun _ => kb_147_66 (k0 rfl))
      have inner : ∀ n i l2, i + n = (P.sc k).2.length → l2 < 100000 → scn P σ (P.sc k).2 n i l2 = scn P σ (P.sc k).2 (P.sc k).2.length 0 l → mr_M mj_KK d 147 18 [some (.ref 9), none, none, some (.ref (sa k)), some (.int (nI l2)), some (.int (nI e)), some (.int (nI i)), none] [] h Q := by
        intro n
        induction n with
        | zero =>
          intro i l2 hi hl2 he2
          exact kb_147_18 (by first | with_reducible assumption | with_reducible exact kd_JS _ (by omega) | with_reducible exact kd_PS _ (by omega) | assumption) (fun _ => fin i l2 hl2 (by omega) he2.symm) (fun c => (by simp (disch := omega) only [z_0, z_1, z_2, z_3, z_4, z_5, z_6, z_7, z_8, z_9, z_10, z_12, z_13, z_20, z_21, z_25, z_56, z_350, z_31, z_32, z_36, z_48, z_57, z_61, z_97, z_100, z_122, z_125, z_126, z_144, z_255, z_700, z_1000, z_1548, nI_add, pk_mul, pk_sub, nI_clamp, nI_leI, nI_ltI, nI_eq, z_in, z_m1, z_m1b, lg_cmp_eq, z_cmp, Decidable.not_not, w_ie, w_in, w_il, w_le, w_ln, w_li, w_ir, w_lr, x1] at c; exfalso; omega))
        | succ n ih2 =>
          intro i l2 hi hl2 he2
          rw [scn_s] at he2
          have b := sz_le (t := (P.sc k).2.getD i (0, 0, 0)) hp
          refine kb_147_18 (by first | with_reducible assumption | with_reducible exact kd_JS _ (by omega) | with_reducible exact kd_PS _ (by omega) | assumption) (fun c => (by simp (disch := omega) only [z_0, z_1, z_2, z_3, z_4, z_5, z_6, z_7, z_8, z_9, z_10, z_12, z_13, z_20, z_21, z_25, z_56, z_350, z_31, z_32, z_36, z_48, z_57, z_61, z_97, z_100, z_122, z_125, z_126, z_144, z_255, z_700, z_1000, z_1548, nI_add, pk_mul, pk_sub, nI_clamp, nI_leI, nI_ltI, nI_eq, z_in, z_m1, z_m1b, lg_cmp_eq, z_cmp, Decidable.not_not, w_ie, w_in, w_il, w_le, w_ln, w_li, w_ir, w_lr, x1] at c; exfalso; omega)) (fun _ => kb_147_27 (by first | with_reducible assumption | with_reducible exact kd_PL | assumption) (by omega) (s146 (by omega) H hP hk hσ (by omega) (kb_147_36 (fun c => ?_) (fun c => kb_147_39 (by first | with_reducible assumption | with_reducible exact kd_PL | assumption) (by omega) (s146 (by omega) H hP hk hσ (by omega) (kb_147_48 ?_))))))
          · simp (disch := omega) only [z_0, z_1, z_2, z_3, z_4, z_5, z_6, z_7, z_8, z_9, z_10, z_12, z_13, z_20, z_21, z_25, z_56, z_350, z_31, z_32, z_36, z_48, z_57, z_61, z_97, z_100, z_122, z_125, z_126, z_144, z_255, z_700, z_1000, z_1548, nI_add, pk_mul, pk_sub, nI_clamp, nI_leI, nI_ltI, nI_eq, z_in, z_m1, z_m1b, lg_cmp_eq, z_cmp, Decidable.not_not, w_ie, w_in, w_il, w_le, w_ln, w_li, w_ir, w_lr] at c
            rw [if_pos c] at he2
            exact fin i l2 hl2 (by omega) he2.symm
          · simp (disch := omega) only [z_0, z_1, z_2, z_3, z_4, z_5, z_6, z_7, z_8, z_9, z_10, z_12, z_13, z_20, z_21, z_25, z_56, z_350, z_31, z_32, z_36, z_48, z_57, z_61, z_97, z_100, z_122, z_125, z_126, z_144, z_255, z_700, z_1000, z_1548, nI_add, pk_mul, pk_sub, nI_clamp, nI_leI, nI_ltI, nI_eq, z_in, z_m1, z_m1b, lg_cmp_eq, z_cmp, Decidable.not_not, w_ie, w_in, w_il, w_le, w_ln, w_li, w_ir, w_lr] at c
            rw [if_neg c] at he2
            rw [pk_sub (by omega), nI_1]
            exact ih2 (i + 1) _ (by omega) (by omega) he2
      exact inner (P.sc k).2.length 0 l (by omega) hl rfl
  exact outer 9 0 k l rfl (Or.inl hk) hl k0 k1
end
