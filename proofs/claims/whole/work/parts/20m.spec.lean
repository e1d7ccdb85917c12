-- ===== what a line does to the plan =====
abbrev mj_P : Type := Nat × Nat × Nat × (Nat → Sc) × (Nat → Jr)
abbrev mj_P.nj (P : mj_P) : Nat := P.1
abbrev mj_P.np (P : mj_P) : Nat := P.2.1
abbrev mj_P.own (P : mj_P) : Nat := P.2.2.1
abbrev mj_P.sc (P : mj_P) : Nat → Sc := P.2.2.2.1
abbrev mj_P.jr (P : mj_P) : Nat → Jr := P.2.2.2.2
def up {α : Type} (f : Nat → α) (k : Nat) (v : α) : Nat → α := fun i => if i = k then v else f i
theorem up_e {α : Type} {f : Nat → α} {k : Nat} {v : α} : up f k v k = v := if_pos rfl
theorem up_n {α : Type} {f : Nat → α} {k i : Nat} {v : α} (h : ¬ i = k) : up f k v i = f i := if_neg h
def E0 : Jr := ([], [], [], [], [], [])
/-- the number of a JOB, of a PART -/
def jN (P : mj_P) (y : Int64) : Int32 := fi (fun j => decide ((P.sc j).1 = y)) 0 P.nj
def pN (P : mj_P) (y : Int64) : Int32 := fi (fun p => decide ((P.sc (12 + p)).1 = y)) 0 P.np
def wx (X : Nat → Int32) (W : List Wt) (w : Nat) : List Nat := tx X (sp (W.getD w (0, 0, 0)))
def wy (X : Nat → Int32) (W : List Wt) (w : Nat) : Int64 := nw X (sp (W.getD w (0, 0, 0)))
abbrev wSc (P : mj_P) (t : It) : mj_P := (P.nj, P.np, P.own, up P.sc P.own ((P.sc P.own).1, (P.sc P.own).2 ++ [t]), P.jr)
abbrev wJr (P : mj_P) (J : Jr) : mj_P := (P.nj, P.np, P.own, P.sc, up P.jr P.own J)
/-- a line of n words from w on -/
def rdL (X : Nat → Int32) (W : List Wt) (P : mj_P) (w n : Nat) : Option mj_P :=
  if wx X W w = mj_str 8 then (if n = 2 ∧ wy X W (w + 1) ≠ 0 ∧ P.nj < 12 ∧ jN P (wy X W (w + 1)) = -1 then some (P.nj + 1, P.np, P.nj, up P.sc P.nj (wy X W (w + 1), []), up P.jr P.nj E0) else none)
  else if wx X W w = mj_str 9 then (if n = 2 ∧ wy X W (w + 1) ≠ 0 ∧ P.np < 8 ∧ pN P (wy X W (w + 1)) = -1 then some (P.nj, P.np + 1, 12 + P.np, up P.sc (12 + P.np) (wy X W (w + 1), []), P.jr) else none)
  else if ¬ P.own < 20 then none
  else if wx X W w = mj_str 10 then (if 2 ≤ n ∧ n ≤ 7 ∧ (P.sc P.own).2.length < 8 then some (wSc P (0, w + 1, n - 1)) else none)
  else if wx X W w = mj_str 11 then (if n = 2 ∧ wy X W (w + 1) ≠ 0 ∧ (P.sc P.own).2.length < 8 then some (wSc P (wy X W (w + 1), 0, 0)) else none)
  else if ¬ P.own < 12 then none
  else if wx X W w = mj_str 12 then (if n = 1 then none else (ndF (P.jr P.own).1 (nws X W (w + 1) (n - 1))).map (fun x => wJr P (x, (P.jr P.own).2)))
  else if wx X W w = mj_str 13 then (axF (P.jr P.own).2.1 (nws X W (w + 1) (n - 1))).map (fun x => wJr P ((P.jr P.own).1, x, (P.jr P.own).2.2))
  else if wx X W w = mj_str 14 then (rsF (P.jr P.own).2.2.1 (pws X W (w + 1) (n - 1))).map (fun x => wJr P ((P.jr P.own).1, (P.jr P.own).2.1, x, (P.jr P.own).2.2.2))
  else if wx X W w = mj_str 15 then (rsF (P.jr P.own).2.2.2.1 (pws X W (w + 1) (n - 1))).map (fun x => wJr P ((P.jr P.own).1, (P.jr P.own).2.1, (P.jr P.own).2.2.1, x, (P.jr P.own).2.2.2.2))
  else if wx X W w = mj_str 16 then (if ¬ (P.jr P.own).2.2.2.2.2 = [] ∨ 20 < n - 1 then none else (cF (tkW X W) (w + 1) (w + n)).map (fun r => wJr P ((P.jr P.own).1, (P.jr P.own).2.1, (P.jr P.own).2.2.1, (P.jr P.own).2.2.2.1, r.2, r.1)))
  else none
/-- what began last is there -/
def OwP (P : mj_P) : Prop := P.own = 20 ∨ P.own < P.nj ∨ (12 ≤ P.own ∧ P.own < 12 + P.np)
/-- where a section lies -/
def sa (k : Nat) : Nat := if k < 12 then 13 + 44 * k else 540 + 3 * (k - 12)
theorem sa_j {k : Nat} (h : k < 12) : sa k = 13 + 44 * k := if_pos h
theorem sa_p {p : Nat} : sa (12 + p) = 540 + 3 * p := by
  unfold sa
  rw [if_neg (by omega)]
  omega
theorem isS_sa {k : Nat} (h : k < 20) : isS (sa k) := by
  unfold sa
  split
  · exact isS_JS (by assumption)
  · exact isS_PS (by omega)
def PlC (h : mj_H) (P : mj_P) : Prop := h.1 9 1 = nI P.nj ∧ P.nj ≤ 12 ∧ h.1 9 3 = nI P.np ∧ P.np ≤ 8 ∧ (∀ j, j < P.nj → ScC h (13 + 44 * j) (P.sc j) ∧ JrC h j (P.jr j)) ∧ ∀ p, p < P.np → ScC h (540 + 3 * p) (P.sc (12 + p))
def ZC (h : mj_H) (np : Nat) : Prop := ∀ p, p < np → h.1 (540 + 3 * p) 4 = nI 0
def OwC (h : mj_H) (own : Nat) : Prop := (own < 12 → h.2.2 564 0 = some (12 + 44 * own) ∧ h.2.2 564 1 = some (sa own)) ∧ (12 ≤ own → h.2.2 564 0 = none ∧ (own < 20 → h.2.2 564 1 = some (sa own)) ∧ (20 ≤ own → h.2.2 564 1 = none))
theorem PlC.fr {R : Nat → Nat → Prop} {h h' : mj_H} {P : mj_P} (A : PlC h P) (f : fr R h h') (m : ∀ a i, 9 ≤ a → a < 564 → ¬ (540 ≤ a ∧ a % 3 = 0 ∧ i = 4) → ¬ R a i) : PlC h' P := by
  obtain ⟨a1, a2, a3, a4, a5, a6⟩ := A
  refine ⟨(f.n (m _ _ (by omega) (by omega) (by omega))).trans a1, a2, (f.n (m _ _ (by omega) (by omega) (by omega))).trans a3, a4, fun j hj => ⟨(a5 j hj).1.fr f ⟨m _ _ (by omega) (by omega) (by omega), m _ _ (by omega) (by omega) (by omega), fun i => ⟨m _ _ (by omega) (by omega) (by omega), m _ _ (by omega) (by omega) (by omega)⟩⟩, (a5 j hj).2.fr f (fun a i h1 h2 => m _ _ (by omega) (by omega) (by omega))⟩, fun p hp => (a6 p hp).fr f ⟨m _ _ (by omega) (by omega) (by omega), m _ _ (by omega) (by omega) (by omega), fun i => ⟨m _ _ (by omega) (by omega) (by omega), m _ _ (by omega) (by omega) (by omega)⟩⟩⟩
/-- one job's record is changed -/
theorem PlC_jr {R : Nat → Nat → Prop} {h h' : mj_H} {P : mj_P} {J : Jr} (A : PlC h P) (hj : P.own < P.nj) (f : fr R h h') (m : ∀ a i, R a i → 12 + 44 * P.own ≤ a ∧ a < 56 + 44 * P.own ∧ a ≠ 13 + 44 * P.own ∧ a ≠ 14 + 44 * P.own ∧ a ≠ 15 + 44 * P.own) (hJ : JrC h' P.own J) : PlC h' (wJr P J) := by
  obtain ⟨a1, a2, a3, a4, a5, a6⟩ := A
  have n1 : ∀ a i, (a < 12 + 44 * P.own ∨ 56 + 44 * P.own ≤ a ∨ a = 13 + 44 * P.own ∨ a = 14 + 44 * P.own ∨ a = 15 + 44 * P.own) → ¬ R a i := fun a i q r => by have := m a i r; omega
  refine ⟨(f.n (n1 _ _ (by omega))).trans a1, a2, (f.n (n1 _ _ (by omega))).trans a3, a4, fun j (hj2 : j < P.nj) => ⟨(a5 j hj2).1.fr f ⟨n1 _ _ (by omega), n1 _ _ (by omega), fun i => ⟨n1 _ _ (by omega), n1 _ _ (by omega)⟩⟩, ?_⟩, fun p (hp : p < P.np) => (a6 p hp).fr f ⟨n1 _ _ (by omega), n1 _ _ (by omega), fun i => ⟨n1 _ _ (by omega), n1 _ _ (by omega)⟩⟩⟩
  show JrC h' j (up P.jr P.own J j)
  by_cases q : j = P.own
  · rw [q, up_e]
    exact hJ
  · rw [up_n q]
    exact (a5 j hj2).2.fr f (fun a i h1 h2 => n1 _ _ (by omega))
/-- one section is changed -/
theorem PlC_sc {h h' : mj_H} {P : mj_P} {t : It} (A : PlC h P) (ho : P.own < P.nj ∨ (12 ≤ P.own ∧ P.own < 12 + P.np)) (f : fr (inS (sa P.own)) h h') (hS : ScC h' (sa P.own) ((P.sc P.own).1, (P.sc P.own).2 ++ [t])) : PlC h' (wSc P t) := by
  obtain ⟨a1, a2, a3, a4, a5, a6⟩ := A
  unfold sa at f hS
  refine ⟨(f.n (by unfold inS; split <;> omega)).trans a1, a2, (f.n (by unfold inS; split <;> omega)).trans a3, a4, fun j (hj2 : j < P.nj) => ⟨?_, ?_⟩, fun p (hp : p < P.np) => ?_⟩
  · show ScC h' (13 + 44 * j) (up P.sc P.own _ j)
    by_cases q : j = P.own
    · rw [if_pos (by omega)] at hS
      rw [q, up_e]
      exact hS
    · rw [up_n q]
      exact (a5 j hj2).1.fr f ⟨by unfold inS; split <;> omega, by unfold inS; split <;> omega, fun i => ⟨by unfold inS; split <;> omega, by unfold inS; split <;> omega⟩⟩
  · have A := (a5 j hj2).2
    obtain ⟨c1, c2, c3, c4, c5⟩ := A
    have l2 := c2.2.1
    have l3 := c3.2.1
    have l4 := c4.2.1
    have n1 : ∀ a i, (12 + 44 * j ≤ a ∧ a < 56 + 44 * j ∧ a ≠ 13 + 44 * j ∧ a ≠ 14 + 44 * j ∧ a ≠ 15 + 44 * j) → ¬ inS (if P.own < 12 then 13 + 44 * P.own else 540 + 3 * (P.own - 12)) a i := fun a i q => by unfold inS; split <;> omega
    exact ⟨c1.fr f ⟨n1 _ _ (by omega), fun i => n1 _ _ (by omega)⟩, c2.fr f ⟨n1 _ _ (by omega), fun a i ha => ⟨n1 _ _ (by omega), n1 _ _ (by omega)⟩⟩, c3.fr f ⟨n1 _ _ (by omega), fun a i ha => ⟨n1 _ _ (by omega), n1 _ _ (by omega), n1 _ _ (by omega)⟩⟩, c4.fr f ⟨n1 _ _ (by omega), fun a i ha => ⟨n1 _ _ (by omega), n1 _ _ (by omega), n1 _ _ (by omega)⟩⟩, c5.fr f ⟨n1 _ _ (by omega), fun i => ⟨n1 _ _ (by omega), n1 _ _ (by omega), n1 _ _ (by omega)⟩⟩⟩
  · show ScC h' (540 + 3 * p) (up P.sc P.own _ (12 + p))
    by_cases q : 12 + p = P.own
    · rw [if_neg (by omega)] at hS
      rw [q, up_e]
      rw [show 540 + 3 * p = 540 + 3 * (P.own - 12) from by omega]
      exact hS
    · rw [up_n q]
      exact (a6 p hp).fr f ⟨by unfold inS; split <;> omega, by unfold inS; split <;> omega, fun i => ⟨by unfold inS; split <;> omega, by unfold inS; split <;> omega⟩⟩
/-- a frame that lets the class's reader change -/
def fq (P : Nat → Nat → Prop) (h h' : mj_H) : Prop := fr P h (h'.1, h'.2.1, h.2.2) ∧ ∀ a i, a ≠ 564 → h'.2.2 a i = h.2.2 a i
theorem refs_564 : ∀ t ∈ mj_refs, t.1 ≠ 564 := by decide +kernel
theorem fq.rs {P : Nat → Nat → Prop} {h h' : mj_H} (f : fq P h h') (H : mj_RS h) : mj_RS h' := by
  intro t ht
  rw [f.2 _ _ (refs_564 t ht)]
  exact H t ht
theorem fr.q {P : Nat → Nat → Prop} {h h' : mj_H} (f : fr P h h') : fq P h h' := ⟨⟨rfl, f.2⟩, fun a i _ => by rw [f.1]⟩
theorem fq.trans {P : Nat → Nat → Prop} {h h' h2 : mj_H} (f : fq P h h') (g : fq P h' h2) : fq P h h2 := ⟨⟨rfl, fun a i hn => ⟨(g.1.2 a i hn).1.trans (f.1.2 a i hn).1, (g.1.2 a i hn).2.trans (f.1.2 a i hn).2⟩⟩, fun a i hn => (g.2 a i hn).trans (f.2 a i hn)⟩
theorem fq.n {P : Nat → Nat → Prop} {h h' : mj_H} (f : fq P h h') {a i : Nat} (hn : ¬ P a i) : h'.1 a i = h.1 a i := (f.1.2 a i hn).1
theorem fq.l {P : Nat → Nat → Prop} {h h' : mj_H} (f : fq P h h') {a i : Nat} (hn : ¬ P a i) : h'.2.1 a i = h.2.1 a i := (f.1.2 a i hn).2
theorem fq.mono {P P' : Nat → Nat → Prop} {h h' : mj_H} (f : fq P h h') (m : ∀ a i, P a i → P' a i) : fq P' h h' := ⟨f.1.mono m, f.2⟩
theorem fq.rfl' {P : Nat → Nat → Prop} {h : mj_H} : fq P h h := fr.rfl'.q
theorem WW_fq {P : Nat → Nat → Prop} {h h' : mj_H} {X : Nat → Int32} {L : Nat} {W : List Wt} (A : WW h X L W) (f : fq P h h') (m : ∀ a i, 2 ≤ a → a ≤ 8 → ¬ P a i) : WW h' X L W := WW.fr (h' := (h'.1, h'.2.1, h.2.2)) A f.1 m
