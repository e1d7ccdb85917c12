-- ===== plain numbers; the heap after a write; lists in the heap =====
theorem z_0 : (0 : Int32) = nI 0 := rfl
theorem z_1 : (1 : Int32) = nI 1 := rfl
theorem z_2 : (2 : Int32) = nI 2 := rfl
theorem z_3 : (3 : Int32) = nI 3 := rfl
theorem z_4 : (4 : Int32) = nI 4 := rfl
theorem z_5 : (5 : Int32) = nI 5 := rfl
theorem z_6 : (6 : Int32) = nI 6 := rfl
theorem z_7 : (7 : Int32) = nI 7 := rfl
theorem z_8 : (8 : Int32) = nI 8 := rfl
theorem z_9 : (9 : Int32) = nI 9 := rfl
theorem z_10 : (10 : Int32) = nI 10 := rfl
theorem z_12 : (12 : Int32) = nI 12 := rfl
theorem z_13 : (13 : Int32) = nI 13 := rfl
theorem z_20 : (20 : Int32) = nI 20 := rfl
theorem z_21 : (21 : Int32) = nI 21 := rfl
theorem z_56 : (56 : Int32) = nI 56 := rfl
theorem z_350 : (350 : Int32) = nI 350 := rfl
theorem z_25 : (25 : Int32) = nI 25 := rfl
theorem z_31 : (31 : Int32) = nI 31 := rfl
theorem z_32 : (32 : Int32) = nI 32 := rfl
theorem z_36 : (36 : Int32) = nI 36 := rfl
theorem z_48 : (48 : Int32) = nI 48 := rfl
theorem z_57 : (57 : Int32) = nI 57 := rfl
theorem z_61 : (61 : Int32) = nI 61 := rfl
theorem z_97 : (97 : Int32) = nI 97 := rfl
theorem z_100 : (100 : Int32) = nI 100 := rfl
theorem z_122 : (122 : Int32) = nI 122 := rfl
theorem z_125 : (125 : Int32) = nI 125 := rfl
theorem z_126 : (126 : Int32) = nI 126 := rfl
theorem z_144 : (144 : Int32) = nI 144 := rfl
theorem z_255 : (255 : Int32) = nI 255 := rfl
theorem z_700 : (700 : Int32) = nI 700 := rfl
theorem z_1000 : (1000 : Int32) = nI 1000 := rfl
theorem z_1548 : (1548 : Int32) = nI 1548 := rfl
theorem z_in {i n : Nat} (hi : i < 2 ^ 31) : (mj_in (nI i) n = true) ↔ i < n := by
  unfold mj_in
  rw [decide_eq_true_iff, nI_clamp hi]
  constructor
  · intro q
    rcases Nat.lt_or_ge i n with w | w
    · exact w
    · exact absurd (Or.inr w) q
  · intro q w
    rcases w with w | w
    · exact nI_pos hi w
    · omega
theorem z_m1 {n : Nat} (h : n < 2 ^ 31) : (nI n = -1) ↔ False := by
  constructor
  · intro q
    have := nI_toInt h
    rw [q] at this
    have e : (-1 : Int32).toInt = -1 := by decide
    omega
  · exact False.elim
theorem z_m1b {n : Nat} (h : n < 2 ^ 31) : ((-1 : Int32) = nI n) ↔ False := by
  rw [eq_comm]
  exact z_m1 h
theorem w_ie {h : mj_H} {a i b j : Nat} {v : Int32} (e : b = a ∧ j = i) : (mj_w h a i (.int v)).1 b j = v := by
  show (if b = a ∧ j = i then _ else _) = _
  rw [if_pos e]
theorem w_in {h : mj_H} {a i b j : Nat} {v : Int32} (e : b ≠ a ∨ j ≠ i) : (mj_w h a i (.int v)).1 b j = h.1 b j := by
  show (if b = a ∧ j = i then _ else _) = _
  rw [if_neg (fun q => e.elim (fun r => r q.1) (fun r => r q.2))]
theorem w_le {h : mj_H} {a i b j : Nat} {v : Int64} (e : b = a ∧ j = i) : (mj_w h a i (.long v)).2.1 b j = v := by
  show (if b = a ∧ j = i then _ else _) = _
  rw [if_pos e]
theorem w_ln {h : mj_H} {a i b j : Nat} {v : Int64} (e : b ≠ a ∨ j ≠ i) : (mj_w h a i (.long v)).2.1 b j = h.2.1 b j := by
  show (if b = a ∧ j = i then _ else _) = _
  rw [if_neg (fun q => e.elim (fun r => r q.1) (fun r => r q.2))]
theorem w_il {h : mj_H} {a i : Nat} {v : Int64} : (mj_w h a i (.long v)).1 = h.1 := rfl
theorem w_li {h : mj_H} {a i : Nat} {v : Int32} : (mj_w h a i (.int v)).2.1 = h.2.1 := rfl
theorem w_ir {h : mj_H} {a i : Nat} {v : Int32} : (mj_w h a i (.int v)).2.2 = h.2.2 := rfl
theorem w_lr {h : mj_H} {a i : Nat} {v : Int64} : (mj_w h a i (.long v)).2.2 = h.2.2 := rfl
theorem b2i_t {b : Bool} (h : b = true) : b2i b = 1 := by rw [h]; rfl
theorem b2i_f {b : Bool} (h : b = false) : b2i b = 0 := by rw [h]; rfl
/-- the heap's long row a, from o on, is the list -/
def Lh (h : mj_H) (a o : Nat) (xs : List Int64) : Prop := ∀ i, i < xs.length → h.2.1 a (o + i) = xs.getD i 0
theorem getD_app {α : Type} {xs : List α} {v x : α} {i : Nat} : (xs ++ [v]).getD i x = if i < xs.length then xs.getD i x else if i = xs.length then v else x := by
  induction xs generalizing i with
  | nil =>
    cases i with
    | zero => rfl
    | succ i => simp [List.getD]
  | cons a r ih =>
    cases i with
    | zero => simp [List.getD]
    | succ i =>
      have e : ((a :: r) ++ [v]).getD (i + 1) x = (r ++ [v]).getD i x := rfl
      have e2 : (a :: r).getD (i + 1) x = r.getD i x := rfl
      rw [e, ih, e2]
      simp only [List.length_cons, Nat.add_lt_add_iff_right, Nat.add_right_cancel_iff]
theorem getD_app_l {α : Type} {xs : List α} {v x : α} {i : Nat} (h : i < xs.length) : (xs ++ [v]).getD i x = xs.getD i x := by rw [getD_app, if_pos h]
theorem getD_app_e {α : Type} {xs : List α} {v x : α} : (xs ++ [v]).getD xs.length x = v := by rw [getD_app, if_neg (Nat.lt_irrefl _), if_pos rfl]
theorem getD_mem {α : Type} {xs : List α} {x : α} {i : Nat} (h : i < xs.length) : xs.getD i x ∈ xs := by
  rw [List.getD_eq_getElem?_getD, List.getElem?_eq_getElem h]
  exact List.getElem_mem h
theorem mem_getD {α : Type} {xs : List α} {x y : α} (h : y ∈ xs) : ∃ i, i < xs.length ∧ xs.getD i x = y := by
  obtain ⟨i, hi, e⟩ := List.mem_iff_getElem.mp h
  exact ⟨i, hi, by rw [List.getD_eq_getElem?_getD, List.getElem?_eq_getElem hi]; exact e⟩
theorem Lh.app {h : mj_H} {a o : Nat} {xs : List Int64} {v : Int64} (H : Lh h a o xs) : Lh (mj_w h a (o + xs.length) (.long v)) a o (xs ++ [v]) := by
  intro i hi
  rw [List.length_append] at hi
  have hi : i < xs.length + 1 := hi
  rcases Nat.lt_or_ge i xs.length with q | q
  · rw [getD_app_l q, w_ln (Or.inr (by omega))]
    exact H i q
  · have e : i = xs.length := by omega
    subst e
    rw [getD_app_e, w_le ⟨rfl, rfl⟩]
theorem Lh.of {h h' : mj_H} {a o : Nat} {xs : List Int64} (H : Lh h a o xs) (e : ∀ i, i < xs.length → h'.2.1 a (o + i) = h.2.1 a (o + i)) : Lh h' a o xs := fun i hi => (e i hi).trans (H i hi)
theorem Lh.nil {h : mj_H} {a o : Nat} : Lh h a o [] := fun i hi => absurd hi (Nat.not_lt_zero i)
theorem z_cmp {a b : Int64} : (lg_cmp a b = nI 0) ↔ a = b := lg_cmp_eq a b
/-- only the places that P holds of are changed, and no reference -/
def fr (P : Nat → Nat → Prop) (h h' : mj_H) : Prop := h'.2.2 = h.2.2 ∧ ∀ a i, ¬ P a i → h'.1 a i = h.1 a i ∧ h'.2.1 a i = h.2.1 a i
theorem fr.rs {P : Nat → Nat → Prop} {h h' : mj_H} (f : fr P h h') (H : mj_RS h) : mj_RS h' := by
  intro t ht
  rw [f.1]
  exact H t ht
theorem fr.rfl' {P : Nat → Nat → Prop} {h : mj_H} : fr P h h := ⟨rfl, fun _ _ _ => ⟨rfl, rfl⟩⟩
theorem fr.wi {P : Nat → Nat → Prop} {h h' : mj_H} {a i : Nat} {v : Int32} (f : fr P h h') (hp : P a i) : fr P h (mj_w h' a i (.int v)) := by
  refine ⟨f.1, fun b j hn => ⟨?_, (f.2 b j hn).2⟩⟩
  rw [w_in (by
    rcases Decidable.em (b = a) with q | q
    · rcases Decidable.em (j = i) with r | r
      · subst q; subst r; exact absurd hp hn
      · exact Or.inr r
    · exact Or.inl q)]
  exact (f.2 b j hn).1
theorem fr.wl {P : Nat → Nat → Prop} {h h' : mj_H} {a i : Nat} {v : Int64} (f : fr P h h') (hp : P a i) : fr P h (mj_w h' a i (.long v)) := by
  refine ⟨f.1, fun b j hn => ⟨(f.2 b j hn).1, ?_⟩⟩
  rw [w_ln (by
    rcases Decidable.em (b = a) with q | q
    · rcases Decidable.em (j = i) with r | r
      · subst q; subst r; exact absurd hp hn
      · exact Or.inr r
    · exact Or.inl q)]
  exact (f.2 b j hn).2
theorem fr.trans {P : Nat → Nat → Prop} {h h' h2 : mj_H} (f : fr P h h') (g : fr P h' h2) : fr P h h2 := ⟨g.1.trans f.1, fun a i hn => ⟨(g.2 a i hn).1.trans (f.2 a i hn).1, (g.2 a i hn).2.trans (f.2 a i hn).2⟩⟩
theorem fr.mono {P P' : Nat → Nat → Prop} {h h' : mj_H} (f : fr P h h') (m : ∀ a i, P a i → P' a i) : fr P' h h' := ⟨f.1, fun a i hn => f.2 a i (fun q => hn (m a i q))⟩
theorem fr.n {P : Nat → Nat → Prop} {h h' : mj_H} (f : fr P h h') {a i : Nat} (hn : ¬ P a i) : h'.1 a i = h.1 a i := (f.2 a i hn).1
theorem fr.l {P : Nat → Nat → Prop} {h h' : mj_H} (f : fr P h h') {a i : Nat} (hn : ¬ P a i) : h'.2.1 a i = h.2.1 a i := (f.2 a i hn).2
theorem Lh.fr {P : Nat → Nat → Prop} {h h' : mj_H} {a o : Nat} {xs : List Int64} (H : Lh h a o xs) (f : fr P h h') (m : ∀ i, i < xs.length → ¬ P a (o + i)) : Lh h' a o xs := H.of (fun i hi => f.l (m i hi))
theorem all_t {α : Type} {xs : List α} {p : α → Bool} {x : α} (h : ∀ i, i < xs.length → p (xs.getD i x) = true) : xs.all p = true := by
  rw [List.all_eq_true]
  intro y hy
  obtain ⟨i, hi, e⟩ := mem_getD (x := x) hy
  rw [← e]
  exact h i hi
theorem all_f {α : Type} {xs : List α} {p : α → Bool} {x : α} {i : Nat} (hi : i < xs.length) (h : p (xs.getD i x) = false) : xs.all p = false := by
  cases hq : xs.all p with
  | false => rfl
  | true =>
    rw [List.all_eq_true] at hq
    rw [hq _ (getD_mem hi)] at h
    cases h
theorem any_f {α : Type} {xs : List α} {p : α → Bool} {x : α} (h : ∀ i, i < xs.length → p (xs.getD i x) = false) : xs.any p = false := by
  rw [List.any_eq_false]
  intro y hy
  obtain ⟨i, hi, e⟩ := mem_getD (x := x) hy
  rw [← e, h i hi]
  exact Bool.false_ne_true
theorem any_t {α : Type} {xs : List α} {p : α → Bool} {x : α} {i : Nat} (hi : i < xs.length) (h : p (xs.getD i x) = true) : xs.any p = true := List.any_eq_true.mpr ⟨_, getD_mem hi, h⟩
theorem nar_nI {m : Nat} (h : m < 127) : vp_nar .char (nI m) = nI m := by
  have : ∀ m, m < 127 → vp_nar .char (nI m) = nI m := by decide +kernel
  exact this m h
