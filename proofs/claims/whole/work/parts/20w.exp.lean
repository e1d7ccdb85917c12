-- ===== combinations, pure =====
abbrev Ax : Type := List (Int64 × List Int64)
def axN (as : Ax) (a : Nat) : Int64 := (as.getD a (0, [])).1
def axV (as : Ax) (a : Nat) : List Int64 := (as.getD a (0, [])).2
/-- how many ways an axis has to go -/
def nA (as : Ax) (a : Nat) : Nat := if a < as.length then (axV as a).length else 1
def d3 (m n1 n2 : Nat) : Nat → Nat
  | 0 => m / n2 / n1
  | 1 => m / n2 % n1
  | _ => m % n2
/-- the m-th combination's digits -/
def dgA (as : Ax) (m : Nat) : Nat → Nat := d3 m (nA as 1) (nA as 2)
def cbL (as : Ax) (g : Nat → Nat) : Pp := ups (fun a => (axN as a, (axV as a).getD (g a) 0)) 0 as.length
def prA (as : Ax) : Nat := nA as 0 * nA as 1 * nA as 2
theorem cb_len {as : Ax} {g : Nat → Nat} : (cbL as g).length = as.length := ups_len
theorem cb_get {as : Ax} {g : Nat → Nat} {a : Nat} (h : a < as.length) : (cbL as g).getD a (0, 0) = (axN as a, (axV as a).getD (g a) 0) := by
  unfold cbL
  rw [ups_get h, Nat.zero_add]
theorem cb_congr {as : Ax} {g g' : Nat → Nat} (h : ∀ a, a < as.length → g a = g' a) : cbL as g = cbL as g' := ups_congr (fun i h1 h2 => by rw [h i (by omega)])
def xc (ex : List Pp) (ps : Pp) : Bool := ex.any (fun r => hA ps r)
def ofA (as : Ax) (r : Pp) : Bool := decide (r.length = as.length) && as.all (fun x => decide (vO r x.1 ∈ x.2))
def sm (ps os : Pp) : Bool := decide (ps.length = os.length) && hA ps os
def rpI (J : Jr) (i : Nat) : Bool := aT (fun k => sm (J.2.2.1.getD k []) (J.2.2.1.getD i [])) i || (ofA J.2.1 (J.2.2.1.getD i []) && !xc J.2.2.2.1 (J.2.2.1.getD i []))
/-- an EXPANDED one: its job; 0 and the combination's number, or 1 and the include's -/
abbrev En : Type := Nat × Nat × Nat
def axL (j : Nat) (J : Jr) : Nat → List En
  | 0 => []
  | m + 1 => axL j J m ++ (if xc J.2.2.2.1 (cbL J.2.1 (dgA J.2.1 m)) then [] else [(j, 0, m)])
def inL2 (j : Nat) (J : Jr) : Nat → List En
  | 0 => []
  | i + 1 => inL2 j J i ++ (if rpI J i then [] else [(j, 1, i)])
theorem axL_s {j m : Nat} {J : Jr} : axL j J (m + 1) = axL j J m ++ (if xc J.2.2.2.1 (cbL J.2.1 (dgA J.2.1 m)) then [] else [(j, 0, m)]) := rfl
theorem inL2_s {j i : Nat} {J : Jr} : inL2 j J (i + 1) = inL2 j J i ++ (if rpI J i then [] else [(j, 1, i)]) := rfl
/-- how many products -/
def pdA (J : Jr) : Nat := if J.2.1.length = 0 ∧ 0 < J.2.2.1.length then 0 else prA J.2.1
def exJ (j : Nat) (J : Jr) : List En := axL j J (pdA J) ++ inL2 j J J.2.2.1.length
def exA (P : mj_P) : Nat → List En
  | 0 => []
  | j + 1 => exA P j ++ exJ j (P.jr j)
theorem exA_s {P : mj_P} {j : Nat} : exA P (j + 1) = exA P j ++ exJ j (P.jr j) := rfl
theorem axL_len {j m : Nat} {J : Jr} : (axL j J m).length ≤ m := by
  induction m with
  | zero => exact Nat.le_refl 0
  | succ m ih =>
    rw [axL_s, List.length_append]
    split
    · show _ + 0 ≤ _
      omega
    · show _ + 1 ≤ _
      omega
theorem inL2_len {j m : Nat} {J : Jr} : (inL2 j J m).length ≤ m := by
  induction m with
  | zero => exact Nat.le_refl 0
  | succ m ih =>
    rw [inL2_s, List.length_append]
    split
    · show _ + 0 ≤ _
      omega
    · show _ + 1 ≤ _
      omega
theorem nA_le {as : Ax} {a : Nat} (h : axOK as) : 1 ≤ nA as a ∧ nA as a ≤ 5 := by
  unfold nA
  split
  · rename_i q
    obtain ⟨-, -, h3, h4⟩ := h.2.2 _ (getD_mem (x := (0, [])) q)
    refine ⟨?_, h4.1⟩
    rcases Nat.eq_zero_or_pos (axV as a).length with w | w
    · exact absurd (List.length_eq_zero_iff.mp w) h3
    · exact w
  · decide
theorem prA_le {as : Ax} (h : axOK as) : prA as ≤ 125 := by
  unfold prA
  have h0 := (nA_le (a := 0) h).2
  have h1 := (nA_le (a := 1) h).2
  have h2 := (nA_le (a := 2) h).2
  have := Nat.mul_le_mul (Nat.mul_le_mul h0 h1) h2
  exact this
theorem pdA_le {J : Jr} (h : axOK J.2.1) : pdA J ≤ 125 := by
  unfold pdA
  split
  · exact Nat.zero_le _
  · exact prA_le h
theorem exJ_len {j : Nat} {J : Jr} (h : JV J) : (exJ j J).length ≤ 129 := by
  unfold exJ
  rw [List.length_append]
  have a := axL_len (j := j) (J := J) (m := pdA J)
  have b := inL2_len (j := j) (J := J) (m := J.2.2.1.length)
  have c := pdA_le h.1
  have d := h.2.1.1
  omega
theorem exA_len {P : mj_P} {n : Nat} (h : ∀ j, JV (P.jr j)) : (exA P n).length ≤ 129 * n := by
  induction n with
  | zero => exact Nat.le_refl 0
  | succ n ih =>
    rw [exA_s, List.length_append]
    have := exJ_len (j := n) (h n)
    omega
/-- the entries are such as there are -/
def enOK (P : mj_P) (e : En) : Prop := e.1 < P.nj ∧ ((e.2.1 = 0 ∧ e.2.2 < prA (P.jr e.1).2.1) ∨ (e.2.1 = 1 ∧ e.2.2 < (P.jr e.1).2.2.1.length))
theorem axL_mem {j m : Nat} {J : Jr} {e : En} (h : e ∈ axL j J m) : e.1 = j ∧ e.2.1 = 0 ∧ e.2.2 < m := by
  induction m with
  | zero => exact absurd h List.not_mem_nil
  | succ m ih =>
    rw [axL_s] at h
    rcases List.mem_append.mp h with w | w
    · obtain ⟨a, b, c⟩ := ih w
      exact ⟨a, b, by omega⟩
    · split at w
      · exact absurd w List.not_mem_nil
      · rw [List.mem_singleton.mp w]
        exact ⟨rfl, rfl, Nat.lt_succ_self m⟩
theorem inL2_mem {j m : Nat} {J : Jr} {e : En} (h : e ∈ inL2 j J m) : e.1 = j ∧ e.2.1 = 1 ∧ e.2.2 < m := by
  induction m with
  | zero => exact absurd h List.not_mem_nil
  | succ m ih =>
    rw [inL2_s] at h
    rcases List.mem_append.mp h with w | w
    · obtain ⟨a, b, c⟩ := ih w
      exact ⟨a, b, by omega⟩
    · split at w
      · exact absurd w List.not_mem_nil
      · rw [List.mem_singleton.mp w]
        exact ⟨rfl, rfl, Nat.lt_succ_self m⟩
theorem pdA_prA {J : Jr} : pdA J ≤ prA J.2.1 := by
  unfold pdA
  split
  · exact Nat.zero_le _
  · exact Nat.le_refl _
theorem exA_mem {P : mj_P} {n : Nat} {e : En} (hn : n ≤ P.nj) (h : e ∈ exA P n) : enOK P e := by
  induction n with
  | zero => exact absurd h List.not_mem_nil
  | succ n ih =>
    rw [exA_s] at h
    rcases List.mem_append.mp h with w | w
    · exact ih (by omega) w
    · unfold exJ at w
      rcases List.mem_append.mp w with v | v
      · obtain ⟨a, b, c⟩ := axL_mem v
        have := pdA_prA (J := P.jr n)
        exact ⟨by omega, Or.inl ⟨b, by rw [a]; omega⟩⟩
      · obtain ⟨a, b, c⟩ := inL2_mem v
        exact ⟨by omega, Or.inr ⟨b, by rw [a]; exact c⟩⟩
/-- digits and their number -/
theorem d3_of {f s t n1 n2 : Nat} (h1 : s < n1) (h2 : t < n2) : d3 ((f * n1 + s) * n2 + t) n1 n2 0 = f ∧ d3 ((f * n1 + s) * n2 + t) n1 n2 1 = s ∧ d3 ((f * n1 + s) * n2 + t) n1 n2 2 = t := by
  have e1 : ((f * n1 + s) * n2 + t) / n2 = f * n1 + s := by
    rw [Nat.add_comm, Nat.add_mul_div_right _ _ (by omega), Nat.div_eq_of_lt h2, Nat.zero_add]
  have e2 : ((f * n1 + s) * n2 + t) % n2 = t := by
    rw [Nat.add_comm, Nat.add_mul_mod_self_right, Nat.mod_eq_of_lt h2]
  have e3 : (f * n1 + s) / n1 = f := by
    rw [Nat.add_comm, Nat.add_mul_div_right _ _ (by omega), Nat.div_eq_of_lt h1, Nat.zero_add]
  have e4 : (f * n1 + s) % n1 = s := by
    rw [Nat.add_comm, Nat.add_mul_mod_self_right, Nat.mod_eq_of_lt h1]
  refine ⟨?_, ?_, e2⟩
  · show _ / n2 / n1 = f
    rw [e1, e3]
  · show _ / n2 % n1 = s
    rw [e1, e4]
theorem d3_lt {m n0 n1 n2 : Nat} (h1 : 0 < n1) (h2 : 0 < n2) (h : m < n0 * n1 * n2) : d3 m n1 n2 0 < n0 ∧ d3 m n1 n2 1 < n1 ∧ d3 m n1 n2 2 < n2 ∧ (d3 m n1 n2 0 * n1 + d3 m n1 n2 1) * n2 + d3 m n1 n2 2 = m := by
  have a : m / n2 < n0 * n1 := Nat.div_lt_of_lt_mul (by rw [Nat.mul_comm]; exact h)
  have b : m / n2 / n1 < n0 := Nat.div_lt_of_lt_mul (by rw [Nat.mul_comm]; exact a)
  refine ⟨b, Nat.mod_lt _ h1, Nat.mod_lt _ h2, ?_⟩
  show (m / n2 / n1 * n1 + m / n2 % n1) * n2 + m % n2 = m
  rw [Nat.mul_comm (m / n2 / n1) n1, Nat.div_add_mod, Nat.mul_comm, Nat.div_add_mod]
theorem dgA_lt {as : Ax} {m : Nat} (h : axOK as) (hm : m < prA as) : ∀ a, a < 3 → dgA as m a < nA as a := by
  have l := d3_lt (n0 := nA as 0) (nA_le (a := 1) h).1 (nA_le (a := 2) h).1 hm
  intro a ha
  have : a = 0 ∨ a = 1 ∨ a = 2 := by omega
  rcases this with r | r | r <;> subst r
  · exact l.1
  · exact l.2.1
  · exact l.2.2.1
/-- the value of a name in a combination -/
theorem vO_cb {as : Ax} {g : Nat → Nat} {y : Int64} : (fi (fun a => decide ((as.getD a (0, [])).1 = y)) 0 as.length = -1 ∧ vO (cbL as g) y = 0 ∧ ∀ a, a < as.length → ¬ axN as a = y) ∨ ∃ a, a < as.length ∧ axN as a = y ∧ fi (fun a => decide ((as.getD a (0, [])).1 = y)) 0 as.length = nI a ∧ vO (cbL as g) y = (axV as a).getD (g a) 0 := by
  rcases fi_spec (p := fun a => decide ((as.getD a (0, [])).1 = y)) (n := as.length) (i := 0) with ⟨a, b⟩ | ⟨k, a, b, c, e, f⟩
  · have n : ∀ a, a < as.length → ¬ axN as a = y := fun a ha => of_decide_eq_false (b a (Nat.zero_le a) (by omega))
    refine Or.inl ⟨a, vO_none (fun i hi => ?_), n⟩
    rw [cb_len] at hi
    rw [cb_get hi]
    exact n i hi
  · refine Or.inr ⟨k, by omega, of_decide_eq_true c, e, ?_⟩
    rw [vO_some (i := k) (by rw [cb_len]; omega) (by rw [cb_get (by omega)]; exact of_decide_eq_true c) (fun i hi => by rw [cb_get (by omega)]; exact of_decide_eq_false (f i (Nat.zero_le i) hi)), cb_get (by omega)]
theorem nd_len {l1 l2 : List Int64} (h : l1.Nodup) (hs : ∀ x ∈ l1, x ∈ l2) : l1.length ≤ l2.length := by
  induction l1 generalizing l2 with
  | nil => exact Nat.zero_le _
  | cons a r ih =>
    obtain ⟨h1, h2⟩ := List.nodup_cons.mp h
    have ha := hs a List.mem_cons_self
    have := ih (l2 := l2.erase a) h2 (fun x hx => (List.mem_erase_of_ne (show x ≠ a from fun e => h1 (e ▸ hx))).mpr (hs x (List.mem_cons_of_mem _ hx)))
    rw [List.length_erase_of_mem ha] at this
    have : 0 < l2.length := List.length_pos_of_mem ha
    rw [List.length_cons]
    omega
/-- as many, all in: then all the other way -/
theorem nd_all {l1 l2 : List Int64} (h : l1.Nodup) (hs : ∀ x ∈ l1, x ∈ l2) (hl : l1.length = l2.length) : ∀ y ∈ l2, y ∈ l1 := by
  intro y hy
  by_cases q : y ∈ l1
  · exact q
  · have := nd_len (l2 := l2.erase y) h (fun x hx => (List.mem_erase_of_ne (show x ≠ y from fun e => q (e ▸ hx))).mpr (hs x hx))
    rw [List.length_erase_of_mem hy] at this
    have : 0 < l2.length := List.length_pos_of_mem hy
    omega
theorem vO_hit {ps : Pp} {q : Int64 × Int64} (hn : (ps.map Prod.fst).Nodup) (h : q ∈ ps) : vO ps q.1 = q.2 := by
  induction ps with
  | nil => exact absurd h List.not_mem_nil
  | cons p r ih =>
    have hn : (p.1 :: r.map Prod.fst).Nodup := hn
    obtain ⟨h1, h2⟩ := List.nodup_cons.mp hn
    unfold vO
    rcases List.mem_cons.mp h with w | w
    · rw [w, if_pos rfl]
    · rw [if_neg (show ¬ p.1 = q.1 from fun e => h1 (by rw [e]; exact List.mem_map.mpr ⟨q, w, rfl⟩))]
      exact ih h2 w
theorem vO_in {ps : Pp} {y : Int64} (h : ¬ vO ps y = 0) : y ∈ ps.map Prod.fst ∧ (y, vO ps y) ∈ ps := by
  induction ps with
  | nil => exact absurd rfl h
  | cons p r ih =>
    unfold vO at h ⊢
    by_cases q : p.1 = y
    · rw [if_pos q]
      refine ⟨List.mem_cons.mpr (Or.inl q.symm), ?_⟩
      rw [← q]
      exact List.mem_cons_self
    · rw [if_neg q] at h ⊢
      obtain ⟨a, b⟩ := ih h
      exact ⟨List.mem_cons_of_mem _ a, List.mem_cons_of_mem _ b⟩
theorem hA_congr {ps ps' os : Pp} (h : ∀ y, vO ps y = vO ps' y) : hA ps os = hA ps' os := by
  unfold hA
  congr 1
  funext q
  rw [h]
theorem xc_congr {ex : List Pp} {ps ps' : Pp} (h : ∀ y, vO ps y = vO ps' y) : xc ex ps = xc ex ps' := by
  unfold xc
  congr 1
  funext r
  exact hA_congr h
theorem hA_t {ps os : Pp} : hA ps os = true ↔ ∀ q ∈ os, vO ps q.1 = q.2 := by
  unfold hA
  rw [List.all_eq_true]
  exact ⟨fun h q hq => of_decide_eq_true (h q hq), fun h q hq => decide_eq_true (h q hq)⟩
theorem axN_mem {as : Ax} {a : Nat} (h : a < as.length) : axN as a ∈ as.map Prod.fst := List.mem_map.mpr ⟨_, getD_mem h, rfl⟩
theorem mem_axN {as : Ax} {y : Int64} (h : y ∈ as.map Prod.fst) : ∃ a, a < as.length ∧ axN as a = y := by
  obtain ⟨x, hx, ex⟩ := List.mem_map.mp h
  obtain ⟨a, ha, ea⟩ := mem_getD (x := (0, [])) hx
  exact ⟨a, ha, by unfold axN; rw [ea]; exact ex⟩
theorem getD_nd {xs : List Int64} (h : xs.Nodup) {i j : Nat} (hi : i < xs.length) (hj : j < xs.length) (e : xs.getD i 0 = xs.getD j 0) : i = j := by
  rw [List.getD_eq_getElem?_getD, List.getElem?_eq_getElem hi, List.getD_eq_getElem?_getD, List.getElem?_eq_getElem hj] at e
  exact (List.getElem_inj h).mp e
theorem axN_inj {as : Ax} (h : axOK as) {a b : Nat} (ha : a < as.length) (hb : b < as.length) (e : axN as a = axN as b) : a = b := by
  have l : (as.map Prod.fst).length = as.length := List.length_map _
  have g : ∀ a, a < as.length → (as.map Prod.fst).getD a 0 = axN as a := by
    intro a ha
    unfold axN
    rw [List.getD_eq_getElem?_getD, List.getElem?_map, List.getD_eq_getElem?_getD, List.getElem?_eq_getElem ha]
    rfl
  exact getD_nd h.2.1 (by omega) (by omega) (by rw [g a ha, g b hb, e])
/-- an include is among the products just when its pairs are of the axes -/
theorem of_prod {J : Jr} {r : Pp} (hJ : JV J) (hr : rwOK r) (hr0 : ¬ r = []) (hi : 0 < J.2.2.1.length) : (∃ c, c < pdA J ∧ r.length = J.2.1.length ∧ hA (cbL J.2.1 (dgA J.2.1 c)) r = true ∧ xc J.2.2.2.1 (cbL J.2.1 (dgA J.2.1 c)) = false) ↔ (ofA J.2.1 r && !xc J.2.2.2.1 r) = true := by
  have hax := hJ.1
  have hpd : pdA J = if J.2.1.length = 0 ∧ 0 < J.2.2.1.length then 0 else prA J.2.1 := rfl
  rw [hpd]
  generalize J.2.1 = as at *
  have nz : ∀ a, a < as.length → ∀ v ∈ axV as a, ¬ v = 0 := fun a ha v hv => ((hax.2.2 _ (getD_mem (x := (0, [])) ha)).2.2.2.2.2 v hv).1
  have rl : (r.map Prod.fst).length = r.length := List.length_map _
  have al : (as.map Prod.fst).length = as.length := List.length_map _
  rw [Bool.and_eq_true, Bool.not_eq_true']
  constructor
  · intro ⟨c, hc, hl, h1, h2⟩
    have hc : c < prA as := Nat.lt_of_lt_of_le hc (by split <;> first | exact Nat.zero_le _ | exact Nat.le_refl _)
    have dg := dgA_lt hax hc
    rw [hA_t] at h1
    have sub : ∀ y ∈ r.map Prod.fst, y ∈ as.map Prod.fst := by
      intro y hy
      obtain ⟨q, hq, eq⟩ := List.mem_map.mp hy
      rcases vO_cb (as := as) (g := dgA as c) (y := q.1) with ⟨-, v, -⟩ | ⟨a, ha, ea, -, -⟩
      · have := h1 q hq
        rw [v] at this
        exact absurd this.symm (hr.2.2 q hq).2.1
      · rw [← eq, ← ea]
        exact axN_mem ha
    have all := nd_all hr.2.1 sub (by omega)
    have same : ∀ y, vO r y = vO (cbL as (dgA as c)) y := by
      intro y
      by_cases q : vO r y = 0
      · rcases vO_cb (as := as) (g := dgA as c) (y := y) with ⟨-, v, -⟩ | ⟨a, ha, ea, -, -⟩
        · rw [q, v]
        · obtain ⟨p, hp, ep⟩ := List.mem_map.mp (all _ (axN_mem ha))
          have := vO_hit hr.2.1 hp
          rw [ep, ea, q] at this
          exact absurd this.symm (hr.2.2 p hp).2.1
      · exact (h1 _ (vO_in q).2).symm
    refine ⟨?_, ?_⟩
    · unfold ofA
      rw [decide_eq_true hl, Bool.true_and, List.all_eq_true]
      intro x hx
      obtain ⟨a, ha, ea⟩ := mem_getD (x := (0, [])) hx
      apply decide_eq_true
      have e1 : x.1 = axN as a := by unfold axN; rw [ea]
      have e2 : x.2 = axV as a := by unfold axV; rw [ea]
      rw [e1, e2, same]
      rcases vO_cb (as := as) (g := dgA as c) (y := axN as a) with ⟨-, -, v⟩ | ⟨b, hb, eb, -, v⟩
      · exact absurd rfl (v a ha)
      · have : b = a := axN_inj hax hb ha eb
        subst this
        rw [v]
        have := dg b (by have := hax.1; omega)
        unfold nA at this
        rw [if_pos hb] at this
        exact getD_mem this
    · rw [xc_congr same]
      exact h2
  · intro ⟨h1, h2⟩
    unfold ofA at h1
    rw [Bool.and_eq_true, List.all_eq_true] at h1
    have hl := of_decide_eq_true h1.1
    have hin : ∀ a, a < as.length → vO r (axN as a) ∈ axV as a := fun a ha => of_decide_eq_true (h1.2 _ (getD_mem (x := (0, [])) ha))
    have sub : ∀ y ∈ as.map Prod.fst, y ∈ r.map Prod.fst := by
      intro y hy
      obtain ⟨a, ha, ea⟩ := mem_axN hy
      rw [← ea]
      exact (vO_in (nz a ha _ (hin a ha))).1
    have all := nd_all hax.2.1 sub (by omega)
    have dig : ∀ a, ∃ z, z < nA as a ∧ (a < as.length → (axV as a).getD z 0 = vO r (axN as a)) := by
      intro a
      by_cases q : a < as.length
      · obtain ⟨z, hz, ez⟩ := mem_getD (x := 0) (hin a q)
        exact ⟨z, by unfold nA; rw [if_pos q]; exact hz, fun _ => ez⟩
      · exact ⟨0, by unfold nA; rw [if_neg q]; decide, fun v => absurd v q⟩
    obtain ⟨z0, l0, g0⟩ := dig 0
    obtain ⟨z1, l1, g1⟩ := dig 1
    obtain ⟨z2, l2, g2⟩ := dig 2
    have d := d3_of (f := z0) l1 l2
    have gz : ∀ a, a < as.length → (axV as a).getD (dgA as ((z0 * nA as 1 + z1) * nA as 2 + z2) a) 0 = vO r (axN as a) := by
      intro a ha
      have : a = 0 ∨ a = 1 ∨ a = 2 := by have := hax.1; omega
      unfold dgA
      rcases this with v | v | v <;> subst v
      · rw [d.1]
        exact g0 ha
      · rw [d.2.1]
        exact g1 ha
      · rw [d.2.2]
        exact g2 ha
    have same : ∀ y, vO r y = vO (cbL as (dgA as ((z0 * nA as 1 + z1) * nA as 2 + z2))) y := by
      intro y
      rcases vO_cb (as := as) (g := dgA as ((z0 * nA as 1 + z1) * nA as 2 + z2)) (y := y) with ⟨-, v, nn⟩ | ⟨a, ha, ea, -, v⟩
      · rw [v]
        by_cases q : vO r y = 0
        · exact q
        · obtain ⟨a, ha, ea⟩ := mem_axN (all _ (vO_in q).1)
          exact absurd ea (nn a ha)
      · rw [v, gz a ha, ea]
    refine ⟨(z0 * nA as 1 + z1) * nA as 2 + z2, ?_, hl, ?_, ?_⟩
    · have rp : 0 < r.length := by
        rcases Nat.eq_zero_or_pos r.length with w | w
        · exact absurd (List.length_eq_zero_iff.mp w) hr0
        · exact w
      rw [if_neg (by omega)]
      unfold prA
      have m1 : z0 * nA as 1 + z1 < nA as 0 * nA as 1 := by
        have : (z0 + 1) * nA as 1 ≤ nA as 0 * nA as 1 := Nat.mul_le_mul l0 (Nat.le_refl _)
        rw [Nat.add_mul, Nat.one_mul] at this
        omega
      have : (z0 * nA as 1 + z1 + 1) * nA as 2 ≤ nA as 0 * nA as 1 * nA as 2 := Nat.mul_le_mul m1 (Nat.le_refl _)
      rw [Nat.add_mul, Nat.one_mul] at this
      omega
    · rw [hA_t]
      intro q hq
      rw [← same]
      exact vO_hit hr.2.1 hq
    · rw [← xc_congr same]
      exact h2
