/-! the words that stand at every call: those of the tables that keep; links between nest mates -/
def mj_isAC : Cond → Bool
  | .arrayClass _ => true
  | _ => false
def mj_goodB (w : Cond) : Bool := (w.onTables && w.keeps) || mj_isAC w
def mj_T : List Cond := lw_tbl.filter mj_goodB
def mj_nestB : Cond → Bool
  | .fieldLinkNest .. => true
  | .methodLinkNest .. => true
  | _ => false
def mj_NL : List Cond := lw_tbl.filter mj_nestB
theorem mj_T_in {w : Cond} (h : w ∈ lw_tbl) (hg : mj_goodB w = true) : w ∈ mj_T := List.mem_filter.mpr ⟨h, hg⟩
theorem mj_NL_in {w : Cond} (h : w ∈ lw_tbl) (hg : mj_nestB w = true) : w ∈ mj_NL := List.mem_filter.mpr ⟨h, hg⟩
theorem mj_T_good : GoodIn mj_T mj_T := by
  intro w hw
  refine ⟨hw, ?_⟩
  have h := (List.mem_filter.mp hw).2
  simp only [mj_goodB, Bool.or_eq_true] at h
  rcases h with h | h
  · exact Or.inl h
  · cases w <;> simp [mj_isAC] at h
    exact Or.inr ⟨_, rfl⟩
theorem mj_NL_moved {s U : State} (hW : s.WarmedH U.vm) (h : ∀ w ∈ mj_NL, va_Nw w s) : ∀ w ∈ mj_NL, va_Nw w U := by
  intro w hw
  have hn := (List.mem_filter.mp hw).2
  have h1 := h w hw
  cases w <;> simp [mj_nestB] at hn
  · exact va_Nw.warmM hW h1
  · exact va_Nw.warmF hW h1
