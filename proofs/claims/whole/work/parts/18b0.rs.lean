/-- the references that the constructors set and nobody changes -/
def mj_RS (h : mj_H) : Prop := ∀ t ∈ mj_refs, h.2.2 t.1 t.2.1 = some t.2.2
