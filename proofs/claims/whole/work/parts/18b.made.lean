-- ===== the two constructors, run by the kernel =====
def mj_r1 : Option (Option Value × mj_K × mj_H) := mj_run 6000 60 0 0 (mj_entry 0 [.ref 0]) [] [(0, 8)] (mj_zero mj_h0 0)
def mj_h1 : mj_H := match mj_r1 with
  | some (_, _, h) => h
  | none => mj_h0
def mj_r2 : Option (Option Value × mj_K × mj_H) := mj_run 6000 60 22 0 (mj_entry 22 [.ref 573]) [] (mj_K1 ++ [(12, 44)]) (mj_zero mj_h1 573)
def mj_h2 : mj_H := match mj_r2 with
  | some (_, _, h) => h
  | none => mj_h0
def mj_isn (K : mj_K) : Option (Option Value × mj_K × mj_H) → Bool
  | some (none, K', _) => decide (K' = K)
  | _ => false
theorem mj_isn_ok {K : mj_K} {r : Option (Option Value × mj_K × mj_H)} (h : mj_isn K r = true) : ∃ h', r = some (none, K, h') := by
  unfold mj_isn at h
  split at h
  · rename_i K' h'
    have := of_decide_eq_true h
    subst this
    exact ⟨h', rfl⟩
  · cases h
set_option maxRecDepth 1000000 in
theorem mj_r1_ok : mj_isn mj_K1 mj_r1 = true := by decide +kernel
set_option maxRecDepth 1000000 in
theorem mj_r2_ok : mj_isn mj_KK mj_r2 = true := by decide +kernel
