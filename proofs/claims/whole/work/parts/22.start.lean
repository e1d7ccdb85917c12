theorem mj_kn : mj_kd mj_KK 0 = 0 ∧ mj_kd mj_KK 573 = 12 ∧ mj_KK.length ≤ 600000 ∧ mj_ks mj_KK ≤ 7302250 ∧ mj_K1.length = 573 := by decide +kernel
/-- from the entry, for every script of at most 2048 ints, the law comes to its end with true -/
theorem whole_start {p : Program} {e : Env} {s : State} {m : MethodId} {below : List Frame} {meth : Method} {c : Code} (l : Launch) {b L : Nat} {xs : Nat → Int32} (hL : L ≤ 2048) (C0 : lw_At p s m meth c b L xs) : W p l e room_1 s m #[Value.ref b] below meth c s.heap [] 0 0 (lw_Z below #[Value.ref b] s) (entryFrame m ([Value.ref b] : List Value).toArray 4) := by
  obtain ⟨k1, k2, k3, k4, k5⟩ := mj_kn
  exact mj_whole mj_made1 mj_made2 mj_J2 (by rw [k5]; exact mj_ops) k1 (by rw [k5]; exact k2) k3 k4 l hL C0
