-- ===== the small machine's run is the machine's =====
theorem mj_plain_K {x : mj_X} {d pc pc' : Nat} {ls ls' : mj_L} {st st' : List Value} {K K' : mj_K} {h h' : mj_H} (hp : mj_plain x d pc ls st K h = some (pc', ls', st', K', h')) : ls'.length = ls.length ∧ ∃ E, K' = K ++ E := by
  obtain ⟨I, n, a, b, c0⟩ := x
  have simple : (mj_simple I n pc ls st).map (fun (q : Nat × mj_L × List Value) => (q.1, q.2.1, q.2.2, K, h)) = some (pc', ls', st', K', h') → ls'.length = ls.length ∧ ∃ E, K' = K ++ E := by
    intro hq
    obtain ⟨⟨pc2, ls2, st2⟩, h1, h2⟩ := Option.map_eq_some_iff.mp hq
    cases h2
    exact ⟨mj_simple_len h1, [], (List.append_nil _).symm⟩
  have intr : (mj_intr a d st).map (fun r => (pc + 3, ls, r, K, h)) = some (pc', ls', st', K', h') → ls'.length = ls.length ∧ ∃ E, K' = K ++ E := by
    intro hq
    obtain ⟨r, h1, h2⟩ := Option.map_eq_some_iff.mp hq
    cases h2
    exact ⟨rfl, [], (List.append_nil _).symm⟩
  cases I
  case invokestatic i => exact intr hp
  case invokespecial i => exact intr hp
  case invokevirtual i => exact intr hp
  case getfield i | putfield i | iaload | laload | caload | baload | aaload | iastore | lastore | castore | bastore | aastore | arraylength | new i | newarray i | anewarray i | iinc i k | bipush i | sipush i | ldc i | ldc2_w i =>
    simp only [mj_plain] at hp
    repeat' split at hp
    all_goals first
      | (cases hp; done)
      | (cases hp; exact ⟨rfl, [], (List.append_nil _).symm⟩)
      | (cases hp; exact ⟨rfl, [_], rfl⟩)
      | (cases hp; exact ⟨by simp [mj_st1, mj_cl1_len], [], (List.append_nil _).symm⟩)
  all_goals exact simple hp
theorem mj_run_K : ∀ (f d j pc : Nat) (ls : mj_L) (st : List Value) (K : mj_K) (h : mj_H) (v : Option Value) (K' : mj_K) (h' : mj_H), mj_run f d j pc ls st K h = some (v, K', h') → ∃ E, K' = K ++ E := by
  intro f
  induction f with
  | zero => intro d j pc ls st K h v K' h' hr; cases hr
  | succ f ih =>
    intro d j pc ls st K h v K' h' hr
    unfold mj_run at hr
    split at hr
    · cases hr
    · rename_i x hx
      split at hr
      · cases hr
        exact ⟨[], (List.append_nil _).symm⟩
      · split at hr
        · cases hr
        · split at hr
          · split at hr
            · cases hr
            · rename_i v1 K1 h1 h2
              obtain ⟨E1, e1⟩ := ih _ _ _ _ _ _ _ _ _ _ h2
              obtain ⟨E2, e2⟩ := ih _ _ _ _ _ _ _ _ _ _ hr
              exact ⟨E1 ++ E2, by rw [e2, e1, List.append_assoc]⟩
          · cases hr
      · split at hr
        · cases hr
        · rename_i pc2 ls2 st2 K2 h2 hp
          obtain ⟨-, E1, e1⟩ := mj_plain_K hp
          obtain ⟨E2, e2⟩ := ih _ _ _ _ _ _ _ _ _ _ hr
          exact ⟨E1 ++ E2, by rw [e2, e1, List.append_assoc]⟩
def mj_room (d mc ms : Nat) : Room := { frames := d, cells := mc, slots := ms, locals := d * mj_LW }
def mj_Q (z : Nat) (g : Nat → Nat) (D : va_G) (dA : Nat → ClassId) (v : Option Value) (K' : mj_K) (h' : mj_H) : Array Value → State → Outcome → State → Prop := fun _ st o t => o = .returned (v.map (mj_v z g)) ∧ mj_R z g D dA K' h' t.heap ∧ va_F (fun q => z ≤ q) st t
def mj_ws (j : Nat) : List Cond := .code (mj_y j) (mj_b j) (mj_ml j) (mj_ret j) :: mj_T
def mj_Pc (z : Nat) (g : Nat → Nat) (D : va_G) (dA : Nat → ClassId) (As : List Value) (K : mj_K) (h : mj_H) : Array Value → State → Prop := va_Pc (As.map (mj_v z g)) (fun U => mj_R z g D dA K h U.heap ∧ mj_US z g D dA U)
theorem mj_U_moved {D : va_G} {dA : Nat → ClassId} {s U : State} (hW : s.WarmedH U.vm) (h : mj_U D dA s) : mj_U D dA U :=
  ⟨va_K.moved hW.alike h.1, mj_NL_moved hW h.2.1, fun C hC => va_AO.moved hW.alike (h.2.2 C hC)⟩
theorem mj_SV_moved {z : Nat} {g gv : Nat → Nat} {s U : State} (hal : s.vm.Alike U.vm) (hh : ∀ q : Nat, q < s.heap.size → ¬ z ≤ q → U.heap[q]? = s.heap[q]?) (h : mj_SV z g gv s) : mj_SV z g gv U :=
  ⟨vk_S.moved hal (vk_S.kept h.1 hh), va_Z.moved hal (va_Z.kept h.2.1 hh), va_Zq.moved hal (va_Zq.kept h.2.2 hh)⟩
theorem mj_SV_same {z : Nat} {g gv : Nat → Nat} {s U : State} (hv : U.vm = s.vm) (hh : U.heap = s.heap) (h : mj_SV z g gv s) : mj_SV z g gv U :=
  mj_SV_moved (by rw [hv]; exact Vm.Alike.refl _) (fun q _ _ => by rw [hh]) h
theorem mj_US_moved {z : Nat} {g : Nat → Nat} {D : va_G} {dA : Nat → ClassId} {s U : State} (hW : s.WarmedH U.vm) (hz : z ≤ U.heap.size) (hh : ∀ q : Nat, q < s.heap.size → ¬ z ≤ q → U.heap[q]? = s.heap[q]?) (h : mj_US z g D dA s) : mj_US z g D dA U := by
  obtain ⟨h1, ⟨h2, gv, h3⟩, h4⟩ := h
  exact ⟨mj_U_moved hW h1, ⟨fun q hq => vk_R.warm hW (h2 q hq), gv, mj_SV_moved hW.alike hh h3⟩, hz⟩
theorem mj_US_same {z : Nat} {g : Nat → Nat} {D : va_G} {dA : Nat → ClassId} {s U : State} (hv : U.vm = s.vm) (hh : U.heap = s.heap) (h : mj_US z g D dA s) : mj_US z g D dA U := by
  obtain ⟨⟨a1, a2, a3⟩, ⟨h2, gv, h3⟩, h4⟩ := h
  have hal : s.vm.Alike U.vm := by rw [hv]; exact Vm.Alike.refl _
  refine ⟨⟨va_K.moved hal a1, fun w hw => ?_, fun C hC => va_AO.moved hal (a3 C hC)⟩, ⟨fun q hq => vk_R.same hv (h2 q hq), gv, mj_SV_same hv hh h3⟩, by rw [hh]; exact h4⟩
  have hn := (List.mem_filter.mp hw).2
  have h1 := a2 w hw
  cases w <;> simp [mj_nestB] at hn
  · exact va_Nw.same rfl hv.symm h1
  · exact va_Nw.same rfl hv.symm h1
theorem mj_Pc_blind {z : Nat} {g : Nat → Nat} {D : va_G} {dA : Nat → ClassId} {As : List Value} {K : mj_K} {h : mj_H} : FrameBlind (mj_Pc z g D dA As K h) := by
  intro a U gg mk ⟨h1, h2, h3⟩
  exact ⟨h1, h2, mj_US_same (s := U) (U := U.calling gg mk a) rfl rfl h3⟩
section MJC
variable {p : Program} {l : Launch} {e : Env} {R : Room} {s : State} {m : MethodId} {args : Array Value} {below : List Frame} {meth : Method} {c : Code} {H : Heap} {locs : List Loc} {cells slots : Nat} {Q : State → Prop}
variable {pc : Nat} {A : Array Slot} {z : Nat} {g : Nat → Nat} {D : va_G} {dA : Nat → ClassId} {K : mj_K} {h : mj_H}
theorem mj_Pc_at {As : List Value} (hU : mj_US z g D dA s) (hR : mj_R z g D dA K h H) (hS : va_S (fun q => z ≤ q) s.heap H locs) : ∀ U : State, U.heap = H → s.WarmedH U.vm → mj_Pc z g D dA As K h (As.map (mj_v z g)).toArray U := by
  intro U hH hW
  exact ⟨rfl, by rw [hH]; exact hR, mj_US_moved hW (by rw [hH, hR.1]; omega) (fun q h1 h2 => by rw [hH]; exact hS.2.1 q h1 h2) hU⟩
theorem mj_cont {v : Option Value} {K' : mj_K} {h' : mj_H} {mc ms : Nat} {st0 rest : List Value} {a : Array Value} (hr : va_Run p l e R s m args below meth c H locs cells slots mc ms (F0 m pc A st0) rest (mj_Q z g D dA v K' h' a) (fun q => z ≤ q)) (hS : va_S (fun q => z ≤ q) s.heap H locs)
    (kk : ∀ (H1 : Heap) (locs1 : List Loc), mj_R z g D dA K' h' H1 → va_S (fun q => z ≤ q) s.heap H1 locs1 → W p l e R s m args below meth c H1 locs1 (cells + mc) (slots + ms) Q (F0 m (pc + 3) A ((v.map (mj_v z g)).toList ++ rest))) : W p l e R s m args below meth c H locs cells slots Q (F0 m pc A st0) := by
  intro T hT X
  obtain ⟨v0, st₀, t, T', L, h0, X', hL, e1, e2, ⟨hv, hR, hz, hk⟩, st⟩ := hr T hT X
  cases hv
  rw [h0] at hz hk
  obtain ⟨t2, a1, b1⟩ := kk T'.heap (locs ++ L) (by rw [e1]; exact hR)
    ⟨Nat.le_trans hS.1 (by rw [e1]; exact hz), fun q h1 h2 => by rw [e1, hk q (Nat.lt_of_lt_of_le h1 hS.1) h2]; exact hS.2.1 q h1 h2, fun q hq => by
      rcases List.mem_append.mp hq with h | h
      · exact hS.2.2 q h
      · exact hL q h⟩ T' rfl X'
  exact ⟨t2, st t2 a1, b1⟩
theorem mj_ret_ok {j : Nat} {x : mj_X} {v : Option Value} {st : List Value} (C : mj_At z g D dA j p s m args meth c) (hdc : decode (mj_b j) pc = .ok (x.1, x.2.1)) (hso : mj_sok (mj_y j).cls (mj_hst j) (mj_ini j) x = true) (hp : mj_ctl x (mj_ret j) st = some (.inl v)) (hR : mj_R z g D dA K h H) (hS : va_S (fun q => z ≤ q) s.heap H locs) :
    W p l e R s m args below meth c H locs cells slots (MQ below (mj_Q z g D dA v K h) args s cells slots (fun q => z ≤ q)) (F0 m pc A (st.map (mj_v z g))) := by
  obtain ⟨hx, hb, hr, hml, hown, hts, hlocks, hU, hnm⟩ := C
  obtain ⟨I, n, a, b, c0⟩ := x
  dsimp only at hdc
  have post : ∀ t : State, t.heap = H → s.WarmedH t.vm → mj_R z g D dA K h t.heap ∧ va_F (fun q => z ≤ q) s t := fun t ht _ => ⟨by rw [ht]; exact hR, hS.F ht⟩
  cases I
  case ireturn =>
    simp only [mj_sok, decide_eq_true_eq] at hso
    subst hso
    simp only [mj_ctl] at hp
    split at hp
    · split at hp
      · rename_i x0 hrt
        cases hp
        rw [hrt] at hr
        exact W.iret hx hb hr (fun t ht hW => ⟨rfl, post t ht hW⟩) hS.2.2 hdc
      · rename_i x0 hrt
        split at hp
        · rename_i h01
          cases hp
          rw [hrt] at hr
          exact W.zret (ty := .boolean) hx hb hr (by rcases h01 with rfl | rfl <;> rfl) (fun t ht hW => ⟨rfl, post t ht hW⟩) hS.2.2 hdc
        · cases hp
      · cases hp
    · cases hp
  case lreturn =>
    simp only [mj_sok, decide_eq_true_eq] at hso
    subst hso
    simp only [mj_ctl] at hp
    split at hp
    · split at hp
      · rename_i hrt
        cases hp
        rw [hrt] at hr
        exact W.lret hx hb hr (fun t ht hW => ⟨rfl, post t ht hW⟩) hS.2.2 hdc
      · cases hp
    · cases hp
  case areturn =>
    simp only [mj_sok, decide_eq_true_eq] at hso
    subst hso
    simp only [mj_ctl] at hp
    split at hp
    · split at hp
      · rename_i v0 hk
        cases hp
        have hrr : ∃ rt, mj_ret j = some rt ∧ ((∃ n, rt = .object n) ∨ ∃ t, rt = .array t) := by
          have h2 := hk.2
          unfold mj_rr at h2
          split at h2
          · rename_i n hn; exact ⟨_, hn, Or.inl ⟨_, rfl⟩⟩
          · rename_i n hn; exact ⟨_, hn, Or.inr ⟨_, rfl⟩⟩
          · cases h2
        obtain ⟨rt, e1, e2⟩ := hrr
        rw [e1] at hr
        refine W.aret hx hb hr e2 ?_ (fun t ht hW => ⟨rfl, post t ht hW⟩) hS.2.2 hdc
        have h1 := hk.1
        cases v0 <;> first | (cases h1; done) | exact Or.inl rfl | exact Or.inr ⟨_, rfl⟩
      · cases hp
    · cases hp
  case return_ =>
    simp only [mj_sok, decide_eq_true_eq] at hso
    subst hso
    simp only [mj_ctl] at hp
    split at hp
    · split at hp
      · rename_i hrt
        cases hp
        rw [hrt] at hr
        exact W.vret hx hb hr (fun t ht hW => ⟨rfl, post t ht hW⟩) hS.2.2 hdc
      · cases hp
    · cases hp
  all_goals (
    exfalso
    simp only [mj_ctl] at hp
    repeat' split at hp
    all_goals (cases hp))
end MJC
