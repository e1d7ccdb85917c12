-- ===== the heap of the small machine: ints, longs, references, by cell and place; and each cell's kind and length =====
abbrev mj_H : Type := (Nat → Nat → Int32) × (Nat → Nat → Int64) × (Nat → Nat → Option Nat)
abbrev mj_K : Type := List (Nat × Nat)
def mj_up {α : Type} (f : Nat → Nat → α) (a i : Nat) (x : α) : Nat → Nat → α := fun b j => if b = a ∧ j = i then x else f b j
def mj_w (h : mj_H) (a i : Nat) (v : Value) : mj_H := match v with
  | .int x => (mj_up h.1 a i x, h.2.1, h.2.2)
  | .long x => (h.1, mj_up h.2.1 a i x, h.2.2)
  | .ref q => (h.1, h.2.1, mj_up h.2.2 a i (some q))
  | .null => (h.1, h.2.1, mj_up h.2.2 a i none)
  | _ => h
def mj_tg : FieldType → Nat
  | .long => 1
  | .object _ => 2
  | .array _ => 2
  | _ => 0
def mj_kt (k i : Nat) : FieldType := if k < 100 then mj_fty k i else mj_aty (k - 100)
def mj_vt (h : mj_H) (t a i : Nat) : Value := match t with
  | 0 => .int (h.1 a i)
  | 1 => .long (h.2.1 a i)
  | _ => mj_rf (h.2.2 a i)
def mj_val (h : mj_H) (k a i : Nat) : Value := mj_vt h (mj_tg (mj_kt k i)) a i
def mj_zero (h : mj_H) (a : Nat) : mj_H := (fun b j => if b = a then 0 else h.1 b j, fun b j => if b = a then 0 else h.2.1 b j, fun b j => if b = a then none else h.2.2 b j)
def mj_vtag : Value → Nat
  | .int _ => 0
  | .long _ => 1
  | .ref _ => 2
  | .null => 2
  | _ => 9
theorem mj_vt_w {h : mj_H} {a i : Nat} {v : Value} {t : Nat} (ht : mj_vtag v = t) (h9 : t < 3) : mj_vt (mj_w h a i v) t a i = v := by
  subst ht
  cases v <;> simp_all [mj_vtag, mj_vt, mj_w, mj_up, mj_rf]
theorem mj_vt_ne {h : mj_H} {a i b j : Nat} {v : Value} {t : Nat} (hne : ¬ (b = a ∧ j = i)) : mj_vt (mj_w h a i v) t b j = mj_vt h t b j := by
  unfold mj_vt
  split <;> cases v <;> simp [mj_w, mj_up, hne]
theorem mj_vt_zero {h : mj_H} {a b j t : Nat} (hne : b ≠ a) : mj_vt (mj_zero h a) t b j = mj_vt h t b j := by
  unfold mj_vt
  split <;> simp [mj_zero, hne]
theorem mj_vt_new {h : mj_H} {a j : Nat} {ty : FieldType} (hf : ty ≠ .float ∧ ty ≠ .double) (z : Nat) (g : Nat → Nat) : mj_v z g (mj_vt (mj_zero h a) (mj_tg ty) a j) = defaultValue ty := by
  cases ty <;> first | exact absurd rfl hf.1 | exact absurd rfl hf.2 | simp [mj_tg, mj_vt, mj_zero, mj_rf, mj_v, defaultValue]
section MJH
variable {z : Nat} {g : Nat → Nat} {D : va_G} {dA : Nat → ClassId}
def mj_cellAt (z : Nat) (g : Nat → Nat) (D : va_G) (dA : Nat → ClassId) (h : mj_H) (a k n : Nat) (H : Heap) : Prop :=
  (k < 100 ∧ ∃ r : vw_C, mj_cl[k]? = some r ∧ r.2.2 = n ∧ t_OB (z + a) (D.1 k) n (D.2 k) H (fun i => mj_v z g (mj_val h k a i))) ∨
  (100 ≤ k ∧ k - 100 < mj_nA ∧ H[z + a]? = some (arrV (dA (k - 100)) n (fun i => mj_v z g (mj_val h k a i))))
def mj_R (z : Nat) (g : Nat → Nat) (D : va_G) (dA : Nat → ClassId) (K : mj_K) (h : mj_H) (H : Heap) : Prop :=
  H.size = z + K.length ∧ ∀ a k n, K[a]? = some (k, n) → mj_cellAt z g D dA h a k n H
theorem mj_cellAt_keep {h h' : mj_H} {a k n : Nat} {H H' : Heap} (hc : mj_cellAt z g D dA h a k n H) (hq : H'[z + a]? = H[z + a]?) (hv : ∀ t j, mj_vt h' t a j = mj_vt h t a j) : mj_cellAt z g D dA h' a k n H' := by
  have e : (fun i => mj_v z g (mj_val h' k a i)) = (fun i => mj_v z g (mj_val h k a i)) := funext fun i => by unfold mj_val; rw [hv]
  rcases hc with ⟨h1, r, h2, h3, h4⟩ | ⟨h1, h2, h3⟩
  · refine Or.inl ⟨h1, r, h2, h3, ?_⟩
    rw [e]
    exact h4.kept hq
  · refine Or.inr ⟨h1, h2, ?_⟩
    rw [e, hq]
    exact h3
theorem mj_R_set {K : mj_K} {h h' : mj_H} {H H' : Heap} {a k n : Nat} (hR : mj_R z g D dA K h H) (ha : K[a]? = some (k, n)) (hz : H'.size = H.size) (ho : ∀ q : Nat, q ≠ z + a → H'[q]? = H[q]?) (hc : mj_cellAt z g D dA h' a k n H') (hv : ∀ b, b ≠ a → ∀ t j, mj_vt h' t b j = mj_vt h t b j) : mj_R z g D dA K h' H' := by
  refine ⟨by rw [hz]; exact hR.1, fun b kb nb hb => ?_⟩
  by_cases e : b = a
  · subst e
    rw [ha] at hb
    cases hb
    exact hc
  · exact mj_cellAt_keep (hR.2 b kb nb hb) (ho (z + b) (by omega)) (hv b e)
theorem mj_R_push {K : mj_K} {h : mj_H} {H H' : Heap} {k n : Nat} (hR : mj_R z g D dA K h H) (hz : H'.size = H.size + 1) (ho : ∀ q : Nat, q < H.size → H'[q]? = H[q]?) (hc : mj_cellAt z g D dA (mj_zero h K.length) K.length k n H') : mj_R z g D dA (K ++ [(k, n)]) (mj_zero h K.length) H' := by
  refine ⟨by rw [hz, hR.1]; simp; omega, fun b kb nb hb => ?_⟩
  by_cases e : b < K.length
  · rw [List.getElem?_append_left e] at hb
    exact mj_cellAt_keep (hR.2 b kb nb hb) (ho (z + b) (by rw [hR.1]; omega)) (fun t j => mj_vt_zero (by omega))
  · rw [List.getElem?_append_right (by omega)] at hb
    have hl : b - K.length < 1 := (List.getElem?_eq_some_iff.mp hb).1
    have e2 : b = K.length := by omega
    subst e2
    rw [Nat.sub_self] at hb
    cases hb
    exact hc
/-- what the small machine knows of the tables -/
def mj_U (D : va_G) (dA : Nat → ClassId) (s : State) : Prop := va_K D mj_cl ((List.range mj_nA).map fun t => (dA t, mj_aty t)) s ∧ (∀ w ∈ mj_NL, va_Nw w s) ∧ ∀ C ∈ mj_AOs, va_AO C s
theorem mj_U.arr {s : State} (hU : mj_U D dA s) {t : Nat} (ht : t < mj_nA) : ArrOfT s (dA t) (mj_aty t) ∧ va_RA s (dA t) (mj_aty t) := by
  refine hU.1.2 t (dA t, mj_aty t) ?_
  rw [List.getElem?_map, List.getElem?_range ht]
  rfl
end MJH
section MJG
variable {p : Program} {l : Launch} {e : Env} {R : Room} {s : State} {m : MethodId} {args : Array Value} {below : List Frame} {meth : Method} {c : Code} {H : Heap} {locs : List Loc} {cells slots : Nat} {Q : State → Prop}
variable {cc : ByteArray} {pc : Nat} {A : Array Slot} {z : Nat} {g : Nat → Nat} {D : va_G} {dA : Nat → ClassId} {K : mj_K} {h : mj_H} {st : List Value} {own : String}
theorem mj_get_ok (hx : p.tables.exec = Jvm.exec) (hb : c.code = cc) (hts : ∀ w ∈ mj_T, w.before args s = true) (hown : s.vm.findClass own = some m.cls) (hU : mj_U D dA s) (hR : mj_R z g D dA K h H) {a k n i index : Nat} {r : vw_C} (ha : K[a]? = some (k, n)) (hk : k < 100) (hi : i < n) (hr : mj_cl[k]? = some r)
    (hl : Cond.fieldLink own index (r.2.1 i).1 (r.2.1 i).2.1 (r.2.1 i).2.2.1 ∈ mj_T ∨ ∃ host, Cond.fieldLinkNest own index (r.2.1 i).1 (r.2.1 i).2.1 (r.2.1 i).2.2.1 host ∈ mj_NL) (hd : decode cc pc = .ok (.getfield index, 3))
    (kk : W p l e R s m args below meth c H locs cells slots Q (F0 m (pc + 3) A ((mj_val h k a i :: st).map (mj_v z g)))) : W p l e R s m args below meth c H locs cells slots Q (F0 m pc A ((Value.ref a :: st).map (mj_v z g))) := by
  rcases hR.2 a k n ha with ⟨-, r', h2, h3, cell, q1, q2, q3, q4⟩ | ⟨h1, -⟩
  · cases hr.symm.trans h2
    subst h3
    obtain ⟨hS, hfc, kC, hkC, hkind⟩ := hU.1.1 k _ hr
    obtain ⟨cf, kf, fi, f, hf, hsl⟩ := hS i hi
    have hst := (u_facts hfc hkC (u_lays hts (mj_cl_in k r hr) hi) hf).1
    have hv : cell.slots[f.slot]? = some (mj_v z g (mj_val h k a i)) := by rw [hsl]; exact q4 i hi
    rcases hl with hl | ⟨host, hl⟩
    · exact W.getf hx hb hown (hts _ hl) hf hst q1 (by rw [q3]; exact fun w => by cases w) hv rfl rfl hd kk
    · exact va_Wgetf hx hb hown (va_Nw.use rfl (hU.2.1 _ hl)) hf hst q1 (by rw [q3]; exact fun w => by cases w) hv rfl rfl hd kk
  · omega
/-- which values a field, or a place of an array, of a type may take as they are -/
def mj_fit (ty : FieldType) (v : Value) : Bool := match ty, v with
  | .int, .int _ => true
  | .long, .long _ => true
  | .object _, .ref _ => true
  | .object _, .null => true
  | .array _, .ref _ => true
  | .array _, .null => true
  | .boolean, .int x => x == 0 || x == 1
  | _, _ => false
theorem mj_fit_ok {ty : FieldType} {v : Value} (h : mj_fit ty v = true) (z : Nat) (g : Nat → Nat) : mj_vtag v = mj_tg ty ∧ mj_tg ty < 3 ∧ narrow ty (mj_v z g v) = mj_v z g v ∧ fits ty (mj_v z g v) = true := by
  cases ty <;> cases v <;> first
    | (simp [mj_fit] at h; done)
    | exact ⟨rfl, Nat.le_of_ble_eq_true rfl, rfl, rfl⟩
    | (rename_i x
       simp only [mj_fit, Bool.or_eq_true, beq_iff_eq] at h
       rcases h with rfl | rfl
       · exact ⟨rfl, Nat.le_of_ble_eq_true rfl, rfl, rfl⟩
       · exact ⟨rfl, Nat.le_of_ble_eq_true rfl, rfl, rfl⟩)
theorem mj_put_ok (hx : p.tables.exec = Jvm.exec) (hb : c.code = cc) (hts : ∀ w ∈ mj_T, w.before args s = true) (hown : s.vm.findClass own = some m.cls) (hU : mj_U D dA s) (hR : mj_R z g D dA K h H) (hS : va_S (fun q => z ≤ q) s.heap H locs) {a k n i index : Nat} {r : vw_C} {v : Value} (ha : K[a]? = some (k, n)) (hk : k < 100) (hi : i < n) (hr : mj_cl[k]? = some r)
    (hl : (Cond.fieldLink own index (r.2.1 i).1 (r.2.1 i).2.1 (r.2.1 i).2.2.1 ∈ mj_T ∧ ((r.2.1 i).2.2.2 = false ∨ ((r.2.1 i).2.2.2 = true ∧ meth.name = "<init>" ∧ (r.2.1 i).1 = own))) ∨ ((r.2.1 i).2.2.2 = false ∧ ∃ host, Cond.fieldLinkNest own index (r.2.1 i).1 (r.2.1 i).2.1 (r.2.1 i).2.2.1 host ∈ mj_NL)) (hf : mj_fit (mj_fty k i) v = true) (hd : decode cc pc = .ok (.putfield index, 3))
    (kk : ∀ (H' : Heap) (locs' : List Loc), mj_R z g D dA K (mj_w h a i v) H' → va_S (fun q => z ≤ q) s.heap H' locs' → W p l e R s m args below meth c H' locs' cells slots Q (F0 m (pc + 3) A (st.map (mj_v z g)))) : W p l e R s m args below meth c H locs cells slots Q (F0 m pc A ((v :: Value.ref a :: st).map (mj_v z g))) := by
  obtain ⟨t1, t2, t3, t4⟩ := mj_fit_ok hf z g
  have hcell := hR.2 a k n ha
  rcases hcell with ⟨-, r', h2, h3, cell, q1, q2, q3, q4⟩ | ⟨h1, -⟩
  · cases hr.symm.trans h2
    subst h3
    obtain ⟨hSl, hfc, kC, hkC, hkind⟩ := hU.1.1 k _ hr
    obtain ⟨cf, kf, fi, f, hfd, hsl⟩ := hSl i hi
    have hin := mj_cl_in k r hr
    have hst := (u_facts hfc hkC (u_lays hts hin hi) hfd).1
    have hap : ∀ x y, x < r.2.2 → y < r.2.2 → x ≠ y → (D.2 k) x ≠ (D.2 k) y := va_apart (own := own) (C := r.1) (T := r.2.1) (N := r.2.2) hts hin (mj_fty k) (mj_cl_ty k r hr) (mj_cl_nm k r hr) hU.1 hr
    have hlt : f.slot < cell.slots.size := by rw [hsl]; exact k2_hasslot (q4 i hi)
    have hlay := hts _ (hin _ (u_in_lay hi))
    have done : ∀ H' : Heap, H'[z + a]? = some (cell.setSlot f.slot (mj_v z g v)) → H'.size = H.size → (∀ q, q ≠ z + a → H'[q]? = H[q]?) → W p l e R s m args below meth c H' (locs ++ [⟨z + a, f.slot⟩]) cells slots Q (F0 m (pc + 3) A (st.map (mj_v z g))) := by
      intro H' e1 e2 e3
      refine kk H' _ (mj_R_set hR ha e2 e3 (Or.inl ⟨hk, r, hr, rfl, ?_⟩) (fun b hb t j => mj_vt_ne (fun w => hb w.1))) (hS.put e2 e3 (Nat.le_add_right z a))
      rw [hsl] at e1
      refine t_OB.to (V := updV (fun i => mj_v z g (mj_val h k a i)) i (mj_v z g v)) ⟨_, e1, q2, q3, t_set q4 hap hi _⟩ (fun j _ => ?_)
      unfold updV
      by_cases e : j = i
      · subst e
        rw [if_pos rfl]
        unfold mj_val
        rw [mj_vt_w (by rw [t1]; simp [mj_kt, hk]) (by simp [mj_kt, hk]; exact t2)]
      · rw [if_neg e]
        unfold mj_val
        rw [mj_vt_ne (fun w => e w.2)]
    have hpd := mj_cl_ty k r hr i hi
    rcases hl with ⟨hl, hl2⟩ | ⟨hl2, host, hl⟩
    · rcases hl2 with hl2 | ⟨hl2, hl3, hl4⟩
      · unfold u_lay at hlay
        rw [if_neg (by rw [hl2]; decide)] at hlay
        have h6 := u_store hfc hkC hkind hlay hfd hpd t3 t4
        exact W.putK hx hb (f := f) ⟨hown, hts _ hl, ⟨_, _, _, hfd⟩, hst⟩ (by rw [q2]; exact h6) q1 q3 hlt rfl rfl hd done
      · unfold u_lay at hlay
        rw [if_pos hl2] at hlay
        have hcf : m.cls = cf := by
          obtain ⟨_, _, c', _, _, _, -, -, hf', -, -, -, hown2, -⟩ := Cond.laysFinal_spec hlay
          have e1 : c' = cf := by have := hfd.symm.trans hf'; simp at this; exact this.1.symm
          rw [hl4] at hown2
          rw [← e1]; exact Option.some.inj (hown.symm.trans hown2)
        have h6 := u_fits hfc hkC hkind (Or.inr hlay) hfd hpd t3 t4
        exact W.putFinK hx hb hown (hts _ hl) hfd hst hcf hl3 (by rw [q2]; exact h6) q1 q3 hlt rfl rfl hd done
    · unfold u_lay at hlay
      rw [if_neg (by rw [hl2]; decide)] at hlay
      have h6 := u_store hfc hkC hkind hlay hfd hpd t3 t4
      exact va_WputK hx hb (f := f) hown (va_Nw.use rfl (hU.2.1 _ hl)) hfd hst (by rw [q2]; exact h6) q1 q3 hlt rfl rfl hd done
  · omega
def mj_in (j : Int32) (n : Nat) : Bool := decide (¬ (j < 0 ∨ n ≤ j.toNatClampNeg))
/-- array reads: the type of its places -/
def mj_aldT (I : Instr) (ty : FieldType) : Bool := match I, ty with
  | .iaload, .int => true
  | .laload, .long => true
  | .caload, .char => true
  | .baload, .boolean => true
  | .baload, .byte => true
  | .aaload, .object _ => true
  | .aaload, .array _ => true
  | _, _ => false
theorem mj_ald_ok (hx : p.tables.exec = Jvm.exec) (hb : c.code = cc) (hU : mj_U D dA s) (hR : mj_R z g D dA K h H) {I : Instr} {a k n : Nat} {j : Int32} (ha : K[a]? = some (k, n)) (hk : 100 ≤ k) (hI : mj_aldT I (mj_aty (k - 100)) = true) (hj : mj_in j n = true) (hd : decode cc pc = .ok (I, 1))
    (kk : W p l e R s m args below meth c H locs cells slots Q (F0 m (pc + 1) A ((mj_val h k a j.toNatClampNeg :: st).map (mj_v z g)))) : W p l e R s m args below meth c H locs cells slots Q (F0 m pc A ((Value.int j :: Value.ref a :: st).map (mj_v z g))) := by
  rcases hR.2 a k n ha with ⟨h1, -⟩ | ⟨-, h2, h3⟩
  · omega
  · have hin : ¬ (j < 0 ∨ n ≤ j.toNatClampNeg) := by simpa [mj_in] using hj
    have hlt : j.toNatClampNeg < n := Nat.not_le.mp fun q => hin (Or.inr q)
    have harr := (hU.arr h2).1 n (fun i => mj_v z g (mj_val h k a i))
    have hin2 : ¬ (j < 0 ∨ (arrV (dA (k - 100)) n (fun i => mj_v z g (mj_val h k a i))).slots.size ≤ j.toNatClampNeg) := by rw [arrV_size]; exact hin
    have hv := arrV_read (dA (k - 100)) (fun i => mj_v z g (mj_val h k a i)) hlt
    have hkn : (arrV (dA (k - 100)) n (fun i => mj_v z g (mj_val h k a i))).vm ≠ .unknown := fun q => by cases q
    generalize hty : mj_aty (k - 100) = ty at hI harr
    cases I <;> cases ty <;> first
      | (simp [mj_aldT] at hI; done)
      | exact W.iald hx hb h3 harr hkn hin2 hv rfl rfl hd kk
      | exact W.lald hx hb h3 harr hkn hin2 hv rfl rfl hd kk
      | exact W.cald hx hb h3 harr hkn hin2 hv rfl rfl hd kk
      | exact W.zald hx hb h3 harr hkn hin2 hv rfl rfl hd kk
      | exact W.bald hx hb h3 harr hkn hin2 hv rfl rfl hd kk
      | exact W.aald hx hb h3 harr rfl hkn hin2 hv rfl rfl hd kk
theorem mj_alen_ok (hx : p.tables.exec = Jvm.exec) (hb : c.code = cc) (hU : mj_U D dA s) (hR : mj_R z g D dA K h H) {a k n : Nat} (ha : K[a]? = some (k, n)) (hk : 100 ≤ k) (hd : decode cc pc = .ok (.arraylength, 1))
    (kk : W p l e R s m args below meth c H locs cells slots Q (F0 m (pc + 1) A ((Value.int (Int32.ofNat n) :: st).map (mj_v z g)))) : W p l e R s m args below meth c H locs cells slots Q (F0 m pc A ((Value.ref a :: st).map (mj_v z g))) := by
  rcases hR.2 a k n ha with ⟨h1, -⟩ | ⟨-, h2, h3⟩
  · omega
  · exact W.alen (n := Int32.ofNat n) hx hb h3 ((hU.arr h2).1 n _) (by rw [arrV_size] <;> rfl) rfl rfl hd kk
/-- array stores: the value as it lies there -/
def mj_asv (I : Instr) (ty : FieldType) (v : Value) : Option Value := match I, ty, v with
  | .iastore, .int, .int x => some (.int x)
  | .lastore, .long, .long x => some (.long x)
  | .castore, .char, .int x => some (.int (vp_nar .char x))
  | .bastore, .boolean, .int x => some (.int (vp_nar .boolean x))
  | .bastore, .byte, .int x => some (.int (vp_nar .byte x))
  | .aastore, .object _, .null => some .null
  | _, _, _ => none
theorem mj_ast_done {a k n : Nat} {j : Int32} {v w : Value} (hR : mj_R z g D dA K h H) (hS : va_S (fun q => z ≤ q) s.heap H locs) (ha : K[a]? = some (k, n)) (hk : 100 ≤ k) (hw : mj_vtag w = mj_tg (mj_aty (k - 100))) (h9 : mj_vtag w < 3) {q0 : Nat}
    (kk : ∀ (H' : Heap) (locs' : List Loc), mj_R z g D dA K (mj_w h a j.toNatClampNeg w) H' → va_S (fun q => z ≤ q) s.heap H' locs' → W p l e R s m args below meth c H' locs' cells slots Q (F0 m (pc + 1) A (st.map (mj_v z g)))) :
    ∀ H' : Heap, H'[z + a]? = some ((arrV (dA (k - 100)) n (fun i => mj_v z g (mj_val h k a i))).setSlot j.toNatClampNeg (mj_v z g w)) → H'.size = H.size → (∀ q, q ≠ z + a → H'[q]? = H[q]?) → W p l e R s m args below meth c H' (locs ++ [⟨z + a, q0⟩]) cells slots Q (F0 m (pc + 1) A (st.map (mj_v z g))) := by
  intro H' e1 e2 e3
  have h2 : k - 100 < mj_nA := by
    rcases hR.2 a k n ha with ⟨h1, -⟩ | ⟨-, h2, -⟩
    · omega
    · exact h2
  refine kk H' _ (mj_R_set hR ha e2 e3 (Or.inr ⟨hk, h2, ?_⟩) (fun b hb t j => mj_vt_ne (fun w => hb w.1))) (hS.put e2 e3 (Nat.le_add_right z a))
  rw [e1, arrV_store]
  congr 2
  funext q
  unfold updV
  by_cases e : q = j.toNatClampNeg
  · subst e
    rw [if_pos rfl]
    unfold mj_val
    rw [mj_vt_w (by rw [hw]; simp [mj_kt, Nat.not_lt.mpr hk]) (by simp only [mj_kt, if_neg (Nat.not_lt.mpr hk)]; rw [← hw]; exact h9)]
  · rw [if_neg e]
    unfold mj_val
    rw [mj_vt_ne (fun w => e w.2)]
theorem mj_ast_ok (hx : p.tables.exec = Jvm.exec) (hb : c.code = cc) (hU : mj_U D dA s) (hR : mj_R z g D dA K h H) (hS : va_S (fun q => z ≤ q) s.heap H locs) {I : Instr} {a k n : Nat} {j : Int32} {v w : Value} (ha : K[a]? = some (k, n)) (hk : 100 ≤ k) (hI : mj_asv I (mj_aty (k - 100)) v = some w) (hj : mj_in j n = true) (hd : decode cc pc = .ok (I, 1))
    (kk : ∀ (H' : Heap) (locs' : List Loc), mj_R z g D dA K (mj_w h a j.toNatClampNeg w) H' → va_S (fun q => z ≤ q) s.heap H' locs' → W p l e R s m args below meth c H' locs' cells slots Q (F0 m (pc + 1) A (st.map (mj_v z g)))) : W p l e R s m args below meth c H locs cells slots Q (F0 m pc A ((v :: Value.int j :: Value.ref a :: st).map (mj_v z g))) := by
  rcases hR.2 a k n ha with ⟨h1, -⟩ | ⟨-, h2, h3⟩
  · omega
  · have hin : ¬ (j < 0 ∨ n ≤ j.toNatClampNeg) := by simpa [mj_in] using hj
    have harr := (hU.arr h2).1 n (fun i => mj_v z g (mj_val h k a i))
    have hin2 : ¬ (j < 0 ∨ (arrV (dA (k - 100)) n (fun i => mj_v z g (mj_val h k a i))).slots.size ≤ j.toNatClampNeg) := by rw [arrV_size]; exact hin
    have hkn : (arrV (dA (k - 100)) n (fun i => mj_v z g (mj_val h k a i))).vm ≠ .unknown := fun q => by cases q
    have hdn := fun (hw : mj_vtag w = mj_tg (mj_aty (k - 100))) (h9 : mj_vtag w < 3) => mj_ast_done (q0 := j.toNatClampNeg) (v := v) hR hS ha hk hw h9 kk
    generalize hty : mj_aty (k - 100) = ty at hI harr hdn
    cases I <;> cases ty <;> cases v <;> first
      | (simp [mj_asv] at hI; done)
      | (cases hI; exact W.iast hx hb h3 harr hkn hin2 rfl rfl hd (hdn rfl (Nat.le_of_ble_eq_true rfl)))
      | (cases hI; exact W.last hx hb h3 harr hkn hin2 rfl rfl hd (hdn rfl (Nat.le_of_ble_eq_true rfl)))
      | (cases hI; exact W.cast hx hb h3 harr hkn hin2 rfl rfl hd (hdn rfl (Nat.le_of_ble_eq_true rfl)))
      | (cases hI; exact W.zast hx hb h3 harr hkn hin2 rfl rfl hd (hdn rfl (Nat.le_of_ble_eq_true rfl)))
      | (cases hI; exact W.bast hx hb h3 harr hkn hin2 rfl rfl hd (hdn rfl (Nat.le_of_ble_eq_true rfl)))
      | (cases hI; exact va_WaastN hx hb h3 harr hkn hin2 rfl rfl hd (hdn rfl (Nat.le_of_ble_eq_true rfl)))
/-- an object into an array of its own class -/
theorem mj_aast_ok (hx : p.tables.exec = Jvm.exec) (hb : c.code = cc) (hU : mj_U D dA s) (hR : mj_R z g D dA K h H) (hS : va_S (fun q => z ≤ q) s.heap H locs) {a k n b kb nb : Nat} {j : Int32} {r : vw_C} (ha : K[a]? = some (k, n)) (hk : 100 ≤ k) (hkb : K[b]? = some (kb, nb)) (hb1 : kb < 100) (hr : mj_cl[kb]? = some r) (hty : mj_aty (k - 100) = .object r.1) (hj : mj_in j n = true) (hd : decode cc pc = .ok (.aastore, 1))
    (kk : ∀ (H' : Heap) (locs' : List Loc), mj_R z g D dA K (mj_w h a j.toNatClampNeg (.ref b)) H' → va_S (fun q => z ≤ q) s.heap H' locs' → W p l e R s m args below meth c H' locs' cells slots Q (F0 m (pc + 1) A (st.map (mj_v z g)))) : W p l e R s m args below meth c H locs cells slots Q (F0 m pc A ((Value.ref b :: Value.int j :: Value.ref a :: st).map (mj_v z g))) := by
  rcases hR.2 a k n ha with ⟨h1, -⟩ | ⟨-, h2, h3⟩
  · omega
  · rcases hR.2 b kb nb hkb with ⟨-, r', g2, g3, cellV, q1, q2, q3, q4⟩ | ⟨h1, -⟩
    · cases hr.symm.trans g2
      have hin : ¬ (j < 0 ∨ n ≤ j.toNatClampNeg) := by simpa [mj_in] using hj
      have hlt : j.toNatClampNeg < n := Nat.not_le.mp fun q => hin (Or.inr q)
      have h0 : ¬ j < 0 := fun q => hin (Or.inl q)
      have hcls := (hU.1.1 kb r hr).2
      have hra := (hU.arr h2).2
      have hdn := mj_ast_done (q0 := j.toNatClampNeg) (v := Value.ref b) (w := Value.ref b) hR hS ha hk (by rw [hty]; rfl) (Nat.le_of_ble_eq_true rfl) kk
      rw [hty] at hra
      obtain ⟨kA, comp, k1, k2, k3, -⟩ := hra
      have hcomp : comp = D.1 kb := Option.some.inj (k3.symm.trans hcls.1)
      subst hcomp
      obtain ⟨kC, hkC, -⟩ := id hcls.2
      exact W.aast hx hb h3 (fun q w => by cases w) (fun w => by cases w) k1 k2 rfl hkC ⟨h0, by rw [arrV_size]; exact hlt⟩ q1 (fun q w => by rw [q3] at w; cases w) (by rw [q2]; exact hkC) (by rw [q2]; exact va_assign hcls) rfl rfl hd hdn
    · omega
theorem mj_new_ok (hx : p.tables.exec = Jvm.exec) (hb : c.code = cc) (hts : ∀ w ∈ mj_T, w.before args s = true) (hown : s.vm.findClass own = some m.cls) (hU : mj_U D dA s) (hR : mj_R z g D dA K h H) (hS : va_S (fun q => z ≤ q) s.heap H locs) {k index : Nat} {r : vw_C} (hr : mj_cl[k]? = some r) (hk : k < 100)
    (hl : Cond.classLink own index r.1 ∈ mj_T) (hi : Cond.instantiable r.1 r.2.2 ∈ mj_T) (hn : Cond.initialized r.1 ∈ mj_T) (hc : cells + 1 ≤ R.cells) (hs : slots + r.2.2 ≤ R.slots) (hd : decode cc pc = .ok (.new index, 3))
    (kk : ∀ H' : Heap, mj_R z g D dA (K ++ [(k, r.2.2)]) (mj_zero h K.length) H' → va_S (fun q => z ≤ q) s.heap H' locs → W p l e R s m args below meth c H' locs (cells + 1) (slots + r.2.2) Q (F0 m (pc + 3) A ((Value.ref K.length :: st).map (mj_v z g)))) : W p l e R s m args below meth c H locs cells slots Q (F0 m pc A (st.map (mj_v z g))) := by
  have hKn := hU.1.1 k _ hr
  refine W.newcK hx hb hown (hts _ hl) (hts _ hi) (hts _ hn) rfl hd hc hs hKn.2.1 rfl fun H1 kC hkC e1 z1 o1 => ?_
  have hsz := hR.1
  rw [hsz] at e1
  have key := kk H1 (mj_R_push hR z1 o1 (Or.inl ⟨hk, r, hr, rfl, (u_born (mj_fty k) hts (mj_cl_in k r hr) hKn hkC e1 (mj_cl_ty k r hr)).to (fun j hj => ?_)⟩)) ⟨Nat.le_trans hS.1 (by omega), fun x h1 h2 => (o1 x (Nat.lt_of_lt_of_le h1 hS.1)).trans (hS.2.1 x h1 h2), hS.2.2⟩
  · rw [hsz]
    exact key
  · unfold mj_val
    simp only [mj_kt, if_pos hk]
    exact (mj_vt_new (mj_cl_nf k r hr j hj) z g).symm
theorem mj_newa_ok (hx : p.tables.exec = Jvm.exec) (hb : c.code = cc) (hts : ∀ w ∈ mj_T, w.before args s = true) (hU : mj_U D dA s) (hR : mj_R z g D dA K h H) (hS : va_S (fun q => z ≤ q) s.heap H locs) {atype : ArrayType} {t : Nat} {n : Int32} (ht : t < mj_nA) (hty : newarray.typeOf atype = mj_aty t) (hf : mj_aty t ≠ .float ∧ mj_aty t ≠ .double)
    (hw : Cond.arrayClass (mj_aty t) ∈ mj_T) (hn : ¬ n < 0) (hN : n.toNatClampNeg ≤ 65536) (hc : cells + 1 ≤ R.cells) (hs : slots + n.toNatClampNeg ≤ R.slots) (hd : decode cc pc = .ok (.newarray atype, 2))
    (kk : ∀ H' : Heap, mj_R z g D dA (K ++ [(100 + t, n.toNatClampNeg)]) (mj_zero h K.length) H' → va_S (fun q => z ≤ q) s.heap H' locs → W p l e R s m args below meth c H' locs (cells + 1) (slots + n.toNatClampNeg) Q (F0 m (pc + 2) A ((Value.ref K.length :: st).map (mj_v z g)))) : W p l e R s m args below meth c H locs cells slots Q (F0 m pc A ((Value.int n :: st).map (mj_v z g))) := by
  have hbytes : n.toNatClampNeg * componentBytes (newarray.typeOf atype) ≤ 536870912 := by
    have : componentBytes (newarray.typeOf atype) ≤ 8 := by cases atype <;> decide
    calc n.toNatClampNeg * componentBytes (newarray.typeOf atype) ≤ 65536 * 8 := Nat.mul_le_mul hN this
      _ ≤ 536870912 := by decide
  refine va_newaK hx hb (by rw [hty]; exact hts _ hw) rfl hd rfl hn rfl hbytes hc hs rfl fun H1 cA e1 z1 o1 hAr hNm => ?_
  have hsz := hR.1
  have hra := (hU.arr ht).2
  have hcA : cA = dA t := by
    rw [← hty] at hra
    have h2 : s.vm.findClass ("[" ++ (newarray.typeOf atype).toString) = some (dA t) := by cases atype <;> exact hra
    exact Option.some.inj (hNm.symm.trans h2)
  subst hcA
  rw [hsz] at e1
  have key := kk H1 (mj_R_push hR z1 o1 (Or.inr ⟨by omega, by rw [Nat.add_sub_cancel_left]; exact ht, ?_⟩)) ⟨Nat.le_trans hS.1 (by omega), fun x h1 h2 => (o1 x (Nat.lt_of_lt_of_le h1 hS.1)).trans (hS.2.1 x h1 h2), hS.2.2⟩
  · rw [hsz]
    exact key
  · rw [e1, Nat.add_sub_cancel_left]
    congr 2
    funext j
    unfold mj_val
    simp only [mj_kt, if_neg (show ¬ 100 + t < 100 by omega), Nat.add_sub_cancel_left]
    rw [mj_vt_new hf z g, hty]
theorem mj_anew_ok (hx : p.tables.exec = Jvm.exec) (hb : c.code = cc) (hts : ∀ w ∈ mj_T, w.before args s = true) (hown : s.vm.findClass own = some m.cls) (hU : mj_U D dA s) (hR : mj_R z g D dA K h H) (hS : va_S (fun q => z ≤ q) s.heap H locs) {C : String} {t index : Nat} {n : Int32} (ht : t < mj_nA) (hty : mj_aty t = .object C)
    (hl : Cond.classLink own index C ∈ mj_T) (hw : (Cond.arrayOver (.object C)).before args s = true) (hn : ¬ n < 0) (hN : n.toNatClampNeg ≤ 65536) (hc : cells + 1 ≤ R.cells) (hs : slots + n.toNatClampNeg ≤ R.slots) (hd : decode cc pc = .ok (.anewarray index, 3))
    (kk : ∀ H' : Heap, mj_R z g D dA (K ++ [(100 + t, n.toNatClampNeg)]) (mj_zero h K.length) H' → va_S (fun q => z ≤ q) s.heap H' locs → W p l e R s m args below meth c H' locs (cells + 1) (slots + n.toNatClampNeg) Q (F0 m (pc + 3) A ((Value.ref K.length :: st).map (mj_v z g)))) : W p l e R s m args below meth c H locs cells slots Q (F0 m pc A ((Value.int n :: st).map (mj_v z g))) := by
  refine W.anew hx hb hown (hts _ hl) hw rfl hd rfl hn (by omega) hc hs fun cA kA comp f1 f2 f3 f4 => ?_
  have hsz := hR.1
  have hra := (hU.arr ht).2
  rw [hty] at hra
  obtain ⟨kA', comp', -, -, -, k4⟩ := hra
  have hcA : cA = dA t := Option.some.inj (f1.symm.trans k4)
  subst hcA
  generalize hH1 : H.push ({ cls := dA t, slots := Array.replicate n.toNatClampNeg .null, vm := .none } : Cell) = H1
  have z1 : H1.size = H.size + 1 := by rw [← hH1, Array.size_push]
  have e1 : H1[H.size]? = some (arrV (dA t) n.toNatClampNeg (fun _ => .null)) := by rw [← hH1, Array.getElem?_push_size, ← arrV_new]
  have o1 : ∀ q : Nat, q < H.size → H1[q]? = H[q]? := fun q hq => by rw [← hH1, Array.getElem?_push, if_neg (Nat.ne_of_lt hq)]
  rw [hsz] at e1
  have key := kk H1 (mj_R_push hR z1 o1 (Or.inr ⟨by omega, by rw [Nat.add_sub_cancel_left]; exact ht, ?_⟩)) ⟨Nat.le_trans hS.1 (by omega), fun x h1 h2 => (o1 x (Nat.lt_of_lt_of_le h1 hS.1)).trans (hS.2.1 x h1 h2), hS.2.2⟩
  · rw [hsz]
    exact key
  · rw [e1, Nat.add_sub_cancel_left]
    congr 2
    funext j
    unfold mj_val
    simp only [mj_kt, if_neg (show ¬ 100 + t < 100 by omega), Nat.add_sub_cancel_left]
    rw [mj_vt_new (by rw [hty]; exact ⟨(fun q => by cases q), (fun q => by cases q)⟩) z g, hty]
    rfl
end MJG
