/-! ===== the judgement o_Ev, and a rule for each instruction ===== -/
/-- a method: its name, bytes, locals, answer -/
abbrev o_M : Type := MethodName × ByteArray × Nat × Option FieldType
def o_lh (ls : Array Slot) (n : Nat) (L : List (Option Value)) : Prop := ls.size = n ∧ lv_wf ls ∧ ∀ (i : Nat) (v : Value), L[i]? = some (some v) → ls[i]? = some (.val v)
/-- what a frame of method M stands on -/
def o_Fr (X : o_Cx) (d : Nat) (M : o_M) (p : Program) (R : Room) (s : State) (m : MethodId) (args : Array Value) (meth : Method) (c : Code) : Prop :=
  p.tables.exec = Jvm.exec ∧ c.code = M.2.1 ∧ c.maxLocals = M.2.2.1 ∧ meth.sig.returnType = M.2.2.2 ∧ meth.locks = false ∧ s.vm.findClass M.1.cls = some m.cls ∧ (∀ w ∈ o_tb, w.before args s = true) ∧ va_K (o_D X) vwCl (o_tys X) s ∧ o_St X s ∧ d ≤ R.frames ∧ 48 * d ≤ R.locals
def o_QQ (X : o_Cx) (Q : Option Value → o_Mem → Prop) : Array Value → State → Outcome → State → Prop := fun _ st o t => ∃ (v : Option Value) (μ : o_Mem), o = .returned v ∧ Q v μ ∧ va_P (o_D X) vwCl (o_ws X μ) t.heap ∧ va_F (o_A X) st t
def o_Ev (X : o_Cx) (d : Nat) (M : o_M) (pc : Nat) (L : List (Option Value)) (st : List Value) (μ : o_Mem) (Q : Option Value → o_Mem → Prop) : Prop :=
  ∀ (p : Program) (e : Env) (R : Room) (s : State) (m : MethodId) (args : Array Value) (below : List Frame) (meth : Method) (c : Code) (H : Heap) (locs : List Loc) (ls : Array Slot),
    o_Fr X d M p R s m args meth c → va_P (o_D X) vwCl (o_ws X μ) H → va_S (o_A X) s.heap H locs → o_lh ls M.2.2.1 L →
    W p (o_l X) e R s m args below meth c H locs 0 0 (MQ below (o_QQ X Q) args s 0 0 (o_A X)) (F0 m pc ls st)
section oR
variable {X : o_Cx} {d : Nat} {M : o_M} {pc : Nat} {L : List (Option Value)} {st rest : List Value} {μ : o_Mem} {Q : Option Value → o_Mem → Prop}
theorem o_Ev.eq {pc' : Nat} {L' : List (Option Value)} {st' : List Value} (h : o_Ev X d M pc' L' st' μ Q) (e1 : pc' = pc) (e2 : L' = L) (e3 : st' = st) : o_Ev X d M pc L st μ Q := by subst e1; subst e2; subst e3; exact h
theorem o_Ev.mono {Q' : Option Value → o_Mem → Prop} (h : o_Ev X d M pc L st μ Q') (hq : ∀ v μ', Q' v μ' → Q v μ') : o_Ev X d M pc L st μ Q := by
  intro p e R s m args below meth c H locs ls F hP hS hl T hT St
  obtain ⟨t, a, o, b1, b2, ⟨v, μ', c1, c2, c3⟩, b3⟩ := h p e R s m args below meth c H locs ls F hP hS hl T hT St
  exact ⟨t, a, o, b1, b2, ⟨v, μ', c1, hq _ _ c2, c3⟩, b3⟩
/-- fewer locals may be kept -/
def o_mask : List Bool → List (Option Value) → List (Option Value)
  | true :: bs, o :: os => o :: o_mask bs os
  | false :: bs, _ :: os => none :: o_mask bs os
  | _, _ => []
theorem o_mask_at : ∀ (bs : List Bool) (L : List (Option Value)) (i : Nat) (v : Value), (o_mask bs L)[i]? = some (some v) → L[i]? = some (some v)
  | [], _, i, v, h => by simp [o_mask] at h
  | true :: bs, [], i, v, h => by simp [o_mask] at h
  | false :: bs, [], i, v, h => by simp [o_mask] at h
  | true :: bs, o :: os, 0, v, h => by simpa [o_mask] using h
  | true :: bs, o :: os, i + 1, v, h => by
    have h' : (o_mask bs os)[i]? = some (some v) := by simpa [o_mask] using h
    simpa using o_mask_at bs os i v h'
  | false :: bs, o :: os, 0, v, h => by simp [o_mask] at h
  | false :: bs, o :: os, i + 1, v, h => by
    have h' : (o_mask bs os)[i]? = some (some v) := by simpa [o_mask] using h
    simpa using o_mask_at bs os i v h'
theorem s_mask (bs : List Bool) {L' : List (Option Value)} (hb : o_mask bs L = L') (k : o_Ev X d M pc L' st μ Q) : o_Ev X d M pc L st μ Q := by
  subst hb
  intro p e R s m args below meth c H locs ls F hP hS hl
  exact k p e R s m args below meth c H locs ls F hP hS ⟨hl.1, hl.2.1, fun i v h => hl.2.2 i v (o_mask_at bs L i v h)⟩
theorem o_lh.l1 {ls : Array Slot} {n : Nat} (h : o_lh ls n L) {i : Nat} {v : Value} (hv : L[i]? = some (some v)) : lv_has ls n [(i, v)] := ⟨h.1, h.2.1, fun q hq => by
  rw [List.mem_singleton] at hq; subst hq; exact h.2.2 _ _ hv⟩
/-- a store of one word: no long may end there -/
def o_c2 (L : List (Option Value)) (i : Nat) : Bool := match i with
  | 0 => false
  | j + 1 => match L[j]? with
    | some (some v) => v.category == 2
    | _ => false
def o_pairs (L : List (Option Value)) : List (Nat × Value) := (List.range L.length).filterMap fun i => match L[i]? with
  | some (some v) => some (i, v)
  | _ => none
theorem o_pairs_mem {L : List (Option Value)} {i : Nat} {v : Value} : (i, v) ∈ o_pairs L ↔ L[i]? = some (some v) := by
  unfold o_pairs
  rw [List.mem_filterMap]
  constructor
  · rintro ⟨j, hj, h⟩
    cases hL : L[j]? with
    | none => rw [hL] at h; cases h
    | some o =>
      cases o with
      | none => rw [hL] at h; cases h
      | some w => rw [hL] at h; cases h; exact hL
  · intro h
    have hlt : i < L.length := (List.getElem?_eq_some_iff.mp h).1
    exact ⟨i, List.mem_range.mpr hlt, by rw [h]⟩
theorem o_lh.has {ls : Array Slot} {n : Nat} (h : o_lh ls n L) : lv_has ls n (o_pairs L) := ⟨h.1, h.2.1, fun q hq => h.2.2 q.1 q.2 (o_pairs_mem.mp hq)⟩
theorem o_lh.set1 {ls : Array Slot} {n i : Nat} {v : Value} (hc : o_c2 L i = false) (h : lv_has ls n ((i, v) :: (o_pairs L).filter (fun q => !(q.1 == i) && !(q.1 + 1 == i && q.2.category == 2)))) : o_lh ls n (L.set i (some v)) := by
  refine ⟨h.1, h.2.1, fun j w hj => ?_⟩
  rw [List.getElem?_set] at hj
  by_cases hij : i = j
  · subst hij
    rw [if_pos rfl] at hj
    split at hj
    · cases hj; exact h.2.2 _ List.mem_cons_self
    · cases hj
  · rw [if_neg hij] at hj
    refine h.2.2 (j, w) (List.mem_cons_of_mem _ (List.mem_filter.mpr ⟨o_pairs_mem.mpr hj, ?_⟩))
    have h1 : (j == i) = false := by simp; exact fun q => hij q.symm
    have h2 : (j + 1 == i && w.category == 2) = false := by
      by_cases hji : j + 1 = i
      · subst hji
        have : (w.category == 2) = false := by simpa [o_c2, hj] using hc
        simp [this]
      · simp [hji]
    simp only [h1, h2]; rfl
theorem o_lh.set2 {ls : Array Slot} {n i : Nat} {v : Value} (hc : o_c2 L i = false) (h : lv_has ls n ((i, v) :: (o_pairs L).filter (fun q => !(q.1 == i) && (!(q.1 == i + 1) && !(q.1 + 1 == i && q.2.category == 2))))) : o_lh ls n ((L.set i (some v)).set (i + 1) none) := by
  refine ⟨h.1, h.2.1, fun j w hj => ?_⟩
  rw [List.getElem?_set] at hj
  by_cases hij1 : i + 1 = j
  · subst hij1
    rw [if_pos rfl] at hj
    split at hj
    · cases hj
    · cases hj
  rw [if_neg hij1, List.getElem?_set] at hj
  by_cases hij : i = j
  · subst hij
    rw [if_pos rfl] at hj
    split at hj
    · cases hj; exact h.2.2 _ List.mem_cons_self
    · cases hj
  · rw [if_neg hij] at hj
    refine h.2.2 (j, w) (List.mem_cons_of_mem _ (List.mem_filter.mpr ⟨o_pairs_mem.mpr hj, ?_⟩))
    have h1 : (j == i) = false := by simp; exact fun q => hij q.symm
    have h3 : (j == i + 1) = false := by simp; exact fun q => hij1 q.symm
    have h2 : (j + 1 == i && w.category == 2) = false := by
      by_cases hji : j + 1 = i
      · subst hji
        have : (w.category == 2) = false := by simpa [o_c2, hj] using hc
        simp [this]
      · simp [hji]
    simp only [h1, h2, h3]; rfl
theorem s_iconst {n : Int} {v : Int32} (hd : decode M.2.1 pc = .ok (.iconst n, 1)) (hv : Int32.ofInt n = v) (k : o_Ev X d M (pc + 1) L (.int v :: rest) μ Q) : o_Ev X d M pc L rest μ Q := by
  intro p e R s m args below meth c H locs ls F hP hS hl
  exact lv_iconst F.1 F.2.1 hd hv (k p e R s m args below meth c H locs ls F hP hS hl)
theorem s_bipush {n : Int} {v : Int32} (hd : decode M.2.1 pc = .ok (.bipush n, 2)) (hv : (Int8.ofInt n).toInt32 = v) (k : o_Ev X d M (pc + 2) L (.int v :: rest) μ Q) : o_Ev X d M pc L rest μ Q := by
  intro p e R s m args below meth c H locs ls F hP hS hl
  exact lv_bipush F.1 F.2.1 hd hv (k p e R s m args below meth c H locs ls F hP hS hl)
theorem s_sipush {n : Int} {v : Int32} (hd : decode M.2.1 pc = .ok (.sipush n, 3)) (hv : (Int16.ofInt n).toInt32 = v) (k : o_Ev X d M (pc + 3) L (.int v :: rest) μ Q) : o_Ev X d M pc L rest μ Q := by
  intro p e R s m args below meth c H locs ls F hP hS hl
  exact lv_sipush F.1 F.2.1 hd hv (k p e R s m args below meth c H locs ls F hP hS hl)
theorem s_lconst {n : Fin 2} {v : Int64} (hd : decode M.2.1 pc = .ok (.lconst n, 1)) (hv : Int64.ofNat n = v) (k : o_Ev X d M (pc + 1) L (.long v :: rest) μ Q) : o_Ev X d M pc L rest μ Q := by
  intro p e R s m args below meth c H locs ls F hP hS hl
  exact lv_lconst F.1 F.2.1 hd hv (k p e R s m args below meth c H locs ls F hP hS hl)
theorem s_iload_n {k0 : Fin 4} {i : Nat} {x : Int32} (hd : decode M.2.1 pc = .ok (.iload_n k0, 1)) (hi : (k0 : Nat) = i) (hv : L[i]? = some (some (.int x))) (k : o_Ev X d M (pc + 1) L (.int x :: rest) μ Q) : o_Ev X d M pc L rest μ Q := by
  intro p e R s m args below meth c H locs ls F hP hS hl
  exact lv_iload_n F.1 F.2.1 hd hi (hl.2.2 i _ hv) (k p e R s m args below meth c H locs ls F hP hS hl)
theorem s_iload {i : Nat} {x : Int32} (hd : decode M.2.1 pc = .ok (.iload i, 2)) (hv : L[i]? = some (some (.int x))) (k : o_Ev X d M (pc + 2) L (.int x :: rest) μ Q) : o_Ev X d M pc L rest μ Q := by
  intro p e R s m args below meth c H locs ls F hP hS hl
  exact lv_iload F.1 F.2.1 hd (hl.2.2 i _ hv) (k p e R s m args below meth c H locs ls F hP hS hl)
theorem s_lload_n {k0 : Fin 4} {i : Nat} {x : Int64} (hd : decode M.2.1 pc = .ok (.lload_n k0, 1)) (hi : (k0 : Nat) = i) (hv : L[i]? = some (some (.long x))) (k : o_Ev X d M (pc + 1) L (.long x :: rest) μ Q) : o_Ev X d M pc L rest μ Q := by
  intro p e R s m args below meth c H locs ls F hP hS hl
  exact lv_lload_n F.1 F.2.1 hd hi (hl.2.2 i _ hv) (k p e R s m args below meth c H locs ls F hP hS hl)
theorem s_lload {i : Nat} {x : Int64} (hd : decode M.2.1 pc = .ok (.lload i, 2)) (hv : L[i]? = some (some (.long x))) (k : o_Ev X d M (pc + 2) L (.long x :: rest) μ Q) : o_Ev X d M pc L rest μ Q := by
  intro p e R s m args below meth c H locs ls F hP hS hl
  exact lv_lload F.1 F.2.1 hd (hl.2.2 i _ hv) (k p e R s m args below meth c H locs ls F hP hS hl)
theorem s_aload_n {k0 : Fin 4} {i : Nat} {x : Nat} (hd : decode M.2.1 pc = .ok (.aload_n k0, 1)) (hi : (k0 : Nat) = i) (hv : L[i]? = some (some (.ref x))) (k : o_Ev X d M (pc + 1) L (.ref x :: rest) μ Q) : o_Ev X d M pc L rest μ Q := by
  intro p e R s m args below meth c H locs ls F hP hS hl
  exact lv_aload_n F.1 F.2.1 hd hi (hl.2.2 i _ hv) (k p e R s m args below meth c H locs ls F hP hS hl)
theorem s_aload {i : Nat} {x : Nat} (hd : decode M.2.1 pc = .ok (.aload i, 2)) (hv : L[i]? = some (some (.ref x))) (k : o_Ev X d M (pc + 2) L (.ref x :: rest) μ Q) : o_Ev X d M pc L rest μ Q := by
  intro p e R s m args below meth c H locs ls F hP hS hl
  exact lv_aload F.1 F.2.1 hd (hl.2.2 i _ hv) (k p e R s m args below meth c H locs ls F hP hS hl)
theorem s_iadd {x y : Int32} (hd : decode M.2.1 pc = .ok (.iadd, 1))  (k : o_Ev X d M (pc + 1) L (.int (x + y) :: rest) μ Q) : o_Ev X d M pc L (.int y :: .int x :: rest) μ Q := by
  intro p e R s m args below meth c H locs ls F hP hS hl
  exact lv_iadd F.1 F.2.1 hd  (k p e R s m args below meth c H locs ls F hP hS hl)
theorem s_isub {x y : Int32} (hd : decode M.2.1 pc = .ok (.isub, 1))  (k : o_Ev X d M (pc + 1) L (.int (x - y) :: rest) μ Q) : o_Ev X d M pc L (.int y :: .int x :: rest) μ Q := by
  intro p e R s m args below meth c H locs ls F hP hS hl
  exact lv_isub F.1 F.2.1 hd  (k p e R s m args below meth c H locs ls F hP hS hl)
theorem s_imul {x y : Int32} (hd : decode M.2.1 pc = .ok (.imul, 1))  (k : o_Ev X d M (pc + 1) L (.int (x * y) :: rest) μ Q) : o_Ev X d M pc L (.int y :: .int x :: rest) μ Q := by
  intro p e R s m args below meth c H locs ls F hP hS hl
  exact lv_imul F.1 F.2.1 hd  (k p e R s m args below meth c H locs ls F hP hS hl)
theorem s_iand {x y : Int32} (hd : decode M.2.1 pc = .ok (.iand, 1))  (k : o_Ev X d M (pc + 1) L (.int (x &&& y) :: rest) μ Q) : o_Ev X d M pc L (.int y :: .int x :: rest) μ Q := by
  intro p e R s m args below meth c H locs ls F hP hS hl
  exact lv_iand F.1 F.2.1 hd  (k p e R s m args below meth c H locs ls F hP hS hl)
theorem s_ior {x y : Int32} (hd : decode M.2.1 pc = .ok (.ior, 1))  (k : o_Ev X d M (pc + 1) L (.int (x ||| y) :: rest) μ Q) : o_Ev X d M pc L (.int y :: .int x :: rest) μ Q := by
  intro p e R s m args below meth c H locs ls F hP hS hl
  exact lv_ior F.1 F.2.1 hd  (k p e R s m args below meth c H locs ls F hP hS hl)
theorem s_ixor {x y : Int32} (hd : decode M.2.1 pc = .ok (.ixor, 1))  (k : o_Ev X d M (pc + 1) L (.int (x ^^^ y) :: rest) μ Q) : o_Ev X d M pc L (.int y :: .int x :: rest) μ Q := by
  intro p e R s m args below meth c H locs ls F hP hS hl
  exact lv_ixor F.1 F.2.1 hd  (k p e R s m args below meth c H locs ls F hP hS hl)
theorem s_ishl {x y : Int32} (hd : decode M.2.1 pc = .ok (.ishl, 1))  (k : o_Ev X d M (pc + 1) L (.int (x <<< (y &&& 31)) :: rest) μ Q) : o_Ev X d M pc L (.int y :: .int x :: rest) μ Q := by
  intro p e R s m args below meth c H locs ls F hP hS hl
  exact lv_ishl F.1 F.2.1 hd  (k p e R s m args below meth c H locs ls F hP hS hl)
theorem s_ishr {x y : Int32} (hd : decode M.2.1 pc = .ok (.ishr, 1))  (k : o_Ev X d M (pc + 1) L (.int (x >>> (y &&& 31)) :: rest) μ Q) : o_Ev X d M pc L (.int y :: .int x :: rest) μ Q := by
  intro p e R s m args below meth c H locs ls F hP hS hl
  exact lv_ishr F.1 F.2.1 hd  (k p e R s m args below meth c H locs ls F hP hS hl)
theorem s_idiv {x y : Int32} (hd : decode M.2.1 pc = .ok (.idiv, 1)) (hne : ¬ y = 0) (k : o_Ev X d M (pc + 1) L (.int (x / y) :: rest) μ Q) : o_Ev X d M pc L (.int y :: .int x :: rest) μ Q := by
  intro p e R s m args below meth c H locs ls F hP hS hl
  exact lv_idiv F.1 F.2.1 hd hne (k p e R s m args below meth c H locs ls F hP hS hl)
theorem s_irem {x y : Int32} (hd : decode M.2.1 pc = .ok (.irem, 1)) (hne : ¬ y = 0) (k : o_Ev X d M (pc + 1) L (.int (x - x / y * y) :: rest) μ Q) : o_Ev X d M pc L (.int y :: .int x :: rest) μ Q := by
  intro p e R s m args below meth c H locs ls F hP hS hl
  exact lv_irem F.1 F.2.1 hd hne (k p e R s m args below meth c H locs ls F hP hS hl)
theorem s_ineg {x : Int32} (hd : decode M.2.1 pc = .ok (.ineg, 1))  (k : o_Ev X d M (pc + 1) L (.int (-x) :: rest) μ Q) : o_Ev X d M pc L (.int x :: rest) μ Q := by
  intro p e R s m args below meth c H locs ls F hP hS hl
  exact lv_ineg F.1 F.2.1 hd  (k p e R s m args below meth c H locs ls F hP hS hl)
theorem s_ladd {x y : Int64} (hd : decode M.2.1 pc = .ok (.ladd, 1))  (k : o_Ev X d M (pc + 1) L (.long (x + y) :: rest) μ Q) : o_Ev X d M pc L (.long y :: .long x :: rest) μ Q := by
  intro p e R s m args below meth c H locs ls F hP hS hl
  exact lv_ladd F.1 F.2.1 hd  (k p e R s m args below meth c H locs ls F hP hS hl)
theorem s_lsub {x y : Int64} (hd : decode M.2.1 pc = .ok (.lsub, 1))  (k : o_Ev X d M (pc + 1) L (.long (x - y) :: rest) μ Q) : o_Ev X d M pc L (.long y :: .long x :: rest) μ Q := by
  intro p e R s m args below meth c H locs ls F hP hS hl
  exact lv_lsub F.1 F.2.1 hd  (k p e R s m args below meth c H locs ls F hP hS hl)
theorem s_lmul {x y : Int64} (hd : decode M.2.1 pc = .ok (.lmul, 1))  (k : o_Ev X d M (pc + 1) L (.long (x * y) :: rest) μ Q) : o_Ev X d M pc L (.long y :: .long x :: rest) μ Q := by
  intro p e R s m args below meth c H locs ls F hP hS hl
  exact lv_lmul F.1 F.2.1 hd  (k p e R s m args below meth c H locs ls F hP hS hl)
theorem s_land {x y : Int64} (hd : decode M.2.1 pc = .ok (.land, 1))  (k : o_Ev X d M (pc + 1) L (.long (x &&& y) :: rest) μ Q) : o_Ev X d M pc L (.long y :: .long x :: rest) μ Q := by
  intro p e R s m args below meth c H locs ls F hP hS hl
  exact lv_land F.1 F.2.1 hd  (k p e R s m args below meth c H locs ls F hP hS hl)
theorem s_lor {x y : Int64} (hd : decode M.2.1 pc = .ok (.lor, 1))  (k : o_Ev X d M (pc + 1) L (.long (x ||| y) :: rest) μ Q) : o_Ev X d M pc L (.long y :: .long x :: rest) μ Q := by
  intro p e R s m args below meth c H locs ls F hP hS hl
  exact lv_lor F.1 F.2.1 hd  (k p e R s m args below meth c H locs ls F hP hS hl)
theorem s_ldiv {x y : Int64} (hd : decode M.2.1 pc = .ok (.ldiv, 1)) (hne : ¬ y = 0) (k : o_Ev X d M (pc + 1) L (.long (x / y) :: rest) μ Q) : o_Ev X d M pc L (.long y :: .long x :: rest) μ Q := by
  intro p e R s m args below meth c H locs ls F hP hS hl
  exact lv_ldiv F.1 F.2.1 hd hne (k p e R s m args below meth c H locs ls F hP hS hl)
theorem s_lrem {x y : Int64} (hd : decode M.2.1 pc = .ok (.lrem, 1)) (hne : ¬ y = 0) (k : o_Ev X d M (pc + 1) L (.long (x - x / y * y) :: rest) μ Q) : o_Ev X d M pc L (.long y :: .long x :: rest) μ Q := by
  intro p e R s m args below meth c H locs ls F hP hS hl
  exact lv_lrem F.1 F.2.1 hd hne (k p e R s m args below meth c H locs ls F hP hS hl)
theorem s_i2l {x : Int32} (hd : decode M.2.1 pc = .ok (.i2l, 1))  (k : o_Ev X d M (pc + 1) L (.long x.toInt64 :: rest) μ Q) : o_Ev X d M pc L (.int x :: rest) μ Q := by
  intro p e R s m args below meth c H locs ls F hP hS hl
  exact lv_i2l F.1 F.2.1 hd rfl (k p e R s m args below meth c H locs ls F hP hS hl)
theorem s_l2i {x : Int64} (hd : decode M.2.1 pc = .ok (.l2i, 1))  (k : o_Ev X d M (pc + 1) L (.int x.toInt32 :: rest) μ Q) : o_Ev X d M pc L (.long x :: rest) μ Q := by
  intro p e R s m args below meth c H locs ls F hP hS hl
  exact lv_l2i F.1 F.2.1 hd rfl (k p e R s m args below meth c H locs ls F hP hS hl)
theorem s_i2b {x : Int32} (hd : decode M.2.1 pc = .ok (.i2b, 1))  (k : o_Ev X d M (pc + 1) L (.int x.toInt8.toInt32 :: rest) μ Q) : o_Ev X d M pc L (.int x :: rest) μ Q := by
  intro p e R s m args below meth c H locs ls F hP hS hl
  exact lv_i2b F.1 F.2.1 hd rfl (k p e R s m args below meth c H locs ls F hP hS hl)
theorem s_i2s {x : Int32} (hd : decode M.2.1 pc = .ok (.i2s, 1))  (k : o_Ev X d M (pc + 1) L (.int x.toInt16.toInt32 :: rest) μ Q) : o_Ev X d M pc L (.int x :: rest) μ Q := by
  intro p e R s m args below meth c H locs ls F hP hS hl
  exact lv_i2s F.1 F.2.1 hd rfl (k p e R s m args below meth c H locs ls F hP hS hl)
theorem s_dup {va : Value} (hd : decode M.2.1 pc = .ok (.dup, 1)) (hc : va.category = 1) (k : o_Ev X d M (pc + 1) L (va :: va :: rest) μ Q) : o_Ev X d M pc L (va :: rest) μ Q := by
  intro p e R s m args below meth c H locs ls F hP hS hl
  exact lv_dup F.1 F.2.1 hd hc (k p e R s m args below meth c H locs ls F hP hS hl)
theorem s_pop {va : Value} (hd : decode M.2.1 pc = .ok (.pop, 1)) (hc : va.category = 1) (k : o_Ev X d M (pc + 1) L rest μ Q) : o_Ev X d M pc L (va :: rest) μ Q := by
  intro p e R s m args below meth c H locs ls F hP hS hl
  exact lv_pop F.1 F.2.1 hd hc (k p e R s m args below meth c H locs ls F hP hS hl)
theorem s_dup2 {va vb : Value} (hd : decode M.2.1 pc = .ok (.dup2, 1)) (ha : va.category = 1) (hb : vb.category = 1) (k : o_Ev X d M (pc + 1) L (va :: vb :: va :: vb :: rest) μ Q) : o_Ev X d M pc L (va :: vb :: rest) μ Q := by
  intro p e R s m args below meth c H locs ls F hP hS hl
  exact lv_dup2_11 F.1 F.2.1 hd ha hb (k p e R s m args below meth c H locs ls F hP hS hl)
theorem s_lcmp {x y : Int64} (hd : decode M.2.1 pc = .ok (.lcmp, 1))  (k : o_Ev X d M (pc + 1) L (.int (lg_cmp x y) :: rest) μ Q) : o_Ev X d M pc L (.long y :: .long x :: rest) μ Q := by
  intro p e R s m args below meth c H locs ls F hP hS hl
  exact W.lcmp F.1 F.2.1 hd (k p e R s m args below meth c H locs ls F hP hS hl)
theorem s_istore_n {k0 : Fin 4} {i : Nat} {x : Int32} (hd : decode M.2.1 pc = .ok (.istore_n k0, 1)) (hi : (k0 : Nat) = i) (hn : i < M.2.2.1) (hc : o_c2 L i = false) (k : o_Ev X d M (pc + 1) (L.set i (some (.int x))) rest μ Q) : o_Ev X d M pc L (.int x :: rest) μ Q := by
  intro p e R s m args below meth c H locs ls F hP hS hl
  exact lv_istore_n F.1 F.2.1 hd hi hl.has hn rfl (fun ls' hl' => k p e R s m args below meth c H locs ls' F hP hS (o_lh.set1 hc hl'))
theorem s_istore {i : Nat} {x : Int32} (hd : decode M.2.1 pc = .ok (.istore i, 2))  (hn : i < M.2.2.1) (hc : o_c2 L i = false) (k : o_Ev X d M (pc + 2) (L.set i (some (.int x))) rest μ Q) : o_Ev X d M pc L (.int x :: rest) μ Q := by
  intro p e R s m args below meth c H locs ls F hP hS hl
  exact lv_istore F.1 F.2.1 hd  hl.has hn rfl (fun ls' hl' => k p e R s m args below meth c H locs ls' F hP hS (o_lh.set1 hc hl'))
theorem s_astore_n {k0 : Fin 4} {i : Nat} {x : Nat} (hd : decode M.2.1 pc = .ok (.astore_n k0, 1)) (hi : (k0 : Nat) = i) (hn : i < M.2.2.1) (hc : o_c2 L i = false) (k : o_Ev X d M (pc + 1) (L.set i (some (.ref x))) rest μ Q) : o_Ev X d M pc L (.ref x :: rest) μ Q := by
  intro p e R s m args below meth c H locs ls F hP hS hl
  exact lv_astore_n F.1 F.2.1 hd hi hl.has hn rfl (fun ls' hl' => k p e R s m args below meth c H locs ls' F hP hS (o_lh.set1 hc hl'))
theorem s_astore {i : Nat} {x : Nat} (hd : decode M.2.1 pc = .ok (.astore i, 2))  (hn : i < M.2.2.1) (hc : o_c2 L i = false) (k : o_Ev X d M (pc + 2) (L.set i (some (.ref x))) rest μ Q) : o_Ev X d M pc L (.ref x :: rest) μ Q := by
  intro p e R s m args below meth c H locs ls F hP hS hl
  exact lv_astore F.1 F.2.1 hd  hl.has hn rfl (fun ls' hl' => k p e R s m args below meth c H locs ls' F hP hS (o_lh.set1 hc hl'))
theorem s_lstore_n {k0 : Fin 4} {i : Nat} {x : Int64} (hd : decode M.2.1 pc = .ok (.lstore_n k0, 1)) (hi : (k0 : Nat) = i) (hn : i + 1 < M.2.2.1) (hc : o_c2 L i = false) (k : o_Ev X d M (pc + 1) ((L.set i (some (.long x))).set (i + 1) none) rest μ Q) : o_Ev X d M pc L (.long x :: rest) μ Q := by
  intro p e R s m args below meth c H locs ls F hP hS hl
  exact lv_lstore_n F.1 F.2.1 hd hi hl.has hn rfl (fun ls' hl' => k p e R s m args below meth c H locs ls' F hP hS (o_lh.set2 hc hl'))
theorem s_lstore {i : Nat} {x : Int64} (hd : decode M.2.1 pc = .ok (.lstore i, 2))  (hn : i + 1 < M.2.2.1) (hc : o_c2 L i = false) (k : o_Ev X d M (pc + 2) ((L.set i (some (.long x))).set (i + 1) none) rest μ Q) : o_Ev X d M pc L (.long x :: rest) μ Q := by
  intro p e R s m args below meth c H locs ls F hP hS hl
  exact lv_lstore F.1 F.2.1 hd  hl.has hn rfl (fun ls' hl' => k p e R s m args below meth c H locs ls' F hP hS (o_lh.set2 hc hl'))
theorem s_iinc {i : Nat} {n : Int} {x v : Int32} (hd : decode M.2.1 pc = .ok (.iinc i n, 3)) (hx : L[i]? = some (some (.int x))) (hv : x + Int32.ofInt n = v) (hn : i < M.2.2.1) (hc : o_c2 L i = false) (k : o_Ev X d M (pc + 3) (L.set i (some (.int v))) st μ Q) : o_Ev X d M pc L st μ Q := by
  intro p e R s m args below meth c H locs ls F hP hS hl
  obtain ⟨kk, hkk⟩ := List.getElem?_of_mem (o_pairs_mem.mpr hx)
  exact lv_iinc F.1 F.2.1 hd hl.has hkk hv hn rfl (fun ls' hl' => k p e R s m args below meth c H locs ls' F hP hS (o_lh.set1 hc hl'))
theorem s_if_eq {x : Int32} {off : Int} {tgt : Nat} (hd : decode M.2.1 pc = .ok (.ifCond .eq off, 3)) (ht : (pc : Int) + off = (tgt : Int)) (kt : x = 0 → o_Ev X d M tgt L rest μ Q) (kf : ¬ (x = 0) → o_Ev X d M (pc + 3) L rest μ Q) : o_Ev X d M pc L (.int x :: rest) μ Q := by
  intro p e R s m args below meth c H locs ls F hP hS hl
  exact lv_if_eq F.1 F.2.1 hd ht (fun h => kt h p e R s m args below meth c H locs ls F hP hS hl) (fun h => kf h p e R s m args below meth c H locs ls F hP hS hl)
theorem s_icmp_eq {x y : Int32} {off : Int} {tgt : Nat} (hd : decode M.2.1 pc = .ok (.if_icmp .eq off, 3)) (ht : (pc : Int) + off = (tgt : Int)) (kt : x = y → o_Ev X d M tgt L rest μ Q) (kf : ¬ (x = y) → o_Ev X d M (pc + 3) L rest μ Q) : o_Ev X d M pc L (.int y :: .int x :: rest) μ Q := by
  intro p e R s m args below meth c H locs ls F hP hS hl
  exact lv_icmp_eq F.1 F.2.1 hd ht (fun h => kt h p e R s m args below meth c H locs ls F hP hS hl) (fun h => kf h p e R s m args below meth c H locs ls F hP hS hl)
theorem s_if_ne {x : Int32} {off : Int} {tgt : Nat} (hd : decode M.2.1 pc = .ok (.ifCond .ne off, 3)) (ht : (pc : Int) + off = (tgt : Int)) (kt : ¬ x = 0 → o_Ev X d M tgt L rest μ Q) (kf : x = 0 → o_Ev X d M (pc + 3) L rest μ Q) : o_Ev X d M pc L (.int x :: rest) μ Q := by
  intro p e R s m args below meth c H locs ls F hP hS hl
  exact lv_if_ne F.1 F.2.1 hd ht (fun h => kt h p e R s m args below meth c H locs ls F hP hS hl) (fun h => kf h p e R s m args below meth c H locs ls F hP hS hl)
theorem s_icmp_ne {x y : Int32} {off : Int} {tgt : Nat} (hd : decode M.2.1 pc = .ok (.if_icmp .ne off, 3)) (ht : (pc : Int) + off = (tgt : Int)) (kt : ¬ x = y → o_Ev X d M tgt L rest μ Q) (kf : x = y → o_Ev X d M (pc + 3) L rest μ Q) : o_Ev X d M pc L (.int y :: .int x :: rest) μ Q := by
  intro p e R s m args below meth c H locs ls F hP hS hl
  exact lv_icmp_ne F.1 F.2.1 hd ht (fun h => kt h p e R s m args below meth c H locs ls F hP hS hl) (fun h => kf h p e R s m args below meth c H locs ls F hP hS hl)
theorem s_if_lt {x : Int32} {off : Int} {tgt : Nat} (hd : decode M.2.1 pc = .ok (.ifCond .lt off, 3)) (ht : (pc : Int) + off = (tgt : Int)) (kt : x < 0 → o_Ev X d M tgt L rest μ Q) (kf : ¬ (x < 0) → o_Ev X d M (pc + 3) L rest μ Q) : o_Ev X d M pc L (.int x :: rest) μ Q := by
  intro p e R s m args below meth c H locs ls F hP hS hl
  exact lv_if_lt F.1 F.2.1 hd ht (fun h => kt h p e R s m args below meth c H locs ls F hP hS hl) (fun h => kf h p e R s m args below meth c H locs ls F hP hS hl)
theorem s_icmp_lt {x y : Int32} {off : Int} {tgt : Nat} (hd : decode M.2.1 pc = .ok (.if_icmp .lt off, 3)) (ht : (pc : Int) + off = (tgt : Int)) (kt : x < y → o_Ev X d M tgt L rest μ Q) (kf : ¬ (x < y) → o_Ev X d M (pc + 3) L rest μ Q) : o_Ev X d M pc L (.int y :: .int x :: rest) μ Q := by
  intro p e R s m args below meth c H locs ls F hP hS hl
  exact lv_icmp_lt F.1 F.2.1 hd ht (fun h => kt h p e R s m args below meth c H locs ls F hP hS hl) (fun h => kf h p e R s m args below meth c H locs ls F hP hS hl)
theorem s_if_ge {x : Int32} {off : Int} {tgt : Nat} (hd : decode M.2.1 pc = .ok (.ifCond .ge off, 3)) (ht : (pc : Int) + off = (tgt : Int)) (kt : 0 ≤ x → o_Ev X d M tgt L rest μ Q) (kf : ¬ (0 ≤ x) → o_Ev X d M (pc + 3) L rest μ Q) : o_Ev X d M pc L (.int x :: rest) μ Q := by
  intro p e R s m args below meth c H locs ls F hP hS hl
  exact lv_if_ge F.1 F.2.1 hd ht (fun h => kt h p e R s m args below meth c H locs ls F hP hS hl) (fun h => kf h p e R s m args below meth c H locs ls F hP hS hl)
theorem s_icmp_ge {x y : Int32} {off : Int} {tgt : Nat} (hd : decode M.2.1 pc = .ok (.if_icmp .ge off, 3)) (ht : (pc : Int) + off = (tgt : Int)) (kt : y ≤ x → o_Ev X d M tgt L rest μ Q) (kf : ¬ (y ≤ x) → o_Ev X d M (pc + 3) L rest μ Q) : o_Ev X d M pc L (.int y :: .int x :: rest) μ Q := by
  intro p e R s m args below meth c H locs ls F hP hS hl
  exact lv_icmp_ge F.1 F.2.1 hd ht (fun h => kt h p e R s m args below meth c H locs ls F hP hS hl) (fun h => kf h p e R s m args below meth c H locs ls F hP hS hl)
theorem s_if_gt {x : Int32} {off : Int} {tgt : Nat} (hd : decode M.2.1 pc = .ok (.ifCond .gt off, 3)) (ht : (pc : Int) + off = (tgt : Int)) (kt : 0 < x → o_Ev X d M tgt L rest μ Q) (kf : ¬ (0 < x) → o_Ev X d M (pc + 3) L rest μ Q) : o_Ev X d M pc L (.int x :: rest) μ Q := by
  intro p e R s m args below meth c H locs ls F hP hS hl
  exact lv_if_gt F.1 F.2.1 hd ht (fun h => kt h p e R s m args below meth c H locs ls F hP hS hl) (fun h => kf h p e R s m args below meth c H locs ls F hP hS hl)
theorem s_icmp_gt {x y : Int32} {off : Int} {tgt : Nat} (hd : decode M.2.1 pc = .ok (.if_icmp .gt off, 3)) (ht : (pc : Int) + off = (tgt : Int)) (kt : y < x → o_Ev X d M tgt L rest μ Q) (kf : ¬ (y < x) → o_Ev X d M (pc + 3) L rest μ Q) : o_Ev X d M pc L (.int y :: .int x :: rest) μ Q := by
  intro p e R s m args below meth c H locs ls F hP hS hl
  exact lv_icmp_gt F.1 F.2.1 hd ht (fun h => kt h p e R s m args below meth c H locs ls F hP hS hl) (fun h => kf h p e R s m args below meth c H locs ls F hP hS hl)
theorem s_if_le {x : Int32} {off : Int} {tgt : Nat} (hd : decode M.2.1 pc = .ok (.ifCond .le off, 3)) (ht : (pc : Int) + off = (tgt : Int)) (kt : x ≤ 0 → o_Ev X d M tgt L rest μ Q) (kf : ¬ (x ≤ 0) → o_Ev X d M (pc + 3) L rest μ Q) : o_Ev X d M pc L (.int x :: rest) μ Q := by
  intro p e R s m args below meth c H locs ls F hP hS hl
  exact lv_if_le F.1 F.2.1 hd ht (fun h => kt h p e R s m args below meth c H locs ls F hP hS hl) (fun h => kf h p e R s m args below meth c H locs ls F hP hS hl)
theorem s_icmp_le {x y : Int32} {off : Int} {tgt : Nat} (hd : decode M.2.1 pc = .ok (.if_icmp .le off, 3)) (ht : (pc : Int) + off = (tgt : Int)) (kt : x ≤ y → o_Ev X d M tgt L rest μ Q) (kf : ¬ (x ≤ y) → o_Ev X d M (pc + 3) L rest μ Q) : o_Ev X d M pc L (.int y :: .int x :: rest) μ Q := by
  intro p e R s m args below meth c H locs ls F hP hS hl
  exact lv_icmp_le F.1 F.2.1 hd ht (fun h => kt h p e R s m args below meth c H locs ls F hP hS hl) (fun h => kf h p e R s m args below meth c H locs ls F hP hS hl)
theorem s_goto {off : Int} {tgt : Nat} (hd : decode M.2.1 pc = .ok (.goto off, 3)) (ht : (pc : Int) + off = (tgt : Int)) (k : o_Ev X d M tgt L st μ Q) : o_Ev X d M pc L st μ Q := by
  intro p e R s m args below meth c H locs ls F hP hS hl
  exact lv_goto F.1 F.2.1 hd ht (k p e R s m args below meth c H locs ls F hP hS hl)
theorem s_lookup {dflt : Int} {ps : Array (Int × Int)} {len : Nat} {x : Int32} {off : Int} {tgt : Nat} (hd : decode M.2.1 pc = .ok (.lookupswitch dflt ps, len)) (hp : (ps.toList.zip (ps.toList.drop 1)).all (fun (a, next) => a.1 < next.1) = true) (ho : Op.lookupswitch.offset ps.toList dflt x.toInt = off) (ht : (pc : Int) + off = (tgt : Int)) (k : o_Ev X d M tgt L rest μ Q) : o_Ev X d M pc L (.int x :: rest) μ Q := by
  intro p e R s m args below meth c H locs ls F hP hS hl
  exact lv_lookup F.1 F.2.1 hd hp ho ht (k p e R s m args below meth c H locs ls F hP hS hl)
theorem s_tableOut {dflt lo hi : Int} {offs : Array Int} {len : Nat} {x : Int32} {tgt : Nat} (hd : decode M.2.1 pc = .ok (.tableswitch dflt lo hi offs, len)) (h : x.toInt < lo ∨ hi < x.toInt) (ht : (pc : Int) + dflt = (tgt : Int)) (k : o_Ev X d M tgt L rest μ Q) : o_Ev X d M pc L (.int x :: rest) μ Q := by
  intro p e R s m args below meth c H locs ls F hP hS hl
  exact lv_tableOut F.1 F.2.1 hd h ht (k p e R s m args below meth c H locs ls F hP hS hl)
theorem s_tableIn {dflt lo hi : Int} {offs : Array Int} {len : Nat} {x : Int32} {off : Int} {tgt : Nat} (hd : decode M.2.1 pc = .ok (.tableswitch dflt lo hi offs, len)) (h1 : ¬ x.toInt < lo) (h2 : ¬ hi < x.toInt) (ho : offs[(x.toInt - lo).toNat]? = some off) (ht : (pc : Int) + off = (tgt : Int)) (k : o_Ev X d M tgt L rest μ Q) : o_Ev X d M pc L (.int x :: rest) μ Q := by
  intro p e R s m args below meth c H locs ls F hP hS hl
  exact lv_tableIn F.1 F.2.1 hd h1 h2 ho ht (k p e R s m args below meth c H locs ls F hP hS hl)
theorem s_ldc {index : Nat} {v : Int32} (hw : Cond.constant M.1.cls index v ∈ o_tb) (hd : decode M.2.1 pc = .ok (.ldc index, 2)) (k : o_Ev X d M (pc + 2) L (.int v :: st) μ Q) : o_Ev X d M pc L st μ Q := by
  intro p e R s m args below meth c H locs ls F hP hS hl
  exact lv_ldc F.1 F.2.1 F.2.2.2.2.2.1 (F.2.2.2.2.2.2.1 _ hw) hd (k p e R s m args below meth c H locs ls F hP hS hl)
theorem s_ldcw {index : Nat} {v : Int32} (hw : Cond.constant M.1.cls index v ∈ o_tb) (hd : decode M.2.1 pc = .ok (.ldc_w index, 3)) (k : o_Ev X d M (pc + 3) L (.int v :: st) μ Q) : o_Ev X d M pc L st μ Q := by
  intro p e R s m args below meth c H locs ls F hP hS hl
  exact lv_ldcw F.1 F.2.1 F.2.2.2.2.2.1 (F.2.2.2.2.2.2.1 _ hw) hd (k p e R s m args below meth c H locs ls F hP hS hl)
theorem s_ldc2 {index : Nat} {v : Int64} (hw : Cond.constantLong M.1.cls index v ∈ o_tb) (hd : decode M.2.1 pc = .ok (.ldc2_w index, 3)) (k : o_Ev X d M (pc + 3) L (.long v :: st) μ Q) : o_Ev X d M pc L st μ Q := by
  intro p e R s m args below meth c H locs ls F hP hS hl
  exact lv_ldc2 F.1 F.2.1 F.2.2.2.2.2.1 (F.2.2.2.2.2.2.1 _ hw) hd (k p e R s m args below meth c H locs ls F hP hS hl)
end oR
