/-! ===== making objects: a world that grows ===== -/
def n_ws (b : Nat) (cs : List va_E) : va_W := cs.mapIdx fun i c => (b + i, c)
theorem n_at {b i : Nat} {cs : List va_E} {c : va_E} (h : cs[i]? = some c) : (n_ws b cs)[i]? = some (b + i, c) := by
  unfold n_ws
  rw [List.getElem?_mapIdx, h]
  rfl
theorem n_out {b i : Nat} {cs : List va_E} {x : Nat × va_E} (h : (n_ws b cs)[i]? = some x) : x.1 = b + i ∧ i < cs.length := by
  unfold n_ws at h
  rw [List.getElem?_mapIdx] at h
  cases hc : cs[i]? with
  | none => rw [hc] at h; cases h
  | some c =>
    rw [hc] at h
    cases h
    exact ⟨rfl, (List.getElem?_eq_some_iff.mp hc).1⟩
theorem n_set {b i : Nat} {cs : List va_E} {c : va_E} : (n_ws b cs).set i (b + i, c) = n_ws b (cs.set i c) := by
  apply List.ext_getElem?
  intro j
  unfold n_ws
  rw [List.getElem?_set, List.getElem?_mapIdx, List.getElem?_mapIdx, List.getElem?_set]
  by_cases h : i = j
  · subst h
    rw [if_pos rfl, if_pos rfl, List.length_mapIdx]
    split <;> rfl
  · rw [if_neg h, if_neg h]
theorem n_app {b : Nat} {cs : List va_E} {c : va_E} : n_ws b cs ++ [(b + cs.length, c)] = n_ws b (cs ++ [c]) := by
  unfold n_ws
  rw [List.mapIdx_append]
  simp
theorem n_D {b : Nat} {cs : List va_E} {A : Nat → Prop} (hA : ∀ q, b ≤ q → A q) : va_D A (n_ws b cs) := by
  refine ⟨fun i j p q hi hj hpq => ?_, fun k q hk => ?_⟩
  · have h1 := (n_out hi).1
    have h2 := (n_out hj).1
    omega
  · rw [(n_out hk).1]
    exact hA _ (by omega)
def n_nest : List (String × Nat × MethodName) := [("OddCancel", 19, ⟨"OddCancel$Tray", "<init>", "()V"⟩), ("OddCancel", 22, ⟨"OddCancel$Valley", "<init>", "()V"⟩), ("OddCancel$Valley", 36, ⟨"OddCancel$Letters", "<init>", "()V"⟩), ("OddCancel", 32, ⟨"OddCancel$Plan", "<init>", "()V"⟩), ("OddCancel", 50, ⟨"OddCancel$Reader", "<init>", "()V"⟩), ("OddCancel", 75, ⟨"OddCancel$Life", "<init>", "()V"⟩), ("OddCancel", 86, ⟨"OddCancel$Trails", "<init>", "()V"⟩), ("OddCancel", 93, ⟨"OddCancel$Rows", "<init>", "()V"⟩), ("OddCancel$Rows", 11, ⟨"OddCancel$Letters", "<init>", "()V"⟩), ("OddCancel", 100, ⟨"OddCancel$Brothers", "<init>", "()V"⟩)]
def n_arrs : List String := ["OddCancel$Tray", "OddCancel$Valley", "OddCancel$Plan"]
def n_St (s : State) : Prop := (∀ C ∈ n_arrs, va_AO C s) ∧ ∀ q ∈ n_nest, va_Nw (.methodLinkNest q.1 q.2.1 q.2.2 "OddCancel") s
theorem n_St_same {u U : State} (h : U.vm = u.vm) (a : n_St u) : n_St U := ⟨fun C hC => va_AO.moved (by rw [h]; exact Vm.Alike.refl _) (a.1 C hC), fun q hq => va_Nw.same rfl h.symm (a.2 q hq)⟩
theorem n_St_warm {s U : State} (hW : s.WarmedH U.vm) (a : n_St s) : n_St U := ⟨fun C hC => va_AO.moved hW.alike (a.1 C hC), fun q hq => va_Nw.warmM hW (a.2 q hq)⟩
def n_QQ (X : o_Cx) (b : Nat) (cs : List va_E) : Array Value → State → Outcome → State → Prop := fun _ st o t => o = .returned none ∧ va_P (o_D X) vwCl (n_ws b cs) t.heap ∧ va_F (o_A X) st t
def n_Fr (X : o_Cx) (b n0 mc ms d : Nat) (M : o_M) (p : Program) (R : Room) (s : State) (m : MethodId) (args : Array Value) (meth : Method) (c : Code) : Prop :=
  o_Fr X d M p R s m args meth c ∧ meth.name = "<init>" ∧ mc ≤ R.cells ∧ ms ≤ R.slots ∧ s.heap.size = b + n0 ∧ (∀ q, o_A X q ↔ b ≤ q) ∧ n_St s
/-- a frame of a constructor comes to its end, and the cells are then fin -/
def n_Ev (X : o_Cx) (b n0 mc ms d : Nat) (M : o_M) (fin : List va_E) (pc : Nat) (L : List (Option Value)) (st : List Value) (cs : List va_E) (k sl : Nat) : Prop :=
  ∀ (p : Program) (e : Env) (R : Room) (s : State) (m : MethodId) (args : Array Value) (below : List Frame) (meth : Method) (c : Code) (H : Heap) (locs : List Loc) (ls : Array Slot),
    n_Fr X b n0 mc ms d M p R s m args meth c → va_P (o_D X) vwCl (n_ws b cs) H → va_S (o_A X) s.heap H locs → o_lh ls M.2.2.1 L →
    W p (o_l X) e R s m args below meth c H locs k sl (MQ below (n_QQ X b fin) args s mc ms (o_A X)) (F0 m pc ls st)
section nR
variable {X : o_Cx} {b n0 mc ms d : Nat} {M C : o_M} {fin : List va_E} {pc : Nat} {L : List (Option Value)} {st rest : List Value} {cs : List va_E} {k sl : Nat}
theorem r_iconst {n : Int} {v : Int32} (hd : decode M.2.1 pc = .ok (.iconst n, 1)) (hv : Int32.ofInt n = v) (kk : n_Ev X b n0 mc ms d M fin (pc + 1) L (.int v :: rest) cs k sl) : n_Ev X b n0 mc ms d M fin pc L rest cs k sl := by
  intro p e R s m args below meth c H locs ls F hP hS hl
  exact lv_iconst F.1.1 F.1.2.1 hd hv (kk p e R s m args below meth c H locs ls F hP hS hl)
theorem r_bipush {n : Int} {v : Int32} (hd : decode M.2.1 pc = .ok (.bipush n, 2)) (hv : (Int8.ofInt n).toInt32 = v) (kk : n_Ev X b n0 mc ms d M fin (pc + 2) L (.int v :: rest) cs k sl) : n_Ev X b n0 mc ms d M fin pc L rest cs k sl := by
  intro p e R s m args below meth c H locs ls F hP hS hl
  exact lv_bipush F.1.1 F.1.2.1 hd hv (kk p e R s m args below meth c H locs ls F hP hS hl)
theorem r_sipush {n : Int} {v : Int32} (hd : decode M.2.1 pc = .ok (.sipush n, 3)) (hv : (Int16.ofInt n).toInt32 = v) (kk : n_Ev X b n0 mc ms d M fin (pc + 3) L (.int v :: rest) cs k sl) : n_Ev X b n0 mc ms d M fin pc L rest cs k sl := by
  intro p e R s m args below meth c H locs ls F hP hS hl
  exact lv_sipush F.1.1 F.1.2.1 hd hv (kk p e R s m args below meth c H locs ls F hP hS hl)
theorem r_lconst {n : Fin 2} {v : Int64} (hd : decode M.2.1 pc = .ok (.lconst n, 1)) (hv : Int64.ofNat n = v) (kk : n_Ev X b n0 mc ms d M fin (pc + 1) L (.long v :: rest) cs k sl) : n_Ev X b n0 mc ms d M fin pc L rest cs k sl := by
  intro p e R s m args below meth c H locs ls F hP hS hl
  exact lv_lconst F.1.1 F.1.2.1 hd hv (kk p e R s m args below meth c H locs ls F hP hS hl)
theorem r_iload_n {k0 : Fin 4} {i : Nat} {x : Int32} (hd : decode M.2.1 pc = .ok (.iload_n k0, 1)) (hi : (k0 : Nat) = i) (hv : L[i]? = some (some (.int x))) (kk : n_Ev X b n0 mc ms d M fin (pc + 1) L (.int x :: rest) cs k sl) : n_Ev X b n0 mc ms d M fin pc L rest cs k sl := by
  intro p e R s m args below meth c H locs ls F hP hS hl
  exact lv_iload_n F.1.1 F.1.2.1 hd hi (hl.2.2 i _ hv) (kk p e R s m args below meth c H locs ls F hP hS hl)
theorem r_aload_n {k0 : Fin 4} {i : Nat} {x : Nat} (hd : decode M.2.1 pc = .ok (.aload_n k0, 1)) (hi : (k0 : Nat) = i) (hv : L[i]? = some (some (.ref x))) (kk : n_Ev X b n0 mc ms d M fin (pc + 1) L (.ref x :: rest) cs k sl) : n_Ev X b n0 mc ms d M fin pc L rest cs k sl := by
  intro p e R s m args below meth c H locs ls F hP hS hl
  exact lv_aload_n F.1.1 F.1.2.1 hd hi (hl.2.2 i _ hv) (kk p e R s m args below meth c H locs ls F hP hS hl)
theorem r_dup {v : Value} (hd : decode M.2.1 pc = .ok (.dup, 1)) (hc : v.category = 1) (kk : n_Ev X b n0 mc ms d M fin (pc + 1) L (v :: v :: rest) cs k sl) : n_Ev X b n0 mc ms d M fin pc L (v :: rest) cs k sl := by
  intro p e R s m args below meth c H locs ls F hP hS hl
  exact lv_dup F.1.1 F.1.2.1 hd hc (kk p e R s m args below meth c H locs ls F hP hS hl)
theorem r_goto {off : Int} {tgt : Nat} (hd : decode M.2.1 pc = .ok (.goto off, 3)) (ht : (pc : Int) + off = (tgt : Int)) (kk : n_Ev X b n0 mc ms d M fin tgt L st cs k sl) : n_Ev X b n0 mc ms d M fin pc L st cs k sl := by
  intro p e R s m args below meth c H locs ls F hP hS hl
  exact lv_goto F.1.1 F.1.2.1 hd ht (kk p e R s m args below meth c H locs ls F hP hS hl)
theorem r_ge_t {x y : Int32} {off : Int} {tgt : Nat} (hd : decode M.2.1 pc = .ok (.if_icmp .ge off, 3)) (ht : (pc : Int) + off = (tgt : Int)) (h : y ≤ x) (kk : n_Ev X b n0 mc ms d M fin tgt L rest cs k sl) : n_Ev X b n0 mc ms d M fin pc L (.int y :: .int x :: rest) cs k sl := by
  intro p e R s m args below meth c H locs ls F hP hS hl
  exact lv_icmp_ge F.1.1 F.1.2.1 hd ht (fun _ => kk p e R s m args below meth c H locs ls F hP hS hl) (fun z => absurd h z)
theorem r_ge_f {x y : Int32} {off : Int} {tgt : Nat} (hd : decode M.2.1 pc = .ok (.if_icmp .ge off, 3)) (ht : (pc : Int) + off = (tgt : Int)) (h : ¬ y ≤ x) (kk : n_Ev X b n0 mc ms d M fin (pc + 3) L rest cs k sl) : n_Ev X b n0 mc ms d M fin pc L (.int y :: .int x :: rest) cs k sl := by
  intro p e R s m args below meth c H locs ls F hP hS hl
  exact lv_icmp_ge F.1.1 F.1.2.1 hd ht (fun z => absurd z h) (fun _ => kk p e R s m args below meth c H locs ls F hP hS hl)
end nR
