/-! ===== rules: fields, arrays, answers ===== -/
theorem o_upd_set {X : o_Cx} {μ μ' : o_Mem} {a ci k : Nat} {v : Value} (hk : ∃ b, (o_fk ci)[k]? = some b ∧ o_val X μ' a k b = v) (ho : ∀ j b, j ≠ k → o_val X μ' a j b = o_val X μ a j b) : ((o_fk ci).mapIdx (fun k b => o_val X μ' a k b)) = ((o_fk ci).mapIdx (fun k b => o_val X μ a k b)).set k v := by
  obtain ⟨b, hb, hv⟩ := hk
  apply List.ext_getElem?
  intro j
  rw [List.getElem?_set, List.getElem?_mapIdx, List.getElem?_mapIdx]
  by_cases hj : k = j
  · subst hj
    rw [if_pos rfl, hb]
    have hlt : k < (o_fk ci).length := (List.getElem?_eq_some_iff.mp hb).1
    rw [if_pos (by rw [List.length_mapIdx]; exact hlt)]
    simp [hv]
  · rw [if_neg hj]
    cases hq : (o_fk ci)[j]? with
    | none => rfl
    | some b2 => simp [ho j b2 (fun h => hj h.symm)]
theorem o_val_wI {X : o_Cx} {μ : o_Mem} {a k : Nat} {x : Int32} (j b : Nat) (h : j ≠ k) : o_val X (o_wI μ a k x) a j b = o_val X μ a j b := by
  have e : (o_wI μ a k x).1 a j = μ.1 a j := by
    show (o_sI μ a (upd (μ.1 a) k x)).1 a j = _
    rw [o_sI_at]
    exact if_neg h
  unfold o_val
  rw [e]
  rfl
theorem o_val_wL {X : o_Cx} {μ : o_Mem} {a k : Nat} {x : Int64} (j b : Nat) (h : j ≠ k) : o_val X (o_wL μ a k x) a j b = o_val X μ a j b := by
  have e : (o_wL μ a k x).2 a j = μ.2 a j := by
    show (o_sL μ a (vp_updL (μ.2 a) k x)).2 a j = _
    rw [o_sL_at]
    exact if_neg h
  unfold o_val
  rw [e]
  rfl
theorem o_set_fI {X : o_Cx} {μ : o_Mem} {a ci k : Nat} {x : Int32} (h : o_is X a (.inl ci)) (hk : (o_fk ci)[k]? = some 0) : (o_ws X μ).set a (o_ad X a, .inr (ci, ((o_fk ci).mapIdx (fun k b => o_val X μ a k b)).set k (.int x))) = o_ws X (o_wI μ a k x) := by
  refine o_ws_set ?_ (fun j hj => o_cell_sI hj)
  unfold o_cell
  rw [h.2]
  show Sum.inr (ci, _) = Sum.inr (ci, _)
  rw [o_upd_set (μ := μ) (μ' := o_wI μ a k x) ⟨0, hk, ?_⟩ (fun j b hj => o_val_wI j b hj)]
  show Value.int ((o_sI μ a (upd (μ.1 a) k x)).1 a k) = Value.int x
  rw [o_sI_at]
  exact congrArg Value.int (if_pos rfl)
theorem o_set_fL {X : o_Cx} {μ : o_Mem} {a ci k : Nat} {x : Int64} (h : o_is X a (.inl ci)) (hk : (o_fk ci)[k]? = some 1) : (o_ws X μ).set a (o_ad X a, .inr (ci, ((o_fk ci).mapIdx (fun k b => o_val X μ a k b)).set k (.long x))) = o_ws X (o_wL μ a k x) := by
  refine o_ws_set ?_ (fun j hj => o_cell_sL hj)
  unfold o_cell
  rw [h.2]
  show Sum.inr (ci, _) = Sum.inr (ci, _)
  rw [o_upd_set (μ := μ) (μ' := o_wL μ a k x) ⟨1, hk, ?_⟩ (fun j b hj => o_val_wL j b hj)]
  show Value.long ((o_sL μ a (vp_updL (μ.2 a) k x)).2 a k) = Value.long x
  rw [o_sL_at]
  exact congrArg Value.long (if_pos rfl)
theorem o_set_aI {X : o_Cx} {μ : o_Mem} {a t n : Nat} {f : Nat → Int32} (h : o_is X a (.inr (t, n))) (ht : t = 0 ∨ t = 1) : (o_ws X μ).set a (o_ad X a, .inl (o_cA X t, n, .inl f)) = o_ws X (o_sI μ a f) := by
  refine o_ws_set ?_ (fun j hj => o_cell_sI hj)
  unfold o_cell
  rw [h.2]
  rcases ht with rfl | rfl
  · show Sum.inl (_, _, Sum.inl ((o_sI μ a f).1 a)) = _
    rw [o_sI_at]
  · show Sum.inl (_, _, Sum.inl ((o_sI μ a f).1 a)) = _
    rw [o_sI_at]
theorem o_set_aL {X : o_Cx} {μ : o_Mem} {a n : Nat} {f : Nat → Int64} (h : o_is X a (.inr (2, n))) : (o_ws X μ).set a (o_ad X a, .inl (o_cA X 2, n, .inr (.inl f))) = o_ws X (o_sL μ a f) := by
  refine o_ws_set ?_ (fun j hj => o_cell_sL hj)
  unfold o_cell
  rw [h.2]
  show Sum.inl (_, _, Sum.inr (Sum.inl ((o_sL μ a f).2 a))) = _
  rw [o_sL_at]
/-- a field, by a class's own constant: the class's number, the field's -/
def o_FL (own : String) (idx ci k : Nat) : Prop := ∃ (C : String) (T : u_T) (N : Nat), vwCl[ci]? = some (C, T, N) ∧ k < N ∧ (∀ w ∈ u_ws C T N, w ∈ o_tb) ∧ Cond.fieldLink own idx (T k).1 (T k).2.1 (T k).2.2.1 ∈ o_tb
def o_FW (own : String) (idx ci k : Nat) (ty : FieldType) : Prop := ∃ (C : String) (T : u_T) (N : Nat) (ty0 : Nat → FieldType), vwCl[ci]? = some (C, T, N) ∧ k < N ∧ (∀ w ∈ u_ws C T N, w ∈ o_tb) ∧ Cond.fieldLink own idx (T k).1 (T k).2.1 (T k).2.2.1 ∈ o_tb ∧
  (∀ k, k < N → parseFieldDescriptor (T k).2.2.1 = some (ty0 k)) ∧ (∀ a, a < N → ∀ b, b < N → a ≠ b → (T a).2.1 ≠ (T b).2.1) ∧ (T k).2.2.2 = false ∧ ty0 k = ty
theorem o_in {i : Int32} {n : Nat} (h : 0 ≤ i.toInt ∧ i.toInt < n) : vp_in i n := vp_in_iff.mpr h
section oF
variable {X : o_Cx} {d : Nat} {M : o_M} {pc : Nat} {L : List (Option Value)} {st rest : List Value} {μ : o_Mem} {Q : Option Value → o_Mem → Prop} {a ci k idx t n : Nat}
theorem s_getV {b : Nat} (h : o_is X a (.inl ci)) (hf : o_FL M.1.cls idx ci k) (hk : (o_fk ci)[k]? = some b) (hd : decode M.2.1 pc = .ok (.getfield idx, 3)) (kk : o_Ev X d M (pc + 3) L (o_val X μ a k b :: rest) μ Q) : o_Ev X d M pc L (.ref (o_ad X a) :: rest) μ Q := by
  intro p e R s m args below meth c H locs ls F hP hS hl
  obtain ⟨C, T, N, hc, hkN, hin, hw⟩ := hf
  exact va_get (Ts := o_tb) F.1 F.2.1 F.2.2.2.2.2.2.1 hin F.2.2.2.2.2.1 F.2.2.2.2.2.2.2.1 hP a (o_is_cell h) hc k hkN (F.2.2.2.2.2.2.1 _ hw) (fun _ h9 => h9) (by rw [List.getElem?_mapIdx, hk]; rfl) hd (kk p e R s m args below meth c H locs ls F hP hS hl)
theorem s_getI (h : o_is X a (.inl ci)) (hf : o_FL M.1.cls idx ci k) (hk : (o_fk ci)[k]? = some 0) (hd : decode M.2.1 pc = .ok (.getfield idx, 3)) (kk : o_Ev X d M (pc + 3) L (.int (μ.1 a k) :: rest) μ Q) : o_Ev X d M pc L (.ref (o_ad X a) :: rest) μ Q := s_getV h hf hk hd kk
theorem s_getL (h : o_is X a (.inl ci)) (hf : o_FL M.1.cls idx ci k) (hk : (o_fk ci)[k]? = some 1) (hd : decode M.2.1 pc = .ok (.getfield idx, 3)) (kk : o_Ev X d M (pc + 3) L (.long (μ.2 a k) :: rest) μ Q) : o_Ev X d M pc L (.ref (o_ad X a) :: rest) μ Q := s_getV h hf hk hd kk
theorem s_getR (hX : o_ok X) (h : o_is X a (.inl ci)) (hf : o_FL M.1.cls idx ci k) (hk : (o_fk ci)[k]? = some 2) (hd : decode M.2.1 pc = .ok (.getfield idx, 3)) (kk : o_is X (o_rf X a k) (o_ft ci k) → o_Ev X d M (pc + 3) L (.ref (o_ad X (o_rf X a k)) :: rest) μ Q) : o_Ev X d M pc L (.ref (o_ad X a) :: rest) μ Q := s_getV h hf hk hd (kk (hX.2.2.1 a ci k h hk))
theorem s_putV {ty : FieldType} {v : Value} {μ' : o_Mem} (hX : o_ok X) (h : o_is X a (.inl ci)) (hf : o_FW M.1.cls idx ci k ty) (hn : narrow ty v = v) (hfit : fits ty v = true) (hk : k < (o_fk ci).length) (hset : (o_ws X μ).set a (o_ad X a, .inr (ci, ((o_fk ci).mapIdx (fun k b => o_val X μ a k b)).set k v)) = o_ws X μ') (hd : decode M.2.1 pc = .ok (.putfield idx, 3)) (kk : o_Ev X d M (pc + 3) L rest μ' Q) : o_Ev X d M pc L (v :: .ref (o_ad X a) :: rest) μ Q := by
  intro p e R s m args below meth c H locs ls F hP hS hl
  obtain ⟨C, T, N, ty0, hc, hkN, hin, hw, hty, hnm, hfin, ety⟩ := hf
  refine va_put (Ts := o_tb) F.1 F.2.1 F.2.2.2.2.2.2.1 hin ty0 hty hnm F.2.2.2.2.2.1 F.2.2.2.2.2.2.2.1 hP (o_ws_D hX) hS a (o_is_cell h) hc k hkN (F.2.2.2.2.2.2.1 _ hw) (fun _ h9 => h9) hfin (by rw [hty k hkN, ety]) hn hfit (by rw [List.length_mapIdx]; exact hk) hd (fun H1 locs1 hP1 hD1 hS1 => ?_)
  exact kk p e R s m args below meth c H1 locs1 ls F (by rw [← hset]; exact hP1) hS1 hl
theorem s_putI {x : Int32} (hX : o_ok X) (h : o_is X a (.inl ci)) (hf : o_FW M.1.cls idx ci k .int) (hk : (o_fk ci)[k]? = some 0) (hd : decode M.2.1 pc = .ok (.putfield idx, 3)) (kk : o_Ev X d M (pc + 3) L rest (o_wI μ a k x) Q) : o_Ev X d M pc L (.int x :: .ref (o_ad X a) :: rest) μ Q :=
  s_putV hX h hf rfl rfl (List.getElem?_eq_some_iff.mp hk).1 (o_set_fI h hk) hd kk
theorem s_putZ {x : Int32} (hX : o_ok X) (h : o_is X a (.inl ci)) (hf : o_FW M.1.cls idx ci k .boolean) (hk : (o_fk ci)[k]? = some 0) (hx : x = 0 ∨ x = 1) (hd : decode M.2.1 pc = .ok (.putfield idx, 3)) (kk : o_Ev X d M (pc + 3) L rest (o_wI μ a k x) Q) : o_Ev X d M pc L (.int x :: .ref (o_ad X a) :: rest) μ Q := by
  refine s_putV hX h hf ?_ ?_ (List.getElem?_eq_some_iff.mp hk).1 (o_set_fI h hk) hd kk
  · rcases hx with rfl | rfl <;> rfl
  · rcases hx with rfl | rfl <;> rfl
theorem s_putL {x : Int64} (hX : o_ok X) (h : o_is X a (.inl ci)) (hf : o_FW M.1.cls idx ci k .long) (hk : (o_fk ci)[k]? = some 1) (hd : decode M.2.1 pc = .ok (.putfield idx, 3)) (kk : o_Ev X d M (pc + 3) L rest (o_wL μ a k x) Q) : o_Ev X d M pc L (.long x :: .ref (o_ad X a) :: rest) μ Q :=
  s_putV hX h hf rfl rfl (List.getElem?_eq_some_iff.mp hk).1 (o_set_fL h hk) hd kk
theorem s_iald {i : Int32} (h : o_is X a (.inr (0, n))) (hin : 0 ≤ i.toInt ∧ i.toInt < n) (hd : decode M.2.1 pc = .ok (.iaload, 1)) (kk : o_Ev X d M (pc + 1) L (.int (μ.1 a i.toNatClampNeg) :: rest) μ Q) : o_Ev X d M pc L (.int i :: .ref (o_ad X a) :: rest) μ Q := by
  intro p e R s m args below meth c H locs ls F hP hS hl
  exact va_iald F.1 F.2.1 F.2.2.2.2.2.2.2.1 hP a 0 (o_is_cell h) rfl (o_in hin) hd (kk p e R s m args below meth c H locs ls F hP hS hl)
theorem s_bald {i : Int32} (h : o_is X a (.inr (1, n))) (hin : 0 ≤ i.toInt ∧ i.toInt < n) (hd : decode M.2.1 pc = .ok (.baload, 1)) (kk : o_Ev X d M (pc + 1) L (.int (μ.1 a i.toNatClampNeg) :: rest) μ Q) : o_Ev X d M pc L (.int i :: .ref (o_ad X a) :: rest) μ Q := by
  intro p e R s m args below meth c H locs ls F hP hS hl
  exact va_bald F.1 F.2.1 F.2.2.2.2.2.2.2.1 hP a 1 (o_is_cell h) rfl (o_in hin) hd (kk p e R s m args below meth c H locs ls F hP hS hl)
theorem s_lald {i : Int32} (h : o_is X a (.inr (2, n))) (hin : 0 ≤ i.toInt ∧ i.toInt < n) (hd : decode M.2.1 pc = .ok (.laload, 1)) (kk : o_Ev X d M (pc + 1) L (.long (μ.2 a i.toNatClampNeg) :: rest) μ Q) : o_Ev X d M pc L (.int i :: .ref (o_ad X a) :: rest) μ Q := by
  intro p e R s m args below meth c H locs ls F hP hS hl
  exact va_lald F.1 F.2.1 F.2.2.2.2.2.2.2.1 hP a 2 (o_is_cell h) rfl (o_in hin) hd (kk p e R s m args below meth c H locs ls F hP hS hl)
theorem s_aald {i : Int32} {C : String} (hX : o_ok X) (h : o_is X a (.inr (t, n))) (h3 : 3 ≤ t) (ht : (o_tys X)[t]? = some (o_cA X t, .object C)) (hin : 0 ≤ i.toInt ∧ i.toInt < n) (hd : decode M.2.1 pc = .ok (.aaload, 1)) (kk : o_is X (o_rf X a i.toNatClampNeg) (.inl (o_et t)) → o_Ev X d M (pc + 1) L (.ref (o_ad X (o_rf X a i.toNatClampNeg)) :: rest) μ Q) : o_Ev X d M pc L (.int i :: .ref (o_ad X a) :: rest) μ Q := by
  intro p e R s m args below meth c H locs ls F hP hS hl
  have hlt : i.toNatClampNeg < n := Nat.not_le.mp fun q => o_in hin (Or.inr q)
  have hk := kk (hX.2.2.2 a t n _ h h3 hlt)
  refine va_aldq (f := fun j => some (o_ad X (o_rf X a j))) F.1 F.2.1 F.2.2.2.2.2.2.2.1 hP a t (cA := o_cA X t) (n := n) ?_ ht (o_in hin) hd (hk p e R s m args below meth c H locs ls F hP hS hl)
  rw [o_is_cell h]
  show some (_, Sum.inl (_, _, o_arr X μ a t)) = _
  unfold o_arr
  rw [if_neg (by omega), if_neg (by omega), if_neg (by omega)]
theorem s_iast {i x : Int32} (hX : o_ok X) (h : o_is X a (.inr (0, n))) (hin : 0 ≤ i.toInt ∧ i.toInt < n) (hd : decode M.2.1 pc = .ok (.iastore, 1)) (kk : o_Ev X d M (pc + 1) L rest (o_wI μ a i.toNatClampNeg x) Q) : o_Ev X d M pc L (.int x :: .int i :: .ref (o_ad X a) :: rest) μ Q := by
  intro p e R s m args below meth c H locs ls F hP hS hl
  refine va_iast F.1 F.2.1 F.2.2.2.2.2.2.2.1 hP (o_ws_D hX) hS a 0 (o_is_cell h) rfl (o_in hin) hd (fun H1 locs1 hP1 hD1 hS1 => ?_)
  exact kk p e R s m args below meth c H1 locs1 ls F (by rw [o_wI, ← o_set_aI h (Or.inl rfl)]; exact hP1) hS1 hl
theorem s_bast {i x : Int32} (hX : o_ok X) (h : o_is X a (.inr (1, n))) (hin : 0 ≤ i.toInt ∧ i.toInt < n) (hd : decode M.2.1 pc = .ok (.bastore, 1)) (kk : o_Ev X d M (pc + 1) L rest (o_wI μ a i.toNatClampNeg x.toInt8.toInt32) Q) : o_Ev X d M pc L (.int x :: .int i :: .ref (o_ad X a) :: rest) μ Q := by
  intro p e R s m args below meth c H locs ls F hP hS hl
  refine va_bast F.1 F.2.1 F.2.2.2.2.2.2.2.1 hP (o_ws_D hX) hS a 1 (o_is_cell h) rfl (o_in hin) hd (fun H1 locs1 hP1 hD1 hS1 => ?_)
  rw [vp_nar_byte] at hP1
  exact kk p e R s m args below meth c H1 locs1 ls F (by rw [o_wI, ← o_set_aI h (Or.inr rfl)]; exact hP1) hS1 hl
theorem s_last {i : Int32} {x : Int64} (hX : o_ok X) (h : o_is X a (.inr (2, n))) (hin : 0 ≤ i.toInt ∧ i.toInt < n) (hd : decode M.2.1 pc = .ok (.lastore, 1)) (kk : o_Ev X d M (pc + 1) L rest (o_wL μ a i.toNatClampNeg x) Q) : o_Ev X d M pc L (.long x :: .int i :: .ref (o_ad X a) :: rest) μ Q := by
  intro p e R s m args below meth c H locs ls F hP hS hl
  refine va_last F.1 F.2.1 F.2.2.2.2.2.2.2.1 hP (o_ws_D hX) hS a 2 (o_is_cell h) rfl (o_in hin) hd (fun H1 locs1 hP1 hD1 hS1 => ?_)
  exact kk p e R s m args below meth c H1 locs1 ls F (by rw [o_wL, ← o_set_aL h]; exact hP1) hS1 hl
theorem s_alen {t : Nat} {ty : FieldType} (h : o_is X a (.inr (t, n))) (ht : (o_tys X)[t]? = some (o_cA X t, ty)) (hd : decode M.2.1 pc = .ok (.arraylength, 1)) (kk : o_Ev X d M (pc + 1) L (.int (Int32.ofNat n) :: rest) μ Q) : o_Ev X d M pc L (.ref (o_ad X a) :: rest) μ Q := by
  intro p e R s m args below meth c H locs ls F hP hS hl
  exact va_alen F.1 F.2.1 F.2.2.2.2.2.2.2.1 hP a t (o_is_cell h) ht rfl hd (kk p e R s m args below meth c H locs ls F hP hS hl)
theorem s_ireturn {v : Int32} (hr : M.2.2.2 = some .int) (hd : decode M.2.1 pc = .ok (.ireturn, 1)) (hq : Q (some (.int v)) μ) : o_Ev X d M pc L [.int v] μ Q := by
  intro p e R s m args below meth c H locs ls F hP hS hl
  exact W.iret F.1 F.2.1 (F.2.2.2.1.trans hr) (fun t ht hW => ⟨_, μ, rfl, hq, by rw [ht]; exact hP, hS.F ht⟩) hS.2.2 hd F.2.2.2.2.1
theorem s_zreturn {v : Int32} (hr : M.2.2.2 = some .boolean) (hv : v = 0 ∨ v = 1) (hd : decode M.2.1 pc = .ok (.ireturn, 1)) (hq : Q (some (.int v)) μ) : o_Ev X d M pc L [.int v] μ Q := by
  intro p e R s m args below meth c H locs ls F hP hS hl
  exact W.zret F.1 F.2.1 (F.2.2.2.1.trans hr) (by rcases hv with rfl | rfl <;> rfl) (fun t ht hW => ⟨_, μ, rfl, hq, by rw [ht]; exact hP, hS.F ht⟩) hS.2.2 hd F.2.2.2.2.1
theorem s_lreturn {v : Int64} (hr : M.2.2.2 = some .long) (hd : decode M.2.1 pc = .ok (.lreturn, 1)) (hq : Q (some (.long v)) μ) : o_Ev X d M pc L [.long v] μ Q := by
  intro p e R s m args below meth c H locs ls F hP hS hl
  exact W.lret F.1 F.2.1 (F.2.2.2.1.trans hr) (fun t ht hW => ⟨_, μ, rfl, hq, by rw [ht]; exact hP, hS.F ht⟩) hS.2.2 hd F.2.2.2.2.1
theorem s_return (hr : M.2.2.2 = none) (hd : decode M.2.1 pc = .ok (.return_, 1)) (hq : Q none μ) : o_Ev X d M pc L [] μ Q := by
  intro p e R s m args below meth c H locs ls F hP hS hl
  exact W.vret F.1 F.2.1 (F.2.2.2.1.trans hr) (fun t ht hW => ⟨_, μ, rfl, hq, by rw [ht]; exact hP, hS.F ht⟩) hS.2.2 hd F.2.2.2.2.1
end oF
