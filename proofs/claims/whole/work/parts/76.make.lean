/-! ===== making objects: the object's own block, behind the cells that were there ===== -/
abbrev e_Ev (X : o_Cx) (b : Nat) (pre : List va_E) (mc ms d : Nat) (M : o_M) (fin : List va_E) (pc : Nat) (L : List (Option Value)) (st : List Value) (tl : List va_E) (k sl : Nat) : Prop := n_Ev X b (pre.length + 1) mc ms d M (pre ++ fin) pc L st (pre ++ tl) k sl
abbrev aI (X : o_Cx) (n : Nat) : va_E := .inl (o_cA X 0, n, .inl (fun _ => 0))
abbrev aB (X : o_Cx) (n : Nat) : va_E := .inl (o_cA X 1, n, .inl (fun _ => 0))
abbrev aL (X : o_Cx) (n : Nat) : va_E := .inl (o_cA X 2, n, .inr (.inl (fun _ => 0)))
theorem n_gap {pre tl : List va_E} (j : Nat) : (pre ++ tl)[pre.length + j]? = tl[j]? := by
  rw [List.getElem?_append_right (by omega), Nat.add_sub_cancel_left]
theorem n_sap {pre tl : List va_E} (j : Nat) (x : va_E) : (pre ++ tl).set (pre.length + j) x = pre ++ tl.set j x := by
  rw [List.set_append_right _ _ (by omega), Nat.add_sub_cancel_left]
section eM
variable {X : o_Cx} {b mc ms d : Nat} {pre : List va_E} {M C : o_M} {fin : List va_E} {pc : Nat} {L : List (Option Value)} {st rest : List Value} {tl tl' : List va_E} {k sl : Nat}
theorem tk_new {idx ci N q : Nat} {fs : List Value} (h : n_NW M.1.cls idx ci N fs) (hd : decode M.2.1 pc = .ok (.new idx, 3)) (hk : k + 1 ≤ mc) (hsl : sl + N ≤ ms) (hn : 1 + k = tl.length) (hq : b + pre.length + tl.length = q) (htl : tl ++ [.inr (ci, fs)] = tl') (kk : e_Ev X b pre mc ms d M fin (pc + 3) L (.ref q :: rest) tl' (k + 1) (sl + N)) : e_Ev X b pre mc ms d M fin pc L rest tl k sl := by
  subst htl
  subst hq
  refine r_new h hd hk hsl (by rw [List.length_append]; omega) ?_
  rw [List.append_assoc, List.length_append, ← Nat.add_assoc]
  exact kk
theorem tk_newa {t N q : Nat} {ty : FieldType} {atype : ArrayType} {a0 : vp_A} {n : Int32} (htt : (o_tys X)[t]? = some (o_cA X t, ty)) (hnt : ∀ C, ty ≠ .object C) (hty : newarray.typeOf atype = ty) (harr : Cond.arrayClass (newarray.typeOf atype) ∈ o_tb) (ha : ∀ cA : ClassId, vp_cell cA a0 = arrV cA N (fun _ => defaultValue ty)) (hneg : ¬ n < 0) (hN : n.toNatClampNeg = N) (hbytes : N * componentBytes ty ≤ 536870912) (hd : decode M.2.1 pc = .ok (.newarray atype, 2)) (hk : k + 1 ≤ mc) (hsl : sl + N ≤ ms) (hn : 1 + k = tl.length) (hq : b + pre.length + tl.length = q) (htl : tl ++ [.inl (o_cA X t, a0)] = tl') (kk : e_Ev X b pre mc ms d M fin (pc + 2) L (.ref q :: rest) tl' (k + 1) (sl + N)) : e_Ev X b pre mc ms d M fin pc L (.int n :: rest) tl k sl := by
  subst htl
  subst hq
  refine r_newa htt hnt hty harr ha hneg hN hbytes hd hk hsl (by rw [List.length_append]; omega) ?_
  rw [List.append_assoc, List.length_append, ← Nat.add_assoc]
  exact kk
theorem tk_newq {t N idx q : Nat} {Cn : String} {n : Int32} (htt : (o_tys X)[t]? = some (o_cA X t, .object Cn)) (hC : Cn ∈ n_arrs) (hcl : Cond.classLink M.1.cls idx Cn ∈ o_tb) (hneg : ¬ n < 0) (hN : n.toNatClampNeg = N) (hbytes : N * 4 ≤ 536870912) (hd : decode M.2.1 pc = .ok (.anewarray idx, 3)) (hk : k + 1 ≤ mc) (hsl : sl + N ≤ ms) (hn : 1 + k = tl.length) (hq : b + pre.length + tl.length = q) (htl : tl ++ [.inl (o_cA X t, N, .inr (.inr (.inr (.inr (fun _ => none)))))] = tl') (kk : e_Ev X b pre mc ms d M fin (pc + 3) L (.ref q :: rest) tl' (k + 1) (sl + N)) : e_Ev X b pre mc ms d M fin pc L (.int n :: rest) tl k sl := by
  subst htl
  subst hq
  refine r_newq htt hC hcl hneg hN hbytes hd hk hsl (by rw [List.length_append]; omega) ?_
  rw [List.append_assoc, List.length_append, ← Nat.add_assoc]
  exact kk
theorem tk_put {idx ci i j a : Nat} {fs : List Value} {ty : FieldType} {v : Value} (hc : tl[i]? = some (.inr (ci, fs))) (ha : a = b + pre.length + i) (hf : o_FW M.1.cls idx ci j ty) (hn : narrow ty v = v) (hfit : fits ty v = true) (hj : j < fs.length) (hd : decode M.2.1 pc = .ok (.putfield idx, 3)) (htl : tl.set i (.inr (ci, fs.set j v)) = tl') (kk : e_Ev X b pre mc ms d M fin (pc + 3) L rest tl' k sl) : e_Ev X b pre mc ms d M fin pc L (v :: .ref a :: rest) tl k sl := by
  subst htl
  refine r_put (i := pre.length + i) ((n_gap i).trans hc) (by omega) hf hn hfit hj hd ?_
  rw [n_sap]
  exact kk
theorem tk_putF {idx ci i j a : Nat} {fs : List Value} {ty : FieldType} {v : Value} (hc : tl[i]? = some (.inr (ci, fs))) (ha : a = b + pre.length + i) (hf : n_FF M.1.cls idx ci j ty) (hn : narrow ty v = v) (hfit : fits ty v = true) (hj : j < fs.length) (hd : decode M.2.1 pc = .ok (.putfield idx, 3)) (htl : tl.set i (.inr (ci, fs.set j v)) = tl') (kk : e_Ev X b pre mc ms d M fin (pc + 3) L rest tl' k sl) : e_Ev X b pre mc ms d M fin pc L (v :: .ref a :: rest) tl k sl := by
  subst htl
  refine r_putF (i := pre.length + i) ((n_gap i).trans hc) (by omega) hf hn hfit hj hd ?_
  rw [n_sap]
  exact kk
theorem tk_get {idx ci i j a : Nat} {fs : List Value} {v : Value} (hc : tl[i]? = some (.inr (ci, fs))) (ha : a = b + pre.length + i) (hf : o_FL M.1.cls idx ci j) (hv : fs[j]? = some v) (hd : decode M.2.1 pc = .ok (.getfield idx, 3)) (kk : e_Ev X b pre mc ms d M fin (pc + 3) L (v :: rest) tl k sl) : e_Ev X b pre mc ms d M fin pc L (.ref a :: rest) tl k sl :=
  r_get (i := pre.length + i) ((n_gap i).trans hc) (by omega) hf hv hd kk
theorem tk_iast {i a N : Nat} {f : Nat → Int32} {x y : Int32} (hc : tl[i]? = some (.inl (o_cA X 0, N, .inl f))) (ha : a = b + pre.length + i) (hin : 0 ≤ x.toInt ∧ x.toInt < N) (hd : decode M.2.1 pc = .ok (.iastore, 1)) (htl : tl.set i (.inl (o_cA X 0, N, .inl (upd f x.toNatClampNeg y))) = tl') (kk : e_Ev X b pre mc ms d M fin (pc + 1) L rest tl' k sl) : e_Ev X b pre mc ms d M fin pc L (.int y :: .int x :: .ref a :: rest) tl k sl := by
  subst htl
  refine r_iast (i := pre.length + i) ((n_gap i).trans hc) (by omega) hin hd ?_
  rw [n_sap]
  exact kk
theorem tk_aast {i j a v t ci N : Nat} {f : Nat → Option Nat} {vs : List Value} {Cn : String} {T : u_T} {NN : Nat} {x : Int32} (hc : tl[i]? = some (.inl (o_cA X t, N, .inr (.inr (.inr (.inr f)))))) (ha : a = b + pre.length + i) (htt : (o_tys X)[t]? = some (o_cA X t, .object Cn)) (hcl : vwCl[ci]? = some (Cn, T, NN)) (hv : tl[j]? = some (.inr (ci, vs))) (hva : v = b + pre.length + j) (hin : 0 ≤ x.toInt ∧ x.toInt < N) (hd : decode M.2.1 pc = .ok (.aastore, 1)) (htl : tl.set i (.inl (o_cA X t, N, .inr (.inr (.inr (.inr (va_up f x.toNatClampNeg (some v))))))) = tl') (kk : e_Ev X b pre mc ms d M fin (pc + 1) L rest tl' k sl) : e_Ev X b pre mc ms d M fin pc L (.ref v :: .int x :: .ref a :: rest) tl k sl := by
  subst htl
  refine r_aast (i := pre.length + i) (j := pre.length + j) ((n_gap i).trans hc) (by omega) htt hcl ((n_gap j).trans hv) (by omega) hin hd ?_
  rw [n_sap]
  exact kk
theorem tk_callN {mc' ms' idx a : Nat} {tl0 fin1 : List va_E} {obj : va_E} {L0 : List (Option Value)} {As : List Value} (hnest : (M.1.cls, idx, C.1) ∈ n_nest) (hnm : C.1.name = "<init>") (hret : C.2.2.2 = none) (hcb : o_CB C As.length) (hinst : Cond.instanceMethod C.1 ∈ o_tb) (hd : decode M.2.1 pc = .ok (.invokespecial idx, 3)) (hst : st = As.reverse ++ .ref a :: rest) (hL : o_entN C.2.2.1 (.ref a :: As) = L0) (hlen : (lg_sl (.ref a :: As)).length ≤ C.2.2.1) (hrm : (rest.map fun v => v.category).sum ≤ 8) (hk : k + mc' ≤ mc) (hsl : sl + ms' ≤ ms) (hn : 1 + k = tl.length) (htl0 : tl = tl0 ++ [obj]) (htl : tl0 ++ fin1 = tl') (hE : e_Ev X b (pre ++ tl0) mc' ms' d C fin1 0 L0 [] [obj] 0 0)
    (kk : e_Ev X b pre mc ms (d + 1) M fin (pc + 3) L rest tl' (k + mc') (sl + ms')) : e_Ev X b pre mc ms (d + 1) M fin pc L st tl k sl := by
  subst htl
  subst htl0
  unfold e_Ev at hE kk ⊢
  have hl : (pre ++ (tl0 ++ [obj])).length = (pre ++ tl0).length + 1 := by rw [← List.append_assoc, List.length_append]; rfl
  refine r_callN (fin1 := pre ++ tl0 ++ fin1) hnest hnm hret hcb hinst hd hst hL hlen hrm hk hsl (by rw [List.length_append]; omega) (by omega) ?_ (by rw [List.append_assoc]; exact kk)
  rw [hl, ← List.append_assoc]
  exact hE
theorem tk_callI {mc' ms' idx a : Nat} {tl0 fin1 : List va_E} {obj : va_E} {L0 : List (Option Value)} {As : List Value} (hlink : Cond.methodLink M.1.cls idx C.1 ∈ o_tb) (hnm : C.1.name = "<init>") (hret : C.2.2.2 = none) (hcb : o_CB C As.length) (hinst : Cond.instanceMethod C.1 ∈ o_tb) (hd : decode M.2.1 pc = .ok (.invokespecial idx, 3)) (hst : st = As.reverse ++ .ref a :: rest) (hL : o_entN C.2.2.1 (.ref a :: As) = L0) (hlen : (lg_sl (.ref a :: As)).length ≤ C.2.2.1) (hrm : (rest.map fun v => v.category).sum ≤ 8) (hk : k + mc' ≤ mc) (hsl : sl + ms' ≤ ms) (hn : 1 + k = tl.length) (htl0 : tl = tl0 ++ [obj]) (htl : tl0 ++ fin1 = tl') (hE : e_Ev X b (pre ++ tl0) mc' ms' d C fin1 0 L0 [] [obj] 0 0)
    (kk : e_Ev X b pre mc ms (d + 1) M fin (pc + 3) L rest tl' (k + mc') (sl + ms')) : e_Ev X b pre mc ms (d + 1) M fin pc L st tl k sl := by
  subst htl
  subst htl0
  unfold e_Ev at hE kk ⊢
  have hl : (pre ++ (tl0 ++ [obj])).length = (pre ++ tl0).length + 1 := by rw [← List.append_assoc, List.length_append]; rfl
  refine r_callI (fin1 := pre ++ tl0 ++ fin1) hnm hret hcb hlink hinst hd hst hL hlen hrm hk hsl (by rw [List.length_append]; omega) (by omega) ?_ (by rw [List.append_assoc]; exact kk)
  rw [hl, ← List.append_assoc]
  exact hE
theorem tk_ret (hr : M.2.2.2 = none) (hd : decode M.2.1 pc = .ok (.return_, 1)) (hk : k ≤ mc) (hsl : sl ≤ ms) (hf : tl = fin) : e_Ev X b pre mc ms d M fin pc L [] tl k sl := r_ret hr hd hk hsl (by rw [hf])
end eM
