/-! ===== making objects: the rules that change cells ===== -/
def n_NW (own : String) (idx ci N : Nat) (fs : List Value) : Prop := ∃ (C : String) (T : u_T) (ty : Nat → FieldType), vwCl[ci]? = some (C, T, N) ∧ (∀ w ∈ u_ws C T N, w ∈ o_tb) ∧ (∀ k, k < N → parseFieldDescriptor (T k).2.2.1 = some (ty k)) ∧ Cond.classLink own idx C ∈ o_tb ∧ Cond.instantiable C N ∈ o_tb ∧ Cond.initialized C ∈ o_tb ∧ ∀ j, j < N → defaultValue (ty j) = vp_V fs j
/-- a final field, written in a constructor of its class -/
def n_FF (own : String) (idx ci k : Nat) (ty : FieldType) : Prop := ∃ (C : String) (T : u_T) (N : Nat) (ty0 : Nat → FieldType), vwCl[ci]? = some (C, T, N) ∧ k < N ∧ (∀ w ∈ u_ws C T N, w ∈ o_tb) ∧ Cond.fieldLink own idx (T k).1 (T k).2.1 (T k).2.2.1 ∈ o_tb ∧
  (∀ k, k < N → parseFieldDescriptor (T k).2.2.1 = some (ty0 k)) ∧ (∀ a, a < N → ∀ b, b < N → a ≠ b → (T a).2.1 ≠ (T b).2.1) ∧ (T k).2.2.2 = true ∧ (T k).1 = own ∧ ty0 k = ty
section nM
variable {X : o_Cx} {b n0 mc ms d : Nat} {M C : o_M} {fin : List va_E} {pc : Nat} {L : List (Option Value)} {st rest : List Value} {cs : List va_E} {k sl : Nat}
theorem r_istore_n {k0 : Fin 4} {i : Nat} {x : Int32} (hd : decode M.2.1 pc = .ok (.istore_n k0, 1)) (hi : (k0 : Nat) = i) (hn : i < M.2.2.1) (hc : o_c2 L i = false) (kk : n_Ev X b n0 mc ms d M fin (pc + 1) (L.set i (some (.int x))) rest cs k sl) : n_Ev X b n0 mc ms d M fin pc L (.int x :: rest) cs k sl := by
  intro p e R s m args below meth c H locs ls F hP hS hl
  exact lv_istore_n F.1.1 F.1.2.1 hd hi hl.has hn rfl (fun ls' hl' => kk p e R s m args below meth c H locs ls' F hP hS (o_lh.set1 hc hl'))
theorem r_iinc {i : Nat} {n : Int} {x v : Int32} (hd : decode M.2.1 pc = .ok (.iinc i n, 3)) (hx : L[i]? = some (some (.int x))) (hv : x + Int32.ofInt n = v) (hn : i < M.2.2.1) (hc : o_c2 L i = false) (kk : n_Ev X b n0 mc ms d M fin (pc + 3) (L.set i (some (.int v))) st cs k sl) : n_Ev X b n0 mc ms d M fin pc L st cs k sl := by
  intro p e R s m args below meth c H locs ls F hP hS hl
  obtain ⟨kj, hkj⟩ := List.getElem?_of_mem (o_pairs_mem.mpr hx)
  exact lv_iinc F.1.1 F.1.2.1 hd hl.has hkj hv hn rfl (fun ls' hl' => kk p e R s m args below meth c H locs ls' F hP hS (o_lh.set1 hc hl'))
theorem r_obj {a idx : Nat} (hlink : Cond.methodLink M.1.cls idx Lib.objectInit ∈ o_tb) (hinst : Cond.instanceMethod Lib.objectInit ∈ o_tb) (hcode : Cond.code Lib.objectInit ⟨#[0xb1]⟩ 1 none ∈ o_tb) (hd : decode M.2.1 pc = .ok (.invokespecial idx, 3)) (h1 : 1 ≤ d) (kk : n_Ev X b n0 mc ms d M fin (pc + 3) L [] cs k sl) : n_Ev X b n0 mc ms d M fin pc L [.ref a] cs k sl := by
  intro p e R s m args below meth c H locs ls F hP hS hl
  obtain ⟨hx, hbc, hml, hr, hlk, hown, hts, hK, hSt, hR1, hR2⟩ := id F.1
  exact W.objInit hx hbc hown (hts _ hlink) (hts _ hinst) (hts _ hcode) rfl (by show ls.size = _; rw [hml, hl.1]) rfl hd (by omega) (by show 2 * 0 + 0 + 12 ≤ R.locals; omega) (kk p e R s m args below meth c H locs ls F hP hS hl)
/-- the new cell lies behind all others -/
theorem n_addr {A : Nat → Prop} {x : va_E} {q : Nat} {H1 : Heap} {p : Program} {l : Launch} {e : Env} {R : Room} {s T : State} {m : MethodId} {args : Array Value} {below : List Frame} {meth : Method} {c : Code} {locs : List Loc} {D : va_G} (hP : va_P D vwCl (n_ws b cs ++ [(q, x)]) H1) (hD : va_D A (n_ws b cs ++ [(q, x)])) (hA : ∀ q, A q ↔ b ≤ q) (hT : T.heap = H1) (St : Stand p l e R s m args below meth c T locs (k + 1) sl) (hs : s.heap.size = b + n0) (hn : n0 + k = cs.length) : q = b + cs.length := by
  have hlen : (n_ws b cs).length = cs.length := by unfold n_ws; rw [List.length_mapIdx]
  have hq : (n_ws b cs ++ [(q, x)])[cs.length]? = some (q, x) := by rw [List.getElem?_append_right (by omega), hlen, Nat.sub_self]; rfl
  have h1 : q < H1.size := (hP _ _ hq).lt
  have h2 := St.heapSize
  rw [hT] at h2
  have h3 : b ≤ q := (hA q).mp (hD.2 _ _ hq)
  by_cases h4 : q = b + cs.length
  · exact h4
  · have hi : q - b < cs.length := by omega
    obtain ⟨y, hy⟩ : ∃ y, cs[q - b]? = some y := ⟨_, List.getElem?_eq_getElem hi⟩
    have := hD.1 (q - b) cs.length (b + (q - b), y) (q, x) (by rw [List.getElem?_append_left (by omega)]; exact n_at hy) hq (by show b + (q - b) = q; omega)
    omega
theorem r_new {idx ci N : Nat} {fs : List Value} (h : n_NW M.1.cls idx ci N fs) (hd : decode M.2.1 pc = .ok (.new idx, 3)) (hk : k + 1 ≤ mc) (hsl : sl + N ≤ ms) (hn : n0 + k = cs.length) (kk : n_Ev X b n0 mc ms d M fin (pc + 3) L (.ref (b + cs.length) :: rest) (cs ++ [.inr (ci, fs)]) (k + 1) (sl + N)) : n_Ev X b n0 mc ms d M fin pc L rest cs k sl := by
  intro p e R s m args below meth c H locs ls F hP hS hl
  obtain ⟨C, T, ty, hc, hin, hty, hcl, hinst, hini, hfs⟩ := h
  obtain ⟨⟨hx, hbc, hml, hr, hlk, hown, hts, hK, hSt, hR1, hR2⟩, hnm, hmc, hms, hs, hA, hN⟩ := id F
  refine va_new (Ts := o_tb) (A := o_A X) hx hbc hts hin ty hty hown (hts _ hcl) (hts _ hinst) (hts _ hini) hK hP (n_D fun q hq => (hA q).mpr hq) hS (fun q hq => (hA q).mpr (by omega)) hc hfs (by omega) (by omega) hd (fun q H1 hP1 hD1 hS1 => ?_)
  intro T1 hT St
  have hq := n_addr hP1 hD1 hA hT St hs hn
  subst hq
  rw [n_app] at hP1
  exact kk p e R s m args below meth c H1 locs ls F hP1 hS1 hl T1 hT St
theorem r_newa {t N : Nat} {ty : FieldType} {atype : ArrayType} {a0 : vp_A} {n : Int32} (htt : (o_tys X)[t]? = some (o_cA X t, ty)) (hnt : ∀ C, ty ≠ .object C) (hty : newarray.typeOf atype = ty) (harr : Cond.arrayClass (newarray.typeOf atype) ∈ o_tb) (ha : ∀ cA : ClassId, vp_cell cA a0 = arrV cA N (fun _ => defaultValue ty)) (hneg : ¬ n < 0) (hN : n.toNatClampNeg = N) (hbytes : N * componentBytes ty ≤ 536870912) (hd : decode M.2.1 pc = .ok (.newarray atype, 2)) (hk : k + 1 ≤ mc) (hsl : sl + N ≤ ms) (hn : n0 + k = cs.length) (kk : n_Ev X b n0 mc ms d M fin (pc + 2) L (.ref (b + cs.length) :: rest) (cs ++ [.inl (o_cA X t, a0)]) (k + 1) (sl + N)) : n_Ev X b n0 mc ms d M fin pc L (.int n :: rest) cs k sl := by
  intro p e R s m args below meth c H locs ls F hP hS hl
  obtain ⟨⟨hx, hbc, hml, hr, hlk, hown, hts, hK, hSt, hR1, hR2⟩, hnm, hmc, hms, hs, hA, hNs⟩ := id F
  refine va_newa (A := o_A X) (a0 := a0) hx hbc (hts _ harr) hty hK hP (n_D fun q hq => (hA q).mpr hq) hS (fun q hq => (hA q).mpr (by omega)) ha hneg hN hbytes (by omega) (by omega) hd (fun q cA H1 hK1 hP1 hD1 hS1 => ?_)
  have e1 := (hK.2 t _ htt).2
  have e2 := (hK1.2 (o_tys X).length (cA, ty) (by rw [List.getElem?_append_right (Nat.le_refl _), Nat.sub_self]; rfl)).2
  have hcA : cA = o_cA X t := by
    cases ty with
    | object C => exact absurd rfl (hnt C)
    | _ => exact Option.some.inj (e2.symm.trans e1)
  subst hcA
  intro T1 hT St
  have hq := n_addr hP1 hD1 hA hT St hs hn
  subst hq
  rw [n_app] at hP1
  exact kk p e R s m args below meth c H1 locs ls F hP1 hS1 hl T1 hT St
theorem r_newq {t N idx : Nat} {Cn : String} {n : Int32} (htt : (o_tys X)[t]? = some (o_cA X t, .object Cn)) (hC : Cn ∈ n_arrs) (hcl : Cond.classLink M.1.cls idx Cn ∈ o_tb) (hneg : ¬ n < 0) (hN : n.toNatClampNeg = N) (hbytes : N * 4 ≤ 536870912) (hd : decode M.2.1 pc = .ok (.anewarray idx, 3)) (hk : k + 1 ≤ mc) (hsl : sl + N ≤ ms) (hn : n0 + k = cs.length) (kk : n_Ev X b n0 mc ms d M fin (pc + 3) L (.ref (b + cs.length) :: rest) (cs ++ [.inl (o_cA X t, N, .inr (.inr (.inr (.inr (fun _ => none)))))]) (k + 1) (sl + N)) : n_Ev X b n0 mc ms d M fin pc L (.int n :: rest) cs k sl := by
  intro p e R s m args below meth c H locs ls F hP hS hl
  obtain ⟨⟨hx, hbc, hml, hr, hlk, hown, hts, hK, hSt, hR1, hR2⟩, hnm, hmc, hms, hs, hA, hNs⟩ := id F
  refine va_newq (A := o_A X) hx hbc hown (hts _ hcl) (hNs.1 Cn hC) hK hP (n_D fun q hq => (hA q).mpr hq) hS (fun q hq => (hA q).mpr (by omega)) hneg hN hbytes (by omega) (by omega) hd (fun q cA H1 hK1 hP1 hD1 hS1 => ?_)
  obtain ⟨_, _, _, _, _, e1⟩ := (hK.2 t _ htt).2
  obtain ⟨_, _, _, _, _, e2⟩ := (hK1.2 (o_tys X).length (cA, .object Cn) (by rw [List.getElem?_append_right (Nat.le_refl _), Nat.sub_self]; rfl)).2
  have hcA : cA = o_cA X t := Option.some.inj (e2.symm.trans e1)
  subst hcA
  intro T1 hT St
  have hq := n_addr hP1 hD1 hA hT St hs hn
  subst hq
  rw [n_app] at hP1
  exact kk p e R s m args below meth c H1 locs ls F hP1 hS1 hl T1 hT St
theorem r_put {idx ci i j a : Nat} {fs : List Value} {ty : FieldType} {v : Value} (hc : cs[i]? = some (.inr (ci, fs))) (ha : a = b + i) (hf : o_FW M.1.cls idx ci j ty) (hn : narrow ty v = v) (hfit : fits ty v = true) (hj : j < fs.length) (hd : decode M.2.1 pc = .ok (.putfield idx, 3)) (kk : n_Ev X b n0 mc ms d M fin (pc + 3) L rest (cs.set i (.inr (ci, fs.set j v))) k sl) : n_Ev X b n0 mc ms d M fin pc L (v :: .ref a :: rest) cs k sl := by
  intro p e R s m args below meth c H locs ls F hP hS hl
  subst ha
  obtain ⟨C, T, N, ty0, hcl, hkN, hin, hw, hty, hnm, hfin, ety⟩ := hf
  obtain ⟨⟨hx, hbc, hml, hr, hlk, hown, hts, hK, hSt, hR1, hR2⟩, hnm', hmc, hms, hs, hA, hNs⟩ := id F
  refine va_put (Ts := o_tb) (A := o_A X) hx hbc hts hin ty0 hty hnm hown hK hP (n_D fun q hq => (hA q).mpr hq) hS i (n_at hc) hcl j hkN (hts _ hw) (fun _ h9 => h9) hfin (by rw [hty j hkN, ety]) hn hfit hj hd (fun H1 locs1 hP1 hD1 hS1 => ?_)
  rw [n_set] at hP1
  exact kk p e R s m args below meth c H1 locs1 ls F hP1 hS1 hl
theorem r_putF {idx ci i j a : Nat} {fs : List Value} {ty : FieldType} {v : Value} (hc : cs[i]? = some (.inr (ci, fs))) (ha : a = b + i) (hf : n_FF M.1.cls idx ci j ty) (hn : narrow ty v = v) (hfit : fits ty v = true) (hj : j < fs.length) (hd : decode M.2.1 pc = .ok (.putfield idx, 3)) (kk : n_Ev X b n0 mc ms d M fin (pc + 3) L rest (cs.set i (.inr (ci, fs.set j v))) k sl) : n_Ev X b n0 mc ms d M fin pc L (v :: .ref a :: rest) cs k sl := by
  intro p e R s m args below meth c H locs ls F hP hS hl
  subst ha
  obtain ⟨C, T, N, ty0, hcl, hkN, hin, hw, hty, hnm, hfin, hdecl, ety⟩ := hf
  obtain ⟨⟨hx, hbc, hml, hr, hlk, hown, hts, hK, hSt, hR1, hR2⟩, hnm', hmc, hms, hs, hA, hNs⟩ := id F
  refine va_putF (Ts := o_tb) (A := o_A X) hx hbc hts hin ty0 hty hnm hown hK hP (n_D fun q hq => (hA q).mpr hq) hS i (n_at hc) hcl j hkN (hts _ hw) (fun _ h9 => h9) hfin hnm' hdecl (by rw [hty j hkN, ety]) hn hfit hj hd (fun H1 locs1 hP1 hD1 hS1 => ?_)
  rw [n_set] at hP1
  exact kk p e R s m args below meth c H1 locs1 ls F hP1 hS1 hl
theorem r_get {idx ci i j a : Nat} {fs : List Value} {v : Value} (hc : cs[i]? = some (.inr (ci, fs))) (ha : a = b + i) (hf : o_FL M.1.cls idx ci j) (hv : fs[j]? = some v) (hd : decode M.2.1 pc = .ok (.getfield idx, 3)) (kk : n_Ev X b n0 mc ms d M fin (pc + 3) L (v :: rest) cs k sl) : n_Ev X b n0 mc ms d M fin pc L (.ref a :: rest) cs k sl := by
  intro p e R s m args below meth c H locs ls F hP hS hl
  subst ha
  obtain ⟨C, T, N, hcl, hkN, hin, hw⟩ := hf
  obtain ⟨⟨hx, hbc, hml, hr, hlk, hown, hts, hK, hSt, hR1, hR2⟩, hnm', hmc, hms, hs, hA, hNs⟩ := id F
  exact va_get (Ts := o_tb) hx hbc hts hin hown hK hP i (n_at hc) hcl j hkN (hts _ hw) (fun _ h9 => h9) hv hd (kk p e R s m args below meth c H locs ls F hP hS hl)
theorem r_iast {i a N : Nat} {f : Nat → Int32} {x y : Int32} (hc : cs[i]? = some (.inl (o_cA X 0, N, .inl f))) (ha : a = b + i) (hin : 0 ≤ x.toInt ∧ x.toInt < N) (hd : decode M.2.1 pc = .ok (.iastore, 1)) (kk : n_Ev X b n0 mc ms d M fin (pc + 1) L rest (cs.set i (.inl (o_cA X 0, N, .inl (upd f x.toNatClampNeg y)))) k sl) : n_Ev X b n0 mc ms d M fin pc L (.int y :: .int x :: .ref a :: rest) cs k sl := by
  intro p e R s m args below meth c H locs ls F hP hS hl
  subst ha
  obtain ⟨⟨hx, hbc, hml, hr, hlk, hown, hts, hK, hSt, hR1, hR2⟩, hnm', hmc, hms, hs, hA, hNs⟩ := id F
  refine va_iast (A := o_A X) hx hbc hK hP (n_D fun q hq => (hA q).mpr hq) hS i 0 (n_at hc) rfl (o_in hin) hd (fun H1 locs1 hP1 hD1 hS1 => ?_)
  rw [n_set] at hP1
  exact kk p e R s m args below meth c H1 locs1 ls F hP1 hS1 hl
theorem r_aast {i j a v t ci N : Nat} {f : Nat → Option Nat} {vs : List Value} {Cn : String} {T : u_T} {NN : Nat} {x : Int32} (hc : cs[i]? = some (.inl (o_cA X t, N, .inr (.inr (.inr (.inr f)))))) (ha : a = b + i) (htt : (o_tys X)[t]? = some (o_cA X t, .object Cn)) (hcl : vwCl[ci]? = some (Cn, T, NN)) (hv : cs[j]? = some (.inr (ci, vs))) (hva : v = b + j) (hin : 0 ≤ x.toInt ∧ x.toInt < N) (hd : decode M.2.1 pc = .ok (.aastore, 1)) (kk : n_Ev X b n0 mc ms d M fin (pc + 1) L rest (cs.set i (.inl (o_cA X t, N, .inr (.inr (.inr (.inr (va_up f x.toNatClampNeg (some v)))))))) k sl) : n_Ev X b n0 mc ms d M fin pc L (.ref v :: .int x :: .ref a :: rest) cs k sl := by
  intro p e R s m args below meth c H locs ls F hP hS hl
  subst ha
  subst hva
  obtain ⟨⟨hx, hbc, hml, hr, hlk, hown, hts, hK, hSt, hR1, hR2⟩, hnm', hmc, hms, hs, hA, hNs⟩ := id F
  refine va_astq (A := o_A X) (r := (Cn, T, NN)) hx hbc hK hP (n_D fun q hq => (hA q).mpr hq) hS i t j ci (n_at hc) htt (n_at hv) hcl (o_in hin) hd (fun H1 locs1 hP1 hD1 hS1 => ?_)
  rw [n_set] at hP1
  exact kk p e R s m args below meth c H1 locs1 ls F hP1 hS1 hl
theorem r_ret (hr : M.2.2.2 = none) (hd : decode M.2.1 pc = .ok (.return_, 1)) (hk : k ≤ mc) (hsl : sl ≤ ms) (hf : cs = fin) : n_Ev X b n0 mc ms d M fin pc L [] cs k sl := by
  intro p e R s m args below meth c H locs ls F hP hS hl
  subst hf
  refine W.widen (k := mc) (n := ms) hk hsl ?_
  exact W.vret F.1.1 F.1.2.1 (F.1.2.2.2.1.trans hr) (fun t ht hW => ⟨rfl, by rw [ht]; exact hP, hS.F ht⟩) hS.2.2 hd F.1.2.2.2.2.1
end nM
