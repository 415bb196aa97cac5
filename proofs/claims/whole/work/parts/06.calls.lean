/-! ===== rules: calls ===== -/
def o_ent (vs : List Value) : List (Option Value) := vs.flatMap fun v => if v.category = 2 then [some v, none] else [some v]
def o_entN (n : Nat) (vs : List Value) : List (Option Value) := o_ent vs ++ List.replicate (n - (o_ent vs).length) none
theorem o_ent_at : ∀ (vs : List Value) (j i : Nat) (v : Value), (o_ent vs)[i]? = some (some v) → (j + i, v) ∈ lv_args j vs
  | [], j, i, v, h => by simp [o_ent] at h
  | w :: vs, j, i, v, h => by
    by_cases hc : w.category = 2
    · have e : o_ent (w :: vs) = some w :: none :: o_ent vs := by simp [o_ent, hc]
      rw [e] at h
      match i, h with
      | 0, h =>
        have : w = v := by simpa using h
        subst this
        exact List.mem_cons_self
      | 1, h => simp at h
      | i + 2, h =>
        have h' : (o_ent vs)[i]? = some (some v) := by simpa using h
        have := o_ent_at vs (j + 2) i v h'
        rw [lv_args, if_pos hc]
        refine List.mem_cons_of_mem _ ?_
        rw [show j + (i + 2) = j + 2 + i by omega]
        exact this
    · have e : o_ent (w :: vs) = some w :: o_ent vs := by simp [o_ent, hc]
      rw [e] at h
      match i, h with
      | 0, h =>
        have : w = v := by simpa using h
        subst this
        exact List.mem_cons_self
      | i + 1, h =>
        have h' : (o_ent vs)[i]? = some (some v) := by simpa using h
        have := o_ent_at vs (j + 1) i v h'
        rw [lv_args, if_neg hc]
        refine List.mem_cons_of_mem _ ?_
        rw [show j + (i + 1) = j + 1 + i by omega]
        exact this
theorem o_entN_at {n : Nat} {vs : List Value} {i : Nat} {v : Value} (h : (o_entN n vs)[i]? = some (some v)) : (i, v) ∈ lv_args 0 vs := by
  unfold o_entN at h
  rw [List.getElem?_append] at h
  split at h
  · have := o_ent_at vs 0 i v h
    rwa [Nat.zero_add] at this
  · rw [List.getElem?_replicate] at h
    split at h <;> cases h
def o_rm (d : Nat) : Room := { frames := d, cells := 0, slots := 0, locals := 48 * d }
def o_code (C : o_M) : Cond := .code C.1 C.2.1 C.2.2.1 C.2.2.2
def o_Pc (X : o_Cx) (μ : o_Mem) (av : List Value) : Array Value → State → Prop := va_Pc av (fun U => va_P (o_D X) vwCl (o_ws X μ) U.heap ∧ va_K (o_D X) vwCl (o_tys X) U ∧ o_St X U)
theorem o_St_same {X : o_Cx} {u U : State} (h1 : U.vm = u.vm) (h2 : U.heap = u.heap) (h : o_St X u) : o_St X U := by
  obtain ⟨a1, a2, a3, a4, a5, a6⟩ := h
  have hv : u.vm.Alike U.vm := by rw [h1]; exact Vm.Alike.refl _
  exact ⟨vk_R.same h1 a1, vk_R.same h1 a2, by rw [h2]; exact vk_S.moved hv a3, by rw [h2]; exact va_Z.moved hv a4, va_Nw.same rfl h1.symm a5, by rw [h2]; exact a6.imp (va_Z.moved hv) (fun ⟨t, z⟩ => ⟨t, va_Z.moved hv z⟩)⟩
theorem o_St_warm {X : o_Cx} {s U : State} {locs : List Loc} (hW : s.WarmedH U.vm) (hS : va_S (o_A X) s.heap U.heap locs) (h : o_St X s) : o_St X U := by
  obtain ⟨a1, a2, a3, a4, a5, a6⟩ := h
  exact ⟨vk_R.warm hW a1, vk_R.warm hW a2, (vk_S.moved hW.alike a3).kept hS.2.1, (va_Z.moved hW.alike a4).kept hS.2.1, va_Nw.warmM hW a5, a6.imp (fun z => (va_Z.moved hW.alike z).kept hS.2.1) (fun ⟨t, z⟩ => ⟨t, (va_Z.moved hW.alike z).kept hS.2.1⟩)⟩
theorem o_blind {X : o_Cx} {μ : o_Mem} {av : List Value} : FrameBlind (o_Pc X μ av) := fun a U g mk q => ⟨q.1, q.2.1, va_K.moved (u := U) (U := U.calling g mk a) (Vm.Alike.refl U.vm) q.2.2.1, o_St_same (u := U) (U := U.calling g mk a) rfl rfl q.2.2.2⟩
theorem o_met {X : o_Cx} {d : Nat} {C : o_M} {av : List Value} {L0 : List (Option Value)} {μ : o_Mem} {Q : Option Value → o_Mem → Prop} (hL : o_entN C.2.2.1 av = L0) (hlen : (lg_sl av).length ≤ C.2.2.1) (hpn : plainName C.1.cls = true) (h : o_Ev X d C 0 L0 [] μ Q) :
    Met (o_l X) C.1 (o_code C :: o_tb) (o_rm d) (o_Pc X μ av) (o_QQ X Q) 0 0 (o_A X) := by
  refine Met.ofW (cc := C.2.1) (maxL := C.2.2.1) (ret := C.2.2.2) hpn rfl ?_
  intro p e s m args below meth c s₁ B hml hv
  obtain ⟨rfl, hP, hK, hSt⟩ := hv
  have hts := atoms_spec (ws := o_code C :: o_tb) B.pre
  have hl := lv_entry av (n := C.2.2.1) hlen
  rw [lg_entry_eq]
  generalize (lg_sl av ++ List.replicate (C.2.2.1 - (lg_sl av).length) Slot.unset).toArray = ls at hl ⊢
  exact h p e (o_rm d) s m _ below meth c s.heap [] ls ⟨B.exec, B.bytes, hml, B.returns, B.notSynchronized, findClass_of_methodNamed B.named, fun w hw => hts w (List.mem_cons_of_mem _ hw), hK, hSt, Nat.le_refl _, Nat.le_refl _⟩ hP va_S.rf
    ⟨hl.1, hl.2.1, fun i v hi => by rw [← hL] at hi; exact hl.2.2 (i, v) (o_entN_at hi)⟩
theorem o_good {C : o_M} (h : o_code C ∈ o_tb) : GoodIn o_tb (o_code C :: o_tb) := by
  intro w hw
  rcases List.mem_cons.mp hw with rfl | hw
  · exact ⟨h, good_of_word (o_tb_good h)⟩
  · exact ⟨hw, good_of_word (o_tb_good hw)⟩
/-- what a call of C needs: the words of the link, its code's, how many arguments -/
def o_CB (C : o_M) (n : Nat) : Prop := o_code C ∈ o_tb ∧ Cond.initialized C.1.cls ∈ o_tb ∧ (C.1.cls ≠ "java/lang/invoke/MethodHandle" ∧ C.1.cls ≠ "java/lang/invoke/VarHandle" ∧ (parseMethodDescriptor C.1.desc).map (fun d => d.parameters.length) = some n) ∧ plainName C.1.cls = true ∧ C.2.2.1 ≤ 29
def o_CV (own : String) (idx ci : Nat) (C : o_M) (n : Nat) : Prop := o_CB C n ∧ Cond.methodLink own idx C.1 ∈ o_tb ∧ Cond.instanceMethod C.1 ∈ o_tb ∧ Cond.selects C.1.cls C.1 C.1 ∈ o_tb ∧ ∃ (T : u_T) (N : Nat), vwCl[ci]? = some (C.1.cls, T, N)
def o_CS (own : String) (idx : Nat) (C : o_M) (n : Nat) : Prop := o_CB C n ∧ Cond.methodLink own idx C.1 ∈ o_tb ∧ Cond.static C.1 ∈ o_tb
theorem o_after {X : o_Cx} {p : Program} {e : Env} {R : Room} {s : State} {m : MethodId} {args : Array Value} {below : List Frame} {meth : Method} {c : Code} {H : Heap} {locs : List Loc} {pc : Nat} {ls : Array Slot} {st0 rest : List Value} {q : Option Value → o_Mem → Prop} {a : Array Value} {Qw : State → Prop}
    (hr : va_Run p (o_l X) e R s m args below meth c H locs 0 0 0 0 (F0 m pc ls st0) rest (o_QQ X q a) (o_A X)) (hS : va_S (o_A X) s.heap H locs)
    (kk : ∀ (v : Option Value) (μ : o_Mem) (H1 : Heap) (locs1 : List Loc), q v μ → va_P (o_D X) vwCl (o_ws X μ) H1 → va_S (o_A X) s.heap H1 locs1 → W p (o_l X) e R s m args below meth c H1 locs1 0 0 Qw (F0 m (pc + 3) ls (v.toList ++ rest))) : W p (o_l X) e R s m args below meth c H locs 0 0 Qw (F0 m pc ls st0) := by
  intro T hT Xs
  obtain ⟨v, st₀, t, T', L, h0, X', hL, e1, e2, ⟨v', μ', hv, hq, hP, hz, hk⟩, st⟩ := hr T hT Xs
  cases hv
  rw [h0] at hz hk
  obtain ⟨t2, a1, b1⟩ := kk v μ' T'.heap (locs ++ L) hq (by rw [e1]; exact hP)
    ⟨Nat.le_trans hS.1 (by rw [e1]; exact hz), fun q h1 h2 => by rw [e1, hk q (Nat.lt_of_lt_of_le h1 hS.1) h2]; exact hS.2.1 q h1 h2, fun q hq => by
      rcases List.mem_append.mp hq with h | h
      · exact hS.2.2 q h
      · exact hL q h⟩ T' rfl X'
  exact ⟨t2, st t2 a1, b1⟩
section oC
variable {X : o_Cx} {d : Nat} {M C : o_M} {pc : Nat} {L L0 : List (Option Value)} {st rest As : List Value} {μ : o_Mem} {Q q : Option Value → o_Mem → Prop} {b ci idx : Nat}
theorem o_roomle {d : Nat} {R : Room} {C : o_M} (h1 : d + 1 ≤ R.frames) (h2 : 48 * (d + 1) ≤ R.locals) (h3 : C.2.2.1 ≤ 29) : (o_rm d).frames + 1 ≤ R.frames ∧ 8 + (C.2.2.1 + 11) + (o_rm d).locals ≤ R.locals := ⟨h1, by show 8 + (C.2.2.1 + 11) + 48 * d ≤ R.locals; omega⟩
theorem s_callV (hX : o_ok X) (hb : o_is X b (.inl ci)) (hc : o_CV M.1.cls idx ci C As.length) (hd : decode M.2.1 pc = .ok (.invokevirtual idx, 3)) (hst : st = As.reverse ++ .ref (o_ad X b) :: rest) (hL : o_entN C.2.2.1 (.ref (o_ad X b) :: As) = L0) (hlen : (lg_sl (.ref (o_ad X b) :: As)).length ≤ C.2.2.1) (hrm : (rest.map fun v => v.category).sum ≤ 8) (hE : o_Ev X d C 0 L0 [] μ q)
    (k : ∀ v μ', q v μ' → o_Ev X (d + 1) M (pc + 3) L (v.toList ++ rest) μ' Q) : o_Ev X (d + 1) M pc L st μ Q := by
  intro p e R s m args below meth c H locs ls F hP hS hl
  obtain ⟨⟨hcode, hini, hd3, hpn, h29⟩, hlink, hinst, hsel, T, N, hcl⟩ := hc
  obtain ⟨hx, hbc, hml, hr, hlk, hown, hts, hK, hSt, hR1, hR2⟩ := id F
  have hM := o_met hL hlen hpn hE
  have cb : CallB R s args M.1.cls idx C.1 C.2.1 C.2.2.1 C.2.2.2 (o_code C :: o_tb) (o_rm d) 0 0 As.length := callB_of As.length hts (o_good hcode) rfl rfl rfl (hts _ hini) (hts _ hlink) hd3 (o_roomle hR1 hR2 h29)
  refine o_after (a := (Value.ref (o_ad X b) :: As).toArray) (va_runV (Ts := o_tb) (C := C.1.cls) (As := As) ⟨hx, hbc, hml, hown, hts⟩ hM ⟨cb, hts _ hinst, hts _ hsel⟩ ⟨o_blind, ?_, fun U hU hW => ⟨rfl, by rw [hU]; exact hP, va_K.moved hW.alike hK, o_St_warm (locs := locs) hW (by rw [hU]; exact hS) hSt⟩⟩ rfl rfl hl.1 hst (lv_room hrm) hd ⟨Nat.zero_le _, Nat.zero_le _⟩) hS (fun v μ' H1 locs1 hq hP1 hS1 => k v μ' hq p e R s m args below meth c H1 locs1 ls F hP1 hS1 hl)
  exact va_recv hK hP hcl (o_is_cell hb)
theorem s_callS (hc : o_CS M.1.cls idx C As.length) (hd : decode M.2.1 pc = .ok (.invokestatic idx, 3)) (hst : st = As.reverse ++ rest) (hL : o_entN C.2.2.1 As = L0) (hlen : (lg_sl As).length ≤ C.2.2.1) (hrm : (rest.map fun v => v.category).sum ≤ 8) (hE : o_Ev X d C 0 L0 [] μ q)
    (k : ∀ v μ', q v μ' → o_Ev X (d + 1) M (pc + 3) L (v.toList ++ rest) μ' Q) : o_Ev X (d + 1) M pc L st μ Q := by
  intro p e R s m args below meth c H locs ls F hP hS hl
  obtain ⟨⟨hcode, hini, hd3, hpn, h29⟩, hlink, hstat⟩ := hc
  obtain ⟨hx, hbc, hml, hr, hlk, hown, hts, hK, hSt, hR1, hR2⟩ := id F
  have hM := o_met hL hlen hpn hE
  have cb : CallB R s args M.1.cls idx C.1 C.2.1 C.2.2.1 C.2.2.2 (o_code C :: o_tb) (o_rm d) 0 0 As.length := callB_of As.length hts (o_good hcode) rfl rfl rfl (hts _ hini) (hts _ hlink) hd3 (o_roomle hR1 hR2 h29)
  exact o_after (a := As.toArray) (va_runS (Ts := o_tb) (As := As) ⟨hx, hbc, hml, hown, hts⟩ hM ⟨cb, hts _ hstat⟩ ⟨o_blind, fun U hU hW => ⟨rfl, by rw [hU]; exact hP, va_K.moved hW.alike hK, o_St_warm (locs := locs) hW (by rw [hU]; exact hS) hSt⟩⟩ rfl rfl hl.1 hst (lv_room hrm) hd ⟨Nat.zero_le _, Nat.zero_le _⟩) hS (fun v μ' H1 locs1 hq hP1 hS1 => k v μ' hq p e R s m args below meth c H1 locs1 ls F hP1 hS1 hl)
/-- the one call into the host's own private method: OddCancel.within out of Valley -/
theorem s_callN (hm : M.1.cls = "OddCancel$Valley") (hi : idx = 102) (hC : C.1 = yX11_within) (hc : o_CB C As.length) (hstat : Cond.static C.1 ∈ o_tb) (hd : decode M.2.1 pc = .ok (.invokestatic idx, 3)) (hst : st = As.reverse ++ rest) (hL : o_entN C.2.2.1 As = L0) (hlen : (lg_sl As).length ≤ C.2.2.1) (hrm : (rest.map fun v => v.category).sum ≤ 8) (hE : o_Ev X d C 0 L0 [] μ q)
    (k : ∀ v μ', q v μ' → o_Ev X (d + 1) M (pc + 3) L (v.toList ++ rest) μ' Q) : o_Ev X (d + 1) M pc L st μ Q := by
  intro p e R s m args below meth c H locs ls F hP hS hl
  obtain ⟨hcode, hini, hd3, hpn, h29⟩ := hc
  obtain ⟨hx, hbc, hml, hr, hlk, hown, hts, hK, hSt, hR1, hR2⟩ := id F
  have hM := o_met hL hlen hpn hE
  have hnw : va_Nw (.methodLinkNest M.1.cls idx C.1 "OddCancel") s := by rw [hm, hi, hC]; exact hSt.2.2.2.2.1
  have cb := va_cnB (R := R) (args := args) As.length hts (o_good hcode) rfl (rm := o_rm d) (mc := 0) (ms := 0) rfl rfl hnw (hts _ hini) hd3 (o_roomle hR1 hR2 h29)
  exact o_after (a := As.toArray) (va_runSN (Ts := o_tb) (As := As) ⟨hx, hbc, hml, hown, hts⟩ hM ⟨cb, hts _ hstat, trivial⟩ ⟨o_blind, fun U hU hW => ⟨rfl, by rw [hU]; exact hP, va_K.moved hW.alike hK, o_St_warm (locs := locs) hW (by rw [hU]; exact hS) hSt⟩⟩ rfl rfl hl.1 hst (lv_room hrm) hd ⟨Nat.zero_le _, Nat.zero_le _⟩) hS (fun v μ' H1 locs1 hq hP1 hS1 => k v μ' hq p e R s m args below meth c H1 locs1 ls F hP1 hS1 hl)
theorem s_max {x y : Int32} (hlink : Cond.methodLink M.1.cls idx Lib.Math.max.name ∈ o_tb) (hstat : Cond.static Lib.Math.max.name ∈ o_tb) (hini : Cond.initialized "java/lang/Math" ∈ o_tb) (hcode : Cond.code Lib.Math.max.name Lib.Math.max.code 2 (some .int) ∈ o_tb) (hrm : (rest.map fun v => v.category).sum ≤ 8) (hd : decode M.2.1 pc = .ok (.invokestatic idx, 3)) (k : o_Ev X (d + 1) M (pc + 3) L (.int (if x < y then y else x) :: rest) μ Q) : o_Ev X (d + 1) M pc L (.int y :: .int x :: rest) μ Q := by
  intro p e R s m args below meth c H locs ls F hP hS hl
  obtain ⟨hx, hbc, hml, hr, hlk, hown, hts, hK, hSt, hR1, hR2⟩ := id F
  exact va_mmax hx hbc (by rw [hml, hl.1]) hown (hts _ hlink) (hts _ hstat) (hts _ hini) (hts _ hcode) (by omega) (by omega) (Nat.zero_le _) (Nat.zero_le _) hd (k p e R s m args below meth c H locs ls F hP hS hl)
theorem s_min {x y : Int32} (hlink : Cond.methodLink M.1.cls idx Lib.Math.min.name ∈ o_tb) (hstat : Cond.static Lib.Math.min.name ∈ o_tb) (hini : Cond.initialized "java/lang/Math" ∈ o_tb) (hcode : Cond.code Lib.Math.min.name Lib.Math.min.code 2 (some .int) ∈ o_tb) (hrm : (rest.map fun v => v.category).sum ≤ 8) (hd : decode M.2.1 pc = .ok (.invokestatic idx, 3)) (k : o_Ev X (d + 1) M (pc + 3) L (.int (if x > y then y else x) :: rest) μ Q) : o_Ev X (d + 1) M pc L (.int y :: .int x :: rest) μ Q := by
  intro p e R s m args below meth c H locs ls F hP hS hl
  obtain ⟨hx, hbc, hml, hr, hlk, hown, hts, hK, hSt, hR1, hR2⟩ := id F
  exact va_mmin hx hbc (by rw [hml, hl.1]) hown (hts _ hlink) (hts _ hstat) (hts _ hini) (hts _ hcode) (by omega) (by omega) (Nat.zero_le _) (Nat.zero_le _) hd (k p e R s m args below meth c H locs ls F hP hS hl)
/-- System.arraycopy between int arrays, long arrays -/
theorem s_copyI {a a' n n' : Nat} {sp dp z : Int32} (hX : o_ok X) (h : o_is X a (.inr (0, n))) (h' : o_is X a' (.inr (0, n'))) (hlink : Cond.methodLink M.1.cls idx arraycopyName ∈ o_tb) (hnat : Cond.native arraycopyName ∈ o_tb) (hstat : Cond.static arraycopyName ∈ o_tb) (hini : Cond.initialized "java/lang/System" ∈ o_tb) (h1 : ¬ sp < 0) (h2 : ¬ dp < 0) (h3 : ¬ z < 0) (h4 : sp.toNatClampNeg + z.toNatClampNeg ≤ n) (h5 : dp.toNatClampNeg + z.toNatClampNeg ≤ n') (hrm : (rest.map fun v => v.category).sum ≤ 8) (hd : decode M.2.1 pc = .ok (.invokestatic idx, 3))
    (k : o_Ev X (d + 1) M (pc + 3) L rest (o_sI μ a' (va_cpy (μ.1 a) (μ.1 a') sp.toNatClampNeg dp.toNatClampNeg z.toNatClampNeg)) Q) : o_Ev X (d + 1) M pc L (.int z :: .int dp :: .ref (o_ad X a') :: .int sp :: .ref (o_ad X a) :: rest) μ Q := by
  intro p e R s m args below meth c H locs ls F hP hS hl
  obtain ⟨hx, hbc, hml, hr, hlk, hown, hts, hK, hSt, hR1, hR2⟩ := id F
  have hnf : nativeFrameWords "java/lang/System" "arraycopy" 5 + 11 ≤ 40 := by decide
  refine va_copyi hx hbc (by rw [hml, hl.1]) hown (hts _ hlink) (hts _ hnat) (hts _ hstat) (hts _ hini) hK hP (o_ws_D hX) hS a a' 0 0 (ty := .int) (o_is_cell h) (o_is_cell h') rfl rfl rfl h1 h2 h3 h4 h5 (fun _ _ => rfl) (by omega) (by omega) hd (fun H1 locs1 hP1 hD1 hS1 => ?_)
  exact k p e R s m args below meth c H1 locs1 ls F (by rw [← o_set_aI h' (Or.inl rfl)]; exact hP1) hS1 hl
theorem s_copyL {a a' n n' : Nat} {sp dp z : Int32} (hX : o_ok X) (h : o_is X a (.inr (2, n))) (h' : o_is X a' (.inr (2, n'))) (hlink : Cond.methodLink M.1.cls idx arraycopyName ∈ o_tb) (hnat : Cond.native arraycopyName ∈ o_tb) (hstat : Cond.static arraycopyName ∈ o_tb) (hini : Cond.initialized "java/lang/System" ∈ o_tb) (h1 : ¬ sp < 0) (h2 : ¬ dp < 0) (h3 : ¬ z < 0) (h4 : sp.toNatClampNeg + z.toNatClampNeg ≤ n) (h5 : dp.toNatClampNeg + z.toNatClampNeg ≤ n') (hrm : (rest.map fun v => v.category).sum ≤ 8) (hd : decode M.2.1 pc = .ok (.invokestatic idx, 3))
    (k : o_Ev X (d + 1) M (pc + 3) L rest (o_sL μ a' (va_cpy (μ.2 a) (μ.2 a') sp.toNatClampNeg dp.toNatClampNeg z.toNatClampNeg)) Q) : o_Ev X (d + 1) M pc L (.int z :: .int dp :: .ref (o_ad X a') :: .int sp :: .ref (o_ad X a) :: rest) μ Q := by
  intro p e R s m args below meth c H locs ls F hP hS hl
  obtain ⟨hx, hbc, hml, hr, hlk, hown, hts, hK, hSt, hR1, hR2⟩ := id F
  have hnf : nativeFrameWords "java/lang/System" "arraycopy" 5 + 11 ≤ 40 := by decide
  refine va_copyl hx hbc (by rw [hml, hl.1]) hown (hts _ hlink) (hts _ hnat) (hts _ hstat) (hts _ hini) hK hP (o_ws_D hX) hS a a' 2 2 (ty := .long) (o_is_cell h) (o_is_cell h') rfl rfl rfl h1 h2 h3 h4 h5 (fun _ _ => rfl) (by omega) (by omega) hd (fun H1 locs1 hP1 hD1 hS1 => ?_)
  exact k p e R s m args below meth c H1 locs1 ls F (by rw [← o_set_aL h']; exact hP1) hS1 hl
end oC
