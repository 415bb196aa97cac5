/-! ===== making objects: calls of constructors ===== -/
def n_rm (d mc ms : Nat) : Room := { frames := d, cells := mc, slots := ms, locals := 48 * d }
def n_Pc (X : o_Cx) (b : Nat) (cs : List va_E) (av : List Value) : Array Value → State → Prop := va_Pc av (fun U => U.heap.size = b + cs.length ∧ va_P (o_D X) vwCl (n_ws b cs) U.heap ∧ va_K (o_D X) vwCl (o_tys X) U ∧ o_St X U ∧ n_St U)
theorem n_blind {X : o_Cx} {b : Nat} {cs : List va_E} {av : List Value} : FrameBlind (n_Pc X b cs av) := fun a U g mk q => ⟨q.1, q.2.1, q.2.2.1, va_K.moved (u := U) (U := U.calling g mk a) (Vm.Alike.refl U.vm) q.2.2.2.1, o_St_same (u := U) (U := U.calling g mk a) rfl rfl q.2.2.2.2.1, n_St_same (u := U) (U := U.calling g mk a) rfl q.2.2.2.2.2⟩
theorem n_met {X : o_Cx} {b mc ms d : Nat} {C : o_M} {av : List Value} {L0 : List (Option Value)} {cs fin : List va_E} (hA : ∀ q, o_A X q ↔ b ≤ q) (hnm : C.1.name = "<init>") (hL : o_entN C.2.2.1 av = L0) (hlen : (lg_sl av).length ≤ C.2.2.1) (hpn : plainName C.1.cls = true) (h : n_Ev X b cs.length mc ms d C fin 0 L0 [] cs 0 0) :
    Met (o_l X) C.1 (o_code C :: o_tb) (n_rm d mc ms) (n_Pc X b cs av) (n_QQ X b fin) mc ms (o_A X) := by
  refine Met.ofW (cc := C.2.1) (maxL := C.2.2.1) (ret := C.2.2.2) hpn rfl ?_
  intro p e s m args below meth c s₁ B hml hv
  obtain ⟨rfl, hsz, hP, hK, hSt, hN⟩ := hv
  have hts := atoms_spec (ws := o_code C :: o_tb) B.pre
  have hl := lv_entry av (n := C.2.2.1) hlen
  rw [lg_entry_eq]
  generalize (lg_sl av ++ List.replicate (C.2.2.1 - (lg_sl av).length) Slot.unset).toArray = ls at hl ⊢
  exact h p e (n_rm d mc ms) s m _ below meth c s.heap [] ls ⟨⟨B.exec, B.bytes, hml, B.returns, B.notSynchronized, findClass_of_methodNamed B.named, fun w hw => hts w (List.mem_cons_of_mem _ hw), hK, hSt, Nat.le_refl _, Nat.le_refl _⟩, (name_of_methodNamed B.named B.method).1.trans hnm, Nat.le_refl _, Nat.le_refl _, hsz, hA, hN⟩ hP va_S.rf
    ⟨hl.1, hl.2.1, fun i v hi => by rw [← hL] at hi; exact hl.2.2 (i, v) (o_entN_at hi)⟩
theorem n_after {X : o_Cx} {b k sl mc' ms' : Nat} {p : Program} {e : Env} {R : Room} {s : State} {m : MethodId} {args : Array Value} {below : List Frame} {meth : Method} {c : Code} {H : Heap} {locs : List Loc} {pc : Nat} {ls : Array Slot} {st0 rest : List Value} {cs1 : List va_E} {a : Array Value} {Qw : State → Prop} {A : Nat → Prop} (hsub : ∀ q, o_A X q → A q)
    (hr : va_Run p (o_l X) e R s m args below meth c H locs k sl mc' ms' (F0 m pc ls st0) rest (n_QQ X b cs1 a) (o_A X)) (hS : va_S A s.heap H locs)
    (kk : ∀ (H1 : Heap) (locs1 : List Loc), va_P (o_D X) vwCl (n_ws b cs1) H1 → va_S A s.heap H1 locs1 → (H.size ≤ H1.size ∧ ∀ q, q < H.size → ¬ o_A X q → H1[q]? = H[q]?) → W p (o_l X) e R s m args below meth c H1 locs1 (k + mc') (sl + ms') Qw (F0 m (pc + 3) ls rest)) : W p (o_l X) e R s m args below meth c H locs k sl Qw (F0 m pc ls st0) := by
  intro T hT Xs
  obtain ⟨v, st₀, t, T', Lc, h0, X', hL, e1, e2, ⟨hv, hP, hz, hk⟩, st⟩ := hr T hT Xs
  cases hv
  rw [h0] at hz hk
  obtain ⟨t2, a1, b1⟩ := kk T'.heap (locs ++ Lc) (by rw [e1]; exact hP)
    ⟨Nat.le_trans hS.1 (by rw [e1]; exact hz), fun q h1 h2 => by rw [e1, hk q (Nat.lt_of_lt_of_le h1 hS.1) (fun z => h2 (hsub q z))]; exact hS.2.1 q h1 h2, fun q hq => by
      rcases List.mem_append.mp hq with h | h
      · exact hS.2.2 q h
      · exact hsub _ (hL q h)⟩ ⟨by rw [e1]; exact hz, fun q h1 h2 => by rw [e1]; exact hk q h1 h2⟩ T' rfl X'
  exact ⟨t2, st t2 a1, b1⟩
section nC
variable {X : o_Cx} {b n0 mc ms d : Nat} {M C : o_M} {fin fin1 : List va_E} {pc idx a : Nat} {L L0 : List (Option Value)} {st rest As : List Value} {cs : List va_E} {k sl mc' ms' : Nat}
theorem n_size {D : va_G} {H : Heap} {p : Program} {l : Launch} {e : Env} {R : Room} {s T : State} {m : MethodId} {args : Array Value} {below : List Frame} {meth : Method} {c : Code} {locs : List Loc} (hP : va_P D vwCl (n_ws b cs) H) (hT : T.heap = H) (St : Stand p l e R s m args below meth c T locs k sl) (hs : s.heap.size = b + n0) (hn : n0 + k = cs.length) (h0 : 0 < cs.length) : H.size = b + cs.length := by
  have h2 := St.heapSize
  rw [hT] at h2
  obtain ⟨y, hy⟩ : ∃ y, cs[cs.length - 1]? = some y := ⟨_, List.getElem?_eq_getElem (by omega)⟩
  have h1 : b + (cs.length - 1) < H.size := (hP _ _ (n_at hy)).lt
  omega
theorem n_roomle {R : Room} (h1 : d + 1 ≤ R.frames) (h2 : 48 * (d + 1) ≤ R.locals) (h3 : C.2.2.1 ≤ 29) : (n_rm d mc' ms').frames + 1 ≤ R.frames ∧ 8 + (C.2.2.1 + 11) + (n_rm d mc' ms').locals ≤ R.locals := ⟨h1, by show 8 + (C.2.2.1 + 11) + 48 * d ≤ R.locals; omega⟩
theorem r_callI (hnm : C.1.name = "<init>") (hret : C.2.2.2 = none) (hcb : o_CB C As.length) (hlink : Cond.methodLink M.1.cls idx C.1 ∈ o_tb) (hinst : Cond.instanceMethod C.1 ∈ o_tb) (hd : decode M.2.1 pc = .ok (.invokespecial idx, 3)) (hst : st = As.reverse ++ .ref a :: rest) (hL : o_entN C.2.2.1 (.ref a :: As) = L0) (hlen : (lg_sl (.ref a :: As)).length ≤ C.2.2.1) (hrm : (rest.map fun v => v.category).sum ≤ 8) (hk : k + mc' ≤ mc) (hsl : sl + ms' ≤ ms) (hn : n0 + k = cs.length) (h0 : 0 < cs.length) (hE : n_Ev X b cs.length mc' ms' d C fin1 0 L0 [] cs 0 0)
    (kk : n_Ev X b n0 mc ms (d + 1) M fin (pc + 3) L rest fin1 (k + mc') (sl + ms')) : n_Ev X b n0 mc ms (d + 1) M fin pc L st cs k sl := by
  intro p e R s m args below meth c H locs ls F hP hS hl T1 hT St
  obtain ⟨⟨hx, hbc, hml, hr, hlk, hown, hts, hK, hSt, hR1, hR2⟩, hnm', hmc, hms, hs, hA, hNs⟩ := id F
  obtain ⟨hcode, hini, hd3, hpn, h29⟩ := hcb
  have hsz := n_size hP hT St hs hn h0
  have hM := n_met hA hnm hL hlen hpn hE
  have cb : CallB R s args M.1.cls idx C.1 C.2.1 C.2.2.1 C.2.2.2 (o_code C :: o_tb) (n_rm d mc' ms') mc' ms' As.length := callB_of As.length hts (o_good hcode) rfl rfl rfl (hts _ hini) (hts _ hlink) hd3 (n_roomle hR1 hR2 h29)
  rw [hret] at cb
  exact n_after (fun _ z => z) (a := (Value.ref a :: As).toArray) (va_runI (Ts := o_tb) (As := As) ⟨hx, hbc, hml, hown, hts⟩ hM ⟨cb, hnm, hts _ hinst⟩ ⟨n_blind, fun U hU hW => ⟨rfl, by rw [hU]; exact hsz, by rw [hU]; exact hP, va_K.moved hW.alike hK, o_St_warm (locs := locs) hW (by rw [hU]; exact hS) hSt, n_St_warm hW hNs⟩⟩ rfl rfl hl.1 hst (lv_room hrm) hd ⟨by omega, by omega⟩) hS (fun H1 locs1 hP1 hS1 _ => kk p e R s m args below meth c H1 locs1 ls F hP1 hS1 hl) T1 hT St
theorem r_callN (hnest : (M.1.cls, idx, C.1) ∈ n_nest) (hnm : C.1.name = "<init>") (hret : C.2.2.2 = none) (hcb : o_CB C As.length) (hinst : Cond.instanceMethod C.1 ∈ o_tb) (hd : decode M.2.1 pc = .ok (.invokespecial idx, 3)) (hst : st = As.reverse ++ .ref a :: rest) (hL : o_entN C.2.2.1 (.ref a :: As) = L0) (hlen : (lg_sl (.ref a :: As)).length ≤ C.2.2.1) (hrm : (rest.map fun v => v.category).sum ≤ 8) (hk : k + mc' ≤ mc) (hsl : sl + ms' ≤ ms) (hn : n0 + k = cs.length) (h0 : 0 < cs.length) (hE : n_Ev X b cs.length mc' ms' d C fin1 0 L0 [] cs 0 0)
    (kk : n_Ev X b n0 mc ms (d + 1) M fin (pc + 3) L rest fin1 (k + mc') (sl + ms')) : n_Ev X b n0 mc ms (d + 1) M fin pc L st cs k sl := by
  intro p e R s m args below meth c H locs ls F hP hS hl T1 hT St
  obtain ⟨⟨hx, hbc, hml, hr, hlk, hown, hts, hK, hSt, hR1, hR2⟩, hnm', hmc, hms, hs, hA, hNs⟩ := id F
  obtain ⟨hcode, hini, hd3, hpn, h29⟩ := hcb
  have hsz := n_size hP hT St hs hn h0
  have hM := n_met hA hnm hL hlen hpn hE
  have cb := va_cnB (R := R) (args := args) As.length hts (o_good hcode) rfl (rm := n_rm d mc' ms') (mc := mc') (ms := ms') rfl rfl (hNs.2 _ hnest) (hts _ hini) hd3 (n_roomle hR1 hR2 h29)
  rw [hret] at cb
  exact n_after (fun _ z => z) (a := (Value.ref a :: As).toArray) (va_runIN (Ts := o_tb) (As := As) ⟨hx, hbc, hml, hown, hts⟩ hM ⟨cb, hnm, hts _ hinst⟩ ⟨n_blind, fun U hU hW => ⟨rfl, by rw [hU]; exact hsz, by rw [hU]; exact hP, va_K.moved hW.alike hK, o_St_warm (locs := locs) hW (by rw [hU]; exact hS) hSt, n_St_warm hW hNs⟩⟩ rfl rfl hl.1 hst (lv_room hrm) hd ⟨by omega, by omega⟩) hS (fun H1 locs1 hP1 hS1 _ => kk p e R s m args below meth c H1 locs1 ls F hP1 hS1 hl) T1 hT St
end nC
