/-! ===== the law: calls into the two worlds ===== -/
theorem o_ws_ad {X : o_Cx} {μ : o_Mem} {k : Nat} {q : Nat × va_E} (h : (o_ws X μ)[k]? = some q) : k < o_n X ∧ q.1 = o_ad X k := by
  by_cases hk : k < o_n X
  · rw [o_ws_at hk] at h
    cases h
    exact ⟨hk, rfl⟩
  · rw [o_ws_out hk] at h; cases h
theorem lq_after {X : o_Cx} {k sl : Nat} {p : Program} {e : Env} {R : Room} {s : State} {m : MethodId} {args : Array Value} {below : List Frame} {meth : Method} {c : Code} {H : Heap} {locs : List Loc} {pc : Nat} {ls : Array Slot} {st0 rest : List Value} {q : Option Value → o_Mem → Prop} {a : Array Value} {Qw : State → Prop} {A : Nat → Prop} (hsub : ∀ q, o_A X q → A q)
    (hr : va_Run p (o_l X) e R s m args below meth c H locs k sl 0 0 (F0 m pc ls st0) rest (o_QQ X q a) (o_A X)) (hS : va_S A s.heap H locs)
    (kk : ∀ (v : Option Value) (μ : o_Mem) (H1 : Heap) (locs1 : List Loc), q v μ → va_P (o_D X) vwCl (o_ws X μ) H1 → va_S A s.heap H1 locs1 → (∀ q, q < H.size → ¬ o_A X q → H1[q]? = H[q]?) → W p (o_l X) e R s m args below meth c H1 locs1 (k + 0) (sl + 0) Qw (F0 m (pc + 3) ls (v.toList ++ rest))) : W p (o_l X) e R s m args below meth c H locs k sl Qw (F0 m pc ls st0) := by
  intro T hT Xs
  obtain ⟨v, st₀, t, T', L, h0, X', hL, e1, e2, ⟨v', μ', hv, hq, hP, hz, hk⟩, st⟩ := hr T hT Xs
  cases hv
  rw [h0] at hz hk
  obtain ⟨t2, a1, b1⟩ := kk v μ' T'.heap (locs ++ L) hq (by rw [e1]; exact hP)
    ⟨Nat.le_trans hS.1 (by rw [e1]; exact hz), fun q h1 h2 => by rw [e1, hk q (Nat.lt_of_lt_of_le h1 hS.1) (fun z => h2 (hsub q z))]; exact hS.2.1 q h1 h2, fun q hq => by
      rcases List.mem_append.mp hq with h | h
      · exact hS.2.2 q h
      · exact hsub _ (hL q h)⟩ (fun q h1 h2 => by rw [e1]; exact hk q h1 h2) T' rfl X'
  exact ⟨t2, st t2 a1, b1⟩
theorem lq_room {d : Nat} {C : o_M} (h : d ≤ 100) (h3 : C.2.2.1 ≤ 29) : (o_rm d).frames + 1 ≤ room_1.frames ∧ 8 + (C.2.2.1 + 11) + (o_rm d).locals ≤ room_1.locals := ⟨by show d + 1 ≤ 2048; omega, by show 8 + (C.2.2.1 + 11) + 48 * d ≤ 84000; omega⟩
section lC
variable {K : lx_K} {pc i b L : Nat} {xs : Nat → Int32} {st rest As : List Value} {μC μM : o_Mem} {C : o_M} {idx d : Nat} {L0 : List (Option Value)} {q : Option Value → o_Mem → Prop}
theorem lq_callC (hc : o_CV R_law idx 11 C As.length) (hd : decode code pc = .ok (.invokevirtual idx, 3)) (hst : st = As.reverse ++ .ref (lx_b K) :: rest) (hL : o_entN C.2.2.1 (.ref (lx_b K) :: As) = L0) (hlen : (lg_sl (.ref (lx_b K) :: As)).length ≤ C.2.2.1) (hrm : (rest.map fun v => v.category).sum ≤ 8) (hd0 : d ≤ 100) (hE : o_Ev (xC K) d C 0 L0 [] μC q) (k : ∀ v μ', q v μ' → lq_Ev K (pc + 3) i b L xs (v.toList ++ rest) μ' μM) : lq_Ev K pc i b L xs st μC μM := by
  intro p e s m below meth c H locs ls F h1 h2 hS hl
  obtain ⟨⟨hx, hb, hr, hml, hown, hts0, hX, hbl, hlocks, hgv⟩, hL', hz, hK, hC, hM⟩ := id F
  have hts : ∀ w ∈ o_tb, w.before #[Value.ref b] s = true := fun w hw => hts0 w (o_tb_in hw)
  obtain ⟨⟨hcode, hini, hd3, hpn, h29⟩, hlink, hinst, hsel, T, N, hcl⟩ := hc
  have hMt := o_met hL hlen hpn hE
  have cb : CallB room_1 s #[Value.ref b] R_law idx C.1 C.2.1 C.2.2.1 C.2.2.2 (o_code C :: o_tb) (o_rm d) 0 0 As.length := callB_of As.length hts (o_good hcode) rfl rfl rfl (hts _ hini) (hts _ hlink) hd3 (lq_room hd0 h29)
  have hSx : va_S (o_A (xC K)) s.heap H [] := ⟨hS.1, fun q a _ => hS.2.1 q a (Nat.not_le.mpr a), fun q hq => by cases hq⟩
  refine lq_after (X := xC K) (A := fun q => s.heap.size ≤ q) (a := (Value.ref (lx_b K) :: As).toArray) (fun q hq => by show s.heap.size ≤ q; rw [hz]; exact hq.1) (va_runV (Ts := o_tb) (C := C.1.cls) (As := As) ⟨hx, hb, hml, hown, hts⟩ hMt ⟨cb, hts _ hinst, hts _ hsel⟩ ⟨o_blind, ?_, fun U hU hW => ⟨rfl, by rw [hU]; exact h1, va_K.moved hW.alike hK, o_St_warm (X := xC K) (locs := []) hW (by rw [hU]; exact hSx) hC⟩⟩ rfl rfl hl.1 hst (lv_room hrm) hd ⟨Nat.le_refl _, Nat.le_refl _⟩) hS (fun v μ' H1 locs1 hq hP1 hS1 hk => k v μ' hq p e s m below meth c H1 locs1 ls F hP1 (h2.kept (fun j y hj => hk y.1 (h2 j y hj).lt ?_)) hS1 hl)
  · exact va_recv hK h1 hcl (o_is_cell (xC_0 K))
  · intro z
    have z1 : y.1 < lx_b K + 159 := z.2
    have e1 : y.1 = lx_b K + 159 + j := (o_ws_ad hj).2
    omega
theorem lq_callM (hc : o_CV R_law idx 12 C As.length) (hd : decode code pc = .ok (.invokevirtual idx, 3)) (hst : st = As.reverse ++ .ref (lx_b K + 159) :: rest) (hL : o_entN C.2.2.1 (.ref (lx_b K + 159) :: As) = L0) (hlen : (lg_sl (.ref (lx_b K + 159) :: As)).length ≤ C.2.2.1) (hrm : (rest.map fun v => v.category).sum ≤ 8) (hd0 : d ≤ 100) (hE : o_Ev (xM K) d C 0 L0 [] μM q) (k : ∀ v μ', q v μ' → lq_Ev K (pc + 3) i b L xs (v.toList ++ rest) μC μ') : lq_Ev K pc i b L xs st μC μM := by
  intro p e s m below meth c H locs ls F h1 h2 hS hl
  obtain ⟨⟨hx, hb, hr, hml, hown, hts0, hX, hbl, hlocks, hgv⟩, hL', hz, hK, hC, hM⟩ := id F
  have hts : ∀ w ∈ o_tb, w.before #[Value.ref b] s = true := fun w hw => hts0 w (o_tb_in hw)
  obtain ⟨⟨hcode, hini, hd3, hpn, h29⟩, hlink, hinst, hsel, T, N, hcl⟩ := hc
  have hMt := o_met hL hlen hpn hE
  have cb : CallB room_1 s #[Value.ref b] R_law idx C.1 C.2.1 C.2.2.1 C.2.2.2 (o_code C :: o_tb) (o_rm d) 0 0 As.length := callB_of As.length hts (o_good hcode) rfl rfl rfl (hts _ hini) (hts _ hlink) hd3 (lq_room hd0 h29)
  have hSx : va_S (o_A (xM K)) s.heap H [] := ⟨hS.1, fun q a _ => hS.2.1 q a (Nat.not_le.mpr a), fun q hq => by cases hq⟩
  have hK' : va_K (o_D (xM K)) vwCl (o_tys (xM K)) s := hK
  refine lq_after (X := xM K) (A := fun q => s.heap.size ≤ q) (a := (Value.ref (lx_b K + 159) :: As).toArray) (fun q hq => by show s.heap.size ≤ q; have z1 : lx_b K + 159 ≤ q := hq.1; omega) (va_runV (Ts := o_tb) (C := C.1.cls) (As := As) ⟨hx, hb, hml, hown, hts⟩ hMt ⟨cb, hts _ hinst, hts _ hsel⟩ ⟨o_blind, ?_, fun U hU hW => ⟨rfl, by rw [hU]; exact h2, va_K.moved hW.alike hK', o_St_warm (X := xM K) (locs := []) hW (by rw [hU]; exact hSx) hM⟩⟩ rfl rfl hl.1 hst (lv_room hrm) hd ⟨Nat.le_refl _, Nat.le_refl _⟩) hS (fun v μ' H1 locs1 hq hP1 hS1 hk => k v μ' hq p e s m below meth c H1 locs1 ls F (h1.kept (fun j y hj => hk y.1 (h1 j y hj).lt ?_)) hP1 hS1 hl)
  · exact va_recv hK' h2 hcl (o_is_cell (xM_0 K))
  · intro z
    have z1 : lx_b K + 159 ≤ y.1 := z.1
    have e1 : j < 159 ∧ y.1 = lx_b K + j := o_ws_ad hj
    omega
end lC
