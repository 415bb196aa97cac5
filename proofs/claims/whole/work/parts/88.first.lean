/-! ===== the start: the first memories ===== -/
def mC0 : o_Mem := (fun i => if i = 10 ∨ i = 30 ∨ i = 62 ∨ i = 87 ∨ i = 112 then (fun k => if k = 4 then 4 else 0) else if i = 144 then upd (fun _ => 0) 0 (-1) else if i = 137 then (fun k => if k = 2 ∨ k = 3 then -1 else 0) else fun _ => 0, fun i => if i = 0 then (fun k => if k = 2 then 1 else 0) else fun _ => 0)
def mM0 : o_Mem := (fun i => if i = 0 then (fun k => if k = 16 ∨ k = 17 then -1 else 0) else if i = 4 then upd (upd (upd (upd (fun _ => 0) 0 (-1)) 1 (-1)) 2 (-1)) 3 (-1) else fun _ => 0, fun i => if i = 0 then (fun k => if k = 4 then 1 else 0) else fun _ => 0)
theorem inv_sl {μ : o_Mem} (h3 : ∀ k, k < 626 → μ.1 1 k = pl0 k) : slR mC0 μ 10 50 0 0 := by
  have ea : ∀ k, k < 626 → mS μ 0 k = pl0 k := fun k hk => by show μ.1 1 (0 + k) = _; rw [Nat.zero_add]; exact h3 k hk
  have eS : cS (bV mC0 10) = 0 := by decide
  have eH : cH (bV mC0 10) = 0 := by decide
  have eP : cP (bV mC0 10) = 0 := by decide
  have eL : cL (bV mC0 10) = 0 := by decide
  have eW : cW (bV mC0 10) = 0 := by decide
  have eC : cC (bV mC0 10) = 0 := by decide
  refine ⟨⟨?_, by decide, by decide, Or.inl (by decide), ?_, ?_, ?_, ?_, ?_, ?_, ?_⟩, ?_, ?_, ?_⟩
  · exact ⟨⟨by decide, by decide⟩, ⟨by decide, by decide⟩, ⟨by decide, by decide⟩, ⟨by decide, by decide⟩, ⟨by decide, by decide⟩, ⟨by decide, by decide⟩⟩
  · intro l hl; rw [eL] at hl; exact absurd hl (Nat.not_lt_zero _)
  · intro l hl; rw [eP] at hl; exact absurd hl (Nat.not_lt_zero _)
  · intro l s hl; rw [eP] at hl; exact absurd hl (Nat.not_lt_zero _)
  · intro l s hl; rw [eP] at hl; exact absurd hl (Nat.not_lt_zero _)
  · intro l hl; rw [eW] at hl; exact absurd hl (Nat.not_lt_zero _)
  · intro l hl; rw [eC] at hl; exact absurd hl (Nat.not_lt_zero _)
  · refine ⟨?_, ?_⟩
    · intro l hl; rw [eS] at hl; exact absurd hl (Nat.not_lt_zero _)
    · rw [eS]; decide
  · refine ⟨?_, ?_, ?_, ?_, ?_, ?_, ?_⟩
    · rw [eS, ea 0 (by omega), ea 1 (by omega), ea 2 (by omega), ea 3 (by omega), ea 4 (by omega), ea 5 (by omega), ea 6 (by omega), ea 7 (by omega), ea 8 (by omega), ea 9 (by omega), ea 10 (by omega), ea 11 (by omega)]
      decide
    · intro l hl; rw [eS] at hl; exact absurd hl (Nat.not_lt_zero _)
    · intro l hl; rw [eP] at hl; exact absurd hl (Nat.not_lt_zero _)
    · intro l w hl; rw [eL] at hl; exact absurd hl (Nat.not_lt_zero _)
    · intro l w hl; rw [eP] at hl; exact absurd hl (Nat.not_lt_zero _)
    · intro l w hl; rw [eW] at hl; exact absurd hl (Nat.not_lt_zero _)
    · intro l w hl; rw [eC] at hl; exact absurd hl (Nat.not_lt_zero _)
  · refine ⟨?_, ?_, ?_⟩
    · intro l hl; rw [eS] at hl; exact absurd hl (Nat.not_lt_zero _)
    · intro l hl; rw [eH] at hl; exact absurd hl (Nat.not_lt_zero _)
    · intro l hl; rw [eP] at hl; exact absurd hl (Nat.not_lt_zero _)
  · left
    refine ⟨by decide, ?_⟩
    rw [ea 12 (by omega)]
    decide
theorem inv_0 {μ : o_Mem} (h1 : ∀ i, i ≠ 1 → μ.1 i = mM0.1 i) (h2 : μ.2 = mM0.2) (h3 : ∀ k, k < 626 → μ.1 1 k = pl0 k) : Inv mC0 μ := by
  refine ⟨?_, ?_, ?_, ?_, inv_sl h3, ?_, ?_⟩
  · unfold iSt
    rw [h1 0 (by omega), h2]
    decide
  · intro t ht
    left
    rw [h1 4 (by omega)]
    rcases (show t = 0 ∨ t = 1 ∨ t = 2 ∨ t = 3 by omega) with rfl | rfl | rfl | rfl <;> decide
  · refine ⟨0, by omega, by decide, ?_, fun k hk => absurd hk (Nat.not_lt_zero _)⟩
    rw [h1 0 (by omega)]
    decide
  · unfold iFt
    rw [h1 0 (by omega)]
    decide
  · refine ⟨0, by omega, by decide, ?_, fun k hk => absurd hk (Nat.not_lt_zero _)⟩
    rw [h1 0 (by omega)]
    decide
  · left
    rw [h1 0 (by omega)]
    decide
abbrev xS (K : lx_K) : o_Cx := (K.1, K.2.1, K.2.2.1, fun i => lx_b K + i, fun q => lx_b K ≤ q, K.2.2.2.1, K.2.2.2.2.1, wdC)
abbrev xT (K : lx_K) : o_Cx := (K.1, K.2.1, K.2.2.1, fun i => lx_b K + 159 + i, fun q => lx_b K + 159 ≤ q, K.2.2.2.1, K.2.2.2.2.1, wdM)
theorem xT_ok (K : lx_K) : o_ok (xT K) := okM rfl (fun i j _ _ h => by have h' : lx_b K + 159 + i = lx_b K + 159 + j := h; omega) (fun i hi => by show lx_b K + 159 ≤ lx_b K + 159 + i; omega)
def o_cs (X : o_Cx) (μ : o_Mem) : List va_E := (List.range (o_n X)).map (o_cell X μ)
theorem o_n_ws {X : o_Cx} {μ : o_Mem} {b : Nat} (h : ∀ i, i < o_n X → o_ad X i = b + i) : o_ws X μ = n_ws b (o_cs X μ) := by
  apply List.ext_getElem?
  intro j
  unfold n_ws o_cs
  rw [List.getElem?_mapIdx, List.getElem?_map]
  by_cases hj : j < o_n X
  · rw [o_ws_at hj, List.getElem?_range hj, h j hj]
    rfl
  · rw [o_ws_out hj, List.getElem?_eq_none (by rw [List.length_range]; omega)]
    rfl
theorem r_callO {X : o_Cx} {b n0 mc ms d : Nat} {M C : o_M} {fin : List va_E} {pc idx ci k sl : Nat} {L L0 : List (Option Value)} {st rest As : List Value} {cs : List va_E} {μ : o_Mem} {q : Option Value → o_Mem → Prop} (had : ∀ i, i < o_n X → o_ad X i = b + i) (hcs : cs = o_cs X μ) (hb0 : o_is X 0 (.inl ci)) (hc : o_CV M.1.cls idx ci C As.length) (hd : decode M.2.1 pc = .ok (.invokevirtual idx, 3)) (hst : st = As.reverse ++ .ref (o_ad X 0) :: rest) (hL : o_entN C.2.2.1 (.ref (o_ad X 0) :: As) = L0) (hlen : (lg_sl (.ref (o_ad X 0) :: As)).length ≤ C.2.2.1) (hrm : (rest.map fun v => v.category).sum ≤ 8) (hk : k ≤ mc) (hsl : sl ≤ ms) (hE : o_Ev X d C 0 L0 [] μ q)
    (kk : ∀ v μ', q v μ' → n_Ev X b n0 mc ms (d + 1) M fin (pc + 3) L (v.toList ++ rest) (o_cs X μ') k sl) : n_Ev X b n0 mc ms (d + 1) M fin pc L st cs k sl := by
  subst hcs
  intro p e R s m args below meth c H locs ls F hP hS hl
  obtain ⟨⟨hx, hbc, hml, hr, hlk, hown, hts, hK, hSt, hR1, hR2⟩, hnm, hmc, hms, hs, hA, hN⟩ := id F
  obtain ⟨⟨hcode, hini, hd3, hpn, h29⟩, hlink, hinst, hsel, T, N, hcl⟩ := hc
  rw [← o_n_ws had] at hP
  have hM := o_met hL hlen hpn hE
  have cb : CallB R s args M.1.cls idx C.1 C.2.1 C.2.2.1 C.2.2.2 (o_code C :: o_tb) (o_rm d) 0 0 As.length := callB_of As.length hts (o_good hcode) rfl rfl rfl (hts _ hini) (hts _ hlink) hd3 (o_roomle hR1 hR2 h29)
  refine lq_after (X := X) (A := o_A X) (fun _ z => z) (a := (Value.ref (o_ad X 0) :: As).toArray) (va_runV (Ts := o_tb) (C := C.1.cls) (As := As) ⟨hx, hbc, hml, hown, hts⟩ hM ⟨cb, hts _ hinst, hts _ hsel⟩ ⟨o_blind, ?_, fun U hU hW => ⟨rfl, by rw [hU]; exact hP, va_K.moved hW.alike hK, o_St_warm (locs := locs) hW (by rw [hU]; exact hS) hSt⟩⟩ rfl rfl hl.1 hst (lv_room hrm) hd ⟨by omega, by omega⟩) hS (fun v μ' H1 locs1 hq hP1 hS1 _ => kk v μ' hq p e R s m args below meth c H1 locs1 ls F (by rw [← o_n_ws had]; exact hP1) hS1 hl)
  exact va_recv hK hP hcl (o_is_cell hb0)
