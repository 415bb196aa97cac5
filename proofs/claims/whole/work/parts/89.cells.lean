/-! ===== the start: the cells that the constructors leave ===== -/
theorem fk_0 {α : Type} (g : Nat → Nat → α) : (o_fk 0).mapIdx g = [g 0 0, g 1 2, g 2 2] := by
  simp only [o_fk, List.mapIdx_cons, List.mapIdx_nil, Nat.zero_add, Nat.reduceAdd]
theorem fk_1 {α : Type} (g : Nat → Nat → α) : (o_fk 1).mapIdx g = [g 0 0, g 1 2, g 2 2, g 3 2, g 4 2, g 5 2] := by
  simp only [o_fk, List.mapIdx_cons, List.mapIdx_nil, Nat.zero_add, Nat.reduceAdd]
theorem fk_2 {α : Type} (g : Nat → Nat → α) : (o_fk 2).mapIdx g = [g 0 0, g 1 0, g 2 0, g 3 0, g 4 0, g 5 0, g 6 0, g 7 2] := by
  simp only [o_fk, List.mapIdx_cons, List.mapIdx_nil, Nat.zero_add, Nat.reduceAdd]
theorem fk_3 {α : Type} (g : Nat → Nat → α) : (o_fk 3).mapIdx g = [g 0 0, g 1 0, g 2 0, g 3 2, g 4 2, g 5 2, g 6 2] := by
  simp only [o_fk, List.mapIdx_cons, List.mapIdx_nil, Nat.zero_add, Nat.reduceAdd]
theorem fk_4 {α : Type} (g : Nat → Nat → α) : (o_fk 4).mapIdx g = [g 0 2, g 1 0, g 2 0, g 3 0, g 4 0, g 5 0, g 6 0, g 7 0, g 8 0, g 9 1, g 10 0, g 11 0] := by
  simp only [o_fk, List.mapIdx_cons, List.mapIdx_nil, Nat.zero_add, Nat.reduceAdd]
theorem fk_5 {α : Type} (g : Nat → Nat → α) : (o_fk 5).mapIdx g = [g 0 2, g 1 2, g 2 0, g 3 0] := by
  simp only [o_fk, List.mapIdx_cons, List.mapIdx_nil, Nat.zero_add, Nat.reduceAdd]
theorem fk_6 {α : Type} (g : Nat → Nat → α) : (o_fk 6).mapIdx g = [g 0 2, g 1 0, g 2 0, g 3 0, g 4 2] := by
  simp only [o_fk, List.mapIdx_cons, List.mapIdx_nil, Nat.zero_add, Nat.reduceAdd]
theorem fk_7 {α : Type} (g : Nat → Nat → α) : (o_fk 7).mapIdx g = [g 0 0, g 1 0, g 2 0, g 3 2] := by
  simp only [o_fk, List.mapIdx_cons, List.mapIdx_nil, Nat.zero_add, Nat.reduceAdd]
theorem fk_8 {α : Type} (g : Nat → Nat → α) : (o_fk 8).mapIdx g = [g 0 0, g 1 0, g 2 0, g 3 0, g 4 0, g 5 0, g 6 0, g 7 0, g 8 0, g 9 2, g 10 2, g 11 2, g 12 2, g 13 2, g 14 2, g 15 2, g 16 2, g 17 2] := by
  simp only [o_fk, List.mapIdx_cons, List.mapIdx_nil, Nat.zero_add, Nat.reduceAdd]
theorem fk_9 {α : Type} (g : Nat → Nat → α) : (o_fk 9).mapIdx g = [g 0 2, g 1 2, g 2 0] := by
  simp only [o_fk, List.mapIdx_cons, List.mapIdx_nil, Nat.zero_add, Nat.reduceAdd]
theorem fk_10 {α : Type} (g : Nat → Nat → α) : (o_fk 10).mapIdx g = [g 0 2, g 1 2, g 2 2, g 3 2, g 4 0] := by
  simp only [o_fk, List.mapIdx_cons, List.mapIdx_nil, Nat.zero_add, Nat.reduceAdd]
theorem fk_11 {α : Type} (g : Nat → Nat → α) : (o_fk 11).mapIdx g = [g 0 0, g 1 1, g 2 1, g 3 2, g 4 2, g 5 2, g 6 2, g 7 2, g 8 2, g 9 2, g 10 0, g 11 2, g 12 2, g 13 2, g 14 2, g 15 2, g 16 2, g 17 2, g 18 2] := by
  simp only [o_fk, List.mapIdx_cons, List.mapIdx_nil, Nat.zero_add, Nat.reduceAdd]
theorem fk_12 {α : Type} (g : Nat → Nat → α) : (o_fk 12).mapIdx g = [g 0 2, g 1 2, g 2 0, g 3 1, g 4 1, g 5 2, g 6 2, g 7 2, g 8 2, g 9 2, g 10 0, g 11 0, g 12 0, g 13 0, g 14 0, g 15 0, g 16 0, g 17 0, g 18 0, g 19 0, g 20 0, g 21 2, g 22 0, g 23 0, g 24 2, g 25 2, g 26 2, g 27 2, g 28 2, g 29 2, g 30 2, g 31 0, g 32 0, g 33 0, g 34 2, g 35 2, g 36 2, g 37 0, g 38 0] := by
  simp only [o_fk, List.mapIdx_cons, List.mapIdx_nil, Nat.zero_add, Nat.reduceAdd]
abbrev df12 : List Value := [.null, .null, .int 0, .long 0, .long 0, .null, .null, .null, .null, .null, .int 0, .int 0, .int 0, .int 0, .int 0, .int 0, .int 0, .int 0, .int 0, .int 0, .int 0, .null, .int 0, .int 0, .null, .null, .null, .null, .null, .null, .null, .int 0, .int 0, .int 0, .null, .null, .null, .int 0, .int 0]
theorem xT_0 (K : lx_K) : o_is (xT K) 0 (.inl 12) := ⟨by show 0 < 19; omega, rfl⟩
theorem rg19 {α : Type} (f : Nat → α) : (List.range 19).map f = [f 0, f 1, f 2, f 3, f 4, f 5, f 6, f 7, f 8, f 9, f 10, f 11, f 12, f 13, f 14, f 15, f 16, f 17, f 18] := rfl
def cMc (K : lx_K) (i : Nat) : va_E := o_cell (xT K) mM0 i
theorem co_M (K : lx_K) : cMc K 0 = .inr (12, [o_val (xT K) mM0 0 0 2, o_val (xT K) mM0 0 1 2, o_val (xT K) mM0 0 2 0, o_val (xT K) mM0 0 3 1, o_val (xT K) mM0 0 4 1, o_val (xT K) mM0 0 5 2, o_val (xT K) mM0 0 6 2, o_val (xT K) mM0 0 7 2, o_val (xT K) mM0 0 8 2, o_val (xT K) mM0 0 9 2, o_val (xT K) mM0 0 10 0, o_val (xT K) mM0 0 11 0, o_val (xT K) mM0 0 12 0, o_val (xT K) mM0 0 13 0, o_val (xT K) mM0 0 14 0, o_val (xT K) mM0 0 15 0, o_val (xT K) mM0 0 16 0, o_val (xT K) mM0 0 17 0, o_val (xT K) mM0 0 18 0, o_val (xT K) mM0 0 19 0, o_val (xT K) mM0 0 20 0, o_val (xT K) mM0 0 21 2, o_val (xT K) mM0 0 22 0, o_val (xT K) mM0 0 23 0, o_val (xT K) mM0 0 24 2, o_val (xT K) mM0 0 25 2, o_val (xT K) mM0 0 26 2, o_val (xT K) mM0 0 27 2, o_val (xT K) mM0 0 28 2, o_val (xT K) mM0 0 29 2, o_val (xT K) mM0 0 30 2, o_val (xT K) mM0 0 31 0, o_val (xT K) mM0 0 32 0, o_val (xT K) mM0 0 33 0, o_val (xT K) mM0 0 34 2, o_val (xT K) mM0 0 35 2, o_val (xT K) mM0 0 36 2, o_val (xT K) mM0 0 37 0, o_val (xT K) mM0 0 38 0]) := by
  show o_cellK (xT K) mM0 0 (.inl 12) = _
  exact congrArg (fun l => (.inr (12, l) : va_E)) (fk_12 _)
theorem csM_eq (K : lx_K) : [.inr (12, [.ref (lx_b K + 159 + 1), .ref (lx_b K + 159 + 2), .int 0, .long 0, .long 1, .ref (lx_b K + 159 + 3), .ref (lx_b K + 159 + 4), .ref (lx_b K + 159 + 5), .ref (lx_b K + 159 + 6), .ref (lx_b K + 159 + 7), .int 0, .int 0, .int 0, .int 0, .int 0, .int 0, .int (-1), .int (-1), .int 0, .int 0, .int 0, .ref (lx_b K + 159 + 8), .int 0, .int 0, .ref (lx_b K + 159 + 9), .ref (lx_b K + 159 + 10), .ref (lx_b K + 159 + 11), .ref (lx_b K + 159 + 12), .ref (lx_b K + 159 + 13), .ref (lx_b K + 159 + 14), .ref (lx_b K + 159 + 15), .int 0, .int 0, .int 0, .ref (lx_b K + 159 + 16), .ref (lx_b K + 159 + 17), .ref (lx_b K + 159 + 18), .int 0, .int 0]), aI (xT K) 3756, aL (xT K) 96, aI (xT K) 4, .inl (o_cA (xT K) 0, 4, .inl (upd (upd (upd (upd (fun _ => 0) 0 (-1)) 1 (-1)) 2 (-1)) 3 (-1))), aL (xT K) 240, aB (xT K) 900, aB (xT K) 900, aI (xT K) 3, aI (xT K) 6, aI (xT K) 36, aL (xT K) 13, aI (xT K) 3, aI (xT K) 4, aI (xT K) 4, aI (xT K) 4, aI (xT K) 80, aI (xT K) 5, aI (xT K) 5] = o_cs (xT K) mM0 := by
  have h : o_cs (xT K) mM0 = [cMc K 0, cMc K 1, cMc K 2, cMc K 3, cMc K 4, cMc K 5, cMc K 6, cMc K 7, cMc K 8, cMc K 9, cMc K 10, cMc K 11, cMc K 12, cMc K 13, cMc K 14, cMc K 15, cMc K 16, cMc K 17, cMc K 18] := rg19 (cMc K)
  rw [h, co_M]
  rfl
theorem mkM (K : lx_K) (d : Nat) : ∃ μ : o_Mem, Inv mC0 μ ∧ e_Ev (xT K) (lx_b K + 159) [] 18 6063 (d + 1) mX12_init (o_cs (xT K) μ) 0 [some (.ref (lx_b K + 159))] [] [.inr (12, df12)] 0 0 := by
  obtain ⟨μ, e, h1, h2, h3⟩ := e12_plain (b := 0) (by omega) mM0
  have e' : fX12_plain rfM 0 0 mM0 = some ((), μ) := e
  refine ⟨μ, inv_0 h1 h2 (fun k hk => by rw [h3, if_pos ⟨Nat.zero_le _, by omega⟩]; rfl), ?_⟩
  refine mkX12_a (z := lx_b K + 159) [] rfl ?_
  refine r_callO (X := xT K) (μ := mM0) (q := o_QU (fun _ ν => ν = μ)) (C := mX12_plain) (As := [.int 0]) (ci := 12) (rest := []) (fun i _ => rfl) (csM_eq K) (xT_0 K) clX12_77 dX12_init_176 rfl rfl (Nat.le_of_ble_eq_true rfl) (Nat.le_of_ble_eq_true rfl) (by decide) (by decide) (dnX12_plain (d := d) (q := fun _ ν => ν = μ) (xT_ok K) (xT_0 K) ⟨_, e', rfl⟩) (fun v ν hv => ?_)
  obtain ⟨rfl, rfl⟩ := hv
  exact tk_ret rfl dX12_init_179 (by decide) (by decide) rfl
theorem arrV_cg {cI : ClassId} {N : Nat} {f g : Nat → Value} (h : ∀ j, j < N → f j = g j) : arrV cI N f = arrV cI N g := by
  have e : (fun j : Fin N => f j.val) = fun j => g j.val := funext fun j => h j.val j.isLt
  unfold arrV
  rw [e]
def csX (K : lx_K) (i : Nat) : va_E :=
  if i = 1 then .inl (o_cA (xS K) 3, 4, .inr (.inr (.inr (.inr (va_up (va_up (va_up (va_up (fun _ => none) 0 (some (lx_b K + 2))) 1 (some (lx_b K + 4))) 2 (some (lx_b K + 6))) 3 (some (lx_b K + 8)))))))
  else if i = 60 then .inl (o_cA (xS K) 4, 3, .inr (.inr (.inr (.inr (va_up (va_up (va_up (fun _ => none) 0 (some (lx_b K + 62))) 1 (some (lx_b K + 87))) 2 (some (lx_b K + 112)))))))
  else if i = 61 then .inl (o_cA (xS K) 5, 3, .inr (.inr (.inr (.inr (va_up (va_up (va_up (fun _ => none) 0 (some (lx_b K + 82))) 1 (some (lx_b K + 107))) 2 (some (lx_b K + 132)))))))
  else o_cell (xC K) mC0 i
theorem cob_0 (K : lx_K) : csX K 0 = .inr (11, [o_val (xC K) mC0 0 0 0, o_val (xC K) mC0 0 1 1, o_val (xC K) mC0 0 2 1, o_val (xC K) mC0 0 3 2, o_val (xC K) mC0 0 4 2, o_val (xC K) mC0 0 5 2, o_val (xC K) mC0 0 6 2, o_val (xC K) mC0 0 7 2, o_val (xC K) mC0 0 8 2, o_val (xC K) mC0 0 9 2, o_val (xC K) mC0 0 10 0, o_val (xC K) mC0 0 11 2, o_val (xC K) mC0 0 12 2, o_val (xC K) mC0 0 13 2, o_val (xC K) mC0 0 14 2, o_val (xC K) mC0 0 15 2, o_val (xC K) mC0 0 16 2, o_val (xC K) mC0 0 17 2, o_val (xC K) mC0 0 18 2]) := by
  show o_cellK (xC K) mC0 0 (.inl 11) = _
  exact congrArg (fun l => (.inr (11, l) : va_E)) (fk_11 _)
theorem cob_2 (K : lx_K) : csX K 2 = .inr (7, [o_val (xC K) mC0 2 0 0, o_val (xC K) mC0 2 1 0, o_val (xC K) mC0 2 2 0, o_val (xC K) mC0 2 3 2]) := by
  show o_cellK (xC K) mC0 2 (.inl 7) = _
  exact congrArg (fun l => (.inr (7, l) : va_E)) (fk_7 _)
theorem cbk_2 (K : lx_K) : blkX7 (xS K) (lx_b K + 2) = [csX K 2, csX K 3] := by
  rw [cob_2]
  rfl
theorem cob_4 (K : lx_K) : csX K 4 = .inr (7, [o_val (xC K) mC0 4 0 0, o_val (xC K) mC0 4 1 0, o_val (xC K) mC0 4 2 0, o_val (xC K) mC0 4 3 2]) := by
  show o_cellK (xC K) mC0 4 (.inl 7) = _
  exact congrArg (fun l => (.inr (7, l) : va_E)) (fk_7 _)
theorem cbk_4 (K : lx_K) : blkX7 (xS K) (lx_b K + 4) = [csX K 4, csX K 5] := by
  rw [cob_4]
  rfl
theorem cob_6 (K : lx_K) : csX K 6 = .inr (7, [o_val (xC K) mC0 6 0 0, o_val (xC K) mC0 6 1 0, o_val (xC K) mC0 6 2 0, o_val (xC K) mC0 6 3 2]) := by
  show o_cellK (xC K) mC0 6 (.inl 7) = _
  exact congrArg (fun l => (.inr (7, l) : va_E)) (fk_7 _)
theorem cbk_6 (K : lx_K) : blkX7 (xS K) (lx_b K + 6) = [csX K 6, csX K 7] := by
  rw [cob_6]
  rfl
theorem cob_8 (K : lx_K) : csX K 8 = .inr (7, [o_val (xC K) mC0 8 0 0, o_val (xC K) mC0 8 1 0, o_val (xC K) mC0 8 2 0, o_val (xC K) mC0 8 3 2]) := by
  show o_cellK (xC K) mC0 8 (.inl 7) = _
  exact congrArg (fun l => (.inr (7, l) : va_E)) (fk_7 _)
theorem cbk_8 (K : lx_K) : blkX7 (xS K) (lx_b K + 8) = [csX K 8, csX K 9] := by
  rw [cob_8]
  rfl
theorem cob_10 (K : lx_K) : csX K 10 = .inr (8, [o_val (xC K) mC0 10 0 0, o_val (xC K) mC0 10 1 0, o_val (xC K) mC0 10 2 0, o_val (xC K) mC0 10 3 0, o_val (xC K) mC0 10 4 0, o_val (xC K) mC0 10 5 0, o_val (xC K) mC0 10 6 0, o_val (xC K) mC0 10 7 0, o_val (xC K) mC0 10 8 0, o_val (xC K) mC0 10 9 2, o_val (xC K) mC0 10 10 2, o_val (xC K) mC0 10 11 2, o_val (xC K) mC0 10 12 2, o_val (xC K) mC0 10 13 2, o_val (xC K) mC0 10 14 2, o_val (xC K) mC0 10 15 2, o_val (xC K) mC0 10 16 2, o_val (xC K) mC0 10 17 2]) := by
  show o_cellK (xC K) mC0 10 (.inl 8) = _
  exact congrArg (fun l => (.inr (8, l) : va_E)) (fk_8 _)
theorem cob_17 (K : lx_K) : csX K 17 = .inr (1, [o_val (xC K) mC0 17 0 0, o_val (xC K) mC0 17 1 2, o_val (xC K) mC0 17 2 2, o_val (xC K) mC0 17 3 2, o_val (xC K) mC0 17 4 2, o_val (xC K) mC0 17 5 2]) := by
  show o_cellK (xC K) mC0 17 (.inl 1) = _
  exact congrArg (fun l => (.inr (1, l) : va_E)) (fk_1 _)
theorem cob_23 (K : lx_K) : csX K 23 = .inr (1, [o_val (xC K) mC0 23 0 0, o_val (xC K) mC0 23 1 2, o_val (xC K) mC0 23 2 2, o_val (xC K) mC0 23 3 2, o_val (xC K) mC0 23 4 2, o_val (xC K) mC0 23 5 2]) := by
  show o_cellK (xC K) mC0 23 (.inl 1) = _
  exact congrArg (fun l => (.inr (1, l) : va_E)) (fk_1 _)
theorem cbk_10 (K : lx_K) : blkX8 (xS K) (lx_b K + 10) = [csX K 10, csX K 11, csX K 12, csX K 13, csX K 14, csX K 15, csX K 16, csX K 17, csX K 18, csX K 19, csX K 20, csX K 21, csX K 22, csX K 23, csX K 24, csX K 25, csX K 26, csX K 27, csX K 28, csX K 29] := by
  rw [cob_10, cob_17, cob_23]
  rfl
theorem cob_30 (K : lx_K) : csX K 30 = .inr (8, [o_val (xC K) mC0 30 0 0, o_val (xC K) mC0 30 1 0, o_val (xC K) mC0 30 2 0, o_val (xC K) mC0 30 3 0, o_val (xC K) mC0 30 4 0, o_val (xC K) mC0 30 5 0, o_val (xC K) mC0 30 6 0, o_val (xC K) mC0 30 7 0, o_val (xC K) mC0 30 8 0, o_val (xC K) mC0 30 9 2, o_val (xC K) mC0 30 10 2, o_val (xC K) mC0 30 11 2, o_val (xC K) mC0 30 12 2, o_val (xC K) mC0 30 13 2, o_val (xC K) mC0 30 14 2, o_val (xC K) mC0 30 15 2, o_val (xC K) mC0 30 16 2, o_val (xC K) mC0 30 17 2]) := by
  show o_cellK (xC K) mC0 30 (.inl 8) = _
  exact congrArg (fun l => (.inr (8, l) : va_E)) (fk_8 _)
theorem cob_37 (K : lx_K) : csX K 37 = .inr (1, [o_val (xC K) mC0 37 0 0, o_val (xC K) mC0 37 1 2, o_val (xC K) mC0 37 2 2, o_val (xC K) mC0 37 3 2, o_val (xC K) mC0 37 4 2, o_val (xC K) mC0 37 5 2]) := by
  show o_cellK (xC K) mC0 37 (.inl 1) = _
  exact congrArg (fun l => (.inr (1, l) : va_E)) (fk_1 _)
theorem cob_43 (K : lx_K) : csX K 43 = .inr (1, [o_val (xC K) mC0 43 0 0, o_val (xC K) mC0 43 1 2, o_val (xC K) mC0 43 2 2, o_val (xC K) mC0 43 3 2, o_val (xC K) mC0 43 4 2, o_val (xC K) mC0 43 5 2]) := by
  show o_cellK (xC K) mC0 43 (.inl 1) = _
  exact congrArg (fun l => (.inr (1, l) : va_E)) (fk_1 _)
theorem cbk_30 (K : lx_K) : blkX8 (xS K) (lx_b K + 30) = [csX K 30, csX K 31, csX K 32, csX K 33, csX K 34, csX K 35, csX K 36, csX K 37, csX K 38, csX K 39, csX K 40, csX K 41, csX K 42, csX K 43, csX K 44, csX K 45, csX K 46, csX K 47, csX K 48, csX K 49] := by
  rw [cob_30, cob_37, cob_43]
  rfl
theorem cob_50 (K : lx_K) : csX K 50 = .inr (3, [o_val (xC K) mC0 50 0 0, o_val (xC K) mC0 50 1 0, o_val (xC K) mC0 50 2 0, o_val (xC K) mC0 50 3 2, o_val (xC K) mC0 50 4 2, o_val (xC K) mC0 50 5 2, o_val (xC K) mC0 50 6 2]) := by
  show o_cellK (xC K) mC0 50 (.inl 3) = _
  exact congrArg (fun l => (.inr (3, l) : va_E)) (fk_3 _)
theorem cbk_50 (K : lx_K) : blkX3 (xS K) (lx_b K + 50) = [csX K 50, csX K 51, csX K 52, csX K 53, csX K 54] := by
  rw [cob_50]
  rfl
theorem cob_55 (K : lx_K) : csX K 55 = .inr (3, [o_val (xC K) mC0 55 0 0, o_val (xC K) mC0 55 1 0, o_val (xC K) mC0 55 2 0, o_val (xC K) mC0 55 3 2, o_val (xC K) mC0 55 4 2, o_val (xC K) mC0 55 5 2, o_val (xC K) mC0 55 6 2]) := by
  show o_cellK (xC K) mC0 55 (.inl 3) = _
  exact congrArg (fun l => (.inr (3, l) : va_E)) (fk_3 _)
theorem cbk_55 (K : lx_K) : blkX3 (xS K) (lx_b K + 55) = [csX K 55, csX K 56, csX K 57, csX K 58, csX K 59] := by
  rw [cob_55]
  rfl
theorem cob_62 (K : lx_K) : csX K 62 = .inr (8, [o_val (xC K) mC0 62 0 0, o_val (xC K) mC0 62 1 0, o_val (xC K) mC0 62 2 0, o_val (xC K) mC0 62 3 0, o_val (xC K) mC0 62 4 0, o_val (xC K) mC0 62 5 0, o_val (xC K) mC0 62 6 0, o_val (xC K) mC0 62 7 0, o_val (xC K) mC0 62 8 0, o_val (xC K) mC0 62 9 2, o_val (xC K) mC0 62 10 2, o_val (xC K) mC0 62 11 2, o_val (xC K) mC0 62 12 2, o_val (xC K) mC0 62 13 2, o_val (xC K) mC0 62 14 2, o_val (xC K) mC0 62 15 2, o_val (xC K) mC0 62 16 2, o_val (xC K) mC0 62 17 2]) := by
  show o_cellK (xC K) mC0 62 (.inl 8) = _
  exact congrArg (fun l => (.inr (8, l) : va_E)) (fk_8 _)
theorem cob_69 (K : lx_K) : csX K 69 = .inr (1, [o_val (xC K) mC0 69 0 0, o_val (xC K) mC0 69 1 2, o_val (xC K) mC0 69 2 2, o_val (xC K) mC0 69 3 2, o_val (xC K) mC0 69 4 2, o_val (xC K) mC0 69 5 2]) := by
  show o_cellK (xC K) mC0 69 (.inl 1) = _
  exact congrArg (fun l => (.inr (1, l) : va_E)) (fk_1 _)
theorem cob_75 (K : lx_K) : csX K 75 = .inr (1, [o_val (xC K) mC0 75 0 0, o_val (xC K) mC0 75 1 2, o_val (xC K) mC0 75 2 2, o_val (xC K) mC0 75 3 2, o_val (xC K) mC0 75 4 2, o_val (xC K) mC0 75 5 2]) := by
  show o_cellK (xC K) mC0 75 (.inl 1) = _
  exact congrArg (fun l => (.inr (1, l) : va_E)) (fk_1 _)
theorem cbk_62 (K : lx_K) : blkX8 (xS K) (lx_b K + 62) = [csX K 62, csX K 63, csX K 64, csX K 65, csX K 66, csX K 67, csX K 68, csX K 69, csX K 70, csX K 71, csX K 72, csX K 73, csX K 74, csX K 75, csX K 76, csX K 77, csX K 78, csX K 79, csX K 80, csX K 81] := by
  rw [cob_62, cob_69, cob_75]
  rfl
theorem cob_82 (K : lx_K) : csX K 82 = .inr (3, [o_val (xC K) mC0 82 0 0, o_val (xC K) mC0 82 1 0, o_val (xC K) mC0 82 2 0, o_val (xC K) mC0 82 3 2, o_val (xC K) mC0 82 4 2, o_val (xC K) mC0 82 5 2, o_val (xC K) mC0 82 6 2]) := by
  show o_cellK (xC K) mC0 82 (.inl 3) = _
  exact congrArg (fun l => (.inr (3, l) : va_E)) (fk_3 _)
theorem cbk_82 (K : lx_K) : blkX3 (xS K) (lx_b K + 82) = [csX K 82, csX K 83, csX K 84, csX K 85, csX K 86] := by
  rw [cob_82]
  rfl
theorem cob_87 (K : lx_K) : csX K 87 = .inr (8, [o_val (xC K) mC0 87 0 0, o_val (xC K) mC0 87 1 0, o_val (xC K) mC0 87 2 0, o_val (xC K) mC0 87 3 0, o_val (xC K) mC0 87 4 0, o_val (xC K) mC0 87 5 0, o_val (xC K) mC0 87 6 0, o_val (xC K) mC0 87 7 0, o_val (xC K) mC0 87 8 0, o_val (xC K) mC0 87 9 2, o_val (xC K) mC0 87 10 2, o_val (xC K) mC0 87 11 2, o_val (xC K) mC0 87 12 2, o_val (xC K) mC0 87 13 2, o_val (xC K) mC0 87 14 2, o_val (xC K) mC0 87 15 2, o_val (xC K) mC0 87 16 2, o_val (xC K) mC0 87 17 2]) := by
  show o_cellK (xC K) mC0 87 (.inl 8) = _
  exact congrArg (fun l => (.inr (8, l) : va_E)) (fk_8 _)
theorem cob_94 (K : lx_K) : csX K 94 = .inr (1, [o_val (xC K) mC0 94 0 0, o_val (xC K) mC0 94 1 2, o_val (xC K) mC0 94 2 2, o_val (xC K) mC0 94 3 2, o_val (xC K) mC0 94 4 2, o_val (xC K) mC0 94 5 2]) := by
  show o_cellK (xC K) mC0 94 (.inl 1) = _
  exact congrArg (fun l => (.inr (1, l) : va_E)) (fk_1 _)
theorem cob_100 (K : lx_K) : csX K 100 = .inr (1, [o_val (xC K) mC0 100 0 0, o_val (xC K) mC0 100 1 2, o_val (xC K) mC0 100 2 2, o_val (xC K) mC0 100 3 2, o_val (xC K) mC0 100 4 2, o_val (xC K) mC0 100 5 2]) := by
  show o_cellK (xC K) mC0 100 (.inl 1) = _
  exact congrArg (fun l => (.inr (1, l) : va_E)) (fk_1 _)
theorem cbk_87 (K : lx_K) : blkX8 (xS K) (lx_b K + 87) = [csX K 87, csX K 88, csX K 89, csX K 90, csX K 91, csX K 92, csX K 93, csX K 94, csX K 95, csX K 96, csX K 97, csX K 98, csX K 99, csX K 100, csX K 101, csX K 102, csX K 103, csX K 104, csX K 105, csX K 106] := by
  rw [cob_87, cob_94, cob_100]
  rfl
theorem cob_107 (K : lx_K) : csX K 107 = .inr (3, [o_val (xC K) mC0 107 0 0, o_val (xC K) mC0 107 1 0, o_val (xC K) mC0 107 2 0, o_val (xC K) mC0 107 3 2, o_val (xC K) mC0 107 4 2, o_val (xC K) mC0 107 5 2, o_val (xC K) mC0 107 6 2]) := by
  show o_cellK (xC K) mC0 107 (.inl 3) = _
  exact congrArg (fun l => (.inr (3, l) : va_E)) (fk_3 _)
theorem cbk_107 (K : lx_K) : blkX3 (xS K) (lx_b K + 107) = [csX K 107, csX K 108, csX K 109, csX K 110, csX K 111] := by
  rw [cob_107]
  rfl
theorem cob_112 (K : lx_K) : csX K 112 = .inr (8, [o_val (xC K) mC0 112 0 0, o_val (xC K) mC0 112 1 0, o_val (xC K) mC0 112 2 0, o_val (xC K) mC0 112 3 0, o_val (xC K) mC0 112 4 0, o_val (xC K) mC0 112 5 0, o_val (xC K) mC0 112 6 0, o_val (xC K) mC0 112 7 0, o_val (xC K) mC0 112 8 0, o_val (xC K) mC0 112 9 2, o_val (xC K) mC0 112 10 2, o_val (xC K) mC0 112 11 2, o_val (xC K) mC0 112 12 2, o_val (xC K) mC0 112 13 2, o_val (xC K) mC0 112 14 2, o_val (xC K) mC0 112 15 2, o_val (xC K) mC0 112 16 2, o_val (xC K) mC0 112 17 2]) := by
  show o_cellK (xC K) mC0 112 (.inl 8) = _
  exact congrArg (fun l => (.inr (8, l) : va_E)) (fk_8 _)
theorem cob_119 (K : lx_K) : csX K 119 = .inr (1, [o_val (xC K) mC0 119 0 0, o_val (xC K) mC0 119 1 2, o_val (xC K) mC0 119 2 2, o_val (xC K) mC0 119 3 2, o_val (xC K) mC0 119 4 2, o_val (xC K) mC0 119 5 2]) := by
  show o_cellK (xC K) mC0 119 (.inl 1) = _
  exact congrArg (fun l => (.inr (1, l) : va_E)) (fk_1 _)
theorem cob_125 (K : lx_K) : csX K 125 = .inr (1, [o_val (xC K) mC0 125 0 0, o_val (xC K) mC0 125 1 2, o_val (xC K) mC0 125 2 2, o_val (xC K) mC0 125 3 2, o_val (xC K) mC0 125 4 2, o_val (xC K) mC0 125 5 2]) := by
  show o_cellK (xC K) mC0 125 (.inl 1) = _
  exact congrArg (fun l => (.inr (1, l) : va_E)) (fk_1 _)
theorem cbk_112 (K : lx_K) : blkX8 (xS K) (lx_b K + 112) = [csX K 112, csX K 113, csX K 114, csX K 115, csX K 116, csX K 117, csX K 118, csX K 119, csX K 120, csX K 121, csX K 122, csX K 123, csX K 124, csX K 125, csX K 126, csX K 127, csX K 128, csX K 129, csX K 130, csX K 131] := by
  rw [cob_112, cob_119, cob_125]
  rfl
theorem cob_132 (K : lx_K) : csX K 132 = .inr (3, [o_val (xC K) mC0 132 0 0, o_val (xC K) mC0 132 1 0, o_val (xC K) mC0 132 2 0, o_val (xC K) mC0 132 3 2, o_val (xC K) mC0 132 4 2, o_val (xC K) mC0 132 5 2, o_val (xC K) mC0 132 6 2]) := by
  show o_cellK (xC K) mC0 132 (.inl 3) = _
  exact congrArg (fun l => (.inr (3, l) : va_E)) (fk_3 _)
theorem cbk_132 (K : lx_K) : blkX3 (xS K) (lx_b K + 132) = [csX K 132, csX K 133, csX K 134, csX K 135, csX K 136] := by
  rw [cob_132]
  rfl
theorem cob_137 (K : lx_K) : csX K 137 = .inr (4, [o_val (xC K) mC0 137 0 2, o_val (xC K) mC0 137 1 0, o_val (xC K) mC0 137 2 0, o_val (xC K) mC0 137 3 0, o_val (xC K) mC0 137 4 0, o_val (xC K) mC0 137 5 0, o_val (xC K) mC0 137 6 0, o_val (xC K) mC0 137 7 0, o_val (xC K) mC0 137 8 0, o_val (xC K) mC0 137 9 1, o_val (xC K) mC0 137 10 0, o_val (xC K) mC0 137 11 0]) := by
  show o_cellK (xC K) mC0 137 (.inl 4) = _
  exact congrArg (fun l => (.inr (4, l) : va_E)) (fk_4 _)
theorem cbk_137 (K : lx_K) : blkX4 (xS K) (lx_b K + 137) = [csX K 137, csX K 138] := by
  rw [cob_137]
  rfl
theorem cob_139 (K : lx_K) : csX K 139 = .inr (9, [o_val (xC K) mC0 139 0 2, o_val (xC K) mC0 139 1 2, o_val (xC K) mC0 139 2 0]) := by
  show o_cellK (xC K) mC0 139 (.inl 9) = _
  exact congrArg (fun l => (.inr (9, l) : va_E)) (fk_9 _)
theorem cbk_139 (K : lx_K) : blkX9 (xS K) (lx_b K + 139) (lx_b K + 137) (lx_b K + 30) = [csX K 139] := by
  rw [cob_139]
  rfl
theorem cob_140 (K : lx_K) : csX K 140 = .inr (10, [o_val (xC K) mC0 140 0 2, o_val (xC K) mC0 140 1 2, o_val (xC K) mC0 140 2 2, o_val (xC K) mC0 140 3 2, o_val (xC K) mC0 140 4 0]) := by
  show o_cellK (xC K) mC0 140 (.inl 10) = _
  exact congrArg (fun l => (.inr (10, l) : va_E)) (fk_10 _)
theorem cbk_140 (K : lx_K) : blkX10 (xS K) (lx_b K + 140) (lx_b K + 137) (lx_b K + 10) (lx_b K + 55) = [csX K 140, csX K 141] := by
  rw [cob_140]
  rfl
theorem cob_142 (K : lx_K) : csX K 142 = .inr (2, [o_val (xC K) mC0 142 0 0, o_val (xC K) mC0 142 1 0, o_val (xC K) mC0 142 2 0, o_val (xC K) mC0 142 3 0, o_val (xC K) mC0 142 4 0, o_val (xC K) mC0 142 5 0, o_val (xC K) mC0 142 6 0, o_val (xC K) mC0 142 7 2]) := by
  show o_cellK (xC K) mC0 142 (.inl 2) = _
  exact congrArg (fun l => (.inr (2, l) : va_E)) (fk_2 _)
theorem cbk_142 (K : lx_K) : blkX2 (xS K) (lx_b K + 142) = [csX K 142, csX K 143] := by
  rw [cob_142]
  rfl
theorem cob_145 (K : lx_K) : csX K 145 = .inr (6, [o_val (xC K) mC0 145 0 2, o_val (xC K) mC0 145 1 0, o_val (xC K) mC0 145 2 0, o_val (xC K) mC0 145 3 0, o_val (xC K) mC0 145 4 2]) := by
  show o_cellK (xC K) mC0 145 (.inl 6) = _
  exact congrArg (fun l => (.inr (6, l) : va_E)) (fk_6 _)
theorem cbk_145 (K : lx_K) : blkX6 (xS K) (lx_b K + 145) = [csX K 145, csX K 146, csX K 147] := by
  rw [cob_145]
  rfl
theorem cob_148 (K : lx_K) : csX K 148 = .inr (5, [o_val (xC K) mC0 148 0 2, o_val (xC K) mC0 148 1 2, o_val (xC K) mC0 148 2 0, o_val (xC K) mC0 148 3 0]) := by
  show o_cellK (xC K) mC0 148 (.inl 5) = _
  exact congrArg (fun l => (.inr (5, l) : va_E)) (fk_5 _)
theorem cob_149 (K : lx_K) : csX K 149 = .inr (1, [o_val (xC K) mC0 149 0 0, o_val (xC K) mC0 149 1 2, o_val (xC K) mC0 149 2 2, o_val (xC K) mC0 149 3 2, o_val (xC K) mC0 149 4 2, o_val (xC K) mC0 149 5 2]) := by
  show o_cellK (xC K) mC0 149 (.inl 1) = _
  exact congrArg (fun l => (.inr (1, l) : va_E)) (fk_1 _)
theorem cbk_148 (K : lx_K) : blkX5 (xS K) (lx_b K + 148) = [csX K 148, csX K 149, csX K 150, csX K 151, csX K 152, csX K 153, csX K 154, csX K 155] := by
  rw [cob_148, cob_149]
  rfl
theorem cob_156 (K : lx_K) : csX K 156 = .inr (0, [o_val (xC K) mC0 156 0 0, o_val (xC K) mC0 156 1 2, o_val (xC K) mC0 156 2 2]) := by
  show o_cellK (xC K) mC0 156 (.inl 0) = _
  exact congrArg (fun l => (.inr (0, l) : va_E)) (fk_0 _)
theorem cbk_156 (K : lx_K) : blkX0 (xS K) (lx_b K + 156) = [csX K 156, csX K 157, csX K 158] := by
  rw [cob_156]
  rfl
set_option maxRecDepth 20000 in
theorem rg159 {α : Type} (f : Nat → α) : [f 0, f 1] ++ ([f 2, f 3] ++ ([f 4, f 5] ++ ([f 6, f 7] ++ ([f 8, f 9] ++ ([f 10, f 11, f 12, f 13, f 14, f 15, f 16, f 17, f 18, f 19, f 20, f 21, f 22, f 23, f 24, f 25, f 26, f 27, f 28, f 29] ++ ([f 30, f 31, f 32, f 33, f 34, f 35, f 36, f 37, f 38, f 39, f 40, f 41, f 42, f 43, f 44, f 45, f 46, f 47, f 48, f 49] ++ ([f 50, f 51, f 52, f 53, f 54] ++ ([f 55, f 56, f 57, f 58, f 59] ++ ([f 60, f 61] ++ ([f 62, f 63, f 64, f 65, f 66, f 67, f 68, f 69, f 70, f 71, f 72, f 73, f 74, f 75, f 76, f 77, f 78, f 79, f 80, f 81] ++ ([f 82, f 83, f 84, f 85, f 86] ++ ([f 87, f 88, f 89, f 90, f 91, f 92, f 93, f 94, f 95, f 96, f 97, f 98, f 99, f 100, f 101, f 102, f 103, f 104, f 105, f 106] ++ ([f 107, f 108, f 109, f 110, f 111] ++ ([f 112, f 113, f 114, f 115, f 116, f 117, f 118, f 119, f 120, f 121, f 122, f 123, f 124, f 125, f 126, f 127, f 128, f 129, f 130, f 131] ++ ([f 132, f 133, f 134, f 135, f 136] ++ ([f 137, f 138] ++ ([f 139] ++ ([f 140, f 141] ++ ([f 142, f 143] ++ ([f 144] ++ ([f 145, f 146, f 147] ++ ([f 148, f 149, f 150, f 151, f 152, f 153, f 154, f 155] ++ [f 156, f 157, f 158])))))))))))))))))))))) = (List.range 159).map f := rfl
theorem csX_eq (K : lx_K) : blkX11 (xS K) (lx_b K) = (List.range 159).map (csX K) := by
  have h : blkX11 (xS K) (lx_b K) = [csX K 0, csX K 1] ++ (blkX7 (xS K) (lx_b K + 2) ++ (blkX7 (xS K) (lx_b K + 4) ++ (blkX7 (xS K) (lx_b K + 6) ++ (blkX7 (xS K) (lx_b K + 8) ++ (blkX8 (xS K) (lx_b K + 10) ++ (blkX8 (xS K) (lx_b K + 30) ++ (blkX3 (xS K) (lx_b K + 50) ++ (blkX3 (xS K) (lx_b K + 55) ++ ([csX K 60, csX K 61] ++ (blkX8 (xS K) (lx_b K + 62) ++ (blkX3 (xS K) (lx_b K + 82) ++ (blkX8 (xS K) (lx_b K + 87) ++ (blkX3 (xS K) (lx_b K + 107) ++ (blkX8 (xS K) (lx_b K + 112) ++ (blkX3 (xS K) (lx_b K + 132) ++ (blkX4 (xS K) (lx_b K + 137) ++ (blkX9 (xS K) (lx_b K + 139) (lx_b K + 137) (lx_b K + 30) ++ (blkX10 (xS K) (lx_b K + 140) (lx_b K + 137) (lx_b K + 10) (lx_b K + 55) ++ (blkX2 (xS K) (lx_b K + 142) ++ ([csX K 144] ++ (blkX6 (xS K) (lx_b K + 145) ++ (blkX5 (xS K) (lx_b K + 148) ++ blkX0 (xS K) (lx_b K + 156))))))))))))))))))))))) := by
    rw [cob_0]
    rfl
  rw [h, cbk_2, cbk_4, cbk_6, cbk_8, cbk_10, cbk_30, cbk_50, cbk_55, cbk_62, cbk_82, cbk_87, cbk_107, cbk_112, cbk_132, cbk_137, cbk_139, cbk_140, cbk_142, cbk_145, cbk_148, cbk_156]
  exact rg159 (csX K)
theorem csC {K : lx_K} {H : Heap} (h : va_P K.2.1 vwCl (n_ws (lx_b K) (blkX11 (xS K) (lx_b K))) H) : va_P K.2.1 vwCl (o_ws (xC K) mC0) H := by
  intro k q hk
  have hk1 : k < 159 := (o_ws_ad hk).1
  rw [o_ws_at (X := xC K) hk1] at hk
  cases hk
  have hq : (n_ws (lx_b K) (blkX11 (xS K) (lx_b K)))[k]? = some (lx_b K + k, csX K k) := n_at (by rw [csX_eq, List.getElem?_map, List.getElem?_range hk1]; rfl)
  have hv := h k _ hq
  by_cases h1 : k = 1
  · subst h1
    have hg : va_at K.2.1 vwCl (lx_b K + 1, .inl (o_cA (xC K) 3, 4, .inr (.inr (.inr (.inr fun j => some (o_ad (xC K) (o_rf (xC K) 1 j))))))) H := by
      refine Eq.trans (show H[lx_b K + 1]? = some (arrV (o_cA (xC K) 3) 4 (fun j => va_rf ((va_up (va_up (va_up (va_up (fun _ => none) 0 (some (lx_b K + 2))) 1 (some (lx_b K + 4))) 2 (some (lx_b K + 6))) 3 (some (lx_b K + 8))) j))) from hv) (congrArg some (arrV_cg (g := fun j => va_rf (some (o_ad (xC K) (o_rf (xC K) 1 j)))) fun j hj => ?_))
      rcases (show j = 0 ∨ j = 1 ∨ j = 2 ∨ j = 3 by omega) with rfl | rfl | rfl | rfl <;> rfl
    exact hg
  by_cases h60 : k = 60
  · subst h60
    have hg : va_at K.2.1 vwCl (lx_b K + 60, .inl (o_cA (xC K) 4, 3, .inr (.inr (.inr (.inr fun j => some (o_ad (xC K) (o_rf (xC K) 60 j))))))) H := by
      refine Eq.trans (show H[lx_b K + 60]? = some (arrV (o_cA (xC K) 4) 3 (fun j => va_rf ((va_up (va_up (va_up (fun _ => none) 0 (some (lx_b K + 62))) 1 (some (lx_b K + 87))) 2 (some (lx_b K + 112))) j))) from hv) (congrArg some (arrV_cg (g := fun j => va_rf (some (o_ad (xC K) (o_rf (xC K) 60 j)))) fun j hj => ?_))
      rcases (show j = 0 ∨ j = 1 ∨ j = 2 by omega) with rfl | rfl | rfl <;> rfl
    exact hg
  by_cases h61 : k = 61
  · subst h61
    have hg : va_at K.2.1 vwCl (lx_b K + 61, .inl (o_cA (xC K) 5, 3, .inr (.inr (.inr (.inr fun j => some (o_ad (xC K) (o_rf (xC K) 61 j))))))) H := by
      refine Eq.trans (show H[lx_b K + 61]? = some (arrV (o_cA (xC K) 5) 3 (fun j => va_rf ((va_up (va_up (va_up (fun _ => none) 0 (some (lx_b K + 82))) 1 (some (lx_b K + 107))) 2 (some (lx_b K + 132))) j))) from hv) (congrArg some (arrV_cg (g := fun j => va_rf (some (o_ad (xC K) (o_rf (xC K) 61 j)))) fun j hj => ?_))
      rcases (show j = 0 ∨ j = 1 ∨ j = 2 by omega) with rfl | rfl | rfl <;> rfl
    exact hg
  rw [show csX K k = o_cell (xC K) mC0 k from by unfold csX; rw [if_neg h1, if_neg h60, if_neg h61]] at hv
  exact hv
