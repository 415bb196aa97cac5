/-! ===== a STEP read as a whole: its head, its rest, its end; the loop of WEEKS does these one after the other ===== -/
noncomputable def gX10_takeStep_j116 (rf : Nat → Nat → Nat) (a0 : Nat) (x1 : Int32) (μ0 : o_Mem) : Option (Int32 × o_Mem) :=
  o_seq (o_wI μ0 (rf a0 2) 1 ((μ0.1 (rf a0 2) 1) + 1)) fun μ1 =>
  o_bd (fX4_next rf (rf a0 0) μ1) fun _u μ2 =>
  o_bd (fX10_takeRest rf a0 x1 μ2) fun r1 μ3 =>
  if r1 = 0 then (
    some (0, μ3))
  else (
    o_bd (fX4_wantClose rf (rf a0 0) μ3) fun r2 μ4 =>
    if r2 = 0 then (
      some (0, μ4))
    else (
      some (1, μ4)))
noncomputable def gX10_takeStep_j86 (rf : Nat → Nat → Nat) (a0 : Nat) (x1 : Int32) (x2 : Int32) (μ0 : o_Mem) : Option (Int32 × o_Mem) :=
  if x2 = 0 then (
    gX10_takeStep_j116 rf a0 x1 μ0)
  else (
    o_ck (0 ≤ ((μ0.1 a0 4)).toInt ∧ ((μ0.1 a0 4)).toInt < 3) <|
    o_seq (o_wI μ0 (rf a0 3) (((μ0.1 a0 4)).toNatClampNeg) (μ0.1 (rf a0 2) 2)) fun μ1 =>
    o_seq (o_wI μ1 a0 4 ((μ1.1 a0 4) + 1)) fun μ2 =>
    gX10_takeStep_j116 rf a0 x1 μ2)
noncomputable def gX10_takeStep_j25 (rf : Nat → Nat → Nat) (a0 : Nat) (x1 : Int32) (y0 : Int32) (μ0 : o_Mem) : Option (Int32 × o_Mem) :=
  o_bd (fX10_begins rf x1 μ0) fun r1 μ1 =>
  if r1 = 0 then (
    o_bd (fX4_fail rf (rf a0 0) 2 μ1) fun r4 μ4 =>
    some (r4, μ4))
  else (
    if (μ1.1 (rf a0 2) 1) < 30 then (
      if y0 = 0 then (
        gX10_takeStep_j86 rf a0 x1 y0 μ1)
      else (
        if (μ1.1 a0 4) < 3 then (
          gX10_takeStep_j86 rf a0 x1 y0 μ1)
        else (
          o_bd (fX4_fail rf (rf a0 0) 7 μ1) fun r2 μ2 =>
          some (r2, μ2))))
    else (
      o_bd (fX4_fail rf (rf a0 0) 6 μ1) fun r3 μ3 =>
      some (r3, μ3)))
noncomputable def gX10_takeStep_j20 (rf : Nat → Nat → Nat) (a0 : Nat) (x1 : Int32) (μ0 : o_Mem) : Option (Int32 × o_Mem) :=
  gX10_takeStep_j25 rf a0 x1 1 μ0
noncomputable def gX10_takeStep (rf : Nat → Nat → Nat) (a0 : Nat) (μ0 : o_Mem) : Option (Int32 × o_Mem) :=
  if (μ0.1 (rf a0 0) 8) = 20 then (
    gX10_takeStep_j20 rf a0 (μ0.1 (rf a0 0) 8) μ0)
  else (
    if (μ0.1 (rf a0 0) 8) = 24 then (
      gX10_takeStep_j20 rf a0 (μ0.1 (rf a0 0) 8) μ0)
    else (
      gX10_takeStep_j25 rf a0 (μ0.1 (rf a0 0) 8) 0 μ0))
/-- what follows a STEP's head -/
noncomputable def gX10_K (rf : Nat → Nat → Nat) (a0 : Nat) (y : Int32) (r : Int32) (μ : o_Mem) : Option (Int32 × o_Mem) :=
  if r = 0 then (
    some (0, μ))
  else (
    o_bd (fX10_takeRest rf a0 y μ) fun r1 μ3 =>
    if r1 = 0 then (
      some (0, μ3))
    else (
      o_bd (fX4_wantClose rf (rf a0 0) μ3) fun r2 μ4 =>
      if r2 = 0 then (
        some (0, μ4))
      else (
        some (1, μ4))))
section gx
variable (rf : Nat → Nat → Nat) (a0 : Nat) (y : Int32) (μ : o_Mem)
theorem gX_ckn {c : Prop} [Decidable c] {ρ : Type} (o : Option (ρ × o_Mem)) (h : ¬ c) : o_ck c o = none := if_neg h
theorem gX_none {ρ τ : Type} (f : ρ → o_Mem → Option (τ × o_Mem)) : o_bd (none : Option (ρ × o_Mem)) f = none := rfl
theorem gX_fail (a : Nat) (x : Int32) : ∃ m, fX4_fail rf a x μ = some (0, m) := by
  unfold fX4_fail fX4_fail_j14
  split <;> exact ⟨_, rfl⟩
theorem gX_fl (a : Nat) (x : Int32) : (o_bd (fX4_fail rf a x μ) fun r m => some (r, m)) = o_bd (o_bd (fX4_fail rf a x μ) fun r m => some (r, m)) (gX10_K rf a0 y) := by
  obtain ⟨m, e⟩ := gX_fail rf μ a x
  rw [e, p_bd, p_bd]
  unfold gX10_K
  rw [if_pos rfl]
theorem gX_116 : gX10_takeStep_j116 rf a0 y μ = o_bd (fX10_beginStep_j108 rf a0 μ) (gX10_K rf a0 y) := by
  unfold gX10_takeStep_j116 fX10_beginStep_j108
  rw [p_seq, p_seq]
  cases fX4_next rf (rf a0 0) (o_wI μ (rf a0 2) 1 (μ.1 (rf a0 2) 1 + 1)) with
  | none => rw [gX_none, gX_none, gX_none]
  | some r =>
    obtain ⟨u, m⟩ := r
    rw [p_bd, p_bd, p_bd]
    unfold gX10_K
    rw [if_neg (show ¬ (1 : Int32) = 0 by decide)]
theorem gX_86 (x : Int32) : gX10_takeStep_j86 rf a0 y x μ = o_bd (fX10_beginStep_j78 rf a0 x μ) (gX10_K rf a0 y) := by
  unfold gX10_takeStep_j86 fX10_beginStep_j78
  by_cases h : x = 0
  · rw [if_pos h, if_pos h]
    exact gX_116 rf a0 y μ
  · rw [if_neg h, if_neg h]
    by_cases hc : 0 ≤ ((μ.1 a0 4)).toInt ∧ ((μ.1 a0 4)).toInt < 3
    · rw [p_ck _ hc, p_ck _ hc]
      simp only [p_seq]
      exact gX_116 rf a0 y _
    · rw [gX_ckn _ hc, gX_ckn _ hc, gX_none]
theorem gX_25 (x : Int32) : gX10_takeStep_j25 rf a0 y x μ = o_bd (fX10_beginStep_j17 rf a0 y x μ) (gX10_K rf a0 y) := by
  unfold gX10_takeStep_j25 fX10_beginStep_j17
  cases fX10_begins rf y μ with
  | none => rw [gX_none, gX_none, gX_none]
  | some r =>
    obtain ⟨r1, m⟩ := r
    rw [p_bd, p_bd]
    by_cases h : r1 = 0
    · rw [if_pos h, if_pos h]
      exact gX_fl rf a0 y m (rf a0 0) 2
    · rw [if_neg h, if_neg h]
      by_cases h30 : (m.1 (rf a0 2) 1) < 30
      · rw [if_pos h30, if_pos h30]
        by_cases h0 : x = 0
        · rw [if_pos h0, if_pos h0]
          exact gX_86 rf a0 y m x
        · rw [if_neg h0, if_neg h0]
          by_cases h3 : m.1 a0 4 < 3
          · rw [if_pos h3, if_pos h3]
            exact gX_86 rf a0 y m x
          · rw [if_neg h3, if_neg h3]
            exact gX_fl rf a0 y m (rf a0 0) 7
      · rw [if_neg h30, if_neg h30]
        exact gX_fl rf a0 y m (rf a0 0) 6
theorem gX_step : gX10_takeStep rf a0 μ = o_bd (fX10_beginStep rf a0 (μ.1 (rf a0 0) 8) μ) (gX10_K rf a0 (μ.1 (rf a0 0) 8)) := by
  unfold gX10_takeStep gX10_takeStep_j20 fX10_beginStep fX10_beginStep_j12
  by_cases h20 : μ.1 (rf a0 0) 8 = 20
  · rw [if_pos h20, if_pos h20]
    exact gX_25 rf a0 _ μ 1
  · rw [if_neg h20, if_neg h20]
    by_cases h24 : μ.1 (rf a0 0) 8 = 24
    · rw [if_pos h24, if_pos h24]
      exact gX_25 rf a0 _ μ 1
    · rw [if_neg h24, if_neg h24]
      exact gX_25 rf a0 _ μ 0
/-- a turn of the loop, when the word isn't END -/
theorem gX_turn (c : Int32) : (o_bd (fX10_beginStep rf a0 y μ) fun r1 μ1 =>
      if r1 = 0 then fX10_accept_j108 rf a0 c μ1
      else o_bd (fX10_takeRest rf a0 y μ1) fun r2 μ2 =>
        if r2 = 0 then fX10_accept_j108 rf a0 c μ2
        else o_bd (fX4_wantClose rf (rf a0 0) μ2) fun r3 μ3 =>
          if r3 = 0 then fX10_accept_j108 rf a0 c μ3
          else some ((32, ((1 : Int32), (c + 1))), μ3))
    = o_bd (o_bd (fX10_beginStep rf a0 y μ) (gX10_K rf a0 y)) fun r1 μ1 => some ((32, (r1, (c + 1))), μ1) := by
  unfold fX10_accept_j108 gX10_K
  cases fX10_beginStep rf a0 y μ with
  | none => rw [gX_none, gX_none, gX_none]
  | some r =>
    obtain ⟨r1, m⟩ := r
    rw [p_bd, p_bd]
    by_cases h : r1 = 0
    · rw [if_pos h, if_pos h, p_bd]
    · rw [if_neg h, if_neg h]
      cases fX10_takeRest rf a0 y m with
      | none => rw [gX_none, gX_none, gX_none]
      | some r =>
        obtain ⟨r2, m2⟩ := r
        rw [p_bd, p_bd]
        by_cases h2 : r2 = 0
        · rw [if_pos h2, if_pos h2, p_bd]
        · rw [if_neg h2, if_neg h2]
          cases fX4_wantClose rf (rf a0 0) m2 with
          | none => rw [gX_none, gX_none, gX_none]
          | some r =>
            obtain ⟨r3, m3⟩ := r
            rw [p_bd, p_bd]
            by_cases h3 : r3 = 0
            · rw [if_pos h3, if_pos h3, p_bd]
            · rw [if_neg h3, if_neg h3, p_bd]
end gx
