/-! ===== Math.max over longs ===== -/
section oML
variable {X : o_Cx} {d : Nat} {M : o_M} {pc : Nat} {L : List (Option Value)} {rest : List Value} {μ : o_Mem} {Q : Option Value → o_Mem → Prop} {idx : Nat}
theorem s_maxL {x y : Int64} (hlink : Cond.methodLink M.1.cls idx Lib.MathLoose.max_long.x ∈ o_tb) (hstat : Cond.static Lib.MathLoose.max_long.x ∈ o_tb) (hini : Cond.initialized "java/lang/Math" ∈ o_tb) (hcode : Cond.code Lib.MathLoose.max_long.x Lib.MathLoose.max_long.code 4 (some .long) ∈ o_tb) (hrm : (rest.map fun v => v.category).sum ≤ 8) (hd : decode M.2.1 pc = .ok (.invokestatic idx, 3)) (k : o_Ev X (d + 1) M (pc + 3) L (.long (if y < x then x else y) :: rest) μ Q) : o_Ev X (d + 1) M pc L (.long y :: .long x :: rest) μ Q := by
  intro p e R s m args below meth c H locs ls F hP hS hl
  obtain ⟨hx, hbc, hml, hr, hlk, hown, hts, hK, hSt, hR1, hR2⟩ := id F
  exact va_mmax_long hx hbc (by rw [hml, hl.1]) hown (hts _ hlink) (hts _ hstat) (hts _ hini) (hts _ hcode) (by omega) (by omega) (Nat.zero_le _) (Nat.zero_le _) hd (k p e R s m args below meth c H locs ls F hP hS hl)
end oML
