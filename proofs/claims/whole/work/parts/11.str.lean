/-! ===== string constants ===== -/
def o_ln (i : Nat) : Int32 := Int32.ofNat (o_byt i).length
def o_chr (i j : Nat) : Int32 := (o_byt i).getD j 0
section oS
variable {X : o_Cx} {d : Nat} {M : o_M} {pc : Nat} {L : List (Option Value)} {st rest : List Value} {μ : o_Mem} {Q : Option Value → o_Mem → Prop} {idx : Nat}
theorem s_ldcS0 (hm : M.1.cls = "OddCancel$Reader") (hd : decode M.2.1 pc = .ok (.ldc 76, 2)) (k : o_Ev X d M (pc + 2) L (.ref (o_aK X 0) :: st) μ Q) : o_Ev X d M pc L st μ Q := by
  intro p e R s m args below meth c H locs ls F hP hS hl
  exact va_ldcS F.1 F.2.1 (by rw [← hm]; exact F.2.2.2.2.2.1) F.2.2.2.2.2.2.2.2.1.1 hd (k p e R s m args below meth c H locs ls F hP hS hl)
theorem s_ldcS1 (hm : M.1.cls = "OddCancelModel") (hd : decode M.2.1 pc = .ok (.ldc 180, 2)) (k : o_Ev X d M (pc + 2) L (.ref (o_aK X 1) :: st) μ Q) : o_Ev X d M pc L st μ Q := by
  intro p e R s m args below meth c H locs ls F hP hS hl
  exact va_ldcS F.1 F.2.1 (by rw [← hm]; exact F.2.2.2.2.2.1) F.2.2.2.2.2.2.2.2.1.2.1 hd (k p e R s m args below meth c H locs ls F hP hS hl)
theorem s_strlen {i : Nat} (hi : i < 2) (hl : Cond.methodLink M.1.cls idx yJ0_length_8abf5 ∈ o_tb) (hrm : (rest.map fun v => v.category).sum ≤ 8) (hd : decode M.2.1 pc = .ok (.invokevirtual idx, 3)) (k : o_Ev X (d + 4) M (pc + 3) L (.int (o_ln i) :: rest) μ Q) : o_Ev X (d + 4) M pc L (.ref (o_aK X i) :: rest) μ Q := sorry
theorem s_charAt {i : Nat} {j : Int32} (hi : i < 2) (hl : Cond.methodLink M.1.cls idx yJ0_charAt_5068e ∈ o_tb) (hj : 0 ≤ j.toInt ∧ j.toInt < (o_ln i).toInt) (hrm : (rest.map fun v => v.category).sum ≤ 8) (hd : decode M.2.1 pc = .ok (.invokevirtual idx, 3)) (k : o_Ev X (d + 4) M (pc + 3) L (.int (o_chr i j.toNatClampNeg) :: rest) μ Q) : o_Ev X (d + 4) M pc L (.int j :: .ref (o_aK X i) :: rest) μ Q := sorry
theorem s_strlen0 (hl : Cond.methodLink M.1.cls idx yJ0_length_8abf5 ∈ o_tb) (hrm : (rest.map fun v => v.category).sum ≤ 8) (hd : decode M.2.1 pc = .ok (.invokevirtual idx, 3)) (k : o_Ev X (d + 4) M (pc + 3) L (.int (o_ln 0) :: rest) μ Q) : o_Ev X (d + 4) M pc L (.ref (o_aK X 0) :: rest) μ Q := s_strlen (by decide) hl hrm hd k
theorem s_strlen1 (hl : Cond.methodLink M.1.cls idx yJ0_length_8abf5 ∈ o_tb) (hrm : (rest.map fun v => v.category).sum ≤ 8) (hd : decode M.2.1 pc = .ok (.invokevirtual idx, 3)) (k : o_Ev X (d + 4) M (pc + 3) L (.int (o_ln 1) :: rest) μ Q) : o_Ev X (d + 4) M pc L (.ref (o_aK X 1) :: rest) μ Q := s_strlen (by decide) hl hrm hd k
theorem s_charAt0 {j : Int32} (hl : Cond.methodLink M.1.cls idx yJ0_charAt_5068e ∈ o_tb) (hj : 0 ≤ j.toInt ∧ j.toInt < (o_ln 0).toInt) (hrm : (rest.map fun v => v.category).sum ≤ 8) (hd : decode M.2.1 pc = .ok (.invokevirtual idx, 3)) (k : o_Ev X (d + 4) M (pc + 3) L (.int (o_chr 0 j.toNatClampNeg) :: rest) μ Q) : o_Ev X (d + 4) M pc L (.int j :: .ref (o_aK X 0) :: rest) μ Q := s_charAt (by decide) hl hj hrm hd k
theorem s_charAt1 {j : Int32} (hl : Cond.methodLink M.1.cls idx yJ0_charAt_5068e ∈ o_tb) (hj : 0 ≤ j.toInt ∧ j.toInt < (o_ln 1).toInt) (hrm : (rest.map fun v => v.category).sum ≤ 8) (hd : decode M.2.1 pc = .ok (.invokevirtual idx, 3)) (k : o_Ev X (d + 4) M (pc + 3) L (.int (o_chr 1 j.toNatClampNeg) :: rest) μ Q) : o_Ev X (d + 4) M pc L (.int j :: .ref (o_aK X 1) :: rest) μ Q := s_charAt (by decide) hl hj hrm hd k
end oS
theorem o_ne {a b : Nat} (h : Nat.beq a b = false) : ¬ a = b := fun e => by subst e; simp at h
