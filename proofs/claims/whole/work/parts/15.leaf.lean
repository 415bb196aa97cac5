/-! ===== equations of small functions ===== -/
def bI (c : Prop) [Decidable c] : Int32 := if c then 1 else 0
theorem bI_t {c : Prop} [Decidable c] (h : c) : bI c = 1 := if_pos h
theorem bI_f {c : Prop} [Decidable c] (h : ¬ c) : bI c = 0 := if_neg h
theorem bI_0 {c : Prop} [Decidable c] : (bI c = 0) ↔ ¬ c := by
  unfold bI
  by_cases h : c
  · rw [if_pos h]; exact ⟨fun z => absurd z (by decide), fun z => absurd h z⟩
  · rw [if_neg h]; exact ⟨fun _ => h, fun _ => rfl⟩
theorem bI_if {α : Type} {c : Prop} [Decidable c] (A B : α) : (if bI c = 0 then A else B) = if c then B else A := by
  by_cases h : c
  · rw [if_pos h, if_neg (by rw [bI_0]; exact fun z => z h)]
  · rw [if_neg h, if_pos (bI_0.mpr h)]
theorem bI_cong {c e : Prop} [Decidable c] [Decidable e] (h : c ↔ e) : bI c = bI e := by
  unfold bI
  by_cases hc : c
  · rw [if_pos hc, if_pos (h.mp hc)]
  · rw [if_neg hc, if_neg (fun z => hc (h.mpr z))]
theorem i32_lt (a b : Int32) : a < b ↔ a.toInt < b.toInt := Int32.lt_iff_toInt_lt
theorem i32_le (a b : Int32) : a ≤ b ↔ a.toInt ≤ b.toInt := Int32.le_iff_toInt_le
theorem i64_lt (a b : Int64) : a < b ↔ a.toInt < b.toInt := Int64.lt_iff_toInt_lt
theorem i64_le (a b : Int64) : a ≤ b ↔ a.toInt ≤ b.toInt := Int64.le_iff_toInt_le
theorem i64_of (x : Int32) : x.toInt64.toInt = x.toInt := by simp
theorem i32_eq (a b : Int32) : a = b ↔ a.toInt = b.toInt := Int32.toInt_inj.symm
theorem i32_rng (x : Int32) : -2147483648 ≤ x.toInt ∧ x.toInt < 2147483648 := by
  have h1 := Int32.minValue_le_toInt x
  have h2 := Int32.toInt_le x
  rw [show Int32.minValue.toInt = -2147483648 by decide] at h1
  rw [show Int32.maxValue.toInt = 2147483647 by decide] at h2
  omega
theorem c64_0 : (0 : Int64).toInt = 0 := by decide
theorem c32_0 : (0 : Int32).toInt = 0 := by decide
theorem c32_m1 : (-1 : Int32).toInt = -1 := by decide
section lf
variable (rf : Nat → Nat → Nat) (a : Nat) (μ : o_Mem)
theorem e11_gives (x : Int32) : fX11_gives rf a x μ = some (x, o_wI μ a 0 0) := rfl
theorem e11_refuses (x : Int32) : fX11_refuses rf a x μ = some (-1, o_wI μ a 0 x) := rfl
theorem e11_ends (x : Int32) : fX11_ends rf a x μ = some (bI (x = 0), o_wI μ a 0 x) := by
  unfold fX11_ends bI
  simp only [p_seq]
  split <;> rfl
theorem e11_any (x : Int32) : fX11_givesIfAny rf a x μ = if x = -1 then some (-1, o_wI μ a 0 6) else some (x, o_wI μ a 0 0) := rfl
theorem e12_gives (x : Int32) : fX12_gives rf a x μ = some (x, o_wI μ a 2 0) := rfl
theorem e12_refuse (x : Int32) : fX12_refuse rf a x μ = some (-1, o_wI μ a 2 x) := rfl
theorem e12_is (x : Int32) : fX12_is rf a x μ = some (bI (x = 0), o_wI μ a 2 x) := by
  unfold fX12_is bI
  simp only [p_seq]
  split <;> rfl
theorem e12_orNone (x : Int32) : fX12_orNone rf a x μ = if x = -1 then some (-1, o_wI μ a 2 6) else some (x, o_wI μ a 2 0) := rfl
theorem e11_within (x y z : Int64) : fX11_within rf x y z μ = some (bI (y.toInt ≤ x.toInt ∧ x.toInt ≤ z.toInt), μ) := by
  unfold fX11_within bI
  simp only [i64_lt]
  repeat' split
  all_goals first | rfl | (exfalso; omega)
theorem e12_isFrom (x y z : Int64) : fX12_isFrom rf x y z μ = some (bI (y.toInt ≤ x.toInt ∧ x.toInt ≤ z.toInt), μ) := by
  unfold fX12_isFrom bI
  simp only [i64_lt]
  repeat' split
  all_goals first | rfl | (exfalso; omega)
theorem e11_isTray (x : Int32) : fX11_isTray rf x μ = some (bI (0 ≤ x.toInt ∧ x.toInt < 4), μ) := by
  unfold fX11_isTray
  rw [e11_within, p_bd, i64_of]
  refine congrArg some (Prod.ext (bI_cong ?_) rfl)
  show (0 : Int64).toInt ≤ _ ∧ _ ≤ (3 : Int64).toInt ↔ _
  rw [show (3 : Int64).toInt = 3 by decide, c64_0]
  omega
theorem e12_isTray (x : Int32) : fX12_isTray rf x μ = some (bI (0 ≤ x.toInt ∧ x.toInt < 4), μ) := by
  unfold fX12_isTray bI
  simp only [i32_lt, i32_le, c32_0, show (4 : Int32).toInt = 4 by decide]
  repeat' split
  all_goals first | rfl | (exfalso; omega)
end lf
theorem aR_1 (a : Nat) : nI a + 1 = nI (a + 1) := nI_add a 1
theorem aL_1 (a : Nat) : 1 + nI a = nI (1 + a) := nI_add 1 a
theorem aR_2 (a : Nat) : nI a + 2 = nI (a + 2) := nI_add a 2
theorem aL_2 (a : Nat) : 2 + nI a = nI (2 + a) := nI_add 2 a
theorem aR_3 (a : Nat) : nI a + 3 = nI (a + 3) := nI_add a 3
theorem aL_3 (a : Nat) : 3 + nI a = nI (3 + a) := nI_add 3 a
theorem aR_4 (a : Nat) : nI a + 4 = nI (a + 4) := nI_add a 4
theorem aL_4 (a : Nat) : 4 + nI a = nI (4 + a) := nI_add 4 a
theorem aR_5 (a : Nat) : nI a + 5 = nI (a + 5) := nI_add a 5
theorem aL_5 (a : Nat) : 5 + nI a = nI (5 + a) := nI_add 5 a
theorem aR_6 (a : Nat) : nI a + 6 = nI (a + 6) := nI_add a 6
theorem aL_6 (a : Nat) : 6 + nI a = nI (6 + a) := nI_add 6 a
theorem aR_8 (a : Nat) : nI a + 8 = nI (a + 8) := nI_add a 8
theorem aL_8 (a : Nat) : 8 + nI a = nI (8 + a) := nI_add 8 a
theorem aR_12 (a : Nat) : nI a + 12 = nI (a + 12) := nI_add a 12
theorem aL_12 (a : Nat) : 12 + nI a = nI (12 + a) := nI_add 12 a
theorem aR_13 (a : Nat) : nI a + 13 = nI (a + 13) := nI_add a 13
theorem aL_13 (a : Nat) : 13 + nI a = nI (13 + a) := nI_add 13 a
theorem aR_14 (a : Nat) : nI a + 14 = nI (a + 14) := nI_add a 14
theorem aL_14 (a : Nat) : 14 + nI a = nI (14 + a) := nI_add 14 a
theorem aR_25 (a : Nat) : nI a + 25 = nI (a + 25) := nI_add a 25
theorem aL_25 (a : Nat) : 25 + nI a = nI (25 + a) := nI_add 25 a
theorem aR_31 (a : Nat) : nI a + 31 = nI (a + 31) := nI_add a 31
theorem aL_31 (a : Nat) : 31 + nI a = nI (31 + a) := nI_add 31 a
theorem aR_60 (a : Nat) : nI a + 60 = nI (a + 60) := nI_add a 60
theorem aL_60 (a : Nat) : 60 + nI a = nI (60 + a) := nI_add 60 a
theorem aR_64 (a : Nat) : nI a + 64 = nI (a + 64) := nI_add a 64
theorem aL_64 (a : Nat) : 64 + nI a = nI (64 + a) := nI_add 64 a
theorem aR_79 (a : Nat) : nI a + 79 = nI (a + 79) := nI_add a 79
theorem aL_79 (a : Nat) : 79 + nI a = nI (79 + a) := nI_add 79 a
theorem aR_99 (a : Nat) : nI a + 99 = nI (a + 99) := nI_add a 99
theorem aL_99 (a : Nat) : 99 + nI a = nI (99 + a) := nI_add 99 a
theorem aR_151 (a : Nat) : nI a + 151 = nI (a + 151) := nI_add a 151
theorem aL_151 (a : Nat) : 151 + nI a = nI (151 + a) := nI_add 151 a
theorem aR_199 (a : Nat) : nI a + 199 = nI (a + 199) := nI_add a 199
theorem aL_199 (a : Nat) : 199 + nI a = nI (199 + a) := nI_add 199 a
theorem aR_259 (a : Nat) : nI a + 259 = nI (a + 259) := nI_add a 259
theorem aL_259 (a : Nat) : 259 + nI a = nI (259 + a) := nI_add 259 a
theorem aR_2504 (a : Nat) : nI a + 2504 = nI (a + 2504) := nI_add a 2504
theorem aL_2504 (a : Nat) : 2504 + nI a = nI (2504 + a) := nI_add 2504 a
theorem aR_2563 (a : Nat) : nI a + 2563 = nI (a + 2563) := nI_add a 2563
theorem aL_2563 (a : Nat) : 2563 + nI a = nI (2563 + a) := nI_add 2563 a
theorem mR_2 (a : Nat) : nI a * 2 = nI (a * 2) := pk_mul a 2
theorem mL_2 (a : Nat) : 2 * nI a = nI (2 * a) := pk_mul 2 a
theorem mR_3 (a : Nat) : nI a * 3 = nI (a * 3) := pk_mul a 3
theorem mL_3 (a : Nat) : 3 * nI a = nI (3 * a) := pk_mul 3 a
theorem mR_4 (a : Nat) : nI a * 4 = nI (a * 4) := pk_mul a 4
theorem mL_4 (a : Nat) : 4 * nI a = nI (4 * a) := pk_mul 4 a
theorem mR_5 (a : Nat) : nI a * 5 = nI (a * 5) := pk_mul a 5
theorem mL_5 (a : Nat) : 5 * nI a = nI (5 * a) := pk_mul 5 a
theorem mR_6 (a : Nat) : nI a * 6 = nI (a * 6) := pk_mul a 6
theorem mL_6 (a : Nat) : 6 * nI a = nI (6 * a) := pk_mul 6 a
theorem mR_10 (a : Nat) : nI a * 10 = nI (a * 10) := pk_mul a 10
theorem mL_10 (a : Nat) : 10 * nI a = nI (10 * a) := pk_mul 10 a
theorem mR_12 (a : Nat) : nI a * 12 = nI (a * 12) := pk_mul a 12
theorem mL_12 (a : Nat) : 12 * nI a = nI (12 * a) := pk_mul 12 a
theorem mR_60 (a : Nat) : nI a * 60 = nI (a * 60) := pk_mul a 60
theorem mL_60 (a : Nat) : 60 * nI a = nI (60 * a) := pk_mul 60 a
theorem mR_626 (a : Nat) : nI a * 626 = nI (a * 626) := pk_mul a 626
theorem mL_626 (a : Nat) : 626 * nI a = nI (626 * a) := pk_mul 626 a
theorem if_L1 {α : Type} {a b : Prop} [Decidable a] [Decidable b] (X Y : α) : (if a then X else (if b then Y else X)) = if a ∨ ¬ b then X else Y := by
  by_cases ha : a <;> by_cases hb : b <;> simp [ha, hb]
theorem if_L2 {α : Type} {a b : Prop} [Decidable a] [Decidable b] (X Y : α) : (if a then X else (if b then X else Y)) = if a ∨ b then X else Y := by
  by_cases ha : a <;> by_cases hb : b <;> simp [ha, hb]
theorem if_L3 {α : Type} {a b : Prop} [Decidable a] [Decidable b] (X Y : α) : (if a then (if b then X else Y) else Y) = if a ∧ b then X else Y := by
  by_cases ha : a <;> by_cases hb : b <;> simp [ha, hb]
theorem if_L4 {α : Type} {a b : Prop} [Decidable a] [Decidable b] (X Y : α) : (if a then Y else (if b then X else Y)) = if ¬ a ∧ b then X else Y := by
  by_cases ha : a <;> by_cases hb : b <;> simp [ha, hb]
