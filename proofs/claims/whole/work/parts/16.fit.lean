/-! ===== which LAW fits: class and reference come to the same number ===== -/
/-- LAW l of a VALLEY fits a LETTER -/
abbrev fitP (g : Nat → Nat → Int32) (l : Nat) (f t w h : Int32) : Prop := (g 4 (6 * l + 1) = -1 ∨ ¬ g 4 (6 * l + 1) ≤ w) ∧ (g 4 (6 * l + 2) = -1 ∨ ¬ w ≤ g 4 (6 * l + 2)) ∧ (g 4 (6 * l + 3) = -1 ∨ g 4 (6 * l + 3) = h) ∧ (g 4 (6 * l + 4) = -1 ∨ g 4 (6 * l + 4) = f) ∧ (g 4 (6 * l + 5) = -1 ∨ g 4 (6 * l + 5) = t)
def fitB (g : Nat → Nat → Int32) (l : Nat) (f t w h : Int32) : Bool := decide (fitP g l f t w h)
/-- the first of n from l on of which p holds -/
def fstN (p : Nat → Bool) : Nat → Nat → Option Nat
  | 0, _ => none
  | n + 1, l => if p l then some l else fstN p n (l + 1)
def oI (o : Option Nat) : Int32 := match o with
  | none => -1
  | some k => nI k
def fstFit (g : Nat → Nat → Int32) (f t w h : Int32) : Option Nat := fstN (fun l => fitB g l f t w h) (cL g) 0
def lstFit (g : Nat → Nat → Int32) (f t w h : Int32) : Option Nat := (fstN (fun k => fitB g (cL g - 1 - k) f t w h) (cL g) 0).map (fun k => cL g - 1 - k)
def stkBy (g : Nat → Nat → Int32) (o : Option Nat) : Int32 := match o with
  | none => -1
  | some l => g 4 (6 * l)
theorem rf8 {v : Nat} (hv : kdC v = .inl 8) (k : Nat) : rfC v k = if k ≤ 15 then v + (k - 8) else if k = 16 then v + 13 else v + 19 := by
  unfold rfC; rw [hv]; rfl
theorem bI_fin {P : Prop} [Decidable P] (μ : o_Mem) : (if P then some ((1 : Int32), μ) else some (0, μ)) = some (bI P, μ) := by
  unfold bI
  split <;> rfl
theorem e8_fits {v l : Nat} (hv : kdC v = .inl 8) (hl : l < 8) (f t w h : Int32) (μ : o_Mem) : fX8_fits rfC v (nI l) f t w h μ = some (bI (fitP (bV μ v) l f t w h), μ) := by
  have r12 : rfC v 12 = v + 4 := by rw [rf8 hv]; rfl
  have e1 : l * 6 = 6 * l := Nat.mul_comm _ _
  unfold fX8_fits fX8_fits_j74 fX8_fits_j87 fX8_fits_j100 fX8_fits_j112
  simp (disch := omega) only [r12, mR_6, aR_1, aR_2, aR_3, aR_4, aR_5, nI_toInt, nI_clamp, p_ck, e1, if_L2]
  rw [if_L1, if_L1]
  simp only [if_L3]
  exact bI_fin μ
theorem i32_nle (a b : Int32) : (a < b) = ¬ b ≤ a := by
  rw [i32_lt, i32_le]
  exact propext ⟨fun h => by omega, fun h => by omega⟩
theorem r12_0 : rfM 0 0 = 1 := rfl
theorem e12_j115 {n : Nat} (hn : n < 3000) (t : Int32) (μ : o_Mem) : fX12_doesFit_j115 rfM 0 t (nI n) μ = some (bI (μ.1 1 (n + 5) = -1 ∨ μ.1 1 (n + 5) = t), μ) := by
  unfold fX12_doesFit_j115
  simp (disch := omega) only [r12_0, aR_5, nI_toInt, nI_clamp, p_ck, if_L2]
  exact bI_fin μ
theorem bI_and {a b : Prop} [Decidable a] [Decidable b] (μ : o_Mem) : (if a then some (bI b, μ) else some ((0 : Int32), μ)) = some (bI (a ∧ b), μ) := by
  by_cases ha : a
  · rw [if_pos ha]; refine congrArg some (Prod.ext (bI_cong ?_) rfl); exact ⟨fun h => ⟨ha, h⟩, fun h => h.2⟩
  · rw [if_neg ha, bI_f (fun h => ha h.1)]
theorem e12_j89 {n : Nat} (hn : n < 3000) (f t : Int32) (μ : o_Mem) : fX12_doesFit_j89 rfM 0 f t (nI n) μ = some (bI ((μ.1 1 (n + 4) = -1 ∨ μ.1 1 (n + 4) = f) ∧ (μ.1 1 (n + 5) = -1 ∨ μ.1 1 (n + 5) = t)), μ) := by
  unfold fX12_doesFit_j89
  simp (disch := omega) only [r12_0, aR_4, nI_toInt, nI_clamp, p_ck, if_L2, e12_j115]
  exact bI_and μ
theorem e12_j62 {n : Nat} (hn : n < 3000) (f t h : Int32) (μ : o_Mem) : fX12_doesFit_j62 rfM 0 f t h (nI n) μ = some (bI ((μ.1 1 (n + 3) = -1 ∨ μ.1 1 (n + 3) = h) ∧ (μ.1 1 (n + 4) = -1 ∨ μ.1 1 (n + 4) = f) ∧ (μ.1 1 (n + 5) = -1 ∨ μ.1 1 (n + 5) = t)), μ) := by
  unfold fX12_doesFit_j62
  simp (disch := omega) only [r12_0, aR_3, nI_toInt, nI_clamp, p_ck, if_L2, e12_j89]
  exact bI_and μ
theorem e12_j33 {n : Nat} (hn : n < 3000) (f t w h : Int32) (μ : o_Mem) : fX12_doesFit_j33 rfM 0 f t w h (nI n) μ = some (bI ((μ.1 1 (n + 2) = -1 ∨ ¬ w ≤ μ.1 1 (n + 2)) ∧ (μ.1 1 (n + 3) = -1 ∨ μ.1 1 (n + 3) = h) ∧ (μ.1 1 (n + 4) = -1 ∨ μ.1 1 (n + 4) = f) ∧ (μ.1 1 (n + 5) = -1 ∨ μ.1 1 (n + 5) = t)), μ) := by
  unfold fX12_doesFit_j33
  simp (disch := omega) only [r12_0, aR_2, nI_toInt, nI_clamp, p_ck, if_L2, e12_j62]
  rw [bI_and μ]
  refine congrArg some (Prod.ext (bI_cong ?_) rfl)
  rw [i32_nle]
theorem e12_fits {l : Nat} (hl : l < 8) (f t w h : Int32) (μ : o_Mem) (g : Nat → Nat → Int32) (hg : ∀ j, j < 6 → μ.1 1 (31 + 6 * l + j) = g 4 (6 * l + j)) : fX12_doesFit rfM 0 (nI l) f t w h μ = some (bI (fitP g l f t w h), μ) := by
  have g1 := hg 1 (by omega)
  have g2 := hg 2 (by omega)
  have g3 := hg 3 (by omega)
  have g4 := hg 4 (by omega)
  have g5 := hg 5 (by omega)
  unfold fX12_doesFit fX12_lawRow
  simp (disch := omega) only [r12_0, mL_6, aL_31, aR_1, nI_toInt, nI_clamp, p_ck, p_bd, e12_j33, g1, g2, g3, g4, g5, if_L1]
  exact bI_and μ
/-! searching loops -/
theorem fstN_map {p q : Nat → Bool} : ∀ (n l : Nat), (∀ k, l ≤ k → k < l + n → p k = q k) → fstN p n l = fstN q n l
  | 0, _, _ => rfl
  | n + 1, l, h => by
    unfold fstN
    rw [h l (Nat.le_refl _) (by omega), fstN_map n (l + 1) (fun k h1 h2 => h k (by omega) (by omega))]
theorem fstN_lt {p : Nat → Bool} : ∀ (n l k : Nat), fstN p n l = some k → l ≤ k ∧ k < l + n ∧ p k = true
  | 0, _, _, h => by cases h
  | n + 1, l, k, h => by
    unfold fstN at h
    by_cases hp : p l = true
    · rw [if_pos hp] at h; cases h; exact ⟨Nat.le_refl _, by omega, hp⟩
    · rw [if_neg hp] at h
      have := fstN_lt n (l + 1) k h
      exact ⟨by omega, by omega, this.2.2⟩
theorem e8_ff_lp {v : Nat} (hv : kdC v = .inl 8) (f t w h : Int32) (μ : o_Mem) (hw : wfN (bV μ v)) : ∀ (n l : Nat), l + n = cL (bV μ v) →
    o_lp 3 (fX8_firstFit_s3 rfC v f t w h) (n + 1) (nI l) μ = some (match fstN (fun l => fitB (bV μ v) l f t w h) n l with | none => (35, 0) | some k => (26, nI k), μ)
  | 0, l, hl => by
    have hL := hw.2.2.2.1
    have e : μ.1 v 3 = nI (cL (bV μ v)) := hL.1
    refine p_lp_exit ?_ (by omega)
    unfold fX8_firstFit_s3
    rw [e, if_pos (nI_le (by omega) (by omega))]
    try rfl
  | n + 1, l, hl => by
    have hL := hw.2.2.2.1
    have e : μ.1 v 3 = nI (cL (bV μ v)) := hL.1
    by_cases hp : fitP (bV μ v) l f t w h
    · have hs : fX8_firstFit_s3 rfC v f t w h (nI l) μ = some ((26, nI l), μ) := by
        unfold fX8_firstFit_s3
        rw [e, if_neg (nI_ge (by omega) (by omega)), e8_fits hv (by omega), p_bd, bI_if, if_pos hp]
      rw [p_lp_exit hs (by omega)]
      unfold fstN
      rw [if_pos (show fitB (bV μ v) l f t w h = true from decide_eq_true hp)]
    · have hs : fX8_firstFit_s3 rfC v f t w h (nI l) μ = some ((3, nI (l + 1)), μ) := by
        unfold fX8_firstFit_s3
        rw [e, if_neg (nI_ge (by omega) (by omega)), e8_fits hv (by omega), p_bd, bI_if, if_neg hp, aR_1]
      rw [p_lp_next hs, e8_ff_lp hv f t w h μ hw n (l + 1) (by omega)]
      have h9 : fitB (bV μ v) l f t w h = false := decide_eq_false hp
      simp only [fstN, h9]
      rfl
theorem e8_firstFit {v : Nat} (hv : kdC v = .inl 8) (f t w h : Int32) (μ : o_Mem) (hw : wfN (bV μ v)) : fX8_firstFit rfC v f t w h μ = some (oI (fstFit (bV μ v) f t w h), μ) := by
  have hL := hw.2.2.2.1
  unfold fX8_firstFit
  rw [show o_lp 3 (fX8_firstFit_s3 rfC v f t w h) o_fuel 0 μ = _ from p_lp (e8_ff_lp hv f t w h μ hw (cL (bV μ v)) 0 (by omega)) (by omega)]
  unfold fstFit
  cases fstN (fun l => fitB (bV μ v) l f t w h) (cL (bV μ v)) 0 with
  | none => rfl
  | some k => rfl
