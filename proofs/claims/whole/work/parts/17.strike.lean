/-! ===== strikes: first and last LAW, sober, drunk ===== -/
def lstN (p : Nat → Bool) : Nat → Option Nat
  | 0 => none
  | l + 1 => if p l then some l else lstN p l
def lstL (g : Nat → Nat → Int32) (f t w h : Int32) : Option Nat := lstN (fun l => fitB g l f t w h) (cL g)
theorem lstN_lt {p : Nat → Bool} : ∀ (l k : Nat), lstN p l = some k → k < l ∧ p k = true
  | 0, _, h => by cases h
  | l + 1, k, h => by
    unfold lstN at h
    by_cases hp : p l = true
    · rw [if_pos hp] at h; cases h; exact ⟨by omega, hp⟩
    · rw [if_neg hp] at h
      have := lstN_lt l k h
      exact ⟨by omega, this.2⟩
section lps
variable {head e1 e2 : Nat} {step : Int32 → o_Mem → Option ((Nat × Int32) × o_Mem)} {μ : o_Mem} (p : Nat → Bool)
theorem lp_up {N : Nat} (h1 : ∀ l, l < N → step (nI l) μ = some (if p l then (e1, nI l) else (head, nI (l + 1)), μ)) (h2 : step (nI N) μ = some ((e2, 0), μ)) (n1 : ¬ e1 = head) (n2 : ¬ e2 = head) :
    ∀ (n l : Nat), l + n = N → o_lp head step (n + 1) (nI l) μ = some (match fstN p n l with | none => (e2, 0) | some k => (e1, nI k), μ)
  | 0, l, hl => by
    have e : l = N := by omega
    subst e
    exact p_lp_exit h2 n2
  | n + 1, l, hl => by
    have hs := h1 l (by omega)
    by_cases hp : p l = true
    · rw [if_pos hp] at hs
      rw [p_lp_exit hs n1]
      simp only [fstN, hp]
      rfl
    · rw [if_neg hp] at hs
      rw [p_lp_next hs, lp_up h1 h2 n1 n2 n (l + 1) (by omega)]
      have h9 : p l = false := by simpa using hp
      simp only [fstN, h9]
      rfl
theorem lp_dn {N : Nat} (h1 : ∀ l, l < N → step (nI (l + 1) - 1) μ = some (if p l then (e1, nI l) else (head, nI l - 1), μ)) (h2 : step (nI 0 - 1) μ = some ((e2, 0), μ)) (n1 : ¬ e1 = head) (n2 : ¬ e2 = head) :
    ∀ (l : Nat), l ≤ N → o_lp head step (l + 1) (nI l - 1) μ = some (match lstN p l with | none => (e2, 0) | some k => (e1, nI k), μ)
  | 0, _ => p_lp_exit h2 n2
  | l + 1, hl => by
    have hs := h1 l (by omega)
    by_cases hp : p l = true
    · rw [if_pos hp] at hs
      rw [p_lp_exit hs n1]
      simp only [lstN, hp]
      rfl
    · rw [if_neg hp] at hs
      rw [p_lp_next hs, lp_dn h1 h2 n1 n2 l (by omega)]
      have h9 : p l = false := by simpa using hp
      simp only [lstN, h9]
      rfl
end lps
theorem nI_m1 (l : Nat) : nI l + -1 = nI l - 1 := by
  rw [Int32.sub_eq_add_neg]
theorem nI_neg1 : nI 0 - 1 < 0 := by decide
theorem mS_0 (μ : o_Mem) : mS μ 0 = μ.1 1 := by funext k; unfold mS; rw [Nat.zero_add]
theorem e8_lastFit {v : Nat} (hv : kdC v = .inl 8) (f t w h : Int32) (μ : o_Mem) (hw : wfN (bV μ v)) : fX8_lastFit rfC v f t w h μ = some (oI (lstL (bV μ v) f t w h), μ) := by
  have hL := hw.2.2.2.1
  have e : μ.1 v 3 = nI (cL (bV μ v)) := hL.1
  have key := lp_dn (head := 8) (e1 := 27) (e2 := 36) (step := fX8_lastFit_s8 rfC v f t w h) (μ := μ) (fun l => fitB (bV μ v) l f t w h) (N := cL (bV μ v)) (fun l hl => by
      unfold fX8_lastFit_s8
      rw [nI_pred, if_neg (nI_pos (by omega)), e8_fits hv (by omega), p_bd, bI_if, nI_m1]
      by_cases hp : fitP (bV μ v) l f t w h
      · rw [if_pos hp, if_pos (show fitB (bV μ v) l f t w h = true from decide_eq_true hp)]
      · rw [if_neg hp, if_neg (by rw [show fitB (bV μ v) l f t w h = false from decide_eq_false hp]; decide)])
    (by unfold fX8_lastFit_s8; rw [if_pos nI_neg1]) (by decide) (by decide) (cL (bV μ v)) (Nat.le_refl _)
  unfold fX8_lastFit
  rw [e, p_lp key (by omega)]
  unfold lstL
  cases lstN (fun l => fitB (bV μ v) l f t w h) (cL (bV μ v)) with
  | none => rfl
  | some k => rfl
section md
variable {g : Nat → Nat → Int32} {μ : o_Mem}
theorem vR_law (hr : vR g (μ.1 1)) {l : Nat} (hl : l < cL g) : ∀ j, j < 6 → μ.1 1 (31 + 6 * l + j) = g 4 (6 * l + j) := fun j hj => hr.2.2.2.1 l j hl hj
theorem e12_firstLaw (f t w h : Int32) (hw : wfN g) (hr : vR g (μ.1 1)) : fX12_firstLaw rfM 0 f t w h μ = some (oI (fstFit g f t w h), μ) := by
  have hL := hw.2.2.2.1
  have e : μ.1 1 3 = nI (cL g) := hr.1.2.2.2.1.trans hL.1
  have key := lp_up (head := 3) (e1 := 28) (e2 := 37) (step := fX12_firstLaw_s3 rfM 0 f t w h) (μ := μ) (fun l => fitB g l f t w h) (N := cL g) (fun l hl => by
      unfold fX12_firstLaw_s3
      rw [r12_0, e, if_neg (nI_ge hl (by omega)), e12_fits (by omega) f t w h μ g (vR_law hr hl), p_bd, bI_if, aR_1]
      by_cases hp : fitP g l f t w h
      · rw [if_pos hp, if_pos (show fitB g l f t w h = true from decide_eq_true hp)]
      · rw [if_neg hp, if_neg (by rw [show fitB g l f t w h = false from decide_eq_false hp]; decide)])
    (by unfold fX12_firstLaw_s3; rw [r12_0, e, if_pos (nI_le (Nat.le_refl _) (by omega))]) (by decide) (by decide) (cL g) 0 (by omega)
  unfold fX12_firstLaw
  rw [show o_lp 3 (fX12_firstLaw_s3 rfM 0 f t w h) o_fuel 0 μ = _ from p_lp key (by omega)]
  unfold fstFit
  cases fstN (fun l => fitB g l f t w h) (cL g) 0 with
  | none => rfl
  | some k => rfl
theorem e12_lastLaw (f t w h : Int32) (hw : wfN g) (hr : vR g (μ.1 1)) : fX12_lastLaw rfM 0 f t w h μ = some (oI (lstL g f t w h), μ) := by
  have hL := hw.2.2.2.1
  have e : μ.1 1 3 = nI (cL g) := hr.1.2.2.2.1.trans hL.1
  have key := lp_dn (head := 10) (e1 := 29) (e2 := 38) (step := fX12_lastLaw_s10 rfM 0 f t w h) (μ := μ) (fun l => fitB g l f t w h) (N := cL g) (fun l hl => by
      unfold fX12_lastLaw_s10
      rw [nI_pred, if_neg (nI_pos (by omega)), e12_fits (by omega) f t w h μ g (vR_law hr hl), p_bd, bI_if, nI_m1]
      by_cases hp : fitP g l f t w h
      · rw [if_pos hp, if_pos (show fitB g l f t w h = true from decide_eq_true hp)]
      · rw [if_neg hp, if_neg (by rw [show fitB g l f t w h = false from decide_eq_false hp]; decide)])
    (by unfold fX12_lastLaw_s10; rw [if_pos nI_neg1]) (by decide) (by decide) (cL g) (Nat.le_refl _)
  unfold fX12_lastLaw
  rw [r12_0, e, p_lp key (by omega)]
  unfold lstL
  cases lstN (fun l => fitB g l f t w h) (cL g) with
  | none => rfl
  | some k => rfl
end md
theorem fstFit_lt {g : Nat → Nat → Int32} {f t w h : Int32} {l : Nat} (hl : fstFit g f t w h = some l) : l < cL g := by
  have := fstN_lt _ _ _ hl
  omega
theorem lstL_lt {g : Nat → Nat → Int32} {f t w h : Int32} {l : Nat} (hl : lstL g f t w h = some l) : l < cL g := (lstN_lt _ _ hl).1
theorem nI_nm1 {k : Nat} (h : k < 2 ^ 31) : ¬ nI k = -1 := by
  rw [i32_eq, nI_toInt h, c32_m1]; omega
theorem e8_strikeBy {v : Nat} (hv : kdC v = .inl 8) (μ : o_Mem) (o : Option Nat) (ho : ∀ l, o = some l → l < 8) : fX8_strikeBy rfC v (oI o) μ = some (stkBy (bV μ v) o, μ) := by
  have r12 : rfC v 12 = v + 4 := by rw [rf8 hv]; rfl
  unfold fX8_strikeBy
  cases o with
  | none => rfl
  | some l =>
    have hl := ho l rfl
    rw [show oI (some l) = nI l from rfl, if_neg (nI_nm1 (k := l) (by omega))]
    show o_ck (0 ≤ (nI l * 6).toInt ∧ (nI l * 6).toInt < 48) (some (μ.1 (rfC v 12) (nI l * 6).toNatClampNeg, μ)) = _
    simp (disch := omega) only [r12, mR_6, nI_toInt, nI_clamp, p_ck]
    rw [Nat.mul_comm l 6]
    rfl
theorem e12_strikeBy {g : Nat → Nat → Int32} {μ : o_Mem} (hw : wfN g) (hr : vR g (μ.1 1)) (o : Option Nat) (ho : ∀ l, o = some l → l < cL g) : fX12_strikeBy rfM 0 (oI o) μ = some (stkBy g o, μ) := by
  have hL := hw.2.2.2.1
  unfold fX12_strikeBy fX12_lawRow
  cases o with
  | none => rfl
  | some l =>
    have hl := ho l rfl
    rw [show oI (some l) = nI l from rfl, if_neg (nI_nm1 (k := l) (by omega))]
    show o_ck (0 ≤ (31 + 6 * nI l).toInt ∧ (31 + 6 * nI l).toInt < 3756) (some (μ.1 (rfM 0 0) (31 + 6 * nI l).toNatClampNeg, μ)) = _
    simp (disch := omega) only [r12_0, mL_6, aL_31, nI_toInt, nI_clamp, p_ck]
    have := vR_law hr hl 0 (by omega)
    rw [Nat.add_zero] at this
    rw [this]
    rfl
/-- the sober STRIKE of a LETTER, -1 for none -/
def sob (g : Nat → Nat → Int32) (f t w h : Int32) : Int32 := stkBy g (fstFit g f t w h)
def drk (g : Nat → Nat → Int32) (s : Int32) : Int32 := if s = -1 then -1 else if g 0 0 ≤ s + 1 then 0 else s + 1
theorem sob_ok {g : Nat → Nat → Int32} (hw : wfV g) (f t w h : Int32) : sob g f t w h = -1 ∨ inR (sob g f t w h) (cS g) := by
  unfold sob
  cases ho : fstFit g f t w h with
  | none => exact Or.inl rfl
  | some l => exact Or.inr (hw.2.2.2.2.1 l (fstFit_lt ho)).1
theorem e8_sober {v : Nat} (hv : kdC v = .inl 8) (f t w h : Int32) (μ : o_Mem) (hw : wfN (bV μ v)) : fX8_soberStrike rfC v f t w h μ = some (sob (bV μ v) f t w h, μ) := by
  have hL := hw.2.2.2.1
  unfold fX8_soberStrike
  rw [e8_firstFit hv f t w h μ hw, p_bd, e8_strikeBy hv μ _ (fun l hl => by have := fstFit_lt hl; omega), p_bd]
  rfl
theorem e12_sober {g : Nat → Nat → Int32} {μ : o_Mem} (f t w h : Int32) (hw : wfN g) (hr : vR g (μ.1 1)) : fX12_sober rfM 0 f t w h μ = some (sob g f t w h, μ) := by
  unfold fX12_sober
  rw [e12_firstLaw f t w h hw hr, p_bd, e12_strikeBy hw hr _ (fun l hl => fstFit_lt hl), p_bd]
  rfl
theorem e8_behind {v : Nat} (s : Int32) (μ : o_Mem) (rf : Nat → Nat → Nat) : fX8_strikeBehind rf v s μ = some (drk (bV μ v) s, μ) := by
  unfold fX8_strikeBehind drk
  show (if s = -1 then some (-1, μ) else if μ.1 v 0 ≤ s + 1 then some (0, μ) else some (s + 1, μ)) = some (if s = -1 then -1 else if μ.1 v 0 ≤ s + 1 then 0 else s + 1, μ)
  repeat' split
  all_goals rfl
theorem e12_drunk {g : Nat → Nat → Int32} {μ : o_Mem} (s : Int32) (hw : wfN g) (hr : vR g (μ.1 1)) (hs : s = -1 ∨ inR s (cS g)) : fX12_drunkFor rfM 0 s μ = some (drk g s, μ) := by
  have hS := hw.1
  have e : μ.1 1 0 = nI (cS g) := hr.1.1.trans hS.1
  unfold fX12_drunkFor drk
  rcases hs with rfl | hs
  · rfl
  · have hn : ¬ s = -1 := by rw [i32_eq, c32_m1]; have := hs.1; omega
    have h0 : ¬ s < 0 := by rw [i32_lt, c32_0]; have := hs.1; omega
    obtain ⟨k, hk, rfl⟩ := nI_of h0
    have hk2 : k < cS g := by have := hs.2; rw [nI_toInt hk] at this; omega
    rw [if_neg hn, if_neg hn, r12_0, e, hS.1, p_ck _ (nI_ne0 (by omega) (by omega)), aR_1, pk_rem (by omega) (by omega) (by omega)]
    by_cases h9 : cS g ≤ k + 1
    · rw [if_pos (nI_le h9 (by omega)), show (k + 1) % cS g = 0 by rw [show k + 1 = cS g by omega]; exact Nat.mod_self _]
      rfl
    · rw [if_neg (nI_ge (by omega) (by omega)), Nat.mod_eq_of_lt (by omega)]
theorem drk_ok {g : Nat → Nat → Int32} {s : Int32} (hw : wfN g) (hs : s = -1 ∨ inR s (cS g)) : drk g s = -1 ∨ inR (drk g s) (cS g) := by
  have hS := hw.1
  unfold drk
  rcases hs with rfl | hs
  · exact Or.inl (if_pos rfl)
  · have hn : ¬ s = -1 := by rw [i32_eq, c32_m1]; have := hs.1; omega
    have h0 : ¬ s < 0 := by rw [i32_lt, c32_0]; have := hs.1; omega
    obtain ⟨k, hk, rfl⟩ := nI_of h0
    have hk2 : k < cS g := by have := hs.2; rw [nI_toInt hk] at this; omega
    rw [if_neg hn, hS.1, aR_1]
    refine Or.inr ?_
    by_cases h9 : cS g ≤ k + 1
    · rw [if_pos (nI_le h9 (by omega))]; exact ⟨by decide, by rw [c32_0]; omega⟩
    · rw [if_neg (nI_ge (by omega) (by omega))]; exact ⟨by rw [nI_toInt (by omega)]; omega, by rw [nI_toInt (by omega)]; omega⟩
def stk (g : Nat → Nat → Int32) (f t w h : Int32) : Int32 := if g 0 6 = 1 then drk g (sob g f t w h) else sob g f t w h
theorem e12_struck {g : Nat → Nat → Int32} {μ : o_Mem} (f t w h : Int32) (hw : wfV g) (hr : vR g (μ.1 1)) : fX12_struck rfM 0 f t w h μ = some (stk g f t w h, μ) := by
  have e : μ.1 1 8 = g 0 6 := hr.1.2.2.2.2.2.2.2.2.1
  unfold fX12_struck stk
  rw [e12_sober f t w h hw.1 hr, p_bd, r12_0, e, e12_drunk _ hw.1 hr (sob_ok hw f t w h), p_bd]
  split <;> rfl
