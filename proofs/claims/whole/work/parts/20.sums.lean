/-! ===== questions that go through LAWS or WEIGHTS ===== -/
def accN (F : Nat → Int32 → Int32) : Nat → Nat → Int32 → Int32
  | 0, _, a => a
  | n + 1, k, a => accN F n (k + 1) (F k a)
theorem accN_c {F G : Nat → Int32 → Int32} : ∀ (n k : Nat) (a : Int32), (∀ j, k ≤ j → j < k + n → ∀ a, F j a = G j a) → accN F n k a = accN G n k a
  | 0, _, _, _ => rfl
  | n + 1, k, a, h => by
    unfold accN
    rw [h k (Nat.le_refl _) (by omega) a, accN_c n (k + 1) _ (fun j h1 h2 => h j (by omega) (by omega))]
theorem lp_acc {head e : Nat} {step : Int32 × Int32 → o_Mem → Option ((Nat × (Int32 × Int32)) × o_Mem)} {μ : o_Mem} (F : Nat → Int32 → Int32) {N k0 : Nat} (h1 : ∀ k, k0 ≤ k → k < N → ∀ a, step (a, nI k) μ = some ((head, (F k a, nI (k + 1))), μ)) (h2 : ∀ a, step (a, nI N) μ = some ((e, (a, 0)), μ)) (ne : ¬ e = head) :
    ∀ (n k : Nat) (a : Int32), k0 ≤ k → k + n = N → o_lp head step (n + 1) (a, nI k) μ = some ((e, (accN F n k a, 0)), μ)
  | 0, k, a, _, hk => by
    have e : k = N := by omega
    subst e
    exact p_lp_exit (h2 a) ne
  | n + 1, k, a, h0, hk => by
    rw [p_lp_next (h1 k h0 (by omega) a), lp_acc F h1 h2 ne n (k + 1) _ (by omega) (by omega)]
    rfl
theorem o_or0 (a : Int32) : a ||| 0 = a := by simp
section sm
variable {μC μM : o_Mem}
def fLaws (g : Nat → Nat → Int32) (f t w h : Int32) (k : Nat) (a : Int32) : Int32 := if fitB g k f t w h then a ||| (1 <<< (nI k &&& 31)) else a
theorem pu_lawsOf (h : Inv μC μM) (f t w k : Int32) : o_Eq2 (fX11_lawsOf rfC 0 f t w k μC) (fX12_lawsOf rfM 0 f t w k μM) Inv := by
  obtain ⟨hw, hr⟩ := Inv_v h
  have hL := hw.1.2.2.2.1
  have e : μC.1 10 3 = nI (cL (bV μC 10)) := hL.1
  have e' : μM.1 1 3 = nI (cL (bV μC 10)) := hr.1.2.2.2.1.trans hL.1
  have kC := lp_acc (head := 27) (e := 71) (step := fX11_lawsOf_s27 rfC 0 f t w k) (μ := μC) (fLaws (bV μC 10) f t w k) (N := cL (bV μC 10)) (k0 := 0) (fun l _ hl a => by
      unfold fX11_lawsOf_s27 fLaws
      rw [rc0_4, e, if_neg (nI_ge hl (by omega)), e8_fits k10 (by omega), p_bd, bI_if, aR_1]
      by_cases hp : fitP (bV μC 10) l f t w k
      · rw [if_pos hp, if_pos (show fitB (bV μC 10) l f t w k = true from decide_eq_true hp)]
      · rw [if_neg hp, if_neg (by rw [show fitB (bV μC 10) l f t w k = false from decide_eq_false hp]; decide)])
    (fun a => by unfold fX11_lawsOf_s27; rw [rc0_4, e, if_pos (nI_le (Nat.le_refl _) (by omega))]) (by decide) (cL (bV μC 10)) 0 0 (Nat.le_refl _) (by omega)
  have kM := lp_acc (head := 24) (e := 68) (step := fX12_lawsOf_s24 rfM 0 f t w k) (μ := μM) (fLaws (bV μC 10) f t w k) (N := cL (bV μC 10)) (k0 := 0) (fun l _ hl a => by
      unfold fX12_lawsOf_s24 fLaws fX12_lawsOf_j59
      rw [rm_0, e', if_neg (nI_ge hl (by omega)), e12_fits (by omega) f t w k μM _ (vR_law hr hl), p_bd, bI_if, aR_1, o_or0]
      by_cases hp : fitP (bV μC 10) l f t w k
      · rw [if_pos hp, if_pos (show fitB (bV μC 10) l f t w k = true from decide_eq_true hp)]
      · rw [if_neg hp, if_neg (by rw [show fitB (bV μC 10) l f t w k = false from decide_eq_false hp]; decide)])
    (fun a => by unfold fX12_lawsOf_s24; rw [rm_0, e', if_pos (nI_le (Nat.le_refl _) (by omega))]) (by decide) (cL (bV μC 10)) 0 0 (Nat.le_refl _) (by omega)
  unfold fX11_lawsOf fX12_lawsOf
  rw [rc0_4, e8_isLetter rfC hw.1, e12_isMail hw.1 hr, p_bd, p_bd, bI_if, bI_if]
  by_cases hm : mailP (bV μC 10) f t w k
  · rw [if_pos hm, if_pos hm, show o_lp 27 (fX11_lawsOf_s27 rfC 0 f t w k) o_fuel (0, 0) μC = _ from p_lp kC (by omega), show o_lp 24 (fX12_lawsOf_s24 rfM 0 f t w k) o_fuel (0, 0) μM = _ from p_lp kM (by omega)]
    exact eq2_st h _ _ rfl rfl
  · rw [if_neg hm, if_neg hm]; exact eq2_st h _ _ rfl rfl
abbrev askP (g : Nat → Nat → Int32) (f t h : Int32) : Prop := rg f (cP g) ∧ rg t (cP g) ∧ ¬ f = t ∧ rg h (cH g)
theorem mail_1 (g : Nat → Nat → Int32) (f t h : Int32) : mailP g f t 1 h ↔ askP g f t h := by
  constructor
  · rintro ⟨a, b, c, -, d⟩; exact ⟨a, b, c, d⟩
  · rintro ⟨a, b, c, d⟩; exact ⟨a, b, c, by rw [c32_1]; omega, d⟩
theorem e12_isAsked {g : Nat → Nat → Int32} {μ : o_Mem} (hw : wfN g) (hr : vR g (μ.1 1)) (f t h s : Int32) : fX12_isAsked rfM 0 f t h s μ = some (bI (askP g f t h ∧ rg s (cS g)), μ) := by
  unfold fX12_isAsked
  simp only [e12_areTwo hw hr, e12_isHand hw hr, e12_isStrike hw hr, p_bd, bI_if, if_L3]
  rw [bI_fin μ]
  refine congrArg some (Prod.ext (bI_cong ?_) rfl)
  exact ⟨fun ⟨⟨a, b, c⟩, d, e⟩ => ⟨⟨a, b, c, d⟩, e⟩, fun ⟨⟨a, b, c, d⟩, e⟩ => ⟨⟨a, b, c⟩, d, e⟩⟩
theorem lt99 {k : Nat} (h : k < 100) : ¬ (99 : Int32) < nI k := by rw [i32_lt, c32_99, nI_toInt (by omega)]; omega
theorem gt99 : (99 : Int32) < nI 100 := by decide
def fWts (g : Nat → Nat → Int32) (f t h s : Int32) (k : Nat) (a : Int32) : Int32 := if sob g f t (nI k) h = s then a + 1 else a
theorem o_add0 (a : Int32) : a + 0 = a := by simp
theorem pu_weights (h : Inv μC μM) (f t k s : Int32) : o_Eq2 (fX11_weights rfC 0 f t k s μC) (fX12_weights rfM 0 f t k s μM) Inv := by
  obtain ⟨hw, hr⟩ := Inv_v h
  have kC := lp_acc (head := 39) (e := 72) (step := fX11_weights_s39 rfC 0 f t k s) (μ := μC) (fWts (bV μC 10) f t k s) (N := 100) (k0 := 1) (fun l _ hl a => by
      unfold fX11_weights_s39 fWts
      rw [if_neg (lt99 hl), rc0_4, e8_sober k10 f t _ k μC hw.1, p_bd, aR_1]
      split <;> rfl)
    (fun a => by unfold fX11_weights_s39; rw [if_pos gt99]) (by decide) 99 1 0 (Nat.le_refl _) (by omega)
  have kM := lp_acc (head := 24) (e := 61) (step := fX12_weights_s24 rfM 0 f t k s) (μ := μM) (fWts (bV μC 10) f t k s) (N := 100) (k0 := 1) (fun l _ hl a => by
      unfold fX12_weights_s24 fWts fX12_weights_j52
      rw [if_neg (lt99 hl), e12_sober f t _ k hw.1 hr, p_bd, aR_1, o_add0]
      split <;> rfl)
    (fun a => by unfold fX12_weights_s24; rw [if_pos gt99]) (by decide) 99 1 0 (Nat.le_refl _) (by omega)
  unfold fX11_weights fX12_weights fX11_weights_j27
  rw [rc0_4, e8_isLetter rfC hw.1, e12_isAsked hw.1 hr, p_bd, p_bd, bI_if, bI_if, e8_isStrike rfC hw.1, p_bd, bI_if]
  by_cases hm : askP (bV μC 10) f t k
  · rw [if_pos ((mail_1 _ _ _ _).mpr hm)]
    by_cases hs : rg s (cS (bV μC 10))
    · rw [if_pos hs, if_pos ⟨hm, hs⟩, show o_lp 39 (fX11_weights_s39 rfC 0 f t k s) o_fuel (0, 1) μC = _ from p_lp kC (by omega), show o_lp 24 (fX12_weights_s24 rfM 0 f t k s) o_fuel (0, 1) μM = _ from p_lp kM (by omega)]
      exact eq2_st h _ _ rfl rfl
    · rw [if_neg hs, if_neg (fun z => hs z.2)]; exact eq2_st h _ _ rfl rfl
  · rw [if_neg (fun z => hm ((mail_1 _ _ _ _).mp z)), if_neg (fun z => hm z.1)]; exact eq2_st h _ _ rfl rfl
def fCld (g : Nat → Nat → Int32) (f t h : Int32) (k : Nat) (a : Int32) : Int32 := if sob g f t (nI k) h = -1 then a else a ||| (1 <<< (sob g f t (nI k) h &&& 31))
theorem pu_could (h : Inv μC μM) (f t k : Int32) : o_Eq2 (fX11_could rfC 0 f t k μC) (fX12_could rfM 0 f t k μM) Inv := by
  obtain ⟨hw, hr⟩ := Inv_v h
  have kC := lp_acc (head := 26) (e := 68) (step := fX11_could_s26 rfC 0 f t k) (μ := μC) (fCld (bV μC 10) f t k) (N := 100) (k0 := 1) (fun l _ hl a => by
      unfold fX11_could_s26 fCld
      rw [if_neg (lt99 hl), rc0_4, e8_sober k10 f t _ k μC hw.1, p_bd, aR_1]
      split <;> rfl)
    (fun a => by unfold fX11_could_s26; rw [if_pos gt99]) (by decide) 99 1 0 (Nat.le_refl _) (by omega)
  have kM := lp_acc (head := 29) (e := 72) (step := fX12_could_s29 rfM 0 f t k) (μ := μM) (fCld (bV μC 10) f t k) (N := 100) (k0 := 1) (fun l _ hl a => by
      unfold fX12_could_s29 fCld fX12_could_j63
      rw [if_neg (lt99 hl), e12_sober f t _ k hw.1 hr, p_bd, aR_1, o_or0]
      split <;> rfl)
    (fun a => by unfold fX12_could_s29; rw [if_pos gt99]) (by decide) 99 1 0 (Nat.le_refl _) (by omega)
  unfold fX11_could fX12_could fX12_could_j17
  rw [rc0_4, e8_isLetter rfC hw.1, e12_areTwo hw.1 hr, p_bd, p_bd, bI_if, bI_if, e12_isHand hw.1 hr, p_bd, bI_if]
  by_cases hm : askP (bV μC 10) f t k
  · rw [if_pos ((mail_1 _ _ _ _).mpr hm), if_pos ⟨hm.1, hm.2.1, hm.2.2.1⟩, if_pos hm.2.2.2, show o_lp 26 (fX11_could_s26 rfC 0 f t k) o_fuel (0, 1) μC = _ from p_lp kC (by omega), show o_lp 29 (fX12_could_s29 rfM 0 f t k) o_fuel (0, 1) μM = _ from p_lp kM (by omega)]
    exact eq2_st h _ _ rfl rfl
  · rw [if_neg (fun z => hm ((mail_1 _ _ _ _).mp z))]
    by_cases h2 : rg f (cP (bV μC 10)) ∧ rg t (cP (bV μC 10)) ∧ ¬ f = t
    · rw [if_pos h2, if_neg (fun z => hm ⟨h2.1, h2.2.1, h2.2.2, z⟩)]; exact eq2_st h _ _ rfl rfl
    · rw [if_neg h2]; exact eq2_st h _ _ rfl rfl
/-- the weights that are struck so -/
def pW (g : Nat → Nat → Int32) (f t h s : Int32) (k : Nat) : Bool := sob g f t (nI k) h == s
theorem pW_t {g : Nat → Nat → Int32} {f t h s : Int32} {k : Nat} : pW g f t h s k = true ↔ sob g f t (nI k) h = s := by unfold pW; simp
theorem e8_lightest {v : Nat} (hv : kdC v = .inl 8) {μ : o_Mem} (hw : wfN (bV μ v)) (f t h s : Int32) {w : Nat} (hwt : w ≤ 100) : fX8_lightest rfC v f t (nI w) h s μ = some (oI (fstN (pW (bV μ v) f t h s) (100 - w) w), μ) := by
  have key := lp_up (head := 3) (e1 := 25) (e2 := 34) (step := fX8_lightest_s3 rfC v f t h s) (μ := μ) (pW (bV μ v) f t h s) (N := 100) (fun l hl => by
      unfold fX8_lightest_s3
      rw [if_neg (lt99 hl), e8_sober hv f t _ h μ hw, p_bd, aR_1]
      by_cases hp : sob (bV μ v) f t (nI l) h = s
      · rw [if_pos hp, if_pos (pW_t.mpr hp)]
      · rw [if_neg hp, if_neg (fun z => hp (pW_t.mp z))])
    (by unfold fX8_lightest_s3; rw [if_pos gt99]) (by decide) (by decide) (100 - w) w (by omega)
  unfold fX8_lightest
  rw [p_lp key (by omega)]
  cases fstN (pW (bV μ v) f t h s) (100 - w) w with
  | none => rfl
  | some k => rfl
theorem pu_wrap (h : Inv μC μM) (f t w k s : Int32) : o_Eq2 (fX11_wrap rfC 0 f t w k s μC) (fX12_wrap rfM 0 f t w k s μM) Inv := by
  obtain ⟨hw, hr⟩ := Inv_v h
  have kM := lp_up (head := 31) (e1 := 53) (e2 := 68) (step := fX12_wrap_s31 rfM 0 f t w k s) (μ := μM) (pW (bV μC 10) f t k s) (N := 100) (fun l hl => by
      unfold fX12_wrap_s31
      rw [if_neg (lt99 hl), e12_sober f t _ k hw.1 hr, p_bd, aR_1]
      by_cases hp : sob (bV μC 10) f t (nI l) k = s
      · rw [if_pos hp, if_pos (pW_t.mpr hp)]
      · rw [if_neg hp, if_neg (fun z => hp (pW_t.mp z))])
    (by unfold fX12_wrap_s31; rw [if_pos gt99]) (by decide) (by decide)
  unfold fX11_wrap fX12_wrap fX11_wrap_j28 fX12_wrap_j22
  rw [rc0_4, e8_isLetter rfC hw.1, e12_isMail hw.1 hr, p_bd, p_bd, bI_if, bI_if, e8_isStrike rfC hw.1, e12_isStrike hw.1 hr, p_bd, p_bd, bI_if, bI_if]
  by_cases hm : mailP (bV μC 10) f t w k
  · rw [if_pos hm, if_pos hm]
    by_cases hs : rg s (cS (bV μC 10))
    · rw [if_pos hs, if_pos hs]
      obtain ⟨j, hj, hj2, rfl⟩ := rg_nI (x := w) (n := 100) (by have := hm.2.2.2.1; omega)
      rw [e8_lightest k10 hw.1 f t k s (by omega), p_bd, p_lp (kM (100 - j) j (by omega)) (by omega)]
      cases ho : fstN (pW (bV μC 10) f t k s) (100 - j) j with
      | none => exact eq2_st h _ _ rfl rfl
      | some i =>
        have hi := fstN_lt _ _ _ ho
        rw [show oI (some i) = nI i from rfl, if_neg (nI_nm1 (by omega))]
        exact eq2_st h _ _ rfl rfl
    · rw [if_neg hs, if_neg hs]; exact eq2_st h _ _ rfl rfl
  · rw [if_neg hm, if_neg hm]; exact eq2_st h _ _ rfl rfl
end sm
