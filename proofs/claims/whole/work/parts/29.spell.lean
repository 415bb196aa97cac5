/-! ===== what to post so that he writes it: spells, spellAt ===== -/
def fndG {α : Type} (p : Nat → Option α) : Nat → Nat → Option (Nat × α)
  | 0, _ => none
  | n + 1, k => match p k with
    | some x => some (k, x)
    | none => fndG p n (k + 1)
theorem lp_fnd {T α : Type} {head e1 e2 : Nat} {step : T → o_Mem → Option ((Nat × T) × o_Mem)} {μ : o_Mem} (p : Nat → Option α) (enc : Nat → T) (out : Nat → α → T) (z : T) {N : Nat}
    (h1 : ∀ k, k < N → step (enc k) μ = some (match p k with | some x => (e1, out k x) | none => (head, enc (k + 1)), μ)) (h2 : step (enc N) μ = some ((e2, z), μ)) (n1 : ¬ e1 = head) (n2 : ¬ e2 = head) :
    ∀ n k, k + n = N → o_lp head step (n + 1) (enc k) μ = some (match fndG p n k with | some x => (e1, out x.1 x.2) | none => (e2, z), μ)
  | 0, k, hk => by
    have e : k = N := by omega
    subst e
    exact p_lp_exit h2 n2
  | n + 1, k, hk => by
    have hs := h1 k (by omega)
    cases hp : p k with
    | some x =>
      rw [hp] at hs
      rw [p_lp_exit hs n1]
      simp only [fndG, hp]
    | none =>
      rw [hp] at hs
      rw [p_lp_next hs, lp_fnd p enc out z h1 h2 n1 n2 n (k + 1) (by omega)]
      simp only [fndG, hp]
theorem fndG_lt {α : Type} {p : Nat → Option α} : ∀ (n k : Nat) (x : Nat × α), fndG p n k = some x → k ≤ x.1 ∧ x.1 < k + n ∧ p x.1 = some x.2
  | 0, _, _, h => by cases h
  | n + 1, k, x, h => by
    simp only [fndG] at h
    cases hp : p k with
    | some y =>
      rw [hp] at h
      cases h
      exact ⟨Nat.le_refl _, by show k < k + (n + 1); omega, hp⟩
    | none =>
      rw [hp] at h
      have := fndG_lt n (k + 1) x h
      exact ⟨by omega, by omega, this.2.2⟩
def wS (g : Nat → Nat → Int32) (s : Int32) (t f : Nat) : Option Nat := if f = t then none else fstN (pW g (nI f) (nI t) (g 3 f) s) 99 1
def fnd (g : Nat → Nat → Int32) (s : Int32) (least : Nat) : Option (Nat × Nat × Nat) := fndG (fun t => fndG (wS g s t) (cP g) 0) (cP g - least) least
theorem nI_inj {a b : Nat} (ha : a < 2 ^ 31) (hb : b < 2 ^ 31) : nI a = nI b ↔ a = b := by
  refine ⟨fun z => ?_, fun z => by rw [z]⟩
  have := congrArg Int32.toInt z
  rw [nI_toInt ha, nI_toInt hb] at this
  omega
theorem fnd_lt {g : Nat → Nat → Int32} {s : Int32} {l : Nat} {x : Nat × Nat × Nat} (h : fnd g s l = some x) : x.1 < cP g ∧ x.2.1 < cP g ∧ l ≤ x.1 := by
  have h1 := fndG_lt _ _ _ h
  have h2 := fndG_lt _ _ _ h1.2.2
  exact ⟨by omega, by omega, h1.1⟩
section sp
variable {g : Nat → Nat → Int32} {μ : o_Mem}
theorem e12_fl29 (hw : wfV g) (hr : vR g (μ.1 1)) (s : Int32) {t f : Nat} (ht : t < cP g) (hf : f < cP g) : o_lp 29 (fX12_findsLetter_s29 rfM 0 s (nI t) (nI f)) o_fuel 1 μ = some (match wS g s t f with | some w => (64, nI w) | none => (95, 0), μ) := by
  have b := hw.1.2.2.1.2
  have eh : μ.1 1 (25 + f) = g 3 f := hr.2.2.1 f hf
  unfold wS
  by_cases e : f = t
  · rw [if_pos e]
    refine p_lp (n := 0 + 1) (p_lp_exit ?_ (by decide)) (by omega)
    unfold fX12_findsLetter_s29
    rw [if_neg (by decide), if_pos (by rw [e])]
  · rw [if_neg e]
    have key := lp_up (head := 29) (e1 := 64) (e2 := 95) (step := fX12_findsLetter_s29 rfM 0 s (nI t) (nI f)) (μ := μ) (p := pW g (nI f) (nI t) (g 3 f) s) (N := 100) (fun l hl => by
      unfold fX12_findsLetter_s29 fX12_handOf
      rw [if_neg (lt99 hl), if_neg (by rw [nI_inj (by omega) (by omega)]; exact e)]
      simp (disch := omega) only [qm_0, aL_25, nI_toInt, nI_clamp, p_ck, p_bd, eh, e12_sober _ _ _ _ hw.1 hr, aR_1]
      by_cases hp : sob g (nI f) (nI t) (nI l) (g 3 f) = s
      · rw [if_pos hp, if_pos (pW_t.mpr hp)]
      · rw [if_neg hp, if_neg (fun z => hp (pW_t.mp z))]) (by unfold fX12_findsLetter_s29; rw [if_pos gt99]) (by decide) (by decide) 99 1 (by omega)
    rw [show o_lp 29 (fX12_findsLetter_s29 rfM 0 s (nI t) (nI f)) o_fuel 1 μ = _ from p_lp key (by omega)]
    cases fstN (pW g (nI f) (nI t) (g 3 f) s) 99 1 <;> rfl
theorem e12_fl15 (hw : wfV g) (hr : vR g (μ.1 1)) (s : Int32) {t : Nat} (ht : t < cP g) : o_lp 15 (fX12_findsLetter_s15 rfM 0 s (nI t)) o_fuel (0, 0) μ = some (match fndG (wS g s t) (cP g) 0 with | some x => (64, (nI x.1, nI x.2)) | none => (101, (0, 0)), μ) := by
  have b := hw.1.2.2.1.2
  have ep : μ.1 1 2 = nI (cP g) := hr.1.2.2.1.trans hw.1.2.2.1.1
  have key := lp_fnd (head := 15) (e1 := 64) (e2 := 101) (step := fX12_findsLetter_s15 rfM 0 s (nI t)) (μ := μ) (wS g s t) (fun f => (nI f, (0 : Int32))) (fun f w => (nI f, nI w)) (0, 0) (N := cP g) (fun f hf => by
      unfold fX12_findsLetter_s15
      rw [qm_0, ep, if_neg (show ¬ nI (cP g) ≤ nI f by rw [n_le (by omega) (by omega)]; omega), e12_fl29 hw hr s ht hf, p_bd]
      cases wS g s t f with
      | some w => rfl
      | none => rw [← aR_1]; rfl) (by
      unfold fX12_findsLetter_s15
      rw [qm_0, ep, if_pos (show nI (cP g) ≤ nI (cP g) by rw [n_le (by omega) (by omega)]; omega)]) (by decide) (by decide) (cP g) 0 (by omega)
  rw [show o_lp 15 (fX12_findsLetter_s15 rfM 0 s (nI t)) o_fuel (0, 0) μ = _ from p_lp key (by omega)]
  cases fndG (wS g s t) (cP g) 0 <;> rfl
theorem e12_finds (hw : wfV g) (hr : vR g (μ.1 1)) (s : Int32) {l : Nat} (hl : l < 7) : fX12_findsLetter rfM 0 s (nI l) μ = some (match fnd g s l with | some x => (1, o_wI (o_wI (o_wI μ 12 0 (nI x.2.1)) 12 1 (nI x.1)) 12 2 (nI x.2.2)) | none => (0, μ)) := by
  have b := hw.1.2.2.1.2
  have ep : μ.1 1 2 = nI (cP g) := hr.1.2.2.1.trans hw.1.2.2.1.1
  unfold fX12_findsLetter
  by_cases h9 : l ≤ cP g
  · have key := lp_fnd (head := 2) (e1 := 64) (e2 := 107) (step := fX12_findsLetter_s2 rfM 0 s) (μ := μ) (fun t => fndG (wS g s t) (cP g) 0) (fun t => (nI t, (0 : Int32), (0 : Int32))) (fun t x => (nI t, nI x.1, nI x.2)) (0, 0, 0) (N := cP g) (fun t ht => by
        unfold fX12_findsLetter_s2
        rw [qm_0, ep, if_neg (show ¬ nI (cP g) ≤ nI t by rw [n_le (by omega) (by omega)]; omega), e12_fl15 hw hr s ht, p_bd]
        cases fndG (wS g s t) (cP g) 0 with
        | some w => rfl
        | none => rw [← aR_1]; rfl) (by
        unfold fX12_findsLetter_s2
        rw [qm_0, ep, if_pos (show nI (cP g) ≤ nI (cP g) by rw [n_le (by omega) (by omega)]; omega)]) (by decide) (by decide) (cP g - l) l (by omega)
    rw [p_lp key (by omega), p_bd, qm_27]
    unfold fnd
    cases fndG (fun t => fndG (wS g s t) (cP g) 0) (cP g - l) l with
    | some x => rfl
    | none => rfl
  · have key : o_lp 2 (fX12_findsLetter_s2 rfM 0 s) (0 + 1) (nI l, 0, 0) μ = some ((107, (0, 0, 0)), μ) := p_lp_exit (by
      unfold fX12_findsLetter_s2
      rw [qm_0, ep, if_pos (show nI (cP g) ≤ nI l by rw [n_le (by omega) (by omega)]; omega)]) (by decide)
    rw [p_lp key (by omega), p_bd]
    unfold fnd
    rw [show cP g - l = 0 by omega]
    rfl
theorem e5_s15 {v : Nat} (hv : kdC v = .inl 8) (hw : wfV (bV μ v)) (s : Int32) {t : Nat} (ht : t < cP (bV μ v)) : o_lp 15 (fX5_spellOne_s15 rfC 148 v s (nI t)) o_fuel (0, 0, 0) μ = some (match fndG (wS (bV μ v) s t) (cP (bV μ v)) 0 with | some x => (64, (nI x.1, bV μ v 3 x.1, nI x.2)) | none => (89, (0, 0, 0)), μ) := by
  have b := hw.1.2.2.1.2
  have ep : μ.1 v 2 = nI (cP (bV μ v)) := hw.1.2.2.1.1
  have er : rfC v 11 = v + 3 := by rw [rf8 hv]; rfl
  have key := lp_fnd (head := 15) (e1 := 64) (e2 := 89) (step := fX5_spellOne_s15 rfC 148 v s (nI t)) (μ := μ) (wS (bV μ v) s t) (fun f => (nI f, (0 : Int32), (0 : Int32))) (fun f w => (nI f, bV μ v 3 f, nI w)) (0, 0, 0) (N := cP (bV μ v)) (fun f hf => by
      unfold fX5_spellOne_s15 fX5_spellOne_j56 wS
      rw [ep, if_neg (show ¬ nI (cP (bV μ v)) ≤ nI f by rw [n_le (by omega) (by omega)]; omega), er]
      simp (disch := omega) only [nI_toInt, nI_clamp, p_ck, aR_1]
      by_cases e : f = t
      · rw [if_pos e, if_pos (show nI f = nI t by rw [e]), if_pos trivial]
      · rw [if_neg e, if_neg (show ¬ nI f = nI t by rw [nI_inj (by omega) (by omega)]; exact e), show fX8_lightest rfC v (nI f) (nI t) 1 (μ.1 (v + 3) f) s μ = _ from e8_lightest (w := 1) hv hw.1 (nI f) (nI t) (μ.1 (v + 3) f) s (by omega), p_bd]
        rw [show μ.1 (v + 3) f = bV μ v 3 f from rfl, show 100 - 1 = 99 from rfl]
        cases hq : fstN (pW (bV μ v) (nI f) (nI t) (bV μ v 3 f) s) 99 1 with
        | none => exact if_pos rfl
        | some w =>
          have := fstN_lt _ _ _ hq
          exact if_neg (nI_nm1 (by omega))) (by
      unfold fX5_spellOne_s15
      rw [ep, if_pos (show nI (cP (bV μ v)) ≤ nI (cP (bV μ v)) by rw [n_le (by omega) (by omega)]; omega)]) (by decide) (by decide) (cP (bV μ v)) 0 (by omega)
  rw [show o_lp 15 (fX5_spellOne_s15 rfC 148 v s (nI t)) o_fuel (0, 0, 0) μ = _ from p_lp key (by omega)]
  cases fndG (wS (bV μ v) s t) (cP (bV μ v)) 0 <;> rfl
theorem k149 : kdC 149 = .inl 1 := by decide
theorem e5_one {v : Nat} (hv : kdC v = .inl 8) (hw : wfV (bV μ v)) (s : Int32) {l n : Nat} (hl : l ≤ cP (bV μ v)) (hn : μ.1 149 0 = nI n) (h12 : n < 12) : fX5_spellOne rfC 148 v (nI l) s μ = some (match fnd (bV μ v) s l with | some x => (nI x.1, addL μ 149 n (nI x.2.1) (nI x.1) (nI x.2.2) (bV μ v 3 x.2.1) s) | none => (-1, μ)) := by
  have b := hw.1.2.2.1.2
  have ep : μ.1 v 2 = nI (cP (bV μ v)) := hw.1.2.2.1.1
  unfold fX5_spellOne
  have key := lp_fnd (head := 3) (e1 := 64) (e2 := 95) (step := fX5_spellOne_s3 rfC 148 v s) (μ := μ) (fun t => fndG (wS (bV μ v) s t) (cP (bV μ v)) 0) (fun t => (nI t, (0 : Int32), (0 : Int32), (0 : Int32))) (fun t x => (nI t, nI x.1, bV μ v 3 x.1, nI x.2)) (0, 0, 0, 0) (N := cP (bV μ v)) (fun t ht => by
      unfold fX5_spellOne_s3
      rw [ep, if_neg (show ¬ nI (cP (bV μ v)) ≤ nI t by rw [n_le (by omega) (by omega)]; omega), e5_s15 hv hw s ht, p_bd]
      cases fndG (wS (bV μ v) s t) (cP (bV μ v)) 0 with
      | some w => rfl
      | none => rw [← aR_1]; rfl) (by
      unfold fX5_spellOne_s3
      rw [ep, if_pos (show nI (cP (bV μ v)) ≤ nI (cP (bV μ v)) by rw [n_le (by omega) (by omega)]; omega)]) (by decide) (by decide) (cP (bV μ v) - l) l (by omega)
  rw [p_lp key (by omega), p_bd, rc148_0]
  unfold fnd
  cases fndG (fun t => fndG (wS (bV μ v) s t) (cP (bV μ v)) 0) (cP (bV μ v) - l) l with
  | some x =>
    refine (if_pos rfl).trans ?_
    rw [e1_add k149 μ hn h12, p_bd]
  | none => rfl
end sp
/-- who posts after so many LETTERS: to, from, weight of the last one -/
def spS (g : Nat → Nat → Int32) (r : Nat → Int32) : Nat → Option (Nat × Nat × Nat)
  | 0 => some (0, 0, 0)
  | k + 1 => match spS g r k with
    | none => none
    | some x => fnd g (r k) x.1
theorem spS_none {g : Nat → Nat → Int32} {r : Nat → Int32} {k : Nat} (h : spS g r k = none) : ∀ n, spS g r (k + n) = none
  | 0 => h
  | n + 1 => by
    show (match spS g r (k + n) with | none => none | some x => fnd g (r (k + n)) x.1) = none
    rw [spS_none h n]
theorem spS_lt {g : Nat → Nat → Int32} {r : Nat → Int32} : ∀ (k : Nat) (x : Nat × Nat × Nat), spS g r k = some x → x.1 ≤ cP g
  | 0, x, h => by cases h; exact Nat.zero_le _
  | k + 1, x, h => by
    have h' : (match spS g r k with | none => none | some x => fnd g (r k) x.1) = some x := h
    cases hq : spS g r k with
    | none => rw [hq] at h'; cases h'
    | some y => rw [hq] at h'; exact Nat.le_of_lt (fnd_lt h').1
section sp2
variable {μC μM : o_Mem}
theorem e5_spell (h : Inv μC μM) {t n : Nat} (ht : t < 4) (hn : n ≤ 12) (r : Nat → Int32) (hrow : ∀ k, k < n → (μC.2 (3 + 2 * t) k).toInt32 = r k) : ∃ m1, fX5_spell rfC 148 10 (2 + 2 * t) (nI n) μC = some (bI (¬ spS (bV μC 10) r n = none), m1) ∧ (∀ i, i < 145 → m1.1 i = μC.1 i) ∧ m1.2 = μC.2 ∧ (¬ spS (bV μC 10) r n = none → ∀ j, j < n → ∃ x, spS (bV μC 10) r (j + 1) = some x ∧ m1.1 150 j = nI x.2.1 ∧ m1.1 151 j = nI x.1 ∧ m1.1 152 j = nI x.2.2) := by
  obtain ⟨hw, hr⟩ := Inv_v h
  have b := hw.1.2.2.1.2
  obtain ⟨f1, m1, q1, hE⟩ := lp_one (h := 14) (s := fX5_spell_s14 rfC 148 10 (2 + 2 * t) (nI n))
    (fun m τ μ => (∀ i, i < 145 → μ.1 i = μC.1 i) ∧ μ.2 = μC.2 ∧ ∃ k x, k + m = n ∧ τ = (nI x.1, nI k) ∧ spS (bV μC 10) r k = some x ∧ μ.1 149 0 = nI k ∧ ∀ j, j < k → ∃ x, spS (bV μC 10) r (j + 1) = some x ∧ μ.1 150 j = nI x.2.1 ∧ μ.1 151 j = nI x.1 ∧ μ.1 152 j = nI x.2.2)
    (fun f μ => (∀ i, i < 145 → μ.1 i = μC.1 i) ∧ μ.2 = μC.2 ∧ ((f = (51, (0, 0)) ∧ ¬ spS (bV μC 10) r n = none ∧ ∀ j, j < n → ∃ x, spS (bV μC 10) r (j + 1) = some x ∧ μ.1 150 j = nI x.2.1 ∧ μ.1 151 j = nI x.1 ∧ μ.1 152 j = nI x.2.2) ∨ (f = (43, (0, 0)) ∧ spS (bV μC 10) r n = none)))
    (fun i τ μ hR => by
      obtain ⟨i1, i2, k, x, hk, rfl, hx, hm, hj⟩ := hR
      have eb : bV μ 10 = bV μC 10 ∨ True := Or.inr trivial
      have hx2 := spS_lt k x hx
      unfold fX5_spell_s14
      by_cases hi : i = 0
      · rw [if_pos (show nI n ≤ nI k by rw [n_le (by omega) (by omega)]; omega)]
        have ek : k = n := by omega
        subst ek
        exact ⟨_, _, rfl, Or.inr ⟨show ¬ 51 = 14 by decide, i1, i2, Or.inl ⟨rfl, by rw [hx]; exact fun z => (by cases z), hj⟩⟩⟩
      · rw [if_neg (show ¬ nI n ≤ nI k by rw [n_le (by omega) (by omega)]; omega)]
        have hw9 : wfV (bV μ 10) ∧ cP (bV μ 10) = cP (bV μC 10) ∧ ∀ s l, fnd (bV μ 10) s l = fnd (bV μC 10) s l := by
          have hg : ∀ j, j < 135 → bV μ 10 j = bV μC 10 j := fun j hj => by funext q; show μ.1 (10 + j) q = μC.1 (10 + j) q; rw [i1 _ (by omega)]
          have e0 := hg 0 (by omega)
          have hcP : cP (bV μ 10) = cP (bV μC 10) := by unfold cP; rw [e0]
          have hcL : cL (bV μ 10) = cL (bV μC 10) := by unfold cL; rw [e0]
          have hf : ∀ l f t w h, fitB (bV μ 10) l f t w h = fitB (bV μC 10) l f t w h := fun l f t w h => by unfold fitB fitP; rw [hg 4 (by omega)]
          have hso : ∀ f t w h, sob (bV μ 10) f t w h = sob (bV μC 10) f t w h := fun f t w h => by
            unfold sob fstFit
            rw [hcL, show (fun l => fitB (bV μ 10) l f t w h) = fun l => fitB (bV μC 10) l f t w h from funext fun l => hf l f t w h]
            unfold stkBy
            rw [hg 4 (by omega)]
          have hwS : ∀ s t f, wS (bV μ 10) s t f = wS (bV μC 10) s t f := fun s t f => by
            unfold wS
            rw [show pW (bV μ 10) (nI f) (nI t) (bV μ 10 3 f) s = pW (bV μC 10) (nI f) (nI t) (bV μC 10 3 f) s from funext fun k => by unfold pW; rw [hso, hg 3 (by omega)]]
          refine ⟨?_, hcP, fun s l => ?_⟩
          · exact (slR_c (p := 50) (s := 0) (t := 0) (μM' := μM) (fun i p q => ⟨i1 i (by omega), by rw [i2]⟩) (fun i p q => i1 i (by omega)) (fun _ _ _ => rfl) (fun _ _ _ => rfl) h.2.2.2.2.1).1
          · unfold fnd
            rw [hcP, show (fun t => fndG (wS (bV μ 10) s t) (cP (bV μC 10)) 0) = fun t => fndG (wS (bV μC 10) s t) (cP (bV μC 10)) 0 from funext fun t => by rw [show wS (bV μ 10) s t = wS (bV μC 10) s t from funext fun f => hwS s t f]]
        obtain ⟨hw9, hp9, hf9⟩ := hw9
        have hs : spS (bV μC 10) r (k + 1) = fnd (bV μC 10) (r k) x.1 := by
          show (match spS (bV μC 10) r k with | none => none | some x => fnd (bV μC 10) (r k) x.1) = _
          rw [hx]
        simp (disch := omega) only [rcT ht, nI_toInt, nI_clamp, p_ck, i2, hrow k (by omega)]
        rw [e5_one k10 hw9 (r k) (l := x.1) (by omega) hm (by omega), hf9]
        cases hq : fnd (bV μC 10) (r k) x.1 with
        | none =>
          rw [hq] at hs
          rw [p_bd, if_pos rfl]
          refine ⟨_, _, rfl, Or.inr ⟨show ¬ 43 = 14 by decide, i1, i2, Or.inr ⟨rfl, ?_⟩⟩⟩
          rw [show n = k + 1 + (n - (k + 1)) by omega]
          exact spS_none hs _
        | some y =>
          rw [hq] at hs
          have hy := fnd_lt hq
          rw [p_bd, if_neg (nI_nm1 (by omega)), aR_1]
          refine ⟨_, _, rfl, Or.inl ⟨rfl, i - 1, by omega, fun j hj => by rw [addL_o (by omega)]; exact i1 j hj, i2, k + 1, y, by omega, rfl, hs, ?_, fun j hj9 => ?_⟩⟩
          · show (addL _ _ _ _ _ _ _ _).1 149 0 = _
            unfold addL
            rw [p_wI1, if_pos ⟨rfl, rfl⟩]
          · by_cases ej : j = k
            · subst ej
              refine ⟨y, hs, ?_, ?_, ?_⟩
              · unfold addL
                rw [p_wI1, if_neg (by omega), p_wI1, if_neg (by omega), p_wI1, if_neg (by omega), p_wI1, if_neg (by omega), p_wI1, if_neg (by omega), p_wI1, if_pos ⟨rfl, rfl⟩]
              · unfold addL
                rw [p_wI1, if_neg (by omega), p_wI1, if_neg (by omega), p_wI1, if_neg (by omega), p_wI1, if_neg (by omega), p_wI1, if_pos ⟨rfl, rfl⟩]
              · unfold addL
                rw [p_wI1, if_neg (by omega), p_wI1, if_neg (by omega), p_wI1, if_neg (by omega), p_wI1, if_pos ⟨rfl, rfl⟩]
            · obtain ⟨z, z1, z2, z3, z4⟩ := hj j (by omega)
              have ea : ∀ i, 150 ≤ i → i ≤ 154 → (addL μ 149 k (nI y.2.1) (nI y.1) (nI y.2.2) (bV μ 10 3 y.2.1) (r k)).1 i j = μ.1 i j := fun i p q => by
                unfold addL
                rw [p_wI1, if_neg (by omega), p_wI1, if_neg (by omega), p_wI1, if_neg (by omega), p_wI1, if_neg (by omega), p_wI1, if_neg (by omega), p_wI1, if_neg (by omega)]
              exact ⟨z, z1, by rw [ea 150 (by omega) (by omega)]; exact z2, by rw [ea 151 (by omega) (by omega)]; exact z3, by rw [ea 152 (by omega) (by omega)]; exact z4⟩)
    o_fuel n (0, 0) (o_wI μC 149 0 0) (fu (by omega)) ⟨fun i hi => p_wI_o (by omega), rfl, 0, (0, 0, 0), by omega, rfl, rfl, rfl, fun j hj => by omega⟩
  unfold fX5_spell
  rw [rc148_0, p_seq, q1, p_bd]
  obtain ⟨i1, i2, ⟨rfl, i3, i4⟩ | ⟨rfl, i3⟩⟩ := hE
  · exact ⟨m1, by rw [bI_t i3]; rfl, i1, i2, fun _ => i4⟩
  · exact ⟨m1, by rw [bI_f (fun z => z i3)]; rfl, i1, i2, fun z => absurd i3 z⟩
theorem e12_spells {g : Nat → Nat → Int32} (hw : wfV g) {μ0 : o_Mem} (hr : vR g (μ0.1 1)) {t n : Nat} (ht : t < 4) (hn : n ≤ 12) (r : Nat → Int32) (hrow : ∀ k, k < n → (μ0.2 5 (60 * t + k)).toInt32 = r k) : ∃ m1, fX12_spellsTo rfM 0 (nI t) (nI n) μ0 = some (bI (¬ spS g r n = none), m1) ∧ (∀ i, i ≠ 12 → m1.1 i = μ0.1 i) ∧ m1.2 = μ0.2 ∧ (1 ≤ n → ∀ x, spS g r n = some x → m1.1 12 0 = nI x.2.1 ∧ m1.1 12 1 = nI x.1 ∧ m1.1 12 2 = nI x.2.2) := by
  have b := hw.1.2.2.1.2
  obtain ⟨f1, m1, q1, hE⟩ := lp_one (h := 9) (s := fX12_spellsTo_s9 rfM 0 (nI t) (nI n))
    (fun m τ μ => (∀ i, i ≠ 12 → μ.1 i = μ0.1 i) ∧ μ.2 = μ0.2 ∧ ∃ k x, k + m = n ∧ τ = nI k ∧ spS g r k = some x ∧ μ.1 12 1 = nI x.1 ∧ (1 ≤ k → μ.1 12 0 = nI x.2.1 ∧ μ.1 12 2 = nI x.2.2))
    (fun f μ => (∀ i, i ≠ 12 → μ.1 i = μ0.1 i) ∧ μ.2 = μ0.2 ∧ ((f = (41, 0) ∧ ∃ x, spS g r n = some x ∧ μ.1 12 1 = nI x.1 ∧ (1 ≤ n → μ.1 12 0 = nI x.2.1 ∧ μ.1 12 2 = nI x.2.2)) ∨ (f = (33, 0) ∧ spS g r n = none)))
    (fun i τ μ hR => by
      obtain ⟨i1, i2, k, x, hk, rfl, hx, hm, hj⟩ := hR
      have hx2 := spS_lt k x hx
      unfold fX12_spellsTo_s9 fX12_rowAt
      by_cases hi : i = 0
      · rw [if_pos (show nI n ≤ nI k by rw [n_le (by omega) (by omega)]; omega)]
        have ek : k = n := by omega
        subst ek
        exact ⟨_, _, rfl, Or.inr ⟨by decide, i1, i2, Or.inl ⟨rfl, x, hx, hm, hj⟩⟩⟩
      · rw [if_neg (show ¬ nI n ≤ nI k by rw [n_le (by omega) (by omega)]; omega)]
        have hs : spS g r (k + 1) = fnd g (r k) x.1 := by
          show (match spS g r k with | none => none | some x => fnd g (r k) x.1) = _
          rw [hx]
        have hr9 : vR g (μ.1 1) := by rw [i1 1 (by omega)]; exact hr
        simp (disch := omega) only [qm_7, qm_27, mL_60, nI_add', nI_toInt, nI_clamp, p_ck, p_bd, i2, hrow k (by omega), hm]
        rw [e12_finds hw hr9 (r k) (l := x.1) (by omega)]
        cases hq : fnd g (r k) x.1 with
        | none =>
          rw [hq] at hs
          rw [p_bd, if_pos rfl]
          refine ⟨_, _, rfl, Or.inr ⟨by decide, i1, i2, Or.inr ⟨rfl, ?_⟩⟩⟩
          rw [show n = k + 1 + (n - (k + 1)) by omega]
          exact spS_none hs _
        | some y =>
          rw [hq] at hs
          rw [p_bd, if_neg (by decide), aR_1]
          exact ⟨_, _, rfl, Or.inl ⟨rfl, i - 1, by omega, fun j hj => by rw [p_wI_o hj, p_wI_o hj, p_wI_o hj]; exact i1 j hj, i2, k + 1, y, by omega, rfl, hs, rfl, fun _ => ⟨rfl, rfl⟩⟩⟩)
    o_fuel n 0 (o_wI μ0 12 1 0) (fu (by omega)) ⟨fun i hi => p_wI_o hi, rfl, 0, (0, 0, 0), by omega, rfl, rfl, rfl, fun h9 => by omega⟩
  unfold fX12_spellsTo
  rw [qm_27, p_seq, q1, p_bd]
  obtain ⟨i1, i2, ⟨rfl, x, i3, i4, i5⟩ | ⟨rfl, i3⟩⟩ := hE
  · refine ⟨m1, by rw [bI_t (by rw [i3]; exact fun z => by cases z)]; rfl, i1, i2, fun hn y hy => ?_⟩
    rw [i3] at hy
    cases hy
    exact ⟨(i5 hn).1, i4, (i5 hn).2⟩
  · exact ⟨m1, by rw [bI_f (fun z => z i3)]; rfl, i1, i2, fun _ y hy => by rw [i3] at hy; cases hy⟩
/-- only what lies aside has changed -/
theorem Inv_scr {μC' μM' : o_Mem} (h : Inv μC μM) (c1 : ∀ i, i < 145 → μC'.1 i = μC.1 i) (c2 : ∀ i, i < 145 → μC'.2 i = μC.2 i) (m0 : ∀ k, k = 2 ∨ k = 10 ∨ k = 16 ∨ k = 17 ∨ k = 37 ∨ k = 38 → μM'.1 0 k = μM.1 0 k) (m1 : ∀ i, 0 < i → i ≤ 7 ∨ i = 18 → μM'.1 i = μM.1 i) (m2 : ∀ i, i ≤ 7 → μM'.2 i = μM.2 i) : Inv μC' μM' := by
  obtain ⟨⟨a1, a2, a3⟩, b2, b3, b4, b5, b6, b7⟩ := h
  refine ⟨⟨by rw [c1 0 (by omega), m0 2 (by omega)]; exact a1, by rw [c2 0 (by omega), m2 0 (by omega)]; exact a2, by rw [c2 0 (by omega), m2 0 (by omega)]; exact a3⟩, ?_, ?_, ?_, ?_, ?_, ?_⟩
  · exact iTr_c (fun i p q => ⟨c1 i (by omega), c2 i (by omega)⟩) (m1 3 (by omega) (by omega)) (m1 4 (by omega) (by omega)) (m2 5 (by omega)) b2
  · exact iTp_c (by rw [c1 137 (by omega)]) (c1 138 (by omega)) (m0 10 (by omega)) (m1 6 (by omega) (by omega)) b3
  · unfold iFt at b4 ⊢; rw [c1 137 (by omega), m0 16 (by omega), m0 17 (by omega)]; exact b4
  · exact slR_c (fun i p q => ⟨c1 i (by omega), c2 i (by omega)⟩) (fun i p q => c1 i (by omega)) (fun k p q => by rw [m1 1 (by omega) (by omega)]) (fun k p q => by rw [m2 2 (by omega)]) b5
  · exact iMk_c (by rw [c1 0 (by omega)]) (fun i p q => ⟨c1 i (by omega), c2 i (by omega)⟩) (m0 38 (by omega)) (fun k p q => by rw [m1 1 (by omega) (by omega)]) (fun k p q => by rw [m2 2 (by omega)]) b6
  · unfold iLv at b7 ⊢; rw [c1 144 (by omega), m0 37 (by omega), m1 18 (by omega) (by omega)]; exact b7
theorem rowOk_r {m t n : Nat} (hok : rowOk μC μM m t n) : ∃ r : Nat → Int32, (∀ k, k < n → (μC.2 (3 + 2 * t) k).toInt32 = r k) ∧ ∀ k, k < n → (μM.2 5 (60 * t + k)).toInt32 = r k := by
  refine ⟨fun k => (μC.2 (3 + 2 * t) k).toInt32, fun _ _ => rfl, fun k hk => ?_⟩
  obtain ⟨i, _, e1, e2⟩ := hok k hk
  show _ = (μC.2 (3 + 2 * t) k).toInt32
  rw [e1, e2]
theorem pu_spells (h : Inv μC μM) (x y : Int32) : o_Eq2 (fX11_spells rfC 0 x y μC) (fX12_spells rfM 0 x y μM) Inv := by
  obtain ⟨hw, hr⟩ := Inv_v h
  obtain ⟨s, e1, e2, hs⟩ := e_srow h x y
  unfold fX11_spells fX12_spells fX11_spells_j44 fX12_spells_j34
  rw [e1, e2, p_bd, p_bd]
  rcases hs with ⟨rfl, t, n, m, ht, rfl, rfl, hn1, hn2, hnm, hd, hok⟩ | ⟨hs, hs2⟩
  · obtain ⟨r, r1, r2⟩ := rowOk_r hok
    obtain ⟨m1, q1, q2, q3, q4⟩ := e5_spell h ht hn2 r r1
    obtain ⟨m2, p1, p2, p3, p4⟩ := e12_spells hw hr ht hn2 r r2
    rw [if_pos rfl, if_pos (by decide), p_ck _ (by rw [nI_toInt (by omega)]; omega), rc0_4, rc0_17, rc0_3, nI_clamp (by omega), rc1, q1, p1, p_bd, p_bd, bI_if, bI_if]
    have hI : Inv m1 m2 := Inv_scr h q2 (fun i _ => by rw [q3]) (fun k _ => by rw [p2 0 (by omega)]) (fun i a c => p2 i (by omega)) (fun i _ => by rw [p3])
    by_cases hc : ¬ spS (bV μC 10) r n = none
    · rw [if_pos hc, if_pos hc]; exact eq2_st hI _ _ rfl rfl
    · rw [if_neg hc, if_neg hc]; exact eq2_st hI _ _ rfl rfl
  · rw [if_neg hs, if_neg hs2]; exact eq2_st h _ _ rfl rfl
theorem i64_sub1 (x : Int32) : (x.toInt64 - 1).toInt = x.toInt - 1 := by
  have h1 := i32_rng x
  rw [Int64.toInt_sub, i64_of, c64_1]
  apply Int.bmod_eq_of_le <;> omega
theorem pu_spellAt (h : Inv μC μM) (x y z w : Int32) : o_Eq2 (fX11_spellAt rfC 0 x y z w μC) (fX12_spellAt rfM 0 x y z w μM) Inv := by
  obtain ⟨hw, hr⟩ := Inv_v h
  obtain ⟨s, e1, e2, hs⟩ := e_srow h x y
  unfold fX11_spellAt fX12_spellAt fX11_spellAt_j26 fX12_spellAt_j35 fX12_spellAt_j36
  simp only [e11_within, e12_isFrom, p_bd, bI_if, i64_of, i64_sub1, c64_0, c64_2, e1, e2, e11_refuses, e12_refuse]
  by_cases hz : 0 ≤ z.toInt ∧ z.toInt ≤ y.toInt - 1
  · rw [if_pos hz, if_pos hz]
    by_cases hw4 : 0 ≤ w.toInt ∧ w.toInt ≤ 2
    · rw [if_pos hw4, if_pos hw4]
      rcases hs with ⟨rfl, t, n, m, ht, rfl, rfl, hn1, hn2, hnm, hd, hok⟩ | ⟨hs, hs2⟩
      · obtain ⟨r, r1, r2⟩ := rowOk_r hok
        rw [nI_toInt (by omega)] at hz
        obtain ⟨k, hk, hk2, rfl⟩ := rg_nI (x := z) (n := n) (by omega)
        obtain ⟨i, hi, hi2, rfl⟩ := rg_nI (x := w) (n := 3) (by omega)
        obtain ⟨m1, q1, q2, q3, q4⟩ := e5_spell h ht hn2 r r1
        obtain ⟨m2, p1, p2, p3, p4⟩ := e12_spells hw hr ht hn2 r r2
        have hI : Inv m1 m2 := Inv_scr h q2 (fun i _ => by rw [q3]) (fun k _ => by rw [p2 0 (by omega)]) (fun i a c => p2 i (by omega)) (fun i _ => by rw [p3])
        rw [if_pos rfl, if_pos (by decide), p_ck _ (by rw [nI_toInt (by omega)]; omega), rc0_4, rc0_17, rc148_0, rc0_3, nI_clamp (by omega), rc1, q1, p1, p_bd, p_bd, bI_if, bI_if]
        by_cases hc : ¬ spS (bV μC 10) r n = none
        · rw [if_pos hc, if_pos hc]
          obtain ⟨m3, o1, o2, o3, o4⟩ := e12_spells hw (μ0 := m2) (by rw [p2 1 (by omega)]; exact hr) ht (show k + 1 ≤ 12 by omega) r (fun j hj => by rw [p3]; exact r2 j (by omega))
          obtain ⟨v, v1, v2, v3, v4⟩ := q4 hc k hk
          have hv := o4 (by omega) v v1
          have hI' : Inv m1 m3 := Inv_scr hI (fun _ _ => rfl) (fun _ _ => rfl) (fun k _ => by rw [o2 0 (by omega)]) (fun i a c => o2 i (by omega)) (fun i _ => by rw [o3])
          rw [e1_tell k149 (by omega) (by omega), p_bd, e11_gives, p_bd, aR_1, o1, p_bd, p_ck _ (by rw [nI_toInt (by omega)]; omega), qm_27, nI_clamp (by omega), e12_gives, p_bd]
          rcases (show i = 0 ∨ i = 1 ∨ i = 2 by omega) with rfl | rfl | rfl
          · rw [show m1.1 (149 + 1 + 0) k = _ from v2, hv.1]; exact eq2_st hI' _ _ rfl rfl
          · rw [show m1.1 (149 + 1 + 1) k = _ from v3, hv.2.1]; exact eq2_st hI' _ _ rfl rfl
          · rw [show m1.1 (149 + 1 + 2) k = _ from v4, hv.2.2]; exact eq2_st hI' _ _ rfl rfl
        · rw [if_neg hc, if_neg hc]; exact eq2_st hI _ _ rfl rfl
      · rw [if_neg hs, if_neg hs2]; exact eq2_st h _ _ rfl rfl
    · rw [if_neg hw4, if_neg hw4]; exact eq2_st h _ _ rfl rfl
  · rw [if_neg hz, if_neg hz]; exact eq2_st h _ _ rfl rfl
end sp2
