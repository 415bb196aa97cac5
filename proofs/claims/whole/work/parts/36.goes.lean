/-! ===== DAYS go by: day ===== -/
def eqC (r : Nat → Int32) (p : Nat) : Nat → Nat
  | 0 => 0
  | n + 1 => eqC r p n + (if r n = nI p then 1 else 0)
def ltC (r : Nat → Int32) (p : Nat) : Nat → Nat
  | 0 => 0
  | n + 1 => ltC r p n + (if (r n).toInt < p then 1 else 0)
theorem ltC_le (r : Nat → Int32) (p : Nat) : ∀ n, ltC r p n ≤ n
  | 0 => Nat.le_refl _
  | n + 1 => by
    have := ltC_le r p n
    show ltC r p n + _ ≤ n + 1
    split <;> omega
theorem ltC_s (r : Nat → Int32) {p : Nat} (hp : p < 100) : ∀ n, ltC r (p + 1) n = ltC r p n + eqC r p n
  | 0 => rfl
  | n + 1 => by
    show ltC r (p + 1) n + _ = ltC r p n + _ + (eqC r p n + _)
    rw [ltC_s r hp n]
    have e : (r n = nI p) ↔ (r n).toInt = p := by rw [i32_eq, nI_toInt (by omega)]
    by_cases h1 : (r n).toInt < p
    · rw [if_pos h1, if_pos (by omega), if_neg (by rw [e]; omega)]; omega
    · rw [if_neg h1]
      by_cases h2 : (r n).toInt = p
      · rw [if_pos (by omega), if_pos (e.mpr h2)]; omega
      · rw [if_neg (by omega), if_neg (by rw [e]; exact h2)]; omega
theorem eqC_le (r : Nat → Int32) (p : Nat) {k : Nat} : ∀ n, k ≤ n → eqC r p k ≤ eqC r p n
  | 0, h => by rw [show k = 0 by omega]; exact Nat.le_refl _
  | n + 1, h => by
    by_cases e : k = n + 1
    · rw [e]; exact Nat.le_refl _
    · have := eqC_le r p n (show k ≤ n by omega)
      show _ ≤ eqC r p n + _
      omega
theorem ltC_0 (r : Nat → Int32) : ∀ n, (∀ k, k < n → 0 ≤ (r k).toInt) → ltC r 0 n = 0
  | 0, _ => rfl
  | n + 1, h => by
    show ltC r 0 n + _ = 0
    rw [ltC_0 r n (fun k hk => h k (by omega)), if_neg (by have := h n (by omega); omega)]
/-- which cells DAYS may touch: the VALLEY's own, and the row's first 259 numbers -/
def Fr (v : Nat) (μC μM μ1 μ2 : o_Mem) : Prop := (∀ i, i < v ∨ v + 20 ≤ i → μ1.1 i = μC.1 i) ∧ μ1.2 = μC.2 ∧ (∀ i, i ≠ 1 → μ2.1 i = μM.1 i) ∧ μ2.2 = μM.2 ∧ ∀ k, k = 12 ∨ 259 ≤ k → μ2.1 1 k = μM.1 1 k
theorem Fr_rf (v : Nat) (μC μM : o_Mem) : Fr v μC μM μC μM := ⟨fun _ _ => rfl, rfl, fun _ _ => rfl, rfl, fun _ _ => rfl⟩
theorem Fr_tr {v : Nat} {μC μM μ1 μ2 m1 m2 : o_Mem} (h : Fr v μC μM μ1 μ2) (h' : Fr v μ1 μ2 m1 m2) : Fr v μC μM m1 m2 := ⟨fun i hi => (h'.1 i hi).trans (h.1 i hi), h'.2.1.trans h.2.1, fun i hi => (h'.2.2.1 i hi).trans (h.2.2.1 i hi), h'.2.2.2.1.trans h.2.2.2.1, fun k hk => (h'.2.2.2.2 k hk).trans (h.2.2.2.2 k hk)⟩
theorem aBr_o {a : Nat → Int32} {n : Nat} {f t w h s : Int32} {k : Nat} (hn : n < 12) (hs : s = -1 ∨ inR s 6) (hk : k = 12 ∨ 259 ≤ k) : aBr a n f t w h s k = a k := by
  unfold aBr
  by_cases e : s = -1
  · rw [if_pos e, u_ne (by omega), aB2_o (by omega) (by omega) (by omega)]
  · rcases hs with hs | hs
    · exact absurd hs e
    · obtain ⟨i, hi, hi2, rfl⟩ := rg_nI (x := s) (n := 6) hs
      rw [if_neg e, nI_clamp hi2, u_ne (by omega), u_ne (by omega), aB2_o (by omega) (by omega) (by omega)]
/-- within a DAY: A covers in all before it, g0 as it began -/
def dyS (v : Nat) (g0 : Nat → Nat → Int32) (A : Int32) (μC μM : o_Mem) (n : Nat) (μ1 μ2 : o_Mem) : Prop := Fr v μC μM μ1 μ2 ∧ mid (bV μ1 v) (μ2.1 1) ∧ sta g0 (bV μ1 v) ∧ (∀ j, 7 ≤ j → j ≤ 12 → bV μ1 v j = g0 j) ∧ bV μ1 v 0 5 = g0 0 5 ∧ bV μ1 v 0 7 = A + nI n ∧ cC (bV μ1 v) = n
theorem inR_6 {s : Int32} {n : Nat} (hn : n ≤ 6) (h : s = -1 ∨ inR s n) : s = -1 ∨ inR s 6 := by
  rcases h with h | h
  · exact Or.inl h
  · exact Or.inr ⟨h.1, by have := h.2; omega⟩
section dy
variable {v : Nat} {g0 : Nat → Nat → Int32} {A : Int32} {μC μM : o_Mem}
theorem dy_in (hv : kdC v = .inl 8) (h7 : kdC (v + 7) = .inl 1) (h13 : kdC (v + 13) = .inl 1) (hx0 : wfN g0) {p : Nat} (hp : p < cP g0) {μ1 μ2 : o_Mem} (hS : dyS v g0 A μC μM (ltC (g0 9) p (cW g0)) μ1 μ2) : ∃ m1 m2, fX8_bringTo rfC v (nI p) μ1 = some ((), m1) ∧ o_lp 21 (fX12_dayGoes_s21 rfM 0 (nI p)) o_fuel 0 μ2 = some ((57, 0), m2) ∧ dyS v g0 A μC μM (ltC (g0 9) (p + 1) (cW g0)) m1 m2 := by
  have hW0 := hx0.2.2.2.2.1.2
  have hP0 := hx0.2.2.1.2
  have r15 : rfC v 15 = v + 7 := by rw [rf8 hv]; rfl
  have t2 : rfC (v + 7) 2 = v + 9 := rf1 h7 2
  obtain ⟨e1, m1, e2, m2, q1, q2, rfl, rfl, hE⟩ := lp_rel (h1 := 2) (h2 := 21) (s1 := fX8_bringTo_s2 rfC v (nI p)) (s2 := fX12_dayGoes_s21 rfM 0 (nI p))
    (fun i τ1 μ1 τ2 μ2 => ∃ k, k + i = cW g0 ∧ τ1 = nI k ∧ τ2 = nI k ∧ dyS v g0 A μC μM (ltC (g0 9) p (cW g0) + eqC (g0 9) p k) μ1 μ2)
    (fun e1 m1 e2 m2 => e1 = (130, 0) ∧ e2 = (57, 0) ∧ dyS v g0 A μC μM (ltC (g0 9) p (cW g0) + eqC (g0 9) p (cW g0)) m1 m2)
    (fun i τ1 μ1 τ2 μ2 hR => by
      obtain ⟨k, hk, rfl, rfl, hS⟩ := hR
      have hS' := hS
      obtain ⟨f1, hm, hst, hrow, h5, hA, hC⟩ := hS'
      have hW : cW (bV μ1 v) = cW g0 := by unfold cW; rw [hrow 7 (by omega) (by omega)]
      have ew : μ1.1 (v + 7) 0 = nI (cW g0) := by rw [← hW]; exact hm.1.1.2.2.2.2.1.1
      have ew2 : μ2.1 1 4 = nI (cW g0) := by rw [← hW]; exact hm.2.1.1.2.2.2.2.1.trans hm.1.1.2.2.2.2.1.1
      by_cases hi : i = 0
      · have ek : k = cW g0 := by omega
        subst ek
        refine ⟨_, _, _, _, ?_, ?_, Or.inr ⟨?_, ?_, rfl, rfl, hS⟩⟩
        · unfold fX8_bringTo_s2
          rw [r15, ew, if_pos (by rw [n_le (by omega) (by omega)]; omega)]
        · unfold fX12_dayGoes_s21
          rw [qm_0, ew2, if_pos (by rw [n_le (by omega) (by omega)]; omega)]
        · exact (by decide : ¬ 130 = 2)
        · exact (by decide : ¬ 57 = 21)
      · have et : μ1.1 (v + 9) k = g0 9 k := by show bV μ1 v 9 k = _; rw [hrow 9 (by omega) (by omega)]
        have et2 : μ2.1 1 (151 + 4 * k + 1) = g0 9 k := (hm.2.1.2.2.2.2.2.1 k 1 (by omega) (by omega)).trans et
        have eS : fX12_dayGoes_s21 rfM 0 (nI p) (nI k) μ2 = if g0 9 k = nI p then (o_bd (fX12_brings rfM 0 (nI k) μ2) fun _u m => some ((21, nI (k + 1)), m)) else some ((21, nI (k + 1)), μ2) := by
          unfold fX12_dayGoes_s21 fX12_letterRow
          rw [qm_0, ew2, if_neg (show ¬ nI (cW g0) ≤ nI k by rw [n_le (by omega) (by omega)]; omega)]
          simp (disch := omega) only [mL_4, aL_151, aR_1, p_bd, nI_toInt, nI_clamp, p_ck, et2]
        by_cases hq : g0 9 k = nI p
        · have hc1 : eqC (g0 9) p (k + 1) = eqC (g0 9) p k + 1 := by show eqC (g0 9) p k + _ = _; rw [if_pos hq]
          have hle := eqC_le (g0 9) p (k := k + 1) (cW g0) (by omega)
          have hlt := ltC_s (g0 9) (p := p) (by omega) (cW g0)
          have hll := ltC_le (g0 9) (p + 1) (cW g0)
          have hC12 : cC (bV μ1 v) < 12 := by omega
          have hbt : bV μ1 v 9 k = nI p := et.trans hq
          obtain ⟨n1, b1, b2, b3, b4⟩ := e8_bring hv h7 h13 hm.1 hC12 (p := p) (k := k) (by omega) hbt
          obtain ⟨n2, c1, c2, c3, c4⟩ := e12_brings hm.1 hm.2.1 hC12 (k := k) (by omega)
          have hso := stk_okX hm.1 (bV μ1 v 8 k) (bV μ1 v 9 k) (bV μ1 v 10 k) (bV μ1 v 11 k)
          have hbr := br_ok hm hC12 (hm.1.2.2.2.2.2.2.2.2.1 k (by omega)) hso
          have hS6 := hm.1.1.1.2
          rw [eS, if_pos hq, c1, p_bd, b1]
          generalize stk (bV μ1 v) (bV μ1 v 8 k) (bV μ1 v 9 k) (bV μ1 v 10 k) (bV μ1 v 11 k) = s at b4 c4 hso hbr
          refine ⟨_, _, _, _, rfl, rfl, Or.inl ⟨rfl, rfl, i - 1, by omega, k + 1, by omega, rfl, rfl, Fr_tr f1 ⟨b2, b3, c2, c3, fun q hq => by rw [c4]; exact aBr_o hC12 (inR_6 hS6 hso) hq⟩, ?_, ?_, ?_, ?_, ?_, ?_⟩⟩
          · rw [b4, c4]; exact hbr.1
          · rw [b4]
            have h9 := gBr_sta (bV μ1 v) (cC (bV μ1 v)) (bV μ1 v 8 k) (bV μ1 v 9 k) (bV μ1 v 10 k) (bV μ1 v 11 k) s
            exact ⟨fun q hq => (h9.1 q hq).trans (hst.1 q hq), h9.2.1.trans hst.2.1, h9.2.2.1.trans hst.2.2.1, h9.2.2.2.1.trans hst.2.2.2.1, h9.2.2.2.2.1.trans hst.2.2.2.2.1, h9.2.2.2.2.2.1.trans hst.2.2.2.2.2.1, h9.2.2.2.2.2.2.trans hst.2.2.2.2.2.2⟩
          · intro j j1 j2
            rw [b4, gBr_r (by omega) (by omega) (by omega)]; exact hrow j j1 j2
          · rw [b4, gBr_0 (by omega) (by omega)]; exact h5
          · rw [b4, gBr_07, hA, Int32.add_assoc, aR_1, hc1, Nat.add_assoc]
          · rw [b4, hbr.2, hC, hc1]; omega
        · have hc1 : eqC (g0 9) p (k + 1) = eqC (g0 9) p k := by show eqC (g0 9) p k + _ = _; rw [if_neg hq]; rfl
          have eC : fX8_bringTo_s2 rfC v (nI p) (nI k) μ1 = some ((2, nI (k + 1)), μ1) := by
            unfold fX8_bringTo_s2
            rw [r15, ew, if_neg (show ¬ nI (cW g0) ≤ nI k by rw [n_le (by omega) (by omega)]; omega), t2]
            simp (disch := omega) only [nI_toInt, nI_clamp, p_ck, et, aR_1]
            rw [if_neg hq]
          rw [eS, if_neg hq, eC]
          exact ⟨_, _, _, _, rfl, rfl, Or.inl ⟨rfl, rfl, i - 1, by omega, k + 1, by omega, rfl, rfl, by rw [hc1]; exact hS⟩⟩)
    o_fuel (cW g0) 0 μ1 0 μ2 (fu (by omega)) ⟨0, by omega, rfl, rfl, hS⟩
  refine ⟨m1, m2, ?_, q2, by rw [ltC_s (g0 9) (by omega)]; exact hE⟩
  unfold fX8_bringTo
  rw [q1, p_bd, if_pos rfl]
theorem dy_all (hv : kdC v = .inl 8) (h7 : kdC (v + 7) = .inl 1) (h13 : kdC (v + 13) = .inl 1) (hx0 : wfN g0) (x1 x2 x3 : Int32) {μ1 μ2 : o_Mem} (hS : dyS v g0 A μC μM (ltC (g0 9) 0 (cW g0)) μ1 μ2) : ∃ m1 m2, o_lp 23 (fX8_goDays_s23 rfC v x1 x2 x3) o_fuel 0 μ1 = some ((44, 0), m1) ∧ o_lp 9 (fX12_dayGoes_s9 rfM 0) o_fuel 0 μ2 = some ((63, 0), m2) ∧ dyS v g0 A μC μM (ltC (g0 9) (cP g0) (cW g0)) m1 m2 := by
  have hP0 := hx0.2.2.1.2
  obtain ⟨e1, m1, e2, m2, q1, q2, rfl, rfl, hE⟩ := lp_rel (h1 := 23) (h2 := 9) (s1 := fX8_goDays_s23 rfC v x1 x2 x3) (s2 := fX12_dayGoes_s9 rfM 0)
    (fun i τ1 μ1 τ2 μ2 => ∃ p, p + i = cP g0 ∧ τ1 = nI p ∧ τ2 = nI p ∧ dyS v g0 A μC μM (ltC (g0 9) p (cW g0)) μ1 μ2)
    (fun e1 m1 e2 m2 => e1 = (44, 0) ∧ e2 = (63, 0) ∧ dyS v g0 A μC μM (ltC (g0 9) (cP g0) (cW g0)) m1 m2)
    (fun i τ1 μ1 τ2 μ2 hR => by
      obtain ⟨p, hp, rfl, rfl, hS⟩ := hR
      have hm := hS.2.1
      have hP : cP (bV μ1 v) = cP g0 := (sta_c hS.2.2.1).2.2.1
      have ep : μ1.1 v 2 = nI (cP g0) := by rw [← hP]; exact hm.1.1.2.2.1.1
      have ep2 : μ2.1 1 2 = nI (cP g0) := by rw [← hP]; exact hm.2.1.1.2.2.1.trans hm.1.1.2.2.1.1
      unfold fX8_goDays_s23 fX12_dayGoes_s9
      rw [qm_0, ep, ep2]
      by_cases hi : i = 0
      · rw [if_pos (show nI (cP g0) ≤ nI p by rw [n_le (by omega) (by omega)]; omega), if_pos (show nI (cP g0) ≤ nI p by rw [n_le (by omega) (by omega)]; omega)]
        have ek : p = cP g0 := by omega
        subst ek
        exact ⟨_, _, _, _, rfl, rfl, Or.inr ⟨(by decide : ¬ 44 = 23), (by decide : ¬ 63 = 9), rfl, rfl, hS⟩⟩
      · rw [if_neg (show ¬ nI (cP g0) ≤ nI p by rw [n_le (by omega) (by omega)]; omega), if_neg (show ¬ nI (cP g0) ≤ nI p by rw [n_le (by omega) (by omega)]; omega)]
        obtain ⟨n1, n2, b1, b2, b3⟩ := dy_in hv h7 h13 hx0 (show p < cP g0 by omega) hS
        rw [b1, b2, p_bd, p_bd, if_pos rfl, aR_1]
        exact ⟨_, _, _, _, rfl, rfl, Or.inl ⟨rfl, rfl, i - 1, by omega, p + 1, by omega, rfl, rfl, b3⟩⟩)
    o_fuel (cP g0) 0 μ1 0 μ2 (fu (by omega)) ⟨0, by omega, rfl, rfl, hS⟩
  exact ⟨m1, m2, q1, q2, hE⟩
theorem sta_tr {g1 g2 g3 : Nat → Nat → Int32} (h : sta g1 g2) (h' : sta g2 g3) : sta g1 g3 := ⟨fun q hq => (h'.1 q hq).trans (h.1 q hq), h'.2.1.trans h.2.1, h'.2.2.1.trans h.2.2.1, h'.2.2.2.1.trans h.2.2.2.1, h'.2.2.2.2.1.trans h.2.2.2.2.1, h'.2.2.2.2.2.1.trans h.2.2.2.2.2.1, h'.2.2.2.2.2.2.trans h.2.2.2.2.2.2⟩
theorem sta_rf (g : Nat → Nat → Int32) : sta g g := ⟨fun _ _ => rfl, rfl, rfl, rfl, rfl, rfl, rfl⟩
theorem e1_addF {w : Nat} (rf : Nat → Nat → Nat) (μ : o_Mem) (hn : μ.1 w 0 = nI 12) (f t wt h s : Int32) : fX1_add rf w f t wt h s μ = some ((), μ) := by
  unfold fX1_add
  rw [hn, if_neg (by decide)]
theorem mid_post {g : Nat → Nat → Int32} {a : Nat → Int32} {f t w h s : Int32} (hm : mid g a) (hW : cW g < 12) (hl : letOk g f t w h) : mid (gAdd g 7 (cW g) f t w h s) (aPost a (cW g) f t w h) ∧ sta g (gAdd g 7 (cW g) f t w h s) ∧ gAdd g 7 (cW g) f t w h s 0 = g 0 ∧ cC (gAdd g 7 (cW g) f t w h s) = cC g := by
  obtain ⟨hx, hr, hsum, hdt⟩ := hm
  have ho : ∀ j, j < 7 ∨ 12 < j → gAdd g 7 (cW g) f t w h s j = g j := fun j hj => funext fun k => gAdd_o (by omega) k
  have hst : sta g (gAdd g 7 (cW g) f t w h s) := ⟨fun k _ => by rw [ho 0 (by omega)], by rw [ho 0 (by omega)], ho 1 (by omega), ho 3 (by omega), ho 4 (by omega), ho 5 (by omega), ho 6 (by omega)⟩
  have hS := (sta_c hst).1
  have hC : cC (gAdd g 7 (cW g) f t w h s) = cC g := by unfold cC; rw [ho 13 (by omega)]
  have q := gAdd_n (g := g) (j := 7) (n := cW g) (f := f) (t := t) (wt := w) (h := h) (s := s)
  refine ⟨⟨?_, vR_post hx.1 hr hW, ?_, ?_⟩, hst, ho 0 (by omega), hC⟩
  · refine wfX_gen hx hst (by rw [ho 0 (by omega)]; exact hx.2.2.1) (show cW g + 1 ≤ 12 by omega) q.2.2.2.2.2 (fun k hk => ?_) hx.1.2.2.2.2.2.2 (by rw [ho 13 (by omega)]; exact hx.1.2.2.2.2.2.1) (fun k hk => ?_) (fun k hk => ?_)
    · by_cases e : k = cW g
      · subst e
        rw [q.1, q.2.1, q.2.2.1, q.2.2.2.1]
        exact hl
      · rw [gAdd_k (by omega) e, gAdd_k (by omega) e, gAdd_k (by omega) e, gAdd_k (by omega) e]
        exact hx.2.2.2.2.2.2.2.2.1 k (by omega)
    · rw [ho 14 (by omega), ho 15 (by omega), ho 16 (by omega), ho 17 (by omega), ho 18 (by omega)]
      exact hx.2.2.2.2.2.2.2.2.2.1 k hk
    · rw [ho 2 (by omega)]; exact (hx.2.2.2.2.2.2.2.2.2.2 k hk).1
  · rw [hS, hC, ho 0 (by omega), ssum_c (g := g) (fun k _ => by rw [ho 2 (by omega)]) _ hx.1.1.2]; exact hsum
  · rw [ho 0 (by omega)]; exact hdt
/-- the answers, one COVER after the other -/
def anS (v : Nat) (g0 : Nat → Nat → Int32) (μC μM : o_Mem) (n : Nat) (μ1 μ2 : o_Mem) : Prop := Fr v μC μM μ1 μ2 ∧ mid (bV μ1 v) (μ2.1 1) ∧ sta g0 (bV μ1 v) ∧ bV μ1 v 0 5 = g0 0 5 ∧ bV μ1 v 0 7 = g0 0 7 ∧ cC (bV μ1 v) = n
theorem an_one (hv : kdC v = .inl 8) (h7 : kdC (v + 7) = .inl 1) (h13 : kdC (v + 13) = .inl 1) {n k : Nat} {μ1 μ2 : o_Mem} (hk : k < n) (hS : anS v g0 μC μM n μ1 μ2) : ∃ m1 m2, fX8_answerAll_s2 rfC v (nI k) μ1 = some ((2, nI (k + 1)), m1) ∧ fX12_dayGoes_s72 rfM 0 (nI k) μ2 = some ((72, nI (k + 1)), m2) ∧ anS v g0 μC μM n m1 m2 := by
  have hS' := hS
  obtain ⟨f1, hm, hst, h5, hA, hC⟩ := hS'
  have r11 : rfC v 11 = v + 3 := by rw [rf8 hv]; rfl
  have r13 : rfC v 13 = v + 5 := by rw [rf8 hv]; rfl
  have r14 : rfC v 14 = v + 6 := by rw [rf8 hv]; rfl
  have r15 : rfC v 15 = v + 7 := by rw [rf8 hv]; rfl
  have r16 : rfC v 16 = v + 13 := by rw [rf8 hv]; rfl
  have t2 : rfC (v + 13) 2 = v + 15 := rf1 h13 2
  have t5 : rfC (v + 13) 5 = v + 18 := rf1 h13 5
  have hx := hm.1
  have hr := hm.2.1
  have hC12 := hx.1.2.2.2.2.2.2
  have bS := hx.1.1.2
  have bP := hx.1.2.2.1.2
  have bW := hx.1.2.2.2.2.1.2
  have ec : μ1.1 (v + 13) 0 = nI n := by rw [← hC]; exact hx.1.2.2.2.2.2.1
  have ec2 : μ2.1 1 5 = nI n := by rw [← hC]; exact hr.1.2.2.2.2.2.1.trans hx.1.2.2.2.2.2.1
  have hcv := hx.2.2.2.2.2.2.2.2.2.1 k (by omega)
  have z1 : μ2.1 1 (199 + 5 * k + 1) = bV μ1 v 15 k := hr.2.2.2.2.2.2 k 1 (by omega) (by omega)
  have z4 : μ2.1 1 (199 + 5 * k + 4) = bV μ1 v 18 k := hr.2.2.2.2.2.2 k 4 (by omega) (by omega)
  have y1 : μ1.1 (v + 15) k = bV μ1 v 15 k := rfl
  have y4 : μ1.1 (v + 18) k = bV μ1 v 18 k := rfl
  unfold fX8_answerAll_s2 fX12_dayGoes_s72 fX12_coverRow
  rw [r16, ec, t2, t5, qm_0, ec2, if_neg (show ¬ nI n ≤ nI k by rw [n_le (by omega) (by omega)]; omega), if_neg (show ¬ nI n ≤ nI k by rw [n_le (by omega) (by omega)]; omega)]
  simp (disch := omega) only [mL_5, aL_199, aR_1, aR_4, p_bd, nI_toInt, nI_clamp, p_ck, z1, z4, y1, y4]
  by_cases hs : bV μ1 v 18 k = -1
  · rw [if_pos hs, if_pos hs]; exact ⟨μ1, μ2, rfl, rfl, hS⟩
  · rw [if_neg hs, if_neg hs]
    obtain ⟨p, hp, hp2, ep⟩ := rg_nI (x := bV μ1 v 15 k) (n := cP (bV μ1 v)) hcv.1.2.1
    obtain ⟨s, hs2, hs3, es⟩ : ∃ s, s < cS (bV μ1 v) ∧ s < 2 ^ 31 ∧ bV μ1 v 18 k = nI s := by
      rcases hcv.2 with h | h
      · exact absurd h hs
      · exact rg_nI h
    have hac := hr.2.2.2.2.1 p s hp hs2
    have hok := hx.2.2.2.2.2.2.1 p s hp hs2
    have hhd := hr.2.2.1 p hp
    have w5 : μ1.1 (v + 5) (6 * p + s) = bV μ1 v 5 (6 * p + s) := rfl
    have w6 : μ1.1 (v + 6) (6 * p + s) = bV μ1 v 6 (6 * p + s) := rfl
    have w3 : μ1.1 (v + 3) p = bV μ1 v 3 p := rfl
    have ew : μ1.1 (v + 7) 0 = nI (cW (bV μ1 v)) := hx.1.2.2.2.2.1.1
    have ew2 : μ2.1 1 4 = nI (cW (bV μ1 v)) := hr.1.2.2.2.2.1.trans hx.1.2.2.2.2.1.1
    unfold fX8_answer fX12_actRow fX12_handOf
    rw [ep, es, r13, r14, r11, r15]
    simp (disch := omega) only [mR_6, mL_6, mL_2, aL_79, aL_25, aR_1, qm_0, nI_add', p_bd, nI_toInt, nI_clamp, p_ck, show p * 6 + s = 6 * p + s by omega, w5, w6, w3, hac.1, hhd, ew2]
    by_cases hn : bV μ1 v 5 (6 * p + s) = -1
    · rw [if_pos hn, if_pos hn]; exact ⟨μ1, μ2, rfl, rfl, hS⟩
    · rw [if_neg hn, if_neg hn, show 79 + 2 * (6 * p + s) + 1 = 80 + 2 * (6 * p + s) by omega, hac.2 hn]
      by_cases h12 : cW (bV μ1 v) = 12
      · rw [if_pos (by rw [h12]; rfl), e1_addF rfC μ1 (by rw [ew, h12])]
        exact ⟨μ1, μ2, rfl, rfl, hS⟩
      · rw [if_neg (by rw [show (12 : Int32) = nI 12 from rfl, nI_inj (by omega) (by omega)]; exact h12), e1_add h7 μ1 ew (by omega)]
        obtain ⟨n2, c1, c2, c3, c4⟩ := e12_posts μ2 ew2 (show cW (bV μ1 v) < 12 by omega) (nI p) (bV μ1 v 5 (6 * p + s)) (bV μ1 v 6 (6 * p + s)) (bV μ1 v 3 p)
        have hl : letOk (bV μ1 v) (nI p) (bV μ1 v 5 (6 * p + s)) (bV μ1 v 6 (6 * p + s)) (bV μ1 v 3 p) := by
          rcases hok with h | h
          · exact absurd h hn
          · exact ⟨⟨by rw [nI_toInt hp2]; omega, by rw [nI_toInt hp2]; omega⟩, h.1, h.2, hx.2.2.2.2.2.1 p hp⟩
        have hmp := mid_post (s := -1) hm (by omega) hl
        have eb := bV_add μ1 v 7 (cW (bV μ1 v)) (nI p) (bV μ1 v 5 (6 * p + s)) (bV μ1 v 6 (6 * p + s)) (bV μ1 v 3 p) (-1)
        rw [c1]
        refine ⟨_, _, rfl, rfl, Fr_tr f1 ⟨fun i hi => addL_o (by omega), rfl, c2, c3, fun q hq => by rw [c4]; exact aPost_o (by omega) (by omega)⟩, ?_, ?_, ?_, ?_, ?_⟩
        · rw [eb, c4]; exact hmp.1
        · rw [eb]; exact sta_tr hst hmp.2.1
        · rw [eb, hmp.2.2.1]; exact h5
        · rw [eb, hmp.2.2.1]; exact hA
        · rw [eb, hmp.2.2.2]; exact hC
theorem an_all (hv : kdC v = .inl 8) (h7 : kdC (v + 7) = .inl 1) (h13 : kdC (v + 13) = .inl 1) {n : Nat} (hn : n ≤ 12) {μ1 μ2 : o_Mem} (hS : anS v g0 μC μM n μ1 μ2) : ∃ m1 m2, fX8_answerAll rfC v μ1 = some ((), m1) ∧ o_lp 72 (fX12_dayGoes_s72 rfM 0) o_fuel 0 μ2 = some ((177, 0), m2) ∧ anS v g0 μC μM n m1 m2 := by
  have r16 : rfC v 16 = v + 13 := by rw [rf8 hv]; rfl
  obtain ⟨e1, m1, e2, m2, q1, q2, rfl, rfl, hE⟩ := lp_rel (h1 := 2) (h2 := 72) (s1 := fX8_answerAll_s2 rfC v) (s2 := fX12_dayGoes_s72 rfM 0)
    (fun i τ1 μ1 τ2 μ2 => ∃ k, k + i = n ∧ τ1 = nI k ∧ τ2 = nI k ∧ anS v g0 μC μM n μ1 μ2)
    (fun e1 m1 e2 m2 => e1 = (54, 0) ∧ e2 = (177, 0) ∧ anS v g0 μC μM n m1 m2)
    (fun i τ1 μ1 τ2 μ2 hR => by
      obtain ⟨k, hk, rfl, rfl, hS⟩ := hR
      by_cases hi : i = 0
      · have hm := hS.2.1
        have hC := hS.2.2.2.2.2
        have ec : μ1.1 (v + 13) 0 = nI n := by rw [← hC]; exact hm.1.1.2.2.2.2.2.1
        have ec2 : μ2.1 1 5 = nI n := by rw [← hC]; exact hm.2.1.1.2.2.2.2.2.1.trans hm.1.1.2.2.2.2.2.1
        refine ⟨(54, 0), μ1, (177, 0), μ2, ?_, ?_, Or.inr ⟨(by decide : ¬ 54 = 2), (by decide : ¬ 177 = 72), rfl, rfl, hS⟩⟩
        · unfold fX8_answerAll_s2
          rw [r16, ec, if_pos (show nI n ≤ nI k by rw [n_le (by omega) (by omega)]; omega)]
        · unfold fX12_dayGoes_s72
          rw [qm_0, ec2, if_pos (show nI n ≤ nI k by rw [n_le (by omega) (by omega)]; omega)]
      · obtain ⟨n1, n2, b1, b2, b3⟩ := an_one hv h7 h13 (show k < n by omega) hS
        exact ⟨_, _, _, _, b1, b2, Or.inl ⟨rfl, rfl, i - 1, by omega, k + 1, by omega, rfl, rfl, b3⟩⟩)
    o_fuel n 0 μ1 0 μ2 (fu (by omega)) ⟨0, by omega, rfl, rfl, hS⟩
  refine ⟨m1, m2, ?_, q2, hE⟩
  unfold fX8_answerAll
  rw [q1, p_bd, if_pos rfl]
end dy
