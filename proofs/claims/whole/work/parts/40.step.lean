/-! ===== one STEP of WEEKS ===== -/
theorem wI_comm (μ : o_Mem) {a k l : Nat} (h : k ≠ l) (x y : Int32) : o_wI (o_wI μ a k x) a l y = o_wI (o_wI μ a l y) a k x := by
  refine Prod.ext ?_ rfl
  funext i j
  rw [p_wI1, p_wI1, p_wI1, p_wI1]
  by_cases h1 : i = a ∧ j = l
  · rw [if_pos h1, if_neg (fun z => h (z.2.symm.trans h1.2)), if_pos h1]
  · rw [if_neg h1]
    by_cases h2 : i = a ∧ j = k
    · rw [if_pos h2, if_pos h2]
    · rw [if_neg h2, if_neg h2, if_neg h1]
theorem wI_same {μ : o_Mem} {a k : Nat} {x : Int32} (h : μ.1 a k = x) : o_wI μ a k x = μ := by
  refine Prod.ext ?_ rfl
  funext i j
  rw [p_wI1]
  by_cases h2 : i = a ∧ j = k
  · rw [if_pos h2, h2.1, h2.2, h]
  · rw [if_neg h2]
theorem Fr_w {v : Nat} {a b n1 n2 : o_Mem} (h : Fr v a b n1 n2) {j : Nat} (hj : j ≠ 1) (q : Nat) (x : Int32) : Fr v a (o_wI b j q x) n1 (o_wI n2 j q x) := by
  obtain ⟨e1, e2, e3, e4, e5⟩ := h
  refine ⟨e1, e2, fun i hi => ?_, e4, fun k hk => by rw [p_wI_o (Ne.symm hj), p_wI_o (Ne.symm hj)]; exact e5 k hk⟩
  funext l
  rw [p_wI1, p_wI1, e3 i hi]
theorem j112_1 {k : Nat} (hk : k < 60) {y2 y3 : Int32} {m : o_Mem} {r0 : Int32} (h0 : m.1 1 (259 + 6 * k) = r0) (h1 : ¬ r0 = 21) (h2 : r0 < 2000) : fX12_lives_j112 rfM 0 (nI k) (nI (259 + 6 * k)) 17 0 y2 y3 m = fX12_lives_j178 rfM 0 0 (nI (k + 1)) (o_wI m 17 0 (y2 + y3)) := by
  have e : (o_wI m 17 0 (y2 + y3)).1 1 (259 + 6 * k) = r0 := by rw [p_wI_o (by omega)]; exact h0
  unfold fX12_lives_j112 fX12_lives_j141 fX12_lives_j175
  rw [p_ck _ (by decide), show (0 : Int32).toNatClampNeg = 0 from rfl, p_seq, qm_0]
  simp (disch := omega) only [nI_toInt, nI_clamp, p_ck, e]
  rw [if_neg h1, if_pos h2, aR_1]
theorem j112_2 {k : Nat} (hk : k < 60) {y2 y3 : Int32} {m : o_Mem} {x : Int32} (h0 : m.1 1 (259 + 6 * k) = 21) (hx : m.1 1 (259 + 6 * k + 1) = x) : fX12_lives_j112 rfM 0 (nI k) (nI (259 + 6 * k)) 17 0 y2 y3 m = fX12_lives_j178 rfM 0 0 (nI (k + 1)) (o_wI (o_wI m 17 0 (y2 + y3)) 16 k (x - 1)) := by
  have e : (o_wI m 17 0 (y2 + y3)).1 1 (259 + 6 * k) = 21 := by rw [p_wI_o (by omega)]; exact h0
  have ex : (o_wI m 17 0 (y2 + y3)).1 1 (259 + 6 * k + 1) = x := by rw [p_wI_o (by omega)]; exact hx
  have e2 : (o_wI (o_wI m 17 0 (y2 + y3)) 16 k (x - 1)).1 1 (259 + 6 * k) = 21 := by rw [p_wI_o (by omega)]; exact e
  unfold fX12_lives_j112 fX12_lives_j141 fX12_lives_j175
  rw [p_ck _ (by decide), show (0 : Int32).toNatClampNeg = 0 from rfl, p_seq, qm_0, qm_34]
  simp (disch := omega) only [aR_1, nI_toInt, nI_clamp, p_ck, e, ex, p_seq, e2]
  rw [if_pos trivial, if_pos (show (21 : Int32) < 2000 by decide)]
theorem j112_3 {k : Nat} (hk : k < 60) {y2 y3 : Int32} {m : o_Mem} {r0 x r : Int32} (h0 : m.1 1 (259 + 6 * k) = r0) (h1 : ¬ r0 = 21) (h2 : ¬ r0 < 2000) (hx : m.1 1 (259 + 6 * k + 4) = x) (hr : fX12_holds rfM 0 (nI (259 + 6 * k)) (o_wI m 17 0 (y2 + y3)) = some (r, o_wI m 17 0 (y2 + y3))) : fX12_lives_j112 rfM 0 (nI k) (nI (259 + 6 * k)) 17 0 y2 y3 m = fX12_lives_j178 rfM 0 0 (if r = 0 then x + 1 else nI (k + 1)) (o_wI m 17 0 (y2 + y3)) := by
  have e : (o_wI m 17 0 (y2 + y3)).1 1 (259 + 6 * k) = r0 := by rw [p_wI_o (by omega)]; exact h0
  have ex : (o_wI m 17 0 (y2 + y3)).1 1 (259 + 6 * k + 4) = x := by rw [p_wI_o (by omega)]; exact hx
  unfold fX12_lives_j112 fX12_lives_j141 fX12_lives_j175
  rw [p_ck _ (by decide), show (0 : Int32).toNatClampNeg = 0 from rfl, p_seq, qm_0]
  simp (disch := omega) only [nI_toInt, nI_clamp, p_ck, e, hr, p_bd, aR_4, ex, aR_1]
  rw [if_neg h1, if_neg h2]
  split <;> rfl
section op
variable {v : Nat} {g0 : Nat → Nat → Int32} {μC μM A1 A2 : o_Mem} {s : Nat}
/-- what a STEP does to the VALLEY and the counts -/
def opR (v : Nat) (g0 : Nat → Nat → Int32) (μC μM A1 A2 : o_Mem) (s d : Nat) (m1 m2 : o_Mem) : Prop := lvB v g0 μC μM d s m1 m2 ∧ m1.1 143 = A1.1 143 ∧ m2.1 16 = A2.1 16 ∧ m2.1 17 0 = A2.1 17 0
theorem op_day (hv50 : v + 20 ≤ 50) (hv : kdC v = .inl 8) (h7 : kdC (v + 7) = .inl 1) (h13 : kdC (v + 13) = .inl 1) (hs : s < 1000) (hm : ∀ m, m < 2000 → A1.1 142 0 = nI m → m + 1 ≤ s) (hB : lvB v g0 μC μM 0 s A1 A2) {k q : Nat} (hk : k < 60) (hq : q ≤ 20) (h51 : A1.1 51 k = 15) (h52 : A1.1 52 k = nI q) (h0 : A2.1 1 (259 + 6 * k) = 15) (h1 : A2.1 1 (259 + 6 * k + 1) = nI q) : ∃ d r m1 m2, ((r = 0 ∧ d = 1) ∨ (r = 1 ∧ d = 0)) ∧ fX2_behindStep rfC 142 v 50 (nI k) A1 = some (nI (k + 1), m1) ∧ fX12_does rfM 0 (nI (259 + 6 * k)) A2 = some (r, m2) ∧ opR v g0 μC μM A1 A2 s d m1 m2 := by
  have hB0 := hB
  obtain ⟨f1, f2, f3, f4, f5, f6, ⟨hw, hr, c1, c2, c3⟩, l1, l2, l3, l4, mm, l5, l6, l7⟩ := hB0
  have e7 : A2.1 1 7 = bV A1 v 0 5 := hr.1.2.2.2.2.2.2.2.1
  have hdt := hw.2.2.1
  have e : (bV A1 v 0 5 + nI q).toInt = (bV A1 v 0 5).toInt + q := by
    rw [Int32.toInt_add, nI_toInt (by omega)]
    exact Int.bmod_eq_of_le (by omega) (by omega)
  unfold fX2_behindStep fX12_does fX12_daysBy
  rw [rc50_3, rc50_4, rc50_5, rc50_6]
  simp (disch := omega) only [nI_toInt, nI_clamp, p_ck, qm_0, qm_35, aR_1, h51, h52, h0, h1]
  rw [if_pos trivial, if_pos trivial, hasD rfC (by omega) hdt, p_bd, bI_if, e7]
  simp only [i32_le, e, c32_9999]
  by_cases h9 : (bV A1 v 0 5).toInt + q ≤ 9999
  · rw [if_pos h9, if_pos h9, h52]
    generalize hx : A1.1 142 1 + nI q = x
    have eb : ∀ j, j < 20 → bV (o_wI A1 142 1 x) v j = bV A1 v j := fun j hj => bV_far A1 (by omega) 1 x hj
    obtain ⟨w1, w2, -⟩ := val_c eb hw hr
    have e0 : bV (o_wI A1 142 1 x) v 0 5 = bV A1 v 0 5 := by rw [eb 0 (by omega)]
    obtain ⟨r, n1, n2, q1, q2, fr, hw1, hr1, hst⟩ := e_goDays hv h7 h13 w1 w2 (n := q) (by omega) (by rw [e0]; exact h9)
    have h52' : (o_wI A1 142 1 x).1 52 k = nI q := by rw [p_wI_o (by omega)]; exact h52
    rw [p_seq, h52', q1, p_bd, p_seq, q2, p_bd, p_seq, p_seq, p_bd]
    have hy : (o_wI A1 142 1 x).1 142 2 = A2.1 17 2 := by rw [p_wI1, if_neg (by omega)]; exact l1 2 (by omega) (by omega)
    have n17 : n2.1 17 = A2.1 17 := fr.2.2.1 17 (by omega)
    have hx2 : (o_wI n2 17 2 (A2.1 17 2 + r)).1 17 1 + nI q = x := by rw [p_wI1, if_neg (by omega), n17, ← l1 1 (by omega) (by omega)]; exact hx
    rw [hy, hx2, wI_comm n2 (by omega)]
    obtain ⟨cs, ch, cp, -⟩ := sta_c hst
    have hB1 := lvB_ct hv50 hB (j := 1) (by omega) (by omega) x
    have hB2 := lvB_fr hv50 hB1 (Fr_w fr (show (17 : Nat) ≠ 1 by omega) 1 x) hw1 (by rw [p_wI_o (by omega)]; exact hr1) ⟨cs, ch, cp⟩
    have hB3 := lvB_ct hv50 hB2 (j := 2) (by omega) (by omega) (A2.1 17 2 + r)
    refine ⟨0, 1, _, _, Or.inr ⟨rfl, rfl⟩, rfl, rfl, hB3, ?_, ?_, ?_⟩
    · rw [p_wI_o (by omega), fr.1 143 (by omega), p_wI_o (by omega)]
    · rw [p_wI_o (by omega), p_wI_o (by omega)]; exact fr.2.2.1 16 (by omega)
    · rw [p_wI1, if_neg (by omega), p_wI1, if_neg (by omega), n17]
  · rw [if_neg h9, if_neg h9, p_seq, p_bd]
    exact ⟨1, 0, _, _, Or.inl ⟨rfl, rfl⟩, rfl, rfl, lvB_ms hv50 hB hm hs, by rw [p_wI_o (by omega)], rfl, rfl⟩
theorem op_post (hv50 : v + 20 ≤ 50) (hv : kdC v = .inl 8) (h7 : kdC (v + 7) = .inl 1) (hs : s < 1000) (hm : ∀ m, m < 2000 → A1.1 142 0 = nI m → m + 1 ≤ s) (hB : lvB v g0 μC μM 0 s A1 A2) {k : Nat} (hk : k < 60) {a b c : Int32} (h51 : A1.1 51 k = 16) (h52 : A1.1 52 k = a) (h53 : A1.1 53 k = b) (h54 : A1.1 54 k = c) (h0 : A2.1 1 (259 + 6 * k) = 16) (h1 : A2.1 1 (259 + 6 * k + 1) = a) (h2 : A2.1 1 (259 + 6 * k + 2) = b) (h3 : A2.1 1 (259 + 6 * k + 3) = c) (ha : inR a (cP g0)) (hb : inR b (cP g0)) (hc : wOk c) : ∃ d r m1 m2, ((r = 0 ∧ d = 1) ∨ (r = 1 ∧ d = 0)) ∧ fX2_behindStep rfC 142 v 50 (nI k) A1 = some (nI (k + 1), m1) ∧ fX12_does rfM 0 (nI (259 + 6 * k)) A2 = some (r, m2) ∧ opR v g0 μC μM A1 A2 s d m1 m2 := by
  have hB0 := hB
  obtain ⟨f1, f2, f3, f4, f5, f6, ⟨hw, hr, c1, c2, c3⟩, l1, l2, l3, l4, mm, l5, l6, l7⟩ := hB0
  rw [← c3] at ha hb
  have r11 : rfC v 11 = v + 3 := by rw [rf8 hv]; rfl
  have r15 : rfC v 15 = v + 7 := by rw [rf8 hv]; rfl
  have bW := hw.1.2.2.2.2.1.2
  have bP := hw.1.2.2.1.2
  have ew : A1.1 (v + 7) 0 = nI (cW (bV A1 v)) := hw.1.2.2.2.2.1.1
  have ew2 : A2.1 1 4 = nI (cW (bV A1 v)) := hr.1.2.2.2.2.1.trans hw.1.2.2.2.2.1.1
  obtain ⟨p, hp, hp2, rfl⟩ := rg_nI (x := a) (n := cP (bV A1 v)) ha
  have hhd : A2.1 1 (25 + p) = bV A1 v 3 p := hr.2.2.1 p hp
  unfold fX2_behindStep fX12_does fX12_postsBy fX2_postOne fX12_handOf
  rw [rc50_3, rc50_4, rc50_5, rc50_6, r15, r11]
  simp (disch := omega) only [nI_toInt, nI_clamp, p_ck, qm_0, qm_35, aR_1, aR_2, aR_3, aL_25, h51, h52, h53, h54, h0, h1, h2, h3, ew2, e1_full rfC A1 ew bW, p_bd, bI_if, hhd]
  rw [if_neg (show ¬ (16 : Int32) = 15 by decide), if_pos trivial, if_neg (show ¬ (16 : Int32) = 15 by decide), if_pos trivial]
  by_cases h12 : cW (bV A1 v) = 12
  · rw [if_pos h12, if_pos (by rw [h12]; rfl), p_seq, p_bd, p_bd]
    exact ⟨1, 0, _, _, Or.inl ⟨rfl, rfl⟩, rfl, rfl, lvB_ms hv50 hB hm hs, by rw [p_wI_o (by omega)], rfl, rfl⟩
  · rw [if_neg h12, if_neg (show ¬ nI (cW (bV A1 v)) = 12 by rw [show (12 : Int32) = nI 12 from rfl, nI_inj (by omega) (by omega)]; exact h12), e1_add h7 A1 ew (by omega), p_bd, p_seq, p_bd]
    obtain ⟨n2, d1, d2, d3, d4⟩ := e12_posts A2 ew2 (show cW (bV A1 v) < 12 by omega) (nI p) b c (bV A1 v 3 p)
    rw [d1, p_bd, p_seq, p_bd]
    have eb := bV_add A1 v 7 (cW (bV A1 v)) (nI p) b c (bV A1 v 3 p) (-1)
    have hl : letOk (bV A1 v) (nI p) b c (bV A1 v 3 p) := ⟨ha, hb, hc, hw.2.2.2.2.2.1 p hp⟩
    have fr : Fr v A1 A2 (addL A1 (v + 7) (cW (bV A1 v)) (nI p) b c (bV A1 v 3 p) (-1)) n2 := ⟨fun i hi => addL_o (by omega), rfl, d2, d3, fun q hq => by rw [d4]; exact aPost_o (by omega) (by omega)⟩
    have hB2 := lvB_fr hv50 hB fr (by rw [eb]; exact wf_post hw (by omega) hl) (by rw [eb, d4]; exact vR_post hw.1 hr (by omega)) (by rw [eb]; exact ⟨rfl, rfl, rfl⟩)
    have hy : n2.1 17 3 + 1 = (addL A1 (v + 7) (cW (bV A1 v)) (nI p) b c (bV A1 v 3 p) (-1)).1 142 3 + 1 := by rw [d2 17 (by omega), addL_o (by omega), l1 3 (by omega) (by omega)]
    rw [hy]
    refine ⟨0, 1, _, _, Or.inr ⟨rfl, rfl⟩, rfl, rfl, lvB_ct hv50 hB2 (j := 3) (by omega) (by omega) _, ?_, ?_, ?_⟩
    · rw [p_wI_o (by omega), addL_o (by omega)]
    · rw [p_wI_o (by omega)]; exact d2 16 (by omega)
    · rw [p_wI1, if_neg (by omega), d2 17 (by omega)]
theorem Fr_dr (hv50 : v + 20 ≤ 50) {A1 A2 : o_Mem} (x : Int32) : Fr v A1 A2 (o_wI A1 v 6 x) (o_wI A2 1 8 x) := ⟨fun i hi => p_wI_o (by omega), rfl, fun i hi => p_wI_o hi, rfl, fun k hk => u_ne (by omega)⟩
theorem lvB_dk (hv50 : v + 20 ≤ 50) (hB : lvB v g0 μC μM 0 s A1 A2) {x : Int32} (hx : x = 0 ∨ x = 1) : lvB v g0 μC μM 0 s (o_wI A1 v 6 x) (o_wI A2 1 8 x) := by
  have hB0 := hB
  obtain ⟨f1, f2, f3, f4, f5, f6, ⟨hw, hr, c1, c2, c3⟩, l1, l2, l3, l4, mm, l5, l6, l7⟩ := hB0
  exact lvB_fr hv50 hB (Fr_dr hv50 x) (by rw [bV_wv0]; exact wf_drunk hw hx) (by rw [bV_wv0]; exact vR_drunk hw.1 hr) (by rw [bV_wv0]; exact ⟨rfl, rfl, rfl⟩)
theorem op_drunk (hv50 : v + 20 ≤ 50) (hs : s < 1000) (hm : ∀ m, m < 2000 → A1.1 142 0 = nI m → m + 1 ≤ s) (hB : lvB v g0 μC μM 0 s A1 A2) {k : Nat} (hk : k < 60) {x y : Int32} (hxy : (x = 17 ∧ y = 1) ∨ (x = 18 ∧ y = 0)) (h51 : A1.1 51 k = x) (h0 : A2.1 1 (259 + 6 * k) = x) : ∃ d r m1 m2, ((r = 0 ∧ d = 1) ∨ (r = 1 ∧ d = 0)) ∧ fX2_behindStep rfC 142 v 50 (nI k) A1 = some (nI (k + 1), m1) ∧ fX12_does rfM 0 (nI (259 + 6 * k)) A2 = some (r, m2) ∧ opR v g0 μC μM A1 A2 s d m1 m2 := by
  have hB0 := hB
  obtain ⟨f1, f2, f3, f4, f5, f6, ⟨hw, hr, c1, c2, c3⟩, l1, l2, l3, l4, mm, l5, l6, l7⟩ := hB0
  have e8 : A2.1 1 8 = A1.1 v 6 := hr.1.2.2.2.2.2.2.2.2.1
  have hy01 : y = 0 ∨ y = 1 := by rcases hxy with h | h; exact Or.inr h.2; exact Or.inl h.2
  have key : ∃ d r m1 m2, ((r = 0 ∧ d = 1) ∨ (r = 1 ∧ d = 0)) ∧ fX2_become rfC 142 v y A1 = some ((), m1) ∧ fX12_isNowDrunk rfM 0 y A2 = some (r, m2) ∧ opR v g0 μC μM A1 A2 s d m1 m2 := by
    unfold fX2_become fX12_isNowDrunk fX12_isNowDrunk_j16
    rw [qm_0, e8]
    by_cases hq : A1.1 v 6 = y
    · rw [if_pos hq, if_pos hq, p_seq, p_seq, p_ck _ (Or.inl rfl), wI_same (e8.trans hq)]
      exact ⟨1, 0, _, _, Or.inl ⟨rfl, rfl⟩, rfl, rfl, lvB_ms hv50 hB hm hs, by rw [p_wI_o (by omega)], rfl, rfl⟩
    · rw [if_neg hq, if_neg hq, p_seq, p_ck _ hy01, p_seq, p_ck _ (Or.inr rfl)]
      exact ⟨0, 1, _, _, Or.inr ⟨rfl, rfl⟩, rfl, rfl, lvB_dk hv50 hB hy01, by rw [p_wI_o (by omega)], by rw [p_wI_o (by omega)], by rw [p_wI_o (by omega)]⟩
  obtain ⟨d, r, m1, m2, hdr, k1, k2, k3⟩ := key
  refine ⟨d, r, m1, m2, hdr, ?_, ?_, k3⟩
  · unfold fX2_behindStep
    rw [rc50_3]
    simp (disch := omega) only [nI_toInt, nI_clamp, p_ck, h51, aR_1]
    rcases hxy with ⟨rfl, rfl⟩ | ⟨rfl, rfl⟩
    · rw [if_neg (show ¬ (17 : Int32) = 15 by decide), if_neg (show ¬ (17 : Int32) = 16 by decide), if_pos rfl, k1, p_bd]
    · rw [if_neg (show ¬ (18 : Int32) = 15 by decide), if_neg (show ¬ (18 : Int32) = 16 by decide), if_neg (show ¬ (18 : Int32) = 17 by decide), if_pos rfl, k1, p_bd]
  · unfold fX12_does
    simp (disch := omega) only [nI_toInt, nI_clamp, p_ck, qm_0, h0]
    rcases hxy with ⟨rfl, rfl⟩ | ⟨rfl, rfl⟩
    · rw [if_neg (show ¬ (17 : Int32) = 15 by decide), if_neg (show ¬ (17 : Int32) = 16 by decide), if_pos rfl, k2, p_bd]
    · rw [if_neg (show ¬ (18 : Int32) = 15 by decide), if_neg (show ¬ (18 : Int32) = 16 by decide), if_neg (show ¬ (18 : Int32) = 17 by decide), if_pos rfl, k2, p_bd]
theorem op_any (hv50 : v + 20 ≤ 50) (hB : lvB v g0 μC μM 0 s A1 A2) {k : Nat} (hk : k < 60) (h51 : A1.1 51 k = 19) (h0 : A2.1 1 (259 + 6 * k) = 19) : ∃ m1 m2, fX2_behindStep rfC 142 v 50 (nI k) A1 = some (nI (k + 1), m1) ∧ fX12_does rfM 0 (nI (259 + 6 * k)) A2 = some (1, m2) ∧ opR v g0 μC μM A1 A2 s 0 m1 m2 := by
  have hB0 := hB
  obtain ⟨f1, f2, f3, f4, f5, f6, ⟨hw, hr, c1, c2, c3⟩, l1, l2, l3, l4, mm, l5, l6, l7⟩ := hB0
  have e6 : A2.1 1 6 = A1.1 v 4 := hr.1.2.2.2.2.2.2.1
  unfold fX2_behindStep fX12_does fX2_drawSixteenths fX12_draw
  rw [rc50_3]
  simp (disch := omega) only [nI_toInt, nI_clamp, p_ck, qm_0, h51, h0, aR_1]
  rw [if_neg (show ¬ (19 : Int32) = 15 by decide), if_neg (show ¬ (19 : Int32) = 16 by decide), if_neg (show ¬ (19 : Int32) = 17 by decide), if_neg (show ¬ (19 : Int32) = 18 by decide), if_pos trivial, if_neg (show ¬ (19 : Int32) = 15 by decide), if_neg (show ¬ (19 : Int32) = 16 by decide), if_neg (show ¬ (19 : Int32) = 17 by decide), if_neg (show ¬ (19 : Int32) = 18 by decide), if_pos trivial, l4, p_seq, p_seq, p_ck _ (show ¬ (16 : Int32) = 0 by decide), p_bd, p_bd]
  generalize A2.1 0 32 * 3041 + 11261 - (A2.1 0 32 * 3041 + 11261) / 65536 * 65536 = x
  have hB1 := lvB_dr hv50 hB x
  have z1 : (o_wI A1 142 6 x).1 142 6 = x := by rw [p_wI1, if_pos ⟨rfl, rfl⟩]
  have z2 : (o_wI A2 0 32 x).1 0 32 = x := by rw [p_wI1, if_pos ⟨rfl, rfl⟩]
  have z3 : (o_wI A1 142 6 x).1 v 4 = A1.1 v 4 := by rw [p_wI_o (by omega)]
  have z4 : (o_wI A2 0 32 x).1 1 6 = A1.1 v 4 := by rw [p_wI_o (by omega)]; exact e6
  rw [z1, z2, z3, z4]
  unfold fX2_behindStep_j188 fX12_does_j121
  by_cases hq : A1.1 v 4 ≤ x / 8 - x / 8 / 16 * 16
  · rw [if_pos hq, if_pos hq, p_ck _ (Or.inl rfl), p_seq, p_ck _ (by decide), show (8 : Int32).toNatClampNeg = 8 from rfl, p_seq, aR_1]
    exact ⟨_, _, rfl, rfl, lvB_dk hv50 hB1 (Or.inl rfl), by rw [p_wI_o (by omega), p_wI_o (by omega)], by rw [p_wI_o (by omega), p_wI_o (by omega)], by rw [p_wI_o (by omega), p_wI_o (by omega)]⟩
  · rw [if_neg hq, if_neg hq, p_ck _ (Or.inr rfl), p_seq, p_ck _ (by decide), show (8 : Int32).toNatClampNeg = 8 from rfl, p_seq, aR_1]
    exact ⟨_, _, rfl, rfl, lvB_dk hv50 hB1 (Or.inr rfl), by rw [p_wI_o (by omega), p_wI_o (by omega)], by rw [p_wI_o (by omega), p_wI_o (by omega)], by rw [p_wI_o (by omega), p_wI_o (by omega)]⟩
end op
