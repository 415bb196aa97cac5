/-! ===== lawsUsed; the FRACTION and sure ===== -/
theorem g_or (a b : Nat) : nI a ||| nI b = nI (a ||| b) := by
  apply Int32.toBitVec_inj.mp
  rw [Int32.toBitVec_or]
  apply BitVec.eq_of_toNat_eq
  rw [BitVec.toNat_or]
  show (BitVec.ofNat 32 a).toNat ||| (BitVec.ofNat 32 b).toNat = (BitVec.ofNat 32 (a ||| b)).toNat
  rw [BitVec.toNat_ofNat, BitVec.toNat_ofNat, BitVec.toNat_ofNat, Nat.or_mod_two_pow]
theorem g_shl : ∀ l, l < 8 → (1 : Int32) <<< (nI l &&& 31) = nI (2 ^ l) := by decide +kernel
def orS (o : Option Nat) (a : Int32) : Int32 := match o with
  | none => a
  | some l => a ||| (1 <<< (nI l &&& 31))
theorem orS_ok {o : Option Nat} (ho : ∀ l, o = some l → l < 8) {j : Nat} (hj : j < 256) : ∃ i, i < 256 ∧ orS o (nI j) = nI i := by
  cases o with
  | none => exact ⟨j, hj, rfl⟩
  | some l =>
    have hl := ho l rfl
    refine ⟨j ||| 2 ^ l, ?_, ?_⟩
    · have h2 : 2 ^ l < 2 ^ 8 := Nat.pow_lt_pow_right (by omega) hl
      exact Nat.or_lt_two_pow (n := 8) hj h2
    · show nI j ||| (1 <<< (nI l &&& 31)) = _
      rw [g_shl l hl, g_or]
theorem acc_or {q : Nat → Option Nat} : ∀ (n k : Nat) (j : Nat), j < 256 → (∀ i, k ≤ i → i < k + n → ∀ l, q i = some l → l < 8) → ∃ i, i < 256 ∧ accN (fun k a => orS (q k) a) n k (nI j) = nI i
  | 0, _, j, hj, _ => ⟨j, hj, rfl⟩
  | n + 1, k, j, hj, h => by
    obtain ⟨i, hi, e⟩ := orS_ok (h k (Nat.le_refl _) (by omega)) hj
    show ∃ i, i < 256 ∧ accN (fun k a => orS (q k) a) n (k + 1) (orS (q k) (nI j)) = nI i
    rw [e]
    exact acc_or n (k + 1) i hi (fun i h1 h2 => h i (by omega) (by omega))
section lu
variable {μC μM : o_Mem}
theorem pu_lawsUsed (h : Inv μC μM) : o_Eq2 (fX11_lawsUsed rfC 0 μC) (fX12_lawsUsed rfM 0 μM) Inv := by
  obtain ⟨hw, hr⟩ := Inv_v h
  have b := hw.1.2.2.2.2.2.2
  have bL := hw.1.2.2.2.1.2
  have e : μC.1 23 0 = nI (cC (bV μC 10)) := hw.1.2.2.2.2.2.1
  have e' : μM.1 1 5 = nI (cC (bV μC 10)) := hr.1.2.2.2.2.2.1.trans hw.1.2.2.2.2.2.1
  let q : Nat → Option Nat := fun k => fstFit (bV μC 10) (μC.1 24 k) (μC.1 25 k) (μC.1 26 k) (μC.1 27 k)
  have hq : ∀ i l, q i = some l → l < 8 := fun i l hl => by have := fstFit_lt hl; omega
  have kC := lp_acc (head := 4) (e := 91) (step := fX11_lawsUsed_s4 rfC 0) (μ := μC) (fun k a => orS (q k) a) (N := cC (bV μC 10)) (k0 := 0) (fun l _ hl a => by
      unfold fX11_lawsUsed_s4
      rw [rc0_4, rc10_16, e, if_neg (nI_ge hl (by omega))]
      simp (disch := omega) only [rc23_1, rc23_2, rc23_3, rc23_4, nI_toInt, nI_clamp, p_ck, aR_1, e8_firstFit k10 _ _ _ _ μC hw.1, p_bd]
      show (if oI (q l) = -1 then some ((4, (a, nI (l + 1))), μC) else some ((4, (a ||| (1 <<< (oI (q l) &&& 31)), nI (l + 1))), μC)) = some ((4, (orS (q l) a, nI (l + 1))), μC)
      cases hql : q l with
      | none => rfl
      | some i => rw [show oI (some i) = nI i from rfl, if_neg (nI_nm1 (by have := hq l i hql; omega))]; rfl)
    (fun a => by unfold fX11_lawsUsed_s4; rw [rc0_4, rc10_16, e, if_pos (nI_le (Nat.le_refl _) (by omega))]) (by decide) (cC (bV μC 10)) 0 0 (Nat.le_refl _) (by omega)
  have kM := lp_acc (head := 4) (e := 78) (step := fX12_lawsUsed_s4 rfM 0) (μ := μM) (fun k a => orS (q k) a) (N := cC (bV μC 10)) (k0 := 0) (fun l _ hl a => by
      have q0 := hr.2.2.2.2.2.2 l 0 hl (by omega)
      have q1 := hr.2.2.2.2.2.2 l 1 hl (by omega)
      have q2 := hr.2.2.2.2.2.2 l 2 hl (by omega)
      have q3 := hr.2.2.2.2.2.2 l 3 hl (by omega)
      rw [Nat.add_zero] at q0
      unfold fX12_lawsUsed_s4 fX12_lawsUsed_j70 fX12_coverRow
      rw [rm_0, e', if_neg (nI_ge hl (by omega))]
      simp (disch := omega) only [mL_5, aL_199, aR_1, aR_2, aR_3, nI_toInt, nI_clamp, p_ck, q0, q1, q2, q3, e12_firstLaw _ _ _ _ hw.1 hr, p_bd, o_or0]
      show (if oI (q l) = -1 then some ((4, (a, nI (l + 1))), μM) else some ((4, (a ||| (1 <<< (oI (q l) &&& 31)), nI (l + 1))), μM)) = some ((4, (orS (q l) a, nI (l + 1))), μM)
      cases hql : q l with
      | none => rfl
      | some i => rw [show oI (some i) = nI i from rfl, if_neg (nI_nm1 (by have := hq l i hql; omega))]; rfl)
    (fun a => by unfold fX12_lawsUsed_s4; rw [rm_0, e', if_pos (nI_le (Nat.le_refl _) (by omega))]) (by decide) (cC (bV μC 10)) 0 0 (Nat.le_refl _) (by omega)
  obtain ⟨i, hi, ei⟩ := acc_or (q := q) (cC (bV μC 10)) 0 0 (by omega) (fun i _ _ l hl => hq i l hl)
  have ei' : accN (fun k a => orS (q k) a) (cC (bV μC 10)) 0 0 = nI i := ei
  rw [ei'] at kC kM
  unfold fX11_lawsUsed fX12_lawsUsed
  rw [show o_lp 4 (fX11_lawsUsed_s4 rfC 0) o_fuel (0, 0) μC = _ from p_lp kC (by omega), show o_lp 4 (fX12_lawsUsed_s4 rfM 0) o_fuel (0, 0) μM = _ from p_lp kM (by omega), p_bd, p_bd, if_pos rfl, if_pos rfl, bcE_eq, p_bd, e12_bits hi, p_bd]
  exact eq2_st h _ _ rfl rfl
end lu
/-! Euclid -/
def eN : Nat → Nat → Nat → Option Nat
  | 0, _, _ => none
  | n + 1, a, b => if a = 0 then some b else eN n (b % a) a
theorem eN_gcd : ∀ (n a b c : Nat), eN n a b = some c → c = Nat.gcd a b
  | 0, _, _, _, h => by cases h
  | n + 1, a, b, c, h => by
    unfold eN at h
    by_cases ha : a = 0
    · rw [if_pos ha] at h; cases h; subst ha; exact (Nat.gcd_zero_left _).symm
    · rw [if_neg ha] at h
      have := eN_gcd n (b % a) a c h
      rw [this, ← Nat.gcd_rec]
theorem eN_some : ∀ (n a b : Nat), a < n → ∃ c, eN n a b = some c
  | 0, _, _, h => by omega
  | n + 1, a, b, h => by
    unfold eN
    by_cases ha : a = 0
    · exact ⟨b, by rw [if_pos ha]⟩
    · rw [if_neg ha]
      exact eN_some n (b % a) a (by have := Nat.mod_lt b (Nat.pos_of_ne_zero ha); omega)
theorem eN_some2 {n a b : Nat} (h : b < n) : ∃ c, eN (n + 1) a b = some c := by
  unfold eN
  by_cases ha : a = 0
  · exact ⟨b, by rw [if_pos ha]⟩
  · rw [if_neg ha]
    exact eN_some n (b % a) a (by have := Nat.mod_le b a; omega)
theorem lN_pos {a : Nat} (h0 : 0 < a) (h : a < 2 ^ 63) : ¬ lN a ≤ 0 := by
  rw [show (0 : Int64) = lN 0 from rfl, pk_lLE h (by omega)]; omega
theorem lN_ne0 {a : Nat} (h0 : 0 < a) (h : a < 2 ^ 63) : ¬ lN a = 0 := by
  rw [show (0 : Int64) = lN 0 from rfl, pk_lEQ h (by omega)]; omega
theorem cd_lp (rf : Nat → Nat → Nat) (μ : o_Mem) : ∀ (n a b c r : Nat), eN n a b = some c → a < 2 ^ 62 → b < 2 ^ 62 → r + n ≤ 100 → o_lp 19 (fX11_commonDivisor_s19 rf) n (lN a, lN b, nI r) μ = some ((54, (0, lN c, 0)), μ)
  | 0, _, _, _, _, h, _, _, _ => by cases h
  | n + 1, a, b, c, r, h, ha, hb, hr => by
    unfold eN at h
    have h100 : ¬ (100 : Int32) ≤ nI r := by rw [i32_le, c32_100, nI_toInt (by omega)]; omega
    by_cases h0 : a = 0
    · rw [if_pos h0] at h
      cases h
      subst h0
      refine p_lp_exit ?_ (by decide)
      unfold fX11_commonDivisor_s19
      rw [if_neg h100, if_pos (show lN 0 ≤ 0 by decide)]
    · rw [if_neg h0] at h
      have hs : fX11_commonDivisor_s19 rf (lN a, lN b, nI r) μ = some ((19, (lN (b % a), lN a, nI (r + 1))), μ) := by
        unfold fX11_commonDivisor_s19
        rw [if_neg h100, if_neg (lN_pos (by omega) (by omega)), p_ck _ (lN_ne0 (by omega) (by omega))]
        show some ((19, (lN b - lN b / lN a * lN a, lN a, nI r + 1)), μ) = _
        rw [pk_lRem (by omega) (by omega) (by omega), aR_1]
      rw [p_lp_next hs]
      exact cd_lp rf μ n (b % a) a c (r + 1) h (by have := Nat.mod_le b a; omega) ha (by omega)
theorem e11_cd (rf : Nat → Nat → Nat) (μ : o_Mem) {a b : Nat} (ha : a < 2 ^ 62) (hb : 0 < b) (hb2 : b < 90) : fX11_commonDivisor rf (lN a) (lN b) μ = some (lN (Nat.gcd a b), μ) := by
  obtain ⟨c, hc⟩ := eN_some2 (n := 99) (a := a) (b := b) (by omega)
  have hg := eN_gcd _ _ _ _ hc
  unfold fX11_commonDivisor
  rw [if_pos (show (1 : Int64) ≤ lN b by rw [show (1 : Int64) = lN 1 from rfl, pk_lLE (by omega) (by omega)]; omega), show o_lp 19 (fX11_commonDivisor_s19 rf) o_fuel (lN a, lN b, 0) μ = _ from p_lp (cd_lp rf μ 100 a b c 0 hc ha (by omega) (by omega)) (by omega), p_bd, hg]
  rfl
theorem tb_lp (rf : Nat → Nat → Nat) (o : Nat) (x y : Int64) (μ : o_Mem) : ∀ (n a b c : Nat), eN n b a = some c → a < 2 ^ 62 → b < 2 ^ 62 → o_lp 6 (fX12_tellsBy_s6 rf o x y) n (lN a, lN b) μ = some ((31, (lN c, 0)), μ)
  | 0, _, _, _, h, _, _ => by cases h
  | n + 1, a, b, c, h, ha, hb => by
    unfold eN at h
    by_cases h0 : b = 0
    · rw [if_pos h0] at h
      cases h
      subst h0
      refine p_lp_exit ?_ (by decide)
      unfold fX12_tellsBy_s6
      rw [if_pos (show (lN a, lN 0).2 = 0 from rfl)]
    · rw [if_neg h0] at h
      have hs : fX12_tellsBy_s6 rf o x y (lN a, lN b) μ = some ((6, (lN b, lN (a % b))), μ) := by
        unfold fX12_tellsBy_s6
        rw [if_neg (show ¬ (lN a, lN b).2 = 0 from lN_ne0 (by omega) (by omega)), p_ck _ (lN_ne0 (by omega) (by omega))]
        show some ((6, (lN b, lN a - lN a / lN b * lN b)), μ) = _
        rw [pk_lRem (by omega) (by omega) (by omega)]
      rw [p_lp_next hs]
      exact tb_lp rf o x y μ n b (a % b) c h hb (by have := Nat.mod_le a b; omega)
theorem gcd_pos' {a b : Nat} (hb : 0 < b) (hb2 : b < 90) : 0 < Nat.gcd a b ∧ Nat.gcd a b < 90 := ⟨Nat.gcd_pos_of_pos_right _ hb, by have := Nat.gcd_le_right a hb; omega⟩
theorem mx_l {g : Nat} (h0 : 0 < g) (h : g < 90) : (if lN g < (1 : Int64) then (1 : Int64) else lN g) = lN g := if_neg (by rw [show (1 : Int64) = lN 1 from rfl, pk_lLT (by omega) (by omega)]; omega)
theorem e11_setFr (rf : Nat → Nat → Nat) (μ : o_Mem) {a b : Nat} (ha : a < 2 ^ 62) (hb : 0 < b) (hb2 : b < 90) : fX11_setFraction rf 0 (lN a) (lN b) μ = some ((), o_wL (o_wL μ 0 1 (lN a / lN (Nat.gcd a b))) 0 2 (lN b / lN (Nat.gcd a b))) := by
  have hg := gcd_pos' (a := a) hb hb2
  unfold fX11_setFraction
  rw [e11_cd rf μ ha hb hb2, p_bd, mx_l hg.1 hg.2, p_ck _ (lN_ne0 hg.1 (by omega)), p_seq, p_ck _ (lN_ne0 hg.1 (by omega)), p_seq]
theorem e12_tellsBy (rf : Nat → Nat → Nat) (μ : o_Mem) {a b : Nat} (ha : a < 2 ^ 62) (hb : 0 < b) (hb2 : b < 90) : fX12_tellsBy rf 0 (lN a) (lN b) μ = some (1, o_wI (o_wL (o_wL μ 0 3 (lN a / lN (Nat.gcd a b))) 0 4 (lN b / lN (Nat.gcd a b))) 0 2 0) := by
  have hg := gcd_pos' (a := a) hb hb2
  obtain ⟨c, hc⟩ := eN_some 100 b a (by omega)
  have hg2 := eN_gcd _ _ _ _ hc
  rw [Nat.gcd_comm] at hg2
  unfold fX12_tellsBy
  rw [p_lp (tb_lp rf 0 (lN a) (lN b) μ 100 a b c hc ha (by omega)) (by omega), p_bd, if_pos rfl, hg2]
  show o_ck (¬ lN (Nat.gcd a b) = 0) _ = _
  rw [p_ck _ (lN_ne0 hg.1 (by omega)), p_seq]
  show o_ck (¬ lN (Nat.gcd a b) = 0) _ = _
  rw [p_ck _ (lN_ne0 hg.1 (by omega)), p_seq, e12_is, p_bd]
  rfl
theorem Inv_fr {μC μM : o_Mem} (x y : Int64) (h : Inv μC μM) : Inv (o_wL (o_wL μC 0 1 x) 0 2 y) (o_wL (o_wL μM 0 3 x) 0 4 y) := by
  refine Inv_c (μC := μC) (μM := μM) ?_ (fun i p q => ⟨rfl, ?_⟩) rfl (fun i p q => ⟨rfl, ?_⟩) (fun k p => rfl) h
  · obtain ⟨⟨a1, a2, a3⟩, -⟩ := h
    refine ⟨a1, ?_, ?_⟩
    · simp [p_wL2]
    · simp [p_wL2]
  · funext k; rw [p_wL2, p_wL2, if_neg (by omega), if_neg (by omega)]
  · funext k; rw [p_wL2, p_wL2, if_neg (by omega), if_neg (by omega)]
section su
variable {μC μM : o_Mem}
theorem eq2_fr {b : Nat} (hb : 0 < b) (hb2 : b < 90) {a : Nat} (ha : a < 2 ^ 62) (h : Inv μC μM) {x y : Option (Int32 × o_Mem)} (hx : x = o_bd (fX11_setFraction rfC 0 (lN a) (lN b) μC) fun _ μ1 => o_bd (fX11_ends rfC 0 0 μ1) fun r μ2 => some (r, μ2)) (hy : y = fX12_tellsBy rfM 0 (lN a) (lN b) μM) : o_Eq2 x y Inv := by
  rw [hx, hy, e11_setFr rfC μC ha hb hb2, e12_tellsBy rfM μM ha hb hb2, p_bd, e11_ends, p_bd]
  exact ⟨1, _, _, rfl, rfl, Inv_st 0 (Inv_fr _ _ h)⟩
theorem pu_sure (h : Inv μC μM) (f t w k s : Int32) : o_Eq2 (fX11_sure rfC 0 f t w k s μC) (fX12_sure rfM 0 f t w k s μM) Inv := by
  obtain ⟨hw, hr⟩ := Inv_v h
  have ho := hw.2.1
  have e' : μM.1 1 6 = μC.1 10 4 := hr.1.2.2.2.2.2.2.1
  obtain ⟨q, hq, hq2, eq⟩ := rg_nI (x := μC.1 10 4) (n := 17) ⟨ho.1, by have h9 : (μC.1 10 4).toInt ≤ 16 := ho.2; omega⟩
  have hsub : (16 : Int32) - nI q = nI (16 - q) := pk_sub (a := 16) (by omega)
  unfold fX11_sure fX12_sure fX11_sure_j28 fX12_sure_j22 fX11_sure_j73 fX12_sure_j61 fX11_sure_j99 fX12_sure_j83
  rw [rc0_4, e8_isLetter rfC hw.1, e12_isMail hw.1 hr, p_bd, p_bd, bI_if, bI_if, e8_isStrike rfC hw.1, e12_isStrike hw.1 hr, p_bd, p_bd, bI_if, bI_if, e8_sober k10 f t w k μC hw.1, e12_sober f t w k hw.1 hr, p_bd, p_bd, e8_behind, e12_drunk _ hw.1 hr (sob_ok hw f t w k), p_bd, p_bd, rm_0, e', eq, hsub]
  by_cases hm : mailP (bV μC 10) f t w k
  · rw [if_pos hm, if_pos hm]
    by_cases hs : rg s (cS (bV μC 10))
    · rw [if_pos hs, if_pos hs]
      have z0 : ∀ n : Nat, (0 : Int32) + nI n = nI n := fun n => by rw [show (0 : Int32) = nI 0 from rfl, nI_add, Nat.zero_add]
      have z1 : ∀ n : Nat, nI n + (0 : Int32) = nI n := fun n => by rw [show (0 : Int32) = nI 0 from rfl, nI_add, Nat.add_zero]
      have z2 : ∀ n : Nat, n < 100 → (nI n).toInt64 = lN n := fun n hn => nI_l (by omega)
      have fin : ∀ n : Nat, n < 100 → o_Eq2 (o_bd (fX11_setFraction rfC 0 (nI n).toInt64 16 μC) fun _u μ1 => o_bd (fX11_ends rfC 0 0 μ1) fun r1 μ2 => some (r1, μ2)) (o_bd (fX12_tellsBy rfM 0 (nI n).toInt64 16 μM) fun r1 μ1 => some (r1, μ1)) Inv := fun n hn => by
        rw [z2 n hn]
        refine eq2_fr (b := 16) (by omega) (by omega) (a := n) (by omega) h rfl ?_
        rw [show (16 : Int64) = lN 16 from rfl, e12_tellsBy rfM μM (by omega) (by omega) (by omega)]
        rfl
      by_cases h1 : sob (bV μC 10) f t w k = s
      · rw [if_pos h1, if_pos h1]
        by_cases h2 : drk (bV μC 10) (sob (bV μC 10) f t w k) = s
        · rw [if_pos h2, p_bd, if_pos h2, e', eq, z0, nI_add]; exact fin _ (by omega)
        · rw [if_neg h2, p_bd, if_neg h2, z0, z1]; exact fin _ (by omega)
      · rw [if_neg h1, if_neg h1]
        by_cases h2 : drk (bV μC 10) (sob (bV μC 10) f t w k) = s
        · rw [if_pos h2, p_bd, if_pos h2, e', eq, z0]; exact fin _ (by omega)
        · rw [if_neg h2, p_bd, if_neg h2]; exact fin 0 (by omega)
    · rw [if_neg hs, if_neg hs]; rw [e11_ends, e12_is, p_bd, p_bd]; exact eq2_st h _ _ rfl rfl
  · rw [if_neg hm, if_neg hm]; rw [e11_ends, e12_is, p_bd, p_bd]; exact eq2_st h _ _ rfl rfl
end su
