/-! ===== the tape: feed; which LAWS are never first: idle ===== -/
theorem i8_rng (y : Int8) : -128 ≤ y.toInt32.toInt ∧ y.toInt32.toInt < 128 := by
  rw [Int8.toInt_toInt32]
  have h1 := Int8.minValue_le_toInt y
  have h2 := Int8.toInt_le y
  rw [show Int8.minValue.toInt = -128 by decide] at h1
  rw [show Int8.maxValue.toInt = 127 by decide] at h2
  omega
def tpR (μC μM : o_Mem) (n : Nat) (μ1 μ2 : o_Mem) : Prop := (μ1.1 137 1 = nI n ∧ μ2.1 0 10 = nI n ∧ ∀ k, k < n → μ1.1 138 k = μ2.1 6 k ∧ -128 ≤ (μ1.1 138 k).toInt ∧ (μ1.1 138 k).toInt < 128) ∧ (∀ i, i ≠ 137 → i ≠ 138 → μ1.1 i = μC.1 i) ∧ (∀ k, k ≠ 1 → μ1.1 137 k = μC.1 137 k) ∧ μ1.2 = μC.2 ∧ (∀ i, i ≠ 0 → i ≠ 6 → μ2.1 i = μM.1 i) ∧ (∀ k, k ≠ 10 → μ2.1 0 k = μM.1 0 k) ∧ μ2.2 = μM.2
section fd
variable {μC μM : o_Mem}
theorem fd_one {n : Nat} (hn : n < 900) {μ1 μ2 : o_Mem} (x τ : Int32) (h0 : ¬ τ < 0) (hR : tpR μC μM n μ1 μ2) : ∃ m1 m2, fX4_append_s3 rfC 137 x τ μ1 = some ((3, τ + -8), m1) ∧ fX12_four_s3 rfM 0 x τ μ2 = some ((3, τ + -8), m2) ∧ tpR μC μM (n + 1) m1 m2 := by
  obtain ⟨⟨a1, a2, a3⟩, b1, b2, b3, b4, b5, b6⟩ := hR
  unfold fX4_append_s3 fX12_four_s3
  rw [if_neg h0, if_neg h0, a1, a2, if_neg (show ¬ (900 : Int32) ≤ nI n by rw [show (900 : Int32) = nI 900 from rfl, n_le (by omega) (by omega)]; omega), rc137_0, rm_8]
  simp (disch := omega) only [nI_toInt, nI_clamp, p_ck, p_seq]
  have e1 : ∀ y : Int32, (o_wI μ1 138 n y).1 137 1 = nI n := fun y => by rw [p_wI_o (by omega)]; exact a1
  have e2 : ∀ y : Int32, (o_wI μ2 6 n y).1 0 10 = nI n := fun y => by rw [p_wI_o (by omega)]; exact a2
  rw [e1, e2, aR_1]
  refine ⟨_, _, rfl, rfl, ⟨by rw [p_wI1, if_pos ⟨rfl, rfl⟩], by rw [p_wI1, if_pos ⟨rfl, rfl⟩], fun k hk => ?_⟩, fun i h1 h2 => by rw [p_wI_o h1, p_wI_o h2]; exact b1 i h1 h2, fun k hk => by rw [p_wI1, if_neg (fun z => hk z.2), p_wI_o (by omega)]; exact b2 k hk, b3, fun i h1 h2 => by rw [p_wI_o h1, p_wI_o h2]; exact b4 i h1 h2, fun k hk => by rw [p_wI1, if_neg (fun z => hk z.2), p_wI_o (by omega)]; exact b5 k hk, b6⟩
  rw [p_wI_o (show (138 : Nat) ≠ 137 by omega), p_wI_o (show (6 : Nat) ≠ 0 by omega), p_wI1, p_wI1]
  by_cases e : k = n
  · rw [if_pos ⟨rfl, e⟩, if_pos ⟨rfl, e⟩]
    exact ⟨rfl, i8_rng _⟩
  · rw [if_neg (fun z => e z.2), if_neg (fun z => e z.2)]
    exact a3 k (by omega)
theorem fd_four {n : Nat} (hn : n + 4 ≤ 900) {μ1 μ2 : o_Mem} (x : Int32) (hR : tpR μC μM n μ1 μ2) : ∃ m1 m2, fX4_append rfC 137 x μ1 = some ((), m1) ∧ fX12_four rfM 0 x μ2 = some ((), m2) ∧ tpR μC μM (n + 4) m1 m2 := by
  obtain ⟨p1, q1, e1, f1, r1⟩ := fd_one (by omega) x 24 (by decide) hR
  obtain ⟨p2, q2, e2, f2, r2⟩ := fd_one (by omega) x (24 + -8) (by decide) r1
  obtain ⟨p3, q3, e3, f3, r3⟩ := fd_one (by omega) x (24 + -8 + -8) (by decide) r2
  obtain ⟨p4, q4, e4, f4, r4⟩ := fd_one (by omega) x (24 + -8 + -8 + -8) (by decide) r3
  refine ⟨p4, q4, ?_, ?_, r4⟩
  · unfold fX4_append
    have h5 : o_lp 3 (fX4_append_s3 rfC 137 x) (0 + 1) (24 + -8 + -8 + -8 + -8) p4 = some ((46, 0), p4) := p_lp_exit (by unfold fX4_append_s3; rw [if_pos (by decide)]) (by decide)
    have h4 := (p_lp_next (n := 0 + 1) e4).trans h5
    have h3 := (p_lp_next (n := 0 + 1 + 1) e3).trans h4
    have h2 := (p_lp_next (n := 0 + 1 + 1 + 1) e2).trans h3
    have h1 := (p_lp_next (n := 0 + 1 + 1 + 1 + 1) e1).trans h2
    rw [p_lp h1 (by omega), p_bd, if_pos rfl]
  · unfold fX12_four
    have h5 : o_lp 3 (fX12_four_s3 rfM 0 x) (0 + 1) (24 + -8 + -8 + -8 + -8) q4 = some ((36, 0), q4) := p_lp_exit (by unfold fX12_four_s3; rw [if_pos (by decide)]) (by decide)
    have h4 := (p_lp_next (n := 0 + 1) f4).trans h5
    have h3 := (p_lp_next (n := 0 + 1 + 1) f3).trans h4
    have h2 := (p_lp_next (n := 0 + 1 + 1 + 1) f2).trans h3
    have h1 := (p_lp_next (n := 0 + 1 + 1 + 1 + 1) f1).trans h2
    rw [p_lp h1 (by omega), p_bd, if_pos rfl]
theorem pu_feed (h : Inv μC μM) (a b c d e : Int32) : o_Eq2 (fX11_feed rfC 0 a b c d e μC) (fX12_feed rfM 0 a b c d e μM) Inv := by
  obtain ⟨n, hn, t1, t2, t3⟩ := h.2.2.1
  unfold fX11_feed fX12_feed fX4_hasSpace
  rw [rc0_11, t1, t2, show (20 : Int32) = nI 20 from rfl, nI_add', show (900 : Int32) = nI 900 from rfl]
  by_cases h9 : n + 20 ≤ 900
  · rw [if_neg (show ¬ nI 900 < nI (n + 20) by rw [n_lt (by omega) (by omega)]; omega), if_pos (show nI (n + 20) ≤ nI 900 by rw [n_le (by omega) (by omega)]; omega), p_bd, if_neg (by decide)]
    have r0 : tpR μC μM n μC μM := ⟨⟨t1, t2, t3⟩, fun _ _ _ => rfl, fun _ _ => rfl, rfl, fun _ _ _ => rfl, fun _ _ => rfl, rfl⟩
    obtain ⟨p1, q1, e1, f1, r1⟩ := fd_four (by omega) a r0
    obtain ⟨p2, q2, e2, f2, r2⟩ := fd_four (by omega) b r1
    obtain ⟨p3, q3, e3, f3, r3⟩ := fd_four (by omega) c r2
    obtain ⟨p4, q4, e4, f4, r4⟩ := fd_four (by omega) d r3
    obtain ⟨p5, q5, e5, f5, r5⟩ := fd_four (by omega) e r4
    rw [e1, f1, p_bd, p_bd, e2, f2, p_bd, p_bd, e3, f3, p_bd, p_bd, e4, f4, p_bd, p_bd, e5, f5, p_bd, p_bd]
    obtain ⟨⟨u1, u2, u3⟩, b1, b2, b3, b4, b5, b6⟩ := r5
    rw [u1, u2]
    obtain ⟨a1, a2, a3, a4, a5, a6, a7⟩ := h
    refine ⟨_, _, _, rfl, rfl, ⟨by rw [b1 0 (by omega) (by omega), b5 2 (by omega)]; exact a1.1, by rw [b3, b6]; exact a1.2.1, by rw [b3, b6]; exact a1.2.2⟩, ?_, ⟨n + 4 + 4 + 4 + 4 + 4, by omega, u1, u2, u3⟩, ?_, ?_, ?_, ?_⟩
    · exact iTr_c (fun i p q => ⟨b1 i (by omega) (by omega), by rw [b3]⟩) (b4 3 (by omega) (by omega)) (b4 4 (by omega) (by omega)) (by rw [b6]) a2
    · exact ⟨by rw [b2 2 (by omega), b5 16 (by omega)]; exact a4.1, by rw [b2 3 (by omega), b5 17 (by omega)]; exact a4.2⟩
    · exact slR_c (fun i p q => ⟨b1 i (by omega) (by omega), by rw [b3]⟩) (fun i p q => b1 i (by omega) (by omega)) (fun k p q => by rw [b4 1 (by omega) (by omega)]) (fun k p q => by rw [b6]) a5
    · exact iMk_c (by rw [b1 0 (by omega) (by omega)]) (fun i p q => ⟨b1 i (by omega) (by omega), by rw [b3]⟩) (b5 38 (by omega)) (fun k p q => by rw [b4 1 (by omega) (by omega)]) (fun k p q => by rw [b6]) a6
    · unfold iLv at a7 ⊢; rw [b1 144 (by omega) (by omega), b5 37 (by omega), b4 18 (by omega) (by omega)]; exact a7
  · rw [if_pos (show nI 900 < nI (n + 20) by rw [n_lt (by omega) (by omega)]; omega), if_neg (show ¬ nI (n + 20) ≤ nI 900 by rw [n_le (by omega) (by omega)]; omega), p_bd, if_pos rfl]
    exact eq2_id h _ rfl rfl
end fd
/-! bits -/
theorem bt_1 (S A B : Int32) : (S &&& (A ^^^ -1)) &&& (B ^^^ -1) = S &&& ((A ||| B) ^^^ -1) := by
  apply Int32.toBitVec_inj.mp
  simp only [Int32.toBitVec_and, Int32.toBitVec_xor, Int32.toBitVec_or]
  rw [show (-1 : Int32).toBitVec = BitVec.allOnes 32 from rfl]
  ext i hi
  simp only [BitVec.getElem_and, BitVec.getElem_xor, BitVec.getElem_or, BitVec.getElem_allOnes]
  cases S.toBitVec[i] <;> cases A.toBitVec[i] <;> cases B.toBitVec[i] <;> rfl
theorem bt_2 (S : Int32) : S &&& (0 ^^^ -1) = S := by
  apply Int32.toBitVec_inj.mp
  simp only [Int32.toBitVec_and, Int32.toBitVec_xor]
  rw [show (-1 : Int32).toBitVec = BitVec.allOnes 32 from rfl, show (0 : Int32).toBitVec = 0#32 from rfl]
  ext i hi
  simp only [BitVec.getElem_and, BitVec.getElem_xor, BitVec.getElem_allOnes, BitVec.getElem_zero]
  cases S.toBitVec[i] <;> rfl
theorem bt_3 (S : Int32) : S &&& (S ^^^ -1) = 0 := by
  apply Int32.toBitVec_inj.mp
  simp only [Int32.toBitVec_and, Int32.toBitVec_xor]
  rw [show (-1 : Int32).toBitVec = BitVec.allOnes 32 from rfl, show (0 : Int32).toBitVec = 0#32 from rfl]
  ext i hi
  simp only [BitVec.getElem_and, BitVec.getElem_xor, BitVec.getElem_allOnes, BitVec.getElem_zero]
  cases S.toBitVec[i] <;> rfl
theorem bt_4 (S : Int32) : S &&& S = S := by
  apply Int32.toBitVec_inj.mp
  simp only [Int32.toBitVec_and]
  ext i hi
  simp only [BitVec.getElem_and]
  cases S.toBitVec[i] <;> rfl
theorem bt_5 (S : Int32) : 0 &&& S = 0 := by
  apply Int32.toBitVec_inj.mp
  simp only [Int32.toBitVec_and]
  rw [show (0 : Int32).toBitVec = 0#32 from rfl]
  ext i hi
  simp only [BitVec.getElem_and, BitVec.getElem_zero]
  cases S.toBitVec[i] <;> rfl
def anS' (o : Option Nat) (S : Int32) : Int32 := match o with
  | none => S
  | some l => S &&& ((1 <<< (nI l &&& 31)) ^^^ -1)
theorem an_or {F G : Nat → Int32 → Int32} {S : Int32} : ∀ (n k : Nat) (A : Int32), (∀ j A, k ≤ j → j < k + n → G j (S &&& (A ^^^ -1)) = S &&& (F j A ^^^ -1)) → accN G n k (S &&& (A ^^^ -1)) = S &&& (accN F n k A ^^^ -1)
  | 0, _, _, _ => rfl
  | n + 1, k, A, h => by
    show accN G n (k + 1) (G k (S &&& (A ^^^ -1))) = S &&& (accN F n (k + 1) (F k A) ^^^ -1)
    rw [h k A (Nat.le_refl _) (by omega)]
    exact an_or n (k + 1) (F k A) (fun j A h1 h2 => h j A (by omega) (by omega))
theorem anS_or (o : Option Nat) (S A : Int32) : anS' o (S &&& (A ^^^ -1)) = S &&& (orS o A ^^^ -1) := by
  cases o with
  | none => rfl
  | some l => exact bt_1 S A _
def fH (g : Nat → Nat → Int32) (f t h : Nat) (a : Int32) : Int32 := accN (fun w a => orS (fstFit g (nI f) (nI t) (nI w) (nI h)) a) 99 1 a
def fHm (g : Nat → Nat → Int32) (f t h : Nat) (a : Int32) : Int32 := accN (fun w a => anS' (fstFit g (nI f) (nI t) (nI w) (nI h)) a) 99 1 a
def lfb (g : Nat → Nat → Int32) (f t : Nat) : Int32 := accN (fH g f t) (cH g) 0 0
theorem fHm_or (g : Nat → Nat → Int32) (f t h : Nat) (S A : Int32) : fHm g f t h (S &&& (A ^^^ -1)) = S &&& (fH g f t h A ^^^ -1) := an_or 99 1 A (fun _ A _ _ => anS_or _ S A)
def mT (g : Nat → Nat → Int32) (f t : Nat) (S : Int32) : Int32 := if f = t then S else S &&& (lfb g f t ^^^ -1)
theorem mT_acc (g : Nat → Nat → Int32) (f t : Nat) (S : Int32) : accN (fHm g f t) (cH g) 0 S = S &&& (lfb g f t ^^^ -1) := by
  have := an_or (F := fH g f t) (G := fHm g f t) (S := S) (cH g) 0 0 (fun j A _ _ => fHm_or g f t j S A)
  rw [bt_2] at this
  exact this
theorem acc_z {G : Nat → Int32 → Int32} (h : ∀ j, G j 0 = 0) : ∀ (n k : Nat), accN G n k 0 = 0
  | 0, _ => rfl
  | n + 1, k => by
    show accN G n (k + 1) (G k 0) = 0
    rw [h]
    exact acc_z h n (k + 1)
theorem acc_add (G : Nat → Int32 → Int32) : ∀ (n m k : Nat) (a : Int32), accN G (n + m) k a = accN G m (k + n) (accN G n k a)
  | 0, m, k, a => by rw [Nat.zero_add]; rfl
  | n + 1, m, k, a => by
    rw [show n + 1 + m = (n + m) + 1 by omega]
    show accN G (n + m) (k + 1) (G k a) = accN G m (k + (n + 1)) (accN G n (k + 1) (G k a))
    rw [acc_add G n m (k + 1), show k + 1 + n = k + (n + 1) by omega]
theorem oI_none (o : Option Nat) (h : ∀ l, o = some l → l < 100) : (oI o = -1) ↔ o = none := by
  cases o with
  | none => exact ⟨fun _ => rfl, fun _ => rfl⟩
  | some l => exact ⟨fun z => absurd z (nI_nm1 (by have := h l rfl; omega)), fun z => by cases z⟩
section il
variable {μC μM : o_Mem}
theorem e8_lfb {v : Nat} (hv : kdC v = .inl 8) {μ : o_Mem} (hw : wfN (bV μ v)) (f t : Nat) : fX8_lawsFirstBetween rfC v (nI f) (nI t) μ = some (lfb (bV μ v) f t, μ) := by
  have b := hw.2.1.2
  have b8 := hw.2.2.2.1.2
  have e : μ.1 v 1 = nI (cH (bV μ v)) := hw.2.1.1
  have k17 : ∀ h a, o_lp 17 (fX8_lawsFirstBetween_s17 rfC v (nI f) (nI t) (nI h)) o_fuel (a, 1) μ = some ((55, (fH (bV μ v) f t h a, 0)), μ) := fun h a => by
    have key := lp_acc (head := 17) (e := 55) (step := fX8_lawsFirstBetween_s17 rfC v (nI f) (nI t) (nI h)) (μ := μ) (fun w a => orS (fstFit (bV μ v) (nI f) (nI t) (nI w) (nI h)) a) (N := 100) (k0 := 1) (fun w _ hw9 a => by
        unfold fX8_lawsFirstBetween_s17
        rw [if_neg (lt99 hw9), e8_firstFit hv _ _ _ _ μ hw, p_bd, aR_1]
        cases ho : fstFit (bV μ v) (nI f) (nI t) (nI w) (nI h) with
        | none => exact if_pos rfl
        | some l => have := fstFit_lt ho; exact if_neg (nI_nm1 (by omega)))
      (fun a => by unfold fX8_lawsFirstBetween_s17; rw [if_pos gt99]) (by decide) 99 1 a (Nat.le_refl _) (by omega)
    exact p_lp key (by omega)
  have key := lp_acc (head := 5) (e := 61) (step := fX8_lawsFirstBetween_s5 rfC v (nI f) (nI t)) (μ := μ) (fH (bV μ v) f t) (N := cH (bV μ v)) (k0 := 0) (fun h _ hh a => by
      unfold fX8_lawsFirstBetween_s5
      rw [e, if_neg (show ¬ nI (cH (bV μ v)) ≤ nI h by rw [n_le (by omega) (by omega)]; omega), k17, p_bd, if_pos rfl, aR_1])
    (fun a => by unfold fX8_lawsFirstBetween_s5; rw [e, if_pos ((n_le (by omega) (by omega)).mpr (Nat.le_refl _))]) (by decide) (cH (bV μ v)) 0 0 (Nat.le_refl _) (by omega)
  unfold fX8_lawsFirstBetween
  rw [show o_lp 5 (fX8_lawsFirstBetween_s5 rfC v (nI f) (nI t)) o_fuel (0, 0) μ = _ from p_lp key (by omega), p_bd, if_pos rfl]
  rfl
theorem e12_id25 {g : Nat → Nat → Int32} {μ : o_Mem} (hw : wfN g) (hr : vR g (μ.1 1)) {f : Nat} (hf : f < 6) (S : Int32) : o_lp 25 (fX12_idle_s25 rfM 0 (nI f)) o_fuel (S, 0) μ = some ((113, (accN (mT g f) (cP g) 0 S, 0)), μ) := by
  have bH := hw.2.1.2
  have bP := hw.2.2.1.2
  have b8 := hw.2.2.2.1.2
  have eH : μ.1 1 1 = nI (cH g) := hr.1.2.1.trans hw.2.1.1
  have eP : μ.1 1 2 = nI (cP g) := hr.1.2.2.1.trans hw.2.2.1.1
  have k57 : ∀ t h S, o_lp 57 (fX12_idle_s57 rfM 0 (nI f) (nI t) (nI h)) o_fuel (S, 1) μ = some ((101, (fHm g f t h S, 0)), μ) := fun t h S => by
    have key := lp_acc (head := 57) (e := 101) (step := fX12_idle_s57 rfM 0 (nI f) (nI t) (nI h)) (μ := μ) (fun w a => anS' (fstFit g (nI f) (nI t) (nI w) (nI h)) a) (N := 100) (k0 := 1) (fun w _ hw9 a => by
        unfold fX12_idle_s57 fX12_idle_j93
        rw [if_neg (lt99 hw9), e12_firstLaw _ _ _ _ hw hr, p_bd, aR_1]
        cases ho : fstFit g (nI f) (nI t) (nI w) (nI h) with
        | none => rw [bt_4]; exact if_pos rfl
        | some l => have := fstFit_lt ho; exact if_neg (nI_nm1 (by omega)))
      (fun a => by unfold fX12_idle_s57; rw [if_pos gt99]) (by decide) 99 1 S (Nat.le_refl _) (by omega)
    exact p_lp key (by omega)
  have k38 : ∀ t, t < 6 → ∀ S, o_lp 38 (fX12_idle_s38 rfM 0 (nI f) (nI t)) o_fuel (S, 0) μ = some ((107, (mT g f t S, 0)), μ) := fun t ht S => by
    unfold mT
    by_cases e : f = t
    · rw [if_pos e]
      refine p_lp (n := 0 + 1) (p_lp_exit ?_ (by decide)) (by omega)
      unfold fX12_idle_s38
      rw [if_pos (show nI f = nI t by rw [e])]
      split <;> rfl
    · rw [if_neg e]
      have key := lp_acc (head := 38) (e := 107) (step := fX12_idle_s38 rfM 0 (nI f) (nI t)) (μ := μ) (fHm g f t) (N := cH g) (k0 := 0) (fun h _ hh a => by
          unfold fX12_idle_s38
          rw [qm_0, eH, if_neg (show ¬ nI (cH g) ≤ nI h by rw [n_le (by omega) (by omega)]; omega), if_neg (show ¬ nI f = nI t by rw [nI_inj (by omega) (by omega)]; exact e), k57, p_bd, if_pos rfl, aR_1])
        (fun a => by unfold fX12_idle_s38; rw [qm_0, eH, if_pos ((n_le (by omega) (by omega)).mpr (Nat.le_refl _))]) (by decide) (cH g) 0 S (Nat.le_refl _) (by omega)
      rw [show o_lp 38 (fX12_idle_s38 rfM 0 (nI f) (nI t)) o_fuel (S, 0) μ = _ from p_lp key (by omega), mT_acc]
  have key := lp_acc (head := 25) (e := 113) (step := fX12_idle_s25 rfM 0 (nI f)) (μ := μ) (mT g f) (N := cP g) (k0 := 0) (fun t _ ht a => by
      unfold fX12_idle_s25
      rw [qm_0, eP, if_neg (show ¬ nI (cP g) ≤ nI t by rw [n_le (by omega) (by omega)]; omega), k38 t (by omega), p_bd, if_pos rfl, aR_1])
    (fun a => by unfold fX12_idle_s25; rw [qm_0, eP, if_pos ((n_le (by omega) (by omega)).mpr (Nat.le_refl _))]) (by decide) (cP g) 0 S (Nat.le_refl _) (by omega)
  exact p_lp key (by omega)
theorem mT_0 (g : Nat → Nat → Int32) (f t : Nat) : mT g f t 0 = 0 := by
  unfold mT
  split
  · rfl
  · exact bt_5 _
theorem pu_idle (h : Inv μC μM) : o_Eq2 (fX11_idle rfC 0 μC) (fX12_idle rfM 0 μM) Inv := by
  obtain ⟨hw, hr⟩ := Inv_v h
  have bP := hw.1.2.2.1.2
  have eP : μM.1 1 2 = nI (cP (bV μC 10)) := hr.1.2.2.1.trans hw.1.2.2.1.1
  have eP1 : μC.1 10 2 = nI (cP (bV μC 10)) := hw.1.2.2.1.1
  have eL : μM.1 1 3 = μC.1 10 3 := hr.1.2.2.2.1
  unfold fX11_idle fX12_idle fX11_idle_j83
  rw [rc0_4, qm_0, eL]
  generalize (1 : Int32) <<< (μC.1 10 3 &&& 31) - 1 = al
  have kM := lp_acc (head := 13) (e := 119) (step := fX12_idle_s13 rfM 0) (μ := μM) (fun f S => accN (mT (bV μC 10) f) (cP (bV μC 10)) 0 S) (N := cP (bV μC 10)) (k0 := 0) (fun f _ hf a => by
      unfold fX12_idle_s13
      rw [qm_0, eP, if_neg (show ¬ nI (cP (bV μC 10)) ≤ nI f by rw [n_le (by omega) (by omega)]; omega), e12_id25 hw.1 hr (by omega), p_bd, if_pos rfl, aR_1])
    (fun a => by unfold fX12_idle_s13; rw [qm_0, eP, if_pos ((n_le (by omega) (by omega)).mpr (Nat.le_refl _))]) (by decide) (cP (bV μC 10)) 0 al (Nat.le_refl _) (by omega)
  have kT : ∀ f, f < 6 → ∀ U, ∃ V, o_lp 35 (fX11_idle_s35 rfC 0 al (nI f)) o_fuel (U, 0) μC = some ((77, (V, 0)), μC) ∧ al &&& (V ^^^ -1) = accN (mT (bV μC 10) f) (cP (bV μC 10)) 0 (al &&& (U ^^^ -1)) := fun f hf U => by
    obtain ⟨e1, m1, q1, rfl, V, rfl, hV⟩ := lp_one (h := 35) (s := fX11_idle_s35 rfC 0 al (nI f))
      (fun i τ μ => μ = μC ∧ ∃ t W, t + i = cP (bV μC 10) ∧ τ = (W, nI t) ∧ al &&& (W ^^^ -1) = accN (mT (bV μC 10) f) t 0 (al &&& (U ^^^ -1)))
      (fun e μ => μC = μ ∧ ∃ V, e = (77, (V, 0)) ∧ al &&& (V ^^^ -1) = accN (mT (bV μC 10) f) (cP (bV μC 10)) 0 (al &&& (U ^^^ -1)))
      (fun i τ μ hR => by
        obtain ⟨rfl, t, W, ht, rfl, hW⟩ := hR
        unfold fX11_idle_s35
        rw [rc0_4, eP1]
        by_cases hi : i = 0
        · rw [if_pos (show nI (cP (bV μ 10)) ≤ nI t by rw [n_le (by omega) (by omega)]; omega)]
          have ek : t = cP (bV μ 10) := by omega
          refine ⟨_, _, rfl, Or.inr ⟨show ¬ 77 = 35 by decide, rfl, W, rfl, ?_⟩⟩
          rw [hW, ek]
        · rw [if_neg (show ¬ nI (cP (bV μ 10)) ≤ nI t by rw [n_le (by omega) (by omega)]; omega)]
          by_cases hal : W = al
          · rw [if_pos hal]
            refine ⟨_, _, rfl, Or.inr ⟨show ¬ 77 = 35 by decide, rfl, W, rfl, ?_⟩⟩
            rw [show cP (bV μ 10) = t + i by omega, acc_add, ← hW, hal, bt_3, acc_z (fun j => mT_0 _ f j)]
          · rw [if_neg hal]
            by_cases e : f = t
            · rw [if_pos (show nI f = nI t by rw [e]), aR_1]
              refine ⟨_, _, rfl, Or.inl ⟨rfl, i - 1, by omega, rfl, t + 1, W, by omega, rfl, ?_⟩⟩
              rw [accN_succ, ← hW, Nat.zero_add]
              unfold mT
              rw [if_pos e]
            · rw [if_neg (show ¬ nI f = nI t by rw [nI_inj (by omega) (by omega)]; exact e), e8_lfb k10 hw.1, p_bd, aR_1]
              refine ⟨_, _, rfl, Or.inl ⟨rfl, i - 1, by omega, rfl, t + 1, W ||| lfb (bV μ 10) f t, by omega, rfl, ?_⟩⟩
              rw [accN_succ, ← hW, Nat.zero_add, ← bt_1]
              unfold mT
              rw [if_neg e])
      o_fuel (cP (bV μC 10)) (U, 0) μC (fu (by omega)) ⟨rfl, 0, U, by omega, rfl, rfl⟩
    exact ⟨V, q1, hV⟩
  obtain ⟨e1, m1, q1, rfl, V, rfl, hV⟩ := lp_one (h := 16) (s := fX11_idle_s16 rfC 0 al)
    (fun i τ μ => μ = μC ∧ ∃ f W, f + i = cP (bV μC 10) ∧ τ = (W, nI f) ∧ al &&& (W ^^^ -1) = accN (fun f S => accN (mT (bV μC 10) f) (cP (bV μC 10)) 0 S) f 0 al)
    (fun e μ => μC = μ ∧ ∃ V, e = (83, (V, 0)) ∧ al &&& (V ^^^ -1) = accN (fun f S => accN (mT (bV μC 10) f) (cP (bV μC 10)) 0 S) (cP (bV μC 10)) 0 al)
    (fun i τ μ hR => by
      obtain ⟨rfl, f, W, hf, rfl, hW⟩ := hR
      unfold fX11_idle_s16
      rw [rc0_4, eP1]
      by_cases hi : i = 0
      · rw [if_pos (show nI (cP (bV μ 10)) ≤ nI f by rw [n_le (by omega) (by omega)]; omega)]
        have ek : f = cP (bV μ 10) := by omega
        refine ⟨_, _, rfl, Or.inr ⟨show ¬ 83 = 16 by decide, rfl, W, rfl, ?_⟩⟩
        rw [hW, ek]
      · rw [if_neg (show ¬ nI (cP (bV μ 10)) ≤ nI f by rw [n_le (by omega) (by omega)]; omega)]
        by_cases hal : W = al
        · rw [if_pos hal]
          refine ⟨_, _, rfl, Or.inr ⟨show ¬ 83 = 16 by decide, rfl, W, rfl, ?_⟩⟩
          rw [show accN (fun f S => accN (mT (bV μ 10) f) (cP (bV μ 10)) 0 S) (cP (bV μ 10)) 0 al = accN (fun f S => accN (mT (bV μ 10) f) (cP (bV μ 10)) 0 S) (f + i) 0 al by rw [hf], acc_add, ← hW, hal, bt_3, acc_z (fun j => acc_z (fun j' => mT_0 _ j j') _ _)]
        · rw [if_neg hal]
          obtain ⟨V, r1, r2⟩ := kT f (by omega) W
          rw [show (W, nI f).1 = W from rfl, show (W, nI f).2 = nI f from rfl, r1, p_bd, if_pos rfl, aR_1]
          refine ⟨_, _, rfl, Or.inl ⟨rfl, i - 1, by omega, rfl, f + 1, V, by omega, rfl, ?_⟩⟩
          rw [accN_succ, ← hW, Nat.zero_add]
          exact r2)
    o_fuel (cP (bV μC 10)) (0, 0) μC (fu (by omega)) ⟨rfl, 0, 0, by omega, rfl, bt_2 al⟩
  rw [q1, show o_lp 13 (fX12_idle_s13 rfM 0) o_fuel (al, 0) μM = _ from p_lp kM (by omega), p_bd, p_bd, if_pos rfl, if_pos rfl, hV, e11_gives, e12_gives, p_bd, p_bd]
  exact eq2_st h _ _ rfl rfl
end il
