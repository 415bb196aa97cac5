/-! ===== LAWS, ANSWERS, LETTERS as they are read ===== -/
section la
variable {T : Nat → Int32} {n s h p l w : Nat} {μC μM m1 m2 l1 l2 : o_Mem}
/-- a number of a LAW that may be there -/
theorem o_num {c lo a X : Nat} {C M L : Int32} (hC : C = nI c) (hM : M = nI (pmL.getD c 0)) (hL : L = nI lo) (hc : c < 27) (hlo : lo ≤ 99) (ha : a < 48) (hX : X < 3756) (hst : stT T n m1 m2) (hm : m2.1 1 X = -1) : (∃ y l1 l2, (y = -1 ∨ ∃ v, lo ≤ v ∧ v ≤ 99 ∧ y = nI v) ∧ fX9_lawNumber rfC 139 C (nI a) L m1 = some (1, l1) ∧ (∀ K : o_Mem → Option (Int32 × o_Mem), (o_bd (fX12_isThere rfM 0 M m2) fun r1 μ1 => if r1 = 0 then K μ1 else (o_bd (fX12_number rfM 0 (nI X) L 99 μ1) fun r2 μ2 => if r2 = 0 then some (0, μ2) else K μ2)) = K l2) ∧ wF (o_wI m1 34 a y) (o_wI m2 1 X y) l1 l2 ∧ stT T n l1 l2) ∨
    (∃ y l1 l2, fX9_lawNumber rfC 139 C (nI a) L m1 = some (0, l1) ∧ (∀ K : o_Mem → Option (Int32 × o_Mem), (o_bd (fX12_isThere rfM 0 M m2) fun r1 μ1 => if r1 = 0 then K μ1 else (o_bd (fX12_number rfM 0 (nI X) L 99 μ1) fun r2 μ2 => if r2 = 0 then some (0, μ2) else K μ2)) = some (0, l2)) ∧ wF (o_wI m1 34 a y) m2 l1 l2 ∧ fl l1 l2) := by
  subst hC hM hL
  have h34 : rfC 30 12 = 34 := by decide
  unfold fX9_lawNumber
  rw [rc139_0, rc139_1, h34]
  have hst1 : stT T n (o_wI m1 34 a (-1)) m2 := st_w1 hst (by omega) a (-1)
  have e8 : (o_wI m1 34 a (-1)).1 137 8 = m1.1 137 8 := by rw [p_wI_o (by omega)]
  simp (disch := omega) only [nI_toInt, nI_clamp, p_ck, p_seq]
  rcases w_there hst1 hc with ⟨hw1, l3, l4, y1, y2, W2, hs3⟩ | ⟨hw1, y2⟩
  · rw [if_pos hw1, y1, p_bd]
    rcases w_num hs3 (lo := lo) (hi := 99) (x := X) hlo (by omega) hX with ⟨v, l5, l6, v0, v9, z1, z2, W3, hs5⟩ | ⟨l5, l6, z1, z2, W3, hfl⟩
    · have z1' : fX4_wantNumber rfC 137 (nI lo) 99 l3 = some (nI v, l5) := z1
      have z2' : fX12_number rfM 0 (nI X) (nI lo) 99 l4 = some (1, l6) := z2
      rw [z1', p_bd, show (o_wI l5 34 a (nI v)).1 34 a = nI v by rw [p_wI1, if_pos ⟨rfl, rfl⟩], if_neg (nI_nm1 (by omega))]
      refine Or.inl ⟨nI v, _, l6, Or.inr ⟨v, v0, v9, rfl⟩, rfl, fun K => ?_, wF_ov (wF_tr (wF_w2 W2 X (nI v)) W3) (by omega) (nI v), st_w1 hs5 (by omega) a (nI v)⟩
      rw [y2, p_bd, if_neg (show ¬ (1 : Int32) = 0 by decide), z2', p_bd, if_neg (show ¬ (1 : Int32) = 0 by decide)]
    · have z1' : fX4_wantNumber rfC 137 (nI lo) 99 l3 = some (-1, l5) := z1
      have z2' : fX12_number rfM 0 (nI X) (nI lo) 99 l4 = some (0, l6) := z2
      rw [z1', p_bd, show (o_wI l5 34 a (-1)).1 34 a = -1 by rw [p_wI1, if_pos ⟨rfl, rfl⟩], if_pos rfl]
      refine Or.inr ⟨-1, _, l6, rfl, fun K => ?_, wF_ov (wF_tr W2 W3) (by omega) (-1), ?_⟩
      · rw [y2, p_bd, if_neg (show ¬ (1 : Int32) = 0 by decide), z2', p_bd, if_pos rfl]
      · unfold fl at hfl ⊢
        rw [p_wI_o (show 137 ≠ 34 by omega)]
        exact hfl
  · rw [if_neg hw1]
    refine Or.inl ⟨-1, _, m2, Or.inl rfl, rfl, fun K => ?_, ?_, hst1⟩
    · rw [y2, p_bd, if_pos rfl]
    · rw [wI_same hm]; exact wF_re
/-- a NAME of a LAW that may be there -/
theorem o_name {c kd a X cnt t : Nat} {C M D : Int32} (hC : C = nI c) (hM : M = nI (pmL.getD c 0)) (hD : D = nI kd) (hc : c < 27) (ha : a < 48) (hX : X < 3756) (hst : stT T n m1 m2) (hm : m2.1 1 X = -1) (hold : ∀ q1 q2, wF (o_wI m1 34 a (-1)) m2 q1 q2 → stT T n q1 q2 → oldP T n q1 q2 cnt X (-1) (fX4_wantKnown rfC 137 30 (nI kd) (-1) q1) (fX12_oldOne rfM 0 (nI t) (nI cnt) (nI X) q2)) (hcn : cnt ≤ 6) (B : o_Mem → Option (Int32 × o_Mem)) (hB : ∀ q1 q2, wF (o_wI m1 34 a (-1)) m2 q1 q2 → B q2 = fX12_oldOne rfM 0 (nI t) (nI cnt) (nI X) q2) : (∃ y l1 l2, (y = -1 ∨ inR y cnt) ∧ fX9_lawName rfC 139 C (nI a) D m1 = some (1, l1) ∧ (∀ K : o_Mem → Option (Int32 × o_Mem), (o_bd (fX12_isThere rfM 0 M m2) fun r1 μ1 => if r1 = 0 then K μ1 else (o_bd (B μ1) fun r2 μ2 => if r2 = 0 then some (0, μ2) else K μ2)) = K l2) ∧ wF (o_wI m1 34 a y) (o_wI m2 1 X y) l1 l2 ∧ stT T n l1 l2) ∨
    (∃ y y' l1 l2, fX9_lawName rfC 139 C (nI a) D m1 = some (0, l1) ∧ (∀ K : o_Mem → Option (Int32 × o_Mem), (o_bd (fX12_isThere rfM 0 M m2) fun r1 μ1 => if r1 = 0 then K μ1 else (o_bd (B μ1) fun r2 μ2 => if r2 = 0 then some (0, μ2) else K μ2)) = some (0, l2)) ∧ wF (o_wI m1 34 a y) (o_wI m2 1 X y') l1 l2 ∧ fl l1 l2) := by
  subst hC hM hD
  have h34 : rfC 30 12 = 34 := by decide
  unfold fX9_lawName
  rw [rc139_0, rc139_1, h34]
  have hst1 : stT T n (o_wI m1 34 a (-1)) m2 := st_w1 hst (by omega) a (-1)
  simp (disch := omega) only [nI_toInt, nI_clamp, p_ck, p_seq]
  rcases w_there hst1 hc with ⟨hw1, l3, l4, y1, y2, W2, hs3⟩ | ⟨hw1, y2⟩
  · rw [if_pos hw1, y1, p_bd]
    rcases hold l3 l4 W2 hs3 with ⟨v, l5, l6, vk, -, z1, z2, W3, hs5⟩ | ⟨y, l5, l6, z1, z2, W3, hfl⟩
    · rw [z1, p_bd, show (o_wI l5 34 a (nI v)).1 34 a = nI v by rw [p_wI1, if_pos ⟨rfl, rfl⟩], if_neg (nI_nm1 (by omega))]
      refine Or.inl ⟨nI v, _, l6, Or.inr ⟨by rw [nI_toInt (by omega)]; omega, by rw [nI_toInt (by omega)]; omega⟩, rfl, fun K => ?_, wF_ov (wF_tr (wF_w2 W2 X (nI v)) W3) (by omega) (nI v), st_w1 hs5 (by omega) a (nI v)⟩
      rw [y2, p_bd, if_neg (show ¬ (1 : Int32) = 0 by decide), hB l3 l4 W2, z2, p_bd, if_neg (show ¬ (1 : Int32) = 0 by decide)]
    · rw [z1, p_bd, show (o_wI l5 34 a (-1)).1 34 a = -1 by rw [p_wI1, if_pos ⟨rfl, rfl⟩], if_pos rfl]
      refine Or.inr ⟨-1, y, _, l6, rfl, fun K => ?_, wF_ov (wF_tr (wF_w2 W2 X y) W3) (by omega) (-1), ?_⟩
      · rw [y2, p_bd, if_neg (show ¬ (1 : Int32) = 0 by decide), hB l3 l4 W2, z2, p_bd, if_pos rfl]
      · unfold fl at hfl ⊢
        rw [p_wI_o (show 137 ≠ 34 by omega)]
        exact hfl
  · rw [if_neg hw1]
    refine Or.inl ⟨-1, _, m2, Or.inl rfl, rfl, fun K => ?_, ?_, hst1⟩
    · rw [y2, p_bd, if_pos rfl]
    · rw [wI_same hm]; exact wF_re
/-- what is kept while a LAW is read: fields so far -/
def lwS (T : Nat → Int32) (n : Nat) (μC μM : o_Mem) (s h p l : Nat) (m1 m2 : o_Mem) (f : Nat → Int32) (j : Nat) (k1 k2 : o_Mem) : Prop := stT T n k1 k2 ∧ pV μC μM k1 k2 ∧ nmE 30 64 2504 s h p k1 k2 ∧ (∀ i q, i ≠ 137 → k1.1 i q = if i = 34 ∧ 6 * l ≤ q ∧ q < 6 * l + j then f (q - 6 * l) else m1.1 i q) ∧ (∀ q, k2.1 1 q = if 2535 + 6 * l ≤ q ∧ q < 2535 + 6 * l + j then f (q - (2535 + 6 * l)) else m2.1 1 q) ∧ k1.2 49 = m1.2 49 ∧ k2.2 = m2.2
theorem lwS_s {f : Nat → Int32} {j : Nat} {k1 k2 q1 q2 : o_Mem} (hl : l < 8) (hj : j < 6) (hk : lwS T n μC μM s h p l m1 m2 f j k1 k2) {y : Int32} (W : wF (o_wI k1 34 (6 * l + j) y) (o_wI k2 1 (2535 + 6 * l + j) y) q1 q2) (hs : stT T n q1 q2) : lwS T n μC μM s h p l m1 m2 (fun i => if i = j then y else f i) (j + 1) q1 q2 := by
  obtain ⟨a1, a2, a3, a4, a5, a6, a7⟩ := hk
  refine ⟨hs, pV_w (pV_2 (pV_1 a2 (by omega) _ _) (by omega) _) W, nmE_w (by omega) (nmE_2 (nmE_1 a3 (by omega) _ _) (by omega) _) W, fun i q hi => ?_, fun q => ?_, ?_, ?_⟩
  · rw [W.1 i hi, p_wI1]
    by_cases e : i = 34 ∧ q = 6 * l + j
    · rw [if_pos e, if_pos (by omega)]
      show y = if q - 6 * l = j then y else f (q - 6 * l)
      rw [if_pos (by omega)]
    · rw [if_neg e, a4 i q hi]
      by_cases e2 : i = 34 ∧ 6 * l ≤ q ∧ q < 6 * l + j
      · rw [if_pos e2, if_pos (by omega)]
        show f (q - 6 * l) = if q - 6 * l = j then y else f (q - 6 * l)
        rw [if_neg (by omega)]
      · rw [if_neg e2, if_neg (by omega)]
  · rw [W.2.2.2.1 1 (by omega), p_wI1]
    by_cases e : q = 2535 + 6 * l + j
    · rw [if_pos ⟨rfl, e⟩, if_pos (by omega)]
      show y = if q - (2535 + 6 * l) = j then y else f (q - (2535 + 6 * l))
      rw [if_pos (by omega)]
    · rw [if_neg (fun z => e z.2), a5 q]
      by_cases e2 : 2535 + 6 * l ≤ q ∧ q < 2535 + 6 * l + j
      · rw [if_pos e2, if_pos (by omega)]
        show f (q - (2535 + 6 * l)) = if q - (2535 + 6 * l) = j then y else f (q - (2535 + 6 * l))
        rw [if_neg (by omega)]
      · rw [if_neg e2, if_neg (by omega)]
  · rw [W.2.2.1 49 (by omega)]; exact a6
  · rw [W.2.2.2.2.2]; exact a7
theorem it_law (hv : vSt T n μC μM s h p l w m1 m2) (ha : adv n m1 m2) : itO T n μC μM (fX9_takeLaw rfC 139 m1) (fX12_aLaw rfM 0 m2) := by
  obtain ⟨hst, hnw, hpv⟩ := hv
  have hE := nmE_x hnw
  have hnw0 := hnw
  obtain ⟨⟨b1, b2, b3, b4, b5, b6, bb⟩, -, ⟨v0, v1, v2, v3, -⟩, -, -, -, -, d5, -⟩ := hnw0
  have e507 : m2.1 1 2507 = nI l := v3
  have e30 : m1.1 30 3 = nI l := b4
  have h34 : rfC 30 12 = 34 := by decide
  unfold fX9_takeLaw fX12_aLaw fX12_strikeTo
  rw [rc139_0, rc139_1, qm_0, e507, e30, h34]
  by_cases h8 : l = 8
  · rw [if_neg (show ¬ nI l < 8 by rw [h8]; decide), if_pos (show nI l = 8 by rw [h8]; rfl)]
    obtain ⟨l1, l2, q1, q2, hF, hf⟩ := w_fail hst (x := 6) (by omega) (by omega)
    rw [show (6 : Int32) = nI 6 from rfl, q1, q2]
    exact Or.inl ⟨l1, l2, rfl, rfl, pV_w hpv hF, hf⟩
  · rw [if_pos (show nI l < 8 from (n_lt (a := l) (b := 8) (by omega) (by omega)).mpr (by omega)), if_neg (show ¬ nI l = 8 by rw [show (8 : Int32) = nI 8 from rfl, nI_inj (by omega) (by omega)]; exact h8)]
    obtain ⟨k1, k2, q1, q2, W0, hs0⟩ := w_next hst ha
    have hE0 := nmE_w (by omega) hE W0
    have g504 : k2.1 1 2504 = nI s := hE0.2.1.1
    rw [q1, q2, p_bd, p_bd, g504, mL_6, show (2535 : Int32) + nI (6 * l) = nI (2535 + 6 * l) from nI_add 2535 (6 * l)]
    have hpv0 := pV_w hpv W0
    rcases k_strike k30 (by omega) (x := 2535 + 6 * l) (by omega) hE0 hs0 with ⟨v, l1, l2, vk, -, z1, z2, W1, hs1⟩ | ⟨y, l1, l2, z1, z2, W1, hfl⟩
    · have z2' : fX12_oldOne rfM 0 64 (nI s) (nI (2535 + 6 * l)) k2 = some (1, l2) := z2
      have gl : l1.1 30 3 = nI l := by rw [W1.1 30 (by omega), W0.1 30 (by omega)]; exact e30
      rw [z1, z2', p_bd, p_bd, p_bd, if_neg (nI_nm1 (by omega)), if_neg (show ¬ (1 : Int32) = 0 by decide), gl, mR_6, show l * 6 = 6 * l by omega]
      simp (disch := omega) only [nI_toInt, nI_clamp, p_ck, p_seq, aR_1, aR_2, aR_3, aR_4, aR_5]
      -- the fields, one by one
      have S1 : lwS T n μC μM s h p l m1 m2 (fun _ => nI v) 1 (o_wI l1 34 (6 * l) (nI v)) l2 := by
        refine ⟨st_w1 hs1 (by omega) _ _, pV_1 (pV_w (pV_2 hpv0 (by omega) _) W1) (by omega) _ _, nmE_1 (nmE_w (by omega) (nmE_2 hE0 (by omega) _) W1) (by omega) _ _, fun i q hi => ?_, fun q => ?_, ?_, ?_⟩
        · rw [p_wI1]
          by_cases e : i = 34 ∧ q = 6 * l
          · rw [if_pos e, if_pos (by omega)]
          · rw [if_neg e, if_neg (by omega), W1.1 i hi, W0.1 i hi]
        · rw [W1.2.2.2.1 1 (by omega), p_wI1]
          by_cases e : q = 2535 + 6 * l
          · rw [if_pos ⟨rfl, e⟩, if_pos (by omega)]
          · rw [if_neg (fun z => e z.2), if_neg (by omega), W0.2.2.2.1 1 (by omega)]
        · show l1.2 49 = m1.2 49
          rw [W1.2.2.1 49 (by omega), W0.2.2.1 49 (by omega)]
        · rw [W1.2.2.2.2.2, p_wI2, W0.2.2.2.2.2]
      have mm1 : ∀ {f : Nat → Int32} {j : Nat} {k1 k2 : o_Mem}, j < 6 → lwS T n μC μM s h p l m1 m2 f j k1 k2 → k2.1 1 (2535 + 6 * l + j) = -1 := by
        intro f j k1 k2 hj hk
        rw [hk.2.2.2.2.1, if_neg (by omega)]
        have this : m2.1 1 (2504 + (31 + 6 * l + j)) = -1 := d5 l j (Nat.le_refl _) (by omega) hj
        rw [show 2535 + 6 * l + j = 2504 + (31 + 6 * l + j) by omega]
        exact this
      have bad : ∀ {f : Nat → Int32} {j : Nat} {k1 k2 q1 q2 : o_Mem} {y y' : Int32}, j < 6 → lwS T n μC μM s h p l m1 m2 f j k1 k2 → wF (o_wI k1 34 (6 * l + j) y) (o_wI k2 1 (2535 + 6 * l + j) y') q1 q2 → pV μC μM q1 q2 := fun hj hk W => pV_w (pV_2 (pV_1 hk.2.1 (by omega) _ _) (by omega) _) W
      generalize o_wI l1 34 (6 * l) (nI v) = n1 at S1 ⊢
      have hh6 := hE.2.2.1
      -- under
      rcases o_num (C := 5) (M := 8) (L := 1) (c := 5) (lo := 1) (a := 6 * l + 1) (X := 2535 + 6 * l + 1) rfl rfl rfl (by omega) (by omega) (by omega) (by omega) S1.1 (mm1 (by omega) S1) with ⟨y1, n3, n4, hy1, c1, c2, V1, hs3⟩ | ⟨y1, n3, n4, c1, c2, V1, hfl⟩
      rotate_left
      · rw [c1, p_bd, if_pos rfl, c2]
        exact Or.inl ⟨n3, n4, rfl, rfl, pV_w (pV_1 S1.2.1 (by omega) _ _) V1, hfl⟩
      rw [c1, p_bd, if_neg (show ¬ (1 : Int32) = 0 by decide), c2]
      have S2 := lwS_s (by omega) (by omega) S1 V1 hs3
      -- over
      unfold fX12_aLaw_j70
      rw [aR_2]
      rcases o_num (C := 6) (M := 9) (L := 0) (c := 6) (lo := 0) (a := 6 * l + 2) (X := 2535 + 6 * l + 2) rfl rfl rfl (by omega) (by omega) (by omega) (by omega) S2.1 (mm1 (by omega) S2) with ⟨y2, n5, n6, hy2, c3, c4, V2, hs5⟩ | ⟨y2, n5, n6, c3, c4, V2, hfl⟩
      rotate_left
      · rw [c3, p_bd, if_pos rfl, c4]
        exact Or.inl ⟨n5, n6, rfl, rfl, pV_w (pV_1 S2.2.1 (by omega) _ _) V2, hfl⟩
      rw [c3, p_bd, if_neg (show ¬ (1 : Int32) = 0 by decide), c4]
      have S3 := lwS_s (by omega) (by omega) S2 V2 hs5
      -- by
      unfold fX12_aLaw_j92
      rw [aR_3]
      have B3 : ∀ q1 q2, wF (o_wI n5 34 (6 * l + 3) (-1)) n6 q1 q2 → nmE 30 64 2504 s h p q1 q2 := fun q1 q2 W => nmE_w (by omega) (nmE_1 S3.2.2.1 (by omega) _ _) W
      rcases o_name (C := 7) (M := 10) (D := 1) (c := 7) (kd := 1) (a := 6 * l + 3) (X := 2535 + 6 * l + 3) (cnt := h) (t := 70) rfl rfl rfl (by omega) (by omega) (by omega) S3.1 (mm1 (by omega) S3) (fun q1 q2 W hs => k_hand k30 (by omega) (by omega) (B3 q1 q2 W) hs) (by omega) (fun μ => fX12_handTo rfM 0 (nI (2535 + 6 * l + 3)) μ) (fun q1 q2 W => by
        show (o_bd (fX12_oldOne rfM 0 70 (q2.1 (rfM 0 0) 2505) (nI (2535 + 6 * l + 3)) q2) fun r1 μ1 => some (r1, μ1)) = fX12_oldOne rfM 0 (nI 70) (nI h) (nI (2535 + 6 * l + 3)) q2
        rw [qm_0, show q2.1 1 2505 = nI h from (B3 q1 q2 W).2.1.2.1]
        show (o_bd (fX12_oldOne rfM 0 (nI 70) (nI h) (nI (2535 + 6 * l + 3)) q2) fun r1 μ1 => some (r1, μ1)) = _
        cases fX12_oldOne rfM 0 (nI 70) (nI h) (nI (2535 + 6 * l + 3)) q2 <;> rfl) with ⟨y3, n7, n8, hy3, c5, c6, V3, hs7⟩ | ⟨y3, y3', n7, n8, c5, c6, V3, hfl⟩
      rotate_left
      · rw [c5, p_bd, if_pos rfl, c6]
        exact Or.inl ⟨n7, n8, rfl, rfl, bad (by omega) S3 V3, hfl⟩
      rw [c5, p_bd, if_neg (show ¬ (1 : Int32) = 0 by decide), c6]
      have S4 := lwS_s (by omega) (by omega) S3 V3 hs7
      -- from
      unfold fX12_aLaw_j111
      rw [aR_4]
      have B4 : ∀ q1 q2, wF (o_wI n7 34 (6 * l + 4) (-1)) n8 q1 q2 → nmE 30 64 2504 s h p q1 q2 := fun q1 q2 W => nmE_w (by omega) (nmE_1 S4.2.2.1 (by omega) _ _) W
      have prs : ∀ (X : Nat) (q1 q2 : o_Mem), nmE 30 64 2504 s h p q1 q2 → fX12_personTo rfM 0 (nI X) q2 = fX12_oldOne rfM 0 (nI 74) (nI p) (nI X) q2 := fun X q1 q2 hq => by
        unfold fX12_personTo
        rw [qm_0, show q2.1 1 2506 = nI p from hq.2.1.2.2]
        show (o_bd (fX12_oldOne rfM 0 (nI 74) (nI p) (nI X) q2) fun r1 μ1 => some (r1, μ1)) = _
        cases fX12_oldOne rfM 0 (nI 74) (nI p) (nI X) q2 <;> rfl
      rcases o_name (C := 8) (M := 11) (D := 2) (c := 8) (kd := 2) (a := 6 * l + 4) (X := 2535 + 6 * l + 4) (cnt := p) (t := 74) rfl rfl rfl (by omega) (by omega) (by omega) S4.1 (mm1 (by omega) S4) (fun q1 q2 W hs => k_pers k30 (by omega) (by omega) (B4 q1 q2 W) hs) (by omega) (fun μ => fX12_personTo rfM 0 (nI (2535 + 6 * l + 4)) μ) (fun q1 q2 W => prs _ q1 q2 (B4 q1 q2 W)) with ⟨y4, n9, n10, hy4, c7, c8, V4, hs9⟩ | ⟨y4, y4', n9, n10, c7, c8, V4, hfl⟩
      rotate_left
      · rw [c7, p_bd, if_pos rfl, c8]
        exact Or.inl ⟨n9, n10, rfl, rfl, bad (by omega) S4 V4, hfl⟩
      rw [c7, p_bd, if_neg (show ¬ (1 : Int32) = 0 by decide), c8]
      have S5 := lwS_s (by omega) (by omega) S4 V4 hs9
      -- to
      unfold fX12_aLaw_j130
      rw [aR_5]
      have B5 : ∀ q1 q2, wF (o_wI n9 34 (6 * l + 5) (-1)) n10 q1 q2 → nmE 30 64 2504 s h p q1 q2 := fun q1 q2 W => nmE_w (by omega) (nmE_1 S5.2.2.1 (by omega) _ _) W
      rcases o_name (C := 9) (M := 12) (D := 2) (c := 9) (kd := 2) (a := 6 * l + 5) (X := 2535 + 6 * l + 5) (cnt := p) (t := 74) rfl rfl rfl (by omega) (by omega) (by omega) S5.1 (mm1 (by omega) S5) (fun q1 q2 W hs => k_pers k30 (by omega) (by omega) (B5 q1 q2 W) hs) (by omega) (fun μ => fX12_personTo rfM 0 (nI (2535 + 6 * l + 5)) μ) (fun q1 q2 W => prs _ q1 q2 (B5 q1 q2 W)) with ⟨y5, o1, o2, hy5, c9, c10, V5, hs11⟩ | ⟨y5, y5', o1, o2, c9, c10, V5, hfl⟩
      rotate_left
      · rw [c9, p_bd, if_pos rfl, c10]
        exact Or.inl ⟨o1, o2, rfl, rfl, bad (by omega) S5 V5, hfl⟩
      rw [c9, p_bd, if_neg (show ¬ (1 : Int32) = 0 by decide), c10]
      have S6 := lwS_s (by omega) (by omega) S5 V5 hs11
      -- done
      obtain ⟨t1, t2, t3, t4, t5, t6, t7⟩ := S6
      have gl6 : o1.1 30 3 = nI l := by rw [t4 30 3 (by omega), if_neg (by omega)]; exact e30
      have gm6 : o2.1 1 2507 = nI l := by rw [t5, if_neg (by omega)]; exact e507
      unfold fX12_aLaw_j151
      rw [qm_0, p_seq, gl6, gm6, aR_1]
      refine Or.inr ⟨s, h, p, l + 1, w, _, _, rfl, rfl, st_w2 (st_w1 t1 (by omega) 3 (nI (l + 1))) 2507 (nI (l + 1)), ?_, pV_2 (pV_1 t2 (by omega) _ _) (by omega) _⟩
      have G4 : ∀ j, j < 6 → bV (o_wI o1 30 3 (nI (l + 1))) 30 4 (6 * l + j) = (fun i => if i = 5 then y5 else (fun i => if i = 4 then y4 else (fun i => if i = 3 then y3 else (fun i => if i = 2 then y2 else (fun i => if i = 1 then y1 else nI v) i) i) i) i) j := fun j hj => by
        show (o_wI o1 30 3 (nI (l + 1))).1 (30 + 4) (6 * l + j) = _
        rw [p_wI_o (by omega), t4 (30 + 4) _ (by omega), if_pos (by omega), show 6 * l + j - 6 * l = j by omega]
      have hwk : ∀ v lo : Nat, 1 ≤ lo → lo ≤ v → v ≤ 99 → wOk (nI v) := fun v lo h1 h2 h3 => ⟨by rw [nI_toInt (by omega)]; omega, by rw [nI_toInt (by omega)]; omega⟩
      refine nx_c (nx_law (g' := bV (o_wI o1 30 3 (nI (l + 1))) 30) (a' := mS (o_wI o2 1 2507 (nI (l + 1))) 2504) hnw (by omega) ?_ ?_ (fun j k hj z1 z2 => ?_) ?_ (fun j hj => ?_) (fun k z1 z2 => ?_)) (fun _ _ => rfl) (fun _ _ => rfl) (fun k hk => ?_) (fun k hk => ?_)
      · refine lwO_c (f := fun i => if i = 5 then y5 else (fun i => if i = 4 then y4 else (fun i => if i = 3 then y3 else (fun i => if i = 2 then y2 else (fun i => if i = 1 then y1 else nI v) i) i) i) i) (fun j hj => G4 j hj) ⟨⟨?_, ?_⟩, ?_, ?_, hy3, hy4, hy5⟩
        · show 0 ≤ (nI v).toInt
          rw [nI_toInt (by omega)]; omega
        · show (nI v).toInt < s
          rw [nI_toInt (by omega)]; omega
        · show y1 = -1 ∨ wOk y1
          rcases hy1 with z | ⟨u, u1, u2, rfl⟩
          · exact Or.inl z
          · exact Or.inr (hwk u 1 (by omega) u1 u2)
        · show y2 = -1 ∨ inR y2 100
          rcases hy2 with z | ⟨u, u1, u2, rfl⟩
          · exact Or.inl z
          · exact Or.inr ⟨by rw [nI_toInt (by omega)]; omega, by rw [nI_toInt (by omega)]; omega⟩
      · show (o_wI o1 30 3 (nI (l + 1))).1 (30 + 0) 3 = _
        rw [p_wI1, if_pos ⟨rfl, rfl⟩]
      · show (o_wI o1 30 3 (nI (l + 1))).1 (30 + j) k = m1.1 (30 + j) k
        rw [p_wI1, if_neg (by omega), t4 _ _ (by omega), if_neg (by omega)]
      · show (o_wI o2 1 2507 (nI (l + 1))).1 1 (2504 + 3) = _
        rw [p_wI1, if_pos ⟨rfl, rfl⟩]
      · rw [G4 j hj]
        show (o_wI o2 1 2507 (nI (l + 1))).1 1 (2504 + (31 + 6 * l + j)) = _
        rw [p_wI1, if_neg (by omega), t5, if_pos (by omega), show 2504 + (31 + 6 * l + j) - (2535 + 6 * l) = j by omega]
      · show (o_wI o2 1 2507 (nI (l + 1))).1 1 (2504 + k) = m2.1 1 (2504 + k)
        rw [p_wI1, if_neg (by omega), t5, if_neg (by omega)]
      · show o1.2 49 k = m1.2 49 k
        rw [t6]
      · show o2.2 2 (64 + k) = m2.2 2 (64 + k)
        rw [t7]
    · have z2' : fX12_oldOne rfM 0 64 (nI s) (nI (2535 + 6 * l)) k2 = some (0, l2) := z2
      rw [z1, z2', p_bd, p_bd, p_bd, if_pos rfl, if_pos rfl]
      exact Or.inl ⟨l1, l2, rfl, rfl, pV_w (pV_2 hpv0 (by omega) _) W1, hfl⟩
end la
