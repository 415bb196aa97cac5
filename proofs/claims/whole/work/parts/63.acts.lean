/-! ===== ANSWERS and LETTERS as they are read ===== -/
section ac
variable {T : Nat → Int32} {n s h p l w : Nat} {μC μM m1 m2 l1 l2 : o_Mem}
theorem to_old {A : Option (Int32 × o_Mem)} : (o_bd A fun r μ => some (r, μ)) = A := by cases A <;> rfl
theorem w_other {x a : Nat} (hx : x < 3756) (ha : a < 6) (hE : nmE 30 64 2504 s h p m1 m2) (hs : stT T n m1 m2) : oldP T n m1 m2 p x (nI a) (fX4_wantKnown rfC 137 30 2 (nI a) m1) (fX12_otherTo rfM 0 (nI x) (nI a) m2) := by
  have hp6 := hE.2.2.1
  have prs : fX12_personTo rfM 0 (nI x) m2 = fX12_oldOne rfM 0 (nI 74) (nI p) (nI x) m2 := by
    unfold fX12_personTo
    rw [qm_0, show m2.1 1 2506 = nI p from hE.2.1.2.2]
    exact to_old
  unfold fX12_otherTo fX12_otherTo_j33
  rw [qm_0]
  rcases w_known (m1 := m1) (m2 := m2) k30 (kd := 2) (c := p) (t := 74) (x := x) (by omega) hE.1.2.2 (by omega) (by omega) hx hE.2.2.2.2.2 hs (nI a) (Or.inr ⟨a, ha, rfl⟩) with ⟨i1, h1⟩ | ⟨r, i1, i2, ⟨hne, rfl, k1, k2, q1, q2, hF, hf⟩ | ⟨hr, h1⟩⟩
  · rw [i1, p_bd, if_pos rfl, prs, to_old]
    exact h1
  · have i2' : fX12_findHere rfM 0 74 (nI p) m2 = some (nI a, m2) := i2
    rw [i1, p_bd, if_neg (show ¬ (1 : Int32) = 0 by decide), show m2.1 1 2506 = nI p from hE.2.1.2.2, i2', p_bd, if_pos rfl, q2, p_bd]
    obtain ⟨y, hy⟩ := w_same (x := x) hF
    exact Or.inr ⟨y, k1, k2, q1, rfl, hy, hf⟩
  · have i2' : fX12_findHere rfM 0 74 (nI p) m2 = some (r, m2) := i2
    rw [i1, p_bd, if_neg (show ¬ (1 : Int32) = 0 by decide), show m2.1 1 2506 = nI p from hE.2.1.2.2, i2', p_bd, if_neg (show ¬ r = nI a by
      rcases hr with rfl | hr
      · exact fun z => nI_nm1 (by omega) z.symm
      · exact hr), prs, to_old]
    exact h1
theorem it_act (hv : vSt T n μC μM s h p l w m1 m2) (ha : adv n m1 m2) : itO T n μC μM (fX9_takeActs rfC 139 m1) (fX12_anAct rfM 0 m2) := by
  obtain ⟨hst, hnw, hpv⟩ := hv
  have hE := nmE_x hnw
  have hb6 := hE.2.2.1
  have c1 : ((3123 + 1) : Int32) = nI 3124 := by decide
  have c2 : ((3123 + 2) : Int32) = nI 3125 := by decide
  have c3 : ((3123 + 3) : Int32) = nI 3126 := by decide
  unfold fX9_takeActs fX12_anAct
  rw [rc139_0, rc139_1, qm_0, c1, c2, c3]
  obtain ⟨k1, k2, q1, q2, W0, hs0⟩ := w_next hst ha
  have hE0 := nmE_w (by omega) hE W0
  have hpv0 := pV_w hpv W0
  rw [q1, q2, p_bd, p_bd]
  have prs : ∀ (X : Nat) (q1 q2 : o_Mem), nmE 30 64 2504 s h p q1 q2 → fX12_personTo rfM 0 (nI X) q2 = fX12_oldOne rfM 0 (nI 74) (nI p) (nI X) q2 := fun X q1 q2 hq => by
    unfold fX12_personTo
    rw [qm_0, show q2.1 1 2506 = nI p from hq.2.1.2.2]
    exact to_old
  -- the PERSON
  have B1 := k_pers k30 (by omega) (x := 3123) (by omega) hE0 hs0
  rw [← prs 3123 k1 k2 hE0] at B1
  have e3123 : (3123 : Int32) = nI 3123 := rfl
  rw [e3123]
  rcases B1 with ⟨a, l1, l2, ak, -, x1, x2, W1, hs1⟩ | ⟨y, l1, l2, x1, x2, W1, hfl⟩
  rotate_left
  · rw [x1, x2, p_bd, p_bd, if_pos rfl, if_pos rfl]
    exact Or.inl ⟨l1, l2, rfl, rfl, pV_w (pV_2 hpv0 (by omega) _) W1, hfl⟩
  rw [x1, x2, p_bd, p_bd, if_neg (nI_nm1 (by omega)), if_neg (show ¬ (1 : Int32) = 0 by decide)]
  have hE1 := nmE_w (by omega) (nmE_2 hE0 (k := 3123) (by omega) (nI a)) W1
  have hpv1 := pV_w (pV_2 hpv0 (k := 3123) (by omega) (nI a)) W1
  have Z1 : wF m1 (o_wI m2 1 3123 (nI a)) l1 l2 := wF_tr (wF_w2 W0 3123 (nI a)) W1
  -- on
  obtain ⟨r, l3, l4, x3, x4, W2, hr⟩ := w_word hs1 (c := 11) (by omega)
  have x3' : fX4_wantWord rfC 137 11 l1 = some (r, l3) := x3
  have x4' : fX12_wantWord rfM 0 13 l2 = some (r, l4) := x4
  have hE2 := nmE_w (by omega) hE1 W2
  have hpv2 := pV_w hpv1 W2
  rw [x3', x4', p_bd, p_bd]
  rcases hr with ⟨rfl, hs3⟩ | ⟨rfl, hfl⟩
  rotate_left
  · rw [if_pos rfl, if_pos rfl]
    exact Or.inl ⟨l3, l4, rfl, rfl, hpv2, hfl⟩
  rw [if_neg (show ¬ (1 : Int32) = 0 by decide), if_neg (show ¬ (1 : Int32) = 0 by decide)]
  have Z2 := wF_tr Z1 W2
  -- the STRIKE
  have B2 := k_strike k30 (by omega) (x := 3124) (by omega) hE2 hs3
  have sto : fX12_strikeTo rfM 0 (nI 3124) l4 = fX12_oldOne rfM 0 (nI 64) (nI s) (nI 3124) l4 := by
    unfold fX12_strikeTo
    rw [qm_0, show l4.1 1 2504 = nI s from hE2.2.1.1]
    exact to_old
  rw [sto]
  rcases B2 with ⟨b, l5, l6, bk, -, x5, x6, W3, hs5⟩ | ⟨y, l5, l6, x5, x6, W3, hfl⟩
  rotate_left
  · rw [x5, x6, p_bd, p_bd, if_pos rfl, if_pos rfl]
    exact Or.inl ⟨l5, l6, rfl, rfl, pV_w (pV_2 hpv2 (by omega) _) W3, hfl⟩
  rw [x5, x6, p_bd, p_bd, if_neg (nI_nm1 (by omega)), if_neg (show ¬ (1 : Int32) = 0 by decide)]
  have hE3 := nmE_w (by omega) (nmE_2 hE2 (k := 3124) (by omega) (nI b)) W3
  have hpv3 := pV_w (pV_2 hpv2 (k := 3124) (by omega) (nI b)) W3
  have Z3 := wF_tr (wF_w2 Z2 3124 (nI b)) W3
  -- to
  obtain ⟨r, l7, l8, x7, x8, W4, hr⟩ := w_word hs5 (c := 9) (by omega)
  have x7' : fX4_wantWord rfC 137 9 l5 = some (r, l7) := x7
  have x8' : fX12_wantWord rfM 0 12 l6 = some (r, l8) := x8
  have hE4 := nmE_w (by omega) hE3 W4
  have hpv4 := pV_w hpv3 W4
  rw [x7', x8', p_bd, p_bd]
  rcases hr with ⟨rfl, hs7⟩ | ⟨rfl, hfl⟩
  rotate_left
  · rw [if_pos rfl, if_pos rfl]
    exact Or.inl ⟨l7, l8, rfl, rfl, hpv4, hfl⟩
  rw [if_neg (show ¬ (1 : Int32) = 0 by decide), if_neg (show ¬ (1 : Int32) = 0 by decide)]
  have Z4 := wF_tr Z3 W4
  -- the other
  have g3123 : l8.1 1 3123 = nI a := by rw [Z4.2.2.2.1 1 (by omega), p_wI1, if_neg (by omega), p_wI1, if_pos ⟨rfl, rfl⟩]
  rw [g3123]
  rcases w_other (x := 3125) (a := a) (by omega) (by omega) hE4 hs7 with ⟨c, l9, l10, ck, -, x9, x10, W5, hs9⟩ | ⟨y, l9, l10, x9, x10, W5, hfl⟩
  rotate_left
  · rw [x9, x10, p_bd, p_bd, if_pos rfl, if_pos rfl]
    exact Or.inl ⟨l9, l10, rfl, rfl, pV_w (pV_2 hpv4 (by omega) _) W5, hfl⟩
  rw [x9, x10, p_bd, p_bd, if_neg (nI_nm1 (by omega)), if_neg (show ¬ (1 : Int32) = 0 by decide)]
  have hpv5 := pV_w (pV_2 hpv4 (k := 3125) (by omega) (nI c)) W5
  have Z5 := wF_tr (wF_w2 Z4 3125 (nI c)) W5
  -- weight
  obtain ⟨r, o1, o2, x11, x12, W6, hr⟩ := w_word hs9 (c := 12) (by omega)
  have x11' : fX4_wantWord rfC 137 12 l9 = some (r, o1) := x11
  have x12' : fX12_wantWord rfM 0 14 l10 = some (r, o2) := x12
  have hpv6 := pV_w hpv5 W6
  rw [x11', x12', p_bd, p_bd]
  rcases hr with ⟨rfl, hs11⟩ | ⟨rfl, hfl⟩
  rotate_left
  · rw [if_pos rfl, if_pos rfl]
    exact Or.inl ⟨o1, o2, rfl, rfl, hpv6, hfl⟩
  rw [if_neg (show ¬ (1 : Int32) = 0 by decide), if_neg (show ¬ (1 : Int32) = 0 by decide)]
  have Z6 := wF_tr Z5 W6
  -- the number
  rcases w_num hs11 (lo := 1) (hi := 99) (x := 3126) (by omega) (by omega) (by omega) with ⟨v, o3, o4, v1, v9, y1, y2, W7, hs13⟩ | ⟨o3, o4, y1, y2, W7, hfl⟩
  rotate_left
  · have y1' : fX4_wantNumber rfC 137 1 99 o1 = some (-1, o3) := y1
    have y2' : fX12_number rfM 0 (nI 3126) 1 99 o2 = some (0, o4) := y2
    rw [y1', y2', p_bd, p_bd, if_pos rfl, if_pos rfl]
    exact Or.inl ⟨o3, o4, rfl, rfl, pV_w hpv6 W7, hfl⟩
  have y1' : fX4_wantNumber rfC 137 1 99 o1 = some (nI v, o3) := y1
  have y2' : fX12_number rfM 0 (nI 3126) 1 99 o2 = some (1, o4) := y2
  rw [y1', y2', p_bd, p_bd, if_neg (nI_nm1 (by omega)), if_neg (show ¬ (1 : Int32) = 0 by decide)]
  have hpv7 := pV_w (pV_2 hpv6 (k := 3126) (by omega) (nI v)) W7
  have Z7 := wF_tr (wF_w2 Z6 3126 (nI v)) W7
  -- done
  have r23 : o4.1 1 3123 = nI a := by rw [Z7.2.2.2.1 1 (by omega), p_wI1, if_neg (by omega), p_wI1, if_neg (by omega), p_wI1, if_neg (by omega), p_wI1, if_pos ⟨rfl, rfl⟩]
  have r24 : o4.1 1 3124 = nI b := by rw [Z7.2.2.2.1 1 (by omega), p_wI1, if_neg (by omega), p_wI1, if_neg (by omega), p_wI1, if_pos ⟨rfl, rfl⟩]
  have r25 : o4.1 1 3125 = nI c := by rw [Z7.2.2.2.1 1 (by omega), p_wI1, if_neg (by omega), p_wI1, if_pos ⟨rfl, rfl⟩]
  have r26 : o4.1 1 3126 = nI v := by rw [Z7.2.2.2.1 1 (by omega), p_wI1, if_pos ⟨rfl, rfl⟩]
  have e2583 : (2583 : Int32) + 2 * (6 * nI a + nI b) = nI (2583 + 2 * (6 * a + b)) := by
    rw [mL_6, nI_add', mL_2]; exact nI_add 2583 _
  have r26' : (o_wI o4 1 (2583 + 2 * (6 * a + b)) (nI c)).1 1 3126 = nI v := by rw [p_wI1, if_neg (by omega)]; exact r26
  unfold fX8_setActs
  rw [show rfC 30 13 = 35 by decide, show rfC 30 14 = 36 by decide]
  simp (disch := omega) only [mR_6, nI_add', nI_toInt, nI_clamp, p_ck, r23, r24, r25, e2583, p_seq, aR_1, r26', p_bd]
  rw [show a * 6 + b = 6 * a + b by omega]
  refine Or.inr ⟨s, h, p, l, w, _, _, rfl, rfl, st_w2 (st_w2 (st_w1 (st_w1 hs13 (by omega) (6 * a + b) (nI c)) (by omega) (6 * a + b) (nI v)) _ _) _ _, ?_, pV_2 (pV_2 (pV_1 (pV_1 hpv7 (by omega) _ _) (by omega) _ _) (by omega) _) (by omega) _⟩
  refine nx_c (nx_act (c := 6 * a + b) (g' := bV (o_wI (o_wI o3 35 (6 * a + b) (nI c)) 36 (6 * a + b) (nI v)) 30) (a' := mS (o_wI (o_wI o4 1 (2583 + 2 * (6 * a + b)) (nI c)) 1 (2583 + 2 * (6 * a + b) + 1) (nI v)) 2504) hnw ⟨by omega, by omega⟩ ?_ (fun j k hj z1 z2 => ?_) ?_ ?_ (fun k hk z1 z2 => ?_)) (fun _ _ => rfl) (fun _ _ => rfl) (fun k hk => ?_) (fun k hk => ?_)
  · have G5 : bV (o_wI (o_wI o3 35 (6 * a + b) (nI c)) 36 (6 * a + b) (nI v)) 30 5 (6 * a + b) = nI c := by
      show (o_wI (o_wI o3 35 (6 * a + b) (nI c)) 36 (6 * a + b) (nI v)).1 (30 + 5) (6 * a + b) = _
      rw [p_wI_o (by omega), p_wI1, if_pos ⟨rfl, rfl⟩]
    have G6 : bV (o_wI (o_wI o3 35 (6 * a + b) (nI c)) 36 (6 * a + b) (nI v)) 30 6 (6 * a + b) = nI v := by
      show (o_wI (o_wI o3 35 (6 * a + b) (nI c)) 36 (6 * a + b) (nI v)).1 (30 + 6) (6 * a + b) = _
      rw [p_wI1, if_pos ⟨rfl, rfl⟩]
    rw [G5, G6]
    exact ⟨⟨by rw [nI_toInt (by omega)]; omega, by rw [nI_toInt (by omega)]; omega⟩, by rw [nI_toInt (by omega)]; omega, by rw [nI_toInt (by omega)]; omega⟩
  · show (o_wI (o_wI o3 35 (6 * a + b) (nI c)) 36 (6 * a + b) (nI v)).1 (30 + j) k = m1.1 (30 + j) k
    rw [p_wI1, if_neg (by omega), p_wI1, if_neg (by omega), Z7.1 _ (by omega)]
  · show (o_wI (o_wI o4 1 (2583 + 2 * (6 * a + b)) (nI c)) 1 (2583 + 2 * (6 * a + b) + 1) (nI v)).1 1 (2504 + (79 + 2 * (6 * a + b))) = (o_wI (o_wI o3 35 (6 * a + b) (nI c)) 36 (6 * a + b) (nI v)).1 (30 + 5) (6 * a + b)
    rw [p_wI1, if_neg (by omega), p_wI1, if_pos ⟨rfl, by omega⟩, p_wI_o (by omega), p_wI1, if_pos ⟨rfl, rfl⟩]
  · show (o_wI (o_wI o4 1 (2583 + 2 * (6 * a + b)) (nI c)) 1 (2583 + 2 * (6 * a + b) + 1) (nI v)).1 1 (2504 + (80 + 2 * (6 * a + b))) = (o_wI (o_wI o3 35 (6 * a + b) (nI c)) 36 (6 * a + b) (nI v)).1 (30 + 6) (6 * a + b)
    rw [p_wI1, if_pos ⟨rfl, by omega⟩, p_wI1, if_pos ⟨rfl, rfl⟩]
  · show (o_wI (o_wI o4 1 (2583 + 2 * (6 * a + b)) (nI c)) 1 (2583 + 2 * (6 * a + b) + 1) (nI v)).1 1 (2504 + k) = m2.1 1 (2504 + k)
    rw [p_wI1, if_neg (by omega), p_wI1, if_neg (by omega), Z7.2.2.2.1 1 (by omega), p_wI1, if_neg (by omega), p_wI1, if_neg (by omega), p_wI1, if_neg (by omega), p_wI1, if_neg (by omega)]
  · show o3.2 49 k = m1.2 49 k
    rw [Z7.2.2.1 49 (by omega)]
  · show o4.2 2 (64 + k) = m2.2 2 (64 + k)
    rw [Z7.2.2.2.2.2]
    rfl
theorem it_letter (hv : vSt T n μC μM s h p l w m1 m2) (ha : adv n m1 m2) : itO T n μC μM (fX9_takeLetter rfC 139 m1) (fX12_aLetter rfM 0 m2) := by
  obtain ⟨hst, hnw, hpv⟩ := hv
  have hE := nmE_x hnw
  have hb6 := hE.2.2.1
  have hnw0 := hnw
  obtain ⟨⟨b1, b2, b3, b4, b5, b6, bb⟩, -, ⟨v0, v1, v2, v3, v4, -⟩, -, -, d3, -⟩ := hnw0
  have e508 : m2.1 1 2508 = nI w := v4
  have e37 : m1.1 37 0 = nI w := b5
  have h37 : rfC 30 15 = 37 := by decide
  have h33 : rfC 30 11 = 33 := by decide
  unfold fX9_takeLetter fX12_aLetter fX9_takeLetter_j155
  rw [rc139_0, rc139_1, qm_0, e508, h37, h33, e1_full rfC m1 e37 (by omega), p_bd, bI_if]
  by_cases h12 : w = 12
  · rw [if_pos h12, if_pos (show nI w = 12 by rw [h12]; rfl)]
    obtain ⟨l1, l2, q1, q2, hF, hf⟩ := w_fail hst (x := 6) (by omega) (by omega)
    rw [show (6 : Int32) = nI 6 from rfl, q1, q2]
    exact Or.inl ⟨l1, l2, rfl, rfl, pV_w hpv hF, hf⟩
  rw [if_neg h12, if_neg (show ¬ nI w = 12 by rw [show (12 : Int32) = nI 12 from rfl, nI_inj (by omega) (by omega)]; exact h12), mL_4, show (2655 : Int32) + nI (4 * w) = nI (2655 + 4 * w) from nI_add 2655 (4 * w)]
  obtain ⟨k1, k2, q1, q2, W0, hs0⟩ := w_next hst ha
  have hE0 := nmE_w (by omega) hE W0
  have hpv0 := pV_w hpv W0
  rw [q1, q2, p_bd, p_bd]
  have prs : ∀ (X : Nat) (q1 q2 : o_Mem), nmE 30 64 2504 s h p q1 q2 → fX12_personTo rfM 0 (nI X) q2 = fX12_oldOne rfM 0 (nI 74) (nI p) (nI X) q2 := fun X q1 q2 hq => by
    unfold fX12_personTo
    rw [qm_0, show q2.1 1 2506 = nI p from hq.2.1.2.2]
    exact to_old
  -- from
  have B1 := k_pers k30 (by omega) (x := 2655 + 4 * w) (by omega) hE0 hs0
  rw [← prs (2655 + 4 * w) k1 k2 hE0] at B1
  rcases B1 with ⟨a, l1, l2, ak, -, x1, x2, W1, hs1⟩ | ⟨y, l1, l2, x1, x2, W1, hfl⟩
  rotate_left
  · rw [x1, x2, p_bd, p_bd, if_pos rfl, if_pos rfl]
    exact Or.inl ⟨l1, l2, rfl, rfl, pV_w (pV_2 hpv0 (by omega) _) W1, hfl⟩
  rw [x1, x2, p_bd, p_bd, if_neg (nI_nm1 (by omega)), if_neg (show ¬ (1 : Int32) = 0 by decide)]
  have hE1 := nmE_w (by omega) (nmE_2 hE0 (k := 2655 + 4 * w) (by omega) (nI a)) W1
  have hpv1 := pV_w (pV_2 hpv0 (k := 2655 + 4 * w) (by omega) (nI a)) W1
  have Z1 : wF m1 (o_wI m2 1 (2655 + 4 * w) (nI a)) l1 l2 := wF_tr (wF_w2 W0 _ (nI a)) W1
  have ga : l2.1 1 (2655 + 4 * w) = nI a := by rw [Z1.2.2.2.1 1 (by omega), p_wI1, if_pos ⟨rfl, rfl⟩]
  simp (disch := omega) only [nI_toInt, nI_clamp, p_ck, aR_1, aR_2, aR_3, ga]
  -- to
  rcases w_other (x := 2655 + 4 * w + 1) (a := a) (by omega) (by omega) hE1 hs1 with ⟨c, l3, l4, ck, -, x3, x4, W2, hs3⟩ | ⟨y, l3, l4, x3, x4, W2, hfl⟩
  rotate_left
  · rw [x3, x4, p_bd, p_bd, if_pos rfl, if_pos rfl]
    exact Or.inl ⟨l3, l4, rfl, rfl, pV_w (pV_2 hpv1 (by omega) _) W2, hfl⟩
  rw [x3, x4, p_bd, p_bd, if_neg (nI_nm1 (by omega)), if_neg (show ¬ (1 : Int32) = 0 by decide)]
  have hE2 := nmE_w (by omega) (nmE_2 hE1 (k := 2655 + 4 * w + 1) (by omega) (nI c)) W2
  have hpv2 := pV_w (pV_2 hpv1 (k := 2655 + 4 * w + 1) (by omega) (nI c)) W2
  have Z2 := wF_tr (wF_w2 Z1 (2655 + 4 * w + 1) (nI c)) W2
  -- weight
  obtain ⟨r, l5, l6, x5, x6, W3, hr⟩ := w_word hs3 (c := 12) (by omega)
  have x5' : fX4_wantWord rfC 137 12 l3 = some (r, l5) := x5
  have x6' : fX12_wantWord rfM 0 14 l4 = some (r, l6) := x6
  have hE3 := nmE_w (by omega) hE2 W3
  have hpv3 := pV_w hpv2 W3
  rw [x5', x6', p_bd, p_bd]
  rcases hr with ⟨rfl, hs5⟩ | ⟨rfl, hfl⟩
  rotate_left
  · rw [if_pos rfl, if_pos rfl]
    exact Or.inl ⟨l5, l6, rfl, rfl, hpv3, hfl⟩
  rw [if_neg (show ¬ (1 : Int32) = 0 by decide), if_neg (show ¬ (1 : Int32) = 0 by decide)]
  have Z3 := wF_tr Z2 W3
  -- its number
  rcases w_num hs5 (lo := 1) (hi := 99) (x := 2655 + 4 * w + 2) (by omega) (by omega) (by omega) with ⟨v, l7, l8, hv1, hv9, x7, x8, W4, hs7⟩ | ⟨l7, l8, x7, x8, W4, hfl⟩
  rotate_left
  · have x7' : fX4_wantNumber rfC 137 1 99 l5 = some (-1, l7) := x7
    have x8' : fX12_number rfM 0 (nI (2655 + 4 * w + 2)) 1 99 l6 = some (0, l8) := x8
    rw [x7', x8', p_bd, p_bd, if_pos rfl, if_pos rfl]
    exact Or.inl ⟨l7, l8, rfl, rfl, pV_w hpv3 W4, hfl⟩
  have x7' : fX4_wantNumber rfC 137 1 99 l5 = some (nI v, l7) := x7
  have x8' : fX12_number rfM 0 (nI (2655 + 4 * w + 2)) 1 99 l6 = some (1, l8) := x8
  rw [x7', x8', p_bd, p_bd, if_neg (nI_nm1 (by omega)), if_neg (show ¬ (1 : Int32) = 0 by decide)]
  have hE4 := nmE_w (by omega) (nmE_2 hE3 (k := 2655 + 4 * w + 2) (by omega) (nI v)) W4
  have hpv4 := pV_w (pV_2 hpv3 (k := 2655 + 4 * w + 2) (by omega) (nI v)) W4
  have Z4 := wF_tr (wF_w2 Z3 (2655 + 4 * w + 2) (nI v)) W4
  have ga8 : l8.1 1 (2655 + 4 * w) = nI a := by rw [Z4.2.2.2.1 1 (by omega), p_wI1, if_neg (by omega), p_wI1, if_neg (by omega), p_wI1, if_pos ⟨rfl, rfl⟩]
  obtain ⟨ha1, ha2⟩ := d3 a ak
  have ghd : l8.1 1 (2529 + a) = bV m1 30 3 a := by
    rw [Z4.2.2.2.1 1 (by omega), p_wI1, if_neg (by omega), p_wI1, if_neg (by omega), p_wI1, if_neg (by omega), show 2529 + a = 2504 + (25 + a) by omega]
    exact ha2
  have ghc : l7.1 33 a = bV m1 30 3 a := by rw [Z4.1 33 (by omega)]; rfl
  simp (disch := omega) only [ga8, show (2529 : Int32) + nI a = nI (2529 + a) from nI_add 2529 a, nI_toInt, nI_clamp, p_ck, p_seq, ghd, ghc]
  have hs7' := st_w2 hs7 (2655 + 4 * w + 3) (bV m1 30 3 a)
  have hE5 := nmE_2 hE4 (k := 2655 + 4 * w + 3) (by omega) (bV m1 30 3 a)
  have hpv5 := pV_2 hpv4 (k := 2655 + 4 * w + 3) (by omega) (bV m1 30 3 a)
  have Z5 := wF_w2 Z4 (2655 + 4 * w + 3) (bV m1 30 3 a)
  generalize hl8 : o_wI l8 1 (2655 + 4 * w + 3) (bV m1 30 3 a) = l8' at hs7' hE5 hpv5 Z5 ⊢
  -- how it ends
  have fin : ∀ (y : Int32) (o1 o2 : o_Mem), inR y h → stT T n o1 o2 → pV μC μM o1 o2 → (∀ i, i ≠ 137 → o1.1 i = m1.1 i) → o1.2 49 = m1.2 49 → (∀ k, o2.1 1 k = if k = 2655 + 4 * w + 3 then y else if k = 2655 + 4 * w + 2 then nI v else if k = 2655 + 4 * w + 1 then nI c else if k = 2655 + 4 * w then nI a else m2.1 1 k) → o2.2 = m2.2 → itO T n μC μM (o_bd (fX1_add rfC 37 (nI a) (nI c) (nI v) y (-1) o1) fun _ μ1 => o_bd (fX4_wantClose rfC 137 μ1) fun r1 μ2 => some (r1, μ2)) (fX12_aLetter_j133 rfM 0 o2) := fun y o1 o2 hy hs hp f1 f2 f3 f4 => by
    have g37 : o1.1 37 0 = nI w := by rw [f1 37 (by omega)]; exact e37
    have g508 : o2.1 1 2508 = nI w := by rw [f3, if_neg (by omega), if_neg (by omega), if_neg (by omega), if_neg (by omega)]; exact e508
    unfold fX12_aLetter_j133
    rw [e1_add k37 o1 g37 (by omega), p_bd, qm_0, g508, aR_1, p_seq]
    have A0 : ∀ i, i < 37 ∨ 42 < i → (addL o1 37 w (nI a) (nI c) (nI v) y (-1)).1 i = o1.1 i := fun i hi => addL_o (by omega)
    have hst' : stT T n (addL o1 37 w (nI a) (nI c) (nI v) y (-1)) o2 := by
      unfold addL
      exact st_w1 (st_w1 (st_w1 (st_w1 (st_w1 (st_w1 hs (by omega) _ _) (by omega) _ _) (by omega) _ _) (by omega) _ _) (by omega) _ _) (by omega) _ _
    have hpv' : pV μC μM (addL o1 37 w (nI a) (nI c) (nI v) y (-1)) o2 := by
      unfold addL
      exact pV_1 (pV_1 (pV_1 (pV_1 (pV_1 (pV_1 hp (by omega) _ _) (by omega) _ _) (by omega) _ _) (by omega) _ _) (by omega) _ _) (by omega) _ _
    have G : ∀ j k, j < 20 → bV (addL o1 37 w (nI a) (nI c) (nI v) y (-1)) 30 j k = if j = 7 ∧ k = 0 then nI (w + 1) else if j = 12 ∧ k = w then -1 else if j = 11 ∧ k = w then y else if j = 10 ∧ k = w then nI v else if j = 9 ∧ k = w then nI c else if j = 8 ∧ k = w then nI a else m1.1 (30 + j) k := fun j k hj => by
      show (addL o1 37 w (nI a) (nI c) (nI v) y (-1)).1 (30 + j) k = _
      unfold addL
      simp only [p_wI1]
      by_cases e0 : j = 7 ∧ k = 0
      · rw [if_pos e0, if_pos (by omega)]
      · rw [if_neg e0, if_neg (by omega)]
        by_cases e1 : j = 12 ∧ k = w
        · rw [if_pos e1, if_pos (by omega)]
        · rw [if_neg e1, if_neg (by omega)]
          by_cases e2 : j = 11 ∧ k = w
          · rw [if_pos e2, if_pos (by omega)]
          · rw [if_neg e2, if_neg (by omega)]
            by_cases e3 : j = 10 ∧ k = w
            · rw [if_pos e3, if_pos (by omega)]
            · rw [if_neg e3, if_neg (by omega)]
              by_cases e4 : j = 9 ∧ k = w
              · rw [if_pos e4, if_pos (by omega)]
              · rw [if_neg e4, if_neg (by omega)]
                by_cases e5 : j = 8 ∧ k = w
                · rw [if_pos e5, if_pos (by omega)]
                · rw [if_neg e5, if_neg (by omega), f1 _ (by omega)]
    refine Or.inr ⟨s, h, p, l, w + 1, _, _, rfl, rfl, st_w2 hst' 2508 (nI (w + 1)), ?_, pV_2 hpv' (by omega) _⟩
    have G8 : bV (addL o1 37 w (nI a) (nI c) (nI v) y (-1)) 30 8 w = nI a := by rw [G 8 w (by omega), if_neg (by omega), if_neg (by omega), if_neg (by omega), if_neg (by omega), if_neg (by omega), if_pos ⟨rfl, rfl⟩]
    have G9 : bV (addL o1 37 w (nI a) (nI c) (nI v) y (-1)) 30 9 w = nI c := by rw [G 9 w (by omega), if_neg (by omega), if_neg (by omega), if_neg (by omega), if_neg (by omega), if_pos ⟨rfl, rfl⟩]
    have G10 : bV (addL o1 37 w (nI a) (nI c) (nI v) y (-1)) 30 10 w = nI v := by rw [G 10 w (by omega), if_neg (by omega), if_neg (by omega), if_neg (by omega), if_pos ⟨rfl, rfl⟩]
    have G11 : bV (addL o1 37 w (nI a) (nI c) (nI v) y (-1)) 30 11 w = y := by rw [G 11 w (by omega), if_neg (by omega), if_neg (by omega), if_pos ⟨rfl, rfl⟩]
    refine nx_c (nx_letter (g' := bV (addL o1 37 w (nI a) (nI c) (nI v) y (-1)) 30) (a' := mS (o_wI o2 1 2508 (nI (w + 1))) 2504) hnw (by omega) ?_ ?_ (fun j k hj z1 z2 => ?_) ?_ (fun j hj => ?_) (fun k z1 z2 => ?_)) (fun _ _ => rfl) (fun _ _ => rfl) (fun k hk => ?_) (fun k hk => ?_)
    · rw [G8, G9, G10, G11]
      exact ⟨⟨by rw [nI_toInt (by omega)]; omega, by rw [nI_toInt (by omega)]; omega⟩, ⟨by rw [nI_toInt (by omega)]; omega, by rw [nI_toInt (by omega)]; omega⟩, ⟨by rw [nI_toInt (by omega)]; omega, by rw [nI_toInt (by omega)]; omega⟩, hy⟩
    · rw [G 7 0 (by omega), if_pos ⟨rfl, rfl⟩]
    · rw [G j k hj, if_neg z1, if_neg (by omega), if_neg (by omega), if_neg (by omega), if_neg (by omega), if_neg (by omega)]
      rfl
    · show (o_wI o2 1 2508 (nI (w + 1))).1 1 (2504 + 4) = _
      rw [p_wI1, if_pos ⟨rfl, rfl⟩]
    · show (o_wI o2 1 2508 (nI (w + 1))).1 1 (2504 + (151 + 4 * w + j)) = _
      rw [p_wI1, if_neg (by omega), f3]
      rcases (show j = 0 ∨ j = 1 ∨ j = 2 ∨ j = 3 by omega) with rfl | rfl | rfl | rfl
      · rw [if_neg (by omega), if_neg (by omega), if_neg (by omega), if_pos (by omega)]; exact G8.symm
      · rw [if_neg (by omega), if_neg (by omega), if_pos (by omega)]; exact G9.symm
      · rw [if_neg (by omega), if_pos (by omega)]; exact G10.symm
      · rw [if_pos (by omega)]; exact G11.symm
    · show (o_wI o2 1 2508 (nI (w + 1))).1 1 (2504 + k) = m2.1 1 (2504 + k)
      rw [p_wI1, if_neg (by omega), f3, if_neg (by omega), if_neg (by omega), if_neg (by omega), if_neg (by omega)]
    · show o1.2 49 k = m1.2 49 k
      rw [f2]
    · show o2.2 2 (64 + k) = m2.2 2 (64 + k)
      rw [f4]
  have F3 : ∀ (y : Int32) (o2 : o_Mem), (∀ k, o2.1 1 k = if k = 2655 + 4 * w + 3 then y else l8.1 1 k) → ∀ k, o2.1 1 k = if k = 2655 + 4 * w + 3 then y else if k = 2655 + 4 * w + 2 then nI v else if k = 2655 + 4 * w + 1 then nI c else if k = 2655 + 4 * w then nI a else m2.1 1 k := fun y o2 hk k => by
    rw [hk k, Z4.2.2.2.1 1 (by omega), p_wI1, p_wI1, p_wI1]
    by_cases e0 : k = 2655 + 4 * w + 3
    · rw [if_pos e0, if_pos e0]
    · rw [if_neg e0, if_neg e0]
      by_cases e1 : k = 2655 + 4 * w + 2
      · rw [if_pos ⟨rfl, e1⟩, if_pos e1]
      · rw [if_neg (fun z => e1 z.2), if_neg e1]
        by_cases e2 : k = 2655 + 4 * w + 1
        · rw [if_pos ⟨rfl, e2⟩, if_pos e2]
        · rw [if_neg (fun z => e2 z.2), if_neg e2]
          by_cases e3 : k = 2655 + 4 * w
          · rw [if_pos ⟨rfl, e3⟩, if_pos e3]
          · rw [if_neg (fun z => e3 z.2), if_neg e3]
  have l8k : ∀ k, l8'.1 1 k = if k = 2655 + 4 * w + 3 then bV m1 30 3 a else l8.1 1 k := fun k => by
    rw [← hl8, p_wI1]
    by_cases e : k = 2655 + 4 * w + 3
    · rw [if_pos ⟨rfl, e⟩, if_pos e]
    · rw [if_neg (fun z => e z.2), if_neg e]
  rcases w_there hs7' (c := 7) (by omega) with ⟨hw1, o1, o2, y1, y2, W5, hs9⟩ | ⟨hw1, y2⟩
  · have hw1' : l7.1 137 8 = 7 := hw1
    have y2' : fX12_isThere rfM 0 10 l8' = some (1, o2) := y2
    have hE6 := nmE_w (by omega) hE5 W5
    have hpv6 := pV_w hpv5 W5
    have hto : fX12_handTo rfM 0 (nI (2655 + 4 * w + 3)) o2 = fX12_oldOne rfM 0 (nI 70) (nI h) (nI (2655 + 4 * w + 3)) o2 := by
      unfold fX12_handTo
      rw [qm_0, show o2.1 1 2505 = nI h from hE6.2.1.2.1]
      exact to_old
    rw [if_pos hw1', y1, y2', p_bd, p_bd, if_neg (show ¬ (1 : Int32) = 0 by decide), hto]
    rcases k_hand k30 (by omega) (x := 2655 + 4 * w + 3) (by omega) hE6 hs9 with ⟨u, o3, o4, uk, -, z1, z2, W6, hs11⟩ | ⟨y, o3, o4, z1, z2, W6, hfl⟩
    · have z1' : fX4_wantKnown rfC 137 30 1 (-1) o1 = some (nI u, o3) := z1
      have z2' : fX12_oldOne rfM 0 (nI 70) (nI h) (nI (2655 + 4 * w + 3)) o2 = some (1, o4) := z2
      rw [z1', z2', p_bd, p_bd, if_neg (nI_nm1 (by omega)), if_neg (show ¬ (1 : Int32) = 0 by decide)]
      refine fin (nI u) o3 o4 ⟨by rw [nI_toInt (by omega)]; omega, by rw [nI_toInt (by omega)]; omega⟩ hs11 (pV_w (pV_2 hpv6 (by omega) _) W6) (fun i hi => by rw [W6.1 i hi, W5.1 i hi, Z4.1 i hi]) (by rw [W6.2.2.1 49 (by omega), W5.2.2.1 49 (by omega), Z4.2.2.1 49 (by omega)]) (F3 _ _ (fun k => ?_)) (by rw [W6.2.2.2.2.2, p_wI2, W5.2.2.2.2.2, ← hl8, p_wI2, Z4.2.2.2.2.2]; rfl)
      rw [W6.2.2.2.1 1 (by omega), p_wI1]
      by_cases e : k = 2655 + 4 * w + 3
      · rw [if_pos ⟨rfl, e⟩, if_pos e]
      · rw [if_neg (fun z => e z.2), if_neg e, W5.2.2.2.1 1 (by omega), l8k, if_neg e]
    · have z1' : fX4_wantKnown rfC 137 30 1 (-1) o1 = some (-1, o3) := z1
      have z2' : fX12_oldOne rfM 0 (nI 70) (nI h) (nI (2655 + 4 * w + 3)) o2 = some (0, o4) := z2
      rw [z1', z2', p_bd, p_bd, if_pos rfl, if_pos rfl]
      exact Or.inl ⟨o3, o4, rfl, rfl, pV_w (pV_2 hpv6 (by omega) _) W6, hfl⟩
  · have hw1' : ¬ l7.1 137 8 = 7 := hw1
    have y2' : fX12_isThere rfM 0 10 l8' = some (0, l8') := y2
    rw [if_neg hw1', y2', p_bd, if_pos rfl]
    exact fin (bV m1 30 3 a) l7 l8' ha1 hs7' hpv5 (fun i hi => Z4.1 i hi) (Z4.2.2.1 49 (by omega)) (F3 _ _ l8k) (by rw [← hl8, p_wI2, Z4.2.2.2.2.2]; rfl)
end ac
