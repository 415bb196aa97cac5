/-! ===== more parts of a VALLEY ===== -/
section mo
variable {T : Nat → Int32} {n s h p l w : Nat} {μC μM m1 m2 l1 l2 : o_Mem}
theorem wF_w1 (a : wF m1 m2 l1 l2) {c : Nat} (hc : c ≠ 137) (k : Nat) (x : Int32) : wF (o_wI m1 c k x) m2 (o_wI l1 c k x) l2 := ⟨fun i hi => by funext j; rw [p_wI1, p_wI1, a.1 i hi], ⟨fun q hq => by rw [p_wI_o (fun z => hc z.symm), p_wI_o (fun z => hc z.symm)]; exact a.2.1.1 q hq, by rw [p_wI_o (fun z => hc z.symm), p_wI_o (fun z => hc z.symm)]; exact a.2.1.2⟩, a.2.2.1, a.2.2.2⟩
theorem wF_ov {c k : Nat} {y0 : Int32} (a : wF (o_wI m1 c k y0) m2 l1 l2) (hc : c ≠ 137) (x : Int32) : wF (o_wI m1 c k x) m2 (o_wI l1 c k x) l2 := ⟨fun i hi => by
    funext j
    rw [p_wI1, p_wI1, a.1 i hi, p_wI1]
    by_cases e : i = c ∧ j = k
    · rw [if_pos e, if_pos e]
    · rw [if_neg e, if_neg e, if_neg e], ⟨fun q hq => by rw [p_wI_o (fun z => hc z.symm), p_wI_o (fun z => hc z.symm), a.2.1.1 q hq, p_wI_o (fun z => hc z.symm)], by
    have := a.2.1.2
    rw [p_wI_o (fun z => hc z.symm)] at this
    rw [p_wI_o (fun z => hc z.symm), p_wI_o (fun z => hc z.symm)]
    exact this⟩, a.2.2.1, a.2.2.2⟩
theorem wF_w2 (a : wF m1 m2 l1 l2) (k : Nat) (x : Int32) : wF m1 (o_wI m2 1 k x) l1 (o_wI l2 1 k x) := ⟨a.1, a.2.1, a.2.2.1, fun i hi => by funext j; rw [p_wI1, p_wI1, a.2.2.2.1 i hi], fun q h1 h2 h3 h4 h5 h6 => by rw [p_wI_o (by omega), p_wI_o (by omega)]; exact a.2.2.2.2.1 q h1 h2 h3 h4 h5 h6, a.2.2.2.2.2⟩
/-- the NAMES there are, where they are looked for -/
def nmE (v t c2 : Nat) (s h p : Nat) (m1 m2 : o_Mem) : Prop := (m1.1 v 0 = nI s ∧ m1.1 v 1 = nI h ∧ m1.1 v 2 = nI p) ∧ (m2.1 1 c2 = nI s ∧ m2.1 1 (c2 + 1) = nI h ∧ m2.1 1 (c2 + 2) = nI p) ∧ (s ≤ 6 ∧ h ≤ 4 ∧ p ≤ 6) ∧ (∀ k, k < s → nmR (m1.2 (v + 19) (6 * 0 + k)) (m2.2 2 (t + k))) ∧ (∀ k, k < h → nmR (m1.2 (v + 19) (6 * 1 + k)) (m2.2 2 (t + 6 + k))) ∧ (∀ k, k < p → nmR (m1.2 (v + 19) (6 * 2 + k)) (m2.2 2 (t + 10 + k)))
theorem nmE_w {v t c2 : Nat} (hv : v + 19 < 137) (a : nmE v t c2 s h p m1 m2) (b : wF m1 m2 l1 l2) : nmE v t c2 s h p l1 l2 := by
  unfold nmE at a ⊢
  rw [b.1 v (by omega), b.2.2.2.1 1 (by omega), b.2.2.1 (v + 19) (by omega), b.2.2.2.2.2]
  exact a
theorem nmE_1 {v t c2 : Nat} (a : nmE v t c2 s h p m1 m2) {c : Nat} (hc : c ≠ v) (k : Nat) (x : Int32) : nmE v t c2 s h p (o_wI m1 c k x) m2 := by
  unfold nmE at a ⊢
  rw [p_wI_o (fun z => hc z.symm)]
  exact a
theorem nmE_2 {v t c2 : Nat} (a : nmE v t c2 s h p m1 m2) {k : Nat} (hk : k < c2 ∨ c2 + 3 ≤ k) (x : Int32) : nmE v t c2 s h p m1 (o_wI m2 1 k x) := by
  unfold nmE at a ⊢
  rw [p_wI1, p_wI1, p_wI1, if_neg (by omega), if_neg (by omega), if_neg (by omega)]
  exact a
theorem nmE_x (hx : nwS s h p l w m1 m2) : nmE 30 64 2504 s h p m1 m2 := by
  obtain ⟨⟨b1, b2, b3, -, -, -, bb⟩, -, ⟨v0, v1, v2, -⟩, -, -, -, -, -, -, -, d8⟩ := hx
  refine ⟨⟨b1, b2, b3⟩, ⟨v0, v1, v2⟩, by omega, fun k hk => ?_, fun k hk => ?_, fun k hk => ?_⟩
  · rw [show 6 * 0 + k = k by omega]; exact d8.1 k hk
  · have this : nmR (m1.2 49 (6 + k)) (m2.2 2 (64 + (6 + k))) := d8.2.1 k hk
    rw [show 64 + (6 + k) = 64 + 6 + k by omega] at this
    exact this
  · have this : nmR (m1.2 49 (12 + k)) (m2.2 2 (64 + (10 + k))) := d8.2.2 k hk
    rw [show 64 + (10 + k) = 64 + 10 + k by omega] at this
    exact this
/-- a known STRIKE, HAND, PERSON -/
theorem k_strike {v t c2 x : Nat} (hv : kdC v = .inl 8) (ht : t + 16 ≤ 96) (hx : x < 3756) (a : nmE v t c2 s h p m1 m2) (hs : stT T n m1 m2) : oldP T n m1 m2 s x (-1) (fX4_wantKnown rfC 137 v 0 (-1) m1) (fX12_oldOne rfM 0 (nI t) (nI s) (nI x) m2) := w_old hv (kd := 0) (by omega) a.1.1 (by have := a.2.2.1; omega) (by omega) hx a.2.2.2.1 hs
theorem k_hand {v t c2 x : Nat} (hv : kdC v = .inl 8) (ht : t + 16 ≤ 96) (hx : x < 3756) (a : nmE v t c2 s h p m1 m2) (hs : stT T n m1 m2) : oldP T n m1 m2 h x (-1) (fX4_wantKnown rfC 137 v 1 (-1) m1) (fX12_oldOne rfM 0 (nI (t + 6)) (nI h) (nI x) m2) := w_old hv (kd := 1) (by omega) a.1.2.1 (by have := a.2.2.1; omega) (by omega) hx a.2.2.2.2.1 hs
theorem k_pers {v t c2 x : Nat} (hv : kdC v = .inl 8) (ht : t + 16 ≤ 96) (hx : x < 3756) (a : nmE v t c2 s h p m1 m2) (hs : stT T n m1 m2) : oldP T n m1 m2 p x (-1) (fX4_wantKnown rfC 137 v 2 (-1) m1) (fX12_oldOne rfM 0 (nI (t + 10)) (nI p) (nI x) m2) := w_old hv (kd := 2) (by omega) a.1.2.2 (by have := a.2.2.1; omega) (by omega) hx a.2.2.2.2.2 hs
theorem it_hand (hv : vSt T n μC μM s h p l w m1 m2) (ha : adv n m1 m2) : itO T n μC μM (fX9_takeHand rfC 139 m1) (o_bd (fX12_newOne rfM 0 1 4 6 m2) fun r μ => some (r, o_wI μ 1 2505 (μ.1 1 2505 + (if r = 0 then 0 else 1)))) := by
  obtain ⟨hst, hnw, hpv⟩ := hv
  have hb : nwR m1 m2 := nx_ok hnw
  obtain ⟨cs', ch', cp', -⟩ := nx_cnt hnw
  have hnw0 := hnw
  obtain ⟨⟨b1, b2, b3, b4, b5, b6, bb⟩, -, ⟨v0, v1, -⟩, -⟩ := hnw0
  have e505 : m2.1 1 2505 = nI h := v1
  have e30 : m1.1 30 1 = nI h := b2
  unfold fX9_takeHand
  rw [rc139_0, rc139_1]
  have hW := w_new hb hst ha (kd := 1) (c := h) (off := 6) (lim := 4) (Or.inr (Or.inl ⟨rfl, rfl, rfl, ch'.symm⟩))
  rcases hW with ⟨hf, l1, l2, q1, q2, hF, hfl⟩ | ⟨hf, hs6, k1, q1, hW⟩
  · have hf' : ¬ m1.1 30 1 < 4 := hf
    have q2' : fX12_newOne rfM 0 1 4 6 m2 = some (0, l2) := q2
    rw [if_neg hf', q1, q2', p_bd, p_bd]
    refine Or.inl ⟨l1, _, rfl, rfl, pV_2 (pV_w hpv hF) (by omega) _, ?_⟩
    unfold fl at hfl ⊢
    rw [p_wI_o (show 0 ≠ 1 by omega)]
    exact hfl
  · have hf' : m1.1 30 1 < 4 := hf
    rw [if_pos hf', q1, p_bd]
    rcases hW with ⟨cs, l1, l2, c1, c2, c3, x1, x2, W1, hs1⟩ | ⟨l1, l2, x1, x2, hF, hfl⟩
    · have x1' : fX9_wantNew rfC 139 1 k1 = some (1, l1) := x1
      have x2' : fX12_newOne rfM 0 1 4 6 m2 = some (1, l2) := x2
      have hpv1 := pV_w (pV_l hpv (k := 64 + 6 + h) (by omega) (6 * 1 + h) (lN (e32 cs)) (lN (e256 cs))) W1
      have g1 : l1.1 30 1 = nI h := by rw [W1.1 30 (by omega)]; exact e30
      have g2 : l2.1 1 2505 = nI h := by rw [W1.2.2.2.1 1 (by omega)]; exact e505
      rw [x1', x2', p_bd, p_bd, if_neg (show ¬ (1 : Int32) = 0 by decide), if_neg (show ¬ (1 : Int32) = 0 by decide), p_seq, g1, g2, aR_1]
      refine Or.inr ⟨s, h + 1, p, l, w, _, _, rfl, rfl, st_w2 (st_w1 hs1 (by omega) 1 (nI (h + 1))) 2505 (nI (h + 1)), ?_, pV_2 (pV_1 hpv1 (by omega) _ _) (by omega) _⟩
      refine nx_hand hnw hs6 ?_ (fun j k hj z1 => ?_) ?_ (fun k z1 => ?_) c1 c2 c3 ?_ ?_ (fun k hk => ?_) (fun k hk => ?_)
      · show (o_wI l1 30 1 (nI (h + 1))).1 (30 + 0) 1 = _
        rw [p_wI1, if_pos ⟨rfl, rfl⟩]
      · show (o_wI l1 30 1 (nI (h + 1))).1 (30 + j) k = m1.1 (30 + j) k
        rw [p_wI1, if_neg (by omega), W1.1 _ (by omega)]
        rfl
      · show (o_wI l2 1 2505 (nI (h + 1))).1 1 (2504 + 1) = _
        rw [p_wI1, if_pos ⟨rfl, rfl⟩]
      · show (o_wI l2 1 2505 (nI (h + 1))).1 1 (2504 + k) = m2.1 1 (2504 + k)
        rw [p_wI1, if_neg (by omega), W1.2.2.2.1 1 (by omega)]
        rfl
      · show l1.2 49 (6 + h) = _
        rw [W1.2.2.1 49 (by omega), p_wL2, if_pos ⟨rfl, by omega⟩]
      · show l2.2 2 (64 + (6 + h)) = _
        rw [W1.2.2.2.2.2, p_wL2, if_pos ⟨rfl, by omega⟩]
      · show l1.2 49 k = m1.2 49 k
        rw [W1.2.2.1 49 (by omega), p_wL2, if_neg (by omega)]
      · show l2.2 2 (64 + k) = m2.2 2 (64 + k)
        rw [W1.2.2.2.2.2, p_wL2, if_neg (by omega)]
    · have x1' : fX9_wantNew rfC 139 1 k1 = some (0, l1) := x1
      have x2' : fX12_newOne rfM 0 1 4 6 m2 = some (0, l2) := x2
      rw [x1', x2', p_bd, p_bd, if_pos rfl]
      refine Or.inl ⟨l1, _, rfl, rfl, pV_2 (pV_w hpv hF) (by omega) _, ?_⟩
      unfold fl at hfl ⊢
      rw [p_wI_o (show 0 ≠ 1 by omega)]
      exact hfl
theorem it_person (hv : vSt T n μC μM s h p l w m1 m2) (ha : adv n m1 m2) : itO T n μC μM (fX9_takePerson rfC 139 m1) (fX12_aPerson rfM 0 m2) := by
  obtain ⟨hst, hnw, hpv⟩ := hv
  have hb : nwR m1 m2 := nx_ok hnw
  obtain ⟨cs', ch', cp', -⟩ := nx_cnt hnw
  have hnw0 := hnw
  have hE := nmE_x hnw
  obtain ⟨⟨b1, b2, b3, b4, b5, b6, bb⟩, -, ⟨v0, v1, v2, -⟩, -⟩ := hnw0
  have e506 : m2.1 1 2506 = nI p := v2
  have e30 : m1.1 30 2 = nI p := b3
  unfold fX9_takePerson fX12_aPerson fX12_handTo
  rw [rc139_0, rc139_1, qm_0]
  have hW := w_new hb hst ha (kd := 2) (c := p) (off := 10) (lim := 6) (Or.inr (Or.inr ⟨rfl, rfl, rfl, cp'.symm⟩))
  rcases hW with ⟨hf, l1, l2, q1, q2, hF, hfl⟩ | ⟨hf, hs6, k1, q1, hW⟩
  · have hf' : ¬ m1.1 30 2 < 6 := hf
    have q2' : fX12_newOne rfM 0 2 6 10 m2 = some (0, l2) := q2
    rw [if_neg hf', q1, q2', p_bd, p_bd, if_pos rfl]
    exact Or.inl ⟨l1, l2, rfl, rfl, pV_w hpv hF, hfl⟩
  · have hf' : m1.1 30 2 < 6 := hf
    rw [if_pos hf', q1, p_bd]
    rcases hW with ⟨cs, l1, l2, c1, c2, c3, x1, x2, W1, hs1⟩ | ⟨l1, l2, x1, x2, hF, hfl⟩
    · have x1' : fX9_wantNew rfC 139 2 k1 = some (1, l1) := x1
      have x2' : fX12_newOne rfM 0 2 6 10 m2 = some (1, l2) := x2
      have hpv1 := pV_w (pV_l hpv (k := 64 + 10 + p) (by omega) (6 * 2 + p) (lN (e32 cs)) (lN (e256 cs))) W1
      rw [x1', x2', p_bd, p_bd, if_neg (show ¬ (1 : Int32) = 0 by decide), if_neg (show ¬ (1 : Int32) = 0 by decide)]
      obtain ⟨r, l3, l4, y1, y2, W2, hr⟩ := w_word hs1 (c := 2) (by omega)
      have y1' : fX4_wantWord rfC 137 2 l1 = some (r, l3) := y1
      have y2' : fX12_wantWord rfM 0 1 l2 = some (r, l4) := y2
      have hpv2 := pV_w hpv1 W2
      rw [y1', y2', p_bd, p_bd]
      rcases hr with ⟨rfl, hs3⟩ | ⟨rfl, hfl⟩
      · rw [if_neg (show ¬ (1 : Int32) = 0 by decide), if_neg (show ¬ (1 : Int32) = 0 by decide), e506, show (2529 : Int32) + nI p = nI (2529 + p) from nI_add 2529 p]
        have g505 : l4.1 1 2505 = nI h := by rw [W2.2.2.2.1 1 (by omega), W1.2.2.2.1 1 (by omega)]; exact v1
        have g506 : l4.1 1 2506 = nI p := by rw [W2.2.2.2.1 1 (by omega), W1.2.2.2.1 1 (by omega)]; exact v2
        have g30 : ∀ k, l3.1 30 k = m1.1 30 k := fun k => by rw [W2.1 30 (by omega), W1.1 30 (by omega)]; rfl
        have hE3 : nmE 30 64 2504 s h p l3 l4 := by
          refine ⟨⟨(g30 0).trans b1, (g30 1).trans b2, (g30 2).trans b3⟩, ⟨?_, g505, g506⟩, by omega, fun k hk => ?_, fun k hk => ?_, fun k hk => ?_⟩
          · rw [W2.2.2.2.1 1 (by omega), W1.2.2.2.1 1 (by omega)]; exact v0
          · have := hE.2.2.2.1 k hk
            rw [show 30 + 19 = 49 from rfl, W2.2.2.1 49 (by omega), W1.2.2.1 49 (by omega), W2.2.2.2.2.2, W1.2.2.2.2.2, p_wL2, if_neg (by omega), p_wL2, if_neg (by omega)]
            exact this
          · have := hE.2.2.2.2.1 k hk
            rw [show 30 + 19 = 49 from rfl, W2.2.2.1 49 (by omega), W1.2.2.1 49 (by omega), W2.2.2.2.2.2, W1.2.2.2.2.2, p_wL2, if_neg (by omega), p_wL2, if_neg (by omega)]
            exact this
          · have := hE.2.2.2.2.2 k hk
            rw [show 30 + 19 = 49 from rfl, W2.2.2.1 49 (by omega), W1.2.2.1 49 (by omega), W2.2.2.2.2.2, W1.2.2.2.2.2, p_wL2, if_neg (by omega), p_wL2, if_neg (by omega)]
            exact this
        rw [g505]
        rcases k_hand k30 (by omega) (x := 2529 + p) (by omega) hE3 hs3 with ⟨v, l5, l6, vk, -, z1, z2, W3, hs5⟩ | ⟨y, l5, l6, z1, z2, W3, hfl⟩
        · have z2' : fX12_oldOne rfM 0 70 (nI h) (nI (2529 + p)) l4 = some (1, l6) := z2
          rw [z1, z2', p_bd, p_bd, p_bd, if_neg (nI_nm1 (by omega)), if_neg (show ¬ (1 : Int32) = 0 by decide)]
          have g1 : l5.1 30 2 = nI p := by rw [W3.1 30 (by omega), g30]; exact b3
          have g2 : l6.1 1 2506 = nI p := by rw [W3.2.2.2.1 1 (by omega), p_wI1, if_neg (by omega)]; exact g506
          have g1' : (o_wI l5 33 p (nI v)).1 30 2 = nI p := by rw [p_wI_o (by omega)]; exact g1
          rw [show rfC 30 11 = 33 by decide]
          simp (disch := omega) only [g1, g2, nI_toInt, nI_clamp, p_ck, p_seq, g1', aR_1]
          refine Or.inr ⟨s, h, p + 1, l, w, _, _, rfl, rfl, st_w2 (st_w1 (st_w1 hs5 (by omega) p (nI v)) (by omega) 2 (nI (p + 1))) 2506 (nI (p + 1)), ?_, pV_2 (pV_1 (pV_1 (pV_w (pV_2 hpv2 (by omega) _) W3) (by omega) _ _) (by omega) _ _) (by omega) _⟩
          refine nx_person hnw hs6 vk ?_ ?_ (fun j k hj z1 z2 => ?_) ?_ ?_ (fun k z1 z2 => ?_) c1 c2 c3 ?_ ?_ (fun k hk => ?_) (fun k hk => ?_)
          · show (o_wI (o_wI l5 33 p (nI v)) 30 2 (nI (p + 1))).1 (30 + 0) 2 = _
            rw [p_wI1, if_pos ⟨rfl, rfl⟩]
          · show (o_wI (o_wI l5 33 p (nI v)) 30 2 (nI (p + 1))).1 (30 + 3) p = _
            rw [p_wI_o (by omega), p_wI1, if_pos ⟨rfl, rfl⟩]
          · show (o_wI (o_wI l5 33 p (nI v)) 30 2 (nI (p + 1))).1 (30 + j) k = m1.1 (30 + j) k
            rw [p_wI1, if_neg (by omega), p_wI1, if_neg (by omega), W3.1 _ (by omega), W2.1 _ (by omega), W1.1 _ (by omega)]
            rfl
          · show (o_wI l6 1 2506 (nI (p + 1))).1 1 (2504 + 2) = _
            rw [p_wI1, if_pos ⟨rfl, rfl⟩]
          · show (o_wI l6 1 2506 (nI (p + 1))).1 1 (2504 + (25 + p)) = _
            rw [p_wI1, if_neg (by omega), W3.2.2.2.1 1 (by omega), p_wI1, if_pos ⟨rfl, by omega⟩]
          · show (o_wI l6 1 2506 (nI (p + 1))).1 1 (2504 + k) = m2.1 1 (2504 + k)
            rw [p_wI1, if_neg (by omega), W3.2.2.2.1 1 (by omega), p_wI1, if_neg (by omega), W2.2.2.2.1 1 (by omega), W1.2.2.2.1 1 (by omega)]
            rfl
          · show l5.2 49 (12 + p) = _
            rw [W3.2.2.1 49 (by omega), W2.2.2.1 49 (by omega), W1.2.2.1 49 (by omega), p_wL2, if_pos ⟨rfl, by omega⟩]
          · show l6.2 2 (64 + (10 + p)) = _
            rw [W3.2.2.2.2.2, p_wI2, W2.2.2.2.2.2, W1.2.2.2.2.2, p_wL2, if_pos ⟨rfl, by omega⟩]
          · show l5.2 49 k = m1.2 49 k
            rw [W3.2.2.1 49 (by omega), W2.2.2.1 49 (by omega), W1.2.2.1 49 (by omega), p_wL2, if_neg (by omega)]
          · show l6.2 2 (64 + k) = m2.2 2 (64 + k)
            rw [W3.2.2.2.2.2, p_wI2, W2.2.2.2.2.2, W1.2.2.2.2.2, p_wL2, if_neg (by omega)]
        · have z2' : fX12_oldOne rfM 0 70 (nI h) (nI (2529 + p)) l4 = some (0, l6) := z2
          rw [z1, z2', p_bd, p_bd, p_bd, if_pos rfl, if_pos rfl]
          exact Or.inl ⟨l5, l6, rfl, rfl, pV_w (pV_2 hpv2 (by omega) _) W3, hfl⟩
      · rw [if_pos rfl, if_pos rfl]
        exact Or.inl ⟨l3, l4, rfl, rfl, hpv2, hfl⟩
    · have x1' : fX9_wantNew rfC 139 2 k1 = some (0, l1) := x1
      have x2' : fX12_newOne rfM 0 2 6 10 m2 = some (0, l2) := x2
      rw [x1', x2', p_bd, p_bd, if_pos rfl, if_pos rfl]
      exact Or.inl ⟨l1, l2, rfl, rfl, pV_w hpv hF, hfl⟩
theorem it_odds (hv : vSt T n μC μM s h p l w m1 m2) (ha : adv n m1 m2) : itO T n μC μM (fX9_takeOdds rfC 139 m1) (if m2.1 0 20 = 0 then (o_seq (o_wI m2 0 20 1) fun μ8 => o_bd (fX12_ahead rfM 0 μ8) fun _ μ9 => o_bd (fX12_number rfM 0 2510 0 16 μ9) fun r μ => some (r, μ)) else (o_bd (fX12_fails rfM 0 5 m2) fun r μ => some (r, μ))) := by
  obtain ⟨hst, hnw, hpv⟩ := hv
  unfold fX9_takeOdds
  rw [rc139_0, rc139_1, hpv.2.2.1]
  by_cases h0 : m2.1 0 20 = 0
  · rw [if_pos h0, if_pos h0, p_seq, p_seq]
    have hst1 : stT T n (o_wI m1 139 2 1) (o_wI m2 0 20 1) := by
      have e1 : (o_wI m1 139 2 1).1 137 = m1.1 137 := p_wI_o (by omega)
      have e2 : (o_wI m1 139 2 1).1 138 = m1.1 138 := p_wI_o (by omega)
      have e3 : ∀ k, k ≠ 20 → (o_wI m2 0 20 1).1 0 k = m2.1 0 k := fun k hk => by rw [p_wI1, if_neg (fun z => hk z.2)]
      have e4 : (o_wI m2 0 20 1).1 7 = m2.1 7 := p_wI_o (by omega)
      unfold stT txR tok ns at hst ⊢
      rw [e1, e2, e4, e3 11 (by omega), e3 12 (by omega), e3 13 (by omega), e3 14 (by omega), e3 15 (by omega), e3 17 (by omega), e3 18 (by omega)]
      exact hst
    have hpv1 : pV μC μM (o_wI m1 139 2 1) (o_wI m2 0 20 1) := ⟨⟨fun i h1 h2 h3 => by rw [p_wI_o h3]; exact hpv.1.1 i h1 h2 h3, fun k hk => by rw [p_wI_o (by omega)]; exact hpv.1.2.1 k hk, hpv.1.2.2⟩, ⟨fun i h1 h2 => by rw [p_wI_o h1]; exact hpv.2.1.1 i h1 h2, fun k hk => by rw [p_wI1, if_neg (by omega)]; exact hpv.2.1.2.1 k hk, fun k hk => by rw [p_wI_o (by omega)]; exact hpv.2.1.2.2.1 k hk, hpv.2.1.2.2.2⟩, ⟨by rw [p_wI1, if_pos ⟨rfl, rfl⟩, p_wI1, if_pos ⟨rfl, rfl⟩], by rw [p_wI_o (by omega)]; exact hpv.2.2.2⟩⟩
    obtain ⟨q, hq, a5, a14, a6⟩ := ha
    obtain ⟨l1, l2, q1, q2, W1, hs1⟩ := w_next hst1 ⟨q, hq, by rw [p_wI_o (by omega)]; exact a5, by rw [p_wI1, if_neg (by omega)]; exact a14, by rw [p_wI_o (by omega)]; exact a6⟩
    rw [q1, q2, p_bd, p_bd]
    have hpv2 := pV_w hpv1 W1
    rcases w_num hs1 (lo := 0) (hi := 16) (x := 2510) (by omega) (by omega) (by omega) with ⟨v, l5, l6, v0, v9, z1, z2, W3, hs5⟩ | ⟨l5, l6, z1, z2, W3, hfl⟩
    · have z1' : fX4_wantNumber rfC 137 0 16 l1 = some (nI v, l5) := z1
      have z2' : fX12_number rfM 0 2510 0 16 l2 = some (1, l6) := z2
      rw [z1', z2', p_bd, p_bd, if_neg (nI_nm1 (by omega)), p_seq]
      refine Or.inr ⟨s, h, p, l, w, _, _, rfl, rfl, st_w1 hs5 (by omega) 4 (nI v), ?_, pV_1 (pV_w (pV_2 hpv2 (by omega) _) W3) (by omega) _ _⟩
      have c30 : ∀ i, i ≠ 137 → i ≠ 139 → l5.1 i = m1.1 i := fun i i1 i2 => by rw [W3.1 i i1, W1.1 i i1, p_wI_o i2]
      refine nx_c (nx_odds (g' := fun j k => if j = 0 ∧ k = 4 then nI v else bV m1 30 j k) (a' := fun k => if k = 6 then nI v else mS m2 2504 k) hnw v9 (if_pos ⟨rfl, rfl⟩) (fun j k _ z => if_neg z) (if_pos rfl) (fun k z => if_neg z)) (fun j hj => ?_) (fun k hk => ?_) (fun k hk => ?_) (fun k hk => ?_)
      · funext k
        show (o_wI l5 30 4 (nI v)).1 (30 + j) k = if j = 0 ∧ k = 4 then nI v else m1.1 (30 + j) k
        rw [p_wI1]
        by_cases e : j = 0 ∧ k = 4
        · rw [if_pos ⟨by omega, e.2⟩, if_pos e]
        · rw [if_neg (by omega), if_neg e, c30 _ (by omega) (by omega)]
      · show l6.1 1 (2504 + k) = if k = 6 then nI v else m2.1 1 (2504 + k)
        rw [W3.2.2.2.1 1 (by omega), p_wI1]
        by_cases e : k = 6
        · rw [if_pos ⟨rfl, by omega⟩, if_pos e]
        · rw [if_neg (by omega), if_neg e, W1.2.2.2.1 1 (by omega), p_wI_o (by omega)]
      · show l5.2 49 k = m1.2 49 k
        rw [W3.2.2.1 49 (by omega), W1.2.2.1 49 (by omega)]
        rfl
      · show l6.2 2 (64 + k) = m2.2 2 (64 + k)
        rw [W3.2.2.2.2.2, p_wI2, W1.2.2.2.2.2]
        rfl
    · have z1' : fX4_wantNumber rfC 137 0 16 l1 = some (-1, l5) := z1
      have z2' : fX12_number rfM 0 2510 0 16 l2 = some (0, l6) := z2
      rw [z1', z2', p_bd, p_bd, if_pos rfl]
      exact Or.inl ⟨l5, l6, rfl, rfl, pV_w hpv2 W3, hfl⟩
  · rw [if_neg h0, if_neg h0]
    obtain ⟨l1, l2, q1, q2, hF, hf⟩ := w_fail hst (x := 5) (by omega) (by omega)
    rw [show (5 : Int32) = nI 5 from rfl, q1, q2]
    exact Or.inl ⟨l1, l2, rfl, rfl, pV_w hpv hF, hf⟩
end mo
