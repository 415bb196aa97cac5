/-! ===== NAMES: new ones and known ones ===== -/
section na
variable {T : Nat → Int32} {n : Nat} {m1 m2 : o_Mem}
def nmT (n : Nat) (m1 m2 : o_Mem) (cs : List Nat) : Prop := 1 ≤ cs.length ∧ cs.length ≤ 8 ∧ sml cs ∧ m1.2 137 9 = lN (e32 cs) ∧ fX12_nameHere rfM 0 m2 = some (lN (e256 cs), m2) ∧ adv n m1 m2
theorem w_name (h : stT T n m1 m2) : (∃ cs, nmT n m1 m2 cs ∧ fX4_isName rfC 137 m1 = some (1, m1) ∧ fX12_isName rfM 0 m2 = some (1, m2)) ∨ (fX4_isName rfC 137 m1 = some (0, m1) ∧ fX12_isName rfM 0 m2 = some (0, m2)) := by
  obtain ⟨y, hy, hkr⟩ := iw_tok h.1 h.2.1
  have h9 := h.1.1
  obtain ⟨p, q, hpq, hqn, h6, h13, hk⟩ := h.2.1
  unfold fX4_isName fX12_isName
  rcases hk with ⟨k1, k2, -⟩ | ⟨k1, k2, k3, k4, k5, k6, k7⟩ | ⟨k1, k2, -⟩ | ⟨k1, k2, -⟩ | ⟨k1, k2, -⟩
  · rw [if_neg (show ¬ m1.1 137 7 = 1 by rw [k1]; decide), if_neg (show ¬ m2.1 0 12 = 2 by rw [k2]; decide)]
    exact Or.inr ⟨rfl, rfl⟩
  · rw [if_pos k1, if_pos k2, k5, h13, nI_sub2 (by omega), hy, p_bd]
    rcases k7 with ⟨e1, e2, e3⟩ | ⟨e1, e2, e3⟩
    · rw [if_neg (show ¬ 8 < nI (q - p) from fun z => by have := (n_lt (a := 8) (b := q - p) (by omega) (by omega)).mp z; omega)]
      by_cases hw : m1.1 137 8 = -1
      · have hsm : sml (wd T p (q - p)) := wd_sml _ _ (fun k a b => k6 k a (by omega))
        have hlen : (wd T p (q - p)).length = q - p := wd_len T _ _
        rw [if_pos hw, if_pos ((kR_m1 hkr).mp hw), e2, if_neg (nm_ne1 (by omega) hsm)]
        refine Or.inl ⟨wd T p (q - p), ⟨by omega, by omega, hsm, e2, ?_, q, hqn, k4, k5, le6 h6 hpq (by omega)⟩, rfl, rfl⟩
        exact nh_word h.1 (by omega) (fun k a b => k6 k a (by omega)) h13 (by rw [show p + (q - p) = q by omega]; exact k5)
      · rw [if_neg hw, if_neg (fun z => hw ((kR_m1 hkr).mpr z))]
        exact Or.inr ⟨rfl, rfl⟩
    · rw [if_pos e3, e2, if_pos rfl, if_pos (show 8 < nI (q - p) from (n_lt (a := 8) (b := q - p) (by omega) (by omega)).mpr e1)]
      exact Or.inr ⟨rfl, rfl⟩
  · rw [if_neg (show ¬ m1.1 137 7 = 1 by rw [k1]; decide), if_neg (show ¬ m2.1 0 12 = 2 by rw [k2]; decide)]
    exact Or.inr ⟨rfl, rfl⟩
  · rw [if_neg (show ¬ m1.1 137 7 = 1 by rw [k1]; decide), if_neg (show ¬ m2.1 0 12 = 2 by rw [k2]; decide)]
    exact Or.inr ⟨rfl, rfl⟩
  · rw [if_neg (show ¬ m1.1 137 7 = 1 by rw [k1]; decide), if_neg (show ¬ m2.1 0 12 = 2 by rw [k2]; decide)]
    exact Or.inr ⟨rfl, rfl⟩
theorem e8_many (rf : Nat → Nat → Nat) (v : Nat) {kd : Nat} (hkd : kd < 3) (m : o_Mem) : fX8_manyOf rf v (nI kd) m = some (m.1 v kd, m) := by
  unfold fX8_manyOf
  rcases (show kd = 0 ∨ kd = 1 ∨ kd = 2 by omega) with rfl | rfl | rfl <;> rfl
/-- a NAME is looked for -/
theorem e_find {v : Nat} (hv : kdC v = .inl 8) {kd c t : Nat} (hkd : kd < 3) (hc : m1.1 v kd = nI c) (hc6 : c ≤ 6) (ht : t + 6 ≤ 96) (hn : ∀ k, k < c → nmR (m1.2 (v + 19) (6 * kd + k)) (m2.2 2 (t + k))) {cs : List Nat} (hcs : nmT n m1 m2 cs) : ∃ r, fX8_numberOf rfC v (nI kd) (lN (e32 cs)) m1 = some (r, m1) ∧ fX12_findHere rfM 0 (nI t) (nI c) m2 = some (r, m2) ∧ (r = -1 ∨ ∃ k, k < c ∧ r = nI k) := by
  obtain ⟨c1, c2, c3, -, c5, -⟩ := hcs
  have r17 : rfC v 17 = v + 19 := by rw [rf8 hv]; rfl
  obtain ⟨e1, l1, e2, l2, q1, q2, rfl, rfl, hE⟩ := lp_rel (h1 := 3) (h2 := 2) (s1 := fX8_numberOf_s3 rfC v (nI kd) (lN (e32 cs))) (s2 := fX12_findHere_s2 rfM 0 (nI t) (nI c))
    (fun i τ1 l1 τ2 l2 => l1 = m1 ∧ l2 = m2 ∧ ∃ k, k + i = c ∧ τ1 = nI k ∧ τ2 = nI k)
    (fun e1 l1 e2 l2 => m1 = l1 ∧ m2 = l2 ∧ ((e1 = (39, 0) ∧ e2 = (31, 0)) ∨ ∃ k, k < c ∧ e1 = (30, nI k) ∧ e2 = (23, nI k)))
    (fun i τ1 l1 τ2 l2 hR => by
      obtain ⟨rfl, rfl, k, hk, rfl, rfl⟩ := hR
      unfold fX8_numberOf_s3 fX12_findHere_s2
      rw [e8_many rfC v hkd, p_bd, hc, r17, qm_1]
      by_cases hi : i = 0
      · rw [if_pos ((n_le (by omega) (by omega)).mpr (by omega)), if_pos ((n_le (by omega) (by omega)).mpr (by omega))]
        exact ⟨_, _, _, _, rfl, rfl, Or.inr ⟨show ¬ 39 = 3 by decide, show ¬ 31 = 2 by decide, rfl, rfl, Or.inl ⟨rfl, rfl⟩⟩⟩
      · rw [if_neg (show ¬ nI c ≤ nI k from fun z => by rw [n_le (by omega) (by omega)] at z; omega), if_neg (show ¬ nI c ≤ nI k from fun z => by rw [n_le (by omega) (by omega)] at z; omega)]
        obtain ⟨ds, d1, d2, d3, d4, d5⟩ := hn k (by omega)
        simp (disch := omega) only [mR_6, nI_add', nI_toInt, nI_clamp, p_ck, aR_1, c5, p_bd]
        rw [show kd * 6 + k = 6 * kd + k by omega, d4, d5]
        by_cases he : ds = cs
        · rw [if_pos ((nm_e32 d2 c2 d3 c3).mpr he), if_pos ((nm_e256 d2 c2 d3 c3).mpr he)]
          exact ⟨_, _, _, _, rfl, rfl, Or.inr ⟨show ¬ 30 = 3 by decide, show ¬ 23 = 2 by decide, rfl, rfl, Or.inr ⟨k, by omega, rfl, rfl⟩⟩⟩
        · rw [if_neg (fun z => he ((nm_e32 d2 c2 d3 c3).mp z)), if_neg (fun z => he ((nm_e256 d2 c2 d3 c3).mp z))]
          exact ⟨_, _, _, _, rfl, rfl, Or.inl ⟨rfl, rfl, i - 1, by omega, rfl, rfl, k + 1, by omega, rfl, rfl⟩⟩)
    o_fuel c 0 m1 0 m2 (fu (by omega)) ⟨rfl, rfl, 0, by omega, rfl, rfl⟩
  unfold fX8_numberOf fX12_findHere
  rw [q1, q2, p_bd, p_bd]
  rcases hE with ⟨rfl, rfl⟩ | ⟨k, hk, rfl, rfl⟩
  · exact ⟨-1, rfl, rfl, Or.inl rfl⟩
  · exact ⟨nI k, rfl, rfl, Or.inr ⟨k, hk, rfl⟩⟩
/-- what comes of a want for a known NAME -/
def oldP (T : Nat → Int32) (n : Nat) (m1 m2 : o_Mem) (c x : Nat) (e : Int32) (A B : Option (Int32 × o_Mem)) : Prop := (∃ k l1 l2, k < c ∧ ¬ nI k = e ∧ A = some (nI k, l1) ∧ B = some (1, l2) ∧ wF m1 (o_wI m2 1 x (nI k)) l1 l2 ∧ stT T n l1 l2) ∨ (∃ y l1 l2, A = some (-1, l1) ∧ B = some (0, l2) ∧ wF m1 (o_wI m2 1 x y) l1 l2 ∧ fl l1 l2)
theorem w_same {l1 l2 : o_Mem} {x : Nat} (h : wF m1 m2 l1 l2) : ∃ y, wF m1 (o_wI m2 1 x y) l1 l2 := ⟨m2.1 1 x, by rw [wI_same rfl]; exact h⟩
theorem w_known {v : Nat} (hv : kdC v = .inl 8) {kd c t x : Nat} (hkd : kd < 3) (hc : m1.1 v kd = nI c) (hc6 : c ≤ 6) (ht : t + 6 ≤ 96) (hx : x < 3756) (hn : ∀ k, k < c → nmR (m1.2 (v + 19) (6 * kd + k)) (m2.2 2 (t + k))) (h : stT T n m1 m2) (e : Int32) (he : e = -1 ∨ ∃ i, i < 6 ∧ e = nI i) :
    (fX12_isName rfM 0 m2 = some (0, m2) ∧ oldP T n m1 m2 c x e (fX4_wantKnown rfC 137 v (nI kd) e m1) (fX12_oldOne rfM 0 (nI t) (nI c) (nI x) m2)) ∨
    ∃ r, fX12_isName rfM 0 m2 = some (1, m2) ∧ fX12_findHere rfM 0 (nI t) (nI c) m2 = some (r, m2) ∧ ((¬ e = -1 ∧ r = e ∧ ∃ l1 l2, fX4_wantKnown rfC 137 v (nI kd) e m1 = some (-1, l1) ∧ fX12_fails rfM 0 5 m2 = some (0, l2) ∧ wF m1 m2 l1 l2 ∧ fl l1 l2) ∨ ((r = -1 ∨ ¬ r = e) ∧ oldP T n m1 m2 c x e (fX4_wantKnown rfC 137 v (nI kd) e m1) (fX12_oldOne rfM 0 (nI t) (nI c) (nI x) m2))) := by
  unfold fX4_wantKnown fX12_oldOne
  rcases w_name h with ⟨cs, hcs, i1, i2⟩ | ⟨i1, i2⟩
  · obtain ⟨r, r1, r2, r3⟩ := e_find hv hkd hc hc6 ht hn hcs
    refine Or.inr ⟨r, i2, r2, ?_⟩
    rw [i1, i2, p_bd, p_bd, if_neg (show ¬ (1 : Int32) = 0 by decide), if_neg (show ¬ (1 : Int32) = 0 by decide), hcs.2.2.2.1, r1, r2, p_bd, p_bd, qm_0]
    simp (disch := omega) only [nI_toInt, nI_clamp, p_ck, p_seq]
    rw [show (o_wI m2 1 x r).1 1 x = r by rw [p_wI1, if_pos ⟨rfl, rfl⟩]]
    rcases r3 with rfl | ⟨k, hk, rfl⟩
    · refine Or.inr ⟨Or.inl rfl, Or.inr ?_⟩
      rw [if_pos rfl, if_pos rfl]
      obtain ⟨l1, l2, q1, q2, hF, hf⟩ := w_fail (st_w2 h x (-1)) (x := 3) (by omega) (by omega)
      rw [show (3 : Int32) = nI 3 from rfl, q1, q2]
      exact ⟨-1, l1, l2, rfl, rfl, hF, hf⟩
    · rw [if_neg (nI_nm1 (by omega)), if_neg (nI_nm1 (by omega))]
      by_cases hke : nI k = e
      · refine Or.inl ⟨by rw [← hke]; exact nI_nm1 (by omega), hke, ?_⟩
        rw [if_pos hke]
        obtain ⟨l1, l2, q1, q2, hF, hf⟩ := w_fail h (x := 5) (by omega) (by omega)
        rw [show (5 : Int32) = nI 5 from rfl, q1, q2]
        exact ⟨l1, l2, rfl, rfl, hF, hf⟩
      · refine Or.inr ⟨Or.inr hke, Or.inl ?_⟩
        rw [if_neg hke]
        obtain ⟨q, hq, a5, a14, a6⟩ := hcs.2.2.2.2.2
        obtain ⟨l1, l2, q1, q2, hF, hs⟩ := w_next (st_w2 h x (nI k)) ⟨q, hq, a5, by rw [p_wI_o (by omega)]; exact a14, a6⟩
        rw [q1, q2]
        exact ⟨k, l1, l2, hk, hke, rfl, rfl, hF, hs⟩
  · refine Or.inl ⟨i2, Or.inr ?_⟩
    rw [i1, i2, p_bd, p_bd, if_pos rfl, if_pos rfl]
    obtain ⟨l1, l2, q1, q2, hF, hf⟩ := w_fail h (x := 2) (by omega) (by omega)
    rw [show (2 : Int32) = nI 2 from rfl, q1, q2]
    obtain ⟨y, hy⟩ := w_same (x := x) hF
    exact ⟨y, l1, l2, rfl, rfl, hy, hf⟩
theorem w_old {v : Nat} (hv : kdC v = .inl 8) {kd c t x : Nat} (hkd : kd < 3) (hc : m1.1 v kd = nI c) (hc6 : c ≤ 6) (ht : t + 6 ≤ 96) (hx : x < 3756) (hn : ∀ k, k < c → nmR (m1.2 (v + 19) (6 * kd + k)) (m2.2 2 (t + k))) (h : stT T n m1 m2) : oldP T n m1 m2 c x (-1) (fX4_wantKnown rfC 137 v (nI kd) (-1) m1) (fX12_oldOne rfM 0 (nI t) (nI c) (nI x) m2) := by
  rcases w_known hv hkd hc hc6 ht hx hn h (-1) (Or.inl rfl) with ⟨-, h1⟩ | ⟨r, -, -, ⟨h1, -⟩ | ⟨-, h1⟩⟩
  · exact h1
  · exact absurd rfl h1
  · exact h1
/-- the VALLEY that is being read -/
def nwR (m1 m2 : o_Mem) : Prop := wfV (bV m1 30) ∧ vR (bV m1 30) (mS m2 2504) ∧ nR (bV m1 30) (m1.2 49) (fun k => m2.2 2 (64 + k))
theorem nw_cnt (h : nwR m1 m2) : m1.1 30 0 = nI (cS (bV m1 30)) ∧ m1.1 30 1 = nI (cH (bV m1 30)) ∧ m1.1 30 2 = nI (cP (bV m1 30)) ∧ m2.1 1 2504 = nI (cS (bV m1 30)) ∧ m2.1 1 2505 = nI (cH (bV m1 30)) ∧ m2.1 1 2506 = nI (cP (bV m1 30)) := by
  have hw := h.1.1
  have hr := h.2.1.1
  exact ⟨hw.1.1, hw.2.1.1, hw.2.2.1.1, hr.1.trans hw.1.1, hr.2.1.trans hw.2.1.1, hr.2.2.1.trans hw.2.2.1.1⟩
/-- a NAME that is new -/
theorem w_new (hb : nwR m1 m2) (h : stT T n m1 m2) (ha : adv n m1 m2) {kd c off lim : Nat} (hk : (kd = 0 ∧ off = 0 ∧ lim = 6 ∧ c = cS (bV m1 30)) ∨ (kd = 1 ∧ off = 6 ∧ lim = 4 ∧ c = cH (bV m1 30)) ∨ (kd = 2 ∧ off = 10 ∧ lim = 6 ∧ c = cP (bV m1 30))) :
    (¬ m1.1 30 kd < nI lim ∧ ∃ l1 l2, fX4_fail rfC 137 6 m1 = some (0, l1) ∧ fX12_newOne rfM 0 (nI kd) (nI lim) (nI off) m2 = some (0, l2) ∧ wF m1 m2 l1 l2 ∧ fl l1 l2) ∨
    (m1.1 30 kd < nI lim ∧ c < lim ∧ ∃ k1, fX4_next rfC 137 m1 = some ((), k1) ∧
      ((∃ cs l1 l2, 1 ≤ cs.length ∧ cs.length ≤ 8 ∧ sml cs ∧ fX9_wantNew rfC 139 (nI kd) k1 = some (1, l1) ∧ fX12_newOne rfM 0 (nI kd) (nI lim) (nI off) m2 = some (1, l2) ∧ wF (o_wL m1 49 (6 * kd + c) (lN (e32 cs))) (o_wL m2 2 (64 + off + c) (lN (e256 cs))) l1 l2 ∧ stT T n l1 l2) ∨
       (∃ l1 l2, fX9_wantNew rfC 139 (nI kd) k1 = some (0, l1) ∧ fX12_newOne rfM 0 (nI kd) (nI lim) (nI off) m2 = some (0, l2) ∧ wF m1 m2 l1 l2 ∧ fl l1 l2))) := by
  obtain ⟨n0, n1, n2, z0, z1, z2⟩ := nw_cnt hb
  have bS := hb.1.1.1.2
  have bH := hb.1.1.2.1.2
  have bP := hb.1.1.2.2.1.2
  have hkd : kd < 3 := by omega
  have hoff : off ≤ 10 := by omega
  have hlim : lim ≤ 6 := by omega
  have hcl : c ≤ lim := by omega
  have ec : m1.1 30 kd = nI c := by
    rcases hk with ⟨rfl, -, -, rfl⟩ | ⟨rfl, -, -, rfl⟩ | ⟨rfl, -, -, rfl⟩
    · exact n0
    · exact n1
    · exact n2
  have ez : m2.1 1 (2504 + kd) = nI c := by
    rcases hk with ⟨rfl, -, -, rfl⟩ | ⟨rfl, -, -, rfl⟩ | ⟨rfl, -, -, rfl⟩
    · exact z0
    · exact z1
    · exact z2
  unfold fX12_newOne fX12_newOne_j94
  rw [qm_0, qm_1]
  simp (disch := omega) only [aL_2504, nI_toInt, nI_clamp, p_ck, ez, ec]
  by_cases hfull : c = lim
  · refine Or.inl ⟨fun z => by rw [n_lt (by omega) (by omega)] at z; omega, ?_⟩
    rw [if_pos (show nI c = nI lim by rw [hfull])]
    obtain ⟨l1, l2, q1, q2, hF, hf⟩ := w_fail h (x := 6) (by omega) (by omega)
    rw [show (6 : Int32) = nI 6 from rfl, q1, q2]
    exact ⟨l1, l2, rfl, rfl, hF, hf⟩
  · refine Or.inr ⟨(n_lt (by omega) (by omega)).mpr (by omega), by omega, ?_⟩
    rw [if_neg (show ¬ nI c = nI lim by rw [nI_inj (by omega) (by omega)]; exact hfull)]
    obtain ⟨k1, k2, q1, q2, hF, hs⟩ := w_next h ha
    refine ⟨k1, q1, ?_⟩
    rw [q2, p_bd]
    unfold fX9_wantNew
    rw [rc139_0, rc139_1]
    have e30 : ∀ i, i ≠ 137 → k1.1 i = m1.1 i := hF.1
    have f1 : k2.1 1 = m2.1 1 := hF.2.2.2.1 1 (by omega)
    have f2 : k2.2 = m2.2 := hF.2.2.2.2.2
    have g49 : k1.2 49 = m1.2 49 := hF.2.2.1 49 (by omega)
    have g504 : k2.1 1 2504 = nI (cS (bV m1 30)) := by rw [f1]; exact z0
    have g505 : k2.1 1 2505 = nI (cH (bV m1 30)) := by rw [f1]; exact z1
    have g506 : k2.1 1 2506 = nI (cP (bV m1 30)) := by rw [f1]; exact z2
    have gkd : k2.1 1 (2504 + kd) = nI c := by rw [f1]; exact ez
    have hkc : k1.1 30 kd = nI c := by rw [e30 30 (by omega)]; exact ec
    rcases w_name hs with ⟨cs, hcs, i1, i2⟩ | ⟨i1, i2⟩
    · have hnS : ∀ k, k < cS (bV m1 30) → nmR (k1.2 (30 + 19) (6 * 0 + k)) (k2.2 2 (64 + k)) := fun k hk => by
        rw [show 30 + 19 = 49 from rfl, g49, f2, show 6 * 0 + k = k by omega]; exact hb.2.2.1 k hk
      have hnH : ∀ k, k < cH (bV m1 30) → nmR (k1.2 (30 + 19) (6 * 1 + k)) (k2.2 2 (70 + k)) := fun k hk => by
        rw [show 30 + 19 = 49 from rfl, g49, f2, show 70 + k = 64 + (6 + k) by omega]; exact hb.2.2.2.1 k hk
      have hnP : ∀ k, k < cP (bV m1 30) → nmR (k1.2 (30 + 19) (6 * 2 + k)) (k2.2 2 (74 + k)) := fun k hk => by
        rw [show 30 + 19 = 49 from rfl, g49, f2, show 74 + k = 64 + (10 + k) by omega]; exact hb.2.2.2.2 k hk
      obtain ⟨r0, a0, b0, -⟩ := e_find (m1 := k1) (m2 := k2) k30 (kd := 0) (t := 64) (by omega) (by rw [e30 30 (by omega)]; exact n0) (by omega) (by omega) hnS hcs
      obtain ⟨r1, a1, b1, -⟩ := e_find (m1 := k1) (m2 := k2) k30 (kd := 1) (t := 70) (by omega) (by rw [e30 30 (by omega)]; exact n1) (by omega) (by omega) hnH hcs
      obtain ⟨r2, a2, b2, -⟩ := e_find (m1 := k1) (m2 := k2) k30 (kd := 2) (t := 74) (by omega) (by rw [e30 30 (by omega)]; exact n2) (by omega) (by omega) hnP hcs
      have a0' : fX8_numberOf rfC 30 0 (lN (e32 cs)) k1 = some (r0, k1) := a0
      have a1' : fX8_numberOf rfC 30 1 (lN (e32 cs)) k1 = some (r1, k1) := a1
      have a2' : fX8_numberOf rfC 30 2 (lN (e32 cs)) k1 = some (r2, k1) := a2
      have b0' : fX12_findHere rfM 0 64 (nI (cS (bV m1 30))) k2 = some (r0, k2) := b0
      have b1' : fX12_findHere rfM 0 70 (nI (cH (bV m1 30))) k2 = some (r1, k2) := b1
      have b2' : fX12_findHere rfM 0 74 (nI (cP (bV m1 30))) k2 = some (r2, k2) := b2
      obtain ⟨f1', f2', fq1, fq2, hFf, hff⟩ := w_fail hs (x := 3) (by omega) (by omega)
      have fq1' : fX4_fail rfC 137 3 k1 = some (0, f1') := fq1
      have fq2' : fX12_fails rfM 0 3 k2 = some (0, f2') := fq2
      unfold fX8_isTaken
      simp only [i1, i2, p_bd, show ¬ (1 : Int32) = 0 by decide, if_false, hcs.2.2.2.1, a0', a1', a2', g504, g505, g506, b0', b1', b2', fq1', fq2', hcs.2.2.2.2.1]
      by_cases h0 : r0 = -1
      · by_cases h1 : r1 = -1
        · by_cases h2 : r2 = -1
          · simp only [if_pos h0, if_pos h1, if_pos h2, p_bd]
            rw [if_pos trivial, e8_many rfC 30 hkd, p_bd, hkc, gkd, show rfC 30 17 = 49 by decide, hcs.2.2.2.1]
            simp (disch := omega) only [mR_6, aL_64, nI_add', nI_toInt, nI_clamp, p_ck, p_seq]
            rw [show kd * 6 + c = 6 * kd + c by omega]
            obtain ⟨q, hq, q5, q14, q6⟩ := hcs.2.2.2.2.2
            obtain ⟨l1, l2, x1, x2, hF2, hs2⟩ := w_next (st_l2 (st_l1 hs (c := 49) (by omega) (6 * kd + c) (lN (e32 cs))) 2 (64 + off + c) (lN (e256 cs))) ⟨q, hq, q5, q14, q6⟩
            rw [x1, x2, p_bd, p_bd]
            refine Or.inl ⟨cs, l1, l2, hcs.1, hcs.2.1, hcs.2.2.1, rfl, rfl, wF_tr ?_ hF2, hs2⟩
            exact ⟨hF.1, hF.2.1, fun i hi => by funext j; rw [p_wL2, p_wL2, hF.2.2.1 i hi], hF.2.2.2.1, hF.2.2.2.2.1, by show (o_wL k2 2 (64 + off + c) (lN (e256 cs))).2 = (o_wL m2 2 (64 + off + c) (lN (e256 cs))).2; funext i j; rw [p_wL2, p_wL2, f2]⟩
          · simp only [if_pos h0, if_pos h1, if_neg h2, p_bd, show ¬ (1 : Int32) = 0 by decide, if_false]
            exact Or.inr ⟨f1', f2', by rw [fq1']; rfl, rfl, wF_tr hF hFf, hff⟩
        · simp only [if_pos h0, if_neg h1, p_bd, show ¬ (1 : Int32) = 0 by decide, if_false]
          exact Or.inr ⟨f1', f2', by rw [fq1']; rfl, rfl, wF_tr hF hFf, hff⟩
      · simp only [if_neg h0, p_bd, show ¬ (1 : Int32) = 0 by decide, if_false]
        exact Or.inr ⟨f1', f2', by rw [fq1']; rfl, rfl, wF_tr hF hFf, hff⟩
    · obtain ⟨f1', f2', fq1, fq2, hFf, hff⟩ := w_fail hs (x := 2) (by omega) (by omega)
      have fq1' : fX4_fail rfC 137 2 k1 = some (0, f1') := fq1
      have fq2' : fX12_fails rfM 0 2 k2 = some (0, f2') := fq2
      rw [i1, i2, p_bd, p_bd, if_pos rfl, if_pos rfl, fq1', fq2', p_bd, p_bd]
      exact Or.inr ⟨f1', f2', rfl, rfl, wF_tr hF hFf, hff⟩
end na
