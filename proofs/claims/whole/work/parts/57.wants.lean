/-! ===== wants ===== -/
theorem sh8 (a : Nat) : lN a <<< ((8 : Int32).toInt64 &&& 63) = lN (2 ^ 8 * a) := by
  apply Int64.toBitVec_inj.1
  show BitVec.ofNat 64 a <<< (((8 : Int32).toInt64 &&& 63).toBitVec.smod 64) = BitVec.ofNat 64 (2 ^ 8 * a)
  rw [show (((8 : Int32).toInt64 &&& 63).toBitVec.smod 64) = 8#64 by decide +kernel]
  apply BitVec.eq_of_toNat_eq
  show (BitVec.ofNat 64 a <<< (8 : Nat)).toNat = (BitVec.ofNat 64 (2 ^ 8 * a)).toNat
  rw [BitVec.toNat_shiftLeft, BitVec.toNat_ofNat, BitVec.toNat_ofNat, Nat.shiftLeft_eq]
  omega
theorem orL (a b : Nat) : lN a ||| lN b = lN (a ||| b) := by
  apply Int64.toBitVec_inj.1
  show BitVec.ofNat 64 a ||| BitVec.ofNat 64 b = BitVec.ofNat 64 (a ||| b)
  apply BitVec.eq_of_getLsbD_eq
  intro i hi
  simp [hi]
theorem or8 {a : Nat} (b : Nat) (h : a < 2 ^ 8) : lN (2 ^ 8 * b) ||| lN a = lN (2 ^ 8 * b + a) := by rw [orL, Nat.two_pow_add_eq_or_of_lt h]
section wn
variable {T : Nat → Int32} {n : Nat} {m1 m2 : o_Mem}
theorem nh_word (h : txR T n m1 m2) {p L : Nat} (hL : p + L ≤ n) (hs : ∀ k, p ≤ k → k < p + L → isSm (T k)) (h13 : m2.1 0 13 = nI p) (h14 : m2.1 0 14 = nI (p + L)) : fX12_nameHere rfM 0 m2 = some (lN (e256 (wd T p L)), m2) := by
  have h9 := h.1
  obtain ⟨e1, l1, q1, rfl, rfl⟩ := lp_one (h := 7) (s := fX12_nameHere_s7 rfM 0)
    (fun N τ μ => μ = m2 ∧ ∃ j, j + N = L ∧ τ = (lN (e256 (wd T p j)), nI (p + j)))
    (fun e μ => m2 = μ ∧ e = (33, (lN (e256 (wd T p L)), 0)))
    (fun N τ μ hR => by
      obtain ⟨rfl, j, hN, rfl⟩ := hR
      unfold fX12_nameHere_s7
      rw [h14]
      by_cases hi : N = 0
      · rw [if_pos (show nI (p + L) ≤ nI (p + j) by rw [n_le (by omega) (by omega)]; omega)]
        refine ⟨_, _, rfl, Or.inr ⟨show ¬ 33 = 7 by decide, rfl, ?_⟩⟩
        rw [show j = L by omega]
      · rw [if_neg (show ¬ nI (p + L) ≤ nI (p + j) from fun z => by rw [n_le (by omega) (by omega)] at z; omega)]
        have hsm := hs (p + j) (by omega) (by omega)
        obtain ⟨c1, c2, c3⟩ := sm_nI hsm
        have hsm' : 97 ≤ (T (p + j)).toInt ∧ (T (p + j)).toInt ≤ 122 := hsm
        have hby : byV T n (p + j) = nI (T (p + j)).toNatClampNeg := by
          unfold byV
          rw [if_pos (by omega), u8_id (by omega)]
          exact c1
        show ∃ e m, o_bd (fX12_byteAt rfM 0 (nI (p + j)) μ) _ = some (e, m) ∧ _
        rw [e12_byte h (p + j) (by omega), p_bd, hby, nI_l (by omega), aR_1]
        refine ⟨_, _, rfl, Or.inl ⟨rfl, N - 1, by omega, rfl, j + 1, by omega, ?_⟩⟩
        show (lN (e256 (wd T p j)) <<< ((8 : Int32).toInt64 &&& 63) ||| lN (T (p + j)).toNatClampNeg, nI (p + j + 1)) = (lN (e256 (wd T p (j + 1))), nI (p + (j + 1)))
        rw [sh8, or8 _ (by omega), wd_s, e256_s, Nat.mul_comm (e256 (wd T p j)) 256]
        rfl)
    o_fuel L (0, nI p) m2 (fu (by omega)) ⟨rfl, 0, by omega, rfl⟩
  unfold fX12_nameHere
  rw [h13, q1, p_bd, if_pos rfl]
/-- where to go on -/
def adv (n : Nat) (m1 m2 : o_Mem) : Prop := ∃ q : Nat, q ≤ n ∧ m1.1 137 5 = nI q ∧ m2.1 0 14 = nI q ∧ (m1.1 137 6).toInt ≤ q
/-- no fault yet; a fault -/
def ns (m1 m2 : o_Mem) : Prop := m1.1 137 2 = 0 ∧ m1.1 137 3 = -1 ∧ m2.1 0 18 = 0 ∧ m2.1 0 17 = -1
def fl (m1 m2 : o_Mem) : Prop := ∃ y, 1 ≤ y ∧ y ≤ 7 ∧ m1.1 137 2 = nI y ∧ m2.1 0 18 = nI y ∧ m1.1 137 3 = m2.1 0 17
def stT (T : Nat → Int32) (n : Nat) (m1 m2 : o_Mem) : Prop := txR T n m1 m2 ∧ tok T n m1 m2 ∧ ns m1 m2
/-- what a want may change -/
def wF (m1 m2 l1 l2 : o_Mem) : Prop := (∀ i, i ≠ 137 → l1.1 i = m1.1 i) ∧ ((∀ k, k = 0 ∨ k = 1 ∨ k = 4 → l1.1 137 k = m1.1 137 k) ∧ (m1.1 137 6).toInt ≤ (l1.1 137 6).toInt) ∧ (∀ i, i ≠ 137 → l1.2 i = m1.2 i) ∧ (∀ i, i ≠ 0 → l2.1 i = m2.1 i) ∧ (∀ k, k ≠ 12 → k ≠ 13 → k ≠ 14 → k ≠ 15 → k ≠ 17 → k ≠ 18 → l2.1 0 k = m2.1 0 k) ∧ l2.2 = m2.2
theorem wF_re : wF m1 m2 m1 m2 := ⟨fun _ _ => rfl, ⟨fun _ _ => rfl, Int.le_refl _⟩, fun _ _ => rfl, fun _ _ => rfl, fun _ _ _ _ _ _ _ => rfl, rfl⟩
theorem wF_tr {l1 l2 k1 k2 : o_Mem} (a : wF m1 m2 l1 l2) (b : wF l1 l2 k1 k2) : wF m1 m2 k1 k2 := ⟨fun i hi => (b.1 i hi).trans (a.1 i hi), ⟨fun k hk => (b.2.1.1 k hk).trans (a.2.1.1 k hk), Int.le_trans a.2.1.2 b.2.1.2⟩, fun i hi => (b.2.2.1 i hi).trans (a.2.2.1 i hi), fun i hi => (b.2.2.2.1 i hi).trans (a.2.2.2.1 i hi), fun k h1 h2 h3 h4 h5 h6 => (b.2.2.2.2.1 k h1 h2 h3 h4 h5 h6).trans (a.2.2.2.2.1 k h1 h2 h3 h4 h5 h6), b.2.2.2.2.2.trans a.2.2.2.2.2⟩
theorem wF_lx {l1 l2 : o_Mem} (a : lxF m1 m2 l1 l2) (hm : (m1.1 137 6).toInt ≤ (l1.1 137 6).toInt) : wF m1 m2 l1 l2 := ⟨a.1, ⟨fun k hk => a.2.1 k (by omega), hm⟩, a.2.2.1, a.2.2.2.1, fun k h1 h2 h3 h4 _ _ => a.2.2.2.2.1 k h1 h2 h3 h4, a.2.2.2.2.2⟩
theorem wF_tx {l1 l2 : o_Mem} (h : txR T n m1 m2) (a : wF m1 m2 l1 l2) : txR T n l1 l2 := txR_c h (a.2.1.1 4 (by omega)) (a.1 138 (by omega)) (a.2.2.2.2.1 11 (by omega) (by omega) (by omega) (by omega) (by omega) (by omega)) (a.2.2.2.1 7 (by omega))
/-- on to the next -/
theorem w_nextS (h : stT T n m1 m2) {q : Nat} (hq : q ≤ n) (a5 : m1.1 137 5 = nI q) (a14 : m2.1 0 14 = nI q) (a6 : (m1.1 137 6).toInt ≤ q) : ∃ l1 l2, fX4_next rfC 137 m1 = some ((), l1) ∧ fX12_ahead rfM 0 m2 = some ((), l2) ∧ wF m1 m2 l1 l2 ∧ stT T n l1 l2 ∧ (q : Int) ≤ (l1.1 137 6).toInt := by
  obtain ⟨hx, -, hn⟩ := h
  have h9 := hx.1
  obtain ⟨l1, l2, q1, q2, ⟨p, hp1, hp2, hp3⟩, hF, ht⟩ := lex hx hq a5 a14
  have hm : (q : Int) ≤ (l1.1 137 6).toInt := by rw [hp3, nI_toInt (by omega)]; omega
  refine ⟨l1, l2, q1, q2, wF_lx hF (by omega), ⟨lxF_tx hx hF, ht, ?_⟩, hm⟩
  unfold ns at hn ⊢
  rw [hF.2.1 2 (by omega), hF.2.1 3 (by omega), hF.2.2.2.2.1 18 (by omega) (by omega) (by omega) (by omega), hF.2.2.2.2.1 17 (by omega) (by omega) (by omega) (by omega)]
  exact hn
theorem w_next (h : stT T n m1 m2) (ha : adv n m1 m2) : ∃ l1 l2, fX4_next rfC 137 m1 = some ((), l1) ∧ fX12_ahead rfM 0 m2 = some ((), l2) ∧ wF m1 m2 l1 l2 ∧ stT T n l1 l2 := by
  obtain ⟨q, hq, a5, a14, a6⟩ := ha
  obtain ⟨l1, l2, q1, q2, hF, hs, -⟩ := w_nextS h hq a5 a14 a6
  exact ⟨l1, l2, q1, q2, hF, hs⟩
theorem le6 {p q : Nat} (h6 : m1.1 137 6 = nI p) (hp : p ≤ q) (hq : q ≤ 900) : (m1.1 137 6).toInt ≤ q := by rw [h6, nI_toInt (by omega)]; omega
/-- a write elsewhere does no harm -/
theorem st_w1 (h : stT T n m1 m2) {c : Nat} (hc : c ≠ 137 ∧ c ≠ 138) (k : Nat) (x : Int32) : stT T n (o_wI m1 c k x) m2 := by
  have e1 : (o_wI m1 c k x).1 137 = m1.1 137 := p_wI_o (fun z => hc.1 z.symm)
  have e2 : (o_wI m1 c k x).1 138 = m1.1 138 := p_wI_o (fun z => hc.2 z.symm)
  unfold stT txR tok ns at h ⊢
  rw [e1, e2]
  exact h
theorem st_w2 (h : stT T n m1 m2) (k : Nat) (x : Int32) : stT T n m1 (o_wI m2 1 k x) := by
  have e1 : (o_wI m2 1 k x).1 0 = m2.1 0 := p_wI_o (by omega)
  have e2 : (o_wI m2 1 k x).1 7 = m2.1 7 := p_wI_o (by omega)
  unfold stT txR tok ns at h ⊢
  rw [e1, e2]
  exact h
theorem st_l1 (h : stT T n m1 m2) {c : Nat} (hc : c ≠ 137) (k : Nat) (x : Int64) : stT T n (o_wL m1 c k x) m2 := by
  have e1 : (o_wL m1 c k x).2 137 = m1.2 137 := by funext j; rw [p_wL2, if_neg (fun z => hc z.1.symm)]
  unfold stT txR tok ns at h ⊢
  rw [e1]
  exact h
theorem st_l2 (h : stT T n m1 m2) (c k : Nat) (x : Int64) : stT T n m1 (o_wL m2 c k x) := h
/-- a fault -/
theorem w_fail (h : stT T n m1 m2) {x : Nat} (hx1 : 1 ≤ x) (hx7 : x ≤ 7) : ∃ l1 l2, fX4_fail rfC 137 (nI x) m1 = some (0, l1) ∧ fX12_fails rfM 0 (nI x) m2 = some (0, l2) ∧ wF m1 m2 l1 l2 ∧ fl l1 l2 := by
  obtain ⟨-, ⟨p, q, hpq, hqn, h6, h13, hk⟩, n1, n2, n3, n4⟩ := h
  have key : ∀ y : Nat, 1 ≤ y → y ≤ 7 → ∃ l1 l2, fX4_fail_j14 rfC 137 137 (nI y) m1 = some (0, l1) ∧ fX12_fails_j21 rfM 0 0 (nI y) m2 = some (0, l2) ∧ wF m1 m2 l1 l2 ∧ fl l1 l2 := fun y y1 y7 => by
    unfold fX4_fail_j14 fX12_fails_j21
    simp only [p_seq]
    rw [show (o_wI m1 137 2 (nI y)).1 137 6 = nI p by rw [p_wI1, if_neg (by omega)]; exact h6, show (o_wI m2 0 18 (nI y)).1 0 13 = nI p by rw [p_wI1, if_neg (by omega)]; exact h13]
    refine ⟨_, _, rfl, rfl, ⟨fun i hi => by rw [p_wI_o hi, p_wI_o hi], ⟨fun k hk => by rw [p_wI1, if_neg (by omega), p_wI1, if_neg (by omega)], by rw [p_wI1, if_neg (by omega), p_wI1, if_neg (by omega)]; exact Int.le_refl _⟩, fun _ _ => rfl, fun i hi => by rw [p_wI_o hi, p_wI_o hi], fun k _ _ _ _ h5 h6 => by rw [p_wI1, if_neg (by omega), p_wI1, if_neg (by omega)], rfl⟩, y, y1, y7, ?_, ?_, ?_⟩
    · rw [p_wI1, if_neg (by omega), p_wI1, if_pos ⟨rfl, rfl⟩]
    · rw [p_wI1, if_neg (by omega), p_wI1, if_pos ⟨rfl, rfl⟩]
    · rw [p_wI1, if_pos ⟨rfl, rfl⟩, p_wI1, if_pos ⟨rfl, rfl⟩]
  unfold fX4_fail fX12_fails
  rw [n3, if_pos rfl]
  have kind : (m1.1 137 7 = 4 ∧ m2.1 0 12 = 1) ∨ (¬ m1.1 137 7 = 4 ∧ ¬ m2.1 0 12 = 1) := by
    rcases hk with ⟨k1, k2, -⟩ | ⟨k1, k2, -⟩ | ⟨k1, k2, -⟩ | ⟨k1, k2, -⟩ | ⟨k1, k2, -⟩
    · exact Or.inr ⟨by rw [k1]; decide, by rw [k2]; decide⟩
    · exact Or.inr ⟨by rw [k1]; decide, by rw [k2]; decide⟩
    · exact Or.inr ⟨by rw [k1]; decide, by rw [k2]; decide⟩
    · exact Or.inr ⟨by rw [k1]; decide, by rw [k2]; decide⟩
    · exact Or.inl ⟨k1, k2⟩
  rcases kind with ⟨k1, k2⟩ | ⟨k1, k2⟩
  · rw [if_pos k1, if_pos k2]
    exact key 1 (by omega) (by omega)
  · rw [if_neg k1, if_neg k2]
    exact key x hx1 hx7
/-- a word is wanted -/
theorem w_word (h : stT T n m1 m2) {c : Nat} (hc : c < 27) : ∃ r l1 l2, fX4_wantWord rfC 137 (nI c) m1 = some (r, l1) ∧ fX12_wantWord rfM 0 (nI (pmL.getD c 0)) m2 = some (r, l2) ∧ wF m1 m2 l1 l2 ∧ ((r = 1 ∧ stT T n l1 l2) ∨ (r = 0 ∧ fl l1 l2)) := by
  obtain ⟨y, hy, hk⟩ := iw_tok h.1 h.2.1
  unfold fX4_wantWord fX12_wantWord
  rw [hy, p_bd]
  by_cases he : m1.1 137 8 = nI c
  · rw [if_pos he, if_pos ((kR_eq hk hc).mp he)]
    have ha : adv n m1 m2 := by
      obtain ⟨p, q, hpq, hqn, h6, h13, hk⟩ := h.2.1
      rcases hk with ⟨-, -, k3⟩ | ⟨-, -, -, k4, k5, -⟩ | ⟨-, -, k3, -⟩ | ⟨-, -, k3, -⟩ | ⟨-, -, k3⟩
      · rw [k3] at he; exact absurd he.symm (nI_nm1 (by omega))
      · exact ⟨q, hqn, k4, k5, le6 h6 hpq (by have := h.1.1; omega)⟩
      · rw [k3] at he; exact absurd he.symm (nI_nm1 (by omega))
      · rw [k3] at he; exact absurd he.symm (nI_nm1 (by omega))
      · rw [k3] at he; exact absurd he.symm (nI_nm1 (by omega))
    obtain ⟨l1, l2, q1, q2, hF, hs⟩ := w_next h ha
    rw [q1, q2]
    exact ⟨1, l1, l2, rfl, rfl, hF, Or.inl ⟨rfl, hs⟩⟩
  · rw [if_neg he, if_neg (fun z => he ((kR_eq hk hc).mpr z))]
    obtain ⟨l1, l2, q1, q2, hF, hf⟩ := w_fail h (x := 2) (by omega) (by omega)
    rw [show (2 : Int32) = nI 2 from rfl, q1, q2]
    exact ⟨0, l1, l2, rfl, rfl, hF, Or.inr ⟨rfl, hf⟩⟩
/-- a word may be there -/
theorem w_there (h : stT T n m1 m2) {c : Nat} (hc : c < 27) : (m1.1 137 8 = nI c ∧ ∃ l1 l2, fX4_next rfC 137 m1 = some ((), l1) ∧ fX12_isThere rfM 0 (nI (pmL.getD c 0)) m2 = some (1, l2) ∧ wF m1 m2 l1 l2 ∧ stT T n l1 l2) ∨ (¬ m1.1 137 8 = nI c ∧ fX12_isThere rfM 0 (nI (pmL.getD c 0)) m2 = some (0, m2)) := by
  obtain ⟨y, hy, hk⟩ := iw_tok h.1 h.2.1
  unfold fX12_isThere
  rw [hy, p_bd]
  by_cases he : m1.1 137 8 = nI c
  · have ha : adv n m1 m2 := by
      obtain ⟨p, q, hpq, hqn, h6, h13, hk⟩ := h.2.1
      rcases hk with ⟨-, -, k3⟩ | ⟨-, -, -, k4, k5, -⟩ | ⟨-, -, k3, -⟩ | ⟨-, -, k3, -⟩ | ⟨-, -, k3⟩
      · rw [k3] at he; exact absurd he.symm (nI_nm1 (by omega))
      · exact ⟨q, hqn, k4, k5, le6 h6 hpq (by have := h.1.1; omega)⟩
      · rw [k3] at he; exact absurd he.symm (nI_nm1 (by omega))
      · rw [k3] at he; exact absurd he.symm (nI_nm1 (by omega))
      · rw [k3] at he; exact absurd he.symm (nI_nm1 (by omega))
    obtain ⟨l1, l2, q1, q2, hF, hs⟩ := w_next h ha
    rw [if_pos ((kR_eq hk hc).mp he), q2]
    exact Or.inl ⟨he, l1, l2, q1, rfl, hF, hs⟩
  · rw [if_neg (fun z => he ((kR_eq hk hc).mpr z))]
    exact Or.inr ⟨he, rfl⟩
/-- the kinds of signs, side by side -/
theorem w_sign (h : stT T n m1 m2) : (m1.1 137 7 = 3 ∧ m2.1 0 12 = 4 ∧ (∃ q : Nat, q ≤ n ∧ m1.1 137 5 = nI q ∧ m2.1 0 14 = nI q ∧ (m1.1 137 6).toInt < q) ∧ m1.1 137 11 = m2.1 0 15 ∧ (m1.1 137 11 = 59 ∨ m1.1 137 11 = 60 ∨ m1.1 137 11 = 62 ∨ m1.1 137 11 = 61)) ∨ (¬ m1.1 137 7 = 3 ∧ ¬ m2.1 0 12 = 4) := by
  obtain ⟨p, q, hpq, hqn, h6, h13, hk⟩ := h.2.1
  rcases hk with ⟨k1, k2, -⟩ | ⟨k1, k2, -⟩ | ⟨k1, k2, -⟩ | ⟨k1, k2, -, k4, k5, x, k6, k7, k8, k9⟩ | ⟨k1, k2, -⟩
  · exact Or.inr ⟨by rw [k1]; decide, by rw [k2]; decide⟩
  · exact Or.inr ⟨by rw [k1]; decide, by rw [k2]; decide⟩
  · exact Or.inr ⟨by rw [k1]; decide, by rw [k2]; decide⟩
  · exact Or.inl ⟨k1, k2, ⟨q, hqn, k4, k5, by have := h.1.1; rw [h6, nI_toInt (by omega)]; omega⟩, k7.trans k8.symm, by rw [k7]; exact k6⟩
  · exact Or.inr ⟨by rw [k1]; decide, by rw [k2]; decide⟩
/-- the end of a part is wanted -/
theorem w_close (h : stT T n m1 m2) : ∃ r l1 l2, fX4_wantClose rfC 137 m1 = some (r, l1) ∧ fX12_wantSign rfM 0 59 m2 = some (r, l2) ∧ wF m1 m2 l1 l2 ∧ ((r = 1 ∧ stT T n l1 l2 ∧ (m1.1 137 6).toInt < (l1.1 137 6).toInt) ∨ (r = 0 ∧ fl l1 l2)) := by
  unfold fX4_wantClose fX12_wantSign fX12_isSign fX4_wantClose_j17
  have no : ∃ r l1 l2, (o_bd (fX4_fail rfC 137 2 m1) fun r1 μ1 => some (r1, μ1)) = some (r, l1) ∧ (o_bd (fX12_fails rfM 0 2 m2) fun r2 μ3 => some (r2, μ3)) = some (r, l2) ∧ wF m1 m2 l1 l2 ∧ ((r = 1 ∧ stT T n l1 l2 ∧ (m1.1 137 6).toInt < (l1.1 137 6).toInt) ∨ (r = 0 ∧ fl l1 l2)) := by
    obtain ⟨l1, l2, q1, q2, hF, hf⟩ := w_fail h (x := 2) (by omega) (by omega)
    rw [show (2 : Int32) = nI 2 from rfl, q1, q2]
    exact ⟨0, l1, l2, rfl, rfl, hF, Or.inr ⟨rfl, hf⟩⟩
  rcases w_sign h with ⟨k1, k2, ⟨q, hq, a5, a14, a6⟩, k3, -⟩ | ⟨k1, k2⟩
  · rw [if_pos k1, if_pos k2, ← k3]
    by_cases h59 : m1.1 137 11 = 59
    · rw [if_pos h59, if_pos h59, p_bd, if_neg (show ¬ (1 : Int32) = 0 by decide)]
      obtain ⟨l1, l2, q1, q2, hF, hs, hlt⟩ := w_nextS h hq a5 a14 (by omega)
      rw [q1, q2]
      exact ⟨1, l1, l2, rfl, rfl, hF, Or.inl ⟨rfl, hs, by omega⟩⟩
    · rw [if_neg h59, if_neg h59, p_bd, if_pos rfl]
      exact no
  · rw [if_neg k1, if_neg k2, p_bd, if_pos rfl]
    exact no
/-- a number is wanted -/
theorem w_num (h : stT T n m1 m2) {lo hi x : Nat} (hl : lo ≤ 99) (hh : hi ≤ 9999) (hx : x < 3756) : (∃ v l1 l2, lo ≤ v ∧ v ≤ hi ∧ fX4_wantNumber rfC 137 (nI lo) (nI hi) m1 = some (nI v, l1) ∧ fX12_number rfM 0 (nI x) (nI lo) (nI hi) m2 = some (1, l2) ∧ wF m1 (o_wI m2 1 x (nI v)) l1 l2 ∧ stT T n l1 l2) ∨ (∃ l1 l2, fX4_wantNumber rfC 137 (nI lo) (nI hi) m1 = some (-1, l1) ∧ fX12_number rfM 0 (nI x) (nI lo) (nI hi) m2 = some (0, l2) ∧ wF m1 m2 l1 l2 ∧ fl l1 l2) := by
  have hh0 := h
  obtain ⟨p, q, hpq, hqn, h6, h13, hk⟩ := h.2.1
  unfold fX4_wantNumber fX12_number fX4_wantNumber_j24 fX4_wantNumber_j38 fX12_number_j30
  have no2 : (∃ l1 l2, (o_bd (fX4_fail rfC 137 2 m1) fun _ μ1 => some ((-1 : Int32), μ1)) = some (-1, l1) ∧ (o_bd (fX12_fails rfM 0 2 m2) fun r2 μ3 => some (r2, μ3)) = some (0, l2) ∧ wF m1 m2 l1 l2 ∧ fl l1 l2) := by
    obtain ⟨l1, l2, q1, q2, hF, hf⟩ := w_fail h (x := 2) (by omega) (by omega)
    rw [show (2 : Int32) = nI 2 from rfl, q1, q2]
    exact ⟨l1, l2, rfl, rfl, hF, hf⟩
  have no4 : (∃ l1 l2, (o_bd (fX4_fail rfC 137 4 m1) fun _ μ1 => some ((-1 : Int32), μ1)) = some (-1, l1) ∧ (o_bd (fX12_fails rfM 0 4 m2) fun r2 μ3 => some (r2, μ3)) = some (0, l2) ∧ wF m1 m2 l1 l2 ∧ fl l1 l2) := by
    obtain ⟨l1, l2, q1, q2, hF, hf⟩ := w_fail h (x := 4) (by omega) (by omega)
    rw [show (4 : Int32) = nI 4 from rfl, q1, q2]
    exact ⟨l1, l2, rfl, rfl, hF, hf⟩
  rcases hk with ⟨k1, k2, -⟩ | ⟨k1, k2, -⟩ | ⟨k1, k2, -, k4, k5, v, hv, k10, k15⟩ | ⟨k1, k2, -⟩ | ⟨k1, k2, -⟩
  · rw [if_neg (show ¬ m1.1 137 7 = 2 by rw [k1]; decide), if_neg (show ¬ m1.1 137 7 = 2 by rw [k1]; decide), if_neg (show ¬ m2.1 0 12 = 3 by rw [k2]; decide)]
    exact Or.inr no2
  · rw [if_neg (show ¬ m1.1 137 7 = 2 by rw [k1]; decide), if_neg (show ¬ m1.1 137 7 = 2 by rw [k1]; decide), if_neg (show ¬ m2.1 0 12 = 3 by rw [k2]; decide)]
    exact Or.inr no2
  · rw [if_pos k1, if_pos k1, if_pos k2, k10, k15]
    by_cases hlo : v < lo
    · rw [if_pos ((n_lt (by omega) (by omega)).mpr hlo), if_pos ((n_lt (by omega) (by omega)).mpr hlo)]
      exact Or.inr no4
    · rw [if_neg (fun z => hlo ((n_lt (by omega) (by omega)).mp z)), if_neg (fun z => hlo ((n_lt (by omega) (by omega)).mp z))]
      by_cases hhi : v ≤ hi
      · rw [if_pos ((n_le (by omega) (by omega)).mpr hhi), if_pos ((n_le (by omega) (by omega)).mpr hhi), qm_0]
        simp (disch := omega) only [nI_toInt, nI_clamp, p_ck, p_seq]
        obtain ⟨l1, l2, q1, q2, hF, hs⟩ := w_next (st_w2 hh0 x (nI v)) ⟨q, hqn, k4, by rw [p_wI_o (by omega)]; exact k5, le6 h6 hpq (by have := h.1.1; omega)⟩
        rw [q1, q2]
        exact Or.inl ⟨v, l1, l2, by omega, hhi, rfl, rfl, hF, hs⟩
      · rw [if_neg (fun z => hhi ((n_le (by omega) (by omega)).mp z)), if_neg (fun z => hhi ((n_le (by omega) (by omega)).mp z))]
        exact Or.inr no4
  · rw [if_neg (show ¬ m1.1 137 7 = 2 by rw [k1]; decide), if_neg (show ¬ m1.1 137 7 = 2 by rw [k1]; decide), if_neg (show ¬ m2.1 0 12 = 3 by rw [k2]; decide)]
    exact Or.inr no2
  · rw [if_neg (show ¬ m1.1 137 7 = 2 by rw [k1]; decide), if_neg (show ¬ m1.1 137 7 = 2 by rw [k1]; decide), if_neg (show ¬ m2.1 0 12 = 3 by rw [k2]; decide)]
    exact Or.inr no2
end wn
