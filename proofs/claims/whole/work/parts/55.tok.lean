/-! ===== words of the TEXT ===== -/
theorem tb0 : ∀ i, i < 27 → ∀ j, j < (kw0.getD i []).length → o_chr 0 (stL0.getD i 0 + j) = nI ((kw0.getD i []).getD j 0) ∧ 97 ≤ (kw0.getD i []).getD j 0 ∧ (kw0.getD i []).getD j 0 ≤ 122 ∧ e32 ((kw0.getD i []).take (j + 1)) = e32 ((kw0.getD i []).take j) * 32 + ((kw0.getD i []).getD j 0 - 96) := by decide +kernel
theorem tb0s : ∀ i, i < 27 → o_chr 0 (stL0.getD i 0 + (kw0.getD i []).length) = 32 ∧ stL0.getD (i + 1) 141 = stL0.getD i 0 + (kw0.getD i []).length + 1 ∧ e32 ((kw0.getD i []).take (kw0.getD i []).length) = e32 (kw0.getD i []) ∧ stL0.getD i 0 + (kw0.getD i []).length < 141 ∧ kw0.getD i [] ∈ kw0 ∧ ixN kw0 (kw0.getD i []) 0 = nI i := by decide +kernel
theorem tb1 : ∀ i, i < 27 → ∀ j, j < (kw1.getD i []).length → o_chr 1 (stL1.getD i 0 + j) = nI ((kw1.getD i []).getD j 0) ∧ 97 ≤ (kw1.getD i []).getD j 0 ∧ (kw1.getD i []).getD j 0 ≤ 122 := by decide +kernel
theorem tb1s : ∀ i, i < 27 → o_chr 1 (stL1.getD i 0 + (kw1.getD i []).length) = 32 ∧ stL1.getD (i + 1) 142 = stL1.getD i 0 + (kw1.getD i []).length + 1 ∧ stL1.getD i 0 + (kw1.getD i []).length < 142 ∧ kw1.getD i [] ∈ kw0 ∧ ixN kw1 (kw1.getD i []) 0 = nI i := by decide +kernel
theorem ol_0 : o_ln 0 = nI 141 := by decide +kernel
theorem ol_1 : o_ln 1 = nI 142 := by decide +kernel
section kk
variable {m1 : o_Mem}
/-- the class looks a word up -/
theorem k_one (i : Nat) (hi : i < 27) (M : Nat) (m : o_Mem) : o_lp 115 (fX4_readWord_s115 rfC 137) ((kw0.getD i []).length + 1 + M) ((0 : Int64), nI i, nI (stL0.getD i 0)) m = o_lp 115 (fX4_readWord_s115 rfC 137) M ((0 : Int64), nI (i + 1), nI (stL0.getD (i + 1) 141)) (if lN (e32 (kw0.getD i [])) = m.2 137 9 then o_wI m 137 8 (nI i) else m) := by
  obtain ⟨t1, t2, t3, t4, -⟩ := tb0s i hi
  have key : ∀ j, j ≤ (kw0.getD i []).length → ∀ K, o_lp 115 (fX4_readWord_s115 rfC 137) (j + K) ((0 : Int64), nI i, nI (stL0.getD i 0)) m = o_lp 115 (fX4_readWord_s115 rfC 137) K (lN (e32 ((kw0.getD i []).take j)), nI i, nI (stL0.getD i 0 + j)) m := by
    intro j
    induction j with
    | zero =>
      intro _ K
      rw [Nat.zero_add, List.take_zero]
      rfl
    | succ j ih =>
      intro hj K
      obtain ⟨a1, a2, a3, a4⟩ := tb0 i hi j (by omega)
      rw [show j + 1 + K = j + (K + 1) by omega, ih (by omega)]
      refine p_lp_next ?_
      unfold fX4_readWord_s115
      rw [ol_0, if_neg (show ¬ nI 141 ≤ nI (stL0.getD i 0 + j) from fun z => by rw [n_le (by omega) (by omega)] at z; omega)]
      simp (disch := omega) only [nI_toInt, nI_clamp, p_ck, a1]
      rw [if_neg (show ¬ nI ((kw0.getD i []).getD j 0) = 32 by rw [show (32 : Int32) = nI 32 from rfl, nI_inj (by omega) (by omega)]; omega), show (nI ((kw0.getD i []).getD j 0) - 96 : Int32) = nI ((kw0.getD i []).getD j 0 - 96) from nI_sub2 (b := 96) (by omega), nI_l (by omega), show (32 : Int64) = lN 32 from rfl, lN_mul, lN_add, ← a4, aR_1]
      rfl
  rw [Nat.add_assoc, key _ (Nat.le_refl _), Nat.add_comm 1 M]
  refine p_lp_next ?_
  unfold fX4_readWord_s115 fX4_readWord_j171
  rw [ol_0, if_neg (show ¬ nI 141 ≤ nI (stL0.getD i 0 + (kw0.getD i []).length) from fun z => by rw [n_le (by omega) (by omega)] at z; omega)]
  simp (disch := omega) only [nI_toInt, nI_clamp, p_ck, t1, t3]
  rw [if_pos trivial, t2]
  by_cases he : lN (e32 (kw0.getD i [])) = m.2 137 9
  · rw [if_pos he, if_pos he, p_seq, aR_1, aR_1]
  · rw [if_neg he, if_neg he, aR_1, aR_1]
theorem k_all : ∀ (k i : Nat) (m : o_Mem), i + k = 27 → ∃ C m', C ≤ 9 * k ∧ (∀ M, o_lp 115 (fX4_readWord_s115 rfC 137) (C + M) ((0 : Int64), nI i, nI (stL0.getD i 141)) m = o_lp 115 (fX4_readWord_s115 rfC 137) M ((0 : Int64), nI 27, nI 141) m') ∧ m'.2 = m.2 ∧ (∀ q, q ≠ 137 → m'.1 q = m.1 q) ∧ (∀ q, q ≠ 8 → m'.1 137 q = m.1 137 q) ∧ ((∃ j, i ≤ j ∧ j < 27 ∧ lN (e32 (kw0.getD j [])) = m.2 137 9 ∧ m'.1 137 8 = nI j) ∨ ((∀ j, i ≤ j → j < 27 → ¬ lN (e32 (kw0.getD j [])) = m.2 137 9) ∧ m'.1 137 8 = m.1 137 8)) := by
  intro k
  induction k with
  | zero =>
    intro i m hi
    have h27 : i = 27 := by omega
    rw [h27]
    exact ⟨0, m, by omega, fun M => by rw [Nat.zero_add]; rfl, rfl, fun _ _ => rfl, fun _ _ => rfl, Or.inr ⟨fun j h1 h2 => by omega, rfl⟩⟩
  | succ k ih =>
    intro i m hi
    have hl := kw_len _ (tb0s i (by omega)).2.2.2.2.1
    have hst : stL0.getD i 141 = stL0.getD i 0 := by
      have : ∀ i, i < 27 → stL0.getD i 141 = stL0.getD i 0 := by decide +kernel
      exact this i (by omega)
    obtain ⟨C, m', c1, c2, c3, c4, c5, c6⟩ := ih (i + 1) (if lN (e32 (kw0.getD i [])) = m.2 137 9 then o_wI m 137 8 (nI i) else m) (by omega)
    have e2 : (if lN (e32 (kw0.getD i [])) = m.2 137 9 then o_wI m 137 8 (nI i) else m).2 = m.2 := by split <;> rfl
    refine ⟨(kw0.getD i []).length + 1 + C, m', by omega, fun M => ?_, by rw [c3, e2], fun q hq => ?_, fun q hq => ?_, ?_⟩
    · rw [hst, Nat.add_assoc, k_one i (by omega), c2]
    · rw [c4 q hq]
      split
      · rw [p_wI_o hq]
      · rfl
    · rw [c5 q hq]
      split
      · rw [p_wI1, if_neg (fun z => hq z.2)]
      · rfl
    · rw [e2] at c6
      rcases c6 with ⟨j, j1, j2, j3, j4⟩ | ⟨hj, j4⟩
      · exact Or.inl ⟨j, by omega, j2, j3, j4⟩
      · by_cases he : lN (e32 (kw0.getD i [])) = m.2 137 9
        · rw [if_pos he, p_wI1, if_pos ⟨rfl, rfl⟩] at j4
          exact Or.inl ⟨i, Nat.le_refl _, by omega, he, j4⟩
        · rw [if_neg he] at j4
          refine Or.inr ⟨fun j h1 h2 => ?_, j4⟩
          by_cases e : j = i
          · rw [e]; exact he
          · exact hj j (by omega) h2
theorem k_look {m : o_Mem} (h8 : m.1 137 8 = -1) : ∃ m', o_lp 115 (fX4_readWord_s115 rfC 137) o_fuel ((0 : Int64), 0, 0) m = some ((182, (0, 0, 0)), m') ∧ m'.2 = m.2 ∧ (∀ q, q ≠ 137 → m'.1 q = m.1 q) ∧ (∀ q, q ≠ 8 → m'.1 137 q = m.1 137 q) ∧ (∀ cs, cs.length ≤ 8 → sml cs → m.2 137 9 = lN (e32 cs) → m'.1 137 8 = ixN kw0 cs 0) ∧ (m.2 137 9 = -1 → m'.1 137 8 = -1) := by
  obtain ⟨C, m', c1, c2, c3, c4, c5, c6⟩ := k_all 27 0 m (by omega)
  have hex : fX4_readWord_s115 rfC 137 ((0 : Int64), nI 27, nI 141) m' = some ((182, (0, 0, 0)), m') := by
    unfold fX4_readWord_s115
    rw [ol_0, if_pos (show nI 141 ≤ nI 141 by rw [n_le (by omega) (by omega)]; omega)]
  have hk : ∀ j, j < 27 → (kw0.getD j []).length ≤ 8 ∧ sml (kw0.getD j []) := fun j hj => by
    have := kw_len _ (tb0s j hj).2.2.2.2.1
    exact ⟨this.2.1, this.2.2⟩
  refine ⟨m', p_lp (n := C + 1) ?_ (by omega), c3, c4, c5, fun cs h1 h2 h3 => ?_, fun h3 => ?_⟩
  · have := c2 1
    rw [show ((0 : Int64), (0 : Int32), (0 : Int32)) = ((0 : Int64), nI 0, nI (stL0.getD 0 141)) from rfl, this]
    exact p_lp_exit hex (show ¬ 182 = 115 by decide)
  · rw [h3] at c6
    rcases c6 with ⟨j, -, j2, j3, j4⟩ | ⟨hj, j4⟩
    · have := (nm_e32 (hk j j2).1 h1 (hk j j2).2 h2).mp j3
      rw [j4, ← this, (tb0s j j2).2.2.2.2.2]
    · rw [j4, h8, ixN_no]
      intro hmem
      obtain ⟨c, a1, a2, -⟩ := kw_ix cs hmem
      exact hj c (by omega) a1 (by rw [a2])
  · rw [h3] at c6
    rcases c6 with ⟨j, -, j2, j3, j4⟩ | ⟨-, j4⟩
    · exact absurd j3 (nm_ne1 (hk j j2).1 (hk j j2).2)
    · rw [j4, h8]
end kk
section wr
variable {T : Nat → Int32} {n : Nat} {m1 m2 : o_Mem}
theorem lx_word (h : txR T n m1 m2) {p : Nat} (hp : p < n) (hd : isSm (T p)) (h5 : m1.1 137 5 = nI p) (h6 : m1.1 137 6 = nI p) (h8 : m1.1 137 8 = -1) (h14 : m2.1 0 14 = nI p) (h13 : m2.1 0 13 = nI p) : ∃ q l1 l2, p < q ∧ q ≤ n ∧ fX4_readWord rfC 137 m1 = some ((), l1) ∧ o_lp 81 (fX12_ahead_s81 rfM 0) o_fuel () m2 = some ((108, ()), l2) ∧ lxF m1 m2 l1 l2 ∧ l1.1 137 6 = nI p ∧ l2.1 0 13 = nI p ∧ l1.1 137 7 = 1 ∧ l1.1 137 5 = nI q ∧ l2.1 0 14 = nI q ∧ (∀ k, p ≤ k → k < q → isSm (T k)) ∧ ((q - p ≤ 8 ∧ l1.2 137 9 = lN (e32 (wd T p (q - p))) ∧ l1.1 137 8 = ixN kw0 (wd T p (q - p)) 0) ∨ (8 < q - p ∧ l1.2 137 9 = -1 ∧ l1.1 137 8 = -1)) := by
  have h9 := h.1
  unfold fX4_readWord
  simp only [p_seq]
  obtain ⟨e1, l1, e2, l2, q1, q2, rfl, rfl, q, a1, a2, a3, a4, a5, a6, a7, a8, a9, a10, a11⟩ := lp_rel (h1 := 10) (h2 := 81) (s1 := fX4_readWord_s10 rfC 137) (s2 := fX12_ahead_s81 rfM 0)
    (fun i _ l1 _ l2 => ∃ q, q + i = n ∧ p ≤ q ∧ lxF m1 m2 l1 l2 ∧ l1.1 137 6 = nI p ∧ l2.1 0 13 = nI p ∧ l1.1 137 8 = -1 ∧ l1.1 137 7 = 1 ∧ l1.1 137 5 = nI q ∧ l2.1 0 14 = nI q ∧ (∀ k, p ≤ k → k < q → isSm (T k)) ∧ ((q - p ≤ 8 ∧ l1.2 137 9 = lN (e32 (wd T p (q - p)))) ∨ (8 < q - p ∧ l1.2 137 9 = -1)))
    (fun e1 l1 e2 l2 => e1 = (108, ()) ∧ e2 = (108, ()) ∧ ∃ q, p < q ∧ q ≤ n ∧ lxF m1 m2 l1 l2 ∧ l1.1 137 6 = nI p ∧ l2.1 0 13 = nI p ∧ l1.1 137 8 = -1 ∧ l1.1 137 7 = 1 ∧ l1.1 137 5 = nI q ∧ l2.1 0 14 = nI q ∧ (∀ k, p ≤ k → k < q → isSm (T k)) ∧ ((q - p ≤ 8 ∧ l1.2 137 9 = lN (e32 (wd T p (q - p)))) ∨ (8 < q - p ∧ l1.2 137 9 = -1)))
    (fun i _ l1 _ l2 hR => by
      obtain ⟨q, hq, hpq, hF, b6, b13, b8, b7, b5, b14, hs, hv⟩ := hR
      have hx := lxF_tx h hF
      unfold fX4_readWord_s10 fX12_ahead_s81 fX4_readWord_j92
      rw [rc137_0, hx.2.1, b5, b14, e12_byte hx q (by omega), p_bd, e12_small, p_bd, bI_if]
      by_cases hi : q < n
      · rw [if_neg (show ¬ nI n ≤ nI q from fun z => by rw [n_le (by omega) (by omega)] at z; omega)]
        simp (disch := omega) only [nI_toInt, nI_clamp, p_ck, (hx.2.2.2 q hi).1, if_sm]
        by_cases hsm : isSm (T q)
        · obtain ⟨c1, c2, c3⟩ := sm_nI hsm
          rw [if_pos hsm, if_pos ((by_sm hx q).mpr ⟨hi, hsm⟩), b6, b14, nI_sub2 hpq]
          simp (disch := omega) only [nI_toInt, nI_clamp, p_ck, p_seq, (hx.2.2.2 q hi).1, p_wL1, b5, aR_1]
          have hs' : ∀ k, p ≤ k → k < q + 1 → isSm (T k) := fun k k1 k2 => by
            by_cases e : k = q
            · rw [e]; exact hsm
            · exact hs k k1 (by omega)
          by_cases h8' : 8 ≤ q - p
          · rw [if_pos (show (8 : Int32) ≤ nI (q - p) from (n_le (a := 8) (b := q - p) (by omega) (by omega)).mpr h8')]
            refine ⟨_, _, _, _, rfl, rfl, Or.inl ⟨rfl, rfl, i - 1, by omega, q + 1, by omega, by omega, lxF_tr hF (lxF_tr (lxF_tr (lx_wL _) (lx_w (by omega) _)) (lx_v (by omega) _)), ?_, ?_, ?_, ?_, ?_, ?_, hs', Or.inr ⟨by omega, ?_⟩⟩⟩
            · rw [p_wI1, if_neg (by omega)]; exact b6
            · rw [p_wI1, if_neg (by omega)]; exact b13
            · rw [p_wI1, if_neg (by omega)]; exact b8
            · rw [p_wI1, if_neg (by omega)]; exact b7
            · rw [p_wI1, if_pos ⟨rfl, rfl⟩]
            · rw [p_wI1, if_pos ⟨rfl, rfl⟩]
            · rw [p_wI2, p_wL2, if_pos ⟨rfl, rfl⟩]
          · rw [if_neg (show ¬ (8 : Int32) ≤ nI (q - p) from fun z => h8' ((n_le (a := 8) (b := q - p) (by omega) (by omega)).mp z))]
            rcases hv with ⟨hv1, hv2⟩ | ⟨hv1, -⟩
            · have hnew : l1.2 137 9 * 32 + (T q - 96).toInt64 = lN (e32 (wd T p (q + 1 - p))) := by
                rw [show q + 1 - p = (q - p) + 1 by omega, wd_s, e32_s, show p + (q - p) = q by omega, hv2, show (T q - 96 : Int32) = nI ((T q).toNatClampNeg - 96) by
                  have := nI_sub2 (a := (T q).toNatClampNeg) (b := 96) (by omega)
                  rw [← c1] at this
                  exact this, nI_l (by omega), show (32 : Int64) = lN 32 from rfl, lN_mul, lN_add]
              rw [hnew]
              refine ⟨_, _, _, _, rfl, rfl, Or.inl ⟨rfl, rfl, i - 1, by omega, q + 1, by omega, by omega, lxF_tr hF (lxF_tr (lxF_tr (lx_wL _) (lx_w (by omega) _)) (lx_v (by omega) _)), ?_, ?_, ?_, ?_, ?_, ?_, hs', Or.inl ⟨by omega, ?_⟩⟩⟩
              · rw [p_wI1, if_neg (by omega)]; exact b6
              · rw [p_wI1, if_neg (by omega)]; exact b13
              · rw [p_wI1, if_neg (by omega)]; exact b8
              · rw [p_wI1, if_neg (by omega)]; exact b7
              · rw [p_wI1, if_pos ⟨rfl, rfl⟩]
              · rw [p_wI1, if_pos ⟨rfl, rfl⟩]
              · rw [p_wI2, p_wL2, if_pos ⟨rfl, rfl⟩]
            · omega
        · rw [if_neg hsm, if_neg (fun z => hsm ((by_sm hx q).mp z).2)]
          have hqp : p < q := by
            by_cases e : p = q
            · rw [← e] at hsm; exact absurd hd hsm
            · omega
          exact ⟨_, _, _, _, rfl, rfl, Or.inr ⟨show ¬ 108 = 10 by decide, show ¬ 108 = 81 by decide, rfl, rfl, q, hqp, by omega, hF, b6, b13, b8, b7, b5, b14, hs, hv⟩⟩
      · rw [if_pos (show nI n ≤ nI q by rw [n_le (by omega) (by omega)]; omega), if_neg (fun z => hi ((by_sm hx q).mp z).1)]
        exact ⟨_, _, _, _, rfl, rfl, Or.inr ⟨show ¬ 108 = 10 by decide, show ¬ 108 = 81 by decide, rfl, rfl, q, by omega, by omega, hF, b6, b13, b8, b7, b5, b14, hs, hv⟩⟩)
    o_fuel (n - p) () (o_wL (o_wI m1 137 7 1) 137 9 0) () m2 (fu (by omega)) ⟨p, by omega, by omega, lxF_tr (lx_w (by omega) _) (lx_wL _), by rw [p_wL1, p_wI1, if_neg (by omega)]; exact h6, h13, by rw [p_wL1, p_wI1, if_neg (by omega)]; exact h8, by rw [p_wL1, p_wI1, if_pos ⟨rfl, rfl⟩], by rw [p_wL1, p_wI1, if_neg (by omega)]; exact h5, h14, fun k k1 k2 => by omega, Or.inl ⟨by omega, by rw [p_wL2, if_pos ⟨rfl, rfl⟩, Nat.sub_self]; rfl⟩⟩
  rw [q1, p_bd, if_pos rfl]
  obtain ⟨l3, z1, z2, z3, z4, z5, z6⟩ := k_look a6
  rw [z1, p_bd, if_pos rfl]
  have hF3 : lxF l1 l2 l3 l2 := ⟨fun i hi => z3 i hi, fun k hk => z4 k (by omega), fun i _ => by rw [z2], fun _ _ => rfl, fun _ _ _ _ _ => rfl, rfl⟩
  refine ⟨q, l3, l2, a1, a2, rfl, q2, lxF_tr a3 hF3, (z4 6 (by omega)).trans a4, a5, (z4 7 (by omega)).trans a7, (z4 5 (by omega)).trans a8, a9, a10, ?_⟩
  rcases a11 with ⟨b1, b2⟩ | ⟨b1, b2⟩
  · exact Or.inl ⟨b1, by rw [z2]; exact b2, z5 _ (by rw [wd_len]; exact b1) (wd_sml _ _ (fun k k1 k2 => a10 k k1 (by omega))) b2⟩
  · exact Or.inr ⟨b1, by rw [z2]; exact b2, z6 b2⟩
/-- the sign (WORD, number ..) that is next -/
def tok (T : Nat → Int32) (n : Nat) (m1 m2 : o_Mem) : Prop := ∃ p q, p ≤ q ∧ q ≤ n ∧ m1.1 137 6 = nI p ∧ m2.1 0 13 = nI p ∧
  ((m1.1 137 7 = 0 ∧ m2.1 0 12 = 0 ∧ m1.1 137 8 = -1) ∨
   (m1.1 137 7 = 1 ∧ m2.1 0 12 = 2 ∧ p < q ∧ m1.1 137 5 = nI q ∧ m2.1 0 14 = nI q ∧ (∀ k, p ≤ k → k < q → isSm (T k)) ∧ ((q - p ≤ 8 ∧ m1.2 137 9 = lN (e32 (wd T p (q - p))) ∧ m1.1 137 8 = ixN kw0 (wd T p (q - p)) 0) ∨ (8 < q - p ∧ m1.2 137 9 = -1 ∧ m1.1 137 8 = -1))) ∨
   (m1.1 137 7 = 2 ∧ m2.1 0 12 = 3 ∧ m1.1 137 8 = -1 ∧ m1.1 137 5 = nI q ∧ m2.1 0 14 = nI q ∧ ∃ v, v ≤ 9999 ∧ m1.1 137 10 = nI v ∧ m2.1 0 15 = nI v) ∨
   (m1.1 137 7 = 3 ∧ m2.1 0 12 = 4 ∧ m1.1 137 8 = -1 ∧ m1.1 137 5 = nI q ∧ m2.1 0 14 = nI q ∧ ∃ x, (x = 59 ∨ x = 60 ∨ x = 62 ∨ x = 61) ∧ m1.1 137 11 = x ∧ m2.1 0 15 = x ∧ p < q) ∨
   (m1.1 137 7 = 4 ∧ m2.1 0 12 = 1 ∧ m1.1 137 8 = -1))
theorem e4_sign (rf : Nat → Nat → Nat) (x : Int32) (μ : o_Mem) : fX4_isSign rf x μ = some (bI (x = 59 ∨ x = 60 ∨ x = 62 ∨ x = 61), μ) := by
  unfold fX4_isSign
  by_cases h1 : x = 59
  · rw [if_pos h1, bI_t (Or.inl h1)]
  · rw [if_neg h1]
    by_cases h2 : x = 60
    · rw [if_pos h2, bI_t (Or.inr (Or.inl h2))]
    · rw [if_neg h2]
      by_cases h3 : x = 62
      · rw [if_pos h3, bI_t (Or.inr (Or.inr (Or.inl h3)))]
      · rw [if_neg h3]
        by_cases h4 : x = 61
        · rw [if_pos h4, bI_t (Or.inr (Or.inr (Or.inr h4)))]
        · rw [if_neg h4, bI_f (fun z => by rcases z with z | z | z | z; exact h1 z; exact h2 z; exact h3 z; exact h4 z)]
theorem lex (h : txR T n m1 m2) {p0 : Nat} (hp : p0 ≤ n) (h5 : m1.1 137 5 = nI p0) (h14 : m2.1 0 14 = nI p0) : ∃ l1 l2, fX4_next rfC 137 m1 = some ((), l1) ∧ fX12_ahead rfM 0 m2 = some ((), l2) ∧ (∃ p, p0 ≤ p ∧ p ≤ n ∧ l1.1 137 6 = nI p) ∧ lxF m1 m2 l1 l2 ∧ tok T n l1 l2 := by
  have h9 := h.1
  obtain ⟨q, k1, k2, a1, a2, a3, q1, q2, hF, a5, a14⟩ := lx_skip h hp h5 h14
  have hx := lxF_tx h hF
  unfold fX4_next fX12_ahead
  rw [q1, q2, p_bd, p_bd, if_pos rfl, if_pos rfl]
  unfold fX4_next_j52 fX4_next_j119 fX4_next_j154
  rw [rc137_0]
  simp only [p_seq]
  rw [a5, a14]
  generalize hn1 : o_wI (o_wI k1 137 6 (nI q)) 137 8 (-1) = n1
  generalize hn2 : o_wI k2 0 13 (nI q) = n2
  have c5 : n1.1 137 5 = nI q := by rw [← hn1, p_wI1, if_neg (by omega), p_wI1, if_neg (by omega)]; exact a5
  have c6 : n1.1 137 6 = nI q := by rw [← hn1, p_wI1, if_neg (by omega), p_wI1, if_pos ⟨rfl, rfl⟩]
  have c8 : n1.1 137 8 = -1 := by rw [← hn1, p_wI1, if_pos ⟨rfl, rfl⟩]
  have c4 : n1.1 137 4 = nI n := by rw [← hn1, p_wI1, if_neg (by omega), p_wI1, if_neg (by omega)]; exact hx.2.1
  have c13 : n2.1 0 13 = nI q := by rw [← hn2, p_wI1, if_pos ⟨rfl, rfl⟩]
  have c14 : n2.1 0 14 = nI q := by rw [← hn2, p_wI1, if_neg (by omega)]; exact a14
  have hF1 : lxF m1 m2 n1 n2 := by
    rw [← hn1, ← hn2]
    exact lxF_tr hF (lxF_tr (lxF_tr (lx_w (by omega) _) (lx_w (by omega) _)) (lx_v (by omega) _))
  have hx1 := lxF_tx h hF1
  rw [c5, c4, c14, e12_byte hx1 q (by omega), p_bd]
  generalize hn3 : o_wI n2 0 15 (byV T n q) = n3
  have d13 : n3.1 0 13 = nI q := by rw [← hn3, p_wI1, if_neg (by omega)]; exact c13
  have d14 : n3.1 0 14 = nI q := by rw [← hn3, p_wI1, if_neg (by omega)]; exact c14
  have d15 : n3.1 0 15 = byV T n q := by rw [← hn3, p_wI1, if_pos ⟨rfl, rfl⟩]
  have hF3 : lxF m1 m2 n1 n3 := by rw [← hn3]; exact lxF_tr hF1 (lx_v (by omega) _)
  have hx3 := lxF_tx h hF3
  by_cases hq : q < n
  · have hb := (hx1.2.2.2 q hq).2.2
    rw [if_pos (show nI q < nI n from (n_lt (by omega) (by omega)).mpr hq), if_neg (show ¬ byV T n q = -1 by unfold byV; rw [if_pos hq]; exact u8_nn hb)]
    simp (disch := omega) only [nI_toInt, nI_clamp, p_ck, (hx1.2.2.2 q hq).1, e4_sign, e12_small, e12_digit, p_bd, bI_if, c5, if_sm, if_dg]
    by_cases hsm : isSm (T q)
    · rw [if_pos hsm, if_pos ((by_sm hx1 q).mpr ⟨hq, hsm⟩)]
      obtain ⟨q', l1, l2, b1, b2, r1, r2, G, g6, g13, g7, g5, g14, gs, gv⟩ := lx_word hx3 hq hsm c5 c6 c8 d14 d13
      rw [r1, r2, p_bd, p_bd, if_pos rfl]
      refine ⟨_, _, rfl, rfl, ⟨q, a1, a2, g6⟩, lxF_tr hF3 (lxF_tr G (lx_v (by omega) _)), q, q', by omega, b2, g6, by rw [p_wI1, if_neg (by omega)]; exact g13, Or.inr (Or.inl ⟨g7, by rw [p_wI1, if_pos ⟨rfl, rfl⟩], b1, g5, by rw [p_wI1, if_neg (by omega)]; exact g14, gs, gv⟩)⟩
    · rw [if_neg hsm, if_neg (fun z => hsm ((by_sm hx1 q).mp z).2)]
      by_cases hdg : isDg (T q)
      · rw [if_pos hdg, if_pos ((by_dg hx1 q).mpr ⟨hq, hdg⟩)]
        generalize hn4 : o_wI n3 0 15 0 = n4
        have e13 : n4.1 0 13 = nI q := by rw [← hn4, p_wI1, if_neg (by omega)]; exact d13
        have e14 : n4.1 0 14 = nI q := by rw [← hn4, p_wI1, if_neg (by omega)]; exact d14
        have e15 : n4.1 0 15 = 0 := by rw [← hn4, p_wI1, if_pos ⟨rfl, rfl⟩]
        have hF4 : lxF m1 m2 n1 n4 := by rw [← hn4]; exact lxF_tr hF3 (lx_v (by omega) _)
        obtain ⟨q', l1, l2, b1, b2, r1, r2, G, g6, g13, g8, g5, g14, gv⟩ := lx_num (lxF_tx h hF4) hq hdg c5 c6 c8 e14 e13 e15
        rw [r1, r2, p_bd, p_bd, if_pos rfl, g14, g13, nI_sub2 (by omega)]
        unfold fX12_ahead_j202
        simp only [p_seq]
        rcases gv with ⟨v1, v2, v, v3, v4, v5⟩ | ⟨v1, v2⟩
        · rw [if_pos (show nI (q' - q) ≤ 4 from (n_le (a := q' - q) (b := 4) (by omega) (by omega)).mpr v1)]
          exact ⟨_, _, rfl, rfl, ⟨q, a1, a2, g6⟩, lxF_tr hF4 (lxF_tr G (lx_v (by omega) _)), q, q', by omega, b2, g6, by rw [p_wI1, if_neg (by omega)]; exact g13, Or.inr (Or.inr (Or.inl ⟨v2, by rw [p_wI1, if_pos ⟨rfl, rfl⟩], g8, g5, by rw [p_wI1, if_neg (by omega)]; exact g14, v, v3, v4, by rw [p_wI1, if_neg (by omega)]; exact v5⟩))⟩
        · rw [if_neg (show ¬ nI (q' - q) ≤ 4 from fun z => by have := (n_le (a := q' - q) (b := 4) (by omega) (by omega)).mp z; omega)]
          exact ⟨_, _, rfl, rfl, ⟨q, a1, a2, g6⟩, lxF_tr hF4 (lxF_tr G (lx_v (by omega) _)), q, q', by omega, b2, g6, by rw [p_wI1, if_neg (by omega)]; exact g13, Or.inr (Or.inr (Or.inr (Or.inr ⟨v2, by rw [p_wI1, if_pos ⟨rfl, rfl⟩], g8⟩)))⟩
      · rw [if_neg hdg, if_neg (fun z => hdg ((by_dg hx1 q).mp z).2), d14, aR_1]
        generalize hn5 : o_wI n3 0 14 (nI (q + 1)) = n5
        have f13 : n5.1 0 13 = nI q := by rw [← hn5, p_wI1, if_neg (by omega)]; exact d13
        have f14 : n5.1 0 14 = nI (q + 1) := by rw [← hn5, p_wI1, if_pos ⟨rfl, rfl⟩]
        have f15 : n5.1 0 15 = byV T n q := by rw [← hn5, p_wI1, if_neg (by omega)]; exact d15
        have hF5 : lxF m1 m2 n1 n5 := by rw [← hn5]; exact lxF_tr hF3 (lx_v (by omega) _)
        unfold fX12_ahead_j243 fX12_ahead_j248
        simp only [p_seq]
        by_cases hsg : T q = 59 ∨ T q = 60 ∨ T q = 62 ∨ T q = 61
        · rw [if_pos hsg]
          have hby : byV T n q = T q := by
            unfold byV
            rw [if_pos hq, u8_id]
            rcases hsg with z | z | z | z <;> rw [z] <;> decide
          have hm : ∀ X Y : Option (Unit × o_Mem), (if byV T n q = 59 then X else if byV T n q = 60 then X else if byV T n q = 62 then X else if byV T n q = 61 then X else Y) = X := fun X Y => by
            rw [hby]
            rcases hsg with z | z | z | z <;> rw [z] <;> rfl
          rw [hm]
          have g5 : (o_wI n1 137 7 3).1 137 5 = nI q := by rw [p_wI1, if_neg (by omega)]; exact c5
          have g138 : (o_wI n1 137 7 3).1 138 q = T q := by rw [p_wI_o (by omega)]; exact (hx1.2.2.2 q hq).1
          simp (disch := omega) only [nI_toInt, nI_clamp, p_ck, g5, g138]
          rw [show (o_wI (o_wI n1 137 7 3) 137 11 (T q)).1 137 5 = nI q by rw [p_wI1, if_neg (by omega)]; exact g5, aR_1]
          refine ⟨_, _, rfl, rfl, ⟨q, a1, a2, by rw [p_wI1, if_neg (by omega), p_wI1, if_neg (by omega), p_wI1, if_neg (by omega)]; exact c6⟩, lxF_tr hF5 (lxF_tr (lxF_tr (lx_w (by omega) _) (lxF_tr (lx_w (by omega) _) (lx_w (by omega) _))) (lx_v (by omega) _)), q, q + 1, by omega, by omega, ?_, ?_, Or.inr (Or.inr (Or.inr (Or.inl ⟨?_, ?_, ?_, ?_, ?_, T q, hsg, ?_, ?_, by omega⟩)))⟩
          · rw [p_wI1, if_neg (by omega), p_wI1, if_neg (by omega), p_wI1, if_neg (by omega)]; exact c6
          · rw [p_wI1, if_neg (by omega)]; exact f13
          · rw [p_wI1, if_neg (by omega), p_wI1, if_neg (by omega), p_wI1, if_pos ⟨rfl, rfl⟩]
          · rw [p_wI1, if_pos ⟨rfl, rfl⟩]
          · rw [p_wI1, if_neg (by omega), p_wI1, if_neg (by omega), p_wI1, if_neg (by omega)]; exact c8
          · rw [p_wI1, if_pos ⟨rfl, rfl⟩]
          · rw [p_wI1, if_neg (by omega)]; exact f14
          · rw [p_wI1, if_neg (by omega), p_wI1, if_pos ⟨rfl, rfl⟩]
          · rw [p_wI1, if_neg (by omega), f15, hby]
        · rw [if_neg hsg]
          have hne : ∀ c : Int32, 0 ≤ c.toInt ∧ c.toInt < 128 → ¬ T q = c → ¬ byV T n q = c := fun c hc hne z => hne ((by_eq hx1 q hc).mp z).2
          rw [if_neg (hne 59 (by decide) (fun z => hsg (Or.inl z))), if_neg (hne 60 (by decide) (fun z => hsg (Or.inr (Or.inl z)))), if_neg (hne 62 (by decide) (fun z => hsg (Or.inr (Or.inr (Or.inl z))))), if_neg (hne 61 (by decide) (fun z => hsg (Or.inr (Or.inr (Or.inr z)))))]
          exact ⟨_, _, rfl, rfl, ⟨q, a1, a2, by rw [p_wI1, if_neg (by omega)]; exact c6⟩, lxF_tr hF5 (lxF_tr (lx_w (by omega) _) (lx_v (by omega) _)), q, q, by omega, by omega, by rw [p_wI1, if_neg (by omega)]; exact c6, by rw [p_wI1, if_neg (by omega)]; exact f13, Or.inr (Or.inr (Or.inr (Or.inr ⟨by rw [p_wI1, if_pos ⟨rfl, rfl⟩], by rw [p_wI1, if_pos ⟨rfl, rfl⟩], by rw [p_wI1, if_neg (by omega)]; exact c8⟩)))⟩
  · rw [if_neg (show ¬ nI q < nI n from fun z => hq ((n_lt (by omega) (by omega)).mp z)), if_pos (show byV T n q = -1 by unfold byV; rw [if_neg hq])]
    exact ⟨_, _, rfl, rfl, ⟨q, a1, a2, by rw [p_wI1, if_neg (by omega)]; exact c6⟩, lxF_tr hF3 (lxF_tr (lx_w (by omega) _) (lx_v (by omega) _)), q, q, by omega, by omega, by rw [p_wI1, if_neg (by omega)]; exact c6, by rw [p_wI1, if_neg (by omega)]; exact d13, Or.inl ⟨by rw [p_wI1, if_pos ⟨rfl, rfl⟩], by rw [p_wI1, if_pos ⟨rfl, rfl⟩], by rw [p_wI1, if_neg (by omega)]; exact c8⟩⟩
end wr
