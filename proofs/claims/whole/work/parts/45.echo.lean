/-! ===== where ANSWERS lead: echo, round, rings, longest ===== -/
/-- steps along G: none: the end; some none: an ANSWER that gets no STRIKE -/
def nxt (G : Nat → Option (Option Nat)) (c : Nat) : Nat := match G c with
  | some (some d) => d
  | _ => 0
def wk (G : Nat → Option (Option Nat)) (c0 : Nat) : Nat → Nat
  | 0 => c0
  | i + 1 => nxt G (wk G c0 i)
def lv (G : Nat → Option (Option Nat)) (c : Nat) : Prop := ∃ d, G c = some (some d)
def dis (G : Nat → Option (Option Nat)) (c0 n : Nat) : Prop := ∀ i j, i < n → j < n → wk G c0 i = wk G c0 j → i = j
/-- it ends after n steps -/
def enA (G : Nat → Option (Option Nat)) (c0 n : Nat) : Prop := n < 36 ∧ (∀ j, j < n → lv G (wk G c0 j)) ∧ dis G c0 (n + 1)
/-- it comes round: b steps, then a ring of r -/
def riB (G : Nat → Option (Option Nat)) (c0 b r : Nat) : Prop := 0 < r ∧ b + r ≤ 36 ∧ (∀ j, j < b + r → lv G (wk G c0 j)) ∧ dis G c0 (b + r) ∧ wk G c0 (b + r) = wk G c0 b
section ob
variable {G : Nat → Option (Option Nat)} {c0 : Nat}
theorem lv_nxt {c : Nat} (h : lv G c) : G c = some (some (nxt G c)) := by
  obtain ⟨d, h⟩ := h
  unfold nxt
  rw [h]
theorem wk_shift {i j : Nat} (h : wk G c0 i = wk G c0 j) : ∀ k, wk G c0 (i + k) = wk G c0 (j + k)
  | 0 => h
  | k + 1 => by
    show nxt G (wk G c0 (i + k)) = nxt G (wk G c0 (j + k))
    rw [wk_shift h k]
theorem ri_in {b r : Nat} (h : riB G c0 b r) : ∀ i, ∃ j, j < b + r ∧ (b ≤ i → b ≤ j) ∧ (i < b + r → j = i) ∧ wk G c0 i = wk G c0 j
  | 0 => ⟨0, by have := h.1; omega, fun z => z, fun _ => rfl, rfl⟩
  | i + 1 => by
    obtain ⟨j, h1, h2, h4, h3⟩ := ri_in h i
    have h0 := h.1
    have e := wk_shift h3 1
    by_cases hj : j + 1 < b + r
    · refine ⟨j + 1, hj, fun z => ?_, fun z => by have := h4 (by omega); omega, e⟩
      by_cases hb : b ≤ i
      · have := h2 hb; omega
      · have := h4 (by omega); omega
    · refine ⟨b, by omega, fun _ => Nat.le_refl _, fun z => by have := h4 (by omega); omega, e.trans ?_⟩
      rw [show j + 1 = b + r by omega]
      exact h.2.2.2.2
theorem ri_lv {b r : Nat} (h : riB G c0 b r) (i : Nat) : lv G (wk G c0 i) := by
  obtain ⟨j, h1, -, -, h3⟩ := ri_in h i
  rw [h3]
  exact h.2.2.1 j h1
/-- r steps on the ring come back, fewer don't -/
theorem ri_per {b r i : Nat} (h : riB G c0 b r) (hi : b ≤ i) : wk G c0 (i + r) = wk G c0 i ∧ ∀ k, 1 ≤ k → k < r → ¬ wk G c0 (i + k) = wk G c0 i := by
  have h0 := h.1
  obtain ⟨j, h1, h2, -, h3⟩ := ri_in h i
  have hj := h2 hi
  have per : ∀ x, b ≤ x → wk G c0 (x + r) = wk G c0 x := fun x hx => by
    have := wk_shift h.2.2.2.2 (x - b)
    rw [show b + r + (x - b) = x + r by omega, show b + (x - b) = x by omega] at this
    exact this
  refine ⟨per i hi, fun k hk1 hk2 he => ?_⟩
  have e1 := wk_shift h3 k
  rw [he, h3] at e1
  by_cases hjk : j + k < b + r
  · have := h.2.2.2.1 j (j + k) h1 hjk e1
    omega
  · have e2 := per (j + k - r) (by omega)
    rw [show j + k - r + r = j + k by omega] at e2
    have := h.2.2.2.1 j (j + k - r) h1 (by omega) (e1.trans e2)
    omega
end ob
section ec
variable {g : Nat → Nat → Int32} {μC μM : o_Mem}
def sbC (g : Nat → Nat → Int32) (c : Nat) : Int32 := sob g (nI (c / 6)) (g 5 c) (g 6 c) (g 3 (c / 6))
def gN (g : Nat → Nat → Int32) (c : Nat) : Option (Option Nat) := if g 5 c = -1 then none else if sbC g c = -1 then some none else some (some (6 * (g 5 c).toNatClampNeg + (sbC g c).toNatClampNeg))
def vC (g : Nat → Nat → Int32) (c : Nat) : Prop := c / 6 < cP g ∧ c % 6 < cS g
theorem vC_36 (hw : wfV g) {c : Nat} (h : vC g c) : c < 36 := by
  have bP := hw.1.2.2.1.2
  have := h.1
  omega
theorem gN_ok (hw : wfV g) {c : Nat} (hc : vC g c) : (g 5 c = -1 ∧ gN g c = none) ∨ ∃ q, q < cP g ∧ g 5 c = nI q ∧ ((sbC g c = -1 ∧ gN g c = some none) ∨ ∃ k, k < cS g ∧ sbC g c = nI k ∧ gN g c = some (some (6 * q + k)) ∧ vC g (6 * q + k)) := by
  have bP := hw.1.2.2.1.2
  have bS := hw.1.1.2
  have h7 := hw.2.2.2.2.2.2.1 (c / 6) (c % 6) hc.1 hc.2
  rw [Nat.div_add_mod] at h7
  rcases h7 with h7 | ⟨h7, h8⟩
  · exact Or.inl ⟨h7, by unfold gN; rw [if_pos h7]⟩
  · obtain ⟨q, q1, q2, q3⟩ := rg_nI h7
    have hne : ¬ g 5 c = -1 := by rw [q3]; exact nI_nm1 q2
    refine Or.inr ⟨q, q1, q3, ?_⟩
    rcases sob_ok hw (nI (c / 6)) (g 5 c) (g 6 c) (g 3 (c / 6)) with hs | hs
    · exact Or.inl ⟨hs, by unfold gN; rw [if_neg hne, if_pos (show sbC g c = -1 from hs)]⟩
    · obtain ⟨k, k1, k2, k3⟩ := rg_nI hs
      refine Or.inr ⟨k, k1, k3, ?_, by unfold vC; omega⟩
      unfold gN
      rw [if_neg hne, if_neg (by rw [show sbC g c = nI k from k3]; exact nI_nm1 k2), show sbC g c = nI k from k3, q3, nI_clamp q2, nI_clamp k2]
theorem vC_wk (hw : wfV g) {c0 : Nat} (h : vC g c0) : ∀ i, (∀ j, j < i → lv (gN g) (wk (gN g) c0 j)) → vC g (wk (gN g) c0 i)
  | 0, _ => h
  | i + 1, hl => by
    have hv := vC_wk hw h i (fun j hj => hl j (by omega))
    have hx := lv_nxt (hl i (by omega))
    show vC g (nxt (gN g) (wk (gN g) c0 i))
    rcases gN_ok hw hv with ⟨-, e⟩ | ⟨q, -, -, ⟨-, e⟩ | ⟨k, -, -, e, e2⟩⟩
    · rw [e] at hx; cases hx
    · rw [e] at hx; cases hx
    · rw [show nxt (gN g) (wk (gN g) c0 i) = 6 * q + k by unfold nxt; rw [e]]
      exact e2
theorem e6_behind {m : o_Mem} (hg : ∀ j, j < 20 → bV m 10 j = g j) (hw : wfV g) {c : Nat} (hc : vC g c) : (gN g c = none ∧ fX6_coupleBehind rfC 145 10 (nI c) m = some (-1, m)) ∨ (gN g c = some none ∧ fX6_coupleBehind rfC 145 10 (nI c) m = some (-1, o_wI m 145 1 (m.1 145 1 + 1))) ∨ (lv (gN g) c ∧ fX6_coupleBehind rfC 145 10 (nI c) m = some (nI (nxt (gN g) c), o_wI m 145 1 (m.1 145 1 + 1))) := by
  have bP := hw.1.2.2.1.2
  have bS := hw.1.1.2
  have h36 := vC_36 hw hc
  have e15 : m.1 15 c = g 5 c := congrFun (hg 5 (by omega)) c
  have e16 : (o_wI m 145 1 (m.1 145 1 + 1)).1 16 c = g 6 c := by rw [p_wI_o (by omega)]; exact congrFun (hg 6 (by omega)) c
  have hg1 : ∀ j, j < 20 → bV (o_wI m 145 1 (m.1 145 1 + 1)) 10 j = g j := fun j hj => by
    rw [← hg j hj]
    funext k
    show (o_wI m 145 1 (m.1 145 1 + 1)).1 (10 + j) k = m.1 (10 + j) k
    rw [p_wI_o (by omega)]
  have hwN : wfN (bV (o_wI m 145 1 (m.1 145 1 + 1)) 10) := by
    unfold wfN cS cH cP cL cW cC
    rw [hg1 0 (by omega), hg1 7 (by omega), hg1 13 (by omega)]
    exact hw.1
  unfold fX6_coupleBehind
  rw [rc10_13, rc10_14, show nI c / 6 = nI (c / 6) from pk_div (a := c) (d := 6) (by omega) (by omega) (by omega)]
  simp (disch := omega) only [nI_toInt, nI_clamp, p_ck, e15, e16, p_seq]
  rcases gN_ok hw hc with ⟨h1, e⟩ | ⟨q, q1, q2, hq⟩
  · rw [if_pos h1]
    exact Or.inl ⟨e, rfl⟩
  · rw [if_neg (show ¬ g 5 c = -1 by rw [q2]; exact nI_nm1 (by omega)), e6_sb hwN (by have := hc.1; omega), p_bd, sob_c hg1, hg1 3 (by omega)]
    have es : sob g (nI (c / 6)) (g 5 c) (g 6 c) (g 3 (c / 6)) = sbC g c := rfl
    rw [es]
    rcases hq with ⟨h2, e⟩ | ⟨k, k1, k2, e, -⟩
    · rw [if_pos h2]
      exact Or.inr (Or.inl ⟨e, rfl⟩)
    · refine Or.inr (Or.inr ⟨⟨_, e⟩, ?_⟩)
      rw [k2, if_neg (nI_nm1 (by omega)), q2, mR_6, nI_add', show nxt (gN g) c = 6 * q + k by unfold nxt; rw [e]]
      try rw [show q * 6 + k = 6 * q + k by omega]
theorem bV_c2 {m μ : o_Mem} (h : ∀ i, i ≠ 145 → i ≠ 147 → m.1 i = μ.1 i) (j : Nat) (hj : j < 20) : bV m 10 j = bV μ 10 j := by
  funext k
  show m.1 (10 + j) k = μ.1 (10 + j) k
  rw [h _ (by omega) (by omega)]
/-- the class follows ANSWERS from a couple on -/
theorem e6_follow {m : o_Mem} (hw : wfV g) (hg : ∀ j, j < 20 → bV m 10 j = g j) {p s : Nat} (hp : p < cP g) (hs : s < cS g) : ∃ m', fX6_follow rfC 145 10 (nI p) (nI s) m = some ((), m') ∧ (∀ i, i ≠ 145 → i ≠ 147 → m'.1 i = m.1 i) ∧ m'.2 = m.2 ∧
    ((∃ n, enA (gN g) (6 * p + s) n ∧ m'.1 145 2 = 0 ∧ ((gN g (wk (gN g) (6 * p + s) n) = none ∧ m'.1 145 1 = nI n) ∨ (gN g (wk (gN g) (6 * p + s) n) = some none ∧ m'.1 145 1 = nI (n + 1)))) ∨
     (∃ b r, riB (gN g) (6 * p + s) b r ∧ m'.1 145 2 = nI r ∧ m'.1 145 3 = nI b)) := by
  have bP := hw.1.2.2.1.2
  have bS := hw.1.1.2
  have hv0 : vC g (6 * p + s) := by unfold vC; omega
  unfold fX6_follow
  rw [rc145_4]
  simp only [p_seq]
  rw [show nI p * 6 + nI s = nI (6 * p + s) by rw [mR_6, nI_add']; congr 1; omega]
  generalize hc0 : 6 * p + s = c0 at *
  generalize hm0 : o_wI (o_wI (o_wI (o_sI m 147 (o_fill (m.1 147) 36 (-1))) 145 1 0) 145 2 0) 145 3 (-1) = m0
  have z1 : ∀ i, i ≠ 145 → i ≠ 147 → m0.1 i = m.1 i := fun i h1 h2 => by
    rw [← hm0, p_wI_o h1, p_wI_o h1, p_wI_o h1]
    funext j
    rw [p_sI1, if_neg h2]
  have z2 : m0.2 = m.2 := by rw [← hm0]; rfl
  have z3 : m0.1 145 1 = 0 := by rw [← hm0, p_wI1, if_neg (by omega), p_wI1, if_neg (by omega), p_wI1, if_pos ⟨rfl, rfl⟩]
  have z4 : m0.1 145 2 = 0 := by rw [← hm0, p_wI1, if_neg (by omega), p_wI1, if_pos ⟨rfl, rfl⟩]
  have z5 : ∀ c, c < 36 → m0.1 147 c = -1 := fun c hc => by
    rw [← hm0, p_wI_o (by omega), p_wI_o (by omega), p_wI_o (by omega), p_sI1, if_pos rfl]
    show (if c < 36 then (-1 : Int32) else m.1 147 c) = -1
    rw [if_pos hc]
  obtain ⟨e1, m1, q1, rfl, F1, F2, F3⟩ := lp_one (h := 34) (s := fX6_follow_s34 rfC 145 10)
    (fun N τ μ => (∀ i, i ≠ 145 → i ≠ 147 → μ.1 i = m.1 i) ∧ μ.2 = m.2 ∧
      ((∃ i, i + N = 40 ∧ i ≤ 36 ∧ τ = (nI (wk (gN g) c0 i), nI i) ∧ (∀ j, j < i → lv (gN g) (wk (gN g) c0 j)) ∧ dis (gN g) c0 i ∧ (∀ j, j < i → μ.1 147 (wk (gN g) c0 j) = nI j) ∧ (∀ c, c < 36 → (∀ j, j < i → ¬ wk (gN g) c0 j = c) → μ.1 147 c = -1) ∧ μ.1 145 1 = nI i ∧ μ.1 145 2 = 0) ∨
       (τ.1 = -1 ∧ ∃ n, enA (gN g) c0 n ∧ μ.1 145 2 = 0 ∧ ((gN g (wk (gN g) c0 n) = none ∧ μ.1 145 1 = nI n) ∨ (gN g (wk (gN g) c0 n) = some none ∧ μ.1 145 1 = nI (n + 1)))) ∨
       (∃ b r, riB (gN g) c0 b r ∧ μ.1 145 2 = nI r ∧ μ.1 145 3 = nI b)))
    (fun e μ => e = (114, (0, 0)) ∧ (∀ i, i ≠ 145 → i ≠ 147 → μ.1 i = m.1 i) ∧ μ.2 = m.2 ∧
      ((∃ n, enA (gN g) c0 n ∧ μ.1 145 2 = 0 ∧ ((gN g (wk (gN g) c0 n) = none ∧ μ.1 145 1 = nI n) ∨ (gN g (wk (gN g) c0 n) = some none ∧ μ.1 145 1 = nI (n + 1)))) ∨
       (∃ b r, riB (gN g) c0 b r ∧ μ.1 145 2 = nI r ∧ μ.1 145 3 = nI b)))
    (fun N τ μ hR => by
      obtain ⟨h1, h2, hR⟩ := hR
      unfold fX6_follow_s34
      rw [rc145_4]
      rcases hR with ⟨i, hN, hi, rfl, a1, a2, a3, a4, a5, a6⟩ | ⟨hx, hA⟩ | hB
      · have hv := vC_wk hw hv0 i a1
        have h36 := vC_36 hw hv
        have hd36 : ∀ n, n ≤ i → ∀ j, j < n → wk (gN g) c0 j < 36 := fun n hn j hj => vC_36 hw (vC_wk hw hv0 j (fun j' hj' => a1 j' (by omega)))
        rw [if_neg (show ¬ 36 < nI i by rw [show (36 : Int32) = nI 36 from rfl, n_lt (by omega) (by omega)]; omega), if_neg (show ¬ nI (wk (gN g) c0 i) = -1 from nI_nm1 (by omega)), if_pos a6]
        simp (disch := omega) only [nI_toInt, nI_clamp, p_ck]
        by_cases hs : ∃ j, j < i ∧ wk (gN g) c0 j = wk (gN g) c0 i
        · obtain ⟨b, hb, hbw⟩ := hs
          have hsb : μ.1 147 (wk (gN g) c0 i) = nI b := by rw [← hbw]; exact a3 b hb
          rw [hsb, if_neg (nI_nm1 (by omega)), p_seq, p_wI1, if_pos ⟨rfl, rfl⟩, p_seq, nI_sub2 (by omega)]
          refine ⟨_, _, rfl, Or.inl ⟨rfl, 0, by omega, fun k k1 k2 => by rw [p_wI_o k1, p_wI_o k1]; exact h1 k k1 k2, h2, Or.inr (Or.inr ⟨b, i - b, ⟨by omega, by omega, fun j hj => a1 j (by omega), ?_, ?_⟩, ?_, ?_⟩)⟩⟩
          · rw [show b + (i - b) = i by omega]; exact a2
          · rw [show b + (i - b) = i by omega]; exact hbw.symm
          · rw [p_wI1, if_pos ⟨rfl, rfl⟩]
          · rw [p_wI1, if_neg (by omega), p_wI1, if_pos ⟨rfl, rfl⟩]
        · have hnew : ∀ j, j < i → ¬ wk (gN g) c0 j = wk (gN g) c0 i := fun j hj he => hs ⟨j, hj, he⟩
          have a2' : dis (gN g) c0 (i + 1) := fun x y hx hy he => by
            by_cases hxi : x = i
            · by_cases hyi : y = i
              · omega
              · rw [hxi] at he; exact absurd he.symm (hnew y (by omega))
            · by_cases hyi : y = i
              · rw [hyi] at he; exact absurd he (hnew x (by omega))
              · exact a2 x y (by omega) (by omega) he
          have hi35 : i + 1 ≤ 36 := pig 36 (i + 1) (wk (gN g) c0) (fun j hj => by
            by_cases hji : j = i
            · rw [hji]; exact h36
            · exact hd36 i (Nat.le_refl _) j (by omega)) a2'
          rw [a4 _ h36 hnew, if_pos rfl, p_seq]
          generalize hμ1 : o_wI μ 147 (wk (gN g) c0 i) (nI i) = μ1
          have y1 : ∀ k, k ≠ 145 → k ≠ 147 → μ1.1 k = m.1 k := fun k k1 k2 => by rw [← hμ1, p_wI_o k2]; exact h1 k k1 k2
          have y2 : μ1.2 = m.2 := by rw [← hμ1]; exact h2
          have y3 : μ1.1 145 = μ.1 145 := by rw [← hμ1, p_wI_o (by omega)]
          have y4 : ∀ j, j < i + 1 → μ1.1 147 (wk (gN g) c0 j) = nI j := fun j hj => by
            rw [← hμ1, p_wI1]
            by_cases hji : j = i
            · rw [hji, if_pos ⟨rfl, rfl⟩]
            · rw [if_neg (fun z => hnew j (by omega) z.2)]; exact a3 j (by omega)
          have y5 : ∀ c, c < 36 → (∀ j, j < i + 1 → ¬ wk (gN g) c0 j = c) → μ1.1 147 c = -1 := fun c hc hj => by
            rw [← hμ1, p_wI1, if_neg (fun z => hj i (by omega) z.2.symm)]
            exact a4 c hc (fun j hj' => hj j (by omega))
          have hgm : ∀ j, j < 20 → bV μ1 10 j = g j := fun j hj => (bV_c2 y1 j hj).trans (hg j hj)
          rcases e6_behind hgm hw hv with ⟨hG, e⟩ | ⟨hG, e⟩ | ⟨hG, e⟩
          · rw [e, p_bd, aR_1]
            exact ⟨_, _, rfl, Or.inl ⟨rfl, 0, by omega, y1, y2, Or.inr (Or.inl ⟨rfl, i, ⟨by omega, a1, a2'⟩, by rw [y3]; exact a6, Or.inl ⟨hG, by rw [y3]; exact a5⟩⟩)⟩⟩
          · rw [e, p_bd, aR_1]
            refine ⟨_, _, rfl, Or.inl ⟨rfl, 0, by omega, fun k k1 k2 => by rw [p_wI_o k1]; exact y1 k k1 k2, y2, Or.inr (Or.inl ⟨rfl, i, ⟨by omega, a1, a2'⟩, ?_, Or.inr ⟨hG, ?_⟩⟩)⟩⟩
            · rw [p_wI1, if_neg (by omega), y3]; exact a6
            · rw [p_wI1, if_pos ⟨rfl, rfl⟩, y3, a5, aR_1]
          · rw [e, p_bd, aR_1]
            refine ⟨_, _, rfl, Or.inl ⟨rfl, N - 1, by omega, fun k k1 k2 => by rw [p_wI_o k1]; exact y1 k k1 k2, y2, Or.inl ⟨i + 1, by omega, by omega, rfl, fun j hj => ?_, a2', fun j hj => by rw [p_wI_o (by omega)]; exact y4 j hj, fun c hc hj => by rw [p_wI_o (by omega)]; exact y5 c hc hj, ?_, ?_⟩⟩⟩
            · by_cases hji : j = i
              · rw [hji]; exact hG
              · exact a1 j (by omega)
            · rw [p_wI1, if_pos ⟨rfl, rfl⟩, y3, a5, aR_1]
            · rw [p_wI1, if_neg (by omega), y3]; exact a6
      · refine ⟨(114, (0, 0)), μ, ?_, Or.inr ⟨show ¬ 114 = 34 by decide, rfl, h1, h2, Or.inl hA⟩⟩
        rw [if_pos hx]
        split <;> rfl
      · refine ⟨(114, (0, 0)), μ, ?_, Or.inr ⟨show ¬ 114 = 34 by decide, rfl, h1, h2, Or.inr hB⟩⟩
        obtain ⟨b, r, hB, hr, -⟩ := hB
        have h0 := hB.1
        have h1 := hB.2.1
        rw [hr, if_neg (show ¬ nI r = 0 by rw [show (0 : Int32) = nI 0 from rfl, nI_inj (by omega) (by omega)]; omega)]
        split
        · rfl
        · split <;> rfl)
    o_fuel 40 (nI c0, 0) m0 (fu (by omega)) ⟨z1, z2, Or.inl ⟨0, by omega, by omega, rfl, fun j hj => by omega, fun i j hi => by omega, fun j hj => by omega, fun c hc _ => z5 c hc, z3, z4⟩⟩
  rw [q1, p_bd, if_pos rfl]
  exact ⟨_, rfl, F1, F2, F3⟩
end ec
