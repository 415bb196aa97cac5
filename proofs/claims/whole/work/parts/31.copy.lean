/-! ===== copies: mark, undo; LETTERS and LAWS that move: take, sway ===== -/
theorem cpy_lt {α : Type} {f g : Nat → α} {n k : Nat} (h : k < n) : va_cpy f g 0 0 n k = f k := by
  unfold va_cpy
  rw [if_pos ⟨Nat.zero_le _, by omega⟩, Nat.zero_add, Nat.sub_zero]
def cpL (μ : o_Mem) (w x : Nat) : o_Mem := o_sI (o_sI (o_sI (o_sI (o_sI (o_wI μ w 0 (μ.1 x 0)) (w + 1) (va_cpy (μ.1 (x + 1)) (μ.1 (w + 1)) 0 0 12)) (w + 2) (va_cpy (μ.1 (x + 2)) (μ.1 (w + 2)) 0 0 12)) (w + 3) (va_cpy (μ.1 (x + 3)) (μ.1 (w + 3)) 0 0 12)) (w + 4) (va_cpy (μ.1 (x + 4)) (μ.1 (w + 4)) 0 0 12)) (w + 5) (va_cpy (μ.1 (x + 5)) (μ.1 (w + 5)) 0 0 12)
theorem e1_copy {w x : Nat} (hw : kdC w = .inl 1) (hx : kdC x = .inl 1) (hd : w + 6 ≤ x ∨ x + 6 ≤ w) (μ : o_Mem) : fX1_copyFrom rfC w x μ = some ((), cpL μ w x) := by
  have r1 : rfC w 1 = w + 1 := rf1 hw 1
  have s1 : rfC x 1 = x + 1 := rf1 hx 1
  have r2 : rfC w 2 = w + 2 := rf1 hw 2
  have s2 : rfC x 2 = x + 2 := rf1 hx 2
  have r3 : rfC w 3 = w + 3 := rf1 hw 3
  have s3 : rfC x 3 = x + 3 := rf1 hx 3
  have r4 : rfC w 4 = w + 4 := rf1 hw 4
  have s4 : rfC x 4 = x + 4 := rf1 hx 4
  have r5 : rfC w 5 = w + 5 := rf1 hw 5
  have s5 : rfC x 5 = x + 5 := rf1 hx 5
  unfold fX1_copyFrom cpL
  simp (disch := omega) only [p_seq, r1, r2, r3, r4, r5, s1, s2, s3, s4, s5, p_wI_o, p_sI_o]
theorem cpL_o {μ : o_Mem} {w x i : Nat} (h : i < w ∨ w + 6 ≤ i) : (cpL μ w x).1 i = μ.1 i := by
  unfold cpL
  rw [p_sI_o (by omega), p_sI_o (by omega), p_sI_o (by omega), p_sI_o (by omega), p_sI_o (by omega), p_wI_o (by omega)]
theorem cpL_0 {μ : o_Mem} {w x : Nat} : (cpL μ w x).1 w 0 = μ.1 x 0 := by
  unfold cpL
  rw [p_sI_o (by omega), p_sI_o (by omega), p_sI_o (by omega), p_sI_o (by omega), p_sI_o (by omega), p_wI1, if_pos ⟨rfl, rfl⟩]
theorem cpL_r {μ : o_Mem} {w x j k : Nat} (h1 : 1 ≤ j) (h5 : j ≤ 5) (hk : k < 12) : (cpL μ w x).1 (w + j) k = μ.1 (x + j) k := by
  unfold cpL
  rcases (show j = 1 ∨ j = 2 ∨ j = 3 ∨ j = 4 ∨ j = 5 by omega) with rfl | rfl | rfl | rfl | rfl
  · rw [p_sI_o (by omega), p_sI_o (by omega), p_sI_o (by omega), p_sI_o (by omega), p_sI1, if_pos rfl, cpy_lt hk]
  · rw [p_sI_o (by omega), p_sI_o (by omega), p_sI_o (by omega), p_sI1, if_pos rfl, cpy_lt hk]
  · rw [p_sI_o (by omega), p_sI_o (by omega), p_sI1, if_pos rfl, cpy_lt hk]
  · rw [p_sI_o (by omega), p_sI1, if_pos rfl, cpy_lt hk]
  · rw [p_sI1, if_pos rfl, cpy_lt hk]
def capV (j : Nat) : Nat := if j = 0 then 9 else if j ≤ 3 then 6 else if j = 4 then 48 else if j ≤ 6 then 36 else if j = 7 ∨ j = 13 then 1 else 12
theorem cpL_2 (μ : o_Mem) (w x : Nat) : (cpL μ w x).2 = μ.2 := rfl
def gW (μ m : o_Mem) (v u n : Nat) : Prop := (∀ i, i ≠ v → m.1 i = μ.1 i) ∧ m.2 = μ.2 ∧ ∀ k, k < n → m.1 v k = μ.1 u k
theorem gW_0 (μ : o_Mem) (v u : Nat) : gW μ μ v u 0 := ⟨fun _ _ => rfl, rfl, fun k hk => by omega⟩
theorem gW_s {μ m : o_Mem} {v u n : Nat} (h : gW μ m v u n) (hne : u ≠ v) : gW μ (o_wI m v n (m.1 u n)) v u (n + 1) := by
  refine ⟨fun i hi => by rw [p_wI_o hi]; exact h.1 i hi, h.2.1, fun k hk => ?_⟩
  rw [p_wI1]
  by_cases e : k = n
  · rw [if_pos ⟨rfl, e⟩, h.1 u hne, e]
  · rw [if_neg (fun z => e z.2)]; exact h.2.2 k (by omega)
def gH (μ m : o_Mem) (v u n : Nat) : Prop := (∀ i, i < v ∨ v + n < i → m.1 i = μ.1 i) ∧ m.2 = μ.2 ∧ ∀ j k, j ≤ n → k < capV j → m.1 (v + j) k = μ.1 (u + j) k
theorem gH_s {μ m : o_Mem} {v u n c : Nat} (hd : v + 20 ≤ u ∨ u + 20 ≤ v) (hn : n + 1 < 20) (hc : capV (n + 1) = c) (h : gH μ m v u n) : gH μ (o_sI m (v + (n + 1)) (va_cpy (m.1 (u + (n + 1))) (m.1 (v + (n + 1))) 0 0 c)) v u (n + 1) := by
  refine ⟨fun i hi => by rw [p_sI_o (by omega)]; exact h.1 i (by omega), h.2.1, fun j k hj hk => ?_⟩
  rw [p_sI1]
  by_cases e : j = n + 1
  · subst e
    rw [if_pos rfl, cpy_lt (by omega), h.1 _ (by omega)]
  · rw [if_neg (by omega)]; exact h.2.2 j k (by omega) hk
theorem capV_r {n j : Nat} (hn : n = 7 ∨ n = 13) (h1 : 1 ≤ j) (h5 : j ≤ 5) : capV (n + j) = 12 := by
  unfold capV
  rw [if_neg (by omega), if_neg (by omega), if_neg (by omega), if_neg (by omega), if_neg (by omega)]
theorem gH_l {μ m : o_Mem} {v u n : Nat} (hd : v + 20 ≤ u ∨ u + 20 ≤ v) (hn : n + 1 = 7 ∨ n + 1 = 13) (h : gH μ m v u n) : gH μ (cpL m (v + (n + 1)) (u + (n + 1))) v u (n + 6) := by
  refine ⟨fun i hi => by rw [cpL_o (by omega)]; exact h.1 i (by omega), h.2.1, fun j k hj hk => ?_⟩
  by_cases e : j ≤ n
  · rw [cpL_o (by omega)]; exact h.2.2 j k e hk
  · by_cases e1 : j = n + 1
    · subst e1
      have hk0 : k = 0 := by rcases hn with hn | hn <;> (rw [hn] at hk; have : k < 1 := hk; omega)
      subst hk0
      rw [cpL_0, h.1 _ (by omega)]
    · have hc := capV_r hn (j := j - (n + 1)) (by omega) (by omega)
      rw [show n + 1 + (j - (n + 1)) = j by omega] at hc
      rw [show v + j = v + (n + 1) + (j - (n + 1)) by omega, cpL_r (by omega) (by omega) (by omega), show u + (n + 1) + (j - (n + 1)) = u + j by omega, h.1 _ (by omega)]
theorem e8_copy {v u : Nat} (hv : kdC v = .inl 8) (hu : kdC u = .inl 8) (h7 : kdC (v + 7) = .inl 1 ∧ kdC (v + 13) = .inl 1 ∧ kdC (u + 7) = .inl 1 ∧ kdC (u + 13) = .inl 1) (hd : v + 20 ≤ u ∨ u + 20 ≤ v) (μ : o_Mem) (h6 : μ.1 u 6 = 0 ∨ μ.1 u 6 = 1) : ∃ m, fX8_copyFrom rfC v u μ = some ((), m) ∧ (∀ i, i < v ∨ v + 20 ≤ i → m.1 i = μ.1 i ∧ m.2 i = μ.2 i) ∧ (∀ j k, j < 19 → k < capV j → m.1 (v + j) k = μ.1 (u + j) k) ∧ ∀ k, k < 18 → m.2 (v + 19) k = μ.2 (u + 19) k := by
  have r9 : rfC v 9 = v + 1 := by rw [rf8 hv]; rfl
  have s9 : rfC u 9 = u + 1 := by rw [rf8 hu]; rfl
  have r10 : rfC v 10 = v + 2 := by rw [rf8 hv]; rfl
  have s10 : rfC u 10 = u + 2 := by rw [rf8 hu]; rfl
  have r11 : rfC v 11 = v + 3 := by rw [rf8 hv]; rfl
  have s11 : rfC u 11 = u + 3 := by rw [rf8 hu]; rfl
  have r12 : rfC v 12 = v + 4 := by rw [rf8 hv]; rfl
  have s12 : rfC u 12 = u + 4 := by rw [rf8 hu]; rfl
  have r13 : rfC v 13 = v + 5 := by rw [rf8 hv]; rfl
  have s13 : rfC u 13 = u + 5 := by rw [rf8 hu]; rfl
  have r14 : rfC v 14 = v + 6 := by rw [rf8 hv]; rfl
  have s14 : rfC u 14 = u + 6 := by rw [rf8 hu]; rfl
  have r15 : rfC v 15 = v + 7 := by rw [rf8 hv]; rfl
  have s15 : rfC u 15 = u + 7 := by rw [rf8 hu]; rfl
  have r16 : rfC v 16 = v + 13 := by rw [rf8 hv]; rfl
  have s16 : rfC u 16 = u + 13 := by rw [rf8 hu]; rfl
  have r17 : rfC v 17 = v + 19 := by rw [rf8 hv]; rfl
  have s17 : rfC u 17 = u + 19 := by rw [rf8 hu]; rfl
  have hne : u ≠ v := by omega
  unfold fX8_copyFrom
  rw [r9, s9, r10, s10, r11, s11, r12, s12, r13, s13, r14, s14, r15, s15, r16, s16, r17, s17]
  have g1 := gW_s (gW_0 μ v u) hne
  rw [p_seq]
  generalize o_wI μ v 0 (μ.1 u 0) = m1 at g1 ⊢
  have g2 := gW_s g1 hne
  rw [p_seq]
  generalize o_wI m1 v 1 (m1.1 u 1) = m2 at g2 ⊢
  have g3 := gW_s g2 hne
  rw [p_seq]
  generalize o_wI m2 v 2 (m2.1 u 2) = m3 at g3 ⊢
  have g4 := gW_s g3 hne
  rw [p_seq]
  generalize o_wI m3 v 3 (m3.1 u 3) = m4 at g4 ⊢
  have g5 := gW_s g4 hne
  rw [p_seq]
  generalize o_wI m4 v 4 (m4.1 u 4) = m5 at g5 ⊢
  have g6 := gW_s g5 hne
  rw [p_seq]
  generalize o_wI m5 v 5 (m5.1 u 5) = m6 at g6 ⊢
  rw [p_ck _ (by rw [g6.1 u hne]; exact h6)]
  have g7 := gW_s g6 hne
  rw [p_seq]
  generalize o_wI m6 v 6 (m6.1 u 6) = m7 at g7 ⊢
  have g8 := gW_s g7 hne
  rw [p_seq]
  generalize o_wI m7 v 7 (m7.1 u 7) = m8 at g8 ⊢
  have g9 := gW_s g8 hne
  rw [p_seq]
  generalize o_wI m8 v 8 (m8.1 u 8) = m9 at g9 ⊢
  have t0 : gH μ m9 v u 0 := by
    refine ⟨fun i hi => g9.1 i (by omega), g9.2.1, fun j k hj hk => ?_⟩
    have e0 : j = 0 := by omega
    subst e0
    exact g9.2.2 k hk
  have t1 := gH_s (c := 6) hd (by omega) rfl t0
  rw [p_seq]
  simp only [Nat.zero_add, Nat.reduceAdd] at t1
  generalize o_sI m9 (v + 1) (va_cpy (m9.1 (u + 1)) (m9.1 (v + 1)) 0 0 6) = n1 at t1 ⊢
  have t2 := gH_s (c := 6) hd (by omega) rfl t1
  rw [p_seq]
  simp only [Nat.zero_add, Nat.reduceAdd] at t2
  generalize o_sI n1 (v + 2) (va_cpy (n1.1 (u + 2)) (n1.1 (v + 2)) 0 0 6) = n2 at t2 ⊢
  have t3 := gH_s (c := 6) hd (by omega) rfl t2
  rw [p_seq]
  simp only [Nat.zero_add, Nat.reduceAdd] at t3
  generalize o_sI n2 (v + 3) (va_cpy (n2.1 (u + 3)) (n2.1 (v + 3)) 0 0 6) = n3 at t3 ⊢
  have t4 := gH_s (c := 48) hd (by omega) rfl t3
  rw [p_seq]
  simp only [Nat.zero_add, Nat.reduceAdd] at t4
  generalize o_sI n3 (v + 4) (va_cpy (n3.1 (u + 4)) (n3.1 (v + 4)) 0 0 48) = n4 at t4 ⊢
  have t5 := gH_s (c := 36) hd (by omega) rfl t4
  rw [p_seq]
  simp only [Nat.zero_add, Nat.reduceAdd] at t5
  generalize o_sI n4 (v + 5) (va_cpy (n4.1 (u + 5)) (n4.1 (v + 5)) 0 0 36) = n5 at t5 ⊢
  have t6 := gH_s (c := 36) hd (by omega) rfl t5
  rw [p_seq]
  simp only [Nat.zero_add, Nat.reduceAdd] at t6
  generalize o_sI n5 (v + 6) (va_cpy (n5.1 (u + 6)) (n5.1 (v + 6)) 0 0 36) = n6 at t6 ⊢
  have t7 := gH_l hd (by omega) t6
  rw [e1_copy h7.1 h7.2.2.1 (by omega), p_bd]
  simp only [Nat.reduceAdd] at t7
  generalize cpL n6 (v + 7) (u + 7) = n7 at t7 ⊢
  have t8 := gH_l hd (by omega) t7
  rw [e1_copy h7.2.1 h7.2.2.2 (by omega), p_bd]
  simp only [Nat.reduceAdd] at t8
  generalize cpL n7 (v + 13) (u + 13) = n8 at t8 ⊢
  rw [p_seq]
  refine ⟨_, rfl, fun i hi => ⟨t8.1 i (by omega), ?_⟩, fun j k hj hk => t8.2.2 j k (by omega) hk, fun k hk => ?_⟩
  · rw [p_sL_o (by omega), t8.2.1]
  · rw [p_sL2, if_pos rfl, cpy_lt hk, t8.2.1]
def cpP (μ : o_Mem) (p q : Nat) : o_Mem := o_sI (o_sI (o_sI (o_sI (o_wI (o_wI (o_wI μ p 0 (μ.1 q 0)) p 1 (μ.1 q 1)) p 2 (μ.1 q 2)) (p + 1) (va_cpy (μ.1 (q + 1)) (μ.1 (p + 1)) 0 0 60)) (p + 2) (va_cpy (μ.1 (q + 2)) (μ.1 (p + 2)) 0 0 60)) (p + 3) (va_cpy (μ.1 (q + 3)) (μ.1 (p + 3)) 0 0 60)) (p + 4) (va_cpy (μ.1 (q + 4)) (μ.1 (p + 4)) 0 0 60)
theorem rf3 {v : Nat} (hv : kdC v = .inl 3) (k : Nat) : rfC v k = v + (k - 2) := by unfold rfC; rw [hv]; rfl
theorem e3_copy {p q : Nat} (hp : kdC p = .inl 3) (hq : kdC q = .inl 3) (hd : p + 5 ≤ q ∨ q + 5 ≤ p) (μ : o_Mem) (h0 : μ.1 q 0 = 0 ∨ μ.1 q 0 = 1) : fX3_copyFrom rfC p q μ = some ((), cpP μ p q) := by
  have r3 : rfC p 3 = p + 1 := rf3 hp 3
  have s3 : rfC q 3 = q + 1 := rf3 hq 3
  have r4 : rfC p 4 = p + 2 := rf3 hp 4
  have s4 : rfC q 4 = q + 2 := rf3 hq 4
  have r5 : rfC p 5 = p + 3 := rf3 hp 5
  have s5 : rfC q 5 = q + 3 := rf3 hq 5
  have r6 : rfC p 6 = p + 4 := rf3 hp 6
  have s6 : rfC q 6 = q + 4 := rf3 hq 6
  unfold fX3_copyFrom cpP
  simp (disch := omega) only [p_ck _ h0, p_seq, r3, r4, r5, r6, s3, s4, s5, s6, p_wI_o, p_sI_o]
theorem cpP_o {μ : o_Mem} {p q i : Nat} (h : i < p ∨ p + 5 ≤ i) : (cpP μ p q).1 i = μ.1 i := by
  unfold cpP
  rw [p_sI_o (by omega), p_sI_o (by omega), p_sI_o (by omega), p_sI_o (by omega), p_wI_o (by omega), p_wI_o (by omega), p_wI_o (by omega)]
theorem cpP_2 (μ : o_Mem) (p q : Nat) : (cpP μ p q).2 = μ.2 := rfl
theorem cpP_0 {μ : o_Mem} {p q k : Nat} (hk : k < 3) : (cpP μ p q).1 p k = μ.1 q k := by
  unfold cpP
  rw [p_sI_o (by omega), p_sI_o (by omega), p_sI_o (by omega), p_sI_o (by omega)]
  rcases (show k = 0 ∨ k = 1 ∨ k = 2 by omega) with rfl | rfl | rfl
  · rw [p_wI1, if_neg (by omega), p_wI1, if_neg (by omega), p_wI1, if_pos ⟨rfl, rfl⟩]
  · rw [p_wI1, if_neg (by omega), p_wI1, if_pos ⟨rfl, rfl⟩]
  · rw [p_wI1, if_pos ⟨rfl, rfl⟩]
theorem cpP_r {μ : o_Mem} {p q j k : Nat} (h1 : 1 ≤ j) (h5 : j ≤ 4) (hk : k < 60) : (cpP μ p q).1 (p + j) k = μ.1 (q + j) k := by
  unfold cpP
  rcases (show j = 1 ∨ j = 2 ∨ j = 3 ∨ j = 4 by omega) with rfl | rfl | rfl | rfl
  · rw [p_sI_o (by omega), p_sI_o (by omega), p_sI_o (by omega), p_sI1, if_pos rfl, cpy_lt hk]
  · rw [p_sI_o (by omega), p_sI_o (by omega), p_sI1, if_pos rfl, cpy_lt hk]
  · rw [p_sI_o (by omega), p_sI1, if_pos rfl, cpy_lt hk]
  · rw [p_sI1, if_pos rfl, cpy_lt hk]
