/-! ===== DAYS ===== -/
def wfX (g : Nat → Nat → Int32) : Prop := wfN g ∧ (0 ≤ (g 0 4).toInt ∧ (g 0 4).toInt ≤ 16) ∧ (0 ≤ (g 0 5).toInt ∧ (g 0 5).toInt ≤ 9999) ∧ (g 0 6 = 0 ∨ g 0 6 = 1) ∧
  (∀ l, l < cL g → lawOk g l) ∧ (∀ p, p < cP g → inR (g 3 p) (cH g)) ∧ (∀ p s, p < cP g → s < cS g → g 5 (6 * p + s) = -1 ∨ (inR (g 5 (6 * p + s)) (cP g) ∧ wOk (g 6 (6 * p + s)))) ∧
  (∀ p s, p < cP g → s < cS g → g 5 (6 * p + s) = -1 → g 6 (6 * p + s) = -1) ∧
  (∀ k, k < cW g → letOk g (g 8 k) (g 9 k) (g 10 k) (g 11 k)) ∧ (∀ k, k < cC g → letOk g (g 14 k) (g 15 k) (g 16 k) (g 17 k) ∧ (g 18 k = -1 ∨ inR (g 18 k) (cS g))) ∧ (∀ k, k < cS g → 0 ≤ (g 2 k).toInt ∧ 0 ≤ (g 1 k).toInt ∧ (g 1 k).toInt ≤ 9)
theorem wfX_of {g : Nat → Nat → Int32} (hw : wfV g) : wfX g ∧ ssum g (cS g) ≤ 12 * (g 0 5).toInt := by
  obtain ⟨b1, b2, b3, b4, b5, b6, b7, b8, b9, b10, b11⟩ := hw
  exact ⟨⟨b1, b2, b3, b4, b5, b6, b7, b8, b9, b10, b11.1⟩, b11.2⟩
theorem wfV_of {g : Nat → Nat → Int32} (hw : wfX g) (h : ssum g (cS g) ≤ 12 * (g 0 5).toInt) : wfV g := by
  obtain ⟨b1, b2, b3, b4, b5, b6, b7, b8, b9, b10, b11⟩ := hw
  exact ⟨b1, b2, b3, b4, b5, b6, b7, b8, b9, b10, b11, h⟩
/-- what does not change by DAYS -/
def sta (g g' : Nat → Nat → Int32) : Prop := (∀ k, k < 5 → g' 0 k = g 0 k) ∧ g' 0 6 = g 0 6 ∧ g' 1 = g 1 ∧ g' 3 = g 3 ∧ g' 4 = g 4 ∧ g' 5 = g 5 ∧ g' 6 = g 6
theorem sta_c {g g' : Nat → Nat → Int32} (h : sta g g') : cS g' = cS g ∧ cH g' = cH g ∧ cP g' = cP g ∧ cL g' = cL g := by
  refine ⟨?_, ?_, ?_, ?_⟩
  · unfold cS; rw [h.1 0 (by omega)]
  · unfold cH; rw [h.1 1 (by omega)]
  · unfold cP; rw [h.1 2 (by omega)]
  · unfold cL; rw [h.1 3 (by omega)]
theorem wfX_gen {g g' : Nat → Nat → Int32} {n m : Nat} (hx : wfX g) (hs : sta g g') (hd : 0 ≤ (g' 0 5).toInt ∧ (g' 0 5).toInt ≤ 9999) (hn : n ≤ 12) (h7 : g' 7 0 = nI n) (hl : ∀ k, k < n → letOk g (g' 8 k) (g' 9 k) (g' 10 k) (g' 11 k)) (hm : m ≤ 12) (h13 : g' 13 0 = nI m) (hc : ∀ k, k < m → letOk g (g' 14 k) (g' 15 k) (g' 16 k) (g' 17 k) ∧ (g' 18 k = -1 ∨ inR (g' 18 k) (cS g))) (h2 : ∀ k, k < cS g → 0 ≤ (g' 2 k).toInt) : wfX g' := by
  obtain ⟨hS, hH, hP, hL⟩ := sta_c hs
  have hW : cW g' = n := by unfold cW; rw [h7, nI_clamp (by omega)]
  have hC : cC g' = m := by unfold cC; rw [h13, nI_clamp (by omega)]
  obtain ⟨e0, e6, e1, e3, e4, e5, e66⟩ := hs
  obtain ⟨⟨n1, n2, n3, n4, n5, n6⟩, b2, b3, b4, b5, b6, b7, b8, b9, b10, b11⟩ := hx
  refine ⟨⟨by rw [hS, e0 0 (by omega)]; exact n1, by rw [hH, e0 1 (by omega)]; exact n2, by rw [hP, e0 2 (by omega)]; exact n3, by rw [hL, e0 3 (by omega)]; exact n4, by rw [hW]; exact ⟨h7, hn⟩, by rw [hC]; exact ⟨h13, hm⟩⟩, by rw [e0 4 (by omega)]; exact b2, hd, by rw [e6]; exact b4, fun l hl9 => ?_, fun p hp => ?_, fun p s hp hs => ?_, fun p s hp hs => ?_, fun k hk => ?_, fun k hk => ?_, fun k hk => ?_⟩
  · unfold lawOk; rw [hS, hH, hP, e4]; exact b5 l (by rw [← hL]; exact hl9)
  · rw [hH, e3]; exact b6 p (by rw [← hP]; exact hp)
  · rw [hP, e5, e66]; exact b7 p s (by rw [← hP]; exact hp) (by rw [← hS]; exact hs)
  · rw [e5, e66]; exact b8 p s (by rw [← hP]; exact hp) (by rw [← hS]; exact hs)
  · have := hl k (by rw [← hW]; exact hk)
    unfold letOk at this ⊢
    rw [hP, hH]; exact this
  · have := hc k (by rw [← hC]; exact hk)
    unfold letOk at this ⊢
    rw [hP, hH, hS]; exact this
  · rw [hS] at hk
    rw [e1]; exact ⟨h2 k hk, (b11 k hk).2⟩
theorem vR_gen {g g' : Nat → Nat → Int32} {a a' : Nat → Int32} {n m : Nat} (hw : wfN g) (hr : vR g a) (hs : sta g g') (ha : ∀ k, (k ≤ 3 ∨ k = 6 ∨ k = 8 ∨ (13 ≤ k ∧ k < 25 ∧ k % 2 = 1) ∨ (25 ≤ k ∧ k < 151)) → a' k = a k) (hn : n ≤ 12) (h7 : g' 7 0 = nI n) (hm : m ≤ 12) (h13 : g' 13 0 = nI m) (a4 : a' 4 = nI n) (a5 : a' 5 = nI m) (a7 : a' 7 = g' 0 5) (a9 : a' 9 = g' 0 7) (a10 : a' 10 = g' 0 8) (a11 : a' 11 = wsum g' (cS g)) (h2 : ∀ k, k < cS g → a' (14 + 2 * k) = g' 2 k) (hl : ∀ k w, k < n → w < 4 → a' (151 + 4 * k + w) = g' (8 + w) k) (hc : ∀ k w, k < m → w < 5 → a' (199 + 5 * k + w) = g' (14 + w) k) : vR g' a' := by
  obtain ⟨hS, hH, hP, hL⟩ := sta_c hs
  have hW : cW g' = n := by unfold cW; rw [h7, nI_clamp (by omega)]
  have hC : cC g' = m := by unfold cC; rw [h13, nI_clamp (by omega)]
  obtain ⟨e0, e6, e1, e3, e4, e5, e66⟩ := hs
  obtain ⟨⟨c0, c1, c2, c3, c4, c5, c6, c7, c8, c9, c10, c11⟩, d2, d3, d4, d5, d6, d7⟩ := hr
  obtain ⟨⟨-, b1⟩, ⟨-, b2⟩, ⟨-, b3⟩, ⟨-, b4⟩, ⟨-, b5⟩, ⟨-, b6⟩⟩ := hw
  refine ⟨⟨by rw [ha 0 (by omega), e0 0 (by omega)]; exact c0, by rw [ha 1 (by omega), e0 1 (by omega)]; exact c1, by rw [ha 2 (by omega), e0 2 (by omega)]; exact c2, by rw [ha 3 (by omega), e0 3 (by omega)]; exact c3, by rw [a4]; exact h7.symm, by rw [a5]; exact h13.symm, by rw [ha 6 (by omega), e0 4 (by omega)]; exact c6, a7, by rw [ha 8 (by omega), e6]; exact c8, a9, a10, by rw [hS]; exact a11⟩, fun k hk => ?_, fun p hp => ?_, fun l w hl9 hw => ?_, fun p s hp hs => ?_, fun k w hk hw => ?_, fun k w hk hw => ?_⟩
  · rw [hS] at hk
    exact ⟨by rw [ha _ (by omega), e1]; exact (d2 k hk).1, h2 k hk⟩
  · rw [hP] at hp
    rw [ha _ (by omega), e3]; exact d3 p hp
  · rw [hL] at hl9
    rw [ha _ (by omega), e4]; exact d4 l w hl9 hw
  · rw [hP] at hp
    rw [hS] at hs
    rw [ha _ (by omega), ha _ (by omega), e5, e66]; exact d5 p s hp hs
  · rw [hW] at hk
    exact hl k w hk hw
  · rw [hC] at hk
    exact hc k w hk hw
theorem ssum_inc {g g' : Nat → Nat → Int32} {i : Nat} (h : ∀ k, k ≠ i → g' 2 k = g 2 k) (hi : (g' 2 i).toInt = (g 2 i).toInt + 1) : ∀ n, ssum g' n = ssum g n + (if i < n then 1 else 0)
  | 0 => by rw [if_neg (by omega)]; rfl
  | n + 1 => by
    show ssum g' n + (g' 2 n).toInt = ssum g n + (g 2 n).toInt + _
    rw [ssum_inc h hi n]
    by_cases e : n = i
    · subst e
      rw [if_neg (by omega), if_pos (by omega), hi]; omega
    · rw [h n e]
      by_cases e2 : i < n
      · rw [if_pos e2, if_pos (by omega)]; omega
      · rw [if_neg e2, if_neg (by omega)]; omega
theorem wsum_inc {g g' : Nat → Nat → Int32} {i : Nat} (h1 : g' 1 = g 1) (h : ∀ k, k ≠ i → g' 2 k = g 2 k) (hi : g' 2 i = g 2 i + 1) : ∀ n, wsum g' n = if i < n then wsum g n + g 1 i else wsum g n
  | 0 => by rw [if_neg (by omega)]; rfl
  | n + 1 => by
    show wsum g' n + g' 2 n * g' 1 n = if i < n + 1 then wsum g n + g 2 n * g 1 n + g 1 i else wsum g n + g 2 n * g 1 n
    rw [wsum_inc h1 h hi n, h1]
    by_cases e : n = i
    · subst e
      rw [if_neg (by omega), if_pos (by omega), hi, Int32.add_mul, Int32.one_mul, Int32.add_assoc]
    · rw [h n e]
      by_cases e2 : i < n
      · rw [if_pos e2, if_pos (by omega), Int32.add_assoc, Int32.add_comm (g 1 i), ← Int32.add_assoc]
      · rw [if_neg e2, if_neg (by omega)]
theorem ssum_ge {g : Nat → Nat → Int32} {i : Nat} : ∀ n, (∀ k, k < n → 0 ≤ (g 2 k).toInt) → 0 ≤ ssum g n ∧ (i < n → (g 2 i).toInt ≤ ssum g n)
  | 0, _ => ⟨by unfold ssum; omega, fun h => by omega⟩
  | n + 1, h => by
    have ih := ssum_ge (g := g) (i := i) n (fun k hk => h k (by omega))
    have h9 := h n (by omega)
    show 0 ≤ ssum g n + (g 2 n).toInt ∧ (i < n + 1 → (g 2 i).toInt ≤ ssum g n + (g 2 n).toInt)
    refine ⟨by omega, fun hi => ?_⟩
    by_cases e : i = n
    · subst e; omega
    · have := ih.2 (by omega); omega
/-! one COVER more -/
def gBr (g : Nat → Nat → Int32) (n : Nat) (f t w h s : Int32) : Nat → Nat → Int32 := if s = -1 then updG (updG (gAdd g 13 n f t w h s) 0 7 (g 0 7 + 1)) 0 8 (g 0 8 + 1) else updG (updG (gAdd g 13 n f t w h s) 0 7 (g 0 7 + 1)) 2 s.toNatClampNeg (g 2 s.toNatClampNeg + 1)
def aB1 (a : Nat → Int32) (n : Nat) (f t w h : Int32) : Nat → Int32 := fun j => if j = 199 + 5 * n then f else if j = 199 + 5 * n + 1 then t else if j = 199 + 5 * n + 2 then w else if j = 199 + 5 * n + 3 then h else a j
def aB2 (a : Nat → Int32) (n : Nat) (f t w h s : Int32) : Nat → Int32 := upd (upd (upd (aB1 a n f t w h) (199 + 5 * n + 4) s) 5 (nI (n + 1))) 9 (a 9 + 1)
def aBr (a : Nat → Int32) (n : Nat) (f t w h s : Int32) : Nat → Int32 := if s = -1 then upd (aB2 a n f t w h s) 10 (a 10 + 1) else upd (upd (aB2 a n f t w h s) 11 (a 11 + a (13 + 2 * s.toNatClampNeg))) (14 + 2 * s.toNatClampNeg) (a (14 + 2 * s.toNatClampNeg) + 1)
theorem aB2_o {a : Nat → Int32} {n : Nat} {f t w h s : Int32} {k : Nat} (h5 : k ≠ 5) (h9 : k ≠ 9) (hk : k < 199 + 5 * n ∨ 199 + 5 * n + 4 < k) : aB2 a n f t w h s k = a k := by
  unfold aB2 aB1
  rw [u_ne h9, u_ne h5, u_ne (by omega), if_neg (by omega), if_neg (by omega), if_neg (by omega), if_neg (by omega)]
theorem aB2_i {a : Nat → Int32} {n : Nat} {f t w h s : Int32} {j : Nat} (hj : j < 5) : aB2 a n f t w h s (199 + 5 * n + j) = if j = 0 then f else if j = 1 then t else if j = 2 then w else if j = 3 then h else s := by
  unfold aB2 aB1
  rw [u_ne (by omega), u_ne (by omega)]
  rcases (show j = 0 ∨ j = 1 ∨ j = 2 ∨ j = 3 ∨ j = 4 by omega) with rfl | rfl | rfl | rfl | rfl
  · rw [u_ne (by omega), if_pos (by omega)]; rfl
  · rw [u_ne (by omega), if_neg (by omega), if_pos (by omega)]; rfl
  · rw [u_ne (by omega), if_neg (by omega), if_neg (by omega), if_pos (by omega)]; rfl
  · rw [u_ne (by omega), if_neg (by omega), if_neg (by omega), if_neg (by omega), if_pos (by omega)]; rfl
  · rw [u_s]; rfl
def mid (g : Nat → Nat → Int32) (a : Nat → Int32) : Prop := wfX g ∧ vR g a ∧ ssum g (cS g) ≤ 12 * (g 0 5).toInt + cC g ∧ (g 0 5).toInt ≤ 9998
theorem gBr_o {g : Nat → Nat → Int32} {n : Nat} {f t w h s : Int32} {j : Nat} (hj : j ≠ 0) (hj2 : j ≠ 2) (k : Nat) : gBr g n f t w h s j k = gAdd g 13 n f t w h s j k := by
  unfold gBr
  by_cases e : s = -1
  · rw [if_pos e, updG_j hj, updG_j hj]
  · rw [if_neg e, updG_j hj2, updG_j hj]
theorem gBr_0 {g : Nat → Nat → Int32} {n : Nat} {f t w h s : Int32} {k : Nat} (h7 : k ≠ 7) (h8 : k ≠ 8) : gBr g n f t w h s 0 k = g 0 k := by
  unfold gBr
  by_cases e : s = -1
  · rw [if_pos e, updG_k h8, updG_k h7]; exact gAdd_o (by omega) k
  · rw [if_neg e, updG_j (by omega), updG_k h7]; exact gAdd_o (by omega) k
theorem gBr_07 {g : Nat → Nat → Int32} {n : Nat} {f t w h s : Int32} : gBr g n f t w h s 0 7 = g 0 7 + 1 := by
  unfold gBr
  by_cases e : s = -1
  · rw [if_pos e, updG_k (by omega), updG_s]
  · rw [if_neg e, updG_j (by omega), updG_s]
theorem gBr_08 {g : Nat → Nat → Int32} {n : Nat} {f t w h s : Int32} : gBr g n f t w h s 0 8 = if s = -1 then g 0 8 + 1 else g 0 8 := by
  unfold gBr
  by_cases e : s = -1
  · rw [if_pos e, if_pos e, updG_s]
  · rw [if_neg e, if_neg e, updG_j (by omega), updG_k (by omega)]; exact gAdd_o (by omega) 8
theorem gBr_2 {g : Nat → Nat → Int32} {n : Nat} {f t w h s : Int32} (k : Nat) : gBr g n f t w h s 2 k = if ¬ s = -1 ∧ k = s.toNatClampNeg then g 2 k + 1 else g 2 k := by
  unfold gBr
  by_cases e : s = -1
  · rw [if_pos e, if_neg (fun z => z.1 e), updG_j (by omega), updG_j (by omega)]; exact gAdd_o (by omega) k
  · rw [if_neg e]
    by_cases e2 : k = s.toNatClampNeg
    · rw [if_pos ⟨e, e2⟩, e2, updG_s]
    · rw [if_neg (fun z => e2 z.2), updG_k e2, updG_j (by omega)]; exact gAdd_o (by omega) k
theorem gBr_r {g : Nat → Nat → Int32} {n : Nat} {f t w h s : Int32} {j : Nat} (hj : j ≠ 0) (hj2 : j ≠ 2) (hj3 : j < 13 ∨ 18 < j) : gBr g n f t w h s j = g j := by
  funext k
  rw [gBr_o hj hj2, gAdd_o (by omega)]
theorem gBr_sta (g : Nat → Nat → Int32) (n : Nat) (f t w h s : Int32) : sta g (gBr g n f t w h s) := ⟨fun k hk => gBr_0 (by omega) (by omega), gBr_0 (by omega) (by omega), gBr_r (by omega) (by omega) (by omega), gBr_r (by omega) (by omega) (by omega), gBr_r (by omega) (by omega) (by omega), gBr_r (by omega) (by omega) (by omega), gBr_r (by omega) (by omega) (by omega)⟩
theorem br_ok {g : Nat → Nat → Int32} {a : Nat → Int32} {f t w h s : Int32} (hm : mid g a) (hC : cC g < 12) (hl : letOk g f t w h) (hs : s = -1 ∨ inR s (cS g)) : mid (gBr g (cC g) f t w h s) (aBr a (cC g) f t w h s) ∧ cC (gBr g (cC g) f t w h s) = cC g + 1 := by
  obtain ⟨hx, hr, hsum, hdt⟩ := hm
  have hst := gBr_sta g (cC g) f t w h s
  obtain ⟨hS, hH, hP, hL⟩ := sta_c hst
  have gn := gAdd_n (g := g) (j := 13) (n := cC g) (f := f) (t := t) (wt := w) (h := h) (s := s)
  have h13 : gBr g (cC g) f t w h s 13 0 = nI (cC g + 1) := by rw [gBr_o (by omega) (by omega)]; exact gn.2.2.2.2.2
  have hC' : cC (gBr g (cC g) f t w h s) = cC g + 1 := by unfold cC; rw [show gBr g (g 13 0).toNatClampNeg f t w h s 13 0 = _ from h13, nI_clamp (by have : cC g < 12 := hC; omega)]; rfl
  have h7 : gBr g (cC g) f t w h s 7 0 = nI (cW g) := by rw [gBr_r (by omega) (by omega) (by omega)]; exact hx.1.2.2.2.2.1.1
  have hdate := hx.2.2.1
  have hcov : ∀ k w9, k < cC g + 1 → w9 < 5 → gBr g (cC g) f t w h s (14 + w9) k = if k = cC g then (if w9 = 0 then f else if w9 = 1 then t else if w9 = 2 then w else if w9 = 3 then h else s) else g (14 + w9) k := fun k w9 hk h5 => by
    rw [gBr_o (by omega) (by omega)]
    by_cases e : k = cC g
    · rw [if_pos e, e]
      rcases (show w9 = 0 ∨ w9 = 1 ∨ w9 = 2 ∨ w9 = 3 ∨ w9 = 4 by omega) with rfl | rfl | rfl | rfl | rfl
      · exact gn.1
      · exact gn.2.1
      · exact gn.2.2.1
      · exact gn.2.2.2.1
      · exact gn.2.2.2.2.1
    · rw [if_neg e, gAdd_k (by omega) e]
  have hge := ssum_ge (g := g) (i := s.toNatClampNeg) (cS g) (fun k hk => (hx.2.2.2.2.2.2.2.2.2.2 k hk).1)
  have hbS := hx.1.1.2
  have hinc : ¬ s = -1 → s.toNatClampNeg < cS g ∧ s = nI s.toNatClampNeg ∧ (g 2 s.toNatClampNeg + 1).toInt = (g 2 s.toNatClampNeg).toInt + 1 := fun e => by
    rcases hs with hs | hs
    · exact absurd hs e
    · obtain ⟨i, hi, hi2, ei⟩ := rg_nI (x := s) (n := cS g) hs
      have ec : s.toNatClampNeg = i := by rw [ei, nI_clamp hi2]
      rw [ec] at hge ⊢
      refine ⟨hi, ei, ?_⟩
      have h1 := hge.2 hi
      have h2 := (hx.2.2.2.2.2.2.2.2.2.2 i hi).1
      rw [Int32.toInt_add, c32_1]
      apply Int.bmod_eq_of_le <;> omega
  have hx' : wfX (gBr g (cC g) f t w h s) := by
    refine wfX_gen hx hst (by rw [gBr_0 (by omega) (by omega)]; exact hdate) hx.1.2.2.2.2.1.2 h7 (fun k hk => ?_) (show cC g + 1 ≤ 12 by omega) h13 (fun k hk => ?_) (fun k hk => ?_)
    · rw [gBr_r (by omega) (by omega) (by omega), gBr_r (by omega) (by omega) (by omega), gBr_r (by omega) (by omega) (by omega), gBr_r (by omega) (by omega) (by omega)]
      exact hx.2.2.2.2.2.2.2.2.1 k hk
    · have k0 := hcov k 0 hk (by omega)
      have k1 := hcov k 1 hk (by omega)
      have k2 := hcov k 2 hk (by omega)
      have k3 := hcov k 3 hk (by omega)
      have k4 := hcov k 4 hk (by omega)
      by_cases e : k = cC g
      · rw [if_pos e] at k0 k1 k2 k3 k4
        rw [show gBr g (cC g) f t w h s 14 k = f from k0, show gBr g (cC g) f t w h s 15 k = t from k1, show gBr g (cC g) f t w h s 16 k = w from k2, show gBr g (cC g) f t w h s 17 k = h from k3, show gBr g (cC g) f t w h s 18 k = s from k4]
        exact ⟨hl, hs⟩
      · rw [if_neg e] at k0 k1 k2 k3 k4
        rw [show gBr g (cC g) f t w h s 14 k = _ from k0, show gBr g (cC g) f t w h s 15 k = _ from k1, show gBr g (cC g) f t w h s 16 k = _ from k2, show gBr g (cC g) f t w h s 17 k = _ from k3, show gBr g (cC g) f t w h s 18 k = _ from k4]
        exact hx.2.2.2.2.2.2.2.2.2.1 k (by omega)
    · rw [gBr_2]
      have h9 := (hx.2.2.2.2.2.2.2.2.2.2 k hk).1
      by_cases e : ¬ s = -1 ∧ k = s.toNatClampNeg
      · rw [if_pos e, e.2, (hinc e.1).2.2]
        rw [e.2] at h9; omega
      · rw [if_neg e]; exact h9
  have hss : ssum (gBr g (cC g) f t w h s) (cS g) ≤ ssum g (cS g) + 1 := by
    by_cases e : s = -1
    · rw [ssum_c (g := g) (fun k _ => by rw [gBr_2, if_neg (fun z => z.1 e)]) _ hbS]; omega
    · rw [ssum_inc (g := g) (i := s.toNatClampNeg) (fun k hk => by rw [gBr_2, if_neg (fun z => hk z.2)]) (by rw [gBr_2, if_pos ⟨e, rfl⟩]; exact (hinc e).2.2)]
      split <;> omega
  refine ⟨⟨hx', ?_, ?_, ?_⟩, hC'⟩
  · have hW12 := hx.1.2.2.2.2.1.2
    have key : ∀ a9 : Nat → Int32, (∀ k, k ≠ 10 → k ≠ 11 → (¬ s = -1 → k ≠ 14 + 2 * s.toNatClampNeg) → a9 k = aB2 a (cC g) f t w h s k) → a9 10 = gBr g (cC g) f t w h s 0 8 → a9 11 = wsum (gBr g (cC g) f t w h s) (cS g) → (¬ s = -1 → a9 (14 + 2 * s.toNatClampNeg) = gBr g (cC g) f t w h s 2 s.toNatClampNeg) → vR (gBr g (cC g) f t w h s) a9 := fun a9 z1 z2 z3 z4 => by
      have ho : ∀ k, k ≠ 5 → k ≠ 9 → k ≠ 10 → k ≠ 11 → (¬ s = -1 → k ≠ 14 + 2 * s.toNatClampNeg) → k < 199 + 5 * cC g ∨ 199 + 5 * cC g + 4 < k → a9 k = a k := fun k h5 h9 h10 h11 h14 hk => by rw [z1 k h10 h11 h14, aB2_o h5 h9 hk]
      have hs6 : ¬ s = -1 → s.toNatClampNeg < 6 := fun e => by have := (hinc e).1; omega
      refine vR_gen hx.1 hr hst (fun k hk => ho k (by omega) (by omega) (by omega) (by omega) (fun e => by have := hs6 e; omega) (by omega)) hW12 h7 (show cC g + 1 ≤ 12 by omega) h13 ?_ ?_ ?_ ?_ z2 z3 (fun k hk => ?_) (fun k w9 hk h4 => ?_) (fun k w9 hk h5 => ?_)
      · rw [ho 4 (by omega) (by omega) (by omega) (by omega) (fun e => by omega) (by omega), hr.1.2.2.2.2.1]; exact hx.1.2.2.2.2.1.1
      · rw [z1 5 (by omega) (by omega) (fun e => by omega)]; unfold aB2; rw [u_ne (by omega), u_s]
      · rw [ho 7 (by omega) (by omega) (by omega) (by omega) (fun e => by omega) (by omega), gBr_0 (by omega) (by omega)]; exact hr.1.2.2.2.2.2.2.2.1
      · rw [z1 9 (by omega) (by omega) (fun e => by omega), gBr_07]; unfold aB2; rw [u_s, hr.1.2.2.2.2.2.2.2.2.2.1]
      · by_cases e : ¬ s = -1 ∧ k = s.toNatClampNeg
        · rw [e.2]; exact z4 e.1
        · rw [ho (14 + 2 * k) (by omega) (by omega) (by omega) (by omega) (fun e9 z => e ⟨e9, by omega⟩) (by omega), gBr_2, if_neg e]; exact (hr.2.1 k hk).2
      · rw [ho _ (by omega) (by omega) (by omega) (by omega) (fun e => by have := hs6 e; omega) (by omega), gBr_r (by omega) (by omega) (by omega)]; exact hr.2.2.2.2.2.1 k w9 hk h4
      · rw [hcov k w9 hk h5]
        by_cases e : k = cC g
        · rw [if_pos e, e, z1 _ (by omega) (by omega) (fun e => by have := hs6 e; omega), aB2_i h5]
        · rw [if_neg e, ho _ (by omega) (by omega) (by omega) (by omega) (fun e => by have := hs6 e; omega) (by omega)]; exact hr.2.2.2.2.2.2 k w9 (by omega) h5
    unfold aBr
    by_cases e : s = -1
    · rw [if_pos e]
      refine key _ (fun k h10 _ _ => u_ne h10) ?_ ?_ (fun z => absurd e z)
      · rw [u_s, gBr_08, if_pos e, hr.1.2.2.2.2.2.2.2.2.2.2.1]
      · rw [u_ne (by omega), aB2_o (by omega) (by omega) (by omega), wsum_c (g := g) (fun k _ => by rw [gBr_r (by omega) (by omega) (by omega)]) (fun k _ => by rw [gBr_2, if_neg (fun z => z.1 e)]) _ hbS]
        exact hr.1.2.2.2.2.2.2.2.2.2.2.2
    · rw [if_neg e]
      have hi := (hinc e).1
      refine key _ (fun k _ h11 h14 => by rw [u_ne (h14 e), u_ne h11]) ?_ ?_ (fun _ => ?_)
      · rw [u_ne (by omega), u_ne (by omega), aB2_o (by omega) (by omega) (by omega), gBr_08, if_neg e, hr.1.2.2.2.2.2.2.2.2.2.2.1]
      · rw [u_ne (by omega), u_s, wsum_inc (g := g) (i := s.toNatClampNeg) (gBr_r (by omega) (by omega) (by omega)) (fun k hk => by rw [gBr_2, if_neg (fun z => hk z.2)]) (by rw [gBr_2, if_pos ⟨e, rfl⟩]), if_pos hi, hr.1.2.2.2.2.2.2.2.2.2.2.2, (hr.2.1 _ hi).1]
      · rw [u_s, gBr_2, if_pos ⟨e, rfl⟩, (hr.2.1 _ hi).2]
  · rw [hS, hC', gBr_0 (by omega) (by omega)]
    omega
  · rw [gBr_0 (by omega) (by omega)]; exact hdt

