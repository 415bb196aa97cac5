/-! ===== LETTERS come and go: post, take; sway ===== -/
theorem lp_inv {head e : Nat} {step : Int32 → o_Mem → Option ((Nat × Int32) × o_Mem)} (P : Nat → o_Mem → Prop) {N k0 : Nat} (h1 : ∀ k μ, k0 ≤ k → k < N → P k μ → ∃ μ', step (nI k) μ = some ((head, nI (k + 1)), μ') ∧ P (k + 1) μ') (h2 : ∀ μ, P N μ → step (nI N) μ = some ((e, 0), μ)) (ne : ¬ e = head) :
    ∀ (n k : Nat) (μ : o_Mem), k0 ≤ k → k + n = N → P k μ → ∃ μ', o_lp head step (n + 1) (nI k) μ = some ((e, 0), μ') ∧ P N μ'
  | 0, k, μ, _, hk, hp => by
    have e9 : k = N := by omega
    subst e9
    exact ⟨μ, p_lp_exit (h2 μ hp) ne, hp⟩
  | n + 1, k, μ, h0, hk, hp => by
    obtain ⟨μ1, hs, hp1⟩ := h1 k μ h0 (by omega) hp
    obtain ⟨μ2, e1, e2⟩ := lp_inv P h1 h2 ne n (k + 1) μ1 (by omega) (by omega) hp1
    exact ⟨μ2, by rw [p_lp_next hs]; exact e1, e2⟩
theorem bV_wv (μ : o_Mem) (v j k : Nat) (x : Int32) : bV (o_wI μ (v + j) k x) v = updG (bV μ v) j k x := by
  funext j' k'
  show (o_wI μ (v + j) k x).1 (v + j') k' = if j' = j ∧ k' = k then x else μ.1 (v + j') k'
  rw [p_wI1]
  by_cases h : j' = j ∧ k' = k
  · rw [if_pos h, if_pos ⟨by omega, h.2⟩]
  · rw [if_neg h, if_neg (fun z => h ⟨by omega, z.2⟩)]
/-- a LETTER more: to the LETTERS that begin at cell w -/
def addL (μ : o_Mem) (w n : Nat) (f t wt h s : Int32) : o_Mem := o_wI (o_wI (o_wI (o_wI (o_wI (o_wI μ (w + 1) n f) (w + 2) n t) (w + 3) n wt) (w + 4) n h) (w + 5) n s) w 0 (nI (n + 1))
def gAdd (g : Nat → Nat → Int32) (j n : Nat) (f t wt h s : Int32) : Nat → Nat → Int32 := updG (updG (updG (updG (updG (updG g (j + 1) n f) (j + 2) n t) (j + 3) n wt) (j + 4) n h) (j + 5) n s) j 0 (nI (n + 1))
theorem bV_add (μ : o_Mem) (v j n : Nat) (f t wt h s : Int32) : bV (addL μ (v + j) n f t wt h s) v = gAdd (bV μ v) j n f t wt h s := by
  unfold addL gAdd
  rw [bV_wv, show v + j + 5 = v + (j + 5) from rfl, bV_wv, show v + j + 4 = v + (j + 4) from rfl, bV_wv, show v + j + 3 = v + (j + 3) from rfl, bV_wv, show v + j + 2 = v + (j + 2) from rfl, bV_wv, show v + j + 1 = v + (j + 1) from rfl, bV_wv]
theorem addL_o {μ : o_Mem} {w n : Nat} {f t wt h s : Int32} {i : Nat} (hi : i < w ∨ w + 5 < i) : (addL μ w n f t wt h s).1 i = μ.1 i := by
  unfold addL
  rw [p_wI_o (by omega), p_wI_o (by omega), p_wI_o (by omega), p_wI_o (by omega), p_wI_o (by omega), p_wI_o (by omega)]
theorem e1_add {w n : Nat} (hw : kdC w = .inl 1) (μ : o_Mem) (hn : μ.1 w 0 = nI n) (h12 : n < 12) (f t wt h s : Int32) : fX1_add rfC w f t wt h s μ = some ((), addL μ w n f t wt h s) := by
  have r1 : rfC w 1 = w + 1 := rf1 hw 1
  have r2 : rfC w 2 = w + 2 := rf1 hw 2
  have r3 : rfC w 3 = w + 3 := rf1 hw 3
  have r4 : rfC w 4 = w + 4 := rf1 hw 4
  have r5 : rfC w 5 = w + 5 := rf1 hw 5
  have w0 : ∀ (μ : o_Mem) (i : Nat) (x : Int32), i ≠ w → (o_wI μ i n x).1 w 0 = μ.1 w 0 := fun μ i x hi => by rw [p_wI1, if_neg (fun z => hi z.1.symm)]
  unfold fX1_add addL
  rw [hn, if_pos (show nI n < 12 by rw [i32_lt, nI_toInt (by omega), c32_12]; omega)]
  simp (disch := omega) only [r1, r2, r3, r4, r5, p_seq, w0, hn, nI_toInt, nI_clamp, p_ck, aR_1]
theorem e1_full {w n : Nat} (rf : Nat → Nat → Nat) (μ : o_Mem) (hn : μ.1 w 0 = nI n) (h12 : n ≤ 12) : fX1_isFull rf w μ = some (bI (n = 12), μ) := by
  unfold fX1_isFull
  rw [hn]
  by_cases h : n = 12
  · rw [if_neg (show ¬ nI n < 12 by rw [i32_lt, nI_toInt (by omega), c32_12]; omega), bI_t h]
  · rw [if_pos (show nI n < 12 by rw [i32_lt, nI_toInt (by omega), c32_12]; omega), bI_f h]
def aPost (a : Nat → Int32) (n : Nat) (f t w h : Int32) : Nat → Int32 := upd (upd (upd (upd (upd a (151 + 4 * n) f) (151 + 4 * n + 1) t) (151 + 4 * n + 2) w) (151 + 4 * n + 3) h) 4 (nI (n + 1))
theorem aPost_o {a : Nat → Int32} {n : Nat} {f t w h : Int32} {k : Nat} (h4 : k ≠ 4) (hk : k < 151 + 4 * n ∨ 151 + 4 * n + 3 < k) : aPost a n f t w h k = a k := by
  unfold aPost
  rw [u_ne h4, u_ne (by omega), u_ne (by omega), u_ne (by omega), u_ne (by omega)]
theorem aPost_i {a : Nat → Int32} {n : Nat} {f t w h : Int32} {j : Nat} (hj : j < 4) : aPost a n f t w h (151 + 4 * n + j) = if j = 0 then f else if j = 1 then t else if j = 2 then w else h := by
  unfold aPost
  rcases (show j = 0 ∨ j = 1 ∨ j = 2 ∨ j = 3 by omega) with rfl | rfl | rfl | rfl
  · rw [u_ne (by omega), u_ne (by omega), u_ne (by omega), u_ne (by omega), Nat.add_zero, u_s]; rfl
  · rw [u_ne (by omega), u_ne (by omega), u_ne (by omega), u_s]; rfl
  · rw [u_ne (by omega), u_ne (by omega), u_s]; rfl
  · rw [u_ne (by omega), u_s]; rfl
theorem e12_posts {n : Nat} (μ : o_Mem) (hn : μ.1 1 4 = nI n) (h12 : n < 12) (f t w h : Int32) : ∃ μ', fX12_posts rfM 0 f t w h μ = some ((), μ') ∧ (∀ i, i ≠ 1 → μ'.1 i = μ.1 i) ∧ μ'.2 = μ.2 ∧ μ'.1 1 = aPost (μ.1 1) n f t w h := by
  refine ⟨o_wI (o_wI (o_wI (o_wI (o_wI μ 1 (151 + 4 * n) f) 1 (151 + 4 * n + 1) t) 1 (151 + 4 * n + 2) w) 1 (151 + 4 * n + 3) h) 1 4 (nI (n + 1)), ?_, fun i hi => by rw [p_wI_o hi, p_wI_o hi, p_wI_o hi, p_wI_o hi, p_wI_o hi], rfl, rfl⟩
  have w4 : ∀ (μ : o_Mem) (i : Nat) (x : Int32), i ≠ 4 → (o_wI μ 1 i x).1 1 4 = μ.1 1 4 := fun μ i x hi => by rw [p_wI1, if_neg (fun z => hi z.2.symm)]
  unfold fX12_posts fX12_letterRow
  simp (disch := omega) only [rm_0, hn, mL_4, aL_151, p_bd, aR_1, aR_2, aR_3, nI_toInt, nI_clamp, p_ck, p_seq, w4]
theorem gAdd_o {g : Nat → Nat → Int32} {j n : Nat} {f t wt h s : Int32} {i : Nat} (hi : i < j ∨ j + 5 < i) (k : Nat) : gAdd g j n f t wt h s i k = g i k := by
  unfold gAdd
  rw [updG_j (by omega), updG_j (by omega), updG_j (by omega), updG_j (by omega), updG_j (by omega), updG_j (by omega)]
theorem gAdd_k {g : Nat → Nat → Int32} {j n : Nat} {f t wt h s : Int32} {i k : Nat} (hi : j < i ∧ i ≤ j + 5) (hk : k ≠ n) : gAdd g j n f t wt h s i k = g i k := by
  have u : ∀ (g : Nat → Nat → Int32) (q : Nat) (x : Int32), updG g q n x i k = g i k := fun g q x => if_neg (fun z => hk z.2)
  unfold gAdd
  rw [updG_j (by omega), u, u, u, u, u]
theorem gAdd_n {g : Nat → Nat → Int32} {j n : Nat} {f t wt h s : Int32} : gAdd g j n f t wt h s (j + 1) n = f ∧ gAdd g j n f t wt h s (j + 2) n = t ∧ gAdd g j n f t wt h s (j + 3) n = wt ∧ gAdd g j n f t wt h s (j + 4) n = h ∧ gAdd g j n f t wt h s (j + 5) n = s ∧ gAdd g j n f t wt h s j 0 = nI (n + 1) := by
  unfold gAdd
  refine ⟨?_, ?_, ?_, ?_, ?_, ?_⟩
  · rw [updG_j (by omega), updG_j (by omega), updG_j (by omega), updG_j (by omega), updG_j (by omega), updG_s]
  · rw [updG_j (by omega), updG_j (by omega), updG_j (by omega), updG_j (by omega), updG_s]
  · rw [updG_j (by omega), updG_j (by omega), updG_j (by omega), updG_s]
  · rw [updG_j (by omega), updG_j (by omega), updG_s]
  · rw [updG_j (by omega), updG_s]
  · rw [updG_s]
theorem cW_post {g : Nat → Nat → Int32} {n : Nat} {f t w h s : Int32} (hn : n < 12) : cW (gAdd g 7 n f t w h s) = n + 1 := by
  unfold cW; rw [gAdd_n.2.2.2.2.2, nI_clamp (by omega)]
theorem wf_post {g : Nat → Nat → Int32} {f t w h s : Int32} (hw : wfV g) (h12 : cW g < 12) (hl : letOk g f t w h) : wfV (gAdd g 7 (cW g) f t w h s) := by
  obtain ⟨b1, b2, b3, b4, b5, b6, b7, b8, b9, b10, b11⟩ := hw
  have hc := cW_post (g := g) (f := f) (t := t) (w := w) (h := h) (s := s) h12
  refine ⟨⟨b1.1, b1.2.1, b1.2.2.1, b1.2.2.2.1, ⟨by rw [hc]; exact gAdd_n.2.2.2.2.2, by rw [hc]; omega⟩, b1.2.2.2.2.2⟩, b2, b3, b4, b5, b6, b7, b8, fun k hk => ?_, b10, b11.1, Int.le_trans (Int.le_of_eq (ssum_c (g := g) (g' := gAdd g 7 (cW g) f t w h s) (fun _ _ => rfl) _ b1.1.2)) b11.2⟩
  rw [hc] at hk
  by_cases e : k = cW g
  · subst e
    have q := gAdd_n (g := g) (j := 7) (n := cW g) (f := f) (t := t) (wt := w) (h := h) (s := s)
    rw [q.1, q.2.1, q.2.2.1, q.2.2.2.1]
    exact hl
  · rw [gAdd_k (by omega) e, gAdd_k (by omega) e, gAdd_k (by omega) e, gAdd_k (by omega) e]
    exact b9 k (by omega)
theorem vR_post {g : Nat → Nat → Int32} {a : Nat → Int32} {f t w h s : Int32} (hw : wfN g) (hr : vR g a) (h12 : cW g < 12) : vR (gAdd g 7 (cW g) f t w h s) (aPost a (cW g) f t w h) := by
  obtain ⟨⟨c0, c1, c2, c3, c4, c5, c6, c7, c8, c9, c10, c11⟩, d2, d3, d4, d5, d6, d7⟩ := hr
  obtain ⟨⟨-, b1⟩, ⟨-, b2⟩, ⟨-, b3⟩, ⟨-, b4⟩, ⟨-, b5⟩, ⟨-, b6⟩⟩ := hw
  refine ⟨⟨(aPost_o (by omega) (by omega)).trans c0, (aPost_o (by omega) (by omega)).trans c1, (aPost_o (by omega) (by omega)).trans c2, (aPost_o (by omega) (by omega)).trans c3, gAdd_n.2.2.2.2.2.symm, (aPost_o (by omega) (by omega)).trans c5, (aPost_o (by omega) (by omega)).trans c6, (aPost_o (by omega) (by omega)).trans c7, (aPost_o (by omega) (by omega)).trans c8, (aPost_o (by omega) (by omega)).trans c9, (aPost_o (by omega) (by omega)).trans c10, (aPost_o (by omega) (by omega)).trans (c11.trans (wsum_c (g := g) (g' := gAdd g 7 (cW g) f t w h s) (fun _ _ => rfl) (fun _ _ => rfl) _ b1).symm)⟩, fun k (hk : k < cS g) => ⟨(aPost_o (by omega) (by omega)).trans (d2 k hk).1, (aPost_o (by omega) (by omega)).trans (d2 k hk).2⟩, fun p (hp9 : p < cP g) => (aPost_o (by omega) (by omega)).trans (d3 p hp9), fun l w (hl9 : l < cL g) hw9 => (aPost_o (by omega) (by omega)).trans (d4 l w hl9 hw9), fun p s (hp9 : p < cP g) (hs9 : s < cS g) => ⟨(aPost_o (by omega) (by omega)).trans (d5 p s hp9 hs9).1, fun q => (aPost_o (by omega) (by omega)).trans ((d5 p s hp9 hs9).2 q)⟩, fun k w9 hk9 hw9 => ?_, fun k w (hk9 : k < cC g) hw9 => ((aPost_o (by omega) (by omega)).trans (d7 k w hk9 hw9)).trans (gAdd_o (by omega) _).symm⟩
  rw [cW_post h12] at hk9
  by_cases e : k = cW g
  · subst e
    have q := gAdd_n (g := g) (j := 7) (n := cW g) (f := f) (t := t) (wt := w) (h := h) (s := s)
    rw [aPost_i hw9]
    rcases (show w9 = 0 ∨ w9 = 1 ∨ w9 = 2 ∨ w9 = 3 by omega) with rfl | rfl | rfl | rfl
    · exact q.1.symm
    · exact q.2.1.symm
    · exact q.2.2.1.symm
    · exact q.2.2.2.1.symm
  · rw [aPost_o (by omega) (by omega), gAdd_k (by omega) e]
    exact d6 k w9 (by omega) hw9
section ps
variable {μC μM : o_Mem}
theorem pu_post (h : Inv μC μM) (f t w k : Int32) : o_Eq2 (fX11_post rfC 0 f t w k μC) (fX12_post rfM 0 f t w k μM) Inv := by
  obtain ⟨hw, hr⟩ := Inv_v h
  have b := hw.1.2.2.2.2.1.2
  have e : μC.1 17 0 = nI (cW (bV μC 10)) := hw.1.2.2.2.2.1.1
  have e' : μM.1 1 4 = nI (cW (bV μC 10)) := hr.1.2.2.2.2.1.trans hw.1.2.2.2.2.1.1
  unfold fX11_post fX12_post
  rw [rc0_4, rc10_15, rm_0, e8_isLetter rfC hw.1, e12_isMail hw.1 hr, p_bd, p_bd, bI_if, bI_if, e', e1_full rfC μC e b, p_bd, bI_if]
  by_cases hm : mailP (bV μC 10) f t w k
  · rw [if_pos hm, if_pos hm]
    by_cases h12 : cW (bV μC 10) = 12
    · rw [if_pos h12, if_pos (by rw [h12]; rfl)]; exact eq2_st h _ _ rfl rfl
    · rw [if_neg h12, if_neg (by rw [i32_eq, nI_toInt (by omega), c32_12]; omega)]
      obtain ⟨μ', e1, e2, e3, e4⟩ := e12_posts μM e' (by omega) f t w k
      rw [e1_add k17 μC e (by omega), e1, p_bd, p_bd, e11_gives, e12_gives, p_bd, p_bd]
      have ea : (addL μC 17 (cW (bV μC 10)) f t w k (-1)).1 17 0 = nI (cW (bV μC 10) + 1) := by unfold addL; rw [p_wI1, if_pos ⟨rfl, rfl⟩]
      have em : μ'.1 1 4 = nI (cW (bV μC 10) + 1) := by rw [e4]; rfl
      have eb : bV (addL μC 17 (cW (bV μC 10)) f t w k (-1)) 10 = gAdd (bV μC 10) 7 (cW (bV μC 10)) f t w k (-1) := bV_add μC 10 7 _ f t w k (-1)
      rw [ea, em]
      refine ⟨nI (cW (bV μC 10) + 1), _, _, rfl, rfl, Inv_st 0 ?_⟩
      refine Inv_val h (fun q hq => addL_o (by omega)) rfl e2 e3 (fun q hq => by rw [e4]; exact aPost_o (by omega) (by omega)) ?_ ?_ ?_ ?_ ?_
      · rw [eb]; rfl
      · rw [eb]; rfl
      · rw [eb]; rfl
      · rw [eb]; exact wf_post hw (by omega) ⟨hm.1, hm.2.1, hm.2.2.2.1, hm.2.2.2.2⟩
      · rw [eb, e4]; exact vR_post hw.1 hr (by omega)
  · rw [if_neg hm, if_neg hm]; exact eq2_st h _ _ rfl rfl
end ps
