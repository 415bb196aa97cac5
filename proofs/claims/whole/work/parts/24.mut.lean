/-! ===== what changes the VALLEY: learn, teach, forget, pub, drink, wrapped ===== -/
def updG (g : Nat → Nat → Int32) (j k : Nat) (x : Int32) : Nat → Nat → Int32 := fun j' k' => if j' = j ∧ k' = k then x else g j' k'
theorem updG_s (g : Nat → Nat → Int32) (j k : Nat) (x : Int32) : updG g j k x j k = x := if_pos ⟨rfl, rfl⟩
theorem updG_k {g : Nat → Nat → Int32} {j k : Nat} {x : Int32} {k' : Nat} (h : k' ≠ k) : updG g j k x j k' = g j k' := if_neg (fun z => h z.2)
theorem updG_j {g : Nat → Nat → Int32} {j k : Nat} {x : Int32} {j' : Nat} (h : j' ≠ j) (k' : Nat) : updG g j k x j' k' = g j' k' := if_neg (fun z => h z.1)
theorem u_ne {a : Nat → Int32} {i k : Nat} {x : Int32} (h : k ≠ i) : upd a i x k = a k := if_neg h
theorem u_s {a : Nat → Int32} {i : Nat} {x : Int32} : upd a i x i = x := if_pos rfl
theorem bV_w (μ : o_Mem) (j k : Nat) (x : Int32) : bV (o_wI μ (10 + j) k x) 10 = updG (bV μ 10) j k x := by
  funext j' k'
  show (o_wI μ (10 + j) k x).1 (10 + j') k' = if j' = j ∧ k' = k then x else μ.1 (10 + j') k'
  rw [p_wI1]
  by_cases h : j' = j ∧ k' = k
  · rw [if_pos h, if_pos ⟨by omega, h.2⟩]
  · rw [if_neg h, if_neg (fun z => h ⟨by omega, z.2⟩)]
theorem mA_w (μ : o_Mem) (k : Nat) (x : Int32) : (o_wI μ 1 k x).1 1 = upd (μ.1 1) k x := rfl
theorem wsum_c {g g' : Nat → Nat → Int32} (h1 : ∀ k, k < 6 → g' 1 k = g 1 k) (h2 : ∀ k, k < 6 → g' 2 k = g 2 k) : ∀ n, n ≤ 6 → wsum g' n = wsum g n
  | 0, _ => rfl
  | n + 1, h => by unfold wsum; rw [wsum_c h1 h2 n (by omega), h1 n (by omega), h2 n (by omega)]
/-- the VALLEY that is there changes, in ways that leave its NAMES and numbers of them -/
theorem Inv_val {μC μM μC' μM' : o_Mem} (h : Inv μC μM) (hC : ∀ i, i < 10 ∨ 30 ≤ i → μC'.1 i = μC.1 i) (hC2 : μC'.2 = μC.2) (hM : ∀ i, i ≠ 1 → μM'.1 i = μM.1 i) (hM2 : μM'.2 = μM.2) (hA : ∀ k, k = 12 ∨ 259 ≤ k → μM'.1 1 k = μM.1 1 k)
    (cs : cS (bV μC' 10) = cS (bV μC 10)) (ch : cH (bV μC' 10) = cH (bV μC 10)) (cp : cP (bV μC' 10) = cP (bV μC 10)) (hw : wfV (bV μC' 10)) (hr : vR (bV μC' 10) (μM'.1 1)) : Inv μC' μM' := by
  obtain ⟨a1, a2, a3, a4, a5, a6, a7⟩ := h
  refine ⟨?_, iTr_c (fun i p q => ⟨hC i (by omega), by rw [hC2]⟩) (hM 3 (by omega)) (hM 4 (by omega)) (by rw [hM2]) a2, iTp_c (by rw [hC 137 (by omega)]) (hC 138 (by omega)) (by rw [hM 0 (by omega)]) (hM 6 (by omega)) a3, ?_, ?_, ?_, ?_⟩
  · unfold iSt at a1 ⊢; rw [hC 0 (by omega), hM 0 (by omega), hC2, hM2]; exact a1
  · unfold iFt at a4 ⊢; rw [hC 137 (by omega), hM 0 (by omega)]; exact a4
  · refine ⟨hw, by rw [mS_0]; exact hr, ?_, ?_⟩
    · have := a5.2.2.1
      unfold nR at this ⊢
      rw [cs, ch, cp, hC2, hM2]
      exact this
    · have hp := a5.2.2.2
      have ep : ∀ j, j < 5 → bV μC' 50 j = bV μC 50 j := fun j hj => by funext k; show μC'.1 (50 + j) k = μC.1 (50 + j) k; rw [hC _ (by omega)]
      unfold pR at hp ⊢
      rw [mS_0] at hp ⊢
      rw [ep 0 (by omega), ep 1 (by omega), ep 2 (by omega), ep 3 (by omega), ep 4 (by omega), hA 12 (by omega)]
      rcases hp with hp | ⟨q1, n, q2, q3, q4, q5, q6, q7⟩
      · exact Or.inl hp
      · refine Or.inr ⟨q1, n, q2, q3, q4, fun k hk => ?_, q6, q7⟩
        exact rowR_c cs cp (fun j hj => hA _ (by omega)) (q5 k hk)
  · exact iMk_c (by rw [hC 0 (by omega)]) (fun i p q => ⟨hC i (by omega), by rw [hC2]⟩) (by rw [hM 0 (by omega)]) (fun k p q => hA k (by omega)) (fun k p q => by rw [hM2]) a6
  · unfold iLv at a7 ⊢; rw [hC 144 (by omega), hM 0 (by omega), hM 18 (by omega)]; exact a7
theorem vR_hand {g : Nat → Nat → Int32} {a : Nat → Int32} {p : Nat} {x : Int32} (hw : wfN g) (hr : vR g a) (hp : p < cP g) : vR (updG g 3 p x) (upd a (25 + p) x) := by
  obtain ⟨⟨c0, c1, c2, c3, c4, c5, c6, c7, c8, c9, c10, c11⟩, d2, d3, d4, d5, d6, d7⟩ := hr
  obtain ⟨⟨-, b1⟩, ⟨-, b2⟩, ⟨-, b3⟩, ⟨-, b4⟩, ⟨-, b5⟩, ⟨-, b6⟩⟩ := hw
  refine ⟨⟨(u_ne (by omega)).trans c0, (u_ne (by omega)).trans c1, (u_ne (by omega)).trans c2, (u_ne (by omega)).trans c3, (u_ne (by omega)).trans c4, (u_ne (by omega)).trans c5, (u_ne (by omega)).trans c6, (u_ne (by omega)).trans c7, (u_ne (by omega)).trans c8, (u_ne (by omega)).trans c9, (u_ne (by omega)).trans c10, (u_ne (by omega)).trans (c11.trans (wsum_c (g := g) (g' := updG g 3 p x) (fun _ _ => rfl) (fun _ _ => rfl) _ b1).symm)⟩, fun k (hk : k < cS g) => ⟨(u_ne (by omega)).trans (d2 k hk).1, (u_ne (by omega)).trans (d2 k hk).2⟩, fun q (hq : q < cP g) => ?_, fun l w (hl9 : l < cL g) hw9 => (u_ne (by omega)).trans (d4 l w hl9 hw9), fun p s (hp9 : p < cP g) (hs9 : s < cS g) => ⟨(u_ne (by omega)).trans (d5 p s hp9 hs9).1, fun q => (u_ne (by omega)).trans ((d5 p s hp9 hs9).2 q)⟩, fun k w (hk9 : k < cW g) hw9 => ((u_ne (by omega)).trans (d6 k w hk9 hw9)).trans (updG_j (by omega) _).symm, fun k w (hk9 : k < cC g) hw9 => ((u_ne (by omega)).trans (d7 k w hk9 hw9)).trans (updG_j (by omega) _).symm⟩
  by_cases e : q = p
  · subst e; rw [u_s, updG_s]
  · rw [u_ne (by omega), updG_k e]; exact d3 q hq
theorem vR_odds {g : Nat → Nat → Int32} {a : Nat → Int32} {x : Int32} (hw : wfN g) (hr : vR g a)  : vR (updG g 0 4 x) (upd a 6 x) := by
  obtain ⟨⟨c0, c1, c2, c3, c4, c5, c6, c7, c8, c9, c10, c11⟩, d2, d3, d4, d5, d6, d7⟩ := hr
  obtain ⟨⟨-, b1⟩, ⟨-, b2⟩, ⟨-, b3⟩, ⟨-, b4⟩, ⟨-, b5⟩, ⟨-, b6⟩⟩ := hw
  refine ⟨⟨(u_ne (by omega)).trans c0, (u_ne (by omega)).trans c1, (u_ne (by omega)).trans c2, (u_ne (by omega)).trans c3, (u_ne (by omega)).trans c4, (u_ne (by omega)).trans c5, rfl, (u_ne (by omega)).trans c7, (u_ne (by omega)).trans c8, (u_ne (by omega)).trans c9, (u_ne (by omega)).trans c10, (u_ne (by omega)).trans (c11.trans (wsum_c (g := g) (g' := updG g 0 4 x) (fun _ _ => rfl) (fun _ _ => rfl) _ b1).symm)⟩, fun k (hk : k < cS g) => ⟨(u_ne (by omega)).trans (d2 k hk).1, (u_ne (by omega)).trans (d2 k hk).2⟩, fun p (hp9 : p < cP g) => (u_ne (by omega)).trans (d3 p hp9), fun l w (hl9 : l < cL g) hw9 => (u_ne (by omega)).trans (d4 l w hl9 hw9), fun p s (hp9 : p < cP g) (hs9 : s < cS g) => ⟨(u_ne (by omega)).trans (d5 p s hp9 hs9).1, fun q => (u_ne (by omega)).trans ((d5 p s hp9 hs9).2 q)⟩, fun k w (hk9 : k < cW g) hw9 => ((u_ne (by omega)).trans (d6 k w hk9 hw9)).trans (updG_j (by omega) _).symm, fun k w (hk9 : k < cC g) hw9 => ((u_ne (by omega)).trans (d7 k w hk9 hw9)).trans (updG_j (by omega) _).symm⟩
theorem vR_drunk {g : Nat → Nat → Int32} {a : Nat → Int32} {x : Int32} (hw : wfN g) (hr : vR g a)  : vR (updG g 0 6 x) (upd a 8 x) := by
  obtain ⟨⟨c0, c1, c2, c3, c4, c5, c6, c7, c8, c9, c10, c11⟩, d2, d3, d4, d5, d6, d7⟩ := hr
  obtain ⟨⟨-, b1⟩, ⟨-, b2⟩, ⟨-, b3⟩, ⟨-, b4⟩, ⟨-, b5⟩, ⟨-, b6⟩⟩ := hw
  refine ⟨⟨(u_ne (by omega)).trans c0, (u_ne (by omega)).trans c1, (u_ne (by omega)).trans c2, (u_ne (by omega)).trans c3, (u_ne (by omega)).trans c4, (u_ne (by omega)).trans c5, (u_ne (by omega)).trans c6, (u_ne (by omega)).trans c7, rfl, (u_ne (by omega)).trans c9, (u_ne (by omega)).trans c10, (u_ne (by omega)).trans (c11.trans (wsum_c (g := g) (g' := updG g 0 6 x) (fun _ _ => rfl) (fun _ _ => rfl) _ b1).symm)⟩, fun k (hk : k < cS g) => ⟨(u_ne (by omega)).trans (d2 k hk).1, (u_ne (by omega)).trans (d2 k hk).2⟩, fun p (hp9 : p < cP g) => (u_ne (by omega)).trans (d3 p hp9), fun l w (hl9 : l < cL g) hw9 => (u_ne (by omega)).trans (d4 l w hl9 hw9), fun p s (hp9 : p < cP g) (hs9 : s < cS g) => ⟨(u_ne (by omega)).trans (d5 p s hp9 hs9).1, fun q => (u_ne (by omega)).trans ((d5 p s hp9 hs9).2 q)⟩, fun k w (hk9 : k < cW g) hw9 => ((u_ne (by omega)).trans (d6 k w hk9 hw9)).trans (updG_j (by omega) _).symm, fun k w (hk9 : k < cC g) hw9 => ((u_ne (by omega)).trans (d7 k w hk9 hw9)).trans (updG_j (by omega) _).symm⟩
theorem vR_acts {g : Nat → Nat → Int32} {a : Nat → Int32} {p s : Nat} {x y : Int32} (hw : wfN g) (hr : vR g a) (hp : p < cP g) (hs : s < cS g) : vR (updG (updG g 5 (6 * p + s) x) 6 (6 * p + s) y) (upd (upd a (79 + 2 * (6 * p + s)) x) (79 + 2 * (6 * p + s) + 1) y) := by
  obtain ⟨⟨c0, c1, c2, c3, c4, c5, c6, c7, c8, c9, c10, c11⟩, d2, d3, d4, d5, d6, d7⟩ := hr
  obtain ⟨⟨-, b1⟩, ⟨-, b2⟩, ⟨-, b3⟩, ⟨-, b4⟩, ⟨-, b5⟩, ⟨-, b6⟩⟩ := hw
  refine ⟨⟨((u_ne (by omega)).trans (u_ne (by omega))).trans c0, ((u_ne (by omega)).trans (u_ne (by omega))).trans c1, ((u_ne (by omega)).trans (u_ne (by omega))).trans c2, ((u_ne (by omega)).trans (u_ne (by omega))).trans c3, ((u_ne (by omega)).trans (u_ne (by omega))).trans c4, ((u_ne (by omega)).trans (u_ne (by omega))).trans c5, ((u_ne (by omega)).trans (u_ne (by omega))).trans c6, ((u_ne (by omega)).trans (u_ne (by omega))).trans c7, ((u_ne (by omega)).trans (u_ne (by omega))).trans c8, ((u_ne (by omega)).trans (u_ne (by omega))).trans c9, ((u_ne (by omega)).trans (u_ne (by omega))).trans c10, ((u_ne (by omega)).trans (u_ne (by omega))).trans (c11.trans (wsum_c (g := g) (g' := updG (updG g 5 (6 * p + s) x) 6 (6 * p + s) y) (fun _ _ => rfl) (fun _ _ => rfl) _ b1).symm)⟩, fun k (hk : k < cS g) => ⟨((u_ne (by omega)).trans (u_ne (by omega))).trans (d2 k hk).1, ((u_ne (by omega)).trans (u_ne (by omega))).trans (d2 k hk).2⟩, fun p (hp9 : p < cP g) => ((u_ne (by omega)).trans (u_ne (by omega))).trans (d3 p hp9), fun l w (hl9 : l < cL g) hw9 => ((u_ne (by omega)).trans (u_ne (by omega))).trans (d4 l w hl9 hw9), fun p9 s9 (hp9 : p9 < cP g) (hs9 : s9 < cS g) => ?_, fun k w (hk9 : k < cW g) hw9 => (((u_ne (by omega)).trans (u_ne (by omega))).trans (d6 k w hk9 hw9)).trans ((updG_j (by omega) _).trans (updG_j (by omega) _)).symm, fun k w (hk9 : k < cC g) hw9 => (((u_ne (by omega)).trans (u_ne (by omega))).trans (d7 k w hk9 hw9)).trans ((updG_j (by omega) _).trans (updG_j (by omega) _)).symm⟩
  by_cases e : 6 * p9 + s9 = 6 * p + s
  · rw [e]
    refine ⟨?_, fun _ => ?_⟩
    · rw [u_ne (by omega), u_s, updG_j (by omega), updG_s]
    · rw [show 80 + 2 * (6 * p + s) = 79 + 2 * (6 * p + s) + 1 by omega, u_s, updG_s]
  · rw [u_ne (by omega), u_ne (by omega), updG_j (by omega), updG_k e, u_ne (by omega), u_ne (by omega), updG_k e, updG_j (by omega)]
    exact d5 p9 s9 hp9 hs9
theorem vR_forget {g : Nat → Nat → Int32} {a : Nat → Int32} {p s : Nat} {y : Int32} (hw : wfN g) (hr : vR g a) (hp : p < cP g) (hs : s < cS g) : vR (updG (updG g 5 (6 * p + s) (-1)) 6 (6 * p + s) y) (upd a (79 + 2 * (6 * p + s)) (-1)) := by
  obtain ⟨⟨c0, c1, c2, c3, c4, c5, c6, c7, c8, c9, c10, c11⟩, d2, d3, d4, d5, d6, d7⟩ := hr
  obtain ⟨⟨-, b1⟩, ⟨-, b2⟩, ⟨-, b3⟩, ⟨-, b4⟩, ⟨-, b5⟩, ⟨-, b6⟩⟩ := hw
  refine ⟨⟨(u_ne (by omega)).trans c0, (u_ne (by omega)).trans c1, (u_ne (by omega)).trans c2, (u_ne (by omega)).trans c3, (u_ne (by omega)).trans c4, (u_ne (by omega)).trans c5, (u_ne (by omega)).trans c6, (u_ne (by omega)).trans c7, (u_ne (by omega)).trans c8, (u_ne (by omega)).trans c9, (u_ne (by omega)).trans c10, (u_ne (by omega)).trans (c11.trans (wsum_c (g := g) (g' := updG (updG g 5 (6 * p + s) (-1)) 6 (6 * p + s) y) (fun _ _ => rfl) (fun _ _ => rfl) _ b1).symm)⟩, fun k (hk : k < cS g) => ⟨(u_ne (by omega)).trans (d2 k hk).1, (u_ne (by omega)).trans (d2 k hk).2⟩, fun p (hp9 : p < cP g) => (u_ne (by omega)).trans (d3 p hp9), fun l w (hl9 : l < cL g) hw9 => (u_ne (by omega)).trans (d4 l w hl9 hw9), fun p9 s9 (hp9 : p9 < cP g) (hs9 : s9 < cS g) => ?_, fun k w (hk9 : k < cW g) hw9 => ((u_ne (by omega)).trans (d6 k w hk9 hw9)).trans ((updG_j (by omega) _).trans (updG_j (by omega) _)).symm, fun k w (hk9 : k < cC g) hw9 => ((u_ne (by omega)).trans (d7 k w hk9 hw9)).trans ((updG_j (by omega) _).trans (updG_j (by omega) _)).symm⟩
  by_cases e : 6 * p9 + s9 = 6 * p + s
  · rw [e]
    refine ⟨?_, fun z => ?_⟩
    · rw [u_s, updG_j (by omega), updG_s]
    · rw [updG_j (by omega), updG_s] at z; exact absurd rfl z
  · rw [u_ne (by omega), updG_j (by omega), updG_k e, u_ne (by omega), updG_k e, updG_j (by omega)]
    exact d5 p9 s9 hp9 hs9
theorem vR_wrap {g : Nat → Nat → Int32} {a : Nat → Int32} {k0 : Nat} {x : Int32} (hw : wfN g) (hr : vR g a) (hk0 : k0 < cW g) : vR (updG g 10 k0 x) (upd a (151 + 4 * k0 + 2) x) := by
  obtain ⟨⟨c0, c1, c2, c3, c4, c5, c6, c7, c8, c9, c10, c11⟩, d2, d3, d4, d5, d6, d7⟩ := hr
  obtain ⟨⟨-, b1⟩, ⟨-, b2⟩, ⟨-, b3⟩, ⟨-, b4⟩, ⟨-, b5⟩, ⟨-, b6⟩⟩ := hw
  refine ⟨⟨(u_ne (by omega)).trans c0, (u_ne (by omega)).trans c1, (u_ne (by omega)).trans c2, (u_ne (by omega)).trans c3, (u_ne (by omega)).trans c4, (u_ne (by omega)).trans c5, (u_ne (by omega)).trans c6, (u_ne (by omega)).trans c7, (u_ne (by omega)).trans c8, (u_ne (by omega)).trans c9, (u_ne (by omega)).trans c10, (u_ne (by omega)).trans (c11.trans (wsum_c (g := g) (g' := updG g 10 k0 x) (fun _ _ => rfl) (fun _ _ => rfl) _ b1).symm)⟩, fun k (hk : k < cS g) => ⟨(u_ne (by omega)).trans (d2 k hk).1, (u_ne (by omega)).trans (d2 k hk).2⟩, fun p (hp9 : p < cP g) => (u_ne (by omega)).trans (d3 p hp9), fun l w (hl9 : l < cL g) hw9 => (u_ne (by omega)).trans (d4 l w hl9 hw9), fun p s (hp9 : p < cP g) (hs9 : s < cS g) => ⟨(u_ne (by omega)).trans (d5 p s hp9 hs9).1, fun q => (u_ne (by omega)).trans ((d5 p s hp9 hs9).2 q)⟩, fun k w (hk9 : k < cW g) hw9 => ?_, fun k w (hk9 : k < cC g) hw9 => ((u_ne (by omega)).trans (d7 k w hk9 hw9)).trans (updG_j (by omega) _).symm⟩
  by_cases e : k = k0 ∧ w = 2
  · obtain ⟨rfl, rfl⟩ := e; rw [u_s]; exact (updG_s g 10 k x).symm
  · rw [u_ne (by omega)]
    refine (d6 k w hk9 hw9).trans ?_
    by_cases e2 : 8 + w = 10
    · rw [e2, updG_k (by omega)]
    · rw [updG_j e2]
theorem ssum_c {g g' : Nat → Nat → Int32} (h2 : ∀ k, k < 6 → g' 2 k = g 2 k) : ∀ n, n ≤ 6 → ssum g' n = ssum g n
  | 0, _ => rfl
  | n + 1, h => by unfold ssum; rw [ssum_c h2 n (by omega), h2 n (by omega)]
theorem wf_hand {g : Nat → Nat → Int32} {p : Nat} {x : Int32} (hw : wfV g) (hx : inR x (cH g)) : wfV (updG g 3 p x) := by
  obtain ⟨b1, b2, b3, b4, b5, b6, b7, b8, b9, b10, b11⟩ := hw
  refine ⟨b1, b2, b3, b4, b5, fun q hq => ?_, b7, b8, b9, b10, b11.1, ?_⟩
  · by_cases e : q = p
    · subst e; rw [updG_s]; exact hx
    · rw [updG_k e]; exact b6 q hq
  · exact Int.le_trans (Int.le_of_eq (ssum_c (g := g) (g' := updG g 3 p x) (fun _ _ => rfl) _ b1.1.2)) b11.2
theorem wf_odds {g : Nat → Nat → Int32} {x : Int32} (hw : wfV g) (hx : 0 ≤ x.toInt ∧ x.toInt ≤ 16) : wfV (updG g 0 4 x) := by
  obtain ⟨b1, b2, b3, b4, b5, b6, b7, b8, b9, b10, b11⟩ := hw
  exact ⟨b1, hx, b3, b4, b5, b6, b7, b8, b9, b10, b11.1, Int.le_trans (Int.le_of_eq (ssum_c (g := g) (g' := updG g 0 4 x) (fun _ _ => rfl) _ b1.1.2)) b11.2⟩
theorem wf_drunk {g : Nat → Nat → Int32} {x : Int32} (hw : wfV g) (hx : x = 0 ∨ x = 1) : wfV (updG g 0 6 x) := by
  obtain ⟨b1, b2, b3, b4, b5, b6, b7, b8, b9, b10, b11⟩ := hw
  exact ⟨b1, b2, b3, hx, b5, b6, b7, b8, b9, b10, b11.1, Int.le_trans (Int.le_of_eq (ssum_c (g := g) (g' := updG g 0 6 x) (fun _ _ => rfl) _ b1.1.2)) b11.2⟩
theorem wf_acts {g : Nat → Nat → Int32} {c : Nat} {x y : Int32} (hw : wfV g) (hx : (x = -1 ∧ y = -1) ∨ (inR x (cP g) ∧ wOk y)) : wfV (updG (updG g 5 c x) 6 c y) := by
  obtain ⟨b1, b2, b3, b4, b5, b6, b7, b8, b9, b10, b11⟩ := hw
  refine ⟨b1, b2, b3, b4, b5, b6, fun p s hp hs => ?_, fun p s hp hs => ?_, b9, b10, b11.1, Int.le_trans (Int.le_of_eq (ssum_c (g := g) (g' := updG (updG g 5 c x) 6 c y) (fun _ _ => rfl) _ b1.1.2)) b11.2⟩
  · by_cases e : 6 * p + s = c
    · rw [e, updG_j (by omega), updG_s, updG_s]
      rcases hx with hx | hx
      · exact Or.inl hx.1
      · exact Or.inr hx
    · rw [updG_j (by omega), updG_k e, updG_k e, updG_j (by omega)]; exact b7 p s hp hs
  · by_cases e : 6 * p + s = c
    · rw [e, updG_j (by omega), updG_s, updG_s]
      intro z
      rcases hx with hx | hx
      · exact hx.2
      · have := hx.1.1; rw [z, c32_m1] at this; omega
    · rw [updG_j (by omega), updG_k e, updG_k e, updG_j (by omega)]; exact b8 p s hp hs
theorem wf_wrap {g : Nat → Nat → Int32} {k : Nat} {x : Int32} (hw : wfV g) (hx : wOk x) : wfV (updG g 10 k x) := by
  obtain ⟨b1, b2, b3, b4, b5, b6, b7, b8, b9, b10, b11⟩ := hw
  refine ⟨b1, b2, b3, b4, b5, b6, b7, b8, fun q hq => ?_, b10, b11.1, Int.le_trans (Int.le_of_eq (ssum_c (g := g) (g' := updG g 10 k x) (fun _ _ => rfl) _ b1.1.2)) b11.2⟩
  have h9 := b9 q hq
  refine ⟨h9.1, h9.2.1, ?_, h9.2.2.2⟩
  by_cases e : q = k
  · subst e; rw [updG_s]; exact hx
  · rw [updG_k e]; exact h9.2.2.1
section mu
variable {μC μM : o_Mem}
theorem ends_ne {rf : Nat → Nat → Nat} {a : Nat} {μ : o_Mem} {x : Int32} (h : ¬ x = 0) : fX11_ends rf a x μ = some (0, o_wI μ a 0 x) := by rw [e11_ends, bI_f h]
theorem is_ne {rf : Nat → Nat → Nat} {a : Nat} {μ : o_Mem} {x : Int32} (h : ¬ x = 0) : fX12_is rf a x μ = some (0, o_wI μ a 2 x) := by rw [e12_is, bI_f h]
theorem ends_0 {rf : Nat → Nat → Nat} {a : Nat} {μ : o_Mem} : fX11_ends rf a 0 μ = some (1, o_wI μ a 0 0) := rfl
theorem is_0 {rf : Nat → Nat → Nat} {a : Nat} {μ : o_Mem} : fX12_is rf a 0 μ = some (1, o_wI μ a 2 0) := rfl
theorem ends_1 {rf : Nat → Nat → Nat} {a : Nat} {μ : o_Mem} : fX11_ends rf a 1 μ = some (0, o_wI μ a 0 1) := ends_ne (by decide)
theorem is_1 {rf : Nat → Nat → Nat} {a : Nat} {μ : o_Mem} : fX12_is rf a 1 μ = some (0, o_wI μ a 2 1) := is_ne (by decide)
theorem ends_7 {rf : Nat → Nat → Nat} {a : Nat} {μ : o_Mem} : fX11_ends rf a 7 μ = some (0, o_wI μ a 0 7) := ends_ne (by decide)
theorem is_7 {rf : Nat → Nat → Nat} {a : Nat} {μ : o_Mem} : fX12_is rf a 7 μ = some (0, o_wI μ a 2 7) := is_ne (by decide)
/-- one number of the VALLEY changes, one of the row -/
theorem Inv_1 (h : Inv μC μM) {j k i : Nat} {x y : Int32} (hj : j < 20) (hi : i < 259) (hi2 : ¬ i = 12) (cs : cS (updG (bV μC 10) j k x) = cS (bV μC 10)) (ch : cH (updG (bV μC 10) j k x) = cH (bV μC 10)) (cp : cP (updG (bV μC 10) j k x) = cP (bV μC 10)) (hw : wfV (updG (bV μC 10) j k x)) (hr : vR (updG (bV μC 10) j k x) (upd (μM.1 1) i y)) : Inv (o_wI μC (10 + j) k x) (o_wI μM 1 i y) := by
  refine Inv_val h (fun q hq => p_wI_o (by omega)) rfl (fun q hq => p_wI_o hq) rfl (fun q hq => u_ne (by omega)) ?_ ?_ ?_ ?_ ?_
  · rw [bV_w]; exact cs
  · rw [bV_w]; exact ch
  · rw [bV_w]; exact cp
  · rw [bV_w]; exact hw
  · rw [bV_w]; exact hr
theorem pu_learn (h : Inv μC μM) (x y : Int32) : o_Eq2 (fX11_learn rfC 0 x y μC) (fX12_learn rfM 0 x y μM) Inv := by
  obtain ⟨hw, hr⟩ := Inv_v h
  have b := hw.1.2.2.1.2
  unfold fX11_learn fX12_learn fX11_learn_j22 fX12_learn_j16
  simp only [rc0_4, rc10_11, rm_0, e8_isPerson rfC hw.1, e12_isPerson hw.1 hr, e8_isHand rfC hw.1, e12_isHand hw.1 hr, p_bd, bI_if, ends_1, is_1]
  by_cases hx : rg x (cP (bV μC 10))
  · rw [if_pos hx, if_pos hx]
    by_cases hy : rg y (cH (bV μC 10))
    · rw [if_pos hy, if_pos hy]
      obtain ⟨k, hk, hk2, rfl⟩ := rg_nI hx
      simp (disch := omega) only [aL_25, nI_toInt, nI_clamp, p_ck, p_seq, ends_0, is_0, p_bd]
      exact ⟨1, _, _, rfl, rfl, Inv_st 0 (Inv_1 (j := 3) h (by omega) (by omega) (by omega) rfl rfl rfl (wf_hand hw hy) (vR_hand hw.1 hr hk))⟩
    · rw [if_neg hy, if_neg hy]; exact eq2_st h _ _ rfl rfl
  · rw [if_neg hx, if_neg hx]; exact eq2_st h _ _ rfl rfl
theorem pu_pub (h : Inv μC μM) (x : Int32) : o_Eq2 (fX11_pub rfC 0 x μC) (fX12_pub rfM 0 x μM) Inv := by
  obtain ⟨hw, hr⟩ := Inv_v h
  unfold fX11_pub fX12_pub
  simp only [rc0_4, rm_0, e11_within, e12_isFrom, p_bd, bI_if, i64_of, c64_0, c64_16, ends_1, is_1]
  by_cases hx : 0 ≤ x.toInt ∧ x.toInt ≤ 16
  · rw [if_pos hx, if_pos hx, p_seq, p_seq, ends_0, is_0, p_bd, p_bd]
    exact ⟨1, _, _, rfl, rfl, Inv_st 0 (Inv_1 (j := 0) (k := 4) (i := 6) h (by omega) (by omega) (by omega) rfl rfl rfl (wf_odds hw hx) (vR_odds hw.1 hr))⟩
  · rw [if_neg hx, if_neg hx]; exact eq2_st h _ _ rfl rfl
theorem pu_drink (h : Inv μC μM) {x : Int32} (hx : x = 0 ∨ x = 1) : o_Eq2 (fX11_drink rfC 0 x μC) (fX12_drink rfM 0 x μM) Inv := by
  obtain ⟨hw, hr⟩ := Inv_v h
  have hd : μC.1 10 6 = 0 ∨ μC.1 10 6 = 1 := hw.2.2.2.1
  have e : μM.1 1 8 = μC.1 10 6 := hr.1.2.2.2.2.2.2.2.2.1
  have key : ∀ y : Int32, y = 0 ∨ y = 1 → Inv (o_wI (o_wI μC 10 6 y) 0 0 0) (o_wI (o_wI μM 1 8 y) 0 2 0) := fun y hy => Inv_st 0 (Inv_1 (j := 0) (k := 6) (i := 8) h (by omega) (by omega) (by omega) rfl rfl rfl (wf_drunk hw hy) (vR_drunk hw.1 hr))
  unfold fX11_drink fX12_drink fX12_drink_j16 fX12_drink_j42
  rw [rc0_4, rm_0, e, ends_7, is_7, p_bd, p_bd]
  rcases hd with hd | hd <;> rcases hx with rfl | rfl <;> rw [hd]
  · exact eq2_st h 0 7 rfl rfl
  · exact ⟨1, _, _, rfl, rfl, key 1 (Or.inr rfl)⟩
  · exact ⟨1, _, _, rfl, rfl, key 0 (Or.inl rfl)⟩
  · exact eq2_st h 0 7 rfl rfl
theorem Inv_acts (h : Inv μC μM) {p s : Nat} {x y : Int32} (hp : p < cP (bV μC 10)) (hs : s < cS (bV μC 10)) (hx : inR x (cP (bV μC 10))) (hy : wOk y) : Inv (o_wI (o_wI μC 15 (6 * p + s) x) 16 (6 * p + s) y) (o_wI (o_wI μM 1 (79 + 2 * (6 * p + s)) x) 1 (79 + 2 * (6 * p + s) + 1) y) := by
  obtain ⟨hw, hr⟩ := Inv_v h
  have b1 := hw.1.1.2
  have b2 := hw.1.2.2.1.2
  have eb : bV (o_wI (o_wI μC 15 (6 * p + s) x) 16 (6 * p + s) y) 10 = updG (updG (bV μC 10) 5 (6 * p + s) x) 6 (6 * p + s) y := by
    rw [show o_wI (o_wI μC 15 (6 * p + s) x) 16 (6 * p + s) y = o_wI (o_wI μC (10 + 5) (6 * p + s) x) (10 + 6) (6 * p + s) y from rfl, bV_w, bV_w]
  refine Inv_val h (fun q hq => (p_wI_o (by omega)).trans (p_wI_o (by omega))) rfl (fun q hq => (p_wI_o hq).trans (p_wI_o hq)) rfl (fun q hq => (u_ne (by omega)).trans (u_ne (by omega))) ?_ ?_ ?_ ?_ ?_
  · rw [eb]; rfl
  · rw [eb]; rfl
  · rw [eb]; rfl
  · rw [eb]; exact wf_acts hw (Or.inr ⟨hx, hy⟩)
  · rw [eb]; exact vR_acts hw.1 hr hp hs
theorem Inv_forget (h : Inv μC μM) {p s : Nat} (hp : p < cP (bV μC 10)) (hs : s < cS (bV μC 10)) : Inv (o_wI (o_wI μC 15 (6 * p + s) (-1)) 16 (6 * p + s) (-1)) (o_wI μM 1 (79 + 2 * (6 * p + s)) (-1)) := by
  obtain ⟨hw, hr⟩ := Inv_v h
  have b1 := hw.1.1.2
  have b2 := hw.1.2.2.1.2
  have eb : bV (o_wI (o_wI μC 15 (6 * p + s) (-1)) 16 (6 * p + s) (-1)) 10 = updG (updG (bV μC 10) 5 (6 * p + s) (-1)) 6 (6 * p + s) (-1) := by
    rw [show o_wI (o_wI μC 15 (6 * p + s) (-1)) 16 (6 * p + s) (-1) = o_wI (o_wI μC (10 + 5) (6 * p + s) (-1)) (10 + 6) (6 * p + s) (-1) from rfl, bV_w, bV_w]
  refine Inv_val h (fun q hq => (p_wI_o (by omega)).trans (p_wI_o (by omega))) rfl (fun q hq => p_wI_o hq) rfl (fun q hq => u_ne (by omega)) ?_ ?_ ?_ ?_ ?_
  · rw [eb]; rfl
  · rw [eb]; rfl
  · rw [eb]; rfl
  · rw [eb]; exact wf_acts hw (Or.inl ⟨rfl, rfl⟩)
  · rw [eb]; exact vR_forget hw.1 hr hp hs
theorem e8_setActs {k j : Nat} (hk : k < 6) (hj : j < 6) (x y : Int32) (μ : o_Mem) : fX8_setActs rfC 10 (nI k) (nI j) x y μ = some ((), o_wI (o_wI μ 15 (6 * k + j) x) 16 (6 * k + j) y) := by
  unfold fX8_setActs
  simp (disch := omega) only [rc10_13, rc10_14, mR_6, nI_add', nI_toInt, nI_clamp, p_ck, p_seq]
  rw [show k * 6 + j = 6 * k + j by omega]
theorem pu_teach (h : Inv μC μM) (x y z w : Int32) : o_Eq2 (fX11_teach rfC 0 x y z w μC) (fX12_teach rfM 0 x y z w μM) Inv := by
  obtain ⟨hw, hr⟩ := Inv_v h
  have b1 := hw.1.1.2
  have b2 := hw.1.2.2.1.2
  unfold fX11_teach fX12_teach fX11_teach_j41 fX12_teach_j27 fX12_actRow
  simp only [rc0_4, rm_0, e8_isCouple rfC hw.1, e8_isPerson rfC hw.1, e11_within, e12_areTwo hw.1 hr, e12_isStrike hw.1 hr, e12_isWeight, p_bd, bI_if, i64_of, c64_1, c64_99, ends_1, is_1]
  by_cases hx : rg x (cP (bV μC 10))
  · by_cases hz : rg z (cP (bV μC 10))
    · by_cases hxz : z = x
      · rw [if_neg (show ¬ (rg x (cP (bV μC 10)) ∧ rg z (cP (bV μC 10)) ∧ ¬ x = z) from fun q => q.2.2 hxz.symm)]
        by_cases hy : rg y (cS (bV μC 10))
        · rw [if_pos (show rg x (cP (bV μC 10)) ∧ rg y (cS (bV μC 10)) from ⟨hx, hy⟩), if_pos hz, if_pos hxz]; exact eq2_st h _ _ rfl rfl
        · rw [if_neg (show ¬ (rg x (cP (bV μC 10)) ∧ rg y (cS (bV μC 10))) from fun q => hy q.2)]; exact eq2_st h _ _ rfl rfl
      · rw [if_pos (show rg x (cP (bV μC 10)) ∧ rg z (cP (bV μC 10)) ∧ ¬ x = z from ⟨hx, hz, fun q => hxz q.symm⟩)]
        by_cases hy : rg y (cS (bV μC 10))
        · rw [if_pos (show rg x (cP (bV μC 10)) ∧ rg y (cS (bV μC 10)) from ⟨hx, hy⟩), if_pos hz, if_neg hxz, if_pos hy]
          by_cases hq : 1 ≤ w.toInt ∧ w.toInt ≤ 99
          · rw [if_pos hq, if_pos hq]
            obtain ⟨k, hk, hk2, rfl⟩ := rg_nI hx
            obtain ⟨j, hj, hj2, rfl⟩ := rg_nI hy
            rw [e8_setActs (by omega) (by omega), p_bd, ends_0, p_bd]
            simp (disch := omega) only [mL_6, mL_2, aL_79, aR_1, nI_add', nI_toInt, nI_clamp, p_ck, p_seq, is_0, p_bd]
            exact ⟨1, _, _, rfl, rfl, Inv_st 0 (Inv_acts h hk hj hz hq)⟩
          · rw [if_neg hq, if_neg hq]; exact eq2_st h _ _ rfl rfl
        · rw [if_neg (show ¬ (rg x (cP (bV μC 10)) ∧ rg y (cS (bV μC 10))) from fun q => hy q.2), if_neg hy]; exact eq2_st h _ _ rfl rfl
    · rw [if_neg (show ¬ (rg x (cP (bV μC 10)) ∧ rg z (cP (bV μC 10)) ∧ ¬ x = z) from fun q => hz q.2.1)]
      by_cases hy : rg y (cS (bV μC 10))
      · rw [if_pos (show rg x (cP (bV μC 10)) ∧ rg y (cS (bV μC 10)) from ⟨hx, hy⟩), if_neg hz]; exact eq2_st h _ _ rfl rfl
      · rw [if_neg (show ¬ (rg x (cP (bV μC 10)) ∧ rg y (cS (bV μC 10))) from fun q => hy q.2)]; exact eq2_st h _ _ rfl rfl
  · rw [if_neg (show ¬ (rg x (cP (bV μC 10)) ∧ rg y (cS (bV μC 10))) from fun q => hx q.1), if_neg (show ¬ (rg x (cP (bV μC 10)) ∧ rg z (cP (bV μC 10)) ∧ ¬ x = z) from fun q => hx q.1)]; exact eq2_st h _ _ rfl rfl
theorem pu_forget (h : Inv μC μM) (x y : Int32) : o_Eq2 (fX11_forget rfC 0 x y μC) (fX12_forget rfM 0 x y μM) Inv := by
  obtain ⟨hw, hr⟩ := Inv_v h
  have b1 := hw.1.1.2
  have b2 := hw.1.2.2.1.2
  unfold fX11_forget fX12_forget fX12_forget_j17 fX12_actRow
  simp only [rc0_4, rc10_13, rm_0, e8_isCouple rfC hw.1, e12_isPerson hw.1 hr, e12_isStrike hw.1 hr, p_bd, bI_if, ends_1, is_1, ends_7, is_7]
  by_cases hx : rg x (cP (bV μC 10))
  · by_cases hy : rg y (cS (bV μC 10))
    · rw [if_pos (show rg x (cP (bV μC 10)) ∧ rg y (cS (bV μC 10)) from ⟨hx, hy⟩), if_pos hx, if_pos hy]
      obtain ⟨k, hk, hk2, rfl⟩ := rg_nI hx
      obtain ⟨j, hj, hj2, rfl⟩ := rg_nI hy
      have hv := (hr.2.2.2.2.1 k j hk hj).1
      simp (disch := omega) only [mR_6, mL_6, mL_2, aL_79, nI_add', nI_toInt, nI_clamp, p_ck, p_seq, is_0, p_bd]
      rw [hv, show k * 6 + j = 6 * k + j by omega, show μC.1 15 (6 * k + j) = bV μC 10 5 (6 * k + j) from rfl, e8_setActs (by omega) (by omega), p_bd, ends_0, p_bd]
      by_cases hn : bV μC 10 5 (6 * k + j) = -1
      · rw [if_pos hn, if_pos hn]; exact eq2_st h _ _ rfl rfl
      · rw [if_neg hn, if_neg hn]; exact ⟨1, _, _, rfl, rfl, Inv_st 0 (Inv_forget h hk hj)⟩
    · rw [if_neg (show ¬ (rg x (cP (bV μC 10)) ∧ rg y (cS (bV μC 10))) from fun q => hy q.2), if_pos hx, if_neg hy]; exact eq2_st h _ _ rfl rfl
  · rw [if_neg (show ¬ (rg x (cP (bV μC 10)) ∧ rg y (cS (bV μC 10))) from fun q => hx q.1), if_neg hx]; exact eq2_st h _ _ rfl rfl
theorem pu_wrapped (h : Inv μC μM) (x y : Int32) : o_Eq2 (fX11_wrapped rfC 0 x y μC) (fX12_wrapped rfM 0 x y μM) Inv := by
  obtain ⟨hw, hr⟩ := Inv_v h
  have b := hw.1.2.2.2.2.1.2
  have e : μC.1 17 0 = nI (cW (bV μC 10)) := hw.1.2.2.2.2.1.1
  unfold fX11_wrapped fX12_wrapped fX11_wrapped_j34 fX12_wrapped_j20 fX12_letterRow
  simp only [rc0_4, rc10_15, rc17_3, rm_0, e11_within, e12_isFrom, e12_isLetter hw.1 hr, p_bd, bI_if, e11_refuses, e12_refuse, i64_of, c64_0, c64_1, show (98 : Int64).toInt = 98 by decide, e, nI_sub1 (show cW (bV μC 10) < 2 ^ 30 by omega)]
  by_cases hx : rg x (cW (bV μC 10))
  · rw [if_pos (show 0 ≤ x.toInt ∧ x.toInt ≤ (cW (bV μC 10) : Int) - 1 by omega), if_pos hx]
    by_cases hy : 1 ≤ y.toInt ∧ y.toInt ≤ 98
    · rw [if_pos hy, if_pos hy]
      obtain ⟨k, hk, hk2, rfl⟩ := rg_nI hx
      obtain ⟨j, hj, hj2, rfl⟩ := rg_nI (x := y) (n := 99) (by omega)
      have hv := hr.2.2.2.2.2.1 k 2 hk (by omega)
      have hk9 := (hw.2.2.2.2.2.2.2.2.1 k hk).2.2.1
      obtain ⟨i, hi, hi2, ei⟩ := rg_nI (x := μC.1 20 k) (n := 100) (by have h1 : 1 ≤ (μC.1 20 k).toInt := hk9.1; have h2 : (μC.1 20 k).toInt ≤ 99 := hk9.2; omega)
      have hv' : μM.1 1 (151 + 4 * k + 2) = nI i := hv.trans ei
      simp (disch := omega) only [mL_4, aL_151, aR_2, nI_toInt, nI_clamp, p_ck, p_seq, p_bd, ei, hv', nI_add']
      have h1 : 1 ≤ (nI i).toInt := by rw [← ei]; exact hk9.1
      rw [nI_toInt (by omega)] at h1
      have hj1 := hy.1
      rw [nI_toInt (by omega)] at hj1
      by_cases hs : i + j ≤ 99
      · rw [if_pos (show nI (i + j) ≤ 99 by rw [i32_le, nI_toInt (by omega), c32_99]; omega), if_pos (show nI (i + j) ≤ 99 by rw [i32_le, nI_toInt (by omega), c32_99]; omega), e11_gives, e12_gives, p_bd, p_bd, show (o_wI μM 1 (151 + 4 * k + 2) (nI (i + j))).1 1 (151 + 4 * k + 2) = nI (i + j) from u_s]
        exact ⟨nI (i + j), _, _, rfl, rfl, Inv_st 0 (Inv_1 (j := 10) h (by omega) (by omega) (by omega) rfl rfl rfl (wf_wrap hw ⟨by rw [nI_toInt (by omega)]; omega, by rw [nI_toInt (by omega)]; omega⟩) (vR_wrap hw.1 hr hk))⟩
      · rw [if_neg (show ¬ nI (i + j) ≤ 99 by rw [i32_le, nI_toInt (by omega), c32_99]; omega), if_neg (show ¬ nI (i + j) ≤ 99 by rw [i32_le, nI_toInt (by omega), c32_99]; omega)]
        exact eq2_st h _ _ rfl rfl
    · rw [if_neg hy, if_neg hy]; exact eq2_st h _ _ rfl rfl
  · rw [if_neg (show ¬ (0 ≤ x.toInt ∧ x.toInt ≤ (cW (bV μC 10) : Int) - 1) by omega), if_neg hx]; exact eq2_st h _ _ rfl rfl
end mu
