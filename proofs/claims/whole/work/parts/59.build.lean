/-! ===== the VALLEY that is being read, part by part ===== -/
def lwO (s h p : Nat) (f : Nat → Int32) : Prop := inR (f 0) s ∧ (f 1 = -1 ∨ wOk (f 1)) ∧ (f 2 = -1 ∨ inR (f 2) 100) ∧ (f 3 = -1 ∨ inR (f 3) h) ∧ (f 4 = -1 ∨ inR (f 4) p) ∧ (f 5 = -1 ∨ inR (f 5) p)
def nwX (s h p l w : Nat) (g : Nat → Nat → Int32) (a : Nat → Int32) (x y : Nat → Int64) : Prop :=
  (g 0 0 = nI s ∧ g 0 1 = nI h ∧ g 0 2 = nI p ∧ g 0 3 = nI l ∧ g 7 0 = nI w ∧ g 13 0 = 0 ∧ (s ≤ 6 ∧ h ≤ 4 ∧ p ≤ 6 ∧ l ≤ 8 ∧ w ≤ 12)) ∧
  ((0 ≤ (g 0 4).toInt ∧ (g 0 4).toInt ≤ 16) ∧ g 0 5 = 0 ∧ g 0 6 = 0 ∧ g 0 7 = 0 ∧ g 0 8 = 0) ∧
  (a 0 = nI s ∧ a 1 = nI h ∧ a 2 = nI p ∧ a 3 = nI l ∧ a 4 = nI w ∧ a 5 = 0 ∧ a 6 = g 0 4 ∧ a 7 = 0 ∧ a 8 = 0 ∧ a 9 = 0 ∧ a 10 = 0 ∧ a 11 = 0 ∧ a 12 = -1) ∧
  (∀ k, k < s → 0 ≤ (g 1 k).toInt ∧ (g 1 k).toInt ≤ 9 ∧ a (13 + 2 * k) = g 1 k) ∧
  (∀ k, k < 6 → g 2 k = 0 ∧ a (14 + 2 * k) = 0) ∧
  (∀ k, k < p → inR (g 3 k) h ∧ a (25 + k) = g 3 k) ∧
  (∀ k, k < l → lwO s h p (fun j => g 4 (6 * k + j)) ∧ ∀ j, j < 6 → a (31 + 6 * k + j) = g 4 (6 * k + j)) ∧
  (∀ k j, l ≤ k → k < 8 → j < 6 → a (31 + 6 * k + j) = -1) ∧
  (∀ c, c < 36 → (g 5 c = -1 ∧ g 6 c = -1 ∧ a (79 + 2 * c) = -1) ∨ (c / 6 < p ∧ c % 6 < s ∧ inR (g 5 c) p ∧ wOk (g 6 c) ∧ a (79 + 2 * c) = g 5 c ∧ a (80 + 2 * c) = g 6 c)) ∧
  (∀ k, k < w → (inR (g 8 k) p ∧ inR (g 9 k) p ∧ wOk (g 10 k) ∧ inR (g 11 k) h) ∧ ∀ j, j < 4 → a (151 + 4 * k + j) = g (8 + j) k) ∧
  ((∀ k, k < s → nmR (x k) (y k)) ∧ (∀ k, k < h → nmR (x (6 + k)) (y (6 + k))) ∧ (∀ k, k < p → nmR (x (12 + k)) (y (10 + k))))
theorem inR_le {x : Int32} {a b : Nat} (h : inR x a) (hab : a ≤ b) : inR x b := ⟨h.1, by have := h.2; omega⟩
theorem lwO_le {s h p s' h' p' : Nat} {f : Nat → Int32} (hf : lwO s h p f) (h1 : s ≤ s') (h2 : h ≤ h') (h3 : p ≤ p') : lwO s' h' p' f := ⟨inR_le hf.1 h1, hf.2.1, hf.2.2.1, hf.2.2.2.1.imp id (fun z => inR_le z h2), hf.2.2.2.2.1.imp id (fun z => inR_le z h3), hf.2.2.2.2.2.imp id (fun z => inR_le z h3)⟩
theorem lwO_c {s h p : Nat} {f f' : Nat → Int32} (hf : ∀ j, j < 6 → f' j = f j) (h1 : lwO s h p f) : lwO s h p f' := by
  unfold lwO at h1 ⊢
  rw [hf 0 (by omega), hf 1 (by omega), hf 2 (by omega), hf 3 (by omega), hf 4 (by omega), hf 5 (by omega)]
  exact h1
section nx
variable {s h p l w : Nat} {g g' : Nat → Nat → Int32} {a a' : Nat → Int32} {x x' y y' : Nat → Int64}
theorem wsum_0 (h2 : ∀ k, k < 6 → g 2 k = 0) : ∀ k, k ≤ 6 → wsum g k = 0
  | 0, _ => rfl
  | k + 1, hk => by
    unfold wsum
    rw [wsum_0 h2 k (by omega), h2 k (by omega), Int32.zero_mul]
    rfl
theorem ssum_0 (h2 : ∀ k, k < 6 → g 2 k = 0) : ∀ k, k ≤ 6 → ssum g k = 0
  | 0, _ => rfl
  | k + 1, hk => by
    unfold ssum
    rw [ssum_0 h2 k (by omega), h2 k (by omega)]
    rfl
theorem nx_cnt (hx : nwX s h p l w g a x y) : cS g = s ∧ cH g = h ∧ cP g = p ∧ cL g = l ∧ cW g = w ∧ cC g = 0 := by
  obtain ⟨⟨a1, a2, a3, a4, a5, a6, b⟩, -⟩ := hx
  unfold cS cH cP cL cW cC
  rw [a1, a2, a3, a4, a5, a6, nI_clamp (by omega), nI_clamp (by omega), nI_clamp (by omega), nI_clamp (by omega), nI_clamp (by omega)]
  exact ⟨rfl, rfl, rfl, rfl, rfl, rfl⟩
/-- what has been read is a VALLEY -/
theorem nx_ok (hx : nwX s h p l w g a x y) : wfV g ∧ vR g a ∧ nR g x y := by
  obtain ⟨e1, e2, e3, e4, e5, e6⟩ := nx_cnt hx
  obtain ⟨⟨a1, a2, a3, a4, a5, a6, b⟩, ⟨o1, o2, o3, o4, o5⟩, ⟨v0, v1, v2, v3, v4, v5, v6, v7, v8, v9, v10, v11, v12⟩, d1, d2, d3, d4, d5, d6, d7, d8⟩ := hx
  have h2 : ∀ k, k < 6 → g 2 k = 0 := fun k hk => (d2 k hk).1
  have hc : ∀ q r, q < p → r < s → 6 * q + r < 36 ∧ (6 * q + r) / 6 = q ∧ (6 * q + r) % 6 = r := fun q r _ _ => ⟨by omega, by omega, by omega⟩
  refine ⟨⟨?_, o1, by rw [o2]; decide, by rw [o3]; exact Or.inl rfl, ?_, ?_, ?_, ?_, ?_, ?_, ?_⟩, ⟨?_, ?_, ?_, ?_, ?_, ?_, ?_⟩, ?_⟩
  · unfold wfN
    rw [e1, e2, e3, e4, e5, e6]
    exact ⟨⟨a1, by omega⟩, ⟨a2, by omega⟩, ⟨a3, by omega⟩, ⟨a4, by omega⟩, ⟨a5, by omega⟩, a6, by omega⟩
  · intro k hk
    rw [e4] at hk
    have := (d4 k hk).1
    unfold lawOk
    rw [e1, e2, e3]
    exact this
  · intro k hk
    rw [e3] at hk
    rw [e2]
    exact (d3 k hk).1
  · intro q r hq hr
    rw [e3] at hq ⊢
    rw [e1] at hr
    rcases d6 (6 * q + r) (hc q r hq hr).1 with ⟨z, -⟩ | ⟨-, -, z1, z2, -⟩
    · exact Or.inl z
    · exact Or.inr ⟨z1, z2⟩
  · intro q r hq hr he
    rw [e3] at hq
    rw [e1] at hr
    rcases d6 (6 * q + r) (hc q r hq hr).1 with ⟨-, z, -⟩ | ⟨-, -, z1, -⟩
    · exact z
    · rw [he] at z1
      exact absurd z1.1 (by decide)
  · intro k hk
    rw [e5] at hk
    unfold letOk
    rw [e2, e3]
    exact (d7 k hk).1
  · intro k hk
    rw [e6] at hk
    omega
  · refine ⟨fun k hk => ?_, ?_⟩
    · rw [e1] at hk
      rw [h2 k (by omega)]
      exact ⟨by decide, (d1 k hk).1, (d1 k hk).2.1⟩
    · rw [e1, ssum_0 h2 s (by omega), o2]
      decide
  · rw [e1, wsum_0 h2 s (by omega)]
    exact ⟨v0.trans a1.symm, v1.trans a2.symm, v2.trans a3.symm, v3.trans a4.symm, v4.trans a5.symm, v5.trans a6.symm, v6, v7.trans o2.symm, v8.trans o3.symm, v9.trans o4.symm, v10.trans o5.symm, v11⟩
  · intro k hk
    rw [e1] at hk
    exact ⟨(d1 k hk).2.2, (d2 k (by omega)).2.trans (d2 k (by omega)).1.symm⟩
  · intro k hk
    rw [e3] at hk
    exact (d3 k hk).2
  · intro k j hk hj
    rw [e4] at hk
    exact (d4 k hk).2 j hj
  · intro q r hq hr
    rw [e3] at hq
    rw [e1] at hr
    rcases d6 (6 * q + r) (hc q r hq hr).1 with ⟨z1, z2, z3⟩ | ⟨-, -, -, -, z1, z2⟩
    · exact ⟨z3.trans z1.symm, fun z => absurd z1 z⟩
    · exact ⟨z1, fun _ => z2⟩
  · intro k j hk hj
    rw [e5] at hk
    exact (d7 k hk).2 j hj
  · intro k j hk
    rw [e6] at hk
    omega
  · unfold nR
    rw [e1, e2, e3]
    exact d8
/-- only what is looked at counts -/
theorem nx_c (hx : nwX s h p l w g a x y) (hg : ∀ j, j < 20 → g' j = g j) (ha : ∀ k, k < 626 → a' k = a k) (hx' : ∀ k, k < 18 → x' k = x k) (hy' : ∀ k, k < 16 → y' k = y k) : nwX s h p l w g' a' x' y' := by
  obtain ⟨⟨a1, a2, a3, a4, a5, a6, b⟩, o, v, d1, d2, d3, d4, d5, d6, d7, d8⟩ := hx
  unfold nwX
  rw [hg 0 (by omega), hg 1 (by omega), hg 2 (by omega), hg 3 (by omega), hg 4 (by omega), hg 5 (by omega), hg 6 (by omega), hg 7 (by omega), hg 8 (by omega), hg 9 (by omega), hg 10 (by omega), hg 11 (by omega), hg 13 (by omega), ha 0 (by omega), ha 1 (by omega), ha 2 (by omega), ha 3 (by omega), ha 4 (by omega), ha 5 (by omega), ha 6 (by omega), ha 7 (by omega), ha 8 (by omega), ha 9 (by omega), ha 10 (by omega), ha 11 (by omega), ha 12 (by omega)]
  refine ⟨⟨a1, a2, a3, a4, a5, a6, b⟩, o, v, fun k hk => ?_, fun k hk => ?_, fun k hk => ?_, fun k hk => ?_, fun k j h1 h2 h3 => ?_, fun c hc => ?_, fun k hk => ?_, fun k hk => ?_, fun k hk => ?_, fun k hk => ?_⟩
  · rw [ha _ (by omega)]; exact d1 k hk
  · rw [ha _ (by omega)]; exact d2 k hk
  · rw [ha _ (by omega)]; exact d3 k hk
  · exact ⟨(d4 k hk).1, fun j hj => by rw [ha _ (by omega)]; exact (d4 k hk).2 j hj⟩
  · rw [ha _ (by omega)]; exact d5 k j h1 h2 h3
  · rw [ha _ (by omega), ha _ (by omega)]; exact d6 c hc
  · exact ⟨(d7 k hk).1, fun j hj => by rw [ha _ (by omega), hg _ (by omega)]; exact (d7 k hk).2 j hj⟩
  · rw [hx' _ (by omega), hy' _ (by omega)]; exact d8.1 k hk
  · rw [hx' _ (by omega), hy' _ (by omega)]; exact d8.2.1 k hk
  · rw [hx' _ (by omega), hy' _ (by omega)]; exact d8.2.2 k hk
theorem nx_strike (hx : nwX s h p l w g a x y) (hs : s < 6) {v : Nat} (hv : v ≤ 9) (q0 : g' 0 0 = nI (s + 1)) (q1 : g' 1 s = nI v) (qo : ∀ j k, j < 20 → ¬ (j = 0 ∧ k = 0) → ¬ (j = 1 ∧ k = s) → g' j k = g j k) (b0 : a' 0 = nI (s + 1)) (b1 : a' (13 + 2 * s) = nI v) (bo : ∀ k, k ≠ 0 → k ≠ 13 + 2 * s → a' k = a k) {cs : List Nat} (c1 : 1 ≤ cs.length) (c2 : cs.length ≤ 8) (c3 : sml cs) (n0 : x' s = lN (e32 cs)) (n1 : y' s = lN (e256 cs)) (no : ∀ k, k ≠ s → x' k = x k) (nq : ∀ k, k ≠ s → y' k = y k) : nwX (s + 1) h p l w g' a' x' y' := by
  obtain ⟨⟨a1, a2, a3, a4, a5, a6, b⟩, ⟨o1, o2, o3, o4, o5⟩, ⟨v0, v1, v2, v3, v4, v5, v6, v7, v8, v9, v10, v11, v12⟩, d1, d2, d3, d4, d5, d6, d7, d8⟩ := hx
  have g0 : ∀ k, k ≠ 0 → g' 0 k = g 0 k := fun k hk => qo 0 k (by omega) (fun z => hk z.2) (fun z => absurd z.1 (by omega))
  have gj : ∀ j, 2 ≤ j ∧ j < 20 → g' j = g j := fun j hj => by funext k; exact qo j k (by omega) (by omega) (by omega)
  unfold nwX
  rw [q0, g0 1 (by omega), g0 2 (by omega), g0 3 (by omega), g0 4 (by omega), g0 5 (by omega), g0 6 (by omega), g0 7 (by omega), g0 8 (by omega), gj 2 (by omega), gj 3 (by omega), gj 4 (by omega), gj 5 (by omega), gj 6 (by omega), gj 7 (by omega), gj 8 (by omega), gj 9 (by omega), gj 10 (by omega), gj 11 (by omega), gj 13 (by omega), b0, bo 1 (by omega) (by omega), bo 2 (by omega) (by omega), bo 3 (by omega) (by omega), bo 4 (by omega) (by omega), bo 5 (by omega) (by omega), bo 6 (by omega) (by omega), bo 7 (by omega) (by omega), bo 8 (by omega) (by omega), bo 9 (by omega) (by omega), bo 10 (by omega) (by omega), bo 11 (by omega) (by omega), bo 12 (by omega) (by omega)]
  refine ⟨⟨rfl, a2, a3, a4, a5, a6, by omega⟩, ⟨o1, o2, o3, o4, o5⟩, ⟨rfl, v1, v2, v3, v4, v5, v6, v7, v8, v9, v10, v11, v12⟩, fun k hk => ?_, fun k hk => ?_, fun k hk => ?_, fun k hk => ?_, fun k j h1 h2 h3 => ?_, fun c hc => ?_, fun k hk => ?_, fun k hk => ?_, fun k hk => ?_, fun k hk => ?_⟩
  · by_cases e : k = s
    · rw [e, q1, b1, nI_toInt (by omega)]
      exact ⟨by omega, by omega, rfl⟩
    · rw [qo 1 k (by omega) (by omega) (fun z => e z.2), bo _ (by omega) (by omega)]
      exact d1 k (by omega)
  · rw [bo _ (by omega) (by omega)]; exact d2 k hk
  · rw [bo _ (by omega) (by omega)]; exact d3 k hk
  · exact ⟨lwO_le (d4 k hk).1 (by omega) (by omega) (by omega), fun j hj => by rw [bo _ (by omega) (by omega)]; exact (d4 k hk).2 j hj⟩
  · rw [bo _ (by omega) (by omega)]; exact d5 k j h1 h2 h3
  · rw [bo _ (by omega) (by omega), bo _ (by omega) (by omega)]
    rcases d6 c hc with z | ⟨z1, z2, z3⟩
    · exact Or.inl z
    · exact Or.inr ⟨z1, by omega, z3⟩
  · exact ⟨(d7 k hk).1, fun j hj => by rw [bo _ (by omega) (by omega), gj _ (by omega)]; exact (d7 k hk).2 j hj⟩
  · by_cases e : k = s
    · rw [e, n0, n1]
      exact ⟨cs, c1, c2, c3, rfl, rfl⟩
    · rw [no k e, nq k e]; exact d8.1 k (by omega)
  · rw [no _ (by omega), nq _ (by omega)]; exact d8.2.1 k hk
  · rw [no _ (by omega), nq _ (by omega)]; exact d8.2.2 k hk
theorem nx_hand (hx : nwX s h p l w g a x y) (hs : h < 4) (q0 : g' 0 1 = nI (h + 1)) (qo : ∀ j k, j < 20 → ¬ (j = 0 ∧ k = 1) → g' j k = g j k) (b0 : a' 1 = nI (h + 1)) (bo : ∀ k, k ≠ 1 → a' k = a k) {cs : List Nat} (c1 : 1 ≤ cs.length) (c2 : cs.length ≤ 8) (c3 : sml cs) (n0 : x' (6 + h) = lN (e32 cs)) (n1 : y' (6 + h) = lN (e256 cs)) (no : ∀ k, k ≠ 6 + h → x' k = x k) (nq : ∀ k, k ≠ 6 + h → y' k = y k) : nwX s (h + 1) p l w g' a' x' y' := by
  obtain ⟨⟨a1, a2, a3, a4, a5, a6, b⟩, ⟨o1, o2, o3, o4, o5⟩, ⟨v0, v1, v2, v3, v4, v5, v6, v7, v8, v9, v10, v11, v12⟩, d1, d2, d3, d4, d5, d6, d7, d8⟩ := hx
  have g0 : ∀ k, k ≠ 1 → g' 0 k = g 0 k := fun k hk => qo 0 k (by omega) (fun z => hk z.2)
  have gj : ∀ j, 1 ≤ j ∧ j < 20 → g' j = g j := fun j hj => by funext k; exact qo j k (by omega) (by omega)
  have bo' : ∀ k, 2 ≤ k → a' k = a k := fun k hk => bo k (by omega)
  unfold nwX
  rw [q0, g0 0 (by omega), g0 2 (by omega), g0 3 (by omega), g0 4 (by omega), g0 5 (by omega), g0 6 (by omega), g0 7 (by omega), g0 8 (by omega), gj 1 (by omega), gj 2 (by omega), gj 3 (by omega), gj 4 (by omega), gj 5 (by omega), gj 6 (by omega), gj 7 (by omega), gj 8 (by omega), gj 9 (by omega), gj 10 (by omega), gj 11 (by omega), gj 13 (by omega), b0, bo 0 (by omega), bo 2 (by omega), bo 3 (by omega), bo 4 (by omega), bo 5 (by omega), bo 6 (by omega), bo 7 (by omega), bo 8 (by omega), bo 9 (by omega), bo 10 (by omega), bo 11 (by omega), bo 12 (by omega)]
  refine ⟨⟨a1, rfl, a3, a4, a5, a6, by omega⟩, ⟨o1, o2, o3, o4, o5⟩, ⟨v0, rfl, v2, v3, v4, v5, v6, v7, v8, v9, v10, v11, v12⟩, fun k hk => ?_, fun k hk => ?_, fun k hk => ?_, fun k hk => ?_, fun k j h1 h2 h3 => ?_, fun c hc => ?_, fun k hk => ?_, fun k hk => ?_, fun k hk => ?_, fun k hk => ?_⟩
  · rw [bo' _ (by omega)]; exact d1 k hk
  · rw [bo' _ (by omega)]; exact d2 k hk
  · rw [bo' _ (by omega)]; exact ⟨inR_le (d3 k hk).1 (by omega), (d3 k hk).2⟩
  · exact ⟨lwO_le (d4 k hk).1 (by omega) (by omega) (by omega), fun j hj => by rw [bo' _ (by omega)]; exact (d4 k hk).2 j hj⟩
  · rw [bo' _ (by omega)]; exact d5 k j h1 h2 h3
  · rw [bo' _ (by omega), bo' _ (by omega)]; exact d6 c hc
  · exact ⟨⟨(d7 k hk).1.1, (d7 k hk).1.2.1, (d7 k hk).1.2.2.1, inR_le (d7 k hk).1.2.2.2 (by omega)⟩, fun j hj => by rw [bo' _ (by omega), gj _ (by omega)]; exact (d7 k hk).2 j hj⟩
  · rw [no _ (by omega), nq _ (by omega)]; exact d8.1 k hk
  · by_cases e : k = h
    · rw [e, n0, n1]
      exact ⟨cs, c1, c2, c3, rfl, rfl⟩
    · rw [no _ (by omega), nq _ (by omega)]; exact d8.2.1 k (by omega)
  · rw [no _ (by omega), nq _ (by omega)]; exact d8.2.2 k hk
theorem nx_person (hx : nwX s h p l w g a x y) (hs : p < 6) {v : Nat} (hv : v < h) (q0 : g' 0 2 = nI (p + 1)) (q1 : g' 3 p = nI v) (qo : ∀ j k, j < 20 → ¬ (j = 0 ∧ k = 2) → ¬ (j = 3 ∧ k = p) → g' j k = g j k) (b0 : a' 2 = nI (p + 1)) (b1 : a' (25 + p) = nI v) (bo : ∀ k, k ≠ 2 → k ≠ 25 + p → a' k = a k) {cs : List Nat} (c1 : 1 ≤ cs.length) (c2 : cs.length ≤ 8) (c3 : sml cs) (n0 : x' (12 + p) = lN (e32 cs)) (n1 : y' (10 + p) = lN (e256 cs)) (no : ∀ k, k ≠ 12 + p → x' k = x k) (nq : ∀ k, k ≠ 10 + p → y' k = y k) : nwX s h (p + 1) l w g' a' x' y' := by
  obtain ⟨⟨a1, a2, a3, a4, a5, a6, b⟩, ⟨o1, o2, o3, o4, o5⟩, ⟨v0, v1, v2, v3, v4, v5, v6, v7, v8, v9, v10, v11, v12⟩, d1, d2, d3, d4, d5, d6, d7, d8⟩ := hx
  have g0 : ∀ k, k ≠ 2 → g' 0 k = g 0 k := fun k hk => qo 0 k (by omega) (fun z => hk z.2) (fun z => absurd z.1 (by omega))
  have gj : ∀ j, 1 ≤ j ∧ j < 20 → j ≠ 3 → g' j = g j := fun j hj h3 => by funext k; exact qo j k (by omega) (by omega) (by omega)
  unfold nwX
  rw [q0, g0 0 (by omega), g0 1 (by omega), g0 3 (by omega), g0 4 (by omega), g0 5 (by omega), g0 6 (by omega), g0 7 (by omega), g0 8 (by omega), gj 1 (by omega) (by omega), gj 2 (by omega) (by omega), gj 4 (by omega) (by omega), gj 5 (by omega) (by omega), gj 6 (by omega) (by omega), gj 7 (by omega) (by omega), gj 8 (by omega) (by omega), gj 9 (by omega) (by omega), gj 10 (by omega) (by omega), gj 11 (by omega) (by omega), gj 13 (by omega) (by omega), b0, bo 0 (by omega) (by omega), bo 1 (by omega) (by omega), bo 3 (by omega) (by omega), bo 4 (by omega) (by omega), bo 5 (by omega) (by omega), bo 6 (by omega) (by omega), bo 7 (by omega) (by omega), bo 8 (by omega) (by omega), bo 9 (by omega) (by omega), bo 10 (by omega) (by omega), bo 11 (by omega) (by omega), bo 12 (by omega) (by omega)]
  refine ⟨⟨a1, a2, rfl, a4, a5, a6, by omega⟩, ⟨o1, o2, o3, o4, o5⟩, ⟨v0, v1, rfl, v3, v4, v5, v6, v7, v8, v9, v10, v11, v12⟩, fun k hk => ?_, fun k hk => ?_, fun k hk => ?_, fun k hk => ?_, fun k j h1 h2 h3 => ?_, fun c hc => ?_, fun k hk => ?_, fun k hk => ?_, fun k hk => ?_, fun k hk => ?_⟩
  · rw [bo _ (by omega) (by omega)]; exact d1 k hk
  · rw [bo _ (by omega) (by omega)]; exact d2 k hk
  · by_cases e : k = p
    · rw [e, q1, b1]
      exact ⟨⟨by rw [nI_toInt (by omega)]; omega, by rw [nI_toInt (by omega)]; omega⟩, rfl⟩
    · rw [qo 3 k (by omega) (by omega) (fun z => e z.2), bo _ (by omega) (by omega)]
      exact d3 k (by omega)
  · exact ⟨lwO_le (d4 k hk).1 (by omega) (by omega) (by omega), fun j hj => by rw [bo _ (by omega) (by omega)]; exact (d4 k hk).2 j hj⟩
  · rw [bo _ (by omega) (by omega)]; exact d5 k j h1 h2 h3
  · rw [bo _ (by omega) (by omega), bo _ (by omega) (by omega)]
    rcases d6 c hc with z | ⟨z1, z2, z3, z4⟩
    · exact Or.inl z
    · exact Or.inr ⟨by omega, z2, inR_le z3 (by omega), z4⟩
  · exact ⟨⟨inR_le (d7 k hk).1.1 (by omega), inR_le (d7 k hk).1.2.1 (by omega), (d7 k hk).1.2.2⟩, fun j hj => by rw [bo _ (by omega) (by omega), gj _ (by omega) (by omega)]; exact (d7 k hk).2 j hj⟩
  · rw [no _ (by omega), nq _ (by omega)]; exact d8.1 k hk
  · rw [no _ (by omega), nq _ (by omega)]; exact d8.2.1 k hk
  · by_cases e : k = p
    · rw [e, n0, n1]
      exact ⟨cs, c1, c2, c3, rfl, rfl⟩
    · rw [no _ (by omega), nq _ (by omega)]; exact d8.2.2 k (by omega)
theorem nx_law (hx : nwX s h p l w g a x y) (hs : l < 8) (hf : lwO s h p (fun j => g' 4 (6 * l + j))) (q0 : g' 0 3 = nI (l + 1)) (qo : ∀ j k, j < 20 → ¬ (j = 0 ∧ k = 3) → ¬ (j = 4 ∧ 6 * l ≤ k ∧ k < 6 * l + 6) → g' j k = g j k) (b0 : a' 3 = nI (l + 1)) (b1 : ∀ j, j < 6 → a' (31 + 6 * l + j) = g' 4 (6 * l + j)) (bo : ∀ k, k ≠ 3 → ¬ (31 + 6 * l ≤ k ∧ k < 37 + 6 * l) → a' k = a k) : nwX s h p (l + 1) w g' a' x y := by
  obtain ⟨⟨a1, a2, a3, a4, a5, a6, b⟩, ⟨o1, o2, o3, o4, o5⟩, ⟨v0, v1, v2, v3, v4, v5, v6, v7, v8, v9, v10, v11, v12⟩, d1, d2, d3, d4, d5, d6, d7, d8⟩ := hx
  have g0 : ∀ k, k ≠ 3 → g' 0 k = g 0 k := fun k hk => qo 0 k (by omega) (fun z => hk z.2) (fun z => absurd z.1 (by omega))
  have gj : ∀ j, 1 ≤ j ∧ j < 20 → j ≠ 4 → g' j = g j := fun j hj h3 => by funext k; exact qo j k (by omega) (by omega) (by omega)
  unfold nwX
  rw [q0, g0 0 (by omega), g0 1 (by omega), g0 2 (by omega), g0 4 (by omega), g0 5 (by omega), g0 6 (by omega), g0 7 (by omega), g0 8 (by omega), gj 1 (by omega) (by omega), gj 2 (by omega) (by omega), gj 3 (by omega) (by omega), gj 5 (by omega) (by omega), gj 6 (by omega) (by omega), gj 7 (by omega) (by omega), gj 8 (by omega) (by omega), gj 9 (by omega) (by omega), gj 10 (by omega) (by omega), gj 11 (by omega) (by omega), gj 13 (by omega) (by omega), b0, bo 0 (by omega) (by omega), bo 1 (by omega) (by omega), bo 2 (by omega) (by omega), bo 4 (by omega) (by omega), bo 5 (by omega) (by omega), bo 6 (by omega) (by omega), bo 7 (by omega) (by omega), bo 8 (by omega) (by omega), bo 9 (by omega) (by omega), bo 10 (by omega) (by omega), bo 11 (by omega) (by omega), bo 12 (by omega) (by omega)]
  refine ⟨⟨a1, a2, a3, rfl, a5, a6, by omega⟩, ⟨o1, o2, o3, o4, o5⟩, ⟨v0, v1, v2, rfl, v4, v5, v6, v7, v8, v9, v10, v11, v12⟩, fun k hk => ?_, fun k hk => ?_, fun k hk => ?_, fun k hk => ?_, fun k j h1 h2 h3 => ?_, fun c hc => ?_, fun k hk => ?_, d8⟩
  · rw [bo _ (by omega) (by omega)]; exact d1 k hk
  · rw [bo _ (by omega) (by omega)]; exact d2 k hk
  · rw [bo _ (by omega) (by omega)]; exact d3 k hk
  · by_cases e : k = l
    · rw [e]; exact ⟨hf, b1⟩
    · have e4 : ∀ j, j < 6 → g' 4 (6 * k + j) = g 4 (6 * k + j) := fun j hj => qo 4 _ (by omega) (by omega) (by omega)
      have := d4 k (by omega)
      refine ⟨?_, fun j hj => by rw [bo _ (by omega) (by omega), e4 j hj]; exact this.2 j hj⟩
      exact lwO_c e4 this.1
  · rw [bo _ (by omega) (by omega)]; exact d5 k j (by omega) h2 h3
  · rw [bo _ (by omega) (by omega), bo _ (by omega) (by omega)]; exact d6 c hc
  · exact ⟨(d7 k hk).1, fun j hj => by rw [bo _ (by omega) (by omega), gj _ (by omega) (by omega)]; exact (d7 k hk).2 j hj⟩
theorem nx_act (hx : nwX s h p l w g a x y) {c : Nat} (hc : c / 6 < p ∧ c % 6 < s) (hf : inR (g' 5 c) p ∧ wOk (g' 6 c)) (qo : ∀ j k, j < 20 → ¬ (j = 5 ∧ k = c) → ¬ (j = 6 ∧ k = c) → g' j k = g j k) (b1 : a' (79 + 2 * c) = g' 5 c) (b2 : a' (80 + 2 * c) = g' 6 c) (bo : ∀ k, k < 619 → k ≠ 79 + 2 * c → k ≠ 80 + 2 * c → a' k = a k) : nwX s h p l w g' a' x y := by
  obtain ⟨⟨a1, a2, a3, a4, a5, a6, b⟩, ⟨o1, o2, o3, o4, o5⟩, ⟨v0, v1, v2, v3, v4, v5, v6, v7, v8, v9, v10, v11, v12⟩, d1, d2, d3, d4, d5, d6, d7, d8⟩ := hx
  have gj : ∀ j, j ≠ 5 ∧ j < 20 → j ≠ 6 → g' j = g j := fun j h1 h2 => by funext k; exact qo j k (by omega) (fun z => h1.1 z.1) (fun z => h2 z.1)
  unfold nwX
  rw [gj 0 (by omega) (by omega), gj 1 (by omega) (by omega), gj 2 (by omega) (by omega), gj 3 (by omega) (by omega), gj 4 (by omega) (by omega), gj 7 (by omega) (by omega), gj 8 (by omega) (by omega), gj 9 (by omega) (by omega), gj 10 (by omega) (by omega), gj 11 (by omega) (by omega), gj 13 (by omega) (by omega), bo 0 (by omega) (by omega) (by omega), bo 1 (by omega) (by omega) (by omega), bo 2 (by omega) (by omega) (by omega), bo 3 (by omega) (by omega) (by omega), bo 4 (by omega) (by omega) (by omega), bo 5 (by omega) (by omega) (by omega), bo 6 (by omega) (by omega) (by omega), bo 7 (by omega) (by omega) (by omega), bo 8 (by omega) (by omega) (by omega), bo 9 (by omega) (by omega) (by omega), bo 10 (by omega) (by omega) (by omega), bo 11 (by omega) (by omega) (by omega), bo 12 (by omega) (by omega) (by omega)]
  refine ⟨⟨a1, a2, a3, a4, a5, a6, b⟩, ⟨o1, o2, o3, o4, o5⟩, ⟨v0, v1, v2, v3, v4, v5, v6, v7, v8, v9, v10, v11, v12⟩, fun k hk => ?_, fun k hk => ?_, fun k hk => ?_, fun k hk => ?_, fun k j h1 h2 h3 => ?_, fun d hd => ?_, fun k hk => ?_, d8⟩
  · rw [bo _ (by omega) (by omega) (by omega)]; exact d1 k hk
  · rw [bo _ (by omega) (by omega) (by omega)]; exact d2 k hk
  · rw [bo _ (by omega) (by omega) (by omega)]; exact d3 k hk
  · exact ⟨(d4 k hk).1, fun j hj => by rw [bo _ (by omega) (by omega) (by omega)]; exact (d4 k hk).2 j hj⟩
  · rw [bo _ (by omega) (by omega) (by omega)]; exact d5 k j h1 h2 h3
  · by_cases e : d = c
    · rw [e]
      exact Or.inr ⟨hc.1, hc.2, hf.1, hf.2, b1, b2⟩
    · rw [bo _ (by omega) (by omega) (by omega), bo _ (by omega) (by omega) (by omega), qo 5 d (by omega) (fun z => e z.2) (by omega), qo 6 d (by omega) (by omega) (fun z => e z.2)]
      exact d6 d hd
  · exact ⟨(d7 k hk).1, fun j hj => by rw [bo _ (by omega) (by omega) (by omega), gj _ (by omega) (by omega)]; exact (d7 k hk).2 j hj⟩
theorem nx_letter (hx : nwX s h p l w g a x y) (hs : w < 12) (hf : inR (g' 8 w) p ∧ inR (g' 9 w) p ∧ wOk (g' 10 w) ∧ inR (g' 11 w) h) (q0 : g' 7 0 = nI (w + 1)) (qo : ∀ j k, j < 20 → ¬ (j = 7 ∧ k = 0) → ¬ (8 ≤ j ∧ j ≤ 12 ∧ k = w) → g' j k = g j k) (b0 : a' 4 = nI (w + 1)) (b1 : ∀ j, j < 4 → a' (151 + 4 * w + j) = g' (8 + j) w) (bo : ∀ k, k ≠ 4 → ¬ (151 + 4 * w ≤ k ∧ k < 155 + 4 * w) → a' k = a k) : nwX s h p l (w + 1) g' a' x y := by
  obtain ⟨⟨a1, a2, a3, a4, a5, a6, b⟩, ⟨o1, o2, o3, o4, o5⟩, ⟨v0, v1, v2, v3, v4, v5, v6, v7, v8, v9, v10, v11, v12⟩, d1, d2, d3, d4, d5, d6, d7, d8⟩ := hx
  have gj : ∀ j, j < 7 ∨ j = 13 → g' j = g j := fun j hj => by funext k; exact qo j k (by omega) (by omega) (by omega)
  unfold nwX
  rw [q0, gj 0 (by omega), gj 1 (by omega), gj 2 (by omega), gj 3 (by omega), gj 4 (by omega), gj 5 (by omega), gj 6 (by omega), gj 13 (by omega), b0, bo 0 (by omega) (by omega), bo 1 (by omega) (by omega), bo 2 (by omega) (by omega), bo 3 (by omega) (by omega), bo 5 (by omega) (by omega), bo 6 (by omega) (by omega), bo 7 (by omega) (by omega), bo 8 (by omega) (by omega), bo 9 (by omega) (by omega), bo 10 (by omega) (by omega), bo 11 (by omega) (by omega), bo 12 (by omega) (by omega)]
  refine ⟨⟨a1, a2, a3, a4, rfl, a6, by omega⟩, ⟨o1, o2, o3, o4, o5⟩, ⟨v0, v1, v2, v3, rfl, v5, v6, v7, v8, v9, v10, v11, v12⟩, fun k hk => ?_, fun k hk => ?_, fun k hk => ?_, fun k hk => ?_, fun k j h1 h2 h3 => ?_, fun d hd => ?_, fun k hk => ?_, d8⟩
  · rw [bo _ (by omega) (by omega)]; exact d1 k hk
  · rw [bo _ (by omega) (by omega)]; exact d2 k hk
  · rw [bo _ (by omega) (by omega)]; exact d3 k hk
  · exact ⟨(d4 k hk).1, fun j hj => by rw [bo _ (by omega) (by omega)]; exact (d4 k hk).2 j hj⟩
  · rw [bo _ (by omega) (by omega)]; exact d5 k j h1 h2 h3
  · rw [bo _ (by omega) (by omega), bo _ (by omega) (by omega)]; exact d6 d hd
  · by_cases e : k = w
    · rw [e]; exact ⟨hf, b1⟩
    · have e8 : ∀ j, j < 4 → g' (8 + j) k = g (8 + j) k := fun j hj => qo _ k (by omega) (by omega) (fun z => e z.2.2)
      have := d7 k (by omega)
      refine ⟨?_, fun j hj => by rw [bo _ (by omega) (by omega), e8 j hj]; exact this.2 j hj⟩
      rw [show g' 8 k = g 8 k from e8 0 (by omega), show g' 9 k = g 9 k from e8 1 (by omega), show g' 10 k = g 10 k from e8 2 (by omega), show g' 11 k = g 11 k from e8 3 (by omega)]
      exact this.1
theorem nx_odds (hx : nwX s h p l w g a x y) {v : Nat} (hv : v ≤ 16) (q1 : g' 0 4 = nI v) (qo : ∀ j k, j < 20 → ¬ (j = 0 ∧ k = 4) → g' j k = g j k) (b1 : a' 6 = nI v) (bo : ∀ k, k ≠ 6 → a' k = a k) : nwX s h p l w g' a' x y := by
  obtain ⟨⟨a1, a2, a3, a4, a5, a6, b⟩, ⟨o1, o2, o3, o4, o5⟩, ⟨v0, v1, v2, v3, v4, v5, v6, v7, v8, v9, v10, v11, v12⟩, d1, d2, d3, d4, d5, d6, d7, d8⟩ := hx
  have g0 : ∀ k, k ≠ 4 → g' 0 k = g 0 k := fun k hk => qo 0 k (by omega) (fun z => hk z.2)
  have gj : ∀ j, 1 ≤ j ∧ j < 20 → g' j = g j := fun j hj => by funext k; exact qo j k (by omega) (by omega)
  have bo' : ∀ k, 13 ≤ k → a' k = a k := fun k hk => bo k (by omega)
  unfold nwX
  rw [q1, g0 0 (by omega), g0 1 (by omega), g0 2 (by omega), g0 3 (by omega), g0 5 (by omega), g0 6 (by omega), g0 7 (by omega), g0 8 (by omega), gj 1 (by omega), gj 2 (by omega), gj 3 (by omega), gj 4 (by omega), gj 5 (by omega), gj 6 (by omega), gj 7 (by omega), gj 8 (by omega), gj 9 (by omega), gj 10 (by omega), gj 11 (by omega), gj 13 (by omega), b1, bo 0 (by omega), bo 1 (by omega), bo 2 (by omega), bo 3 (by omega), bo 4 (by omega), bo 5 (by omega), bo 7 (by omega), bo 8 (by omega), bo 9 (by omega), bo 10 (by omega), bo 11 (by omega), bo 12 (by omega)]
  refine ⟨⟨a1, a2, a3, a4, a5, a6, b⟩, ⟨⟨by rw [nI_toInt (by omega)]; omega, by rw [nI_toInt (by omega)]; omega⟩, o2, o3, o4, o5⟩, ⟨v0, v1, v2, v3, v4, v5, rfl, v7, v8, v9, v10, v11, v12⟩, fun k hk => ?_, fun k hk => ?_, fun k hk => ?_, fun k hk => ?_, fun k j h1 h2 h3 => ?_, fun d hd => ?_, fun k hk => ?_, d8⟩
  · rw [bo' _ (by omega)]; exact d1 k hk
  · rw [bo' _ (by omega)]; exact d2 k hk
  · rw [bo' _ (by omega)]; exact d3 k hk
  · exact ⟨(d4 k hk).1, fun j hj => by rw [bo' _ (by omega)]; exact (d4 k hk).2 j hj⟩
  · rw [bo' _ (by omega)]; exact d5 k j h1 h2 h3
  · rw [bo' _ (by omega), bo' _ (by omega)]; exact d6 d hd
  · exact ⟨(d7 k hk).1, fun j hj => by rw [bo' _ (by omega), gj _ (by omega)]; exact (d7 k hk).2 j hj⟩
end nx
