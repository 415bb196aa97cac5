/-! ===== the invariant between the class's memory and the reference's ===== -/
/-- a VALLEY of the class that begins at cell v, as one function: cell within it, place -/
def bV (μ : o_Mem) (v : Nat) : Nat → Nat → Int32 := fun j k => μ.1 (v + j) k
/-- a slot of the reference's row -/
def mS (μ : o_Mem) (s : Nat) : Nat → Int32 := fun k => μ.1 1 (s + k)
def cS (g : Nat → Nat → Int32) : Nat := (g 0 0).toNatClampNeg
def cH (g : Nat → Nat → Int32) : Nat := (g 0 1).toNatClampNeg
def cP (g : Nat → Nat → Int32) : Nat := (g 0 2).toNatClampNeg
def cL (g : Nat → Nat → Int32) : Nat := (g 0 3).toNatClampNeg
def cW (g : Nat → Nat → Int32) : Nat := (g 7 0).toNatClampNeg
def cC (g : Nat → Nat → Int32) : Nat := (g 13 0).toNatClampNeg
/-- within a range -/
def inR (x : Int32) (n : Nat) : Prop := 0 ≤ x.toInt ∧ x.toInt < n
def wOk (x : Int32) : Prop := 1 ≤ x.toInt ∧ x.toInt ≤ 99
def lawOk (g : Nat → Nat → Int32) (l : Nat) : Prop := inR (g 4 (6 * l)) (cS g) ∧ (g 4 (6 * l + 1) = -1 ∨ wOk (g 4 (6 * l + 1))) ∧ (g 4 (6 * l + 2) = -1 ∨ inR (g 4 (6 * l + 2)) 100) ∧ (g 4 (6 * l + 3) = -1 ∨ inR (g 4 (6 * l + 3)) (cH g)) ∧ (g 4 (6 * l + 4) = -1 ∨ inR (g 4 (6 * l + 4)) (cP g)) ∧ (g 4 (6 * l + 5) = -1 ∨ inR (g 4 (6 * l + 5)) (cP g))
def letOk (g : Nat → Nat → Int32) (f t w h : Int32) : Prop := inR f (cP g) ∧ inR t (cP g) ∧ wOk w ∧ inR h (cH g)
def wfN (g : Nat → Nat → Int32) : Prop := (g 0 0 = nI (cS g) ∧ cS g ≤ 6) ∧ (g 0 1 = nI (cH g) ∧ cH g ≤ 4) ∧ (g 0 2 = nI (cP g) ∧ cP g ≤ 6) ∧ (g 0 3 = nI (cL g) ∧ cL g ≤ 8) ∧ (g 7 0 = nI (cW g) ∧ cW g ≤ 12) ∧ (g 13 0 = nI (cC g) ∧ cC g ≤ 12)
/-- how often was struck: not more than twelve a DAY -/
def ssum (g : Nat → Nat → Int32) : Nat → Int
  | 0 => 0
  | n + 1 => ssum g n + (g 2 n).toInt
def cntOk (g : Nat → Nat → Int32) : Prop := (∀ k, k < cS g → 0 ≤ (g 2 k).toInt ∧ 0 ≤ (g 1 k).toInt ∧ (g 1 k).toInt ≤ 9) ∧ ssum g (cS g) ≤ 12 * (g 0 5).toInt
def wfV (g : Nat → Nat → Int32) : Prop := wfN g ∧ (0 ≤ (g 0 4).toInt ∧ (g 0 4).toInt ≤ 16) ∧ (0 ≤ (g 0 5).toInt ∧ (g 0 5).toInt ≤ 9999) ∧ (g 0 6 = 0 ∨ g 0 6 = 1) ∧
  (∀ l, l < cL g → lawOk g l) ∧ (∀ p, p < cP g → inR (g 3 p) (cH g)) ∧ (∀ p s, p < cP g → s < cS g → g 5 (6 * p + s) = -1 ∨ (inR (g 5 (6 * p + s)) (cP g) ∧ wOk (g 6 (6 * p + s)))) ∧
  (∀ p s, p < cP g → s < cS g → g 5 (6 * p + s) = -1 → g 6 (6 * p + s) = -1) ∧
  (∀ k, k < cW g → letOk g (g 8 k) (g 9 k) (g 10 k) (g 11 k)) ∧ (∀ k, k < cC g → letOk g (g 14 k) (g 15 k) (g 16 k) (g 17 k) ∧ (g 18 k = -1 ∨ inR (g 18 k) (cS g))) ∧ cntOk g
def wsum (g : Nat → Nat → Int32) : Nat → Int32
  | 0 => 0
  | n + 1 => wsum g n + g 2 n * g 1 n
def vR (g : Nat → Nat → Int32) (a : Nat → Int32) : Prop :=
  (a 0 = g 0 0 ∧ a 1 = g 0 1 ∧ a 2 = g 0 2 ∧ a 3 = g 0 3 ∧ a 4 = g 7 0 ∧ a 5 = g 13 0 ∧ a 6 = g 0 4 ∧ a 7 = g 0 5 ∧ a 8 = g 0 6 ∧ a 9 = g 0 7 ∧ a 10 = g 0 8 ∧ a 11 = wsum g (cS g)) ∧
  (∀ k, k < cS g → a (13 + 2 * k) = g 1 k ∧ a (14 + 2 * k) = g 2 k) ∧ (∀ p, p < cP g → a (25 + p) = g 3 p) ∧
  (∀ l w, l < cL g → w < 6 → a (31 + 6 * l + w) = g 4 (6 * l + w)) ∧
  (∀ p s, p < cP g → s < cS g → a (79 + 2 * (6 * p + s)) = g 5 (6 * p + s) ∧ (¬ g 5 (6 * p + s) = -1 → a (80 + 2 * (6 * p + s)) = g 6 (6 * p + s))) ∧
  (∀ k w, k < cW g → w < 4 → a (151 + 4 * k + w) = g (8 + w) k) ∧ (∀ k w, k < cC g → w < 5 → a (199 + 5 * k + w) = g (14 + w) k)
/-- a NAME by its letters: 5 bits each in the class, 8 in the reference -/
def e32 (cs : List Nat) : Nat := cs.foldl (fun v c => v * 32 + (c - 96)) 0
def e256 (cs : List Nat) : Nat := cs.foldl (fun v c => v * 256 + c) 0
def nmR (x y : Int64) : Prop := ∃ cs : List Nat, 1 ≤ cs.length ∧ cs.length ≤ 8 ∧ (∀ c ∈ cs, 97 ≤ c ∧ c ≤ 122) ∧ x = lN (e32 cs) ∧ y = lN (e256 cs)
def nR (g : Nat → Nat → Int32) (x y : Nat → Int64) : Prop := (∀ k, k < cS g → nmR (x k) (y k)) ∧ (∀ k, k < cH g → nmR (x (6 + k)) (y (6 + k))) ∧ (∀ k, k < cP g → nmR (x (12 + k)) (y (10 + k)))
/-- a row of WEEKS: what, a, b, c in the class; six numbers in the reference -/
def rowR (g : Nat → Nat → Int32) (n : Nat) (w a b c : Int32) (r : Nat → Int32) : Prop :=
  (w = 15 ∧ r 0 = 15 ∧ r 1 = a ∧ 1 ≤ a.toInt ∧ a.toInt ≤ 20) ∨
  (w = 16 ∧ r 0 = 16 ∧ r 1 = a ∧ r 2 = b ∧ r 3 = c ∧ inR a (cP g) ∧ inR b (cP g) ∧ wOk c) ∨
  (w = 17 ∧ r 0 = 17) ∨ (w = 18 ∧ r 0 = 18) ∨ (w = 19 ∧ r 0 = 19) ∨ (w = 26 ∧ r 0 = 23) ∨
  (w = 20 ∧ r 4 = c ∧ inR c n ∧ ((a = 21 ∧ r 0 = 2024 ∧ r 1 = b ∧ inR b (cS g)) ∨ (a = 23 ∧ r 0 = 2026) ∨ ((a = 60 ∨ a = 61 ∨ a = 62) ∧ r 0 = 2025 ∧ r 5 = a ∧ r 2 = b))) ∨
  (w = 24 ∧ r 0 = 21 ∧ r 1 = a ∧ r 4 = c ∧ inR c n ∧ 1 ≤ a.toInt ∧ a.toInt ≤ 99) ∨
  (w = 25 ∧ r 0 = 22 ∧ r 4 = c ∧ inR c n)
def pR (g : Nat → Nat → Int32) (pl : Nat → Nat → Int32) (a : Nat → Int32) : Prop :=
  (pl 0 0 = 0 ∧ a 12 = -1) ∨ (pl 0 0 = 1 ∧ ∃ n : Nat, n ≤ 60 ∧ pl 0 2 = nI n ∧ a 12 = nI n ∧
    (∀ k, k < n → rowR g n (pl 1 k) (pl 2 k) (pl 3 k) (pl 4 k) (fun j => a (259 + 6 * k + j))) ∧
    (∀ k, k < n → pl 1 k = 25 → ∃ o : Nat, o < k ∧ pl 4 k = nI o ∧ (pl 1 o = 20 ∨ pl 1 o = 24) ∧ pl 4 o = nI k) ∧
    (∀ k, k < n → (pl 1 k = 20 ∨ pl 1 k = 24) → ∃ o : Nat, k < o ∧ o < n ∧ pl 4 k = nI o ∧ pl 1 o = 25 ∧ pl 4 o = nI k) ∧
    (∀ k o, k < n → (pl 1 k = 20 ∨ pl 1 k = 24) → k < o → o < (pl 4 k).toNatClampNeg → (pl 1 o = 20 ∨ pl 1 o = 24) → (pl 4 o).toNatClampNeg < (pl 4 k).toNatClampNeg))
def iSt (μC μM : o_Mem) : Prop := μC.1 0 0 = μM.1 0 2 ∧ μC.2 0 1 = μM.2 0 3 ∧ μC.2 0 2 = μM.2 0 4
def trR (μC μM : o_Mem) (t : Nat) : Prop := (μC.1 (2 + 2 * t) 0 = 0 ∧ μM.1 4 t = -1) ∨ (μC.1 (2 + 2 * t) 0 = 1 ∧ μC.1 (2 + 2 * t) 1 = μM.1 3 t ∧ inR (μM.1 3 t) 4 ∧ ∃ n : Nat, n ≤ 60 ∧ μC.1 (2 + 2 * t) 2 = nI n ∧ μM.1 4 t = nI n ∧ ∀ k, k < n → μC.2 (3 + 2 * t) k = μM.2 5 (60 * t + k))
def iTr (μC μM : o_Mem) : Prop := ∀ t, t < 4 → trR μC μM t
def iTp (μC μM : o_Mem) : Prop := ∃ n : Nat, n ≤ 900 ∧ μC.1 137 1 = nI n ∧ μM.1 0 10 = nI n ∧ ∀ k, k < n → μC.1 138 k = μM.1 6 k ∧ -128 ≤ (μC.1 138 k).toInt ∧ (μC.1 138 k).toInt < 128
def iFt (μC μM : o_Mem) : Prop := μC.1 137 2 = μM.1 0 16 ∧ μC.1 137 3 = μM.1 0 17
/-- valley v and plan p of the class with slot s (names from t on) of the reference -/
def slR (μC μM : o_Mem) (v p s t : Nat) : Prop := wfV (bV μC v) ∧ vR (bV μC v) (mS μM s) ∧ nR (bV μC v) (μC.2 (v + 19)) (fun k => μM.2 2 (t + k)) ∧ pR (bV μC v) (bV μC p) (mS μM s)
def iMk (μC μM : o_Mem) : Prop := ∃ n : Nat, n ≤ 3 ∧ μC.1 0 10 = nI n ∧ μM.1 0 38 = nI n ∧ ∀ i, i < n → slR μC μM (62 + 25 * i) (82 + 25 * i) (626 * (i + 1)) (16 * (i + 1))
def iLv (μC μM : o_Mem) : Prop := (μC.1 144 0 = -1 ∧ μM.1 0 37 = 0) ∨ (¬ μC.1 144 0 = -1 ∧ μM.1 0 37 = 1 ∧ ∀ k, k < 5 → μC.1 144 k = μM.1 18 k)
def Inv (μC μM : o_Mem) : Prop := iSt μC μM ∧ iTr μC μM ∧ iTp μC μM ∧ iFt μC μM ∧ slR μC μM 10 50 0 0 ∧ iMk μC μM ∧ iLv μC μM
/-! each part looks at its own cells only -/
theorem iTr_c {μC μM μC' μM' : o_Mem} (h1 : ∀ i, 2 ≤ i → i < 10 → μC'.1 i = μC.1 i ∧ μC'.2 i = μC.2 i) (h3 : μM'.1 3 = μM.1 3) (h4 : μM'.1 4 = μM.1 4) (h5 : μM'.2 5 = μM.2 5) (h : iTr μC μM) : iTr μC' μM' := by
  intro t ht
  have e1 := h1 (2 + 2 * t) (by omega) (by omega)
  have e2 := h1 (3 + 2 * t) (by omega) (by omega)
  have := h t ht
  unfold trR at this ⊢
  rw [e1.1, e2.2, h3, h4, h5]
  exact this
theorem iTp_c {μC μM μC' μM' : o_Mem} (h1 : μC'.1 137 1 = μC.1 137 1) (h2 : μC'.1 138 = μC.1 138) (h3 : μM'.1 0 10 = μM.1 0 10) (h4 : μM'.1 6 = μM.1 6) (h : iTp μC μM) : iTp μC' μM' := by
  unfold iTp at h ⊢
  rw [h1, h2, h3, h4]
  exact h
theorem rowR_c {g g' : Nat → Nat → Int32} {n : Nat} {w a b c : Int32} {r r' : Nat → Int32} (h1 : cS g' = cS g) (h2 : cP g' = cP g) (h : ∀ j, j < 6 → r' j = r j) (hr : rowR g n w a b c r) : rowR g' n w a b c r' := by
  unfold rowR at hr ⊢
  rw [h1, h2, h 0 (by omega), h 1 (by omega), h 2 (by omega), h 3 (by omega), h 4 (by omega), h 5 (by omega)]
  exact hr
theorem slR_c {μC μM μC' μM' : o_Mem} {v p s t : Nat} (h1 : ∀ i, v ≤ i → i < v + 20 → μC'.1 i = μC.1 i ∧ μC'.2 i = μC.2 i) (h2 : ∀ i, p ≤ i → i < p + 5 → μC'.1 i = μC.1 i) (h3 : ∀ k, s ≤ k → k < s + 626 → μM'.1 1 k = μM.1 1 k) (h4 : ∀ k, t ≤ k → k < t + 16 → μM'.2 2 k = μM.2 2 k) (h : slR μC μM v p s t) : slR μC' μM' v p s t := by
  obtain ⟨a1, a2, a3, a4⟩ := h
  have eg : ∀ j, j < 20 → bV μC' v j = bV μC v j := fun j hj => by
    funext k; show μC'.1 (v + j) k = μC.1 (v + j) k; rw [(h1 (v + j) (by omega) (by omega)).1]
  have ep : ∀ j, j < 5 → bV μC' p j = bV μC p j := fun j hj => by
    funext k; show μC'.1 (p + j) k = μC.1 (p + j) k; rw [h2 (p + j) (by omega) (by omega)]
  have ea : ∀ k, k < 626 → mS μM' s k = mS μM s k := fun k hk => h3 (s + k) (by omega) (by omega)
  have e0 := eg 0 (by omega)
  have hcS : cS (bV μC' v) = cS (bV μC v) := by unfold cS; rw [e0]
  have hcH : cH (bV μC' v) = cH (bV μC v) := by unfold cH; rw [e0]
  have hcP : cP (bV μC' v) = cP (bV μC v) := by unfold cP; rw [e0]
  have hcL : cL (bV μC' v) = cL (bV μC v) := by unfold cL; rw [e0]
  have hcW : cW (bV μC' v) = cW (bV μC v) := by unfold cW; rw [eg 7 (by omega)]
  have hcC : cC (bV μC' v) = cC (bV μC v) := by unfold cC; rw [eg 13 (by omega)]
  have hws : ∀ n, wsum (bV μC' v) n = wsum (bV μC v) n := fun n => by
    induction n with
    | zero => rfl
    | succ n ih => unfold wsum; rw [ih, eg 1 (by omega), eg 2 (by omega)]
  have hN : (fun k => μM'.2 2 (t + k)) = fun k => if k < 16 then μM.2 2 (t + k) else μM'.2 2 (t + k) := by
    funext k
    by_cases hk : k < 16
    · rw [if_pos hk]; exact h4 (t + k) (by omega) (by omega)
    · rw [if_neg hk]
  obtain ⟨b1, b2, b3, b4, b5, b6, b7, b8, b9, b10, b11⟩ := a1
  have hss : ∀ n, ssum (bV μC' v) n = ssum (bV μC v) n := fun n => by
    induction n with
    | zero => rfl
    | succ n ih => unfold ssum; rw [ih, eg 2 (by omega)]
  obtain ⟨n1, n2, n3, n4, n5, n6⟩ := b1
  refine ⟨?_, ?_, ?_, ?_⟩
  · unfold wfV wfN lawOk letOk cntOk
    rw [hss, hcS, hcH, hcP, hcL, hcW, hcC, e0, eg 1 (by omega), eg 2 (by omega), eg 3 (by omega), eg 4 (by omega), eg 5 (by omega), eg 6 (by omega), eg 7 (by omega), eg 8 (by omega), eg 9 (by omega), eg 10 (by omega), eg 11 (by omega), eg 13 (by omega), eg 14 (by omega), eg 15 (by omega), eg 16 (by omega), eg 17 (by omega), eg 18 (by omega)]
    exact ⟨⟨n1, n2, n3, n4, n5, n6⟩, b2, b3, b4, b5, b6, b7, b8, b9, b10, b11⟩
  · obtain ⟨⟨c0, c1, c2, c3, c4, c5, c6, c7, c8, c9, c10, c11⟩, d2, d3, d4, d5, d6, d7⟩ := a2
    unfold vR
    rw [hcS, hcP, hcL, hcW, hcC, hws, e0, eg 1 (by omega), eg 2 (by omega), eg 3 (by omega), eg 4 (by omega), eg 5 (by omega), eg 6 (by omega), eg 7 (by omega), eg 13 (by omega), ea 0 (by omega), ea 1 (by omega), ea 2 (by omega), ea 3 (by omega), ea 4 (by omega), ea 5 (by omega), ea 6 (by omega), ea 7 (by omega), ea 8 (by omega), ea 9 (by omega), ea 10 (by omega), ea 11 (by omega)]
    refine ⟨⟨c0, c1, c2, c3, c4, c5, c6, c7, c8, c9, c10, c11⟩, fun k hk => ?_, fun p hp => ?_, fun l w hl hw => ?_, fun p s hp hs => ?_, fun k w hk hw => ?_, fun k w hk hw => ?_⟩
    · have := n1.2; rw [ea _ (by omega), ea _ (by omega)]; exact d2 k hk
    · have := n3.2; rw [ea _ (by omega)]; exact d3 p hp
    · have := n4.2; rw [ea _ (by omega)]; exact d4 l w hl hw
    · have := n1.2; have := n3.2; rw [ea _ (by omega), ea _ (by omega)]; exact d5 p s hp hs
    · have := n5.2; rw [ea _ (by omega), eg _ (by omega)]; exact d6 k w hk hw
    · have := n6.2; rw [ea _ (by omega), eg _ (by omega)]; exact d7 k w hk hw
  · obtain ⟨f1, f2, f3⟩ := a3
    unfold nR
    rw [hcS, hcH, hcP, (h1 (v + 19) (by omega) (by omega)).2, hN]
    refine ⟨fun k hk => ?_, fun k hk => ?_, fun k hk => ?_⟩
    · have := n1.2; show nmR _ (if k < 16 then _ else _); rw [if_pos (by omega)]; exact f1 k hk
    · have := n2.2; show nmR _ (if 6 + k < 16 then _ else _); rw [if_pos (by omega)]; exact f2 k hk
    · have := n3.2; show nmR _ (if 10 + k < 16 then _ else _); rw [if_pos (by omega)]; exact f3 k hk
  · unfold pR at a4 ⊢
    rw [ep 0 (by omega), ep 1 (by omega), ep 2 (by omega), ep 3 (by omega), ep 4 (by omega), ea 12 (by omega)]
    rcases a4 with a4 | ⟨q1, n, q2, q3, q4, q5, q6, q7⟩
    · exact Or.inl a4
    · refine Or.inr ⟨q1, n, q2, q3, q4, fun k hk => ?_, q6, q7⟩
      exact rowR_c hcS hcP (fun j hj => ea _ (by omega)) (q5 k hk)
theorem iMk_c {μC μM μC' μM' : o_Mem} (h0 : μC'.1 0 10 = μC.1 0 10) (h1 : ∀ i, 62 ≤ i → i < 137 → μC'.1 i = μC.1 i ∧ μC'.2 i = μC.2 i) (h2 : μM'.1 0 38 = μM.1 0 38) (h3 : ∀ k, 626 ≤ k → k < 2504 → μM'.1 1 k = μM.1 1 k) (h4 : ∀ k, 16 ≤ k → k < 64 → μM'.2 2 k = μM.2 2 k) (h : iMk μC μM) : iMk μC' μM' := by
  obtain ⟨n, a1, a2, a3, a4⟩ := h
  refine ⟨n, a1, by rw [h0]; exact a2, by rw [h2]; exact a3, fun i hi => ?_⟩
  exact slR_c (fun j p q => h1 j (by omega) (by omega)) (fun j p q => (h1 j (by omega) (by omega)).1) (fun k p q => h3 k (by omega) (by omega)) (fun k p q => h4 k (by omega) (by omega)) (a4 i hi)
/-- the answers' own cells: status (and the FRACTION) -/
theorem Inv_c {μC μM μC' μM' : o_Mem} (hs : iSt μC' μM') (hc : ∀ i, 0 < i → i < 145 → μC'.1 i = μC.1 i ∧ μC'.2 i = μC.2 i) (hc0 : μC'.1 0 10 = μC.1 0 10) (hm : ∀ i, 0 < i → i ≤ 7 ∨ i = 18 → μM'.1 i = μM.1 i ∧ μM'.2 i = μM.2 i) (hm0 : ∀ k, k = 10 ∨ k = 16 ∨ k = 17 ∨ k = 37 ∨ k = 38 → μM'.1 0 k = μM.1 0 k) (h : Inv μC μM) : Inv μC' μM' := by
  obtain ⟨a1, a2, a3, a4, a5, a6, a7⟩ := h
  refine ⟨hs, iTr_c (fun i p q => hc i (by omega) (by omega)) (hm 3 (by omega) (by omega)).1 (hm 4 (by omega) (by omega)).1 (hm 5 (by omega) (by omega)).2 a2, iTp_c (by rw [(hc 137 (by omega) (by omega)).1]) (hc 138 (by omega) (by omega)).1 (hm0 10 (by omega)) (hm 6 (by omega) (by omega)).1 a3, ?_, ?_, ?_, ?_⟩
  · unfold iFt at a4 ⊢
    rw [(hc 137 (by omega) (by omega)).1, hm0 16 (by omega), hm0 17 (by omega)]
    exact a4
  · exact slR_c (fun i p q => hc i (by omega) (by omega)) (fun i p q => (hc i (by omega) (by omega)).1) (fun k p q => by rw [(hm 1 (by omega) (by omega)).1]) (fun k p q => by rw [(hm 2 (by omega) (by omega)).2]) a5
  · exact iMk_c hc0 (fun i p q => hc i (by omega) (by omega)) (hm0 38 (by omega)) (fun k p q => by rw [(hm 1 (by omega) (by omega)).1]) (fun k p q => by rw [(hm 2 (by omega) (by omega)).2]) a6
  · unfold iLv at a7 ⊢
    rw [(hc 144 (by omega) (by omega)).1, (hm 18 (by omega) (by omega)).1, hm0 37 (by omega)]
    exact a7
theorem p_wI_o {μ : o_Mem} {a k : Nat} {x : Int32} {i : Nat} (h : i ≠ a) : (o_wI μ a k x).1 i = μ.1 i := if_neg h
theorem Inv_st {μC μM : o_Mem} (s : Int32) (h : Inv μC μM) : Inv (o_wI μC 0 0 s) (o_wI μM 0 2 s) := by
  refine Inv_c ?_ (fun i p q => ⟨p_wI_o (by omega), rfl⟩) (by rw [p_wI1]; exact if_neg (by omega)) (fun i p q => ⟨p_wI_o (by omega), rfl⟩) (fun k p => by rw [p_wI1]; exact if_neg (by omega)) h
  obtain ⟨⟨a1, a2, a3⟩, -⟩ := h
  refine ⟨?_, a2, a3⟩
  rw [p_wI1, p_wI1, if_pos ⟨rfl, rfl⟩, if_pos ⟨rfl, rfl⟩]
