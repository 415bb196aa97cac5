/-! ===== WEEKS that are being read ===== -/
abbrev opn (w : Int32) : Prop := w = 20 ∨ w = 24
/-- what a row says, but for the row that ends it -/
def rowC (s p : Nat) (w a b : Int32) (r : Nat → Int32) : Prop :=
  (w = 15 ∧ r 0 = 15 ∧ r 1 = a ∧ 1 ≤ a.toInt ∧ a.toInt ≤ 20) ∨
  (w = 16 ∧ r 0 = 16 ∧ r 1 = a ∧ r 2 = b ∧ inR a p ∧ inR b p) ∨
  (w = 17 ∧ r 0 = 17) ∨ (w = 18 ∧ r 0 = 18) ∨ (w = 19 ∧ r 0 = 19) ∨ (w = 26 ∧ r 0 = 23) ∨
  (w = 20 ∧ ((a = 21 ∧ r 0 = 2024 ∧ r 1 = b ∧ inR b s) ∨ (a = 23 ∧ r 0 = 2026) ∨ ((a = 60 ∨ a = 61 ∨ a = 62) ∧ r 0 = 2025 ∧ r 5 = a ∧ r 2 = b))) ∨
  (w = 24 ∧ r 0 = 21 ∧ r 1 = a ∧ 1 ≤ a.toInt ∧ a.toInt ≤ 99) ∨ (w = 25 ∧ r 0 = 22)
theorem rowC_c {s p : Nat} {w a b : Int32} {r r' : Nat → Int32} (h : ∀ j, j = 0 ∨ j = 1 ∨ j = 2 ∨ j = 5 → r' j = r j) (hr : rowC s p w a b r) : rowC s p w a b r' := by
  unfold rowC at hr ⊢
  rw [h 0 (by omega), h 1 (by omega), h 2 (by omega), h 5 (by omega)]
  exact hr
def onS (d : Nat) (σ : Nat → Nat) (q : Nat) : Prop := ∃ i, i < d ∧ σ i = q
def wkX (s p k d c : Nat) (σ : Nat → Nat) (pl : Nat → Nat → Int32) (a : Nat → Int32) : Prop :=
  (k + d ≤ 2 * c ∧ c ≤ 30 ∧ d ≤ 3) ∧ (pl 0 0 = 1 ∧ pl 0 1 = nI c ∧ pl 0 2 = nI k ∧ a 12 = nI k) ∧
  (∀ i, i < d → σ i < k ∧ opn (pl 1 (σ i))) ∧ (∀ i j, i < j → j < d → σ i < σ j) ∧
  (∀ q, q < k → rowC s p (pl 1 q) (pl 2 q) (pl 3 q) (fun j => a (259 + 6 * q + j))) ∧
  (∀ q, q < k → pl 1 q = 16 → a (259 + 6 * q + 3) = pl 4 q ∧ wOk (pl 4 q)) ∧
  (∀ q, q < k → opn (pl 1 q) → onS d σ q ∨ ∃ e, q < e ∧ e < k ∧ pl 4 q = nI e ∧ a (259 + 6 * q + 4) = nI e ∧ pl 1 e = 25 ∧ pl 4 e = nI q ∧ ∀ i, i < d → q < σ i → e < σ i) ∧
  (∀ q, q < k → pl 1 q = 25 → ∃ o, o < q ∧ pl 4 q = nI o ∧ a (259 + 6 * q + 4) = nI o ∧ opn (pl 1 o) ∧ pl 4 o = nI q ∧ ¬ onS d σ o) ∧
  (∀ q o, q < k → opn (pl 1 q) → ¬ onS d σ q → q < o → o < (pl 4 q).toNatClampNeg → opn (pl 1 o) → (pl 4 o).toNatClampNeg < (pl 4 q).toNatClampNeg)
section wx
variable {s p k d c : Nat} {σ : Nat → Nat} {pl pl' : Nat → Nat → Int32} {a a' : Nat → Int32}
theorem wk_c (hx : wkX s p k d c σ pl a) (hp : ∀ j q, j < 5 → pl' j q = pl j q) (ha : ∀ q, q < 619 → a' q = a q) : wkX s p k d c σ pl' a' := by
  obtain ⟨h1, h2, h3, h4, h5, h5b, h6, h7, h8⟩ := hx
  have e : ∀ j, j < 5 → pl' j = pl j := fun j hj => by funext q; exact hp j q hj
  unfold wkX
  rw [e 0 (by omega), e 1 (by omega), e 2 (by omega), e 3 (by omega), e 4 (by omega), ha 12 (by omega)]
  refine ⟨h1, h2, h3, h4, fun q hq => ?_, fun q hq hw => ?_, fun q hq ho => ?_, fun q hq hw => ?_, h8⟩
  · have := h5 q hq
    exact rowC_c (fun j hj => ha _ (by omega)) this
  · rw [ha _ (by omega)]; exact h5b q hq hw
  · rw [ha _ (by omega)]; exact h6 q hq ho
  · rw [ha _ (by omega)]; exact h7 q hq hw
/-- a row more, that opens nothing or opens something -/
theorem wk_add (hx : wkX s p k d c σ pl a) (hc : c < 30) {w x y z : Int32} (hw : ¬ w = 25) (hr : rowC s p w x y (fun j => a' (259 + 6 * k + j))) (h16 : w = 16 → a' (259 + 6 * k + 3) = z ∧ wOk z) (hno : ¬ opn w) (p0 : pl' 0 0 = 1 ∧ pl' 0 1 = nI (c + 1) ∧ pl' 0 2 = nI (k + 1)) (p1 : pl' 1 k = w ∧ pl' 2 k = x ∧ pl' 3 k = y ∧ pl' 4 k = z) (po : ∀ j q, 1 ≤ j → j < 5 → q ≠ k → pl' j q = pl j q) (a0 : a' 12 = nI (k + 1)) (ao : ∀ q, 259 ≤ q → q < 259 + 6 * k → a' q = a q) : wkX s p (k + 1) d (c + 1) σ pl' a' := by
  obtain ⟨h1, h2, h3, h4, h5, h5b, h6, h7, h8⟩ := hx
  refine ⟨by omega, ⟨p0.1, p0.2.1, p0.2.2, a0⟩, fun i hi => ?_, h4, fun q hq => ?_, fun q hq hw' => ?_, fun q hq ho => ?_, fun q hq hw' => ?_, fun q o hq hoq hn h1' h2' hoo => ?_⟩
  · have := h3 i hi
    rw [po 1 _ (by omega) (by omega) (by omega)]
    exact ⟨by omega, this.2⟩
  · by_cases e : q = k
    · rw [e, p1.1, p1.2.1, p1.2.2.1]; exact hr
    · rw [po 1 q (by omega) (by omega) e, po 2 q (by omega) (by omega) e, po 3 q (by omega) (by omega) e]
      have := h5 q (by omega)
      exact rowC_c (fun j hj => ao _ (by omega) (by omega)) this
  · by_cases e : q = k
    · rw [e, p1.1] at hw'
      rw [e, p1.2.2.2]
      exact h16 hw'
    · rw [po 1 q (by omega) (by omega) e] at hw'
      rw [po 4 q (by omega) (by omega) e, ao _ (by omega) (by omega)]
      exact h5b q (by omega) hw'
  · by_cases e : q = k
    · rw [e, p1.1] at ho; exact absurd ho hno
    · rw [po 1 q (by omega) (by omega) e] at ho
      rcases h6 q (by omega) ho with z | ⟨e', z1, z2, z3, z4, z5, z6, z7⟩
      · exact Or.inl z
      · refine Or.inr ⟨e', z1, by omega, ?_, ?_, ?_, ?_, z7⟩
        · rw [po 4 q (by omega) (by omega) e]; exact z3
        · rw [ao _ (by omega) (by omega)]; exact z4
        · rw [po 1 e' (by omega) (by omega) (by omega)]; exact z5
        · rw [po 4 e' (by omega) (by omega) (by omega)]; exact z6
  · by_cases e : q = k
    · rw [e, p1.1] at hw'; exact absurd hw' hw
    · rw [po 1 q (by omega) (by omega) e] at hw'
      obtain ⟨o, z1, z2, z3, z4, z5, z6⟩ := h7 q (by omega) hw'
      refine ⟨o, z1, ?_, ?_, ?_, ?_, z6⟩
      · rw [po 4 q (by omega) (by omega) e]; exact z2
      · rw [ao _ (by omega) (by omega)]; exact z3
      · rw [po 1 o (by omega) (by omega) (by omega)]; exact z4
      · rw [po 4 o (by omega) (by omega) (by omega)]; exact z5
  · by_cases e : q = k
    · rw [e, p1.1] at hoq; exact absurd hoq hno
    · rw [po 1 q (by omega) (by omega) e] at hoq
      rw [po 4 q (by omega) (by omega) e] at h2' ⊢
      rcases h6 q (by omega) hoq with z | ⟨e', z1, z2, z3, -⟩
      · exact absurd z hn
      · have hc' : (pl 4 q).toNatClampNeg = e' := by rw [z3, nI_clamp (by omega)]
        rw [po 1 o (by omega) (by omega) (by omega)] at hoo
        rw [po 4 o (by omega) (by omega) (by omega)]
        exact h8 q o (by omega) hoq hn h1' h2' hoo
theorem wk_open (hx : wkX s p k d c σ pl a) (hc : c < 30) (hd : d < 3) {w x y z : Int32} (hr : rowC s p w x y (fun j => a' (259 + 6 * k + j))) (hno : opn w) (p0 : pl' 0 0 = 1 ∧ pl' 0 1 = nI (c + 1) ∧ pl' 0 2 = nI (k + 1)) (p1 : pl' 1 k = w ∧ pl' 2 k = x ∧ pl' 3 k = y ∧ pl' 4 k = z) (po : ∀ j q, 1 ≤ j → j < 5 → q ≠ k → pl' j q = pl j q) (a0 : a' 12 = nI (k + 1)) (ao : ∀ q, 259 ≤ q → q < 259 + 6 * k → a' q = a q) : wkX s p (k + 1) (d + 1) (c + 1) (fun i => if i = d then k else σ i) pl' a' := by
  obtain ⟨h1, h2, h3, h4, h5, h5b, h6, h7, h8⟩ := hx
  have h25 : ¬ w = 25 := by rcases hno with rfl | rfl <;> decide
  have h16' : ¬ w = 16 := by rcases hno with rfl | rfl <;> decide
  have on1 : ∀ q, q ≠ k → (onS (d + 1) (fun i => if i = d then k else σ i) q ↔ onS d σ q) := fun q hq => by
    constructor
    · rintro ⟨i, i1, i2⟩
      have i2' : (if i = d then k else σ i) = q := i2
      by_cases e : i = d
      · rw [if_pos e] at i2'; exact absurd i2'.symm hq
      · rw [if_neg e] at i2'; exact ⟨i, by omega, i2'⟩
    · rintro ⟨i, i1, i2⟩
      refine ⟨i, by omega, ?_⟩
      show (if i = d then k else σ i) = q
      rw [if_neg (by omega)]; exact i2
  refine ⟨by omega, ⟨p0.1, p0.2.1, p0.2.2, a0⟩, fun i hi => ?_, fun i j hij hj => ?_, fun q hq => ?_, fun q hq hw' => ?_, fun q hq ho => ?_, fun q hq hw' => ?_, fun q o hq hoq hn h1' h2' hoo => ?_⟩
  · show (if i = d then k else σ i) < k + 1 ∧ opn (pl' 1 (if i = d then k else σ i))
    by_cases e : i = d
    · rw [if_pos e, p1.1]; exact ⟨by omega, hno⟩
    · have := h3 i (by omega)
      rw [if_neg e, po 1 _ (by omega) (by omega) (by omega)]
      exact ⟨by omega, this.2⟩
  · show (if i = d then k else σ i) < (if j = d then k else σ j)
    by_cases e : j = d
    · rw [if_pos e, if_neg (by omega)]; exact (h3 i (by omega)).1
    · rw [if_neg e, if_neg (by omega)]; exact h4 i j hij (by omega)
  · by_cases e : q = k
    · rw [e, p1.1, p1.2.1, p1.2.2.1]; exact hr
    · rw [po 1 q (by omega) (by omega) e, po 2 q (by omega) (by omega) e, po 3 q (by omega) (by omega) e]
      have := h5 q (by omega)
      exact rowC_c (fun j hj => ao _ (by omega) (by omega)) this
  · by_cases e : q = k
    · rw [e, p1.1] at hw'; exact absurd hw' h16'
    · rw [po 1 q (by omega) (by omega) e] at hw'
      rw [po 4 q (by omega) (by omega) e, ao _ (by omega) (by omega)]
      exact h5b q (by omega) hw'
  · by_cases e : q = k
    · refine Or.inl ⟨d, by omega, ?_⟩
      show (if d = d then k else σ d) = q
      rw [if_pos rfl, e]
    · rw [po 1 q (by omega) (by omega) e] at ho
      rcases h6 q (by omega) ho with z | ⟨e', z1, z2, z3, z4, z5, z6, z7⟩
      · exact Or.inl ((on1 q e).mpr z)
      · refine Or.inr ⟨e', z1, by omega, ?_, ?_, ?_, ?_, fun i hi hq' => ?_⟩
        · rw [po 4 q (by omega) (by omega) e]; exact z3
        · rw [ao _ (by omega) (by omega)]; exact z4
        · rw [po 1 e' (by omega) (by omega) (by omega)]; exact z5
        · rw [po 4 e' (by omega) (by omega) (by omega)]; exact z6
        · show e' < (if i = d then k else σ i)
          have hq'' : q < (if i = d then k else σ i) := hq'
          by_cases e2 : i = d
          · rw [if_pos e2]; exact z2
          · rw [if_neg e2] at hq'' ⊢; exact z7 i (by omega) hq''
  · by_cases e : q = k
    · rw [e, p1.1] at hw'; exact absurd hw' h25
    · rw [po 1 q (by omega) (by omega) e] at hw'
      obtain ⟨o, z1, z2, z3, z4, z5, z6⟩ := h7 q (by omega) hw'
      refine ⟨o, z1, ?_, ?_, ?_, ?_, fun z => z6 ((on1 o (by omega)).mp z)⟩
      · rw [po 4 q (by omega) (by omega) e]; exact z2
      · rw [ao _ (by omega) (by omega)]; exact z3
      · rw [po 1 o (by omega) (by omega) (by omega)]; exact z4
      · rw [po 4 o (by omega) (by omega) (by omega)]; exact z5
  · by_cases e : q = k
    · refine absurd ⟨d, by omega, ?_⟩ hn
      show (if d = d then k else σ d) = q
      rw [if_pos rfl, e]
    · have hn' : ¬ onS d σ q := fun z => hn ((on1 q e).mpr z)
      rw [po 1 q (by omega) (by omega) e] at hoq
      rw [po 4 q (by omega) (by omega) e] at h2' ⊢
      rcases h6 q (by omega) hoq with z | ⟨e', z1, z2, z3, -⟩
      · exact absurd z hn'
      · have hc' : (pl 4 q).toNatClampNeg = e' := by rw [z3, nI_clamp (by omega)]
        rw [po 1 o (by omega) (by omega) (by omega)] at hoo
        rw [po 4 o (by omega) (by omega) (by omega)]
        exact h8 q o (by omega) hoq hn' h1' h2' hoo
theorem wk_end {o : Nat} (hx : wkX s p k (d + 1) c σ pl a) (hso : σ d = o) (p0 : pl' 0 0 = 1 ∧ pl' 0 1 = nI c ∧ pl' 0 2 = nI (k + 1)) (p1 : pl' 1 k = 25 ∧ pl' 4 k = nI o ∧ pl' 4 o = nI k) (po : ∀ j q, 1 ≤ j → j < 5 → q ≠ k → ¬ (j = 4 ∧ q = o) → pl' j q = pl j q) (a0 : a' 12 = nI (k + 1)) (a1 : a' (259 + 6 * k) = 22 ∧ a' (259 + 6 * k + 4) = nI o ∧ a' (259 + 6 * o + 4) = nI k) (ao : ∀ q, 259 ≤ q → q < 259 + 6 * k → q ≠ 259 + 6 * o + 4 → a' q = a q) : wkX s p (k + 1) d c σ pl' a' := by
  obtain ⟨h1, h2, h3, h4, h5, h5b, h6, h7, h8⟩ := hx
  obtain ⟨ho1, ho2⟩ := h3 d (by omega)
  rw [hso] at ho1 ho2
  have hok : o ≠ k := by omega
  have p1o : pl' 1 o = pl 1 o := po 1 o (by omega) (by omega) hok (by omega)
  have on1 : ∀ q, q ≠ o → (onS d σ q ↔ onS (d + 1) σ q) := fun q hq => by
    constructor
    · rintro ⟨i, i1, i2⟩; exact ⟨i, by omega, i2⟩
    · rintro ⟨i, i1, i2⟩
      by_cases e : i = d
      · rw [e, hso] at i2; exact absurd i2.symm hq
      · exact ⟨i, by omega, i2⟩
  have ono : ¬ onS d σ o := by
    rintro ⟨i, i1, i2⟩
    have := h4 i d i1 (by omega)
    omega
  have hopn25 : ∀ {w : Int32}, opn w → ¬ w = 25 := fun {w} h e => by rw [e] at h; exact absurd h (by decide)
  refine ⟨by omega, ⟨p0.1, p0.2.1, p0.2.2, a0⟩, fun i hi => ?_, fun i j hij hj => h4 i j hij (by omega), fun q hq => ?_, fun q hq hw' => ?_, fun q hq ho => ?_, fun q hq hw' => ?_, fun q o' hq hoq hn h1' h2' hoo => ?_⟩
  · have := h3 i (by omega)
    rw [po 1 _ (by omega) (by omega) (by omega) (by omega)]
    exact ⟨by omega, this.2⟩
  · by_cases e : q = k
    · rw [e, p1.1]
      exact Or.inr (Or.inr (Or.inr (Or.inr (Or.inr (Or.inr (Or.inr (Or.inr ⟨rfl, a1.1⟩)))))))
    · rw [po 1 q (by omega) (by omega) e (by omega), po 2 q (by omega) (by omega) e (by omega), po 3 q (by omega) (by omega) e (by omega)]
      have := h5 q (by omega)
      exact rowC_c (fun j hj => ao _ (by omega) (by omega) (by omega)) this
  · by_cases e : q = k
    · rw [e, p1.1] at hw'; exact absurd hw' (by decide)
    · rw [po 1 q (by omega) (by omega) e (by omega)] at hw'
      have hqo : q ≠ o := fun z => by rw [z] at hw'; rw [hw'] at ho2; exact absurd ho2 (by decide)
      rw [po 4 q (by omega) (by omega) e (by omega), ao _ (by omega) (by omega) (by omega)]
      exact h5b q (by omega) hw'
  · by_cases e : q = k
    · rw [e, p1.1] at ho; exact absurd ho (by decide)
    · rw [po 1 q (by omega) (by omega) e (by omega)] at ho
      by_cases hqo : q = o
      · refine Or.inr ⟨k, by omega, by omega, ?_, ?_, p1.1, ?_, fun i hi hq' => ?_⟩
        · rw [hqo]; exact p1.2.2
        · rw [hqo]; exact a1.2.2
        · rw [hqo]; exact p1.2.1
        · have := h4 i d hi (by omega)
          omega
      · rcases h6 q (by omega) ho with z | ⟨e', z1, z2, z3, z4, z5, z6, z7⟩
        · exact Or.inl ((on1 q hqo).mpr z)
        · have he'o : e' ≠ o := fun z => by rw [z] at z5; exact hopn25 ho2 z5
          refine Or.inr ⟨e', z1, by omega, ?_, ?_, ?_, ?_, fun i hi hq' => z7 i (by omega) hq'⟩
          · rw [po 4 q (by omega) (by omega) e (by omega)]; exact z3
          · rw [ao _ (by omega) (by omega) (by omega)]; exact z4
          · rw [po 1 e' (by omega) (by omega) (by omega) (by omega)]; exact z5
          · rw [po 4 e' (by omega) (by omega) (by omega) (by omega)]; exact z6
  · by_cases e : q = k
    · exact ⟨o, by omega, by rw [e]; exact p1.2.1, by rw [e]; exact a1.2.1, by rw [p1o]; exact ho2, by rw [e]; exact p1.2.2, ono⟩
    · rw [po 1 q (by omega) (by omega) e (by omega)] at hw'
      have hqo : q ≠ o := fun z => by rw [z] at hw'; exact hopn25 ho2 hw'
      obtain ⟨o', z1, z2, z3, z4, z5, z6⟩ := h7 q (by omega) hw'
      have ho'o : o' ≠ o := fun z => z6 ⟨d, by omega, by rw [hso, z]⟩
      refine ⟨o', z1, ?_, ?_, ?_, ?_, fun z => z6 ((on1 o' ho'o).mp z)⟩
      · rw [po 4 q (by omega) (by omega) e (by omega)]; exact z2
      · rw [ao _ (by omega) (by omega) (by omega)]; exact z3
      · rw [po 1 o' (by omega) (by omega) (by omega) (by omega)]; exact z4
      · rw [po 4 o' (by omega) (by omega) (by omega) (by omega)]; exact z5
  · by_cases e : q = k
    · rw [e, p1.1] at hoq; exact absurd hoq (by decide)
    · rw [po 1 q (by omega) (by omega) e (by omega)] at hoq
      by_cases hqo : q = o
      · rw [hqo, p1.2.2, nI_clamp (by omega)] at h2' ⊢
        rw [hqo] at h1'
        have ho'1 : pl' 1 o' = pl 1 o' := po 1 o' (by omega) (by omega) (by omega) (by omega)
        rw [ho'1] at hoo
        rw [po 4 o' (by omega) (by omega) (by omega) (by omega)]
        rcases h6 o' (by omega) hoo with ⟨i, i1, i2⟩ | ⟨e', z1, z2, z3, -⟩
        · by_cases ei : i = d
          · rw [ei, hso] at i2; omega
          · have := h4 i d (by omega) (by omega)
            omega
        · rw [z3, nI_clamp (by omega)]; exact z2
      · have hn' : ¬ onS (d + 1) σ q := fun z => hn ((on1 q hqo).mpr z)
        rw [po 4 q (by omega) (by omega) e (by omega)] at h2' ⊢
        rcases h6 q (by omega) hoq with z | ⟨e', z1, z2, z3, z4, z5, z6, z7⟩
        · exact absurd z hn'
        · have hc' : (pl 4 q).toNatClampNeg = e' := by rw [z3, nI_clamp (by omega)]
          have ho'o : o' ≠ o := fun z => by
            have := z7 d (by omega) (by rw [hso]; omega)
            rw [hso] at this
            omega
          rw [po 1 o' (by omega) (by omega) (by omega) (by omega)] at hoo
          rw [po 4 o' (by omega) (by omega) (by omega) (by omega)]
          exact h8 q o' (by omega) hoq hn' h1' h2' hoo
/-- all ended: WEEKS -/
theorem wk_fin {g : Nat → Nat → Int32} (hx : wkX s p k 0 c σ pl a) (hs : cS g = s) (hp : cP g = p) : pR g pl a := by
  obtain ⟨h1, h2, h3, h4, h5, h5b, h6, h7, h8⟩ := hx
  have non : ∀ q, ¬ onS 0 σ q := fun q ⟨i, i1, _⟩ => absurd i1 (by omega)
  refine Or.inr ⟨h2.1, k, by omega, h2.2.2.1, h2.2.2.2, fun q hq => ?_, fun q hq hw => ?_, fun q hq ho => ?_, fun q o hq hoq h1' h2' hoo => h8 q o hq hoq (non q) h1' h2' hoo⟩
  · have hr := h5 q hq
    unfold rowR
    rw [hs, hp]
    rcases hr with z | ⟨z1, z2, z3, z4, z5, z6⟩ | z | z | z | z | ⟨z1, z2⟩ | ⟨z1, z2, z3, z4⟩ | ⟨z1, z2⟩
    · exact Or.inl z
    · have := h5b q hq z1
      exact Or.inr (Or.inl ⟨z1, z2, z3, z4, this.1, z5, z6, this.2⟩)
    · exact Or.inr (Or.inr (Or.inl z))
    · exact Or.inr (Or.inr (Or.inr (Or.inl z)))
    · exact Or.inr (Or.inr (Or.inr (Or.inr (Or.inl z))))
    · exact Or.inr (Or.inr (Or.inr (Or.inr (Or.inr (Or.inl z)))))
    · rcases h6 q hq (Or.inl z1) with y | ⟨e, y1, y2, y3, y4, -⟩
      · exact absurd y (non q)
      · exact Or.inr (Or.inr (Or.inr (Or.inr (Or.inr (Or.inr (Or.inl ⟨z1, y4.trans y3.symm, by rw [y3]; exact ⟨by rw [nI_toInt (by omega)]; omega, by rw [nI_toInt (by omega)]; omega⟩, z2⟩))))))
    · rcases h6 q hq (Or.inr z1) with y | ⟨e, y1, y2, y3, y4, -⟩
      · exact absurd y (non q)
      · exact Or.inr (Or.inr (Or.inr (Or.inr (Or.inr (Or.inr (Or.inr (Or.inl ⟨z1, z2, z3, y4.trans y3.symm, by rw [y3]; exact ⟨by rw [nI_toInt (by omega)]; omega, by rw [nI_toInt (by omega)]; omega⟩, z4⟩)))))))
    · obtain ⟨o, y1, y2, y3, -⟩ := h7 q hq z1
      exact Or.inr (Or.inr (Or.inr (Or.inr (Or.inr (Or.inr (Or.inr (Or.inr ⟨z1, z2, y3.trans y2.symm, by rw [y2]; exact ⟨by rw [nI_toInt (by omega)]; omega, by rw [nI_toInt (by omega)]; omega⟩⟩)))))))
  · obtain ⟨o, y1, y2, -, y4, y5, -⟩ := h7 q hq hw
    exact ⟨o, y1, y2, y4, y5⟩
  · rcases h6 q hq ho with y | ⟨e, y1, y2, y3, -, y5, y6, -⟩
    · exact absurd y (non q)
    · exact ⟨e, y1, y2, y3, y5, y6⟩
end wx
