/-! ===== the two worlds, and plain rows on memory ===== -/
/-- the class's cells, in the order in which the constructor makes them -/
def kV : List o_K := [.inl 8, .inr (0, 6), .inr (0, 6), .inr (0, 6), .inr (0, 48), .inr (0, 36), .inr (0, 36), .inl 1, .inr (0, 12), .inr (0, 12), .inr (0, 12), .inr (0, 12), .inr (0, 12), .inl 1, .inr (0, 12), .inr (0, 12), .inr (0, 12), .inr (0, 12), .inr (0, 12), .inr (2, 18)]
def kP : List o_K := [.inl 3, .inr (0, 60), .inr (0, 60), .inr (0, 60), .inr (0, 60)]
def kT : List o_K := [.inl 7, .inr (2, 60)]
def kCL : List o_K := [.inl 11, .inr (3, 4)] ++ (kT ++ (kT ++ (kT ++ (kT ++ (kV ++ (kV ++ (kP ++ (kP ++ ([.inr (4, 3), .inr (5, 3)] ++ (kV ++ (kP ++ (kV ++ (kP ++ (kV ++ (kP ++ [.inl 4, .inr (1, 900), .inl 9, .inl 10, .inr (0, 3), .inl 2, .inr (0, 60), .inr (0, 5), .inl 6, .inr (0, 6), .inr (0, 36), .inl 5, .inl 1, .inr (0, 12), .inr (0, 12), .inr (0, 12), .inr (0, 12), .inr (0, 12), .inr (2, 13), .inl 0, .inr (0, 12), .inr (0, 12)])))))))))))))))
def kdC (i : Nat) : o_K := kCL.getD i (.inr (9, 0))
/-- where references lead: by the kind of the cell -/
def rfK (κ : o_K) (i k : Nat) : Nat := match κ with
  | .inl 8 => if k ≤ 15 then i + (k - 8) else if k = 16 then i + 13 else i + 19
  | .inl 1 => i + k
  | .inl 3 => i + (k - 2)
  | .inl 7 => i + 1
  | .inl 4 => 138
  | .inl 9 => if k = 0 then 137 else 30
  | .inl 10 => if k = 0 then 137 else if k = 1 then 10 else if k = 2 then 55 else 141
  | .inl 2 => 143
  | .inl 6 => if k = 0 then 146 else 147
  | .inl 5 => if k = 0 then 149 else 155
  | .inl 0 => if k = 1 then 157 else 158
  | .inl 11 => [0, 0, 0, 1, 10, 30, 50, 55, 60, 61, 0, 137, 139, 140, 142, 144, 145, 148, 156].getD k 0
  | .inr (3, _) => 2 + 2 * k
  | .inr (4, _) => 62 + 25 * k
  | .inr (5, _) => 82 + 25 * k
  | _ => 0
def rfC (i k : Nat) : Nat := rfK (kdC i) i k
def kML : List o_K := [.inl 12, .inr (0, 3756), .inr (2, 96), .inr (0, 4), .inr (0, 4), .inr (2, 240), .inr (1, 900), .inr (1, 900), .inr (0, 3), .inr (0, 6), .inr (0, 36), .inr (2, 13), .inr (0, 3), .inr (0, 4), .inr (0, 4), .inr (0, 4), .inr (0, 80), .inr (0, 5), .inr (0, 5)]
def kdM (i : Nat) : o_K := kML.getD i (.inr (9, 0))
def rfM (_ k : Nat) : Nat := [1, 2, 0, 0, 0, 3, 4, 5, 6, 7, 0, 0, 0, 0, 0, 0, 0, 0, 0, 0, 0, 8, 0, 0, 9, 10, 11, 12, 13, 14, 15, 0, 0, 0, 16, 17, 18].getD k 0
def wdC : o_Wd := (159, kdC, rfC)
def wdM : o_Wd := (19, kdM, rfM)
theorem kCL_len : kCL.length = 159 := by decide +kernel
/-- the kinds fit: every reference leads to a cell of the right kind -/
def fitC (i : Nat) : Bool := match kdC i with
  | .inl ci => (List.range (o_fk ci).length).all fun k => !((o_fk ci)[k]? == some 2) || (decide (rfC i k < 159) && decide (kdC (rfC i k) = o_ft ci k))
  | .inr (t, n) => !(decide (3 ≤ t)) || (List.range n).all fun j => decide (rfC i j < 159) && decide (kdC (rfC i j) = .inl (o_et t))
def fitM (i : Nat) : Bool := match kdM i with
  | .inl ci => (List.range (o_fk ci).length).all fun k => !((o_fk ci)[k]? == some 2) || (decide (rfM i k < 19) && decide (kdM (rfM i k) = o_ft ci k))
  | .inr (t, n) => !(decide (3 ≤ t)) || (List.range n).all fun j => decide (rfM i j < 19) && decide (kdM (rfM i j) = .inl (o_et t))
theorem fitC_all : (List.range 159).all fitC = true := by decide +kernel
theorem fitM_all : (List.range 19).all fitM = true := by decide +kernel
theorem okC {X : o_Cx} (hw : X.2.2.2.2.2.2.2 = wdC) (h1 : ∀ i j, i < 159 → j < 159 → o_ad X i = o_ad X j → i = j) (h2 : ∀ i, i < 159 → o_A X (o_ad X i)) : o_ok X := by
  have en : o_n X = 159 := by show X.2.2.2.2.2.2.2.1 = 159; rw [hw]; rfl
  have ek : o_kd X = kdC := by show X.2.2.2.2.2.2.2.2.1 = kdC; rw [hw]; rfl
  have er : o_rf X = rfC := by show X.2.2.2.2.2.2.2.2.2 = rfC; rw [hw]; rfl
  refine ⟨by rw [en]; exact h1, by rw [en]; exact h2, ?_, ?_⟩
  · intro i ci k ⟨hi, hk⟩ hf
    rw [en] at hi
    rw [ek] at hk
    have hb := List.all_eq_true.mp fitC_all i (List.mem_range.mpr hi)
    unfold fitC at hb
    rw [hk] at hb
    have hlt : k < (o_fk ci).length := (List.getElem?_eq_some_iff.mp hf).1
    have hb2 := List.all_eq_true.mp hb k (List.mem_range.mpr hlt)
    rw [hf] at hb2
    simp at hb2
    exact ⟨by rw [en, er]; exact hb2.1, by rw [ek, er]; exact hb2.2⟩
  · intro i t n j ⟨hi, hk⟩ h3 hj
    rw [en] at hi
    rw [ek] at hk
    have hb := List.all_eq_true.mp fitC_all i (List.mem_range.mpr hi)
    unfold fitC at hb
    rw [hk] at hb
    simp only [h3, decide_true, Bool.not_true, Bool.false_or] at hb
    have hb2 := List.all_eq_true.mp hb j (List.mem_range.mpr hj)
    simp at hb2
    exact ⟨by rw [en, er]; exact hb2.1, by rw [ek, er]; exact hb2.2⟩
theorem okM {X : o_Cx} (hw : X.2.2.2.2.2.2.2 = wdM) (h1 : ∀ i j, i < 19 → j < 19 → o_ad X i = o_ad X j → i = j) (h2 : ∀ i, i < 19 → o_A X (o_ad X i)) : o_ok X := by
  have en : o_n X = 19 := by show X.2.2.2.2.2.2.2.1 = 19; rw [hw]; rfl
  have ek : o_kd X = kdM := by show X.2.2.2.2.2.2.2.2.1 = kdM; rw [hw]; rfl
  have er : o_rf X = rfM := by show X.2.2.2.2.2.2.2.2.2 = rfM; rw [hw]; rfl
  refine ⟨by rw [en]; exact h1, by rw [en]; exact h2, ?_, ?_⟩
  · intro i ci k ⟨hi, hk⟩ hf
    rw [en] at hi
    rw [ek] at hk
    have hb := List.all_eq_true.mp fitM_all i (List.mem_range.mpr hi)
    unfold fitM at hb
    rw [hk] at hb
    have hlt : k < (o_fk ci).length := (List.getElem?_eq_some_iff.mp hf).1
    have hb2 := List.all_eq_true.mp hb k (List.mem_range.mpr hlt)
    rw [hf] at hb2
    simp at hb2
    exact ⟨by rw [en, er]; exact hb2.1, by rw [ek, er]; exact hb2.2⟩
  · intro i t n j ⟨hi, hk⟩ h3 hj
    rw [en] at hi
    rw [ek] at hk
    have hb := List.all_eq_true.mp fitM_all i (List.mem_range.mpr hi)
    unfold fitM at hb
    rw [hk] at hb
    simp only [h3, decide_true, Bool.not_true, Bool.false_or] at hb
    have hb2 := List.all_eq_true.mp hb j (List.mem_range.mpr hj)
    simp at hb2
    exact ⟨by rw [en, er]; exact hb2.1, by rw [ek, er]; exact hb2.2⟩
/-! plain rows -/
theorem p_bd {ρ τ : Type} (r : ρ) (μ : o_Mem) (f : ρ → o_Mem → Option (τ × o_Mem)) : o_bd (some (r, μ)) f = f r μ := rfl
theorem p_seq {ρ : Type} (m : o_Mem) (f : o_Mem → Option (ρ × o_Mem)) : o_seq m f = f m := rfl
theorem p_ck {c : Prop} [Decidable c] {ρ : Type} (o : Option (ρ × o_Mem)) (h : c) : o_ck c o = o := if_pos h
theorem p_wI1 (μ : o_Mem) (a k : Nat) (x : Int32) (b j : Nat) : (o_wI μ a k x).1 b j = if b = a ∧ j = k then x else μ.1 b j := by
  unfold o_wI o_sI
  show (if b = a then upd (μ.1 a) k x else μ.1 b) j = _
  by_cases h : b = a
  · subst h
    rw [if_pos rfl]
    show (if j = k then x else μ.1 b j) = _
    by_cases h2 : j = k
    · rw [if_pos h2, if_pos ⟨rfl, h2⟩]
    · rw [if_neg h2, if_neg (fun z => h2 z.2)]
  · rw [if_neg h, if_neg (fun z => h z.1)]
theorem p_wI2 (μ : o_Mem) (a k : Nat) (x : Int32) : (o_wI μ a k x).2 = μ.2 := rfl
theorem p_wL1 (μ : o_Mem) (a k : Nat) (x : Int64) : (o_wL μ a k x).1 = μ.1 := rfl
theorem p_wL2 (μ : o_Mem) (a k : Nat) (x : Int64) (b j : Nat) : (o_wL μ a k x).2 b j = if b = a ∧ j = k then x else μ.2 b j := by
  unfold o_wL o_sL
  show (if b = a then vp_updL (μ.2 a) k x else μ.2 b) j = _
  by_cases h : b = a
  · subst h
    rw [if_pos rfl]
    show (if j = k then x else μ.2 b j) = _
    by_cases h2 : j = k
    · rw [if_pos h2, if_pos ⟨rfl, h2⟩]
    · rw [if_neg h2, if_neg (fun z => h2 z.2)]
  · rw [if_neg h, if_neg (fun z => h z.1)]
theorem p_sI1 (μ : o_Mem) (a : Nat) (f : Nat → Int32) (b j : Nat) : (o_sI μ a f).1 b j = if b = a then f j else μ.1 b j := by
  unfold o_sI
  show (if b = a then f else μ.1 b) j = _
  by_cases h : b = a
  · rw [if_pos h, if_pos h]
  · rw [if_neg h, if_neg h]
theorem p_sI2 (μ : o_Mem) (a : Nat) (f : Nat → Int32) : (o_sI μ a f).2 = μ.2 := rfl
theorem p_sL1 (μ : o_Mem) (a : Nat) (f : Nat → Int64) : (o_sL μ a f).1 = μ.1 := rfl
theorem p_sL2 (μ : o_Mem) (a : Nat) (f : Nat → Int64) (b j : Nat) : (o_sL μ a f).2 b j = if b = a then f j else μ.2 b j := by
  unfold o_sL
  show (if b = a then f else μ.2 b) j = _
  by_cases h : b = a
  · rw [if_pos h, if_pos h]
  · rw [if_neg h, if_neg h]
/-- a loop that has come to its end with less fuel comes there with more -/
theorem p_lp_more {T : Type} {head : Nat} {step : T → o_Mem → Option ((Nat × T) × o_Mem)} : ∀ (n m : Nat) (τ : T) (μ : o_Mem) (r : (Nat × T) × o_Mem), o_lp head step n τ μ = some r → n ≤ m → o_lp head step m τ μ = some r
  | 0, _, _, _, _, h, _ => by cases h
  | n + 1, 0, _, _, _, _, hm => by omega
  | n + 1, m + 1, τ, μ, r, h, hm => by
    unfold o_lp at h ⊢
    cases hs : step τ μ with
    | none => rw [hs] at h; cases h
    | some x =>
      rw [hs] at h
      show (if x.1.1 = head then o_lp head step m x.1.2 x.2 else some (x.1, x.2)) = some r
      have h' : (if x.1.1 = head then o_lp head step n x.1.2 x.2 else some (x.1, x.2)) = some r := h
      by_cases hx : x.1.1 = head
      · rw [if_pos hx] at h' ⊢
        exact p_lp_more n m _ _ r h' (by omega)
      · rw [if_neg hx] at h' ⊢
        exact h'
theorem p_lp {T : Type} {head : Nat} {step : T → o_Mem → Option ((Nat × T) × o_Mem)} {n : Nat} {τ : T} {μ : o_Mem} {r : (Nat × T) × o_Mem} (h : o_lp head step n τ μ = some r) (hn : n ≤ 2000000) : o_lp head step o_fuel τ μ = some r := p_lp_more n o_fuel τ μ r h (Nat.le_trans hn o_fuel_ge)
theorem p_lp_exit {T : Type} {head : Nat} {step : T → o_Mem → Option ((Nat × T) × o_Mem)} {n : Nat} {τ τ' : T} {μ μ' : o_Mem} {e : Nat} (h : step τ μ = some ((e, τ'), μ')) (he : ¬ e = head) : o_lp head step (n + 1) τ μ = some ((e, τ'), μ') := by
  unfold o_lp
  rw [h]
  exact if_neg he
theorem p_lp_next {T : Type} {head : Nat} {step : T → o_Mem → Option ((Nat × T) × o_Mem)} {n : Nat} {τ τ' : T} {μ μ' : o_Mem} (h : step τ μ = some ((head, τ'), μ')) : o_lp head step (n + 1) τ μ = o_lp head step n τ' μ' := by
  show o_bd (step τ μ) _ = _
  rw [h]
  exact if_pos rfl
/-- same answer, and the two memories agree again -/
def o_Eq2 {ρ : Type} (a b : Option (ρ × o_Mem)) (J : o_Mem → o_Mem → Prop) : Prop := ∃ (r : ρ) (μ1 μ2 : o_Mem), a = some (r, μ1) ∧ b = some (r, μ2) ∧ J μ1 μ2
