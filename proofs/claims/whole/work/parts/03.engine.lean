/-! ===== the engine: one judgement o_Ev over a world of numbered cells and its memory ===== -/
/-- the words that every method of ours is given: the good ones of the tables -/
def o_tb : List Cond := lw_tbl.filter goodWord
theorem o_tb_of {w : Cond} (h : w ∈ lw_tbl) (hg : goodWord w = true) : w ∈ o_tb := List.mem_filter.mpr ⟨h, hg⟩
theorem o_tb_good {w : Cond} (h : w ∈ o_tb) : goodWord w = true := (List.mem_filter.mp h).2
theorem o_tb_in {w : Cond} (h : w ∈ o_tb) : w ∈ lw_tbl := (List.mem_filter.mp h).1
/-- memory: ints and longs by cell and place -/
abbrev o_Mem : Type := (Nat → Nat → Int32) × (Nat → Nat → Int64)
def o_sI (μ : o_Mem) (i : Nat) (f : Nat → Int32) : o_Mem := (fun j => if j = i then f else μ.1 j, μ.2)
def o_sL (μ : o_Mem) (i : Nat) (f : Nat → Int64) : o_Mem := (μ.1, fun j => if j = i then f else μ.2 j)
def o_wI (μ : o_Mem) (i k : Nat) (x : Int32) : o_Mem := o_sI μ i (upd (μ.1 i) k x)
def o_wL (μ : o_Mem) (i k : Nat) (x : Int64) : o_Mem := o_sL μ i (vp_updL (μ.2 i) k x)
/-- a cell's kind: an object of a class (by its number), or an array (sort of element, length) -/
abbrev o_K : Type := Nat ⊕ (Nat × Nat)
/-- a world: how many cells, their kinds, where their references lead -/
abbrev o_Wd : Type := Nat × (Nat → o_K) × (Nat → Nat → Nat)
abbrev o_Cx : Type := Launch × va_G × (Nat → ClassId) × (Nat → Nat) × (Nat → Prop) × (Nat → Nat) × (Nat → Nat) × o_Wd
abbrev o_l (X : o_Cx) : Launch := X.1
abbrev o_D (X : o_Cx) : va_G := X.2.1
abbrev o_cA (X : o_Cx) : Nat → ClassId := X.2.2.1
abbrev o_ad (X : o_Cx) : Nat → Nat := X.2.2.2.1
abbrev o_A (X : o_Cx) : Nat → Prop := X.2.2.2.2.1
abbrev o_aK (X : o_Cx) : Nat → Nat := X.2.2.2.2.2.1
abbrev o_aV (X : o_Cx) : Nat → Nat := X.2.2.2.2.2.2.1
abbrev o_n (X : o_Cx) : Nat := X.2.2.2.2.2.2.2.1
abbrev o_kd (X : o_Cx) : Nat → o_K := X.2.2.2.2.2.2.2.2.1
abbrev o_rf (X : o_Cx) : Nat → Nat → Nat := X.2.2.2.2.2.2.2.2.2
/-- the sort of a class's fields: 0 an int or boolean, 1 a long, 2 a reference -/
def o_sort (d : FieldType) : Nat := match d with
  | .int => 0
  | .boolean => 0
  | .byte => 0
  | .long => 1
  | _ => 2
def o_fk (ci : Nat) : List Nat := match ci with
  | 0 => [0, 2, 2]
  | 1 => [0, 2, 2, 2, 2, 2]
  | 2 => [0, 0, 0, 0, 0, 0, 0, 2]
  | 3 => [0, 0, 0, 2, 2, 2, 2]
  | 4 => [2, 0, 0, 0, 0, 0, 0, 0, 0, 1, 0, 0]
  | 5 => [2, 2, 0, 0]
  | 6 => [2, 0, 0, 0, 2]
  | 7 => [0, 0, 0, 2]
  | 8 => [0, 0, 0, 0, 0, 0, 0, 0, 0, 2, 2, 2, 2, 2, 2, 2, 2, 2]
  | 9 => [2, 2, 0]
  | 10 => [2, 2, 2, 2, 0]
  | 11 => [0, 1, 1, 2, 2, 2, 2, 2, 2, 2, 0, 2, 2, 2, 2, 2, 2, 2, 2]
  | _ => [2, 2, 0, 1, 1, 2, 2, 2, 2, 2, 0, 0, 0, 0, 0, 0, 0, 0, 0, 0, 0, 2, 0, 0, 2, 2, 2, 2, 2, 2, 2, 0, 0, 0, 2, 2, 2, 0, 0]
def o_val (X : o_Cx) (μ : o_Mem) (i k b : Nat) : Value := if b = 0 then .int (μ.1 i k) else if b = 1 then .long (μ.2 i k) else .ref (o_ad X (o_rf X i k))
def o_arr (X : o_Cx) (μ : o_Mem) (i t : Nat) : (Nat → Int32) ⊕ (Nat → Int64) ⊕ (Nat → UInt32) ⊕ (Nat → UInt64) ⊕ (Nat → Option Nat) :=
  if t = 0 then .inl (μ.1 i) else if t = 1 then .inl (μ.1 i) else if t = 2 then .inr (.inl (μ.2 i)) else .inr (.inr (.inr (.inr (fun j => some (o_ad X (o_rf X i j))))))
def o_cellK (X : o_Cx) (μ : o_Mem) (i : Nat) (κ : o_K) : va_E := match κ with
  | .inl ci => .inr (ci, (o_fk ci).mapIdx (fun k b => o_val X μ i k b))
  | .inr (t, n) => .inl (o_cA X t, n, o_arr X μ i t)
def o_cell (X : o_Cx) (μ : o_Mem) (i : Nat) : va_E := o_cellK X μ i (o_kd X i)
def o_ws (X : o_Cx) (μ : o_Mem) : va_W := (List.range (o_n X)).map fun i => (o_ad X i, o_cell X μ i)
def o_tys (X : o_Cx) : List (ClassId × FieldType) := [(o_cA X 0, .int), (o_cA X 1, .byte), (o_cA X 2, .long), (o_cA X 3, .object "OddCancel$Tray"), (o_cA X 4, .object "OddCancel$Valley"), (o_cA X 5, .object "OddCancel$Plan")]
/-- where a class's reference fields lead -/
def o_ft (ci k : Nat) : o_K := match ci, k with
  | 0, _ => .inr (0, 12)
  | 1, _ => .inr (0, 12)
  | 2, _ => .inr (0, 60)
  | 3, _ => .inr (0, 60)
  | 4, _ => .inr (1, 900)
  | 5, 0 => .inl 1
  | 5, _ => .inr (2, 13)
  | 6, 0 => .inr (0, 6)
  | 6, _ => .inr (0, 36)
  | 7, _ => .inr (2, 60)
  | 8, 9 => .inr (0, 6)
  | 8, 10 => .inr (0, 6)
  | 8, 11 => .inr (0, 6)
  | 8, 12 => .inr (0, 48)
  | 8, 13 => .inr (0, 36)
  | 8, 14 => .inr (0, 36)
  | 8, 15 => .inl 1
  | 8, 16 => .inl 1
  | 8, _ => .inr (2, 18)
  | 9, 0 => .inl 4
  | 9, _ => .inl 8
  | 10, 0 => .inl 4
  | 10, 1 => .inl 8
  | 10, 2 => .inl 3
  | 10, _ => .inr (0, 3)
  | 11, 3 => .inr (3, 4)
  | 11, 4 => .inl 8
  | 11, 5 => .inl 8
  | 11, 6 => .inl 3
  | 11, 7 => .inl 3
  | 11, 8 => .inr (4, 3)
  | 11, 9 => .inr (5, 3)
  | 11, 11 => .inl 4
  | 11, 12 => .inl 9
  | 11, 13 => .inl 10
  | 11, 14 => .inl 2
  | 11, 15 => .inr (0, 5)
  | 11, 16 => .inl 6
  | 11, 17 => .inl 5
  | 11, _ => .inl 0
  | _, 0 => .inr (0, 3756)
  | _, 1 => .inr (2, 96)
  | _, 5 => .inr (0, 4)
  | _, 6 => .inr (0, 4)
  | _, 7 => .inr (2, 240)
  | _, 8 => .inr (1, 900)
  | _, 9 => .inr (1, 900)
  | _, 21 => .inr (0, 3)
  | _, 24 => .inr (0, 6)
  | _, 25 => .inr (0, 36)
  | _, 26 => .inr (2, 13)
  | _, 27 => .inr (0, 3)
  | _, 28 => .inr (0, 4)
  | _, 29 => .inr (0, 4)
  | _, 30 => .inr (0, 4)
  | _, 34 => .inr (0, 80)
  | _, _ => .inr (0, 5)
def o_et (t : Nat) : Nat := match t with
  | 3 => 7
  | 4 => 8
  | _ => 3
def o_is (X : o_Cx) (a : Nat) (κ : o_K) : Prop := a < o_n X ∧ o_kd X a = κ
/-- the world is well made -/
def o_ok (X : o_Cx) : Prop := (∀ i j, i < o_n X → j < o_n X → o_ad X i = o_ad X j → i = j) ∧ (∀ i, i < o_n X → o_A X (o_ad X i)) ∧
  (∀ i ci k, o_is X i (.inl ci) → (o_fk ci)[k]? = some 2 → o_is X (o_rf X i k) (o_ft ci k)) ∧
  (∀ i t n j, o_is X i (.inr (t, n)) → 3 ≤ t → j < n → o_is X (o_rf X i j) (.inl (o_et t)))
theorem o_ws_at {X : o_Cx} {μ : o_Mem} {i : Nat} (h : i < o_n X) : (o_ws X μ)[i]? = some (o_ad X i, o_cell X μ i) := by
  simp [o_ws, List.getElem?_map, List.getElem?_range h]
theorem o_ws_out {X : o_Cx} {μ : o_Mem} {i : Nat} (h : ¬ i < o_n X) : (o_ws X μ)[i]? = none := by
  simp [o_ws, Nat.not_lt.mp h]
theorem o_ws_len {X : o_Cx} {μ : o_Mem} : (o_ws X μ).length = o_n X := by simp [o_ws]
theorem o_ws_D {X : o_Cx} {μ : o_Mem} (h : o_ok X) : va_D (o_A X) (o_ws X μ) := by
  refine ⟨fun i j p q hi hj hpq => ?_, fun k q hk => ?_⟩
  · by_cases h1 : i < o_n X
    · by_cases h2 : j < o_n X
      · rw [o_ws_at h1] at hi
        rw [o_ws_at h2] at hj
        cases hi; cases hj
        exact h.1 i j h1 h2 hpq
      · rw [o_ws_out h2] at hj; cases hj
    · rw [o_ws_out h1] at hi; cases hi
  · by_cases h1 : k < o_n X
    · rw [o_ws_at h1] at hk
      cases hk
      exact h.2.1 k h1
    · rw [o_ws_out h1] at hk; cases hk
theorem o_ws_set {X : o_Cx} {μ μ' : o_Mem} {i : Nat} {E : va_E} (he : o_cell X μ' i = E) (ho : ∀ j, j ≠ i → o_cell X μ' j = o_cell X μ j) : (o_ws X μ).set i (o_ad X i, E) = o_ws X μ' := by
  apply List.ext_getElem?
  intro j
  by_cases hj : j < o_n X
  · rw [o_ws_at hj, List.getElem?_set]
    by_cases hij : i = j
    · subst hij
      rw [if_pos rfl, if_pos (by rw [o_ws_len]; exact hj), he]
    · rw [if_neg hij, o_ws_at hj, ho j (fun h => hij h.symm)]
  · rw [o_ws_out hj, List.getElem?_set]
    by_cases hij : i = j
    · subst hij
      rw [if_pos rfl, if_neg (by rw [o_ws_len]; exact hj)]
    · rw [if_neg hij, o_ws_out hj]
theorem o_cell_sI {X : o_Cx} {μ : o_Mem} {i j : Nat} {f : Nat → Int32} (h : j ≠ i) : o_cell X (o_sI μ i f) j = o_cell X μ j := by
  have e : (o_sI μ i f).1 j = μ.1 j := if_neg h
  unfold o_cell o_cellK
  cases o_kd X j with
  | inl ci => simp only [o_val, e]; rfl
  | inr q => simp only [o_arr, e]; rfl
theorem o_cell_sL {X : o_Cx} {μ : o_Mem} {i j : Nat} {f : Nat → Int64} (h : j ≠ i) : o_cell X (o_sL μ i f) j = o_cell X μ j := by
  have e : (o_sL μ i f).2 j = μ.2 j := if_neg h
  unfold o_cell o_cellK
  cases o_kd X j with
  | inl ci => simp only [o_val, e]; rfl
  | inr q => simp only [o_arr, e]; rfl
theorem o_sI_at {μ : o_Mem} {i : Nat} {f : Nat → Int32} : (o_sI μ i f).1 i = f := if_pos rfl
theorem o_sL_at {μ : o_Mem} {i : Nat} {f : Nat → Int64} : (o_sL μ i f).2 i = f := if_pos rfl
theorem o_is_cell {X : o_Cx} {μ : o_Mem} {a : Nat} {κ : o_K} (h : o_is X a κ) : (o_ws X μ)[a]? = some (o_ad X a, o_cellK X μ a κ) := by
  rw [o_ws_at h.1, o_cell, h.2]
/-- string constants, and what else of the start every method is given -/
def o_txt (i : Nat) : String := if i = 0 then "strike worth hand person law under over by from to acts on weight letter odds day post drink sober any when struck waits drunk loop end stop " else " strike hand person law acts letter odds worth under over by from to on weight day post drink sober any when loop end stop struck waits drunk "
def o_byt (i : Nat) : List Int32 := if i = 0 then [115, 116, 114, 105, 107, 101, 32, 119, 111, 114, 116, 104, 32, 104, 97, 110, 100, 32, 112, 101, 114, 115, 111, 110, 32, 108, 97, 119, 32, 117, 110, 100, 101, 114, 32, 111, 118, 101, 114, 32, 98, 121, 32, 102, 114, 111, 109, 32, 116, 111, 32, 97, 99, 116, 115, 32, 111, 110, 32, 119, 101, 105, 103, 104, 116, 32, 108, 101, 116, 116, 101, 114, 32, 111, 100, 100, 115, 32, 100, 97, 121, 32, 112, 111, 115, 116, 32, 100, 114, 105, 110, 107, 32, 115, 111, 98, 101, 114, 32, 97, 110, 121, 32, 119, 104, 101, 110, 32, 115, 116, 114, 117, 99, 107, 32, 119, 97, 105, 116, 115, 32, 100, 114, 117, 110, 107, 32, 108, 111, 111, 112, 32, 101, 110, 100, 32, 115, 116, 111, 112, 32] else [32, 115, 116, 114, 105, 107, 101, 32, 104, 97, 110, 100, 32, 112, 101, 114, 115, 111, 110, 32, 108, 97, 119, 32, 97, 99, 116, 115, 32, 108, 101, 116, 116, 101, 114, 32, 111, 100, 100, 115, 32, 119, 111, 114, 116, 104, 32, 117, 110, 100, 101, 114, 32, 111, 118, 101, 114, 32, 98, 121, 32, 102, 114, 111, 109, 32, 116, 111, 32, 111, 110, 32, 119, 101, 105, 103, 104, 116, 32, 100, 97, 121, 32, 112, 111, 115, 116, 32, 100, 114, 105, 110, 107, 32, 115, 111, 98, 101, 114, 32, 97, 110, 121, 32, 119, 104, 101, 110, 32, 108, 111, 111, 112, 32, 101, 110, 100, 32, 115, 116, 111, 112, 32, 115, 116, 114, 117, 99, 107, 32, 119, 97, 105, 116, 115, 32, 100, 114, 117, 110, 107, 32]
def o_len : List Nat := [(o_byt 0).length, (o_byt 1).length]
def o_bytL : List (List Int32) := [o_byt 0, o_byt 1]
def o_St (X : o_Cx) (s : State) : Prop := vk_R "OddCancel$Reader" 70 (o_txt 0) (o_aK X 0) s ∧ vk_R "OddCancelModel" 180 (o_txt 1) (o_aK X 1) s ∧ vk_S 2 o_len o_bytL (o_aK X) (o_aV X) (o_A X) s s.heap ∧ va_Z "java/lang/String" "COMPACT_STRINGS" "Z" (.int 1) (o_A X) s s.heap ∧ va_Nw (.methodLinkNest "OddCancel$Valley" 102 yX11_within "OddCancel") s ∧ va_Zq "jdk/internal/util/Preconditions" "SIOOBE_FORMATTER" "Ljava/util/function/BiFunction;" (o_A X) s s.heap
