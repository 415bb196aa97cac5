/-! ===== WORDS and NAMES ===== -/
def kw0 : List (List Nat) := [[115, 116, 114, 105, 107, 101], [119, 111, 114, 116, 104], [104, 97, 110, 100], [112, 101, 114, 115, 111, 110], [108, 97, 119], [117, 110, 100, 101, 114], [111, 118, 101, 114], [98, 121], [102, 114, 111, 109], [116, 111], [97, 99, 116, 115], [111, 110], [119, 101, 105, 103, 104, 116], [108, 101, 116, 116, 101, 114], [111, 100, 100, 115], [100, 97, 121], [112, 111, 115, 116], [100, 114, 105, 110, 107], [115, 111, 98, 101, 114], [97, 110, 121], [119, 104, 101, 110], [115, 116, 114, 117, 99, 107], [119, 97, 105, 116, 115], [100, 114, 117, 110, 107], [108, 111, 111, 112], [101, 110, 100], [115, 116, 111, 112]]
def kw1 : List (List Nat) := [[115, 116, 114, 105, 107, 101], [104, 97, 110, 100], [112, 101, 114, 115, 111, 110], [108, 97, 119], [97, 99, 116, 115], [108, 101, 116, 116, 101, 114], [111, 100, 100, 115], [119, 111, 114, 116, 104], [117, 110, 100, 101, 114], [111, 118, 101, 114], [98, 121], [102, 114, 111, 109], [116, 111], [111, 110], [119, 101, 105, 103, 104, 116], [100, 97, 121], [112, 111, 115, 116], [100, 114, 105, 110, 107], [115, 111, 98, 101, 114], [97, 110, 121], [119, 104, 101, 110], [108, 111, 111, 112], [101, 110, 100], [115, 116, 111, 112], [115, 116, 114, 117, 99, 107], [119, 97, 105, 116, 115], [100, 114, 117, 110, 107]]
def pmL : List Nat := [0, 7, 1, 2, 3, 8, 9, 10, 11, 12, 4, 13, 14, 5, 6, 15, 16, 17, 18, 19, 20, 24, 25, 26, 21, 22, 23]
def stL0 : List Nat := [0, 7, 13, 18, 25, 29, 35, 40, 43, 48, 51, 56, 59, 66, 73, 78, 82, 87, 93, 99, 103, 108, 115, 121, 127, 132, 136]
def stL1 : List Nat := [1, 8, 13, 20, 24, 29, 36, 41, 47, 53, 58, 61, 66, 69, 72, 79, 83, 88, 94, 100, 104, 109, 114, 118, 123, 130, 136]
def ixN : List (List Nat) → List Nat → Nat → Int32
  | [], _, _ => -1
  | k :: K, cs, i => if k = cs then nI i else ixN K cs (i + 1)
theorem ixN_no : ∀ (K : List (List Nat)) (cs : List Nat) (i : Nat), ¬ cs ∈ K → ixN K cs i = -1
  | [], _, _, _ => rfl
  | k :: K, cs, i, h => by
    unfold ixN
    rw [if_neg (fun e => h (by rw [e]; exact List.mem_cons_self)), ixN_no K cs (i + 1) (fun e => h (List.mem_cons_of_mem k e))]
/-- a WORD of the class and the reference's for it -/
def kR (x y : Int32) : Prop := (∃ c, c < 27 ∧ x = nI c ∧ y = nI (pmL.getD c 0)) ∨ (x = -1 ∧ y = -1)
theorem kw_len : ∀ k ∈ kw0, 1 ≤ k.length ∧ k.length ≤ 8 ∧ ∀ c ∈ k, 97 ≤ c ∧ c ≤ 122 := by decide +kernel
theorem kw_sub : ∀ k ∈ kw1, k ∈ kw0 := by decide +kernel
theorem kw_ix : ∀ k ∈ kw0, ∃ c, c < 27 ∧ kw0.getD c [] = k ∧ ixN kw0 k 0 = nI c ∧ ixN kw1 k 0 = nI (pmL.getD c 0) := by decide +kernel
theorem kR_ix (cs : List Nat) : kR (ixN kw0 cs 0) (ixN kw1 cs 0) := by
  by_cases h : cs ∈ kw0
  · obtain ⟨c, h1, -, h2, h3⟩ := kw_ix cs h
    exact Or.inl ⟨c, h1, h2, h3⟩
  · exact Or.inr ⟨ixN_no _ _ _ h, ixN_no _ _ _ (fun z => h (kw_sub cs z))⟩
theorem pm_inj : ∀ c, c < 27 → ∀ d, d < 27 → pmL.getD c 0 = pmL.getD d 0 → c = d := by decide +kernel
theorem pm_lt : ∀ c, c < 27 → pmL.getD c 0 < 27 := by decide +kernel
theorem kR_eq {x y : Int32} (h : kR x y) {c : Nat} (hc : c < 27) : (x = nI c ↔ y = nI (pmL.getD c 0)) := by
  have h3 := pm_lt c hc
  rcases h with ⟨d, h1, rfl, rfl⟩ | ⟨rfl, rfl⟩
  · have h2 := pm_lt d h1
    rw [nI_inj (by omega) (by omega), nI_inj (by omega) (by omega)]
    exact ⟨fun z => by rw [z], fun z => pm_inj d h1 c hc z⟩
  · exact ⟨fun z => absurd z.symm (nI_nm1 (by omega)), fun z => absurd z.symm (nI_nm1 (by omega))⟩
theorem kR_m1 {x y : Int32} (h : kR x y) : (x = -1 ↔ y = -1) := by
  rcases h with ⟨d, h1, rfl, rfl⟩ | ⟨rfl, rfl⟩
  · have h2 := pm_lt d h1
    exact ⟨fun z => absurd z (nI_nm1 (by omega)), fun z => absurd z (nI_nm1 (by omega))⟩
  · exact ⟨fun _ => rfl, fun _ => rfl⟩
/-- lists by their last -/
theorem snoc_c (cs : List Nat) : cs = [] ∨ ∃ ds c, cs = ds ++ [c] := by
  cases h : cs.reverse with
  | nil =>
    have := congrArg List.reverse h
    rw [List.reverse_reverse] at this
    exact Or.inl this
  | cons c rs =>
    have := congrArg List.reverse h
    rw [List.reverse_reverse, List.reverse_cons] at this
    exact Or.inr ⟨rs.reverse, c, this⟩
theorem e32_s (cs : List Nat) (c : Nat) : e32 (cs ++ [c]) = e32 cs * 32 + (c - 96) := by unfold e32; rw [List.foldl_append]; rfl
theorem e256_s (cs : List Nat) (c : Nat) : e256 (cs ++ [c]) = e256 cs * 256 + c := by unfold e256; rw [List.foldl_append]; rfl
def sml (cs : List Nat) : Prop := ∀ c ∈ cs, 97 ≤ c ∧ c ≤ 122
theorem sml_s {cs : List Nat} {c : Nat} (h : sml (cs ++ [c])) : sml cs ∧ 97 ≤ c ∧ c ≤ 122 := ⟨fun d hd => h d (List.mem_append_left _ hd), h c (List.mem_append_right _ List.mem_cons_self)⟩
theorem e32_inj : ∀ (n : Nat) (cs ds : List Nat), cs.length ≤ n → sml cs → sml ds → e32 cs = e32 ds → cs = ds := by
  intro n
  induction n with
  | zero =>
    intro cs ds hl h1 h2 he
    have hc : cs = [] := List.eq_nil_of_length_eq_zero (by omega)
    rcases snoc_c ds with rfl | ⟨ds, d, rfl⟩
    · exact hc
    · have := (sml_s h2).2
      rw [hc, e32_s, show e32 [] = 0 from rfl] at he
      omega
  | succ n ih =>
    intro cs ds hl h1 h2 he
    rcases snoc_c cs with rfl | ⟨cs, c, rfl⟩
    · rcases snoc_c ds with rfl | ⟨ds, d, rfl⟩
      · rfl
      · have := (sml_s h2).2
        rw [e32_s, show e32 [] = 0 from rfl] at he
        omega
    · obtain ⟨a1, a2⟩ := sml_s h1
      rcases snoc_c ds with rfl | ⟨ds, d, rfl⟩
      · rw [e32_s, show e32 [] = 0 from rfl] at he
        omega
      · obtain ⟨b1, b2⟩ := sml_s h2
        rw [e32_s, e32_s] at he
        rw [List.length_append] at hl
        have hl1 : [c].length = 1 := rfl
        rw [ih cs ds (by omega) a1 b1 (by omega), show c = d by omega]
theorem e256_inj : ∀ (n : Nat) (cs ds : List Nat), cs.length ≤ n → sml cs → sml ds → e256 cs = e256 ds → cs = ds := by
  intro n
  induction n with
  | zero =>
    intro cs ds hl h1 h2 he
    have hc : cs = [] := List.eq_nil_of_length_eq_zero (by omega)
    rcases snoc_c ds with rfl | ⟨ds, d, rfl⟩
    · exact hc
    · have := (sml_s h2).2
      rw [hc, e256_s, show e256 [] = 0 from rfl] at he
      omega
  | succ n ih =>
    intro cs ds hl h1 h2 he
    rcases snoc_c cs with rfl | ⟨cs, c, rfl⟩
    · rcases snoc_c ds with rfl | ⟨ds, d, rfl⟩
      · rfl
      · have := (sml_s h2).2
        rw [e256_s, show e256 [] = 0 from rfl] at he
        omega
    · obtain ⟨a1, a2⟩ := sml_s h1
      rcases snoc_c ds with rfl | ⟨ds, d, rfl⟩
      · rw [e256_s, show e256 [] = 0 from rfl] at he
        omega
      · obtain ⟨b1, b2⟩ := sml_s h2
        rw [e256_s, e256_s] at he
        rw [List.length_append] at hl
        have hl1 : [c].length = 1 := rfl
        rw [ih cs ds (by omega) a1 b1 (by omega), show c = d by omega]
theorem e32_lt : ∀ (n : Nat) (cs : List Nat), cs.length ≤ n → sml cs → e32 cs < 32 ^ n := by
  intro n
  induction n with
  | zero =>
    intro cs hl h
    have hc : cs = [] := List.eq_nil_of_length_eq_zero (by omega)
    rw [hc]
    decide
  | succ n ih =>
    intro cs hl h
    rw [Nat.pow_succ]
    rcases snoc_c cs with rfl | ⟨cs, c, rfl⟩
    · have := ih [] (by show 0 ≤ n; omega) (fun c hc => by cases hc)
      rw [show e32 [] = 0 from rfl] at this ⊢
      omega
    · obtain ⟨a1, a2⟩ := sml_s h
      rw [List.length_append] at hl
      have hl1 : [c].length = 1 := rfl
      have := ih cs (by omega) a1
      rw [e32_s]
      omega
theorem e256_lt : ∀ (n : Nat) (cs : List Nat), cs.length ≤ n → sml cs → 255 * e256 cs + 122 ≤ 122 * 256 ^ n := by
  intro n
  induction n with
  | zero =>
    intro cs hl h
    have hc : cs = [] := List.eq_nil_of_length_eq_zero (by omega)
    rw [hc]
    decide
  | succ n ih =>
    intro cs hl h
    rw [Nat.pow_succ]
    rcases snoc_c cs with rfl | ⟨cs, c, rfl⟩
    · have := ih [] (by show 0 ≤ n; omega) (fun c hc => by cases hc)
      rw [show e256 [] = 0 from rfl] at this ⊢
      omega
    · obtain ⟨a1, a2⟩ := sml_s h
      rw [List.length_append] at hl
      have hl1 : [c].length = 1 := rfl
      have := ih cs (by omega) a1
      rw [e256_s]
      omega
theorem nm_e32 {cs ds : List Nat} (h1 : cs.length ≤ 8) (h2 : ds.length ≤ 8) (s1 : sml cs) (s2 : sml ds) : (lN (e32 cs) = lN (e32 ds)) ↔ cs = ds := by
  have a := e32_lt 8 cs h1 s1
  have b := e32_lt 8 ds h2 s2
  rw [pk_lEQ (by omega) (by omega)]
  exact ⟨fun z => e32_inj 8 cs ds h1 s1 s2 z, fun z => by rw [z]⟩
theorem nm_e256 {cs ds : List Nat} (h1 : cs.length ≤ 8) (h2 : ds.length ≤ 8) (s1 : sml cs) (s2 : sml ds) : (lN (e256 cs) = lN (e256 ds)) ↔ cs = ds := by
  have a := e256_lt 8 cs h1 s1
  have b := e256_lt 8 ds h2 s2
  rw [pk_lEQ (by omega) (by omega)]
  exact ⟨fun z => e256_inj 8 cs ds h1 s1 s2 z, fun z => by rw [z]⟩
theorem nm_ne1 {cs : List Nat} (h1 : cs.length ≤ 8) (s1 : sml cs) : ¬ lN (e32 cs) = -1 := by
  have a := e32_lt 8 cs h1 s1
  intro z
  have := congrArg Int64.toInt z
  have h0 := (pk_lLE (a := 0) (b := e32 cs) (by omega) (by omega)).mpr (by omega)
  rw [z] at h0
  exact absurd h0 (by decide)
/-- the letters from p on -/
def wd (T : Nat → Int32) : Nat → Nat → List Nat
  | _, 0 => []
  | p, L + 1 => (T p).toNatClampNeg :: wd T (p + 1) L
theorem wd_s (T : Nat → Int32) : ∀ L p, wd T p (L + 1) = wd T p L ++ [(T (p + L)).toNatClampNeg]
  | 0, p => rfl
  | L + 1, p => by
    show (T p).toNatClampNeg :: wd T (p + 1) (L + 1) = (T p).toNatClampNeg :: (wd T (p + 1) L ++ [(T (p + (L + 1))).toNatClampNeg])
    rw [wd_s T L (p + 1), show p + 1 + L = p + (L + 1) by omega]
theorem wd_len (T : Nat → Int32) : ∀ L p, (wd T p L).length = L
  | 0, _ => rfl
  | L + 1, p => by
    show (wd T (p + 1) L).length + 1 = L + 1
    rw [wd_len T L (p + 1)]
theorem wd_eq (T : Nat → Int32) : ∀ (w : List Nat) (p : Nat), (wd T p w.length = w) ↔ ∀ j, j < w.length → (T (p + j)).toNatClampNeg = w.getD j 0
  | [], p => ⟨fun _ j hj => absurd hj (by show ¬ j < 0; omega), fun _ => rfl⟩
  | c :: w, p => by
    have ih := wd_eq T w (p + 1)
    show ((T p).toNatClampNeg :: wd T (p + 1) w.length = c :: w) ↔ _
    constructor
    · intro h j hj
      injection h with h1 h2
      cases j with
      | zero => exact h1
      | succ j =>
        have := ih.mp h2 j (by have : j + 1 < w.length + 1 := hj; omega)
        rw [show p + 1 + j = p + (j + 1) by omega] at this
        exact this
    · intro h
      have h0 : (T p).toNatClampNeg = c := h 0 (by show 0 < w.length + 1; omega)
      rw [h0, ih.mpr (fun j hj => by
        have := h (j + 1) (by show j + 1 < w.length + 1; omega)
        rw [show p + (j + 1) = p + 1 + j by omega] at this
        exact this)]
abbrev isSm (x : Int32) : Prop := 97 ≤ x.toInt ∧ x.toInt ≤ 122
abbrev isDg (x : Int32) : Prop := 48 ≤ x.toInt ∧ x.toInt ≤ 57
theorem sm_nI {x : Int32} (h : isSm x) : x = nI x.toNatClampNeg ∧ 97 ≤ x.toNatClampNeg ∧ x.toNatClampNeg ≤ 122 := by
  obtain ⟨k, h1, h2, h3⟩ := rg_nI (x := x) (n := 123) ⟨by omega, by omega⟩
  rw [h3] at h ⊢
  have h' : 97 ≤ (nI k).toInt ∧ (nI k).toInt ≤ 122 := h
  rw [nI_toInt h2] at h'
  rw [nI_clamp h2]
  exact ⟨rfl, by omega, by omega⟩
theorem wd_sml {T : Nat → Int32} : ∀ L p, (∀ k, p ≤ k → k < p + L → isSm (T k)) → sml (wd T p L)
  | 0, _, _ => fun c hc => by cases hc
  | L + 1, p, h => fun c hc => by
    have hc' : c ∈ (T p).toNatClampNeg :: wd T (p + 1) L := hc
    rcases List.mem_cons.mp hc' with h1 | h1
    · have := sm_nI (h p (by omega) (by omega))
      rw [h1]
      exact this.2
    · exact wd_sml L (p + 1) (fun k h2 h3 => h k (by omega) (by omega)) c h1
