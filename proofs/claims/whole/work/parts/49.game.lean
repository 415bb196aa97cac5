/-! ===== games of two brothers: what is best ===== -/
def iN (z : Int) : Int32 := Int32.ofInt z
theorem iN_t {z : Int} (h : -1000000 ≤ z ∧ z ≤ 1000000) : (iN z).toInt = z := by
  unfold iN
  rw [Int32.toInt_ofInt]
  show z.bmod 4294967296 = z
  exact Int.bmod_eq_of_le (by omega) (by omega)
theorem iN_add {y z : Int} (hy : -1000 ≤ y ∧ y ≤ 1000) (hz : -1000 ≤ z ∧ z ≤ 1000) : iN y + iN z = iN (y + z) := by
  apply Int32.toInt_inj.mp
  rw [Int32.toInt_add, iN_t (by omega), iN_t (by omega), iN_t (by omega)]
  exact Int.bmod_eq_of_le (by omega) (by omega)
theorem iN_neg {z : Int} (hz : -1000 ≤ z ∧ z ≤ 1000) : - iN z = iN (-z) := by
  apply Int32.toInt_inj.mp
  rw [Int32.toInt_neg, iN_t (by omega), iN_t (by omega)]
  exact Int.bmod_eq_of_le (by omega) (by omega)
theorem iN_le {y z : Int} (hy : -1000 ≤ y ∧ y ≤ 1000) (hz : -1000 ≤ z ∧ z ≤ 1000) : (iN y ≤ iN z) ↔ y ≤ z := by rw [i32_le, iN_t (by omega), iN_t (by omega)]
theorem iN_lt {y z : Int} (hy : -1000 ≤ y ∧ y ≤ 1000) (hz : -1000 ≤ z ∧ z ≤ 1000) : (iN y < iN z) ↔ y < z := by rw [i32_lt, iN_t (by omega), iN_t (by omega)]
theorem iN_eq {y z : Int} (hy : -1000 ≤ y ∧ y ≤ 1000) (hz : -1000 ≤ z ∧ z ≤ 1000) : (iN y = iN z) ↔ y = z := by rw [i32_eq, iN_t (by omega), iN_t (by omega)]
theorem iN_of {x : Int32} (h : -1000 ≤ x.toInt ∧ x.toInt ≤ 1000) : x = iN x.toInt := by
  apply Int32.toInt_inj.mp
  rw [iN_t (by omega)]
theorem iN_far {z : Int} (hz : -1000 ≤ z ∧ z ≤ 1000) : ¬ iN z = 1000000 := by
  rw [i32_eq, iN_t (by omega), show (1000000 : Int32).toInt = 1000000 from rfl]
  omega
/-- whether v is better than x for the one whose turn it is -/
def btr (d : Nat) (x v : Int) : Bool := if d % 2 = 0 then decide (x < v) else decide (v < x)
/-- the best of the first ones, and which -/
def scn (d : Nat) (tk : Nat → Bool) (v : Nat → Int) : Nat → Option (Int × Nat)
  | 0 => none
  | i + 1 => if tk i then scn d tk v i else match scn d tk v i with
    | none => some (v i, i)
    | some x => if btr d x.1 (v i) then some (v i, i) else some x
def valS (o : Option (Int × Nat)) : Int := match o with
  | none => 0
  | some x => x.1
def pay (A B : Nat → Int) (d i : Nat) : Int := if d % 2 = 0 then A i else - B i
def bst (n : Nat) (A B : Nat → Int) : Nat → Nat → Nat → Int
  | 0, _, _ => 0
  | k + 1, d, a => valS (scn d a.testBit (fun i => pay A B d i + bst n A B k (d + 1) (a ||| 2 ^ i)) n)
theorem scn_mem {d : Nat} {tk : Nat → Bool} {v : Nat → Int} : ∀ (n : Nat) (x : Int × Nat), scn d tk v n = some x → x.2 < n ∧ tk x.2 = false ∧ v x.2 = x.1
  | 0, x, h => by cases h
  | i + 1, x, h => by
    unfold scn at h
    by_cases ht : tk i
    · rw [if_pos ht] at h
      have := scn_mem i x h
      exact ⟨by omega, this.2⟩
    · rw [if_neg ht] at h
      have htf : tk i = false := by cases hh : tk i with
        | true => exact absurd hh ht
        | false => rfl
      cases hs : scn d tk v i with
      | none =>
        rw [hs] at h
        cases h
        exact ⟨by omega, htf, rfl⟩
      | some y =>
        rw [hs] at h
        have h' : (if btr d y.1 (v i) then some (v i, i) else some y) = some x := h
        by_cases hb : btr d y.1 (v i)
        · rw [if_pos hb] at h'
          cases h'
          exact ⟨by omega, htf, rfl⟩
        · rw [if_neg hb] at h'
          cases h'
          have := scn_mem i _ hs
          exact ⟨by omega, this.2⟩
theorem scn_none {d : Nat} {tk : Nat → Bool} {v : Nat → Int} : ∀ n, scn d tk v n = none → ∀ i, i < n → tk i = true
  | 0, _, i, hi => by omega
  | n + 1, h, i, hi => by
    unfold scn at h
    by_cases ht : tk n
    · rw [if_pos ht] at h
      by_cases e : i = n
      · rw [e]; exact ht
      · exact scn_none n h i (by omega)
    · rw [if_neg ht] at h
      cases hs : scn d tk v n with
      | none => rw [hs] at h; cases h
      | some y =>
        rw [hs] at h
        have h' : (if btr d y.1 (v n) then some (v n, n) else some y) = none := h
        by_cases hb : btr d y.1 (v n)
        · rw [if_pos hb] at h'; cases h'
        · rw [if_neg hb] at h'; cases h'
theorem scn_full {d : Nat} {tk : Nat → Bool} {v : Nat → Int} : ∀ n, (∀ i, i < n → tk i = true) → scn d tk v n = none
  | 0, _ => rfl
  | n + 1, h => by
    unfold scn
    rw [if_pos (h n (by omega))]
    exact scn_full n (fun i hi => h i (by omega))
theorem scn_c {d : Nat} {tk : Nat → Bool} {v v' : Nat → Int} : ∀ n, (∀ i, i < n → tk i = false → v' i = v i) → scn d tk v' n = scn d tk v n
  | 0, _ => rfl
  | n + 1, h => by
    unfold scn
    rw [scn_c n (fun i hi => h i (by omega))]
    cases ht : tk n with
    | true => rfl
    | false => rw [h n (by omega) ht]
/-- the first one of the best, for the elder -/
theorem scn_first {tk : Nat → Bool} {v : Nat → Int} : ∀ (n : Nat) (x : Int × Nat), scn 0 tk v n = some x → (∀ i, i < n → tk i = false → v i ≤ x.1) ∧ ∀ i, i < x.2 → tk i = false → v i < x.1
  | 0, x, h => by cases h
  | n + 1, x, h => by
    unfold scn at h
    by_cases ht : tk n
    · rw [if_pos ht] at h
      obtain ⟨h1, h2⟩ := scn_first n x h
      refine ⟨fun i hi hf => ?_, h2⟩
      by_cases e : i = n
      · rw [e, ht] at hf; cases hf
      · exact h1 i (by omega) hf
    · rw [if_neg ht] at h
      cases hs : scn 0 tk v n with
      | none =>
        rw [hs] at h
        cases h
        have hn := scn_none n hs
        refine ⟨fun i hi hf => ?_, fun i hi hf => ?_⟩
        · by_cases e : i = n
          · rw [e]; exact Int.le_refl _
          · rw [hn i (by omega)] at hf; cases hf
        · rw [hn i hi] at hf; cases hf
      | some y =>
        rw [hs] at h
        have h' : (if btr 0 y.1 (v n) then some (v n, n) else some y) = some x := h
        obtain ⟨h1, h2⟩ := scn_first n y hs
        by_cases hb : btr 0 y.1 (v n)
        · rw [if_pos hb] at h'
          cases h'
          have hlt : y.1 < v n := by
            have : decide (y.1 < v n) = true := hb
            exact of_decide_eq_true this
          refine ⟨fun i hi hf => ?_, fun i hi hf => ?_⟩
          · by_cases e : i = n
            · rw [e]; exact Int.le_refl _
            · have := h1 i (by omega) hf
              show v i ≤ v n
              omega
          · have := h1 i hi hf
            show v i < v n
            omega
        · rw [if_neg hb] at h'
          have hyx : x = y := (Option.some.inj h').symm
          rw [hyx]
          have hge : ¬ y.1 < v n := fun z => hb (decide_eq_true z)
          refine ⟨fun i hi hf => ?_, h2⟩
          by_cases e : i = n
          · rw [e]; omega
          · exact h1 i (by omega) hf
section bs
variable {n : Nat} {A B : Nat → Int}
theorem pay_b (hA : ∀ i, i < n → 0 ≤ A i ∧ A i ≤ 9) (hB : ∀ i, i < n → 0 ≤ B i ∧ B i ≤ 9) (d : Nat) {i : Nat} (hi : i < n) : -9 ≤ pay A B d i ∧ pay A B d i ≤ 9 := by
  have a := hA i hi
  have b := hB i hi
  unfold pay
  split <;> omega
theorem bst_b (hA : ∀ i, i < n → 0 ≤ A i ∧ A i ≤ 9) (hB : ∀ i, i < n → 0 ≤ B i ∧ B i ≤ 9) : ∀ (k d a : Nat), -(9 * k : Int) ≤ bst n A B k d a ∧ bst n A B k d a ≤ 9 * k
  | 0, d, a => by show -(9 * ((0 : Nat) : Int)) ≤ 0 ∧ (0 : Int) ≤ 9 * ((0 : Nat) : Int); omega
  | k + 1, d, a => by
    unfold bst
    cases hs : scn d a.testBit (fun i => pay A B d i + bst n A B k (d + 1) (a ||| 2 ^ i)) n with
    | none => show -(9 * ((k + 1 : Nat) : Int)) ≤ 0 ∧ (0 : Int) ≤ 9 * ((k + 1 : Nat) : Int); omega
    | some x =>
      obtain ⟨h1, -, h3⟩ := scn_mem n x hs
      have p := pay_b hA hB d h1
      have q := bst_b hA hB k (d + 1) (a ||| 2 ^ x.2)
      show -(9 * ((k + 1 : Nat) : Int)) ≤ x.1 ∧ x.1 ≤ 9 * ((k + 1 : Nat) : Int)
      have h3' : pay A B d x.2 + bst n A B k (d + 1) (a ||| 2 ^ x.2) = x.1 := h3
      omega
/-- how many are still there -/
def fre (a : Nat) : Nat → Nat
  | 0 => 0
  | n + 1 => fre a n + (if a.testBit n then 0 else 1)
theorem bit_set (n j i : Nat) : (n ||| 2 ^ j).testBit i = (n.testBit i || decide (i = j)) := by
  rw [Nat.testBit_or]
  by_cases h : j = i
  · subst h; simp
  · have h2 : ¬ i = j := fun e => h e.symm
    first | (simp [Nat.testBit_two_pow, h, h2]; done) | (simp [Nat.testBit_two_pow_of_ne h, h2]; done)
theorem fre_set {a j : Nat} (hf : a.testBit j = false) : ∀ n, fre (a ||| 2 ^ j) n + (if j < n then 1 else 0) = fre a n
  | 0 => rfl
  | n + 1 => by
    have ih := fre_set hf n
    unfold fre
    rw [bit_set]
    by_cases e : n = j
    · rw [e, hf]
      rw [e, if_neg (by omega)] at ih
      rw [show (false || decide (j = j)) = true by simp, if_pos rfl, if_pos (by omega), if_neg (by decide)]
      omega
    · rw [show (a.testBit n || decide (n = j)) = a.testBit n by simp [e]]
      by_cases hj : j < n
      · rw [if_pos hj] at ih; rw [if_pos (show j < n + 1 by omega)]; omega
      · rw [if_neg hj] at ih; rw [if_neg (show ¬ j < n + 1 by omega)]; omega
theorem fre_0 {a : Nat} : ∀ n, fre a n = 0 → ∀ i, i < n → a.testBit i = true
  | 0, _, i, hi => by omega
  | n + 1, h, i, hi => by
    unfold fre at h
    by_cases ht : a.testBit n
    · by_cases e : i = n
      · rw [e]; exact ht
      · exact fre_0 n (by omega) i (by omega)
    · rw [if_neg ht] at h; omega
theorem fre_z : ∀ n, fre 0 n = n
  | 0 => rfl
  | n + 1 => by unfold fre; rw [fre_z n, show Nat.testBit 0 n = false by simp]; rfl
theorem bst_full : ∀ (k d a : Nat), fre a n ≤ k → bst n A B (k + 1) d a = bst n A B k d a
  | 0, d, a, h => by
    unfold bst
    rw [scn_full n (fre_0 n (by omega))]
    rfl
  | k + 1, d, a, h => by
    have e : ∀ i, i < n → a.testBit i = false → pay A B d i + bst n A B (k + 1) (d + 1) (a ||| 2 ^ i) = pay A B d i + bst n A B k (d + 1) (a ||| 2 ^ i) := fun i hi hf => by
      have := fre_set hf n
      rw [if_pos hi] at this
      rw [bst_full k (d + 1) (a ||| 2 ^ i) (by omega)]
    show valS (scn d a.testBit (fun i => pay A B d i + bst n A B (k + 1) (d + 1) (a ||| 2 ^ i)) n) = valS (scn d a.testBit (fun i => pay A B d i + bst n A B k (d + 1) (a ||| 2 ^ i)) n)
    rw [scn_c n e]
theorem bst_more (d a : Nat) (k : Nat) (h : fre a n ≤ k) : ∀ j, bst n A B (k + j) d a = bst n A B k d a
  | 0 => rfl
  | j + 1 => by rw [← Nat.add_assoc, bst_full (k + j) d a (by omega)]; exact bst_more d a k h j
end bs
theorem w_shl : ∀ i, i < 12 → (1 : Int32) <<< (nI i &&& 31) = nI (2 ^ i) := by decide +kernel
theorem w_smd : ∀ i, i < 12 → ((nI i &&& 31).toBitVec.smod 32).toNat = i := by decide +kernel
theorem w_or (a b : Nat) : nI a ||| nI b = nI (a ||| b) := by
  apply Int32.toBitVec_inj.1
  show BitVec.ofNat 32 a ||| BitVec.ofNat 32 b = BitVec.ofNat 32 (a ||| b)
  apply BitVec.eq_of_getLsbD_eq
  intro i hi
  simp [hi]
theorem w_and (a b : Nat) : nI a &&& nI b = nI (a &&& b) := by
  apply Int32.toBitVec_inj.1
  show BitVec.ofNat 32 a &&& BitVec.ofNat 32 b = BitVec.ofNat 32 (a &&& b)
  apply BitVec.eq_of_getLsbD_eq
  intro i hi
  simp [hi]
theorem w_bit {a i : Nat} (ha : a < 4096) (hi : i < 12) : ((nI a >>> (nI i &&& 31)) &&& 1 = 0) ↔ a.testBit i = false := by
  rw [pk_shrN (by omega) _ i (w_smd i hi), show (1 : Int32) = nI 1 from rfl, w_and, Nat.and_one_is_mod, show (0 : Int32) = nI 0 from rfl, nI_inj (by omega) (by omega), Nat.testBit_eq_decide_div_mod_eq]
  have : a / 2 ^ i % 2 < 2 := Nat.mod_lt _ (by omega)
  simp
theorem w_or_lt {a i : Nat} (ha : a < 4096) (hi : i < 12) : a ||| 2 ^ i < 4096 := by
  have h2 : 2 ^ i < 2 ^ 12 := Nat.pow_lt_pow_right (by omega) hi
  exact Nat.or_lt_two_pow (n := 12) ha h2
