/-! ===== the TEXT, sign by sign ===== -/
def txR (T : Nat → Int32) (n : Nat) (m1 m2 : o_Mem) : Prop := n ≤ 900 ∧ m1.1 137 4 = nI n ∧ m2.1 0 11 = nI n ∧ ∀ k, k < n → m1.1 138 k = T k ∧ m2.1 7 k = T k ∧ -128 ≤ (T k).toInt ∧ (T k).toInt < 128
theorem u8_t : ∀ k : Nat, k < 256 → (iN ((k : Int) - 128) &&& 255).toInt = if (k : Int) - 128 < 0 then (k : Int) - 128 + 256 else (k : Int) - 128 := by decide +kernel
theorem u8 {x : Int32} (h : -128 ≤ x.toInt ∧ x.toInt < 128) : (x &&& 255).toInt = if x.toInt < 0 then x.toInt + 256 else x.toInt := by
  have e := u8_t (x.toInt + 128).toNat (by omega)
  rw [show (((x.toInt + 128).toNat : Nat) : Int) - 128 = x.toInt by omega, ← iN_of (by omega)] at e
  exact e
theorem u8_eq {x : Int32} (h : -128 ≤ x.toInt ∧ x.toInt < 128) {c : Int32} (hc : 0 ≤ c.toInt ∧ c.toInt < 128) : (x &&& 255 = c) ↔ x = c := by
  rw [i32_eq, i32_eq, u8 h]
  split <;> omega
theorem u8_nn {x : Int32} (h : -128 ≤ x.toInt ∧ x.toInt < 128) : ¬ x &&& 255 = -1 := by
  rw [i32_eq, u8 h, c32_m1]
  split <;> omega
theorem u8_id {x : Int32} (h : 0 ≤ x.toInt ∧ x.toInt < 128) : x &&& 255 = x := by
  apply Int32.toInt_inj.mp
  rw [u8 (by omega), if_neg (by omega)]
theorem c32_48 : (48 : Int32).toInt = 48 := by decide
theorem c32_57 : (57 : Int32).toInt = 57 := by decide
theorem c32_97 : (97 : Int32).toInt = 97 := by decide
theorem c32_122 : (122 : Int32).toInt = 122 := by decide
theorem e12_small (rf : Nat → Nat → Nat) (x : Int32) (μ : o_Mem) : fX12_isSmall rf x μ = some (bI (isSm x), μ) := by
  unfold fX12_isSmall
  simp only [i32_lt, c32_97, c32_122]
  by_cases h1 : x.toInt < 97
  · rw [if_pos h1, bI_f (by omega)]
  · rw [if_neg h1]
    by_cases h2 : 122 < x.toInt
    · rw [if_pos h2, bI_f (by omega)]
    · rw [if_neg h2, bI_t (by omega)]
theorem e12_digit (rf : Nat → Nat → Nat) (x : Int32) (μ : o_Mem) : fX12_isDigit rf x μ = some (bI (isDg x), μ) := by
  unfold fX12_isDigit
  simp only [i32_lt, c32_48, c32_57]
  by_cases h1 : x.toInt < 48
  · rw [if_pos h1, bI_f (by omega)]
  · rw [if_neg h1]
    by_cases h2 : 57 < x.toInt
    · rw [if_pos h2, bI_f (by omega)]
    · rw [if_neg h2, bI_t (by omega)]
/-- the class asks both bounds in place -/
theorem if_sm {α : Type} (x : Int32) (A B : α) : (if x < 97 then A else if 122 < x then A else B) = if isSm x then B else A := by
  simp only [i32_lt, c32_97, c32_122]
  by_cases h1 : x.toInt < 97
  · rw [if_pos h1, if_neg (by omega)]
  · rw [if_neg h1]
    by_cases h2 : 122 < x.toInt
    · rw [if_pos h2, if_neg (by omega)]
    · rw [if_neg h2, if_pos (by omega)]
theorem if_dg {α : Type} (x : Int32) (A B : α) : (if x < 48 then A else if 57 < x then A else B) = if isDg x then B else A := by
  simp only [i32_lt, c32_48, c32_57]
  by_cases h1 : x.toInt < 48
  · rw [if_pos h1, if_neg (by omega)]
  · rw [if_neg h1]
    by_cases h2 : 57 < x.toInt
    · rw [if_pos h2, if_neg (by omega)]
    · rw [if_neg h2, if_pos (by omega)]
/-- the sign at p, as the reference sees it -/
def byV (T : Nat → Int32) (n p : Nat) : Int32 := if p < n then T p &&& 255 else -1
section lx
variable {T : Nat → Int32} {n : Nat} {m1 m2 : o_Mem}
theorem e12_byte (h : txR T n m1 m2) (p : Nat) (hp : p < 100000) : fX12_byteAt rfM 0 (nI p) m2 = some (byV T n p, m2) := by
  obtain ⟨h9, -, h11, ht⟩ := h
  unfold fX12_byteAt byV
  rw [qm_9, h11]
  by_cases hn : p < n
  · rw [if_neg (fun z => by rw [n_le (by omega) (by omega)] at z; omega), if_pos hn]
    simp (disch := omega) only [nI_toInt, nI_clamp, p_ck]
    rw [(ht p hn).2.1]
  · rw [if_pos ((n_le (by omega) (by omega)).mpr (by omega)), if_neg hn]
theorem by_sm (h : txR T n m1 m2) (p : Nat) : isSm (byV T n p) ↔ p < n ∧ isSm (T p) := by
  unfold byV
  by_cases hn : p < n
  · have := (h.2.2.2 p hn).2.2
    rw [if_pos hn]
    show (97 ≤ (T p &&& 255).toInt ∧ (T p &&& 255).toInt ≤ 122) ↔ p < n ∧ (97 ≤ (T p).toInt ∧ (T p).toInt ≤ 122)
    rw [u8 this]
    split <;> omega
  · rw [if_neg hn]
    exact ⟨fun z => absurd z (by decide), fun z => absurd z.1 hn⟩
theorem by_dg (h : txR T n m1 m2) (p : Nat) : isDg (byV T n p) ↔ p < n ∧ isDg (T p) := by
  unfold byV
  by_cases hn : p < n
  · have := (h.2.2.2 p hn).2.2
    rw [if_pos hn]
    show (48 ≤ (T p &&& 255).toInt ∧ (T p &&& 255).toInt ≤ 57) ↔ p < n ∧ (48 ≤ (T p).toInt ∧ (T p).toInt ≤ 57)
    rw [u8 this]
    split <;> omega
  · rw [if_neg hn]
    exact ⟨fun z => absurd z (by decide), fun z => absurd z.1 hn⟩
theorem by_eq (h : txR T n m1 m2) (p : Nat) {c : Int32} (hc : 0 ≤ c.toInt ∧ c.toInt < 128) : (byV T n p = c) ↔ p < n ∧ T p = c := by
  unfold byV
  by_cases hn : p < n
  · rw [if_pos hn, u8_eq (h.2.2.2 p hn).2.2 hc]
    exact ⟨fun z => ⟨hn, z⟩, fun z => z.2⟩
  · rw [if_neg hn]
    refine ⟨fun z => ?_, fun z => absurd z.1 hn⟩
    rw [← z, c32_m1] at hc
    omega
theorem txR_c {l1 l2 : o_Mem} (h : txR T n m1 m2) (a1 : l1.1 137 4 = m1.1 137 4) (a2 : l1.1 138 = m1.1 138) (a3 : l2.1 0 11 = m2.1 0 11) (a4 : l2.1 7 = m2.1 7) : txR T n l1 l2 := by
  unfold txR at h ⊢
  rw [a1, a2, a3, a4]
  exact h
/-- what reading a sign may change -/
def lxF (m1 m2 l1 l2 : o_Mem) : Prop := (∀ i, i ≠ 137 → l1.1 i = m1.1 i) ∧ (∀ k, k < 5 → l1.1 137 k = m1.1 137 k) ∧ (∀ i, i ≠ 137 → l1.2 i = m1.2 i) ∧ (∀ i, i ≠ 0 → l2.1 i = m2.1 i) ∧ (∀ k, k ≠ 12 → k ≠ 13 → k ≠ 14 → k ≠ 15 → l2.1 0 k = m2.1 0 k) ∧ l2.2 = m2.2
theorem lxF_tx {l1 l2 : o_Mem} (h : txR T n m1 m2) (hf : lxF m1 m2 l1 l2) : txR T n l1 l2 := txR_c h (hf.2.1 4 (by omega)) (hf.1 138 (by omega)) (hf.2.2.2.2.1 11 (by omega) (by omega) (by omega) (by omega)) (hf.2.2.2.1 7 (by omega))
theorem lxF_tr {l1 l2 k1 k2 : o_Mem} (a : lxF m1 m2 l1 l2) (b : lxF l1 l2 k1 k2) : lxF m1 m2 k1 k2 := ⟨fun i hi => (b.1 i hi).trans (a.1 i hi), fun k hk => (b.2.1 k hk).trans (a.2.1 k hk), fun i hi => (b.2.2.1 i hi).trans (a.2.2.1 i hi), fun i hi => (b.2.2.2.1 i hi).trans (a.2.2.2.1 i hi), fun k h1 h2 h3 h4 => (b.2.2.2.2.1 k h1 h2 h3 h4).trans (a.2.2.2.2.1 k h1 h2 h3 h4), b.2.2.2.2.2.trans a.2.2.2.2.2⟩
theorem lx_w {k : Nat} (h5 : 5 ≤ k) (x : Int32) : lxF m1 m2 (o_wI m1 137 k x) m2 := ⟨fun i hi => p_wI_o hi, fun j hj => by rw [p_wI1, if_neg (by omega)], fun _ _ => rfl, fun _ _ => rfl, fun _ _ _ _ _ => rfl, rfl⟩
theorem lx_wL {k : Nat} (x : Int64) : lxF m1 m2 (o_wL m1 137 k x) m2 := ⟨fun _ _ => rfl, fun _ _ => rfl, fun i hi => by funext j; rw [p_wL2, if_neg (fun z => hi z.1)], fun _ _ => rfl, fun _ _ _ _ _ => rfl, rfl⟩
theorem lx_v {k : Nat} (hk : k = 12 ∨ k = 13 ∨ k = 14 ∨ k = 15) (x : Int32) : lxF m1 m2 m1 (o_wI m2 0 k x) := ⟨fun _ _ => rfl, fun _ _ => rfl, fun _ _ => rfl, fun i hi => p_wI_o hi, fun j h1 h2 h3 h4 => by rw [p_wI1, if_neg (by omega)], rfl⟩
theorem lx_re : lxF m1 m2 m1 m2 := ⟨fun _ _ => rfl, fun _ _ => rfl, fun _ _ => rfl, fun _ _ => rfl, fun _ _ _ _ _ => rfl, rfl⟩
/-- spaces -/
theorem lx_skip (h : txR T n m1 m2) {p0 : Nat} (hp : p0 ≤ n) (h5 : m1.1 137 5 = nI p0) (h14 : m2.1 0 14 = nI p0) : ∃ q l1 l2, p0 ≤ q ∧ q ≤ n ∧ (q < n → ¬ T q = 10 ∧ ¬ T q = 32) ∧ o_lp 0 (fX4_next_s0 rfC 137) o_fuel () m1 = some ((52, ()), l1) ∧ o_lp 0 (fX12_ahead_s0 rfM 0) o_fuel () m2 = some ((39, ()), l2) ∧ lxF m1 m2 l1 l2 ∧ l1.1 137 5 = nI q ∧ l2.1 0 14 = nI q := by
  have h9 := h.1
  obtain ⟨e1, l1, e2, l2, q1, q2, rfl, rfl, q, a1, a2, a3, a4, a5, a6⟩ := lp_rel (h1 := 0) (h2 := 0) (s1 := fX4_next_s0 rfC 137) (s2 := fX12_ahead_s0 rfM 0)
    (fun i _ l1 _ l2 => ∃ q, q + i = n ∧ p0 ≤ q ∧ lxF m1 m2 l1 l2 ∧ l1.1 137 5 = nI q ∧ l2.1 0 14 = nI q)
    (fun e1 l1 e2 l2 => e1 = (52, ()) ∧ e2 = (39, ()) ∧ ∃ q, p0 ≤ q ∧ q ≤ n ∧ (q < n → ¬ T q = 10 ∧ ¬ T q = 32) ∧ lxF m1 m2 l1 l2 ∧ l1.1 137 5 = nI q ∧ l2.1 0 14 = nI q)
    (fun i _ l1 _ l2 hR => by
      obtain ⟨q, hq, hp, hF, a5, a6⟩ := hR
      have hx := lxF_tx h hF
      unfold fX4_next_s0 fX12_ahead_s0 fX4_next_j39 fX12_ahead_j26
      rw [rc137_0, hx.2.1, a5, a6]
      rw [e12_byte hx q (by omega), p_bd]
      by_cases hi : q < n
      · have hb := (hx.2.2.2 q hi).2.2
        rw [if_neg (show ¬ nI n ≤ nI q from fun z => by rw [n_le (by omega) (by omega)] at z; omega)]
        simp (disch := omega) only [nI_toInt, nI_clamp, p_ck, (hx.2.2.2 q hi).1]
        by_cases h32 : T q = 32
        · rw [if_neg (show ¬ T q = 10 by rw [h32]; decide), if_pos h32, if_pos ((by_eq hx q (by decide)).mpr ⟨hi, h32⟩), a6, p_seq, p_seq, aR_1]
          exact ⟨_, _, _, _, rfl, rfl, Or.inl ⟨rfl, rfl, i - 1, by omega, q + 1, by omega, by omega, lxF_tr hF (lxF_tr (lx_w (by omega) _) (lx_v (by omega) _)), by rw [p_wI1, if_pos ⟨rfl, rfl⟩], by rw [p_wI1, if_pos ⟨rfl, rfl⟩]⟩⟩
        · rw [if_neg h32, if_neg (fun z => h32 ((by_eq hx q (by decide)).mp z).2), a6, e12_byte hx q (by omega), p_bd]
          by_cases h10 : T q = 10
          · rw [if_pos h10, if_pos ((by_eq hx q (by decide)).mpr ⟨hi, h10⟩), a6, p_seq, p_seq, aR_1]
            exact ⟨_, _, _, _, rfl, rfl, Or.inl ⟨rfl, rfl, i - 1, by omega, q + 1, by omega, by omega, lxF_tr hF (lxF_tr (lx_w (by omega) _) (lx_v (by omega) _)), by rw [p_wI1, if_pos ⟨rfl, rfl⟩], by rw [p_wI1, if_pos ⟨rfl, rfl⟩]⟩⟩
          · rw [if_neg h10, if_neg (fun z => h10 ((by_eq hx q (by decide)).mp z).2)]
            exact ⟨_, _, _, _, rfl, rfl, Or.inr ⟨show ¬ 52 = 0 by decide, show ¬ 39 = 0 by decide, rfl, rfl, q, hp, by omega, fun _ => ⟨h10, h32⟩, hF, a5, a6⟩⟩
      · rw [if_pos (show nI n ≤ nI q by rw [n_le (by omega) (by omega)]; omega), if_neg (fun z => hi ((by_eq hx q (by decide)).mp z).1), a6, e12_byte hx q (by omega), p_bd, if_neg (fun z => hi ((by_eq hx q (by decide)).mp z).1)]
        exact ⟨_, _, _, _, rfl, rfl, Or.inr ⟨show ¬ 52 = 0 by decide, show ¬ 39 = 0 by decide, rfl, rfl, q, hp, by omega, fun z => absurd z hi, hF, a5, a6⟩⟩)
    o_fuel (n - p0) () m1 () m2 (fu (by omega)) ⟨p0, by omega, by omega, lx_re, h5, h14⟩
  exact ⟨q, l1, l2, a1, a2, a3, q1, q2, a4, a5, a6⟩
/-- a number -/
theorem lx_num (h : txR T n m1 m2) {p : Nat} (hp : p < n) (hd : isDg (T p)) (h5 : m1.1 137 5 = nI p) (h6 : m1.1 137 6 = nI p) (h8 : m1.1 137 8 = -1) (h14 : m2.1 0 14 = nI p) (h13 : m2.1 0 13 = nI p) (h15 : m2.1 0 15 = 0) : ∃ q l1 l2, p < q ∧ q ≤ n ∧ fX4_readNumber rfC 137 m1 = some ((), l1) ∧ o_lp 128 (fX12_ahead_s128 rfM 0) o_fuel () m2 = some ((183, ()), l2) ∧ lxF m1 m2 l1 l2 ∧ l1.1 137 6 = nI p ∧ l2.1 0 13 = nI p ∧ l1.1 137 8 = -1 ∧ l1.1 137 5 = nI q ∧ l2.1 0 14 = nI q ∧ ((q - p ≤ 4 ∧ l1.1 137 7 = 2 ∧ ∃ v, v ≤ 9999 ∧ l1.1 137 10 = nI v ∧ l2.1 0 15 = nI v) ∨ (4 < q - p ∧ l1.1 137 7 = 4)) := by
  have h9 := h.1
  unfold fX4_readNumber
  simp only [p_seq]
  obtain ⟨e1, l1, e2, l2, q1, q2, rfl, rfl, q, a1, a2, a3, a4, a5, a6, a7, a8, a9⟩ := lp_rel (h1 := 10) (h2 := 128) (s1 := fX4_readNumber_s10 rfC 137) (s2 := fX12_ahead_s128 rfM 0)
    (fun i _ l1 _ l2 => ∃ q, q + i = n ∧ p ≤ q ∧ lxF m1 m2 l1 l2 ∧ l1.1 137 6 = nI p ∧ l2.1 0 13 = nI p ∧ l1.1 137 8 = -1 ∧ l1.1 137 5 = nI q ∧ l2.1 0 14 = nI q ∧ (∃ w, w ≤ 100000 ∧ l2.1 0 15 = nI w) ∧ ((q - p ≤ 4 ∧ l1.1 137 7 = 2 ∧ ∃ v, v < 10 ^ (q - p) ∧ l1.1 137 10 = nI v ∧ l2.1 0 15 = nI v) ∨ (4 < q - p ∧ l1.1 137 7 = 4)))
    (fun e1 l1 e2 l2 => e1 = (107, ()) ∧ e2 = (183, ()) ∧ ∃ q, p < q ∧ q ≤ n ∧ lxF m1 m2 l1 l2 ∧ l1.1 137 6 = nI p ∧ l2.1 0 13 = nI p ∧ l1.1 137 8 = -1 ∧ l1.1 137 5 = nI q ∧ l2.1 0 14 = nI q ∧ ((q - p ≤ 4 ∧ l1.1 137 7 = 2 ∧ ∃ v, v ≤ 9999 ∧ l1.1 137 10 = nI v ∧ l2.1 0 15 = nI v) ∨ (4 < q - p ∧ l1.1 137 7 = 4)))
    (fun i _ l1 _ l2 hR => by
      obtain ⟨q, hq, hpq, hF, b6, b13, b8, b5, b14, ⟨w, hw, b15⟩, hv⟩ := hR
      have hx := lxF_tx h hF
      unfold fX4_readNumber_s10 fX12_ahead_s128 fX4_readNumber_j94
      rw [rc137_0, hx.2.1, b5, b14, e12_byte hx q (by omega), p_bd, e12_digit, p_bd, bI_if]
      by_cases hi : q < n
      · have hb := (hx.2.2.2 q hi).2.2
        rw [if_neg (show ¬ nI n ≤ nI q from fun z => by rw [n_le (by omega) (by omega)] at z; omega)]
        simp (disch := omega) only [nI_toInt, nI_clamp, p_ck, (hx.2.2.2 q hi).1, if_dg]
        by_cases hdg : isDg (T q)
        · rw [if_pos hdg, if_pos ((by_dg hx q).mpr ⟨hi, hdg⟩), b14, e12_byte hx q (by omega), p_bd, b6, b15]
          have hdg' : 48 ≤ (T q).toInt ∧ (T q).toInt ≤ 57 := hdg
          obtain ⟨d, d1, d2, d3⟩ := rg_nI (x := T q) (n := 58) ⟨by omega, by omega⟩
          have hd48 : 48 ≤ d := by rw [d3, nI_toInt d2] at hdg'; omega
          have hby : byV T n q = nI d := by unfold byV; rw [if_pos hi, u8_id (by omega), d3]
          have hval : (if (100000 : Int32) > 10 * nI w + byV T n q - 48 then 10 * nI w + byV T n q - 48 else 100000) = nI (min 100000 (10 * w + (d - 48))) := by
            rw [hby, mL_10, nI_add', show (nI (10 * w + d) - 48 : Int32) = nI (10 * w + (d - 48)) by rw [show (48 : Int32) = nI 48 from rfl, nI_sub2 (by omega)]; congr 1; omega]
            by_cases hc : 10 * w + (d - 48) < 100000
            · rw [if_pos (show (100000 : Int32) > nI (10 * w + (d - 48)) from (n_lt (a := 10 * w + (d - 48)) (b := 100000) (by omega) (by omega)).mpr hc), Nat.min_eq_right (by omega)]
            · rw [if_neg (show ¬ (100000 : Int32) > nI (10 * w + (d - 48)) from fun z => hc ((n_lt (a := 10 * w + (d - 48)) (b := 100000) (by omega) (by omega)).mp z)), Nat.min_eq_left (by omega)]
              rfl
          rw [hval]
          simp only [p_seq]
          rw [nI_sub2 hpq]
          by_cases h4 : 4 ≤ q - p
          · rw [if_pos (show (4 : Int32) ≤ nI (q - p) from (n_le (a := 4) (b := q - p) (by omega) (by omega)).mpr h4), show (o_wI l1 137 7 4).1 137 5 = nI q by rw [p_wI1, if_neg (by omega)]; exact b5, show (o_wI l2 0 15 (nI (min 100000 (10 * w + (d - 48))))).1 0 14 = nI q by rw [p_wI1, if_neg (by omega)]; exact b14, aR_1]
            refine ⟨_, _, _, _, rfl, rfl, Or.inl ⟨rfl, rfl, i - 1, by omega, q + 1, by omega, by omega, lxF_tr hF (lxF_tr (lxF_tr (lx_w (by omega) _) (lx_w (by omega) _)) (lxF_tr (lx_v (by omega) _) (lx_v (by omega) _))), ?_, ?_, ?_, ?_, ?_, ⟨min 100000 (10 * w + (d - 48)), Nat.min_le_left _ _, ?_⟩, Or.inr ⟨by omega, ?_⟩⟩⟩
            · rw [p_wI1, if_neg (by omega), p_wI1, if_neg (by omega)]; exact b6
            · rw [p_wI1, if_neg (by omega), p_wI1, if_neg (by omega)]; exact b13
            · rw [p_wI1, if_neg (by omega), p_wI1, if_neg (by omega)]; exact b8
            · rw [p_wI1, if_pos ⟨rfl, rfl⟩]
            · rw [p_wI1, if_pos ⟨rfl, rfl⟩]
            · rw [p_wI1, if_neg (by omega), p_wI1, if_pos ⟨rfl, rfl⟩]
            · rw [p_wI1, if_neg (by omega), p_wI1, if_pos ⟨rfl, rfl⟩]
          · rcases hv with ⟨hq4, b7, v, hvl, b10, b15'⟩ | ⟨hq4, -⟩
            · have hwv : w = v := by
                have hp4 : 10 ^ (q - p) ≤ 10 ^ 4 := Nat.pow_le_pow_right (by omega) hq4
                rw [b15', nI_inj (by omega) (by omega)] at b15
                exact b15.symm
              have hp3 : 10 ^ (q - p) ≤ 10 ^ 3 := Nat.pow_le_pow_right (by omega) (by omega)
              rw [if_neg (show ¬ (4 : Int32) ≤ nI (q - p) from fun z => h4 ((n_le (a := 4) (b := q - p) (by omega) (by omega)).mp z))]
              rw [show l1.1 137 10 * 10 + (T q - 48) = nI (10 * v + (d - 48)) by
                rw [b10, d3, mR_10, show (nI d - 48 : Int32) = nI (d - 48) from nI_sub2 (b := 48) hd48, nI_add']; congr 1; omega]
              rw [show (o_wI l1 137 10 (nI (10 * v + (d - 48)))).1 137 5 = nI q by rw [p_wI1, if_neg (by omega)]; exact b5, show (o_wI l2 0 15 (nI (min 100000 (10 * w + (d - 48))))).1 0 14 = nI q by rw [p_wI1, if_neg (by omega)]; exact b14, aR_1]
              refine ⟨_, _, _, _, rfl, rfl, Or.inl ⟨rfl, rfl, i - 1, by omega, q + 1, by omega, by omega, lxF_tr hF (lxF_tr (lxF_tr (lx_w (by omega) _) (lx_w (by omega) _)) (lxF_tr (lx_v (by omega) _) (lx_v (by omega) _))), ?_, ?_, ?_, ?_, ?_, ⟨min 100000 (10 * w + (d - 48)), Nat.min_le_left _ _, ?_⟩, Or.inl ⟨by omega, ?_, 10 * v + (d - 48), ?_, ?_, ?_⟩⟩⟩
              · rw [p_wI1, if_neg (by omega), p_wI1, if_neg (by omega)]; exact b6
              · rw [p_wI1, if_neg (by omega), p_wI1, if_neg (by omega)]; exact b13
              · rw [p_wI1, if_neg (by omega), p_wI1, if_neg (by omega)]; exact b8
              · rw [p_wI1, if_pos ⟨rfl, rfl⟩]
              · rw [p_wI1, if_pos ⟨rfl, rfl⟩]
              · rw [p_wI1, if_neg (by omega), p_wI1, if_pos ⟨rfl, rfl⟩]
              · rw [p_wI1, if_neg (by omega), p_wI1, if_neg (by omega)]; exact b7
              · rw [show q + 1 - p = (q - p) + 1 by omega, Nat.pow_succ]; omega
              · rw [p_wI1, if_neg (by omega), p_wI1, if_pos ⟨rfl, rfl⟩]
              · rw [p_wI1, if_neg (by omega), p_wI1, if_pos ⟨rfl, rfl⟩, hwv, Nat.min_eq_right (by omega)]
            · omega
        · rw [if_neg hdg, if_neg (fun z => hdg ((by_dg hx q).mp z).2)]
          have hqp : p < q := by
            by_cases e : p = q
            · rw [← e] at hdg; exact absurd hd hdg
            · omega
          refine ⟨_, _, _, _, rfl, rfl, Or.inr ⟨show ¬ 107 = 10 by decide, show ¬ 183 = 128 by decide, rfl, rfl, q, hqp, by omega, hF, b6, b13, b8, b5, b14, ?_⟩⟩
          rcases hv with ⟨hq4, b7, v, hvl, b10, b15'⟩ | hv
          · have hp4 : 10 ^ (q - p) ≤ 10 ^ 4 := Nat.pow_le_pow_right (by omega) hq4
            exact Or.inl ⟨hq4, b7, v, by omega, b10, b15'⟩
          · exact Or.inr hv
      · rw [if_pos (show nI n ≤ nI q by rw [n_le (by omega) (by omega)]; omega), if_neg (fun z => hi ((by_dg hx q).mp z).1)]
        refine ⟨_, _, _, _, rfl, rfl, Or.inr ⟨show ¬ 107 = 10 by decide, show ¬ 183 = 128 by decide, rfl, rfl, q, by omega, by omega, hF, b6, b13, b8, b5, b14, ?_⟩⟩
        rcases hv with ⟨hq4, b7, v, hvl, b10, b15'⟩ | hv
        · have hp4 : 10 ^ (q - p) ≤ 10 ^ 4 := Nat.pow_le_pow_right (by omega) hq4
          exact Or.inl ⟨hq4, b7, v, by omega, b10, b15'⟩
        · exact Or.inr hv)
    o_fuel (n - p) () (o_wI (o_wI m1 137 7 2) 137 10 0) () m2 (fu (by omega)) ⟨p, by omega, by omega, lxF_tr (lx_w (by omega) _) (lx_w (by omega) _), by rw [p_wI1, if_neg (by omega), p_wI1, if_neg (by omega)]; exact h6, h13, by rw [p_wI1, if_neg (by omega), p_wI1, if_neg (by omega)]; exact h8, by rw [p_wI1, if_neg (by omega), p_wI1, if_neg (by omega)]; exact h5, h14, ⟨0, by omega, h15⟩, Or.inl ⟨by omega, by rw [p_wI1, if_neg (by omega), p_wI1, if_pos ⟨rfl, rfl⟩], 0, by rw [Nat.sub_self]; decide, by rw [p_wI1, if_pos ⟨rfl, rfl⟩]; rfl, h15⟩⟩
  rw [q1, p_bd, if_pos rfl]
  exact ⟨q, l1, l2, a1, a2, rfl, q2, a3, a4, a5, a6, a7, a8, a9⟩
end lx
