/-! ===== games: the reference ===== -/
def encS (s : Int) (o : Option (Int × Nat)) : Int32 := match o with
  | none => 1000000
  | some x => iN (s + x.1)
def fsE (o : Option (Int × Nat)) (y : Int32) : Prop := match o with
  | none => True
  | some x => y = nI x.2
def up1 (d : Nat) (o : Option (Int × Nat)) (v : Int) (i : Nat) : Option (Int × Nat) := match o with
  | none => some (v, i)
  | some x => if btr d x.1 v then some (v, i) else some x
def frG (l0 μ : o_Mem) : Prop := (∀ i, i ≠ 0 → i ≠ 13 → i ≠ 14 → i ≠ 15 → μ.1 i = l0.1 i) ∧ (∀ k, k ≠ 31 → μ.1 0 k = l0.1 0 k) ∧ μ.2 = l0.2
def perS : Nat → Nat
  | 0 => 1
  | k + 1 => 12 * perS k + 2
theorem scn_free {d : Nat} {tk : Nat → Bool} {v : Nat → Int} {i : Nat} (h : tk i = false) : scn d tk v (i + 1) = up1 d (scn d tk v i) (v i) i := by
  show (if tk i then scn d tk v i else match scn d tk v i with
    | none => some (v i, i)
    | some x => if btr d x.1 (v i) then some (v i, i) else some x) = _
  rw [h, if_neg (by decide)]
  rfl
theorem scn_tkn {d : Nat} {tk : Nat → Bool} {v : Nat → Int} {i : Nat} (h : tk i = true) : scn d tk v (i + 1) = scn d tk v i := by
  show (if tk i then scn d tk v i else match scn d tk v i with
    | none => some (v i, i)
    | some x => if btr d x.1 (v i) then some (v i, i) else some x) = _
  rw [h, if_pos rfl]
section mg
variable {g : Nat → Nat → Int32} {l0 μ : o_Mem} {T : Nat}
theorem e12_weighs {L : Nat} (hL : L < 4) {s v : Int} {o : Option (Int × Nat)} {i : Nat} (hs : -100 ≤ s ∧ s ≤ 100) (hv : -100 ≤ v ∧ v ≤ 100) (ho : ∀ x, o = some x → -100 ≤ x.1 ∧ x.1 ≤ 100) (h14 : μ.1 14 L = encS s o) : ∃ m, fX12_weighs rfM 0 (nI L) (iN (s + v)) μ = some ((), m) ∧ m.1 14 L = encS s (up1 L o v i) ∧ (∀ j, j ≠ L → m.1 14 j = μ.1 14 j) ∧ (∀ c, c ≠ 0 → c ≠ 14 → m.1 c = μ.1 c) ∧ (∀ k, k ≠ 31 → m.1 0 k = μ.1 0 k) ∧ m.2 = μ.2 ∧ (L ≠ 0 → m.1 0 31 = μ.1 0 31) ∧ (L = 0 → μ.1 13 0 = nI i → fsE o (μ.1 0 31) → fsE (up1 L o v i) (m.1 0 31)) := by
  have take : up1 L o v i = some (v, i) → ∃ m, fX12_weighs_j42 rfM 0 (nI L) (iN (s + v)) μ = some ((), m) ∧ m.1 14 L = encS s (up1 L o v i) ∧ (∀ j, j ≠ L → m.1 14 j = μ.1 14 j) ∧ (∀ c, c ≠ 0 → c ≠ 14 → m.1 c = μ.1 c) ∧ (∀ k, k ≠ 31 → m.1 0 k = μ.1 0 k) ∧ m.2 = μ.2 ∧ (L ≠ 0 → m.1 0 31 = μ.1 0 31) ∧ (L = 0 → μ.1 13 0 = nI i → fsE o (μ.1 0 31) → fsE (up1 L o v i) (m.1 0 31)) := fun hu => by
    rw [hu]
    unfold fX12_weighs_j42
    rw [qm_28, qm_29]
    simp (disch := omega) only [nI_toInt, nI_clamp, p_ck, p_seq]
    by_cases h0 : L = 0
    · rw [if_pos (show nI L = 0 by rw [h0]; rfl)]
      refine ⟨_, rfl, ?_, fun j hj => ?_, fun c c1 c2 => by rw [p_wI_o c1, p_wI_o c2], fun k hk => ?_, rfl, fun z => absurd h0 z, fun _ h13 _ => ?_⟩
      · rw [p_wI_o (by omega), p_wI1, if_pos ⟨rfl, rfl⟩]; rfl
      · rw [p_wI_o (by omega), p_wI1, if_neg (fun z => hj z.2)]
      · rw [p_wI1, if_neg (fun z => hk z.2), p_wI_o (by omega)]
      · show (o_wI (o_wI μ 14 L (iN (s + v))) 0 31 ((o_wI μ 14 L (iN (s + v))).1 13 0)).1 0 31 = nI i
        rw [p_wI1, if_pos ⟨rfl, rfl⟩, p_wI_o (by omega)]
        exact h13
    · rw [if_neg (show ¬ nI L = 0 by rw [show (0 : Int32) = nI 0 from rfl, nI_inj (by omega) (by omega)]; exact h0)]
      refine ⟨_, rfl, ?_, fun j hj => ?_, fun c c1 c2 => by rw [p_wI_o c2], fun k hk => by rw [p_wI_o (by omega)], rfl, fun _ => by rw [p_wI_o (by omega)], fun z => absurd z h0⟩
      · rw [p_wI1, if_pos ⟨rfl, rfl⟩]; rfl
      · rw [p_wI1, if_neg (fun z => hj z.2)]
  have keep : up1 L o v i = o → ∃ m, some ((), μ) = some ((), m) ∧ m.1 14 L = encS s (up1 L o v i) ∧ (∀ j, j ≠ L → m.1 14 j = μ.1 14 j) ∧ (∀ c, c ≠ 0 → c ≠ 14 → m.1 c = μ.1 c) ∧ (∀ k, k ≠ 31 → m.1 0 k = μ.1 0 k) ∧ m.2 = μ.2 ∧ (L ≠ 0 → m.1 0 31 = μ.1 0 31) ∧ (L = 0 → μ.1 13 0 = nI i → fsE o (μ.1 0 31) → fsE (up1 L o v i) (m.1 0 31)) := fun hu => by
    rw [hu]
    exact ⟨μ, rfl, h14, fun _ _ => rfl, fun _ _ _ => rfl, fun _ _ => rfl, rfl, fun _ => rfl, fun _ _ z => z⟩
  unfold fX12_weighs
  rw [qm_29]
  simp (disch := omega) only [nI_toInt, nI_clamp, p_ck, h14, par]
  cases ho' : o with
  | none =>
    rw [ho'] at take
    rw [show encS s none = 1000000 from rfl, if_pos rfl]
    exact take rfl
  | some x =>
    have hx := ho x ho'
    rw [ho'] at take keep
    rw [show encS s (some x) = iN (s + x.1) from rfl, if_neg (iN_far (by omega))]
    have hu : up1 L (some x) v i = if btr L x.1 v then some (v, i) else some x := rfl
    unfold btr at hu
    by_cases hp : L % 2 = 0
    · rw [if_pos hp] at hu ⊢
      by_cases hlt : x.1 < v
      · rw [if_pos ((iN_lt (by omega) (by omega)).mpr (show s + x.1 < s + v by omega))]
        rw [if_pos (decide_eq_true hlt)] at hu
        exact take hu
      · rw [if_neg (fun z => hlt (by have := (iN_lt (by omega) (by omega)).mp z; omega))]
        rw [if_neg (fun z => hlt (of_decide_eq_true z))] at hu
        exact keep hu
    · rw [if_neg hp] at hu ⊢
      by_cases hlt : v < x.1
      · rw [if_pos ((iN_lt (by omega) (by omega)).mpr (show s + v < s + x.1 by omega))]
        rw [if_pos (decide_eq_true hlt)] at hu
        exact take hu
      · rw [if_neg (fun z => hlt (by have := (iN_lt (by omega) (by omega)).mp z; omega))]
        rw [if_neg (fun z => hlt (of_decide_eq_true z))] at hu
        exact keep hu
theorem e12_tkn {L i : Nat} (hL : L ≤ 3) : ∃ r, fX12_isTaken rfM 0 (nI i) (nI L) μ = some (r, μ) ∧ ((r = 1 ∧ ∃ j, j < L ∧ μ.1 13 j = nI i) ∨ (r = 0 ∧ ∀ j, j < L → ¬ μ.1 13 j = nI i)) := by
  obtain ⟨e1, m1, q1, rfl, hE⟩ := lp_one (h := 2) (s := fX12_isTaken_s2 rfM 0 (nI i) (nI L))
    (fun N τ l => l = μ ∧ ∃ k, k + N = L ∧ τ = nI k ∧ ∀ j, j < k → ¬ μ.1 13 j = nI i)
    (fun e l => μ = l ∧ ((e = (17, 0) ∧ ∃ j, j < L ∧ μ.1 13 j = nI i) ∨ (e = (25, 0) ∧ ∀ j, j < L → ¬ μ.1 13 j = nI i)))
    (fun N τ l hR => by
      obtain ⟨rfl, k, hN, rfl, hj⟩ := hR
      unfold fX12_isTaken_s2
      rw [qm_28]
      by_cases hi : N = 0
      · rw [if_pos ((n_le (by omega) (by omega)).mpr (by omega))]
        exact ⟨_, _, rfl, Or.inr ⟨show ¬ 25 = 2 by decide, rfl, Or.inr ⟨rfl, fun j h => hj j (by omega)⟩⟩⟩
      · rw [if_neg (fun z => by rw [n_le (by omega) (by omega)] at z; omega)]
        simp (disch := omega) only [nI_toInt, nI_clamp, p_ck, aR_1]
        by_cases he : l.1 13 k = nI i
        · rw [if_pos he]
          exact ⟨_, _, rfl, Or.inr ⟨show ¬ 17 = 2 by decide, rfl, Or.inl ⟨rfl, k, by omega, he⟩⟩⟩
        · rw [if_neg he]
          refine ⟨_, _, rfl, Or.inl ⟨rfl, N - 1, by omega, rfl, k + 1, by omega, rfl, fun j h => ?_⟩⟩
          by_cases e : j = k
          · rw [e]; exact he
          · exact hj j (by omega))
    o_fuel L 0 μ (fu (by omega)) ⟨rfl, 0, by omega, rfl, fun j h => by omega⟩
  unfold fX12_isTaken
  rw [q1, p_bd]
  rcases hE with ⟨rfl, h⟩ | ⟨rfl, h⟩
  · exact ⟨1, rfl, Or.inl ⟨rfl, h⟩⟩
  · exact ⟨0, rfl, Or.inr ⟨rfl, h⟩⟩
def vA (g : Nat → Nat → Int32) (i : Nat) : Int := (wA g i).toInt
def vB (g : Nat → Nat → Int32) (i : Nat) : Int := (wB g i).toInt
theorem vA_ok (hw : wfV g) (i : Nat) : 0 ≤ vA g i ∧ vA g i ≤ 9 := wtB_ok hw (fun l hl => fstFit_lt hl)
theorem vB_ok (hw : wfV g) (i : Nat) : 0 ≤ vB g i ∧ vB g i ≤ 9 := wtB_ok hw (fun l hl => lstL_lt hl)
theorem vA_e (hw : wfV g) (i : Nat) : wA g i = iN (vA g i) := iN_of (by have := vA_ok hw i; unfold vA at this; omega)
theorem vB_e (hw : wfV g) (i : Nat) : wB g i = iN (vB g i) := iN_of (by have := vB_ok hw i; unfold vB at this; omega)
theorem st_one (hw : wfV g) (hr : vR g (l0.1 1)) (hF : frG l0 μ) (hT : T ≤ 3) {L i : Nat} (hL : L < 3) (hi : i < cW g) (h13 : μ.1 13 L = nI i - 1) {s : Int} (hs : -100 ≤ s ∧ s ≤ 100) (h15 : μ.1 15 L = iN s) : ((∃ j, j < L ∧ μ.1 13 j = nI i) ∧ fX12_plays_s47 rfM 0 (nI T) (nI L) μ = some ((47, nI L), o_wI μ 13 L (nI i))) ∨ ((∀ j, j < L → ¬ μ.1 13 j = nI i) ∧ fX12_plays_s47 rfM 0 (nI T) (nI L) μ = fX12_plays_j154 rfM 0 (nI T) (nI L) (iN s) (iN (pay (vA g) (vB g) L i)) (o_wI μ 13 L (nI i))) := by
  have bW := hw.1.2.2.2.2.1.2
  have a1 := vA_ok hw i
  have b1 := vB_ok hw i
  have hc : nI i - 1 + 1 = nI i := by
    rw [Int32.sub_add_cancel]
  have e4 : (o_wI μ 13 L (nI i)).1 1 4 = nI (cW g) := by rw [p_wI_o (by omega), hF.1 1 (by omega) (by omega) (by omega) (by omega)]; exact hr.1.2.2.2.2.1.trans hw.1.2.2.2.2.1.1
  have e13 : (o_wI μ 13 L (nI i)).1 13 L = nI i := by rw [p_wI1, if_pos ⟨rfl, rfl⟩]
  have e15 : (o_wI μ 13 L (nI i)).1 15 L = iN s := by rw [p_wI_o (by omega)]; exact h15
  have hr1 : vR g ((o_wI μ 13 L (nI i)).1 1) := by rw [p_wI_o (by omega), hF.1 1 (by omega) (by omega) (by omega) (by omega)]; exact hr
  have ej : ∀ j, j < L → (o_wI μ 13 L (nI i)).1 13 j = μ.1 13 j := fun j hj => by rw [p_wI1, if_neg (by omega)]
  obtain ⟨r, r1, r2⟩ := e12_tkn (μ := o_wI μ 13 L (nI i)) (L := L) (i := i) (by omega)
  unfold fX12_plays_s47
  rw [qm_28, qm_0, qm_30, qm_29, if_neg (show ¬ nI L < 0 by rw [show (0 : Int32) = nI 0 from rfl, n_lt (by omega) (by omega)]; omega)]
  simp (disch := omega) only [nI_toInt, nI_clamp, p_ck, h13, hc, p_seq, e13, e4, r1, p_bd, par, (e12_worth hw hr1 hi).1, (e12_worth hw hr1 hi).2, e15]
  rw [if_neg (show ¬ nI i = nI (cW g) by rw [nI_inj (by omega) (by omega)]; omega)]
  rcases r2 with ⟨rfl, j, hj, he⟩ | ⟨rfl, hj⟩
  · rw [ej j hj] at he
    rw [if_neg (by decide)]
    exact Or.inl ⟨⟨j, hj, he⟩, rfl⟩
  · refine Or.inr ⟨fun j h => by rw [← ej j h]; exact hj j h, ?_⟩
    rw [if_pos rfl]
    unfold pay
    by_cases hp : L % 2 = 0
    · rw [if_pos hp, if_pos hp, vA_e hw]
    · rw [if_neg hp, if_neg hp, vB_e hw, iN_neg (by omega)]
/-- one turn of the game, from its begin until all COVERS are tried -/
theorem lev (hw : wfV g) (hr : vR g (l0.1 1)) (hT : T ≤ 3) (hTn : T ≤ cW g) : ∀ (k L a : Nat) (s : Int) (μ : o_Mem), L + k + 1 = T → a < 4096 → frG l0 μ → (∀ i, i < cW g → (a.testBit i = true ↔ ∃ j, j < L ∧ μ.1 13 j = nI i)) → μ.1 13 L = -1 → μ.1 14 L = 1000000 → μ.1 15 L = iN s → (-(9 * L : Int) ≤ s ∧ s ≤ 9 * L) → ∃ C m, C ≤ cW g * perS k ∧ (∀ M, o_lp 47 (fX12_plays_s47 rfM 0 (nI T)) (C + M) (nI L) μ = o_lp 47 (fX12_plays_s47 rfM 0 (nI T)) M (nI L) m) ∧ frG l0 m ∧ (∀ j, j < L → m.1 13 j = μ.1 13 j ∧ m.1 14 j = μ.1 14 j ∧ m.1 15 j = μ.1 15 j) ∧ m.1 15 L = iN s ∧ m.1 13 L = nI (cW g) - 1 ∧ m.1 14 L = encS s (scn L a.testBit (fun i => pay (vA g) (vB g) L i + bst (cW g) (vA g) (vB g) k (L + 1) (a ||| 2 ^ i)) (cW g)) ∧ (L ≠ 0 → m.1 0 31 = μ.1 0 31) ∧ (L = 0 → fsE (scn L a.testBit (fun i => pay (vA g) (vB g) L i + bst (cW g) (vA g) (vB g) k (L + 1) (a ||| 2 ^ i)) (cW g)) (m.1 0 31)) := by
  have bW := hw.1.2.2.2.2.1.2
  intro k
  induction k with
  | zero =>
    intro L a s μ hk ha hF hbt h13 h14 h15 hs
    obtain ⟨v, hv⟩ : ∃ v : Nat → Int, v = fun i => pay (vA g) (vB g) L i + bst (cW g) (vA g) (vB g) 0 (L + 1) (a ||| 2 ^ i) := ⟨_, rfl⟩
    rw [← hv]
    have hve : ∀ i, v i = pay (vA g) (vB g) L i := fun i => by rw [hv]; show pay (vA g) (vB g) L i + 0 = _; omega
    have hvb : ∀ i, i < cW g → -9 ≤ v i ∧ v i ≤ 9 := fun i hi => by rw [hve]; exact pay_b (n := cW g) (fun i _ => vA_ok hw i) (fun i _ => vB_ok hw i) L hi
    have key : ∀ i, i ≤ cW g → ∃ C m, C ≤ i * perS 0 ∧ (∀ M, o_lp 47 (fX12_plays_s47 rfM 0 (nI T)) (C + M) (nI L) μ = o_lp 47 (fX12_plays_s47 rfM 0 (nI T)) M (nI L) m) ∧ frG l0 m ∧ (∀ j, j < L → m.1 13 j = μ.1 13 j ∧ m.1 14 j = μ.1 14 j ∧ m.1 15 j = μ.1 15 j) ∧ m.1 15 L = iN s ∧ m.1 13 L = nI i - 1 ∧ m.1 14 L = encS s (scn L a.testBit v i) ∧ (L ≠ 0 → m.1 0 31 = μ.1 0 31) ∧ (L = 0 → fsE (scn L a.testBit v i) (m.1 0 31)) := by
      intro i
      induction i with
      | zero => exact fun _ => ⟨0, μ, by omega, fun M => by rw [Nat.zero_add], hF, fun _ _ => ⟨rfl, rfl, rfl⟩, h15, h13, h14, fun _ => rfl, fun _ => trivial⟩
      | succ i ih =>
        intro hi
        obtain ⟨C, m, c1, c2, F, c3, c4, c5, c6, c7, c8⟩ := ih (by omega)
        have F1 : frG l0 (o_wI m 13 L (nI i)) := ⟨fun q q0 q1 q2 q3 => by rw [p_wI_o q1]; exact F.1 q q0 q1 q2 q3, fun q hq => by rw [p_wI_o (by omega)]; exact F.2.1 q hq, F.2.2⟩
        rcases st_one hw hr F hT (by omega) (show i < cW g by omega) c5 (s := s) (by omega) c4 with ⟨hj, hst⟩ | ⟨hj, hst⟩
        · have hbit : a.testBit i = true := (hbt i (by omega)).mpr (by
            obtain ⟨j, j1, j2⟩ := hj
            exact ⟨j, j1, by rw [← (c3 j j1).1]; exact j2⟩)
          refine ⟨C + 1, _, by unfold perS at c1 ⊢; omega, fun M => by rw [Nat.add_assoc, c2, Nat.add_comm 1 M, p_lp_next hst], F1, fun j hj => ?_, ?_, ?_, ?_, fun hl => ?_, fun hl => ?_⟩
          · rw [p_wI1, if_neg (by omega), p_wI_o (by omega), p_wI_o (by omega)]; exact c3 j hj
          · rw [p_wI_o (by omega)]; exact c4
          · rw [p_wI1, if_pos ⟨rfl, rfl⟩, nI_s1]
          · rw [p_wI_o (by omega), scn_tkn hbit]; exact c6
          · rw [p_wI_o (by omega)]; exact c7 hl
          · rw [p_wI_o (by omega), scn_tkn hbit]; exact c8 hl
        · have hbit : a.testBit i = false := by
            cases hh : a.testBit i with
            | false => rfl
            | true =>
              obtain ⟨j, j1, j2⟩ := (hbt i (by omega)).mp hh
              exact absurd ((c3 j j1).1.trans j2) (hj j j1)
          have hvi := hvb i (by omega)
          obtain ⟨m', w1, w2, w3, w4, w5, w6, w7, w8⟩ := e12_weighs (μ := o_wI m 13 L (nI i)) (L := L) (by omega) (s := s) (v := v i) (o := scn L a.testBit v i) (i := i) (by omega) (by omega) (fun x hx => by
            obtain ⟨x1, -, x3⟩ := scn_mem i x hx
            have := hvb x.2 (by omega)
            omega) (by rw [p_wI_o (by omega)]; exact c6)
          have hst2 : fX12_plays_s47 rfM 0 (nI T) (nI L) m = some ((47, nI L), m') := by
            rw [hst]
            unfold fX12_plays_j154
            rw [aR_1, if_pos ((n_le (by omega) (by omega)).mpr (by omega)), iN_add (by omega) (by rw [← hve]; omega), ← hve, w1, p_bd]
          refine ⟨C + 1, m', by unfold perS at c1 ⊢; omega, fun M => by rw [Nat.add_assoc, c2, Nat.add_comm 1 M, p_lp_next hst2], ⟨fun q q0 q1 q2 q3 => by rw [w4 q q0 q2]; exact F1.1 q q0 q1 q2 q3, fun q hq => by rw [w5 q hq]; exact F1.2.1 q hq, w6.trans F1.2.2⟩, fun j hj => ?_, ?_, ?_, ?_, fun hl => ?_, fun hl => ?_⟩
          · rw [w4 13 (by omega) (by omega), w4 15 (by omega) (by omega), w3 j (by omega), p_wI1, if_neg (by omega), p_wI_o (by omega), p_wI_o (by omega)]; exact c3 j hj
          · rw [w4 15 (by omega) (by omega), p_wI_o (by omega)]; exact c4
          · rw [w4 13 (by omega) (by omega), p_wI1, if_pos ⟨rfl, rfl⟩, nI_s1]
          · rw [scn_free hbit]; exact w2
          · rw [w7 hl, p_wI_o (by omega)]; exact c7 hl
          · rw [scn_free hbit]
            exact w8 hl (by rw [p_wI1, if_pos ⟨rfl, hl.symm⟩]) (by rw [p_wI_o (by omega)]; exact c8 hl)
    exact key (cW g) (Nat.le_refl _)
  | succ k ihk =>
    intro L a s μ hk ha hF hbt h13 h14 h15 hs
    obtain ⟨v, hv⟩ : ∃ v : Nat → Int, v = fun i => pay (vA g) (vB g) L i + bst (cW g) (vA g) (vB g) (k + 1) (L + 1) (a ||| 2 ^ i) := ⟨_, rfl⟩
    rw [← hv]
    have hpb : ∀ i, i < cW g → -9 ≤ pay (vA g) (vB g) L i ∧ pay (vA g) (vB g) L i ≤ 9 := fun i hi => pay_b (n := cW g) (fun i _ => vA_ok hw i) (fun i _ => vB_ok hw i) L hi
    have hve : ∀ i, v i = pay (vA g) (vB g) L i + bst (cW g) (vA g) (vB g) (k + 1) (L + 1) (a ||| 2 ^ i) := fun i => by rw [hv]
    have hvb : ∀ i, i < cW g → -30 ≤ v i ∧ v i ≤ 30 := fun i hi => by
      have p := hpb i hi
      have q := bst_b (n := cW g) (A := vA g) (B := vB g) (fun i _ => vA_ok hw i) (fun i _ => vB_ok hw i) (k + 1) (L + 1) (a ||| 2 ^ i)
      rw [hve]
      omega
    have key : ∀ i, i ≤ cW g → ∃ C m, C ≤ i * perS (k + 1) ∧ (∀ M, o_lp 47 (fX12_plays_s47 rfM 0 (nI T)) (C + M) (nI L) μ = o_lp 47 (fX12_plays_s47 rfM 0 (nI T)) M (nI L) m) ∧ frG l0 m ∧ (∀ j, j < L → m.1 13 j = μ.1 13 j ∧ m.1 14 j = μ.1 14 j ∧ m.1 15 j = μ.1 15 j) ∧ m.1 15 L = iN s ∧ m.1 13 L = nI i - 1 ∧ m.1 14 L = encS s (scn L a.testBit v i) ∧ (L ≠ 0 → m.1 0 31 = μ.1 0 31) ∧ (L = 0 → fsE (scn L a.testBit v i) (m.1 0 31)) := by
      intro i
      induction i with
      | zero => exact fun _ => ⟨0, μ, by omega, fun M => by rw [Nat.zero_add], hF, fun _ _ => ⟨rfl, rfl, rfl⟩, h15, h13, h14, fun _ => rfl, fun _ => trivial⟩
      | succ i ih =>
        intro hi
        obtain ⟨C, m, c1, c2, F, c3, c4, c5, c6, c7, c8⟩ := ih (by omega)
        have hsm : (i + 1) * perS (k + 1) = i * perS (k + 1) + perS (k + 1) := Nat.succ_mul i (perS (k + 1))
        have F1 : frG l0 (o_wI m 13 L (nI i)) := ⟨fun q q0 q1 q2 q3 => by rw [p_wI_o q1]; exact F.1 q q0 q1 q2 q3, fun q hq => by rw [p_wI_o (by omega)]; exact F.2.1 q hq, F.2.2⟩
        rcases st_one hw hr F hT (by omega) (show i < cW g by omega) c5 (s := s) (by omega) c4 with ⟨hj, hst⟩ | ⟨hj, hst⟩
        · have hbit : a.testBit i = true := (hbt i (by omega)).mpr (by
            obtain ⟨j, j1, j2⟩ := hj
            exact ⟨j, j1, by rw [← (c3 j j1).1]; exact j2⟩)
          refine ⟨C + 1, _, by rw [hsm]; unfold perS at c1 ⊢; omega, fun M => by rw [Nat.add_assoc, c2, Nat.add_comm 1 M, p_lp_next hst], F1, fun j hj => ?_, ?_, ?_, ?_, fun hl => ?_, fun hl => ?_⟩
          · rw [p_wI1, if_neg (by omega), p_wI_o (by omega), p_wI_o (by omega)]; exact c3 j hj
          · rw [p_wI_o (by omega)]; exact c4
          · rw [p_wI1, if_pos ⟨rfl, rfl⟩, nI_s1]
          · rw [p_wI_o (by omega), scn_tkn hbit]; exact c6
          · rw [p_wI_o (by omega)]; exact c7 hl
          · rw [p_wI_o (by omega), scn_tkn hbit]; exact c8 hl
        · have hbit : a.testBit i = false := by
            cases hh : a.testBit i with
            | false => rfl
            | true =>
              obtain ⟨j, j1, j2⟩ := (hbt i (by omega)).mp hh
              exact absurd ((c3 j j1).1.trans j2) (hj j j1)
          have hvi := hvb i (by omega)
          have hpi := hpb i (by omega)
          -- one turn deeper
          generalize hP : o_wI (o_wI (o_wI (o_wI m 13 L (nI i)) 13 (L + 1) (-1)) 14 (L + 1) 1000000) 15 (L + 1) (iN (s + pay (vA g) (vB g) L i)) = P
          have hst2 : fX12_plays_s47 rfM 0 (nI T) (nI L) m = some ((47, nI (L + 1)), P) := by
            rw [hst]
            unfold fX12_plays_j154
            rw [aR_1, if_neg (fun z => by rw [n_le (by omega) (by omega)] at z; omega), iN_add (by omega) (by omega), qm_28, qm_29, qm_30]
            simp (disch := omega) only [nI_toInt, nI_clamp, p_ck, p_seq]
            rw [hP]
          have P13 : ∀ j, P.1 13 j = if j = L + 1 then -1 else if j = L then nI i else m.1 13 j := fun j => by
            rw [← hP, p_wI_o (by omega), p_wI_o (by omega), p_wI1, p_wI1]
            by_cases e1 : j = L + 1
            · rw [if_pos ⟨rfl, e1⟩, if_pos e1]
            · rw [if_neg (fun z => e1 z.2), if_neg e1]
              by_cases e2 : j = L
              · rw [if_pos ⟨rfl, e2⟩, if_pos e2]
              · rw [if_neg (fun z => e2 z.2), if_neg e2]
          have P14 : ∀ j, P.1 14 j = if j = L + 1 then 1000000 else m.1 14 j := fun j => by
            rw [← hP, p_wI_o (by omega), p_wI1, p_wI_o (by omega), p_wI_o (by omega)]
            by_cases e1 : j = L + 1
            · rw [if_pos ⟨rfl, e1⟩, if_pos e1]
            · rw [if_neg (fun z => e1 z.2), if_neg e1]
          have P15 : ∀ j, P.1 15 j = if j = L + 1 then iN (s + pay (vA g) (vB g) L i) else m.1 15 j := fun j => by
            rw [← hP, p_wI1, p_wI_o (by omega), p_wI_o (by omega), p_wI_o (by omega)]
            by_cases e1 : j = L + 1
            · rw [if_pos ⟨rfl, e1⟩, if_pos e1]
            · rw [if_neg (fun z => e1 z.2), if_neg e1]
          have Po : ∀ q, q ≠ 13 → q ≠ 14 → q ≠ 15 → P.1 q = m.1 q := fun q q1 q2 q3 => by rw [← hP, p_wI_o q3, p_wI_o q2, p_wI_o q1, p_wI_o q1]
          have FP : frG l0 P := ⟨fun q q0 q1 q2 q3 => by rw [Po q q1 q2 q3]; exact F.1 q q0 q1 q2 q3, fun q hq => by rw [Po 0 (by omega) (by omega) (by omega)]; exact F.2.1 q hq, by rw [← hP]; exact F.2.2⟩
          have hbt' : ∀ i', i' < cW g → ((a ||| 2 ^ i).testBit i' = true ↔ ∃ j, j < L + 1 ∧ P.1 13 j = nI i') := fun i' hi' => by
            rw [bit_set, Bool.or_eq_true, decide_eq_true_iff, hbt i' hi']
            constructor
            · rintro (⟨j, j1, j2⟩ | he)
              · exact ⟨j, by omega, by rw [P13, if_neg (by omega), if_neg (by omega), (c3 j j1).1]; exact j2⟩
              · exact ⟨L, by omega, by rw [P13, if_neg (by omega), if_pos rfl, he]⟩
            · rintro ⟨j, j1, j2⟩
              by_cases hjL : j = L
              · rw [hjL, P13, if_neg (by omega), if_pos rfl, nI_inj (by omega) (by omega)] at j2
                exact Or.inr j2.symm
              · rw [P13, if_neg (by omega), if_neg hjL, (c3 j (by omega)).1] at j2
                exact Or.inl ⟨j, by omega, j2⟩
          obtain ⟨D, Q, d1, d2, FQ, d3, d4, d5, d6, d7, -⟩ := ihk (L + 1) (a ||| 2 ^ i) (s + pay (vA g) (vB g) L i) P (by omega) (w_or_lt ha (by omega)) FP hbt' (by rw [P13, if_pos rfl]) (by rw [P14, if_pos rfl]) (by rw [P15, if_pos rfl]) (by omega)
          -- there is one left
          cases hsc : scn (L + 1) (a ||| 2 ^ i).testBit (fun i' => pay (vA g) (vB g) (L + 1) i' + bst (cW g) (vA g) (vB g) k (L + 1 + 1) (a ||| 2 ^ i ||| 2 ^ i')) (cW g) with
          | none =>
            have hall := scn_none _ hsc
            have hc : ∀ i', ∃ j, i' < cW g → j < L + 1 ∧ P.1 13 j = nI i' := fun i' => by
              by_cases hi' : i' < cW g
              · obtain ⟨j, j1, j2⟩ := (hbt' i' hi').mp (hall i' hi')
                exact ⟨j, fun _ => ⟨j1, j2⟩⟩
              · exact ⟨0, fun z => absurd z hi'⟩
            have := pig (L + 1) (cW g) (fun i' => Classical.choose (hc i')) (fun i' hi' => (Classical.choose_spec (hc i') hi').1) (fun x y hx hy he => by
              have ex := (Classical.choose_spec (hc x) hx).2
              have ey := (Classical.choose_spec (hc y) hy).2
              have he' : Classical.choose (hc x) = Classical.choose (hc y) := he
              rw [he', ey, nI_inj (by omega) (by omega)] at ex
              exact ex.symm)
            omega
          | some x =>
            have hbx : bst (cW g) (vA g) (vB g) (k + 1) (L + 1) (a ||| 2 ^ i) = x.1 := by
              show valS (scn (L + 1) (a ||| 2 ^ i).testBit (fun i' => pay (vA g) (vB g) (L + 1) i' + bst (cW g) (vA g) (vB g) k (L + 1 + 1) (a ||| 2 ^ i ||| 2 ^ i')) (cW g)) = x.1
              rw [hsc]
              rfl
            have hvx : v i = pay (vA g) (vB g) L i + x.1 := by rw [hve, hbx]
            rw [hsc] at d6
            -- and back
            have q13 : ∀ j, j < L + 1 → Q.1 13 j = P.1 13 j := fun j hj => (d3 j hj).1
            generalize hR : o_wI Q 13 (L + 1) (nI (cW g)) = R
            have R13 : ∀ j, j ≠ L + 1 → R.1 13 j = Q.1 13 j := fun j hj => by rw [← hR, p_wI1, if_neg (fun z => hj z.2)]
            have Ro : ∀ q, q ≠ 13 → R.1 q = Q.1 q := fun q hq => by rw [← hR, p_wI_o hq]
            have FR : frG l0 R := ⟨fun q q0 q1 q2 q3 => by rw [Ro q q1]; exact FQ.1 q q0 q1 q2 q3, fun q hq => by rw [Ro 0 (by omega)]; exact FQ.2.1 q hq, by rw [← hR]; exact FQ.2.2⟩
            have R14 : R.1 14 L = encS s (scn L a.testBit v i) := by rw [Ro 14 (by omega), (d3 L (by omega)).2.1, P14, if_neg (by omega)]; exact c6
            obtain ⟨m', w1, w2, w3, w4, w5, w6, w7, w8⟩ := e12_weighs (μ := R) (L := L) (by omega) (s := s) (v := v i) (o := scn L a.testBit v i) (i := i) (by omega) (by omega) (fun x hx => by
              obtain ⟨x1, -, x3⟩ := scn_mem i x hx
              have := hvb x.2 (by omega)
              omega) R14
            have hst3 : fX12_plays_s47 rfM 0 (nI T) (nI (L + 1)) Q = some ((47, nI L), m') := by
              have hc : nI (cW g) - 1 + 1 = nI (cW g) := by rw [Int32.sub_add_cancel]
              have hL1 : nI (L + 1) + -1 = nI L := by rw [nI_m1, nI_s1]
              have eR13 : R.1 13 (L + 1) = nI (cW g) := by rw [← hR, p_wI1, if_pos ⟨rfl, rfl⟩]
              have eR4 : R.1 1 4 = nI (cW g) := by rw [FR.1 1 (by omega) (by omega) (by omega) (by omega)]; exact hr.1.2.2.2.2.1.trans hw.1.2.2.2.2.1.1
              have eR14 : R.1 14 (L + 1) = iN (s + v i) := by
                rw [Ro 14 (by omega), d6, hvx, ← Int.add_assoc]
                rfl
              unfold fX12_plays_s47
              rw [qm_28, qm_0, qm_29, if_neg (show ¬ nI (L + 1) < 0 by rw [show (0 : Int32) = nI 0 from rfl, n_lt (by omega) (by omega)]; omega)]
              simp (disch := omega) only [nI_toInt, nI_clamp, p_ck, d5, hc, p_seq, hR, eR13, eR4, hL1, aR_1, eR14]
              rw [if_pos trivial, if_neg (show ¬ nI L < 0 by rw [show (0 : Int32) = nI 0 from rfl, n_lt (by omega) (by omega)]; omega), w1, p_bd]
            have hD12 : cW g * perS k ≤ 12 * perS k := Nat.mul_le_mul_right _ bW
            refine ⟨C + (D + 1 + 1), m', ?_, fun M => ?_, ⟨fun q q0 q1 q2 q3 => by rw [w4 q q0 q2]; exact FR.1 q q0 q1 q2 q3, fun q hq => by rw [w5 q hq]; exact FR.2.1 q hq, w6.trans FR.2.2⟩, fun j hj => ?_, ?_, ?_, ?_, fun hl => ?_, fun hl => ?_⟩
            · rw [hsm]
              show C + (D + 1 + 1) ≤ i * perS (k + 1) + (12 * perS k + 2)
              omega
            · rw [Nat.add_assoc, c2, show D + 1 + 1 + M = (D + (M + 1)) + 1 by omega, p_lp_next hst2, d2, p_lp_next hst3]
            · rw [w4 13 (by omega) (by omega), w4 15 (by omega) (by omega), w3 j (by omega), R13 j (by omega), Ro 14 (by omega), Ro 15 (by omega), (d3 j (by omega)).1, (d3 j (by omega)).2.1, (d3 j (by omega)).2.2, P13, P14, P15, if_neg (by omega), if_neg (by omega), if_neg (by omega), if_neg (by omega)]
              exact c3 j hj
            · rw [w4 15 (by omega) (by omega), Ro 15 (by omega), (d3 L (by omega)).2.2, P15, if_neg (by omega)]; exact c4
            · rw [w4 13 (by omega) (by omega), R13 L (by omega), (d3 L (by omega)).1, P13, if_neg (by omega), if_pos rfl, nI_s1]
            · rw [scn_free hbit]; exact w2
            · rw [w7 hl, Ro 0 (by omega), d7 (by omega), Po 0 (by omega) (by omega) (by omega)]; exact c7 hl
            · rw [scn_free hbit]
              refine w8 hl ?_ ?_
              · rw [R13 0 (by omega), (d3 0 (by omega)).1, P13, if_neg (by omega), if_pos hl.symm]
              · rw [Ro 0 (by omega), d7 (by omega), Po 0 (by omega) (by omega) (by omega)]; exact c8 hl
    exact key (cW g) (Nat.le_refl _)
end mg
