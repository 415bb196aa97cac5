/-! ===== BY WAY OF others: via, viaFirst ===== -/
/-- pigeons -/
theorem pig : ∀ (n d : Nat) (f : Nat → Nat), (∀ i, i < d → f i < n) → (∀ i j, i < d → j < d → f i = f j → i = j) → d ≤ n
  | 0, d, f, h1, _ => by
    rcases Nat.eq_zero_or_pos d with h | h
    · omega
    · exact absurd (h1 0 h) (by omega)
  | n + 1, d, f, h1, h2 => by
    by_cases hx : ∃ i, i < d ∧ f i = n
    · obtain ⟨i0, hi0, hf⟩ := hx
      have := pig n (d - 1) (fun i => if i = i0 then f (d - 1) else f i) (fun i hi => by
        show (if i = i0 then f (d - 1) else f i) < n
        by_cases e : i = i0
        · rw [if_pos e]
          have a := h1 (d - 1) (by omega)
          have b : f (d - 1) ≠ n := fun z => by have := h2 (d - 1) i0 (by omega) hi0 (z.trans hf.symm); omega
          omega
        · rw [if_neg e]
          have a := h1 i (by omega)
          have b : f i ≠ n := fun z => e (h2 i i0 (by omega) hi0 (z.trans hf.symm))
          omega) (fun i j hi hj he => by
        replace he : (if i = i0 then f (d - 1) else f i) = (if j = i0 then f (d - 1) else f j) := he
        by_cases ei : i = i0
        · by_cases ej : j = i0
          · omega
          · rw [if_pos ei, if_neg ej] at he
            have := h2 (d - 1) j (by omega) (by omega) he
            omega
        · by_cases ej : j = i0
          · rw [if_neg ei, if_pos ej] at he
            have := h2 i (d - 1) (by omega) (by omega) he
            omega
          · rw [if_neg ei, if_neg ej] at he
            exact h2 i j (by omega) (by omega) he)
      omega
    · have := pig n d f (fun i hi => by
        have a := h1 i hi
        have b : f i ≠ n := fun z => hx ⟨i, hi, z⟩
        omega) h2
      omega
section wk
variable {n : Nat} {E : Nat → Nat → Prop} {B : Nat → Prop}
/-- a way of d steps -/
def wlk (n : Nat) (E : Nat → Nat → Prop) (B : Nat → Prop) : Nat → Nat → Prop
  | 0, _ => False
  | 1, p => B p
  | d + 2, p => ∃ q, q < n ∧ E p q ∧ wlk n E B (d + 1) q
def lst (n : Nat) (E : Nat → Nat → Prop) (B : Nat → Prop) (d p : Nat) : Prop := wlk n E B d p ∧ ∀ e, e < d → ¬ wlk n E B e p
theorem wlk_up {e p q : Nat} (h : wlk n E B e q) (hq : q < n) (hE : E p q) : wlk n E B (e + 1) p := by
  cases e with
  | zero => exact absurd h id
  | succ e => exact ⟨q, hq, hE, h⟩
theorem lst_un {d e p : Nat} (h1 : lst n E B d p) (h2 : lst n E B e p) : d = e := by
  rcases Nat.lt_trichotomy d e with h | h | h
  · exact absurd h1.1 (h2.2 d h)
  · exact h
  · exact absurd h2.1 (h1.2 e h)
theorem lst_prev {d p : Nat} (h : lst n E B (d + 2) p) : ∃ q, q < n ∧ E p q ∧ lst n E B (d + 1) q := by
  obtain ⟨q, hq, hE, hW⟩ := h.1
  exact ⟨q, hq, hE, hW, fun e he hw => h.2 (e + 1) (by omega) (wlk_up hw hq hE)⟩
theorem lst_all {d p : Nat} (h : lst n E B d p) (hp : p < n) : ∀ k, k < d → ∃ q, q < n ∧ lst n E B (d - k) q
  | 0, _ => ⟨p, hp, h⟩
  | k + 1, hk => by
    obtain ⟨q, hq, hl⟩ := lst_all h hp k (by omega)
    rw [show d - k = d - (k + 1) - 1 + 2 by omega] at hl
    obtain ⟨q', a, -, b⟩ := lst_prev hl
    exact ⟨q', a, by rw [show d - (k + 1) = d - (k + 1) - 1 + 1 by omega]; exact b⟩
theorem lst_le {d p : Nat} (h : lst n E B d p) (hp : p < n) : d ≤ n := by
  have hc : ∀ i, ∃ q, i < d → q < n ∧ lst n E B (d - i) q := fun i => by
    by_cases hi : i < d
    · obtain ⟨q, a, b⟩ := lst_all h hp i hi
      exact ⟨q, fun _ => ⟨a, b⟩⟩
    · exact ⟨0, fun z => absurd z hi⟩
  refine pig n d (fun i => Classical.choose (hc i)) (fun i hi => (Classical.choose_spec (hc i) hi).1) (fun i j hi hj he => ?_)
  have a := (Classical.choose_spec (hc i) hi).2
  have b := (Classical.choose_spec (hc j) hj).2
  have he' : Classical.choose (hc i) = Classical.choose (hc j) := he
  rw [he'] at a
  have := lst_un a b
  omega
theorem wlk_lst {p : Nat} : ∀ e, wlk n E B e p → ∃ d, d ≤ e ∧ lst n E B d p := by
  intro e
  induction e using Nat.strongRecOn with
  | ind e ih =>
    intro h
    by_cases hx : ∃ e', e' < e ∧ wlk n E B e' p
    · obtain ⟨e', h1, h2⟩ := hx
      obtain ⟨d, a, b⟩ := ih e' h1 h2
      exact ⟨d, by omega, b⟩
    · exact ⟨e, Nat.le_refl _, h, fun e' h1 h2 => hx ⟨e', h1, h2⟩⟩
/-- the class's number of a way so far -/
def wC (n : Nat) (E : Nat → Nat → Prop) (B : Nat → Prop) (d p : Nat) (x : Int32) : Prop := (∃ e, e ≤ d ∧ lst n E B e p ∧ x = nI e) ∨ ((∀ e, e ≤ d → ¬ wlk n E B e p) ∧ x = -1)
/-- the reference's -/
def wM (n : Nat) (E : Nat → Nat → Prop) (B : Nat → Prop) (d p : Nat) (x : Int32) : Prop := (x = 1000000 ∨ ∃ e, e < 1000000 ∧ wlk n E B e p ∧ x = nI e) ∧ ∀ e, e ≤ d → wlk n E B e p → x.toInt ≤ e
theorem w_end {p : Nat} (hn : n ≤ 6) (hp : p < n) {x y : Int32} (hx : wC n E B n p x) (hy : wM n E B 7 p y) : (∃ d, 1 ≤ d ∧ d ≤ n ∧ x = nI d ∧ y = nI d) ∨ (x = -1 ∧ y = 1000000) := by
  rcases hx with ⟨d, h1, h2, rfl⟩ | ⟨h1, rfl⟩
  · refine Or.inl ⟨d, ?_, h1, rfl, ?_⟩
    · rcases Nat.eq_zero_or_pos d with h | h
      · rw [h] at h2; exact absurd h2.1 id
      · exact h
    · have hu := hy.2 d (by omega) h2.1
      rcases hy.1 with rfl | ⟨e, h3, h4, rfl⟩
      · exact absurd hu (by rw [show (1000000 : Int32).toInt = 1000000 from rfl]; omega)
      · rw [nI_toInt (by omega)] at hu
        have : ¬ e < d := fun z => h2.2 e z h4
        rw [show e = d by omega]
  · refine Or.inr ⟨rfl, ?_⟩
    rcases hy.1 with rfl | ⟨e, h3, h4, rfl⟩
    · rfl
    · obtain ⟨d, h5, h6⟩ := wlk_lst e h4
      exact absurd h6.1 (h1 d (lst_le h6 hp))
end wk
section vi
variable {μC μM : o_Mem}
def eW (g : Nat → Nat → Int32) (w : Int32) (u v : Nat) : Prop := u ≠ v ∧ ¬ sob g (nI u) (nI v) w (g 3 u) = -1
def bW (g : Nat → Nat → Int32) (t : Nat) (w s : Int32) (u : Nat) : Prop := u ≠ t ∧ sob g (nI u) (nI t) w (g 3 u) = s
theorem e6_sb {m : o_Mem} (hw : wfN (bV m 10)) {u : Nat} (hu : u < 6) (x w : Int32) : fX6_struckBetween rfC 10 (nI u) x w m = some (sob (bV m 10) (nI u) x w (bV m 10 3 u), m) := by
  unfold fX6_struckBetween
  rw [rc10_11]
  simp (disch := omega) only [nI_toInt, nI_clamp, p_ck]
  rw [e8_sober k10 _ _ _ _ m hw, p_bd]
  rfl
theorem nx_no {m : o_Mem} (hw : wfN (bV m 10)) {p k : Nat} (hp : p < 6) (hk : k < cP (bV m 10)) (w x : Int32) (h : ¬ (m.1 146 k = x - 1 ∧ eW (bV m 10) w p k)) : fX6_nextOnWay_s3 rfC 145 10 (nI p) w x (nI k) m = some ((3, nI (k + 1)), m) := by
  have bP := hw.2.2.1.2
  unfold fX6_nextOnWay_s3
  rw [rc145_0, show m.1 10 2 = nI (cP (bV m 10)) from hw.2.2.1.1, if_neg (show ¬ nI (cP (bV m 10)) ≤ nI k by rw [n_le (by omega) (by omega)]; omega)]
  simp (disch := omega) only [nI_toInt, nI_clamp, p_ck, aR_1, e6_sb hw hp, p_bd]
  by_cases h1 : k = p
  · rw [if_pos (show nI k = nI p by rw [h1])]
  · rw [if_neg (show ¬ nI k = nI p by rw [nI_inj (by omega) (by omega)]; exact h1)]
    by_cases h2 : m.1 146 k = x - 1
    · rw [if_pos h2, if_pos (Classical.byContradiction fun z => h ⟨h2, fun z => h1 z.symm, z⟩)]
    · rw [if_neg h2]
theorem nx_yes {m : o_Mem} (hw : wfN (bV m 10)) {p k : Nat} (hp : p < 6) (hk : k < cP (bV m 10)) (w x : Int32) (h : m.1 146 k = x - 1 ∧ eW (bV m 10) w p k) : fX6_nextOnWay_s3 rfC 145 10 (nI p) w x (nI k) m = some ((44, nI k), m) := by
  have bP := hw.2.2.1.2
  unfold fX6_nextOnWay_s3
  rw [rc145_0, show m.1 10 2 = nI (cP (bV m 10)) from hw.2.2.1.1, if_neg (show ¬ nI (cP (bV m 10)) ≤ nI k by rw [n_le (by omega) (by omega)]; omega)]
  simp (disch := omega) only [nI_toInt, nI_clamp, p_ck, aR_1, e6_sb hw hp, p_bd]
  rw [if_neg (show ¬ nI k = nI p by rw [nI_inj (by omega) (by omega)]; exact fun z => h.2.1 z.symm), if_pos h.1, if_neg h.2.2]
theorem e6_next {m : o_Mem} (hw : wfN (bV m 10)) {p : Nat} (hp : p < 6) (w x : Int32) : ∃ r, fX6_nextOnWay rfC 145 10 (nI p) w x m = some (r, m) ∧ ((r = -1 ∧ ∀ q, q < cP (bV m 10) → ¬ (m.1 146 q = x - 1 ∧ eW (bV m 10) w p q)) ∨ (∃ q, q < cP (bV m 10) ∧ r = nI q ∧ (m.1 146 q = x - 1 ∧ eW (bV m 10) w p q) ∧ ∀ q', q' < q → ¬ (m.1 146 q' = x - 1 ∧ eW (bV m 10) w p q'))) := by
  have bP := hw.2.2.1.2
  have eP : m.1 10 2 = nI (cP (bV m 10)) := hw.2.2.1.1
  obtain ⟨e, m1, q1, rfl, hE⟩ := lp_one (h := 3) (s := fX6_nextOnWay_s3 rfC 145 10 (nI p) w x)
    (fun i τ μ => μ = m ∧ ∃ k, k + i = cP (bV m 10) ∧ τ = nI k ∧ ∀ q, q < k → ¬ (m.1 146 q = x - 1 ∧ eW (bV m 10) w p q))
    (fun e μ => m = μ ∧ ((e = (53, 0) ∧ ∀ q, q < cP (bV m 10) → ¬ (m.1 146 q = x - 1 ∧ eW (bV m 10) w p q)) ∨ ∃ q, q < cP (bV m 10) ∧ e = (44, nI q) ∧ (m.1 146 q = x - 1 ∧ eW (bV m 10) w p q) ∧ ∀ q', q' < q → ¬ (m.1 146 q' = x - 1 ∧ eW (bV m 10) w p q')))
    (fun i τ μ hR => by
      obtain ⟨rfl, k, hk, rfl, hq⟩ := hR
      by_cases hi : i = 0
      · refine ⟨(53, 0), μ, ?_, Or.inr ⟨show ¬ 53 = 3 by decide, rfl, Or.inl ⟨rfl, fun q h => hq q (by omega)⟩⟩⟩
        unfold fX6_nextOnWay_s3
        rw [eP, if_pos (show nI (cP (bV μ 10)) ≤ nI k by rw [n_le (by omega) (by omega)]; omega)]
      · by_cases hx : μ.1 146 k = x - 1 ∧ eW (bV μ 10) w p k
        · exact ⟨_, _, nx_yes hw hp (by omega) w x hx, Or.inr ⟨show ¬ 44 = 3 by decide, rfl, Or.inr ⟨k, by omega, rfl, hx, hq⟩⟩⟩
        · refine ⟨_, _, nx_no hw hp (by omega) w x hx, Or.inl ⟨rfl, i - 1, by omega, rfl, k + 1, by omega, rfl, fun q h => ?_⟩⟩
          by_cases hqk : q = k
          · rw [hqk]; exact hx
          · exact hq q (by omega))
    o_fuel (cP (bV m 10)) 0 m (fu (by omega)) ⟨rfl, 0, by omega, rfl, fun q h => by omega⟩
  unfold fX6_nextOnWay
  rw [q1, p_bd]
  rcases hE with ⟨rfl, hE⟩ | ⟨q, h1, rfl, h2, h3⟩
  · exact ⟨-1, rfl, Or.inl ⟨rfl, hE⟩⟩
  · exact ⟨nI q, rfl, Or.inr ⟨q, h1, rfl, h2, h3⟩⟩
theorem bV_c {m μ : o_Mem} (h : ∀ i, i ≠ 146 → m.1 i = μ.1 i) (j : Nat) (hj : j < 20) : bV m 10 j = bV μ 10 j := by
  funext k
  show m.1 (10 + j) k = μ.1 (10 + j) k
  rw [h _ (by omega)]
theorem sob_c {g g' : Nat → Nat → Int32} (h : ∀ j, j < 20 → g' j = g j) (f t w x : Int32) : sob g' f t w x = sob g f t w x := by
  have e0 := h 0 (by omega)
  have e4 := h 4 (by omega)
  have hL : cL g' = cL g := by unfold cL; rw [e0]
  have hf : (fun l => fitB g' l f t w x) = fun l => fitB g l f t w x := by funext l; unfold fitB fitP; rw [e4]
  have hx : fstFit g' f t w x = fstFit g f t w x := by
    unfold fstFit
    rw [hL, hf]
  unfold sob stkBy
  rw [hx, e4]
/-- the class's ways -/
theorem e6_ways {m : o_Mem} (hw : wfN (bV m 10)) {t : Nat} (ht : t < cP (bV m 10)) (w s : Int32) : ∃ m', fX6_findWays rfC 145 10 (nI t) w s m = some ((), m') ∧ (∀ i, i ≠ 146 → m'.1 i = m.1 i) ∧ m'.2 = m.2 ∧ ∀ p, p < cP (bV m 10) → wC (cP (bV m 10)) (eW (bV m 10) w) (bW (bV m 10) t w s) (cP (bV m 10)) p (m'.1 146 p) := by
  have bP := hw.2.2.1.2
  generalize hg : bV m 10 = g at *
  have cg : ∀ μ : o_Mem, (∀ i, i ≠ 146 → μ.1 i = m.1 i) → ∀ j, j < 20 → bV μ 10 j = g j := fun μ h j hj => by rw [← hg]; exact bV_c h j hj
  have cw : ∀ μ : o_Mem, (∀ i, i ≠ 146 → μ.1 i = m.1 i) → wfN (bV μ 10) ∧ cP (bV μ 10) = cP g := fun μ h => by
    have c := cg μ h
    constructor
    · unfold wfN cS cH cP cL cW cC
      rw [c 0 (by omega), c 7 (by omega), c 13 (by omega)]
      exact hw
    · unfold cP; rw [c 0 (by omega)]
  have ce : ∀ μ : o_Mem, (∀ i, i ≠ 146 → μ.1 i = m.1 i) → ∀ p q, eW (bV μ 10) w p q = eW g w p q := fun μ h p q => by
    unfold eW
    rw [sob_c (cg μ h), cg μ h 3 (by omega)]
  obtain ⟨N, hN⟩ : ∃ N, cP g = N := ⟨_, rfl⟩
  rw [hN] at ht bP ⊢
  have eP : ∀ μ : o_Mem, (∀ i, i ≠ 146 → μ.1 i = m.1 i) → μ.1 10 2 = nI N := fun μ h => by
    rw [← hN, ← (cw μ h).2]; exact (cw μ h).1.2.2.1.1
  unfold fX6_findWays
  rw [rc145_0, p_seq]
  -- strikes at once
  obtain ⟨e1, m1, q1, rfl, F1, F2, F3⟩ := lp_one (h := 11) (s := fX6_findWays_s11 rfC 145 10 (nI t) w s)
    (fun i τ μ => ∃ k, k + i = N ∧ τ = nI k ∧ (∀ i, i ≠ 146 → μ.1 i = m.1 i) ∧ μ.2 = m.2 ∧ ∀ p, p < N → wC N (eW g w) (bW g t w s) (if p < k then 1 else 0) p (μ.1 146 p))
    (fun e μ => e = (53, 0) ∧ (∀ i, i ≠ 146 → μ.1 i = m.1 i) ∧ μ.2 = m.2 ∧ ∀ p, p < N → wC N (eW g w) (bW g t w s) 1 p (μ.1 146 p))
    (fun i τ μ hR => by
      obtain ⟨k, hk, rfl, h1, h2, h3⟩ := hR
      unfold fX6_findWays_s11
      rw [rc145_0, eP μ h1]
      by_cases hi : i = 0
      · rw [if_pos ((n_le (by omega) (by omega)).mpr (by omega))]
        refine ⟨_, _, rfl, Or.inr ⟨show ¬ 53 = 11 by decide, rfl, h1, h2, fun p hp => ?_⟩⟩
        have := h3 p hp
        rw [if_pos (by omega)] at this
        exact this
      · rw [if_neg (fun z => by rw [n_le (by omega) (by omega)] at z; omega)]
        have hk0 : μ.1 146 k = -1 := by
          have := h3 k (by omega)
          rw [if_neg (by omega)] at this
          rcases this with ⟨e, a1, a2, -⟩ | ⟨-, a⟩
          · rw [show e = 0 by omega] at a2; exact absurd a2.1 id
          · exact a
        have oth : ∀ (μ' : o_Mem) (p : Nat), p < N → ¬ p = k → μ'.1 146 p = μ.1 146 p → wC N (eW g w) (bW g t w s) (if p < k + 1 then 1 else 0) p (μ'.1 146 p) := fun μ' p hp hpk he => by
          have := h3 p hp
          rw [he]
          by_cases hlt : p < k
          · rw [if_pos hlt] at this; rw [if_pos (by omega)]; exact this
          · rw [if_neg hlt] at this; rw [if_neg (by omega)]; exact this
        have non : ¬ bW g t w s k → ∀ p, p < N → wC N (eW g w) (bW g t w s) (if p < k + 1 then 1 else 0) p (μ.1 146 p) := fun hb p hp => by
          by_cases hpk : p = k
          · rw [hpk, if_pos (by omega), hk0]
            refine Or.inr ⟨fun e he hwk => ?_, rfl⟩
            rcases (show e = 0 ∨ e = 1 by omega) with rfl | rfl
            · exact hwk
            · exact hb hwk
          · exact oth μ p hp hpk rfl
        by_cases hkt : k = t
        · rw [if_pos (show nI k = nI t by rw [hkt]), aR_1]
          exact ⟨_, _, rfl, Or.inl ⟨rfl, i - 1, by omega, k + 1, by omega, rfl, h1, h2, non (fun z => z.1 hkt)⟩⟩
        · rw [if_neg (show ¬ nI k = nI t by rw [nI_inj (by omega) (by omega)]; exact hkt), e6_sb (cw μ h1).1 (by omega), p_bd, sob_c (cg μ h1), cg μ h1 3 (by omega)]
          by_cases hs : sob g (nI k) (nI t) w (g 3 k) = s
          · rw [if_pos hs]
            simp (disch := omega) only [nI_toInt, nI_clamp, p_ck, p_seq, aR_1]
            refine ⟨_, _, rfl, Or.inl ⟨rfl, i - 1, by omega, k + 1, by omega, rfl, fun i hi => by rw [p_wI_o hi]; exact h1 i hi, h2, fun p hp => ?_⟩⟩
            by_cases hpk : p = k
            · rw [hpk, if_pos (by omega), p_wI1, if_pos ⟨rfl, rfl⟩]
              exact Or.inl ⟨1, by omega, ⟨⟨hkt, hs⟩, fun e he hwk => by rw [show e = 0 by omega] at hwk; exact hwk⟩, rfl⟩
            · exact oth _ p hp hpk (by rw [p_wI1, if_neg (fun z => hpk z.2)])
          · rw [if_neg hs, aR_1]
            exact ⟨_, _, rfl, Or.inl ⟨rfl, i - 1, by omega, k + 1, by omega, rfl, h1, h2, non (fun z => hs z.2)⟩⟩)
    o_fuel N 0 (o_sI m 146 (o_fill (m.1 146) 6 (-1))) (fu (by omega)) ⟨0, by omega, rfl, fun i hi => by funext j; rw [p_sI1, if_neg hi], rfl, fun p hp => by
      rw [if_neg (by omega), p_sI1, if_pos rfl]
      refine Or.inr ⟨fun e he hwk => by rw [show e = 0 by omega] at hwk; exact hwk, ?_⟩
      show (if p < 6 then (-1 : Int32) else m.1 146 p) = -1
      rw [if_pos (by omega)]⟩
  rw [q1, p_bd, if_pos rfl]
  -- by way of others
  obtain ⟨e2, m2, q2, rfl, G1, G2, G3⟩ := lp_one (h := 56) (s := fX6_findWays_s56 rfC 145 10 w)
    (fun i τ μ => ∃ d, 2 ≤ d ∧ (d + i = N + 1 ∨ (i = 0 ∧ N < d)) ∧ d ≤ N + 2 ∧ τ = nI d ∧ (∀ i, i ≠ 146 → μ.1 i = m.1 i) ∧ μ.2 = m.2 ∧ ∀ p, p < N → wC N (eW g w) (bW g t w s) (d - 1) p (μ.1 146 p))
    (fun e μ => e = (123, 0) ∧ (∀ i, i ≠ 146 → μ.1 i = m.1 i) ∧ μ.2 = m.2 ∧ ∀ p, p < N → wC N (eW g w) (bW g t w s) N p (μ.1 146 p))
    (fun i τ μ hR => by
      obtain ⟨d, hd2, hd, hd3, rfl, h1, h2, h3⟩ := hR
      unfold fX6_findWays_s56
      rw [eP μ h1]
      by_cases hi : N < d
      · rw [if_pos ((n_lt (by omega) (by omega)).mpr hi)]
        refine ⟨_, _, rfl, Or.inr ⟨show ¬ 123 = 56 by decide, rfl, h1, h2, fun p hp => ?_⟩⟩
        rcases h3 p hp with ⟨e, a1, a2, a3⟩ | ⟨a1, a2⟩
        · exact Or.inl ⟨e, lst_le a2 hp, a2, a3⟩
        · exact Or.inr ⟨fun e he => a1 e (by omega), a2⟩
      · rw [if_neg (fun z => hi ((n_lt (by omega) (by omega)).mp z))]
        obtain ⟨e3, m3, q3, rfl, H1, H2, H3⟩ := lp_one (h := 68) (s := fX6_findWays_s68 rfC 145 10 w (nI d))
          (fun i τ μ => ∃ k, k + i = N ∧ τ = nI k ∧ (∀ i, i ≠ 146 → μ.1 i = m.1 i) ∧ μ.2 = m.2 ∧ ∀ p, p < N → wC N (eW g w) (bW g t w s) (if p < k then d else d - 1) p (μ.1 146 p))
          (fun e μ => e = (117, 0) ∧ (∀ i, i ≠ 146 → μ.1 i = m.1 i) ∧ μ.2 = m.2 ∧ ∀ p, p < N → wC N (eW g w) (bW g t w s) d p (μ.1 146 p))
          (fun i τ μ hR => by
            obtain ⟨k, hk, rfl, h1, h2, h3⟩ := hR
            unfold fX6_findWays_s68
            rw [rc145_0, eP μ h1]
            by_cases hi : i = 0
            · rw [if_pos ((n_le (by omega) (by omega)).mpr (by omega))]
              refine ⟨_, _, rfl, Or.inr ⟨show ¬ 117 = 68 by decide, rfl, h1, h2, fun p hp => ?_⟩⟩
              have := h3 p hp
              rw [if_pos (by omega)] at this
              exact this
            · rw [if_neg (fun z => by rw [n_le (by omega) (by omega)] at z; omega)]
              simp (disch := omega) only [nI_toInt, nI_clamp, p_ck, aR_1]
              have oth : ∀ (μ' : o_Mem) (p : Nat), p < N → ¬ p = k → μ'.1 146 p = μ.1 146 p → wC N (eW g w) (bW g t w s) (if p < k + 1 then d else d - 1) p (μ'.1 146 p) := fun μ' p hp hpk he => by
                have := h3 p hp
                rw [he]
                by_cases hlt : p < k
                · rw [if_pos hlt] at this; rw [if_pos (by omega)]; exact this
                · rw [if_neg hlt] at this; rw [if_neg (by omega)]; exact this
              have hkk := h3 k (by omega)
              rw [if_neg (by omega)] at hkk
              by_cases hx : μ.1 146 k = -1
              · rw [if_pos hx]
                have hnw : ∀ e, e ≤ d - 1 → ¬ wlk N (eW g w) (bW g t w s) e k := by
                  rcases hkk with ⟨e, a1, a2, a3⟩ | ⟨a1, -⟩
                  · rw [hx] at a3; exact absurd a3.symm (nI_nm1 (by omega))
                  · exact a1
                have dst : ∀ q, q < N → (μ.1 146 q = nI d - 1 ↔ lst N (eW g w) (bW g t w s) (d - 1) q) := fun q hq => by
                  have hd1 : nI d - 1 = nI (d - 1) := nI_sub2 (b := 1) (by omega)
                  rw [hd1]
                  rcases h3 q hq with ⟨e, a1, a2, a3⟩ | ⟨a1, a2⟩
                  · have : e ≤ d := by
                      revert a1
                      split <;> omega
                    rw [a3, nI_inj (by omega) (by omega)]
                    exact ⟨fun z => z ▸ a2, fun z => lst_un a2 z⟩
                  · refine ⟨fun z => ?_, fun z => ?_⟩
                    · rw [a2] at z; exact absurd z.symm (nI_nm1 (by omega))
                    · exact absurd z.1 (a1 (d - 1) (by split <;> omega))
                obtain ⟨r, r1, r2⟩ := e6_next (cw μ h1).1 (p := k) (by omega) w (nI d)
                rw [(cw μ h1).2, hN] at r2
                simp only [ce μ h1] at r2
                rw [r1, p_bd]
                rcases r2 with ⟨rfl, r2⟩ | ⟨q, r3, rfl, ⟨r4, r5⟩, -⟩
                · rw [if_pos rfl]
                  refine ⟨_, _, rfl, Or.inl ⟨rfl, i - 1, by omega, k + 1, by omega, rfl, h1, h2, fun p hp => ?_⟩⟩
                  by_cases hpk : p = k
                  · rw [hpk, if_pos (by omega), hx]
                    refine Or.inr ⟨fun e he hwk => ?_, rfl⟩
                    by_cases hed : e ≤ d - 1
                    · exact hnw e hed hwk
                    · obtain ⟨c, rfl⟩ : ∃ c, e = c + 2 := ⟨e - 2, by omega⟩
                      obtain ⟨q, a1, a2, a3⟩ := hwk
                      have hl : lst N (eW g w) (bW g t w s) (d - 1) q := ⟨by rw [show d - 1 = c + 1 by omega]; exact a3, fun e' he' hw' => hnw (e' + 1) (by omega) (wlk_up hw' a1 a2)⟩
                      exact r2 q a1 ⟨(dst q a1).mpr hl, a2⟩
                  · exact oth μ p hp hpk rfl
                · rw [if_neg (nI_nm1 (by omega)), p_seq]
                  refine ⟨_, _, rfl, Or.inl ⟨rfl, i - 1, by omega, k + 1, by omega, rfl, fun i hi => by rw [p_wI_o hi]; exact h1 i hi, h2, fun p hp => ?_⟩⟩
                  by_cases hpk : p = k
                  · rw [hpk, if_pos (by omega), p_wI1, if_pos ⟨rfl, rfl⟩]
                    have hl := (dst q r3).mp r4
                    refine Or.inl ⟨d, Nat.le_refl _, ⟨?_, fun e he => hnw e (by omega)⟩, rfl⟩
                    have := wlk_up hl.1 r3 r5
                    rw [show d - 1 + 1 = d by omega] at this
                    exact this
                  · exact oth _ p hp hpk (by rw [p_wI1, if_neg (fun z => hpk z.2)])
              · rw [if_neg hx]
                refine ⟨_, _, rfl, Or.inl ⟨rfl, i - 1, by omega, k + 1, by omega, rfl, h1, h2, fun p hp => ?_⟩⟩
                by_cases hpk : p = k
                · rw [hpk, if_pos (by omega)]
                  rcases hkk with ⟨e, a1, a2, a3⟩ | ⟨-, a⟩
                  · exact Or.inl ⟨e, by omega, a2, a3⟩
                  · exact absurd a hx
                · exact oth μ p hp hpk rfl)
          o_fuel N 0 μ (fu (by omega)) ⟨0, by omega, rfl, h1, h2, fun p hp => by rw [if_neg (by omega)]; exact h3 p hp⟩
        rw [q3, p_bd, if_pos rfl, aR_1]
        refine ⟨_, _, rfl, Or.inl ⟨rfl, i - 1, by omega, d + 1, by omega, by omega, by omega, rfl, H1, H2, fun p hp => ?_⟩⟩
        rw [show d + 1 - 1 = d by omega]
        exact H3 p hp)
    o_fuel (N - 1) (2 : Int32) m1 (fu (by omega)) ⟨2, by omega, by omega, by omega, rfl, F1, F2, F3⟩
  rw [q2, p_bd, if_pos rfl]
  exact ⟨_, rfl, G1, G2, G3⟩
end vi
