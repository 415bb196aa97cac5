/-! ===== loops side by side; TRAYS: tray, write, read, copyDay ===== -/
theorem lp_rel {T1 T2 : Type} {h1 h2 : Nat} {s1 : T1 → o_Mem → Option ((Nat × T1) × o_Mem)} {s2 : T2 → o_Mem → Option ((Nat × T2) × o_Mem)} (R : Nat → T1 → o_Mem → T2 → o_Mem → Prop) (E : Nat × T1 → o_Mem → Nat × T2 → o_Mem → Prop)
    (hs : ∀ n τ1 μ1 τ2 μ2, R n τ1 μ1 τ2 μ2 → ∃ e1 m1 e2 m2, s1 τ1 μ1 = some (e1, m1) ∧ s2 τ2 μ2 = some (e2, m2) ∧ ((e1.1 = h1 ∧ e2.1 = h2 ∧ ∃ m, m < n ∧ R m e1.2 m1 e2.2 m2) ∨ (¬ e1.1 = h1 ∧ ¬ e2.1 = h2 ∧ E e1 m1 e2 m2))) :
    ∀ (N n : Nat) (τ1 : T1) (μ1 : o_Mem) (τ2 : T2) (μ2 : o_Mem), n < N → R n τ1 μ1 τ2 μ2 → ∃ e1 m1 e2 m2, o_lp h1 s1 N τ1 μ1 = some (e1, m1) ∧ o_lp h2 s2 N τ2 μ2 = some (e2, m2) ∧ E e1 m1 e2 m2
  | 0, n, _, _, _, _, hn, _ => by omega
  | N + 1, n, τ1, μ1, τ2, μ2, hn, hR => by
    obtain ⟨e1, m1, e2, m2, q1, q2, hc⟩ := hs n τ1 μ1 τ2 μ2 hR
    obtain ⟨x1, t1⟩ := e1
    obtain ⟨x2, t2⟩ := e2
    rcases hc with ⟨c1, c2, m, hm, hR'⟩ | ⟨c1, c2, hE⟩
    · cases c1
      cases c2
      obtain ⟨f1, l1, f2, l2, r1, r2, r3⟩ := lp_rel R E hs N m _ _ _ _ (by omega) hR'
      exact ⟨f1, l1, f2, l2, by rw [p_lp_next q1]; exact r1, by rw [p_lp_next q2]; exact r2, r3⟩
    · exact ⟨_, _, _, _, p_lp_exit q1 c1, p_lp_exit q2 c2, hE⟩
theorem lp_one {T : Type} {h : Nat} {s : T → o_Mem → Option ((Nat × T) × o_Mem)} (R : Nat → T → o_Mem → Prop) (E : Nat × T → o_Mem → Prop)
    (hs : ∀ n τ μ, R n τ μ → ∃ e m, s τ μ = some (e, m) ∧ ((e.1 = h ∧ ∃ k, k < n ∧ R k e.2 m) ∨ (¬ e.1 = h ∧ E e m))) :
    ∀ (N n : Nat) (τ : T) (μ : o_Mem), n < N → R n τ μ → ∃ e m, o_lp h s N τ μ = some (e, m) ∧ E e m
  | 0, n, _, _, hn, _ => by omega
  | N + 1, n, τ, μ, hn, hR => by
    obtain ⟨e, m, q, hc⟩ := hs n τ μ hR
    obtain ⟨x, t⟩ := e
    rcases hc with ⟨c, k, hk, hR'⟩ | ⟨c, hE⟩
    · cases c
      obtain ⟨f, l, r1, r2⟩ := lp_one R E hs N k _ _ (by omega) hR'
      exact ⟨f, l, by rw [p_lp_next q]; exact r1, r2⟩
    · exact ⟨_, _, p_lp_exit q c, hE⟩
theorem qm_0 (a : Nat) : rfM a 0 = 1 := id rfl
theorem qm_1 (a : Nat) : rfM a 1 = 2 := id rfl
theorem qm_5 (a : Nat) : rfM a 5 = 3 := id rfl
theorem qm_6 (a : Nat) : rfM a 6 = 4 := id rfl
theorem qm_7 (a : Nat) : rfM a 7 = 5 := id rfl
theorem qm_8 (a : Nat) : rfM a 8 = 6 := id rfl
theorem qm_9 (a : Nat) : rfM a 9 = 7 := id rfl
theorem qm_21 (a : Nat) : rfM a 21 = 8 := id rfl
theorem qm_24 (a : Nat) : rfM a 24 = 9 := id rfl
theorem qm_25 (a : Nat) : rfM a 25 = 10 := id rfl
theorem qm_26 (a : Nat) : rfM a 26 = 11 := id rfl
theorem qm_27 (a : Nat) : rfM a 27 = 12 := id rfl
theorem qm_28 (a : Nat) : rfM a 28 = 13 := id rfl
theorem qm_29 (a : Nat) : rfM a 29 = 14 := id rfl
theorem qm_30 (a : Nat) : rfM a 30 = 15 := id rfl
theorem qm_34 (a : Nat) : rfM a 34 = 16 := id rfl
theorem qm_35 (a : Nat) : rfM a 35 = 17 := id rfl
theorem qm_36 (a : Nat) : rfM a 36 = 18 := id rfl
theorem fu {n : Nat} (h : n < 2000000) : n < o_fuel := Nat.lt_of_lt_of_le h o_fuel_ge
theorem n_le {a b : Nat} (ha : a < 2 ^ 31) (hb : b < 2 ^ 31) : (nI a ≤ nI b) ↔ a ≤ b := by rw [i32_le, nI_toInt ha, nI_toInt hb]; omega
theorem n_lt {a b : Nat} (ha : a < 2 ^ 31) (hb : b < 2 ^ 31) : (nI a < nI b) ↔ a < b := by rw [i32_lt, nI_toInt ha, nI_toInt hb]; omega
theorem rc1 {t : Nat} : rfC 1 t = 2 + 2 * t := rfl
theorem rcT {t : Nat} (ht : t < 4) : rfC (2 + 2 * t) 3 = 3 + 2 * t := by
  rcases (show t = 0 ∨ t = 1 ∨ t = 2 ∨ t = 3 by omega) with rfl | rfl | rfl | rfl <;> decide
theorem Inv_tr {μC μM μC' μM' : o_Mem} (h : Inv μC μM) {t : Nat} (ht : t < 4) (hC : ∀ i, i ≠ 2 + 2 * t → μC'.1 i = μC.1 i) (hC2 : ∀ i, i ≠ 3 + 2 * t → μC'.2 i = μC.2 i) (hM : ∀ i, i ≠ 3 → i ≠ 4 → μM'.1 i = μM.1 i) (h3 : ∀ k, k ≠ t → μM'.1 3 k = μM.1 3 k) (h4 : ∀ k, k ≠ t → μM'.1 4 k = μM.1 4 k) (hM2 : ∀ i, i ≠ 5 → μM'.2 i = μM.2 i) (h5 : ∀ k, k < 60 * t ∨ 60 * t + 60 ≤ k → μM'.2 5 k = μM.2 5 k) (hr : trR μC' μM' t) : Inv μC' μM' := by
  obtain ⟨a1, a2, a3, a4, a5, a6, a7⟩ := h
  refine ⟨?_, ?_, iTp_c (by rw [hC 137 (by omega)]) (hC 138 (by omega)) (by rw [hM 0 (by omega) (by omega)]) (hM 6 (by omega) (by omega)) a3, ?_, ?_, ?_, ?_⟩
  · unfold iSt at a1 ⊢; rw [hC 0 (by omega), hM 0 (by omega) (by omega), hC2 0 (by omega), hM2 0 (by omega)]; exact a1
  · intro u hu
    by_cases e : u = t
    · subst e; exact hr
    · have := a2 u hu
      unfold trR at this ⊢
      rw [hC _ (by omega), hC2 _ (by omega), h3 u e, h4 u e]
      rcases this with q | ⟨q1, q2, q3, n, q4, q5, q6, q7⟩
      · exact Or.inl q
      · exact Or.inr ⟨q1, q2, q3, n, q4, q5, q6, fun k hk => by rw [h5 _ (by omega)]; exact q7 k hk⟩
  · unfold iFt at a4 ⊢; rw [hC 137 (by omega), hM 0 (by omega) (by omega)]; exact a4
  · exact slR_c (fun i p q => ⟨hC i (by omega), hC2 i (by omega)⟩) (fun i p q => hC i (by omega)) (fun k p q => by rw [hM 1 (by omega) (by omega)]) (fun k p q => by rw [hM2 2 (by omega)]) a5
  · exact iMk_c (by rw [hC 0 (by omega)]) (fun i p q => ⟨hC i (by omega), hC2 i (by omega)⟩) (by rw [hM 0 (by omega) (by omega)]) (fun k p q => by rw [hM 1 (by omega) (by omega)]) (fun k p q => by rw [hM2 2 (by omega)]) a6
  · unfold iLv at a7 ⊢; rw [hC 144 (by omega), hM 0 (by omega) (by omega), hM 18 (by omega) (by omega)]; exact a7
theorem p_wL_o {μ : o_Mem} {a k : Nat} {x : Int64} {i : Nat} (h : i ≠ a) : (o_wL μ a k x).2 i = μ.2 i := if_neg h
theorem p_sL_o {μ : o_Mem} {a : Nat} {f : Nat → Int64} {i : Nat} (h : i ≠ a) : (o_sL μ a f).2 i = μ.2 i := if_neg h
theorem p_sI_o {μ : o_Mem} {a : Nat} {f : Nat → Int32} {i : Nat} (h : i ≠ a) : (o_sI μ a f).1 i = μ.1 i := if_neg h
section ty
variable {μC μM : o_Mem}
theorem pu_tray (h : Inv μC μM) (x y z : Int32) : o_Eq2 (fX11_tray rfC 0 x y z μC) (fX12_tray rfM 0 x y z μM) Inv := by
  unfold fX11_tray fX12_tray fX11_tray_j31 fX12_tray_j26
  simp only [e11_isTray, e12_isTray, e11_within, p_bd, bI_if, i64_of, c64_0, c64_3, c64_60, i32_lt, i32_le, c32_0, c32_3, c32_60, qm_5, qm_6, rc0_3, ends_1, is_1]
  by_cases hx : 0 ≤ x.toInt ∧ x.toInt < 4
  · rw [if_pos hx, if_pos hx]
    by_cases hy : 0 ≤ y.toInt ∧ y.toInt ≤ 3
    · rw [if_pos hy, if_neg (show ¬ y.toInt < 0 by omega), if_neg (show ¬ 3 < y.toInt by omega)]
      by_cases hz : 0 ≤ z.toInt ∧ z.toInt ≤ 60
      · rw [if_pos hz, if_neg (show ¬ z.toInt < 0 by omega), if_pos (show z.toInt ≤ 60 by omega)]
        obtain ⟨t, ht, ht2, rfl⟩ := rg_nI (x := x) (n := 4) (by omega)
        obtain ⟨n, hn, hn2, rfl⟩ := rg_nI (x := z) (n := 61) (by omega)
        rw [nI_clamp ht2, rc1, p_ck _ hx, p_ck _ hx, p_seq, p_ck _ hx, p_seq]
        obtain ⟨μ', e1, e2, e3, e4⟩ := lp_inv (head := 49) (e := 74) (step := fX12_tray_s49 rfM 0 (nI t) (nI n)) (fun k μ => μ.1 = (o_wI (o_wI μM 3 t y) 4 t (nI n)).1 ∧ (∀ i, i ≠ 5 → μ.2 i = μM.2 i) ∧ ∀ j, μ.2 5 j = if 60 * t ≤ j ∧ j < 60 * t + k then 0 else μM.2 5 j) (N := n) (k0 := 0)
          (fun k μ _ hk ⟨i1, i2, i3⟩ => by
            unfold fX12_tray_s49
            rw [if_neg (show ¬ nI n ≤ nI k by rw [n_le (by omega) (by omega)]; omega)]
            simp (disch := omega) only [qm_7, mL_60, nI_add', nI_toInt, nI_clamp, p_ck, p_seq, aR_1]
            refine ⟨_, rfl, i1, fun i hi => by rw [p_wL_o hi]; exact i2 i hi, fun j => ?_⟩
            rw [p_wL2, i3]
            by_cases ej : j = 60 * t + k
            · rw [if_pos ⟨rfl, ej⟩, if_pos (by omega)]
            · rw [if_neg (fun z => ej z.2)]
              by_cases e9 : 60 * t ≤ j ∧ j < 60 * t + k
              · rw [if_pos e9, if_pos (by omega)]
              · rw [if_neg e9, if_neg (by omega)])
          (fun μ _ => by unfold fX12_tray_s49; rw [if_pos ((n_le (by omega) (by omega)).mpr (Nat.le_refl _))]) (by decide) n 0 (o_wI (o_wI μM 3 t y) 4 t (nI n)) (by omega) (by omega) ⟨rfl, fun _ _ => rfl, fun j => by rw [if_neg (by omega)]; rfl⟩
        rw [show o_lp 49 (fX12_tray_s49 rfM 0 (nI t) (nI n)) o_fuel 0 (o_wI (o_wI μM 3 t y) 4 t (nI n)) = _ from p_lp e1 (by omega), p_bd, if_pos rfl, is_0, p_bd]
        unfold fX7_make
        rw [rcT ht, p_seq, p_seq, p_seq, p_seq, p_bd, ends_0, p_bd]
        refine ⟨1, _, _, rfl, rfl, Inv_st 0 (Inv_tr h ht (fun i hi => ?_) (fun i hi => ?_) (fun i j3 j4 => ?_) (fun k hk => ?_) (fun k hk => ?_) (fun i hi => e3 i hi) (fun k hk => ?_) (Or.inr ⟨?_, ?_, ?_, n, by omega, ?_, ?_, fun k hk => ?_⟩))⟩
        · rw [p_sL1, p_wI_o hi, p_wI_o hi, p_wI_o hi]
        · rw [p_sL_o hi]; rfl
        · rw [e2, p_wI_o j4, p_wI_o j3]
        · rw [e2, p_wI1, if_neg (by omega), p_wI1, if_neg (by omega)]
        · rw [e2, p_wI1, if_neg (by omega), p_wI1, if_neg (by omega)]
        · rw [e4, if_neg (by omega)]
        · rw [p_sL1, p_wI1, if_neg (by omega), p_wI1, if_neg (by omega), p_wI1, if_pos ⟨rfl, rfl⟩]
        · rw [p_sL1, p_wI1, if_neg (by omega), p_wI1, if_pos ⟨rfl, rfl⟩, e2, p_wI1, if_neg (by omega), p_wI1, if_pos ⟨rfl, rfl⟩]
        · rw [e2, p_wI1, if_neg (by omega), p_wI1, if_pos ⟨rfl, rfl⟩]; exact ⟨hy.1, by omega⟩
        · rw [p_sL1, p_wI1, if_pos ⟨rfl, rfl⟩]
        · rw [e2, p_wI1, if_pos ⟨rfl, rfl⟩]
        · rw [e4, if_pos (by omega), p_sL2, if_pos rfl]
          unfold o_fill
          rw [if_pos (by omega)]
      · rw [if_neg hz]
        by_cases h0 : z.toInt < 0
        · rw [if_pos h0]; exact eq2_st h _ _ rfl rfl
        · rw [if_neg h0, if_neg (show ¬ z.toInt ≤ 60 by omega)]; exact eq2_st h _ _ rfl rfl
    · rw [if_neg hy]
      by_cases h0 : y.toInt < 0
      · rw [if_pos h0]; exact eq2_st h _ _ rfl rfl
      · rw [if_neg h0, if_pos (show 3 < y.toInt by omega)]; exact eq2_st h _ _ rfl rfl
  · rw [if_neg hx, if_neg hx]; exact eq2_st h _ _ rfl rfl
theorem e_place (h : Inv μC μM) (x y : Int32) : ∃ s, fX11_placeStatus rfC 0 x y μC = some (s, μC) ∧ fX12_wrongPlace rfM 0 x y μM = some (s, μM) ∧ ((s = 0 ∧ ∃ t k n, t < 4 ∧ x = nI t ∧ y = nI k ∧ k < n ∧ n ≤ 60 ∧ μC.1 (2 + 2 * t) 0 = 1 ∧ μC.1 (2 + 2 * t) 1 = μM.1 3 t ∧ inR (μM.1 3 t) 4 ∧ μC.1 (2 + 2 * t) 2 = nI n ∧ μM.1 4 t = nI n ∧ ∀ k, k < n → μC.2 (3 + 2 * t) k = μM.2 5 (60 * t + k)) ∨ (¬ s = 0 ∧ ¬ s ≤ 0)) := by
  unfold fX11_placeStatus fX12_wrongPlace
  simp only [e11_isTray, e12_isTray, p_bd, bI_if, rc0_3, qm_6]
  by_cases hx : 0 ≤ x.toInt ∧ x.toInt < 4
  · rw [if_pos hx, if_pos hx, p_ck _ hx, p_ck _ hx, p_ck _ hx, p_ck _ hx]
    obtain ⟨t, ht, ht2, rfl⟩ := rg_nI (x := x) (n := 4) (by omega)
    rw [nI_clamp ht2, rc1]
    rcases h.2.1 t ht with ⟨q1, q2⟩ | ⟨q1, q2, q3, n, q4, q5, q6, q7⟩
    · rw [if_pos q1, if_pos q2]; exact ⟨2, rfl, rfl, Or.inr ⟨by decide, by decide⟩⟩
    · rw [if_neg (by rw [q1]; decide), if_neg (by rw [q6]; exact nI_nm1 (by omega)), q5, q6, e11_within, p_bd, bI_if, i64_of, c64_0, i64_of, nI_sub1 (by omega)]
      simp only [i32_lt, c32_0, nI_toInt (show n < 2 ^ 31 by omega)]
      by_cases hy : rg y n
      · rw [if_pos (by omega), if_neg (by omega), if_pos hy.2]
        obtain ⟨k, hk, hk2, rfl⟩ := rg_nI hy
        exact ⟨0, rfl, rfl, Or.inl ⟨rfl, t, k, n, ht, rfl, rfl, hk, q4, q1, q2, q3, q5, q6, q7⟩⟩
      · rw [if_neg (by omega)]
        by_cases h0 : y.toInt < 0
        · rw [if_pos h0]; exact ⟨3, rfl, rfl, Or.inr ⟨by decide, by decide⟩⟩
        · rw [if_neg h0, if_neg (by omega)]; exact ⟨3, rfl, rfl, Or.inr ⟨by decide, by decide⟩⟩
  · rw [if_neg hx, if_neg hx]; exact ⟨1, rfl, rfl, Or.inr ⟨by decide, by decide⟩⟩
def cutV (s : Int32) (v : Int64) : Int64 := if s = 0 then v.toInt32.toInt8.toInt32.toInt64 else if s = 1 then v.toInt32.toInt16.toInt32.toInt64 else if s = 2 then v.toInt32.toInt64 else v
theorem e7_cut (rf : Nat → Nat → Nat) (a : Nat) (v : Int64) (μ : o_Mem) : fX7_cut rf a v μ = some (cutV (μ.1 a 1) v, μ) := by
  unfold fX7_cut cutV
  repeat' split
  all_goals rfl
theorem e12_cut (rf : Nat → Nat → Nat) (v : Int64) (s : Int32) (μ : o_Mem) : fX12_cut rf v s μ = some (cutV s v, μ) := by
  unfold fX12_cut cutV
  repeat' split
  all_goals rfl
theorem e7_put {t k : Nat} (ht : t < 4) (hk : k < 60) (v : Int64) (μ : o_Mem) : fX7_put rfC (2 + 2 * t) (nI k) v μ = some ((), o_wL μ (3 + 2 * t) k (cutV (μ.1 (2 + 2 * t) 1) v)) := by
  unfold fX7_put
  simp (disch := omega) only [e7_cut, p_bd, nI_toInt, nI_clamp, p_ck, p_seq, rcT ht]
theorem Inv_wr (h : Inv μC μM) {t k n : Nat} (ht : t < 4) (hk : k < n) (hn : n ≤ 60) (q1 : μC.1 (2 + 2 * t) 0 = 1) (q2 : μC.1 (2 + 2 * t) 1 = μM.1 3 t) (q3 : inR (μM.1 3 t) 4) (q5 : μC.1 (2 + 2 * t) 2 = nI n) (q6 : μM.1 4 t = nI n) (q7 : ∀ k, k < n → μC.2 (3 + 2 * t) k = μM.2 5 (60 * t + k)) (v : Int64) : Inv (o_wL μC (3 + 2 * t) k v) (o_wL μM 5 (60 * t + k) v) := by
  refine Inv_tr h ht (fun i hi => rfl) (fun i hi => p_wL_o hi) (fun i _ _ => rfl) (fun i _ => rfl) (fun i _ => rfl) (fun i hi => p_wL_o hi) (fun j hj => ?_) (Or.inr ⟨q1, q2, q3, n, hn, q5, q6, fun j hj => ?_⟩)
  · rw [p_wL2, if_neg (by omega)]
  · rw [p_wL2, p_wL2]
    by_cases e : j = k
    · rw [if_pos ⟨rfl, e⟩, if_pos ⟨rfl, by omega⟩]
    · rw [if_neg (fun z => e z.2), if_neg (by omega)]; exact q7 j hj
theorem pu_write (h : Inv μC μM) (x y : Int32) (v : Int64) : o_Eq2 (fX11_write rfC 0 x y v μC) (fX12_write rfM 0 x y v μM) Inv := by
  obtain ⟨s, e1, e2, hs⟩ := e_place h x y
  unfold fX11_write fX12_write fX11_write_j24 fX12_write_j34
  rw [e1, e2, p_bd, p_bd]
  rcases hs with ⟨rfl, t, k, n, ht, rfl, rfl, hk, hn, q1, q2, q3, q5, q6, q7⟩ | ⟨hs, -⟩
  · rw [if_pos rfl, if_pos rfl]
    simp (disch := omega) only [rc0_3, qm_5, qm_7, rc1, nI_toInt, nI_clamp, p_ck, e7_put ht, e12_cut, p_bd, mL_60, nI_add', p_seq, ends_0, is_0]
    rw [q2]
    exact ⟨1, _, _, rfl, rfl, Inv_st 0 (Inv_wr h ht hk hn q1 q2 q3 q5 q6 q7 _)⟩
  · rw [if_neg hs, if_neg hs, ends_ne hs, is_ne hs]
    exact eq2_st h _ _ rfl rfl
theorem pu_read (h : Inv μC μM) (x y : Int32) : o_Eq2 (fX11_read rfC 0 x y μC) (fX12_read rfM 0 x y μM) Inv := by
  obtain ⟨s, e1, e2, hs⟩ := e_place h x y
  unfold fX11_read fX12_read
  rw [e1, e2, p_bd, p_bd, p_seq, p_seq, show (o_wI μM 0 2 s).1 0 2 = s from rfl]
  rcases hs with ⟨rfl, t, k, n, ht, rfl, rfl, hk, hn, q1, q2, q3, q5, q6, q7⟩ | ⟨hs, hs2⟩
  · rw [if_pos rfl, if_pos (by decide)]
    simp (disch := omega) only [rc0_3, qm_7, rc1, rcT ht, nI_toInt, nI_clamp, p_ck, mL_60, nI_add', p_wI2]
    rw [q7 k hk]
    exact eq2_st h _ _ rfl rfl
  · rw [if_neg hs, if_neg hs2, e11_refuses, p_bd]
    exact eq2_st h _ _ rfl rfl
end ty
