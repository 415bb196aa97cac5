/-! ===== more rules: places by number, fill, switches ===== -/
section oM
variable {X : o_Cx} {d : Nat} {M : o_M} {pc : Nat} {L : List (Option Value)} {st rest : List Value} {μ : o_Mem} {Q : Option Value → o_Mem → Prop} {a ci k idx t n j : Nat}
theorem s_ialdK {i : Int32} (h : o_is X a (.inr (0, n))) (hin : 0 ≤ i.toInt ∧ i.toInt < n) (hj : i.toNatClampNeg = j) (hd : decode M.2.1 pc = .ok (.iaload, 1)) (kk : o_Ev X d M (pc + 1) L (.int (μ.1 a j) :: rest) μ Q) : o_Ev X d M pc L (.int i :: .ref (o_ad X a) :: rest) μ Q := by subst hj; exact s_iald h hin hd kk
theorem s_baldK {i : Int32} (h : o_is X a (.inr (1, n))) (hin : 0 ≤ i.toInt ∧ i.toInt < n) (hj : i.toNatClampNeg = j) (hd : decode M.2.1 pc = .ok (.baload, 1)) (kk : o_Ev X d M (pc + 1) L (.int (μ.1 a j) :: rest) μ Q) : o_Ev X d M pc L (.int i :: .ref (o_ad X a) :: rest) μ Q := by subst hj; exact s_bald h hin hd kk
theorem s_laldK {i : Int32} (h : o_is X a (.inr (2, n))) (hin : 0 ≤ i.toInt ∧ i.toInt < n) (hj : i.toNatClampNeg = j) (hd : decode M.2.1 pc = .ok (.laload, 1)) (kk : o_Ev X d M (pc + 1) L (.long (μ.2 a j) :: rest) μ Q) : o_Ev X d M pc L (.int i :: .ref (o_ad X a) :: rest) μ Q := by subst hj; exact s_lald h hin hd kk
theorem s_aaldK {i : Int32} {C : String} (hX : o_ok X) (h : o_is X a (.inr (t, n))) (h3 : 3 ≤ t) (ht : (o_tys X)[t]? = some (o_cA X t, .object C)) (hin : 0 ≤ i.toInt ∧ i.toInt < n) (hj : i.toNatClampNeg = j) (hd : decode M.2.1 pc = .ok (.aaload, 1)) (kk : o_is X (o_rf X a j) (.inl (o_et t)) → o_Ev X d M (pc + 1) L (.ref (o_ad X (o_rf X a j)) :: rest) μ Q) : o_Ev X d M pc L (.int i :: .ref (o_ad X a) :: rest) μ Q := by subst hj; exact s_aald hX h h3 ht hin hd kk
theorem s_iastK {i x : Int32} (hX : o_ok X) (h : o_is X a (.inr (0, n))) (hin : 0 ≤ i.toInt ∧ i.toInt < n) (hj : i.toNatClampNeg = j) (hd : decode M.2.1 pc = .ok (.iastore, 1)) (kk : o_Ev X d M (pc + 1) L rest (o_wI μ a j x) Q) : o_Ev X d M pc L (.int x :: .int i :: .ref (o_ad X a) :: rest) μ Q := by subst hj; exact s_iast hX h hin hd kk
theorem s_bastK {i x : Int32} (hX : o_ok X) (h : o_is X a (.inr (1, n))) (hin : 0 ≤ i.toInt ∧ i.toInt < n) (hj : i.toNatClampNeg = j) (hd : decode M.2.1 pc = .ok (.bastore, 1)) (kk : o_Ev X d M (pc + 1) L rest (o_wI μ a j x.toInt8.toInt32) Q) : o_Ev X d M pc L (.int x :: .int i :: .ref (o_ad X a) :: rest) μ Q := by subst hj; exact s_bast hX h hin hd kk
theorem s_lastK {i : Int32} {x : Int64} (hX : o_ok X) (h : o_is X a (.inr (2, n))) (hin : 0 ≤ i.toInt ∧ i.toInt < n) (hj : i.toNatClampNeg = j) (hd : decode M.2.1 pc = .ok (.lastore, 1)) (kk : o_Ev X d M (pc + 1) L rest (o_wL μ a j x) Q) : o_Ev X d M pc L (.long x :: .int i :: .ref (o_ad X a) :: rest) μ Q := by subst hj; exact s_last hX h hin hd kk
theorem s_copyIK {a' n' : Nat} {sp dp z : Int32} {sp' dp' z' : Nat} (hX : o_ok X) (h : o_is X a (.inr (0, n))) (h' : o_is X a' (.inr (0, n'))) (hlink : Cond.methodLink M.1.cls idx arraycopyName ∈ o_tb) (hnat : Cond.native arraycopyName ∈ o_tb) (hstat : Cond.static arraycopyName ∈ o_tb) (hini : Cond.initialized "java/lang/System" ∈ o_tb) (h1 : ¬ sp < 0) (h2 : ¬ dp < 0) (h3 : ¬ z < 0) (h4 : sp' + z' ≤ n) (h5 : dp' + z' ≤ n') (e1 : sp.toNatClampNeg = sp') (e2 : dp.toNatClampNeg = dp') (e3 : z.toNatClampNeg = z') (hrm : (rest.map fun v => v.category).sum ≤ 8) (hd : decode M.2.1 pc = .ok (.invokestatic idx, 3))
    (k : o_Ev X (d + 1) M (pc + 3) L rest (o_sI μ a' (va_cpy (μ.1 a) (μ.1 a') sp' dp' z')) Q) : o_Ev X (d + 1) M pc L (.int z :: .int dp :: .ref (o_ad X a') :: .int sp :: .ref (o_ad X a) :: rest) μ Q := by
  subst e1; subst e2; subst e3; exact s_copyI hX h h' hlink hnat hstat hini h1 h2 h3 h4 h5 hrm hd k
theorem s_copyLK {a' n' : Nat} {sp dp z : Int32} {sp' dp' z' : Nat} (hX : o_ok X) (h : o_is X a (.inr (2, n))) (h' : o_is X a' (.inr (2, n'))) (hlink : Cond.methodLink M.1.cls idx arraycopyName ∈ o_tb) (hnat : Cond.native arraycopyName ∈ o_tb) (hstat : Cond.static arraycopyName ∈ o_tb) (hini : Cond.initialized "java/lang/System" ∈ o_tb) (h1 : ¬ sp < 0) (h2 : ¬ dp < 0) (h3 : ¬ z < 0) (h4 : sp' + z' ≤ n) (h5 : dp' + z' ≤ n') (e1 : sp.toNatClampNeg = sp') (e2 : dp.toNatClampNeg = dp') (e3 : z.toNatClampNeg = z') (hrm : (rest.map fun v => v.category).sum ≤ 8) (hd : decode M.2.1 pc = .ok (.invokestatic idx, 3))
    (k : o_Ev X (d + 1) M (pc + 3) L rest (o_sL μ a' (va_cpy (μ.2 a) (μ.2 a') sp' dp' z')) Q) : o_Ev X (d + 1) M pc L (.int z :: .int dp :: .ref (o_ad X a') :: .int sp :: .ref (o_ad X a) :: rest) μ Q := by
  subst e1; subst e2; subst e3; exact s_copyL hX h h' hlink hnat hstat hini h1 h2 h3 h4 h5 hrm hd k
theorem o_sw (x : Int32) {G : Prop} (k : ∀ sw : Int32, x = sw → G) : G := k x rfl
theorem o_tabD {dflt lo hi : Int} {offs : Array Int} {z : Int} (h : z < lo ∨ hi < z) : o_tab dflt lo hi offs z = dflt := if_pos h
end oM
abbrev mJ7_fill_53178 : o_M := (yJ7_fill_53178, cJ7_fill_53178, 4, none)
abbrev mJ7_fill_d0a16 : o_M := (yJ7_fill_d0a16, cJ7_fill_d0a16, 5, none)
theorem dJ7_fill_53178_0 : decode cJ7_fill_53178 0 = .ok (.iconst 0, 1) := by decide +kernel
theorem dJ7_fill_53178_1 : decode cJ7_fill_53178 1 = .ok (.istore_n 2, 1) := by decide +kernel
theorem dJ7_fill_53178_2 : decode cJ7_fill_53178 2 = .ok (.aload_n 0, 1) := by decide +kernel
theorem dJ7_fill_53178_3 : decode cJ7_fill_53178 3 = .ok (.arraylength, 1) := by decide +kernel
theorem dJ7_fill_53178_4 : decode cJ7_fill_53178 4 = .ok (.istore_n 3, 1) := by decide +kernel
theorem dJ7_fill_53178_5 : decode cJ7_fill_53178 5 = .ok (.iload_n 2, 1) := by decide +kernel
theorem dJ7_fill_53178_6 : decode cJ7_fill_53178 6 = .ok (.iload_n 3, 1) := by decide +kernel
theorem dJ7_fill_53178_7 : decode cJ7_fill_53178 7 = .ok (.if_icmp .ge 13, 3) := by decide +kernel
theorem dJ7_fill_53178_10 : decode cJ7_fill_53178 10 = .ok (.aload_n 0, 1) := by decide +kernel
theorem dJ7_fill_53178_11 : decode cJ7_fill_53178 11 = .ok (.iload_n 2, 1) := by decide +kernel
theorem dJ7_fill_53178_12 : decode cJ7_fill_53178 12 = .ok (.iload_n 1, 1) := by decide +kernel
theorem dJ7_fill_53178_13 : decode cJ7_fill_53178 13 = .ok (.iastore, 1) := by decide +kernel
theorem dJ7_fill_53178_14 : decode cJ7_fill_53178 14 = .ok (.iinc 2 1, 3) := by decide +kernel
theorem dJ7_fill_53178_17 : decode cJ7_fill_53178 17 = .ok (.goto (-12), 3) := by decide +kernel
theorem dJ7_fill_53178_20 : decode cJ7_fill_53178 20 = .ok (.return_, 1) := by decide +kernel
theorem cbJ7_fill_53178 : o_CB mJ7_fill_53178 2 := ⟨o_tb_of (lw_t3 (List.mem_of_getElem? (i := 179) rfl)) rfl, (o_tb_of (lw_t1 (List.mem_of_getElem? (i := 14) rfl)) rfl), ⟨by decide, by decide, by decide +kernel⟩, rfl, Nat.le_of_ble_eq_true rfl⟩
theorem cstJ7_fill_53178 : Cond.static yJ7_fill_53178 ∈ o_tb := (o_tb_of (lw_t3 (List.mem_of_getElem? (i := 178) rfl)) rfl)
theorem dJ7_fill_d0a16_0 : decode cJ7_fill_d0a16 0 = .ok (.iconst 0, 1) := by decide +kernel
theorem dJ7_fill_d0a16_1 : decode cJ7_fill_d0a16 1 = .ok (.istore_n 3, 1) := by decide +kernel
theorem dJ7_fill_d0a16_2 : decode cJ7_fill_d0a16 2 = .ok (.aload_n 0, 1) := by decide +kernel
theorem dJ7_fill_d0a16_3 : decode cJ7_fill_d0a16 3 = .ok (.arraylength, 1) := by decide +kernel
theorem dJ7_fill_d0a16_4 : decode cJ7_fill_d0a16 4 = .ok (.istore 4, 2) := by decide +kernel
theorem dJ7_fill_d0a16_6 : decode cJ7_fill_d0a16 6 = .ok (.iload_n 3, 1) := by decide +kernel
theorem dJ7_fill_d0a16_7 : decode cJ7_fill_d0a16 7 = .ok (.iload 4, 2) := by decide +kernel
theorem dJ7_fill_d0a16_9 : decode cJ7_fill_d0a16 9 = .ok (.if_icmp .ge 13, 3) := by decide +kernel
theorem dJ7_fill_d0a16_12 : decode cJ7_fill_d0a16 12 = .ok (.aload_n 0, 1) := by decide +kernel
theorem dJ7_fill_d0a16_13 : decode cJ7_fill_d0a16 13 = .ok (.iload_n 3, 1) := by decide +kernel
theorem dJ7_fill_d0a16_14 : decode cJ7_fill_d0a16 14 = .ok (.lload_n 1, 1) := by decide +kernel
theorem dJ7_fill_d0a16_15 : decode cJ7_fill_d0a16 15 = .ok (.lastore, 1) := by decide +kernel
theorem dJ7_fill_d0a16_16 : decode cJ7_fill_d0a16 16 = .ok (.iinc 3 1, 3) := by decide +kernel
theorem dJ7_fill_d0a16_19 : decode cJ7_fill_d0a16 19 = .ok (.goto (-13), 3) := by decide +kernel
theorem dJ7_fill_d0a16_22 : decode cJ7_fill_d0a16 22 = .ok (.return_, 1) := by decide +kernel
theorem cbJ7_fill_d0a16 : o_CB mJ7_fill_d0a16 2 := ⟨o_tb_of (lw_t3 (List.mem_of_getElem? (i := 48) rfl)) rfl, (o_tb_of (lw_t1 (List.mem_of_getElem? (i := 14) rfl)) rfl), ⟨by decide, by decide, by decide +kernel⟩, rfl, Nat.le_of_ble_eq_true rfl⟩
theorem cstJ7_fill_d0a16 : Cond.static yJ7_fill_d0a16 ∈ o_tb := (o_tb_of (lw_t3 (List.mem_of_getElem? (i := 47) rfl)) rfl)
theorem o_fill_I {X : o_Cx} (hX : o_ok X) {d a n : Nat} {x : Int32} {q : Unit → o_Mem → Prop} (h0 : o_is X a (.inr (0, n))) (hn : n < 2 ^ 31) :
    ∀ (i j : Nat) (μ : o_Mem), i + j = n → q () (o_sI μ a (fun k => if i ≤ k ∧ k < n then x else μ.1 a k)) → o_Ev X d mJ7_fill_53178 5 [some (.ref (o_ad X a)), some (.int x), some (.int (nI i)), some (.int (nI n))] [] μ (o_QU q)
  | i, 0, μ, hij, hq => by
    have e : i = n := by omega
    subst e
    refine s_iload_n (i := 2) dJ7_fill_53178_5 rfl rfl ?_
    refine s_iload_n (i := 3) dJ7_fill_53178_6 rfl rfl ?_
    refine s_icmp_ge (tgt := 20) dJ7_fill_53178_7 rfl (fun c1 => ?_) (fun c1 => ?_)
    · refine s_return rfl dJ7_fill_53178_20 ⟨rfl, ?_⟩
      have e2 : (fun k => if i ≤ k ∧ k < i then x else μ.1 a k) = μ.1 a := by
        funext k; rw [if_neg (by omega)]
      rw [e2] at hq
      have e3 : o_sI μ a (μ.1 a) = μ := by
        unfold o_sI
        refine Prod.ext ?_ rfl
        funext j
        show (if j = a then μ.1 a else μ.1 j) = μ.1 j
        split
        · next h => rw [h]
        · rfl
      rw [e3] at hq
      exact hq
    · exact absurd (nI_le (Nat.le_refl i) hn) c1
  | i, j + 1, μ, hij, hq => by
    refine s_iload_n (i := 2) dJ7_fill_53178_5 rfl rfl ?_
    refine s_iload_n (i := 3) dJ7_fill_53178_6 rfl rfl ?_
    refine s_icmp_ge (tgt := 20) dJ7_fill_53178_7 rfl (fun c1 => ?_) (fun c1 => ?_)
    · exact absurd c1 (nI_ge (by omega) hn)
    · refine s_aload_n (i := 0) dJ7_fill_53178_10 rfl rfl ?_
      refine s_iload_n (i := 2) dJ7_fill_53178_11 rfl rfl ?_
      refine s_iload_n (i := 1) dJ7_fill_53178_12 rfl rfl ?_
      have ht : (nI i).toInt = (i : Int) := nI_toInt (by omega)
      refine s_iastK (j := i) hX h0 ⟨by omega, by omega⟩ (nI_clamp (by omega)) dJ7_fill_53178_13 ?_
      refine s_iinc (v := nI (i + 1)) dJ7_fill_53178_14 rfl (by rw [← nI_1]; rfl) (Nat.le_of_ble_eq_true rfl) rfl ?_
      refine s_goto (tgt := 5) dJ7_fill_53178_17 rfl ?_
      refine o_fill_I hX h0 hn (i + 1) j (o_wI μ a i x) (by omega) ?_
      have e : o_sI (o_wI μ a i x) a (fun k => if i + 1 ≤ k ∧ k < n then x else (o_wI μ a i x).1 a k) = o_sI μ a (fun k => if i ≤ k ∧ k < n then x else μ.1 a k) := by
        unfold o_wI o_sI
        refine Prod.ext ?_ rfl
        funext j'
        show (if j' = a then _ else (if j' = a then _ else μ.1 j')) = (if j' = a then _ else μ.1 j')
        by_cases hj : j' = a
        · rw [if_pos hj, if_pos hj]
          funext k
          show (if i + 1 ≤ k ∧ k < n then x else (if a = a then upd (μ.1 a) i x else μ.1 a) k) = _
          rw [if_pos rfl]
          by_cases hk : k = i
          · subst hk
            rw [if_neg (by omega), if_pos ⟨Nat.le_refl _, by omega⟩]
            exact if_pos rfl
          · have e9 : upd (μ.1 a) i x k = μ.1 a k := if_neg hk
            rw [e9]
            by_cases h2 : i + 1 ≤ k ∧ k < n
            · rw [if_pos h2, if_pos ⟨by omega, h2.2⟩]
            · rw [if_neg h2, if_neg (by omega)]
        · rw [if_neg hj, if_neg hj, if_neg hj]
      rw [e]
      exact hq
theorem s_fillI {X : o_Cx} {d : Nat} {M : o_M} {pc : Nat} {L : List (Option Value)} {rest : List Value} {μ : o_Mem} {Q : Option Value → o_Mem → Prop} {a idx n : Nat} {x : Int32} (hX : o_ok X) (h0 : o_is X a (.inr (0, n))) (hl : Cond.methodLink M.1.cls idx yJ7_fill_53178 ∈ o_tb) (hn : n < 2 ^ 31) (hrm : (rest.map fun v => v.category).sum ≤ 8) (hd : decode M.2.1 pc = .ok (.invokestatic idx, 3)) (k : o_Ev X (d + 1) M (pc + 3) L rest (o_sI μ a (o_fill (μ.1 a) n x)) Q) : o_Ev X (d + 1) M pc L (.int x :: .ref (o_ad X a) :: rest) μ Q := by
  refine s_callSu (C := mJ7_fill_53178) (As := [.ref (o_ad X a), .int x]) (rest := rest) (L0 := [some (.ref (o_ad X a)), some (.int x), none, none]) (q := fun _ μ' => μ' = o_sI μ a (o_fill (μ.1 a) n x)) ⟨cbJ7_fill_53178, hl, cstJ7_fill_53178⟩ hd rfl rfl (Nat.le_of_ble_eq_true rfl) hrm ?_ (fun _ μ' h => by rw [h]; exact k)
  refine s_iconst dJ7_fill_53178_0 kI_0 ?_
  refine s_istore_n (i := 2) dJ7_fill_53178_1 rfl (Nat.le_of_ble_eq_true rfl) rfl ?_
  refine s_aload_n (i := 0) dJ7_fill_53178_2 rfl rfl ?_
  refine s_alen (t := 0) h0 rfl dJ7_fill_53178_3 ?_
  refine s_istore_n (i := 3) dJ7_fill_53178_4 rfl (Nat.le_of_ble_eq_true rfl) rfl ?_
  refine o_fill_I hX h0 hn 0 n μ (by omega) ?_
  show o_sI μ a _ = o_sI μ a (o_fill (μ.1 a) n x)
  congr 1
  funext k
  simp [o_fill]
theorem o_fill_L {X : o_Cx} (hX : o_ok X) {d a n : Nat} {x : Int64} {q : Unit → o_Mem → Prop} (h0 : o_is X a (.inr (2, n))) (hn : n < 2 ^ 31) :
    ∀ (i j : Nat) (μ : o_Mem), i + j = n → q () (o_sL μ a (fun k => if i ≤ k ∧ k < n then x else μ.2 a k)) → o_Ev X d mJ7_fill_d0a16 6 [some (.ref (o_ad X a)), some (.long x), none, some (.int (nI i)), some (.int (nI n))] [] μ (o_QU q)
  | i, 0, μ, hij, hq => by
    have e : i = n := by omega
    subst e
    refine s_iload_n (i := 3) dJ7_fill_d0a16_6 rfl rfl ?_
    refine s_iload dJ7_fill_d0a16_7 rfl ?_
    refine s_icmp_ge (tgt := 22) dJ7_fill_d0a16_9 rfl (fun c1 => ?_) (fun c1 => ?_)
    · refine s_return rfl dJ7_fill_d0a16_22 ⟨rfl, ?_⟩
      have e2 : (fun k => if i ≤ k ∧ k < i then x else μ.2 a k) = μ.2 a := by
        funext k; rw [if_neg (by omega)]
      rw [e2] at hq
      have e3 : o_sL μ a (μ.2 a) = μ := by
        unfold o_sL
        refine Prod.ext rfl ?_
        funext j
        show (if j = a then μ.2 a else μ.2 j) = μ.2 j
        split
        · next h => rw [h]
        · rfl
      rw [e3] at hq
      exact hq
    · exact absurd (nI_le (Nat.le_refl i) hn) c1
  | i, j + 1, μ, hij, hq => by
    refine s_iload_n (i := 3) dJ7_fill_d0a16_6 rfl rfl ?_
    refine s_iload dJ7_fill_d0a16_7 rfl ?_
    refine s_icmp_ge (tgt := 22) dJ7_fill_d0a16_9 rfl (fun c1 => ?_) (fun c1 => ?_)
    · exact absurd c1 (nI_ge (by omega) hn)
    · refine s_aload_n (i := 0) dJ7_fill_d0a16_12 rfl rfl ?_
      refine s_iload_n (i := 3) dJ7_fill_d0a16_13 rfl rfl ?_
      refine s_lload_n (i := 1) dJ7_fill_d0a16_14 rfl rfl ?_
      have ht : (nI i).toInt = (i : Int) := nI_toInt (by omega)
      refine s_lastK (j := i) hX h0 ⟨by omega, by omega⟩ (nI_clamp (by omega)) dJ7_fill_d0a16_15 ?_
      refine s_iinc (v := nI (i + 1)) dJ7_fill_d0a16_16 rfl (by rw [← nI_1]; rfl) (Nat.le_of_ble_eq_true rfl) rfl ?_
      refine s_goto (tgt := 6) dJ7_fill_d0a16_19 rfl ?_
      refine o_fill_L hX h0 hn (i + 1) j (o_wL μ a i x) (by omega) ?_
      have e : o_sL (o_wL μ a i x) a (fun k => if i + 1 ≤ k ∧ k < n then x else (o_wL μ a i x).2 a k) = o_sL μ a (fun k => if i ≤ k ∧ k < n then x else μ.2 a k) := by
        unfold o_wL o_sL
        refine Prod.ext rfl ?_
        funext j'
        show (if j' = a then _ else (if j' = a then _ else μ.2 j')) = (if j' = a then _ else μ.2 j')
        by_cases hj : j' = a
        · rw [if_pos hj, if_pos hj]
          funext k
          show (if i + 1 ≤ k ∧ k < n then x else (if a = a then vp_updL (μ.2 a) i x else μ.2 a) k) = _
          rw [if_pos rfl]
          by_cases hk : k = i
          · subst hk
            rw [if_neg (by omega), if_pos ⟨Nat.le_refl _, by omega⟩]
            exact if_pos rfl
          · have e9 : vp_updL (μ.2 a) i x k = μ.2 a k := if_neg hk
            rw [e9]
            by_cases h2 : i + 1 ≤ k ∧ k < n
            · rw [if_pos h2, if_pos ⟨by omega, h2.2⟩]
            · rw [if_neg h2, if_neg (by omega)]
        · rw [if_neg hj, if_neg hj, if_neg hj]
      rw [e]
      exact hq
theorem s_fillL {X : o_Cx} {d : Nat} {M : o_M} {pc : Nat} {L : List (Option Value)} {rest : List Value} {μ : o_Mem} {Q : Option Value → o_Mem → Prop} {a idx n : Nat} {x : Int64} (hX : o_ok X) (h0 : o_is X a (.inr (2, n))) (hl : Cond.methodLink M.1.cls idx yJ7_fill_d0a16 ∈ o_tb) (hn : n < 2 ^ 31) (hrm : (rest.map fun v => v.category).sum ≤ 8) (hd : decode M.2.1 pc = .ok (.invokestatic idx, 3)) (k : o_Ev X (d + 1) M (pc + 3) L rest (o_sL μ a (o_fill (μ.2 a) n x)) Q) : o_Ev X (d + 1) M pc L (.long x :: .ref (o_ad X a) :: rest) μ Q := by
  refine s_callSu (C := mJ7_fill_d0a16) (As := [.ref (o_ad X a), .long x]) (rest := rest) (L0 := [some (.ref (o_ad X a)), some (.long x), none, none, none]) (q := fun _ μ' => μ' = o_sL μ a (o_fill (μ.2 a) n x)) ⟨cbJ7_fill_d0a16, hl, cstJ7_fill_d0a16⟩ hd rfl rfl (Nat.le_of_ble_eq_true rfl) hrm ?_ (fun _ μ' h => by rw [h]; exact k)
  refine s_iconst dJ7_fill_d0a16_0 kI_0 ?_
  refine s_istore_n (i := 3) dJ7_fill_d0a16_1 rfl (Nat.le_of_ble_eq_true rfl) rfl ?_
  refine s_aload_n (i := 0) dJ7_fill_d0a16_2 rfl rfl ?_
  refine s_alen (t := 2) h0 rfl dJ7_fill_d0a16_3 ?_
  refine s_istore dJ7_fill_d0a16_4 (Nat.le_of_ble_eq_true rfl) rfl ?_
  refine o_fill_L hX h0 hn 0 n μ (by omega) ?_
  show o_sL μ a _ = o_sL μ a (o_fill (μ.2 a) n x)
  congr 1
  funext k
  simp [o_fill]
