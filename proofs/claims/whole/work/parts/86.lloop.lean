/-! ===== the law: one round of its loop, and the loop ===== -/
theorem lq_body {K : lx_K} {i b L : Nat} {xs : Nat → Int32} {μC μM : o_Mem} (h : Inv μC μM) (hi : i + 6 ≤ L) (hL : L ≤ 3072) (kk : ∀ μC' μM', Inv μC' μM' → lq_Ev K 2425 i b L xs [] μC' μM') : lq_Ev K 27 i b L xs [] μC μM := by
  refine lq_a0 dL_27 (lq_i3 dL_28 (lq_iald dL_29 (y := i) rfl (by omega) (lq_bipush (v := 63) dL_30 (by decide) (lq_iand dL_32 ?_))))
  generalize xs i &&& 63 = t
  by_cases ht : t.toInt < 0 ∨ 60 < t.toInt
  · exact lq_tabOut (tgt := 2425) dL_33 ht (by decide) (kk _ _ h)
  · have h1 : ¬ t.toInt < 0 := fun z => ht (Or.inl z)
    have h2 : ¬ 60 < t.toInt := fun z => ht (Or.inr z)
    obtain ⟨n, hn⟩ : ∃ n : Nat, t.toInt = n := ⟨t.toInt.toNat, by omega⟩
    have hn2 : n ≤ 60 := by omega
    have ho : (t.toInt - 0).toNat = n := by omega
    clear hn ht
    match n, hn2, ho with
    | 0, _, ho => exact lq_tabIn (off := 259) (tgt := 292) dL_33 h1 h2 (by rw [ho]; rfl) (by decide) (lc_0 h hi hL kk)
    | 1, _, ho => exact lq_tabIn (off := 272) (tgt := 305) dL_33 h1 h2 (by rw [ho]; rfl) (by decide) (lc_1 h hi hL kk)
    | 2, _, ho => exact lq_tabIn (off := 286) (tgt := 319) dL_33 h1 h2 (by rw [ho]; rfl) (by decide) (lc_2 h hi hL kk)
    | 3, _, ho => exact lq_tabIn (off := 300) (tgt := 333) dL_33 h1 h2 (by rw [ho]; rfl) (by decide) (lc_3 h hi hL kk)
    | 4, _, ho => exact lq_tabIn (off := 343) (tgt := 376) dL_33 h1 h2 (by rw [ho]; rfl) (by decide) (lc_4 h hi hL kk)
    | 5, _, ho => exact lq_tabIn (off := 416) (tgt := 449) dL_33 h1 h2 (by rw [ho]; rfl) (by decide) (lc_5 h hi hL kk)
    | 6, _, ho => exact lq_tabIn (off := 450) (tgt := 483) dL_33 h1 h2 (by rw [ho]; rfl) (by decide) (lc_6 h hi hL kk)
    | 7, _, ho => exact lq_tabIn (off := 513) (tgt := 546) dL_33 h1 h2 (by rw [ho]; rfl) (by decide) (lc_7 h hi hL kk)
    | 8, _, ho => exact lq_tabIn (off := 576) (tgt := 609) dL_33 h1 h2 (by rw [ho]; rfl) (by decide) (lc_8 h hi hL kk)
    | 9, _, ho => exact lq_tabIn (off := 599) (tgt := 632) dL_33 h1 h2 (by rw [ho]; rfl) (by decide) (lc_9 h hi hL kk)
    | 10, _, ho => exact lq_tabIn (off := 622) (tgt := 655) dL_33 h1 h2 (by rw [ho]; rfl) (by decide) (lc_10 h hi hL kk)
    | 11, _, ho => exact lq_tabIn (off := 645) (tgt := 678) dL_33 h1 h2 (by rw [ho]; rfl) (by decide) (lc_11 h hi hL kk)
    | 12, _, ho => exact lq_tabIn (off := 668) (tgt := 701) dL_33 h1 h2 (by rw [ho]; rfl) (by decide) (lc_12 h hi hL kk)
    | 13, _, ho => exact lq_tabIn (off := 691) (tgt := 724) dL_33 h1 h2 (by rw [ho]; rfl) (by decide) (lc_13 h hi hL kk)
    | 14, _, ho => exact lq_tabIn (off := 714) (tgt := 747) dL_33 h1 h2 (by rw [ho]; rfl) (by decide) (lc_14 h hi hL kk)
    | 15, _, ho => exact lq_tabIn (off := 747) (tgt := 780) dL_33 h1 h2 (by rw [ho]; rfl) (by decide) (lc_15 h hi hL kk)
    | 16, _, ho => exact lq_tabIn (off := 790) (tgt := 823) dL_33 h1 h2 (by rw [ho]; rfl) (by decide) (lc_16 h hi hL kk)
    | 17, _, ho => exact lq_tabIn (off := 823) (tgt := 856) dL_33 h1 h2 (by rw [ho]; rfl) (by decide) (lc_17 h hi hL kk)
    | 18, _, ho => exact lq_tabIn (off := 856) (tgt := 889) dL_33 h1 h2 (by rw [ho]; rfl) (by decide) (lc_18 h hi hL kk)
    | 19, _, ho => exact lq_tabIn (off := 879) (tgt := 912) dL_33 h1 h2 (by rw [ho]; rfl) (by decide) (lc_19 h hi hL kk)
    | 20, _, ho => exact lq_tabIn (off := 932) (tgt := 965) dL_33 h1 h2 (by rw [ho]; rfl) (by decide) (lc_20 h hi hL kk)
    | 21, _, ho => exact lq_tabIn (off := 955) (tgt := 988) dL_33 h1 h2 (by rw [ho]; rfl) (by decide) (lc_21 h hi hL kk)
    | 22, _, ho => exact lq_tabIn (off := 994) (tgt := 1027) dL_33 h1 h2 (by rw [ho]; rfl) (by decide) (lc_22 h hi hL kk)
    | 23, _, ho => exact lq_tabIn (off := 1017) (tgt := 1050) dL_33 h1 h2 (by rw [ho]; rfl) (by decide) (lc_23 h hi hL kk)
    | 24, _, ho => exact lq_tabIn (off := 1050) (tgt := 1083) dL_33 h1 h2 (by rw [ho]; rfl) (by decide) (lc_24 h hi hL kk)
    | 25, _, ho => exact lq_tabIn (off := 1083) (tgt := 1116) dL_33 h1 h2 (by rw [ho]; rfl) (by decide) (lc_25 h hi hL kk)
    | 26, _, ho => exact lq_tabIn (off := 1136) (tgt := 1169) dL_33 h1 h2 (by rw [ho]; rfl) (by decide) (lc_26 h hi hL kk)
    | 27, _, ho => exact lq_tabIn (off := 1169) (tgt := 1202) dL_33 h1 h2 (by rw [ho]; rfl) (by decide) (lc_27 h hi hL kk)
    | 28, _, ho => exact lq_tabIn (off := 1192) (tgt := 1225) dL_33 h1 h2 (by rw [ho]; rfl) (by decide) (lc_28 h hi hL kk)
    | 29, _, ho => exact lq_tabIn (off := 1215) (tgt := 1248) dL_33 h1 h2 (by rw [ho]; rfl) (by decide) (lc_29 h hi hL kk)
    | 30, _, ho => exact lq_tabIn (off := 1268) (tgt := 1301) dL_33 h1 h2 (by rw [ho]; rfl) (by decide) (lc_30 h hi hL kk)
    | 31, _, ho => exact lq_tabIn (off := 1321) (tgt := 1354) dL_33 h1 h2 (by rw [ho]; rfl) (by decide) (lc_31 h hi hL kk)
    | 32, _, ho => exact lq_tabIn (off := 1374) (tgt := 1407) dL_33 h1 h2 (by rw [ho]; rfl) (by decide) (lc_32 h hi hL kk)
    | 33, _, ho => exact lq_tabIn (off := 1427) (tgt := 1460) dL_33 h1 h2 (by rw [ho]; rfl) (by decide) (lc_33 h hi hL kk)
    | 34, _, ho => exact lq_tabIn (off := 1490) (tgt := 1523) dL_33 h1 h2 (by rw [ho]; rfl) (by decide) (lc_34 h hi hL kk)
    | 35, _, ho => exact lq_tabIn (off := 1553) (tgt := 1586) dL_33 h1 h2 (by rw [ho]; rfl) (by decide) (lc_35 h hi hL kk)
    | 36, _, ho => exact lq_tabIn (off := 1606) (tgt := 1639) dL_33 h1 h2 (by rw [ho]; rfl) (by decide) (lc_36 h hi hL kk)
    | 37, _, ho => exact lq_tabIn (off := 1669) (tgt := 1702) dL_33 h1 h2 (by rw [ho]; rfl) (by decide) (lc_37 h hi hL kk)
    | 38, _, ho => exact lq_tabIn (off := 1712) (tgt := 1745) dL_33 h1 h2 (by rw [ho]; rfl) (by decide) (lc_38 h hi hL kk)
    | 39, _, ho => exact lq_tabIn (off := 1725) (tgt := 1758) dL_33 h1 h2 (by rw [ho]; rfl) (by decide) (lc_39 h hi hL kk)
    | 40, _, ho => exact lq_tabIn (off := 1778) (tgt := 1811) dL_33 h1 h2 (by rw [ho]; rfl) (by decide) (lc_40 h hi hL kk)
    | 41, _, ho => exact lq_tabIn (off := 1831) (tgt := 1864) dL_33 h1 h2 (by rw [ho]; rfl) (by decide) (lc_41 h hi hL kk)
    | 42, _, ho => exact lq_tabIn (off := 1864) (tgt := 1897) dL_33 h1 h2 (by rw [ho]; rfl) (by decide) (lc_42 h hi hL kk)
    | 43, _, ho => exact lq_tabIn (off := 1897) (tgt := 1930) dL_33 h1 h2 (by rw [ho]; rfl) (by decide) (lc_43 h hi hL kk)
    | 44, _, ho => exact lq_tabIn (off := 1910) (tgt := 1943) dL_33 h1 h2 (by rw [ho]; rfl) (by decide) (lc_44 h hi hL kk)
    | 45, _, ho => exact lq_tabIn (off := 1923) (tgt := 1956) dL_33 h1 h2 (by rw [ho]; rfl) (by decide) (lc_45 h hi hL kk)
    | 46, _, ho => exact lq_tabIn (off := 1957) (tgt := 1990) dL_33 h1 h2 (by rw [ho]; rfl) (by decide) (lc_46 h hi hL kk)
    | 47, _, ho => exact lq_tabIn (off := 1990) (tgt := 2023) dL_33 h1 h2 (by rw [ho]; rfl) (by decide) (lc_47 h hi hL kk)
    | 48, _, ho => exact lq_tabIn (off := 2013) (tgt := 2046) dL_33 h1 h2 (by rw [ho]; rfl) (by decide) (lc_48 h hi hL kk)
    | 49, _, ho => exact lq_tabIn (off := 2046) (tgt := 2079) dL_33 h1 h2 (by rw [ho]; rfl) (by decide) (lc_49 h hi hL kk)
    | 50, _, ho => exact lq_tabIn (off := 2099) (tgt := 2132) dL_33 h1 h2 (by rw [ho]; rfl) (by decide) (lc_50 h hi hL kk)
    | 51, _, ho => exact lq_tabIn (off := 2152) (tgt := 2185) dL_33 h1 h2 (by rw [ho]; rfl) (by decide) (lc_51 h hi hL kk)
    | 52, _, ho => exact lq_tabIn (off := 2205) (tgt := 2238) dL_33 h1 h2 (by rw [ho]; rfl) (by decide) (lc_52 h hi hL kk)
    | 53, _, ho => exact lq_tabIn (off := 2218) (tgt := 2251) dL_33 h1 h2 (by rw [ho]; rfl) (by decide) (lc_53 h hi hL kk)
    | 54, _, ho => exact lq_tabIn (off := 2241) (tgt := 2274) dL_33 h1 h2 (by rw [ho]; rfl) (by decide) (lc_54 h hi hL kk)
    | 55, _, ho => exact lq_tabIn (off := 2264) (tgt := 2297) dL_33 h1 h2 (by rw [ho]; rfl) (by decide) (lc_55 h hi hL kk)
    | 56, _, ho => exact lq_tabIn (off := 2287) (tgt := 2320) dL_33 h1 h2 (by rw [ho]; rfl) (by decide) (lc_56 h hi hL kk)
    | 57, _, ho => exact lq_tabIn (off := 2310) (tgt := 2343) dL_33 h1 h2 (by rw [ho]; rfl) (by decide) (lc_57 h hi hL kk)
    | 58, _, ho => exact lq_tabIn (off := 2333) (tgt := 2366) dL_33 h1 h2 (by rw [ho]; rfl) (by decide) (lc_58 h hi hL kk)
    | 59, _, ho => exact lq_tabIn (off := 2366) (tgt := 2399) dL_33 h1 h2 (by rw [ho]; rfl) (by decide) (lc_59 h hi hL kk)
    | 60, _, ho => exact lq_tabIn (off := 2379) (tgt := 2412) dL_33 h1 h2 (by rw [ho]; rfl) (by decide) (lc_60 h hi hL kk)
    | k + 61, hn2, _ => exact absurd hn2 (by omega)
theorem lq_loop {K : lx_K} {b L : Nat} {xs : Nat → Int32} (hL : L ≤ 3072) : ∀ (n i : Nat) (μC μM : o_Mem), L < i + n → i ≤ 3078 → Inv μC μM → lq_Ev K 18 i b L xs [] μC μM := by
  intro n
  induction n with
  | zero =>
    intro i μC μM h1 h2 h
    refine lq_i3 dL_18 (lq_a0 dL_19 (lq_len dL_20 (lq_bipush (v := 6) dL_21 (by decide) (lq_isub dL_23 (lq_gt (tgt := 2431) dL_24 (by decide) (fun _ => lq_end dL_2431 dL_2432) (fun hn => ?_))))))
    exfalso
    have e6 : (nI L - 6).toInt = (L : Int) - 6 := pk_sub_toInt (a := L) (b := 6) (by omega) (by omega)
    rw [Int32.lt_iff_toInt_lt, e6, nI_toInt (by omega)] at hn
    omega
  | succ n ih =>
    intro i μC μM h1 h2 h
    refine lq_i3 dL_18 (lq_a0 dL_19 (lq_len dL_20 (lq_bipush (v := 6) dL_21 (by decide) (lq_isub dL_23 (lq_gt (tgt := 2431) dL_24 (by decide) (fun _ => lq_end dL_2431 dL_2432) (fun hn => ?_))))))
    have hi : i + 6 ≤ L := by
      have e6 : (nI L - 6).toInt = (L : Int) - 6 := pk_sub_toInt (a := L) (b := 6) (by omega) (by omega)
      rw [Int32.lt_iff_toInt_lt, e6, nI_toInt (by omega)] at hn
      omega
    exact lq_body h hi hL (fun μC' μM' h' => lq_iinc dL_2425 (lq_goto (tgt := 18) dL_2428 (by decide) (ih (i + 6) μC' μM' (by omega) (by omega) h')))
