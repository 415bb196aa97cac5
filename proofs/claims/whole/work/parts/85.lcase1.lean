/-! ===== the law: cases ===== -/
theorem lc_16 {K : lx_K} {i b L : Nat} {xs : Nat → Int32} {μC μM : o_Mem} (h : Inv μC μM) (hi : i + 6 ≤ L) (hL : L ≤ 3072) (kk : ∀ μC' μM', Inv μC' μM' → lq_Ev K 2425 i b L xs [] μC' μM') : lq_Ev K 823 i b L xs [] μC μM := by
  refine lq_a1 dL_823 ?_
  refine lq_ld (j := 1) (by omega) hL (show Int32.ofInt 1 = 1 by decide) rfl dL_824 dL_825 dL_826 dL_827 dL_828 ?_
  refine lq_ld (j := 2) (by omega) hL (show Int32.ofInt 2 = 2 by decide) rfl dL_829 dL_830 dL_831 dL_832 dL_833 ?_
  obtain ⟨r, μ1, μ2, e1, e2, h2⟩ := pu_letter h (xs (i + 1)) (xs (i + 2))
  refine lq_callC (d := 30) (C := mX11_letter) (As := [.int (xs (i + 1)), .int (xs (i + 2))]) clL_89 dL_834 rfl rfl (Nat.le_of_ble_eq_true rfl) (Nat.le_of_ble_eq_true rfl) (by decide) (dnX11_letter (q := fun x ν => x = r ∧ ν = μ1) (d := 29) (xC_ok K) (xC_0 K) ⟨_, e1, rfl, rfl⟩) (fun v ν hv => ?_)
  obtain ⟨x, rfl, hr, hm⟩ := hv
  rw [hr, hm]
  show lq_Ev K 837 i b L xs [.int r] μ1 μM
  refine lq_a2 dL_837 ?_
  refine lq_ld (j := 1) (by omega) hL (show Int32.ofInt 1 = 1 by decide) rfl dL_838 dL_839 dL_840 dL_841 dL_842 ?_
  refine lq_ld (j := 2) (by omega) hL (show Int32.ofInt 2 = 2 by decide) rfl dL_843 dL_844 dL_845 dL_846 dL_847 ?_
  refine lq_callM (d := 30) (C := mX12_letter) (As := [.int (xs (i + 1)), .int (xs (i + 2))]) clL_92 dL_848 rfl rfl (Nat.le_of_ble_eq_true rfl) (Nat.le_of_ble_eq_true rfl) (by decide) (dnX12_letter (q := fun x ν => x = r ∧ ν = μ2) (d := 29) (xM_ok K) (xM_0 K) ⟨_, e2, rfl, rfl⟩) (fun v ν hv => ?_)
  obtain ⟨x, rfl, hr, hm⟩ := hv
  rw [hr, hm]
  show lq_Ev K 851 i b L xs [.int r, .int r] μ1 μ2
  exact lq_eq (tgt := 2425) dL_851 (by decide) rfl (kk _ _ h2)
theorem lc_17 {K : lx_K} {i b L : Nat} {xs : Nat → Int32} {μC μM : o_Mem} (h : Inv μC μM) (hi : i + 6 ≤ L) (hL : L ≤ 3072) (kk : ∀ μC' μM', Inv μC' μM' → lq_Ev K 2425 i b L xs [] μC' μM') : lq_Ev K 856 i b L xs [] μC μM := by
  refine lq_a1 dL_856 ?_
  refine lq_ld (j := 1) (by omega) hL (show Int32.ofInt 1 = 1 by decide) rfl dL_857 dL_858 dL_859 dL_860 dL_861 ?_
  refine lq_ld (j := 2) (by omega) hL (show Int32.ofInt 2 = 2 by decide) rfl dL_862 dL_863 dL_864 dL_865 dL_866 ?_
  obtain ⟨r, μ1, μ2, e1, e2, h2⟩ := pu_cover h (xs (i + 1)) (xs (i + 2))
  refine lq_callC (d := 30) (C := mX11_cover) (As := [.int (xs (i + 1)), .int (xs (i + 2))]) clL_93 dL_867 rfl rfl (Nat.le_of_ble_eq_true rfl) (Nat.le_of_ble_eq_true rfl) (by decide) (dnX11_cover (q := fun x ν => x = r ∧ ν = μ1) (d := 28) (xC_ok K) (xC_0 K) ⟨_, e1, rfl, rfl⟩) (fun v ν hv => ?_)
  obtain ⟨x, rfl, hr, hm⟩ := hv
  rw [hr, hm]
  show lq_Ev K 870 i b L xs [.int r] μ1 μM
  refine lq_a2 dL_870 ?_
  refine lq_ld (j := 1) (by omega) hL (show Int32.ofInt 1 = 1 by decide) rfl dL_871 dL_872 dL_873 dL_874 dL_875 ?_
  refine lq_ld (j := 2) (by omega) hL (show Int32.ofInt 2 = 2 by decide) rfl dL_876 dL_877 dL_878 dL_879 dL_880 ?_
  refine lq_callM (d := 30) (C := mX12_cover) (As := [.int (xs (i + 1)), .int (xs (i + 2))]) clL_96 dL_881 rfl rfl (Nat.le_of_ble_eq_true rfl) (Nat.le_of_ble_eq_true rfl) (by decide) (dnX12_cover (q := fun x ν => x = r ∧ ν = μ2) (d := 28) (xM_ok K) (xM_0 K) ⟨_, e2, rfl, rfl⟩) (fun v ν hv => ?_)
  obtain ⟨x, rfl, hr, hm⟩ := hv
  rw [hr, hm]
  show lq_Ev K 884 i b L xs [.int r, .int r] μ1 μ2
  exact lq_eq (tgt := 2425) dL_884 (by decide) rfl (kk _ _ h2)
theorem lc_18 {K : lx_K} {i b L : Nat} {xs : Nat → Int32} {μC μM : o_Mem} (h : Inv μC μM) (hi : i + 6 ≤ L) (hL : L ≤ 3072) (kk : ∀ μC' μM', Inv μC' μM' → lq_Ev K 2425 i b L xs [] μC' μM') : lq_Ev K 889 i b L xs [] μC μM := by
  refine lq_a1 dL_889 ?_
  refine lq_ld (j := 1) (by omega) hL (show Int32.ofInt 1 = 1 by decide) rfl dL_890 dL_891 dL_892 dL_893 dL_894 ?_
  obtain ⟨r, μ1, μ2, e1, e2, h2⟩ := pu_strikes h (xs (i + 1))
  refine lq_callC (d := 30) (C := mX11_strikes) (As := [.int (xs (i + 1))]) clL_97 dL_895 rfl rfl (Nat.le_of_ble_eq_true rfl) (Nat.le_of_ble_eq_true rfl) (by decide) (dnX11_strikes (q := fun x ν => x = r ∧ ν = μ1) (d := 29) (xC_ok K) (xC_0 K) ⟨_, e1, rfl, rfl⟩) (fun v ν hv => ?_)
  obtain ⟨x, rfl, hr, hm⟩ := hv
  rw [hr, hm]
  show lq_Ev K 898 i b L xs [.int r] μ1 μM
  refine lq_a2 dL_898 ?_
  refine lq_ld (j := 1) (by omega) hL (show Int32.ofInt 1 = 1 by decide) rfl dL_899 dL_900 dL_901 dL_902 dL_903 ?_
  refine lq_callM (d := 30) (C := mX12_strikes) (As := [.int (xs (i + 1))]) clL_100 dL_904 rfl rfl (Nat.le_of_ble_eq_true rfl) (Nat.le_of_ble_eq_true rfl) (by decide) (dnX12_strikes (q := fun x ν => x = r ∧ ν = μ2) (d := 29) (xM_ok K) (xM_0 K) ⟨_, e2, rfl, rfl⟩) (fun v ν hv => ?_)
  obtain ⟨x, rfl, hr, hm⟩ := hv
  rw [hr, hm]
  show lq_Ev K 907 i b L xs [.int r, .int r] μ1 μ2
  exact lq_eq (tgt := 2425) dL_907 (by decide) rfl (kk _ _ h2)
theorem lc_19 {K : lx_K} {i b L : Nat} {xs : Nat → Int32} {μC μM : o_Mem} (h : Inv μC μM) (hi : i + 6 ≤ L) (hL : L ≤ 3072) (kk : ∀ μC' μM', Inv μC' μM' → lq_Ev K 2425 i b L xs [] μC' μM') : lq_Ev K 912 i b L xs [] μC μM := by
  refine lq_a1 dL_912 ?_
  refine lq_ld (j := 1) (by omega) hL (show Int32.ofInt 1 = 1 by decide) rfl dL_913 dL_914 dL_915 dL_916 dL_917 ?_
  refine lq_ld (j := 2) (by omega) hL (show Int32.ofInt 2 = 2 by decide) rfl dL_918 dL_919 dL_920 dL_921 dL_922 ?_
  refine lq_ld (j := 3) (by omega) hL (show Int32.ofInt 3 = 3 by decide) rfl dL_923 dL_924 dL_925 dL_926 dL_927 ?_
  refine lq_ld (j := 4) (by omega) hL (show Int32.ofInt 4 = 4 by decide) rfl dL_928 dL_929 dL_930 dL_931 dL_932 ?_
  obtain ⟨r, μ1, μ2, e1, e2, h2⟩ := pu_post h (xs (i + 1)) (xs (i + 2)) (xs (i + 3)) (xs (i + 4))
  refine lq_callC (d := 30) (C := mX11_post) (As := [.int (xs (i + 1)), .int (xs (i + 2)), .int (xs (i + 3)), .int (xs (i + 4))]) clL_101 dL_933 rfl rfl (Nat.le_of_ble_eq_true rfl) (Nat.le_of_ble_eq_true rfl) (by decide) (dnX11_post (q := fun x ν => x = r ∧ ν = μ1) (d := 28) (xC_ok K) (xC_0 K) ⟨_, e1, rfl, rfl⟩) (fun v ν hv => ?_)
  obtain ⟨x, rfl, hr, hm⟩ := hv
  rw [hr, hm]
  show lq_Ev K 936 i b L xs [.int r] μ1 μM
  refine lq_a2 dL_936 ?_
  refine lq_ld (j := 1) (by omega) hL (show Int32.ofInt 1 = 1 by decide) rfl dL_937 dL_938 dL_939 dL_940 dL_941 ?_
  refine lq_ld (j := 2) (by omega) hL (show Int32.ofInt 2 = 2 by decide) rfl dL_942 dL_943 dL_944 dL_945 dL_946 ?_
  refine lq_ld (j := 3) (by omega) hL (show Int32.ofInt 3 = 3 by decide) rfl dL_947 dL_948 dL_949 dL_950 dL_951 ?_
  refine lq_ld (j := 4) (by omega) hL (show Int32.ofInt 4 = 4 by decide) rfl dL_952 dL_953 dL_954 dL_955 dL_956 ?_
  refine lq_callM (d := 30) (C := mX12_post) (As := [.int (xs (i + 1)), .int (xs (i + 2)), .int (xs (i + 3)), .int (xs (i + 4))]) clL_105 dL_957 rfl rfl (Nat.le_of_ble_eq_true rfl) (Nat.le_of_ble_eq_true rfl) (by decide) (dnX12_post (q := fun x ν => x = r ∧ ν = μ2) (d := 27) (xM_ok K) (xM_0 K) ⟨_, e2, rfl, rfl⟩) (fun v ν hv => ?_)
  obtain ⟨x, rfl, hr, hm⟩ := hv
  rw [hr, hm]
  show lq_Ev K 960 i b L xs [.int r, .int r] μ1 μ2
  exact lq_eq (tgt := 2425) dL_960 (by decide) rfl (kk _ _ h2)
theorem lc_20 {K : lx_K} {i b L : Nat} {xs : Nat → Int32} {μC μM : o_Mem} (h : Inv μC μM) (hi : i + 6 ≤ L) (hL : L ≤ 3072) (kk : ∀ μC' μM', Inv μC' μM' → lq_Ev K 2425 i b L xs [] μC' μM') : lq_Ev K 965 i b L xs [] μC μM := by
  refine lq_a1 dL_965 ?_
  refine lq_ld (j := 1) (by omega) hL (show Int32.ofInt 1 = 1 by decide) rfl dL_966 dL_967 dL_968 dL_969 dL_970 ?_
  obtain ⟨r, μ1, μ2, e1, e2, h2⟩ := pu_day h (xs (i + 1))
  refine lq_callC (d := 30) (C := mX11_day) (As := [.int (xs (i + 1))]) clL_106 dL_971 rfl rfl (Nat.le_of_ble_eq_true rfl) (Nat.le_of_ble_eq_true rfl) (by decide) (dnX11_day (q := fun x ν => x = r ∧ ν = μ1) (d := 26) (xC_ok K) (xC_0 K) ⟨_, e1, rfl, rfl⟩) (fun v ν hv => ?_)
  obtain ⟨x, rfl, hr, hm⟩ := hv
  rw [hr, hm]
  show lq_Ev K 974 i b L xs [.int r] μ1 μM
  refine lq_a2 dL_974 ?_
  refine lq_ld (j := 1) (by omega) hL (show Int32.ofInt 1 = 1 by decide) rfl dL_975 dL_976 dL_977 dL_978 dL_979 ?_
  refine lq_callM (d := 30) (C := mX12_day) (As := [.int (xs (i + 1))]) clL_109 dL_980 rfl rfl (Nat.le_of_ble_eq_true rfl) (Nat.le_of_ble_eq_true rfl) (by decide) (dnX12_day (q := fun x ν => x = r ∧ ν = μ2) (d := 22) (xM_ok K) (xM_0 K) ⟨_, e2, rfl, rfl⟩) (fun v ν hv => ?_)
  obtain ⟨x, rfl, hr, hm⟩ := hv
  rw [hr, hm]
  show lq_Ev K 983 i b L xs [.int r, .int r] μ1 μ2
  exact lq_eq (tgt := 2425) dL_983 (by decide) rfl (kk _ _ h2)
theorem lc_21 {K : lx_K} {i b L : Nat} {xs : Nat → Int32} {μC μM : o_Mem} (h : Inv μC μM) (hi : i + 6 ≤ L) (hL : L ≤ 3072) (kk : ∀ μC' μM', Inv μC' μM' → lq_Ev K 2425 i b L xs [] μC' μM') : lq_Ev K 988 i b L xs [] μC μM := by
  refine lq_a1 dL_988 ?_
  refine lq_ld (j := 1) (by omega) hL (show Int32.ofInt 1 = 1 by decide) rfl dL_989 dL_990 dL_991 dL_992 dL_993 ?_
  refine lq_if (tgt := 1001) dL_994 (by decide) (fun hc => ?_) (fun hc => ?_)
  · skip
    refine lq_iconst (v := 0) dL_1001 (by decide) ?_
    obtain ⟨r, μ1, μ2, e1, e2, h2⟩ := pu_drink h (x := 0) (by decide)
    refine lq_callC (d := 30) (C := mX11_drink) (As := [.int 0]) clL_110 dL_1002 rfl rfl (Nat.le_of_ble_eq_true rfl) (Nat.le_of_ble_eq_true rfl) (by decide) (dnX11_drink (q := fun x ν => x = r ∧ ν = μ1) (d := 29) (xC_ok K) (xC_0 K) ⟨_, e1, rfl, rfl⟩) (fun v ν hv => ?_)
    obtain ⟨x, rfl, -, hr, hm⟩ := hv
    rw [hr, hm]
    show lq_Ev K 1005 i b L xs [.int r] μ1 μM
    refine lq_a2 dL_1005 ?_
    refine lq_ld (j := 1) (by omega) hL (show Int32.ofInt 1 = 1 by decide) rfl dL_1006 dL_1007 dL_1008 dL_1009 dL_1010 ?_
    refine lq_if (tgt := 1018) dL_1011 (by decide) (fun _ => ?_) (fun hn => absurd hc hn)
    refine lq_iconst (v := 0) dL_1018 (by decide) ?_
    refine lq_callM (d := 30) (C := mX12_drink) (As := [.int 0]) clL_114 dL_1019 rfl rfl (Nat.le_of_ble_eq_true rfl) (Nat.le_of_ble_eq_true rfl) (by decide) (dnX12_drink (q := fun x ν => x = r ∧ ν = μ2) (d := 29) (xM_ok K) (xM_0 K) ⟨_, e2, rfl, rfl⟩) (fun v ν hv => ?_)
    obtain ⟨x, rfl, -, hr, hm⟩ := hv
    rw [hr, hm]
    show lq_Ev K 1022 i b L xs [.int r, .int r] μ1 μ2
    exact lq_eq (tgt := 2425) dL_1022 (by decide) rfl (kk _ _ h2)
  · skip
    refine lq_iconst (v := 1) dL_997 (by decide) ?_
    refine lq_goto (tgt := 1002) dL_998 (by decide) ?_
    obtain ⟨r, μ1, μ2, e1, e2, h2⟩ := pu_drink h (x := 1) (by decide)
    refine lq_callC (d := 30) (C := mX11_drink) (As := [.int 1]) clL_110 dL_1002 rfl rfl (Nat.le_of_ble_eq_true rfl) (Nat.le_of_ble_eq_true rfl) (by decide) (dnX11_drink (q := fun x ν => x = r ∧ ν = μ1) (d := 29) (xC_ok K) (xC_0 K) ⟨_, e1, rfl, rfl⟩) (fun v ν hv => ?_)
    obtain ⟨x, rfl, -, hr, hm⟩ := hv
    rw [hr, hm]
    show lq_Ev K 1005 i b L xs [.int r] μ1 μM
    refine lq_a2 dL_1005 ?_
    refine lq_ld (j := 1) (by omega) hL (show Int32.ofInt 1 = 1 by decide) rfl dL_1006 dL_1007 dL_1008 dL_1009 dL_1010 ?_
    refine lq_if (tgt := 1018) dL_1011 (by decide) (fun hn => absurd hn hc) (fun _ => ?_)
    refine lq_iconst (v := 1) dL_1014 (by decide) ?_
    refine lq_goto (tgt := 1019) dL_1015 (by decide) ?_
    refine lq_callM (d := 30) (C := mX12_drink) (As := [.int 1]) clL_114 dL_1019 rfl rfl (Nat.le_of_ble_eq_true rfl) (Nat.le_of_ble_eq_true rfl) (by decide) (dnX12_drink (q := fun x ν => x = r ∧ ν = μ2) (d := 29) (xM_ok K) (xM_0 K) ⟨_, e2, rfl, rfl⟩) (fun v ν hv => ?_)
    obtain ⟨x, rfl, -, hr, hm⟩ := hv
    rw [hr, hm]
    show lq_Ev K 1022 i b L xs [.int r, .int r] μ1 μ2
    exact lq_eq (tgt := 2425) dL_1022 (by decide) rfl (kk _ _ h2)
theorem lc_22 {K : lx_K} {i b L : Nat} {xs : Nat → Int32} {μC μM : o_Mem} (h : Inv μC μM) (hi : i + 6 ≤ L) (hL : L ≤ 3072) (kk : ∀ μC' μM', Inv μC' μM' → lq_Ev K 2425 i b L xs [] μC' μM') : lq_Ev K 1027 i b L xs [] μC μM := by
  refine lq_a1 dL_1027 ?_
  refine lq_ld (j := 1) (by omega) hL (show Int32.ofInt 1 = 1 by decide) rfl dL_1028 dL_1029 dL_1030 dL_1031 dL_1032 ?_
  obtain ⟨r, μ1, μ2, e1, e2, h2⟩ := pu_take h (xs (i + 1))
  refine lq_callC (d := 30) (C := mX11_take) (As := [.int (xs (i + 1))]) clL_115 dL_1033 rfl rfl (Nat.le_of_ble_eq_true rfl) (Nat.le_of_ble_eq_true rfl) (by decide) (dnX11_take (q := fun x ν => x = r ∧ ν = μ1) (d := 29) (xC_ok K) (xC_0 K) ⟨_, e1, rfl, rfl⟩) (fun v ν hv => ?_)
  obtain ⟨x, rfl, hr, hm⟩ := hv
  rw [hr, hm]
  show lq_Ev K 1036 i b L xs [.int r] μ1 μM
  refine lq_a2 dL_1036 ?_
  refine lq_ld (j := 1) (by omega) hL (show Int32.ofInt 1 = 1 by decide) rfl dL_1037 dL_1038 dL_1039 dL_1040 dL_1041 ?_
  refine lq_callM (d := 30) (C := mX12_take) (As := [.int (xs (i + 1))]) clL_118 dL_1042 rfl rfl (Nat.le_of_ble_eq_true rfl) (Nat.le_of_ble_eq_true rfl) (by decide) (dnX12_take (q := fun x ν => x = r ∧ ν = μ2) (d := 29) (xM_ok K) (xM_0 K) ⟨_, e2, rfl, rfl⟩) (fun v ν hv => ?_)
  obtain ⟨x, rfl, hr, hm⟩ := hv
  rw [hr, hm]
  show lq_Ev K 1045 i b L xs [.int r, .int r] μ1 μ2
  exact lq_eq (tgt := 2425) dL_1045 (by decide) rfl (kk _ _ h2)
theorem lc_23 {K : lx_K} {i b L : Nat} {xs : Nat → Int32} {μC μM : o_Mem} (h : Inv μC μM) (hi : i + 6 ≤ L) (hL : L ≤ 3072) (kk : ∀ μC' μM', Inv μC' μM' → lq_Ev K 2425 i b L xs [] μC' μM') : lq_Ev K 1050 i b L xs [] μC μM := by
  refine lq_a1 dL_1050 ?_
  refine lq_ld (j := 1) (by omega) hL (show Int32.ofInt 1 = 1 by decide) rfl dL_1051 dL_1052 dL_1053 dL_1054 dL_1055 ?_
  refine lq_ld (j := 2) (by omega) hL (show Int32.ofInt 2 = 2 by decide) rfl dL_1056 dL_1057 dL_1058 dL_1059 dL_1060 ?_
  obtain ⟨r, μ1, μ2, e1, e2, h2⟩ := pu_wrapped h (xs (i + 1)) (xs (i + 2))
  refine lq_callC (d := 30) (C := mX11_wrapped) (As := [.int (xs (i + 1)), .int (xs (i + 2))]) clL_119 dL_1061 rfl rfl (Nat.le_of_ble_eq_true rfl) (Nat.le_of_ble_eq_true rfl) (by decide) (dnX11_wrapped (q := fun x ν => x = r ∧ ν = μ1) (d := 29) (xC_ok K) (xC_0 K) ⟨_, e1, rfl, rfl⟩) (fun v ν hv => ?_)
  obtain ⟨x, rfl, hr, hm⟩ := hv
  rw [hr, hm]
  show lq_Ev K 1064 i b L xs [.int r] μ1 μM
  refine lq_a2 dL_1064 ?_
  refine lq_ld (j := 1) (by omega) hL (show Int32.ofInt 1 = 1 by decide) rfl dL_1065 dL_1066 dL_1067 dL_1068 dL_1069 ?_
  refine lq_ld (j := 2) (by omega) hL (show Int32.ofInt 2 = 2 by decide) rfl dL_1070 dL_1071 dL_1072 dL_1073 dL_1074 ?_
  refine lq_callM (d := 30) (C := mX12_wrapped) (As := [.int (xs (i + 1)), .int (xs (i + 2))]) clL_122 dL_1075 rfl rfl (Nat.le_of_ble_eq_true rfl) (Nat.le_of_ble_eq_true rfl) (by decide) (dnX12_wrapped (q := fun x ν => x = r ∧ ν = μ2) (d := 29) (xM_ok K) (xM_0 K) ⟨_, e2, rfl, rfl⟩) (fun v ν hv => ?_)
  obtain ⟨x, rfl, hr, hm⟩ := hv
  rw [hr, hm]
  show lq_Ev K 1078 i b L xs [.int r, .int r] μ1 μ2
  exact lq_eq (tgt := 2425) dL_1078 (by decide) rfl (kk _ _ h2)
theorem lc_24 {K : lx_K} {i b L : Nat} {xs : Nat → Int32} {μC μM : o_Mem} (h : Inv μC μM) (hi : i + 6 ≤ L) (hL : L ≤ 3072) (kk : ∀ μC' μM', Inv μC' μM' → lq_Ev K 2425 i b L xs [] μC' μM') : lq_Ev K 1083 i b L xs [] μC μM := by
  refine lq_a1 dL_1083 ?_
  refine lq_ld (j := 1) (by omega) hL (show Int32.ofInt 1 = 1 by decide) rfl dL_1084 dL_1085 dL_1086 dL_1087 dL_1088 ?_
  refine lq_ld (j := 2) (by omega) hL (show Int32.ofInt 2 = 2 by decide) rfl dL_1089 dL_1090 dL_1091 dL_1092 dL_1093 ?_
  obtain ⟨r, μ1, μ2, e1, e2, h2⟩ := pu_learn h (xs (i + 1)) (xs (i + 2))
  refine lq_callC (d := 30) (C := mX11_learn) (As := [.int (xs (i + 1)), .int (xs (i + 2))]) clL_123 dL_1094 rfl rfl (Nat.le_of_ble_eq_true rfl) (Nat.le_of_ble_eq_true rfl) (by decide) (dnX11_learn (q := fun x ν => x = r ∧ ν = μ1) (d := 29) (xC_ok K) (xC_0 K) ⟨_, e1, rfl, rfl⟩) (fun v ν hv => ?_)
  obtain ⟨x, rfl, -, hr, hm⟩ := hv
  rw [hr, hm]
  show lq_Ev K 1097 i b L xs [.int r] μ1 μM
  refine lq_a2 dL_1097 ?_
  refine lq_ld (j := 1) (by omega) hL (show Int32.ofInt 1 = 1 by decide) rfl dL_1098 dL_1099 dL_1100 dL_1101 dL_1102 ?_
  refine lq_ld (j := 2) (by omega) hL (show Int32.ofInt 2 = 2 by decide) rfl dL_1103 dL_1104 dL_1105 dL_1106 dL_1107 ?_
  refine lq_callM (d := 30) (C := mX12_learn) (As := [.int (xs (i + 1)), .int (xs (i + 2))]) clL_127 dL_1108 rfl rfl (Nat.le_of_ble_eq_true rfl) (Nat.le_of_ble_eq_true rfl) (by decide) (dnX12_learn (q := fun x ν => x = r ∧ ν = μ2) (d := 29) (xM_ok K) (xM_0 K) ⟨_, e2, rfl, rfl⟩) (fun v ν hv => ?_)
  obtain ⟨x, rfl, -, hr, hm⟩ := hv
  rw [hr, hm]
  show lq_Ev K 1111 i b L xs [.int r, .int r] μ1 μ2
  exact lq_eq (tgt := 2425) dL_1111 (by decide) rfl (kk _ _ h2)
theorem lc_25 {K : lx_K} {i b L : Nat} {xs : Nat → Int32} {μC μM : o_Mem} (h : Inv μC μM) (hi : i + 6 ≤ L) (hL : L ≤ 3072) (kk : ∀ μC' μM', Inv μC' μM' → lq_Ev K 2425 i b L xs [] μC' μM') : lq_Ev K 1116 i b L xs [] μC μM := by
  refine lq_a1 dL_1116 ?_
  refine lq_ld (j := 1) (by omega) hL (show Int32.ofInt 1 = 1 by decide) rfl dL_1117 dL_1118 dL_1119 dL_1120 dL_1121 ?_
  refine lq_ld (j := 2) (by omega) hL (show Int32.ofInt 2 = 2 by decide) rfl dL_1122 dL_1123 dL_1124 dL_1125 dL_1126 ?_
  refine lq_ld (j := 3) (by omega) hL (show Int32.ofInt 3 = 3 by decide) rfl dL_1127 dL_1128 dL_1129 dL_1130 dL_1131 ?_
  refine lq_ld (j := 4) (by omega) hL (show Int32.ofInt 4 = 4 by decide) rfl dL_1132 dL_1133 dL_1134 dL_1135 dL_1136 ?_
  obtain ⟨r, μ1, μ2, e1, e2, h2⟩ := pu_teach h (xs (i + 1)) (xs (i + 2)) (xs (i + 3)) (xs (i + 4))
  refine lq_callC (d := 30) (C := mX11_teach) (As := [.int (xs (i + 1)), .int (xs (i + 2)), .int (xs (i + 3)), .int (xs (i + 4))]) clL_128 dL_1137 rfl rfl (Nat.le_of_ble_eq_true rfl) (Nat.le_of_ble_eq_true rfl) (by decide) (dnX11_teach (q := fun x ν => x = r ∧ ν = μ1) (d := 28) (xC_ok K) (xC_0 K) ⟨_, e1, rfl, rfl⟩) (fun v ν hv => ?_)
  obtain ⟨x, rfl, -, hr, hm⟩ := hv
  rw [hr, hm]
  show lq_Ev K 1140 i b L xs [.int r] μ1 μM
  refine lq_a2 dL_1140 ?_
  refine lq_ld (j := 1) (by omega) hL (show Int32.ofInt 1 = 1 by decide) rfl dL_1141 dL_1142 dL_1143 dL_1144 dL_1145 ?_
  refine lq_ld (j := 2) (by omega) hL (show Int32.ofInt 2 = 2 by decide) rfl dL_1146 dL_1147 dL_1148 dL_1149 dL_1150 ?_
  refine lq_ld (j := 3) (by omega) hL (show Int32.ofInt 3 = 3 by decide) rfl dL_1151 dL_1152 dL_1153 dL_1154 dL_1155 ?_
  refine lq_ld (j := 4) (by omega) hL (show Int32.ofInt 4 = 4 by decide) rfl dL_1156 dL_1157 dL_1158 dL_1159 dL_1160 ?_
  refine lq_callM (d := 30) (C := mX12_teach) (As := [.int (xs (i + 1)), .int (xs (i + 2)), .int (xs (i + 3)), .int (xs (i + 4))]) clL_132 dL_1161 rfl rfl (Nat.le_of_ble_eq_true rfl) (Nat.le_of_ble_eq_true rfl) (by decide) (dnX12_teach (q := fun x ν => x = r ∧ ν = μ2) (d := 28) (xM_ok K) (xM_0 K) ⟨_, e2, rfl, rfl⟩) (fun v ν hv => ?_)
  obtain ⟨x, rfl, -, hr, hm⟩ := hv
  rw [hr, hm]
  show lq_Ev K 1164 i b L xs [.int r, .int r] μ1 μ2
  exact lq_eq (tgt := 2425) dL_1164 (by decide) rfl (kk _ _ h2)
theorem lc_26 {K : lx_K} {i b L : Nat} {xs : Nat → Int32} {μC μM : o_Mem} (h : Inv μC μM) (hi : i + 6 ≤ L) (hL : L ≤ 3072) (kk : ∀ μC' μM', Inv μC' μM' → lq_Ev K 2425 i b L xs [] μC' μM') : lq_Ev K 1169 i b L xs [] μC μM := by
  refine lq_a1 dL_1169 ?_
  refine lq_ld (j := 1) (by omega) hL (show Int32.ofInt 1 = 1 by decide) rfl dL_1170 dL_1171 dL_1172 dL_1173 dL_1174 ?_
  refine lq_ld (j := 2) (by omega) hL (show Int32.ofInt 2 = 2 by decide) rfl dL_1175 dL_1176 dL_1177 dL_1178 dL_1179 ?_
  obtain ⟨r, μ1, μ2, e1, e2, h2⟩ := pu_forget h (xs (i + 1)) (xs (i + 2))
  refine lq_callC (d := 30) (C := mX11_forget) (As := [.int (xs (i + 1)), .int (xs (i + 2))]) clL_133 dL_1180 rfl rfl (Nat.le_of_ble_eq_true rfl) (Nat.le_of_ble_eq_true rfl) (by decide) (dnX11_forget (q := fun x ν => x = r ∧ ν = μ1) (d := 28) (xC_ok K) (xC_0 K) ⟨_, e1, rfl, rfl⟩) (fun v ν hv => ?_)
  obtain ⟨x, rfl, -, hr, hm⟩ := hv
  rw [hr, hm]
  show lq_Ev K 1183 i b L xs [.int r] μ1 μM
  refine lq_a2 dL_1183 ?_
  refine lq_ld (j := 1) (by omega) hL (show Int32.ofInt 1 = 1 by decide) rfl dL_1184 dL_1185 dL_1186 dL_1187 dL_1188 ?_
  refine lq_ld (j := 2) (by omega) hL (show Int32.ofInt 2 = 2 by decide) rfl dL_1189 dL_1190 dL_1191 dL_1192 dL_1193 ?_
  refine lq_callM (d := 30) (C := mX12_forget) (As := [.int (xs (i + 1)), .int (xs (i + 2))]) clL_136 dL_1194 rfl rfl (Nat.le_of_ble_eq_true rfl) (Nat.le_of_ble_eq_true rfl) (by decide) (dnX12_forget (q := fun x ν => x = r ∧ ν = μ2) (d := 29) (xM_ok K) (xM_0 K) ⟨_, e2, rfl, rfl⟩) (fun v ν hv => ?_)
  obtain ⟨x, rfl, -, hr, hm⟩ := hv
  rw [hr, hm]
  show lq_Ev K 1197 i b L xs [.int r, .int r] μ1 μ2
  exact lq_eq (tgt := 2425) dL_1197 (by decide) rfl (kk _ _ h2)
theorem lc_27 {K : lx_K} {i b L : Nat} {xs : Nat → Int32} {μC μM : o_Mem} (h : Inv μC μM) (hi : i + 6 ≤ L) (hL : L ≤ 3072) (kk : ∀ μC' μM', Inv μC' μM' → lq_Ev K 2425 i b L xs [] μC' μM') : lq_Ev K 1202 i b L xs [] μC μM := by
  refine lq_a1 dL_1202 ?_
  refine lq_ld (j := 1) (by omega) hL (show Int32.ofInt 1 = 1 by decide) rfl dL_1203 dL_1204 dL_1205 dL_1206 dL_1207 ?_
  obtain ⟨r, μ1, μ2, e1, e2, h2⟩ := pu_sway h (xs (i + 1))
  refine lq_callC (d := 30) (C := mX11_sway) (As := [.int (xs (i + 1))]) clL_137 dL_1208 rfl rfl (Nat.le_of_ble_eq_true rfl) (Nat.le_of_ble_eq_true rfl) (by decide) (dnX11_sway (q := fun x ν => x = r ∧ ν = μ1) (d := 29) (xC_ok K) (xC_0 K) ⟨_, e1, rfl, rfl⟩) (fun v ν hv => ?_)
  obtain ⟨x, rfl, -, hr, hm⟩ := hv
  rw [hr, hm]
  show lq_Ev K 1211 i b L xs [.int r] μ1 μM
  refine lq_a2 dL_1211 ?_
  refine lq_ld (j := 1) (by omega) hL (show Int32.ofInt 1 = 1 by decide) rfl dL_1212 dL_1213 dL_1214 dL_1215 dL_1216 ?_
  refine lq_callM (d := 30) (C := mX12_sway) (As := [.int (xs (i + 1))]) clL_141 dL_1217 rfl rfl (Nat.le_of_ble_eq_true rfl) (Nat.le_of_ble_eq_true rfl) (by decide) (dnX12_sway (q := fun x ν => x = r ∧ ν = μ2) (d := 29) (xM_ok K) (xM_0 K) ⟨_, e2, rfl, rfl⟩) (fun v ν hv => ?_)
  obtain ⟨x, rfl, -, hr, hm⟩ := hv
  rw [hr, hm]
  show lq_Ev K 1220 i b L xs [.int r, .int r] μ1 μ2
  exact lq_eq (tgt := 2425) dL_1220 (by decide) rfl (kk _ _ h2)
theorem lc_28 {K : lx_K} {i b L : Nat} {xs : Nat → Int32} {μC μM : o_Mem} (h : Inv μC μM) (hi : i + 6 ≤ L) (hL : L ≤ 3072) (kk : ∀ μC' μM', Inv μC' μM' → lq_Ev K 2425 i b L xs [] μC' μM') : lq_Ev K 1225 i b L xs [] μC μM := by
  refine lq_a1 dL_1225 ?_
  refine lq_ld (j := 1) (by omega) hL (show Int32.ofInt 1 = 1 by decide) rfl dL_1226 dL_1227 dL_1228 dL_1229 dL_1230 ?_
  obtain ⟨r, μ1, μ2, e1, e2, h2⟩ := pu_pub h (xs (i + 1))
  refine lq_callC (d := 30) (C := mX11_pub) (As := [.int (xs (i + 1))]) clL_142 dL_1231 rfl rfl (Nat.le_of_ble_eq_true rfl) (Nat.le_of_ble_eq_true rfl) (by decide) (dnX11_pub (q := fun x ν => x = r ∧ ν = μ1) (d := 29) (xC_ok K) (xC_0 K) ⟨_, e1, rfl, rfl⟩) (fun v ν hv => ?_)
  obtain ⟨x, rfl, -, hr, hm⟩ := hv
  rw [hr, hm]
  show lq_Ev K 1234 i b L xs [.int r] μ1 μM
  refine lq_a2 dL_1234 ?_
  refine lq_ld (j := 1) (by omega) hL (show Int32.ofInt 1 = 1 by decide) rfl dL_1235 dL_1236 dL_1237 dL_1238 dL_1239 ?_
  refine lq_callM (d := 30) (C := mX12_pub) (As := [.int (xs (i + 1))]) clL_145 dL_1240 rfl rfl (Nat.le_of_ble_eq_true rfl) (Nat.le_of_ble_eq_true rfl) (by decide) (dnX12_pub (q := fun x ν => x = r ∧ ν = μ2) (d := 29) (xM_ok K) (xM_0 K) ⟨_, e2, rfl, rfl⟩) (fun v ν hv => ?_)
  obtain ⟨x, rfl, -, hr, hm⟩ := hv
  rw [hr, hm]
  show lq_Ev K 1243 i b L xs [.int r, .int r] μ1 μ2
  exact lq_eq (tgt := 2425) dL_1243 (by decide) rfl (kk _ _ h2)
theorem lc_29 {K : lx_K} {i b L : Nat} {xs : Nat → Int32} {μC μM : o_Mem} (h : Inv μC μM) (hi : i + 6 ≤ L) (hL : L ≤ 3072) (kk : ∀ μC' μM', Inv μC' μM' → lq_Ev K 2425 i b L xs [] μC' μM') : lq_Ev K 1248 i b L xs [] μC μM := by
  refine lq_a1 dL_1248 ?_
  refine lq_ld (j := 1) (by omega) hL (show Int32.ofInt 1 = 1 by decide) rfl dL_1249 dL_1250 dL_1251 dL_1252 dL_1253 ?_
  refine lq_ld (j := 2) (by omega) hL (show Int32.ofInt 2 = 2 by decide) rfl dL_1254 dL_1255 dL_1256 dL_1257 dL_1258 ?_
  refine lq_ld (j := 3) (by omega) hL (show Int32.ofInt 3 = 3 by decide) rfl dL_1259 dL_1260 dL_1261 dL_1262 dL_1263 ?_
  refine lq_ld (j := 4) (by omega) hL (show Int32.ofInt 4 = 4 by decide) rfl dL_1264 dL_1265 dL_1266 dL_1267 dL_1268 ?_
  obtain ⟨r, μ1, μ2, e1, e2, h2⟩ := pu_lawOf h (xs (i + 1)) (xs (i + 2)) (xs (i + 3)) (xs (i + 4))
  refine lq_callC (d := 30) (C := mX11_lawOf) (As := [.int (xs (i + 1)), .int (xs (i + 2)), .int (xs (i + 3)), .int (xs (i + 4))]) clL_146 dL_1269 rfl rfl (Nat.le_of_ble_eq_true rfl) (Nat.le_of_ble_eq_true rfl) (by decide) (dnX11_lawOf (q := fun x ν => x = r ∧ ν = μ1) (d := 28) (xC_ok K) (xC_0 K) ⟨_, e1, rfl, rfl⟩) (fun v ν hv => ?_)
  obtain ⟨x, rfl, hr, hm⟩ := hv
  rw [hr, hm]
  show lq_Ev K 1272 i b L xs [.int r] μ1 μM
  refine lq_a2 dL_1272 ?_
  refine lq_ld (j := 1) (by omega) hL (show Int32.ofInt 1 = 1 by decide) rfl dL_1273 dL_1274 dL_1275 dL_1276 dL_1277 ?_
  refine lq_ld (j := 2) (by omega) hL (show Int32.ofInt 2 = 2 by decide) rfl dL_1278 dL_1279 dL_1280 dL_1281 dL_1282 ?_
  refine lq_ld (j := 3) (by omega) hL (show Int32.ofInt 3 = 3 by decide) rfl dL_1283 dL_1284 dL_1285 dL_1286 dL_1287 ?_
  refine lq_ld (j := 4) (by omega) hL (show Int32.ofInt 4 = 4 by decide) rfl dL_1288 dL_1289 dL_1290 dL_1291 dL_1292 ?_
  refine lq_callM (d := 30) (C := mX12_lawOf) (As := [.int (xs (i + 1)), .int (xs (i + 2)), .int (xs (i + 3)), .int (xs (i + 4))]) clL_149 dL_1293 rfl rfl (Nat.le_of_ble_eq_true rfl) (Nat.le_of_ble_eq_true rfl) (by decide) (dnX12_lawOf (q := fun x ν => x = r ∧ ν = μ2) (d := 27) (xM_ok K) (xM_0 K) ⟨_, e2, rfl, rfl⟩) (fun v ν hv => ?_)
  obtain ⟨x, rfl, hr, hm⟩ := hv
  rw [hr, hm]
  show lq_Ev K 1296 i b L xs [.int r, .int r] μ1 μ2
  exact lq_eq (tgt := 2425) dL_1296 (by decide) rfl (kk _ _ h2)
theorem lc_30 {K : lx_K} {i b L : Nat} {xs : Nat → Int32} {μC μM : o_Mem} (h : Inv μC μM) (hi : i + 6 ≤ L) (hL : L ≤ 3072) (kk : ∀ μC' μM', Inv μC' μM' → lq_Ev K 2425 i b L xs [] μC' μM') : lq_Ev K 1301 i b L xs [] μC μM := by
  refine lq_a1 dL_1301 ?_
  refine lq_ld (j := 1) (by omega) hL (show Int32.ofInt 1 = 1 by decide) rfl dL_1302 dL_1303 dL_1304 dL_1305 dL_1306 ?_
  refine lq_ld (j := 2) (by omega) hL (show Int32.ofInt 2 = 2 by decide) rfl dL_1307 dL_1308 dL_1309 dL_1310 dL_1311 ?_
  refine lq_ld (j := 3) (by omega) hL (show Int32.ofInt 3 = 3 by decide) rfl dL_1312 dL_1313 dL_1314 dL_1315 dL_1316 ?_
  refine lq_ld (j := 4) (by omega) hL (show Int32.ofInt 4 = 4 by decide) rfl dL_1317 dL_1318 dL_1319 dL_1320 dL_1321 ?_
  obtain ⟨r, μ1, μ2, e1, e2, h2⟩ := pu_strikeOf h (xs (i + 1)) (xs (i + 2)) (xs (i + 3)) (xs (i + 4))
  refine lq_callC (d := 30) (C := mX11_strikeOf) (As := [.int (xs (i + 1)), .int (xs (i + 2)), .int (xs (i + 3)), .int (xs (i + 4))]) clL_150 dL_1322 rfl rfl (Nat.le_of_ble_eq_true rfl) (Nat.le_of_ble_eq_true rfl) (by decide) (dnX11_strikeOf (q := fun x ν => x = r ∧ ν = μ1) (d := 27) (xC_ok K) (xC_0 K) ⟨_, e1, rfl, rfl⟩) (fun v ν hv => ?_)
  obtain ⟨x, rfl, hr, hm⟩ := hv
  rw [hr, hm]
  show lq_Ev K 1325 i b L xs [.int r] μ1 μM
  refine lq_a2 dL_1325 ?_
  refine lq_ld (j := 1) (by omega) hL (show Int32.ofInt 1 = 1 by decide) rfl dL_1326 dL_1327 dL_1328 dL_1329 dL_1330 ?_
  refine lq_ld (j := 2) (by omega) hL (show Int32.ofInt 2 = 2 by decide) rfl dL_1331 dL_1332 dL_1333 dL_1334 dL_1335 ?_
  refine lq_ld (j := 3) (by omega) hL (show Int32.ofInt 3 = 3 by decide) rfl dL_1336 dL_1337 dL_1338 dL_1339 dL_1340 ?_
  refine lq_ld (j := 4) (by omega) hL (show Int32.ofInt 4 = 4 by decide) rfl dL_1341 dL_1342 dL_1343 dL_1344 dL_1345 ?_
  refine lq_callM (d := 30) (C := mX12_strikeOf) (As := [.int (xs (i + 1)), .int (xs (i + 2)), .int (xs (i + 3)), .int (xs (i + 4))]) clL_153 dL_1346 rfl rfl (Nat.le_of_ble_eq_true rfl) (Nat.le_of_ble_eq_true rfl) (by decide) (dnX12_strikeOf (q := fun x ν => x = r ∧ ν = μ2) (d := 26) (xM_ok K) (xM_0 K) ⟨_, e2, rfl, rfl⟩) (fun v ν hv => ?_)
  obtain ⟨x, rfl, hr, hm⟩ := hv
  rw [hr, hm]
  show lq_Ev K 1349 i b L xs [.int r, .int r] μ1 μ2
  exact lq_eq (tgt := 2425) dL_1349 (by decide) rfl (kk _ _ h2)
theorem lc_31 {K : lx_K} {i b L : Nat} {xs : Nat → Int32} {μC μM : o_Mem} (h : Inv μC μM) (hi : i + 6 ≤ L) (hL : L ≤ 3072) (kk : ∀ μC' μM', Inv μC' μM' → lq_Ev K 2425 i b L xs [] μC' μM') : lq_Ev K 1354 i b L xs [] μC μM := by
  refine lq_a1 dL_1354 ?_
  refine lq_ld (j := 1) (by omega) hL (show Int32.ofInt 1 = 1 by decide) rfl dL_1355 dL_1356 dL_1357 dL_1358 dL_1359 ?_
  refine lq_ld (j := 2) (by omega) hL (show Int32.ofInt 2 = 2 by decide) rfl dL_1360 dL_1361 dL_1362 dL_1363 dL_1364 ?_
  refine lq_ld (j := 3) (by omega) hL (show Int32.ofInt 3 = 3 by decide) rfl dL_1365 dL_1366 dL_1367 dL_1368 dL_1369 ?_
  refine lq_ld (j := 4) (by omega) hL (show Int32.ofInt 4 = 4 by decide) rfl dL_1370 dL_1371 dL_1372 dL_1373 dL_1374 ?_
  obtain ⟨r, μ1, μ2, e1, e2, h2⟩ := pu_struckNow h (xs (i + 1)) (xs (i + 2)) (xs (i + 3)) (xs (i + 4))
  refine lq_callC (d := 30) (C := mX11_struckNow) (As := [.int (xs (i + 1)), .int (xs (i + 2)), .int (xs (i + 3)), .int (xs (i + 4))]) clL_154 dL_1375 rfl rfl (Nat.le_of_ble_eq_true rfl) (Nat.le_of_ble_eq_true rfl) (by decide) (dnX11_struckNow (q := fun x ν => x = r ∧ ν = μ1) (d := 27) (xC_ok K) (xC_0 K) ⟨_, e1, rfl, rfl⟩) (fun v ν hv => ?_)
  obtain ⟨x, rfl, hr, hm⟩ := hv
  rw [hr, hm]
  show lq_Ev K 1378 i b L xs [.int r] μ1 μM
  refine lq_a2 dL_1378 ?_
  refine lq_ld (j := 1) (by omega) hL (show Int32.ofInt 1 = 1 by decide) rfl dL_1379 dL_1380 dL_1381 dL_1382 dL_1383 ?_
  refine lq_ld (j := 2) (by omega) hL (show Int32.ofInt 2 = 2 by decide) rfl dL_1384 dL_1385 dL_1386 dL_1387 dL_1388 ?_
  refine lq_ld (j := 3) (by omega) hL (show Int32.ofInt 3 = 3 by decide) rfl dL_1389 dL_1390 dL_1391 dL_1392 dL_1393 ?_
  refine lq_ld (j := 4) (by omega) hL (show Int32.ofInt 4 = 4 by decide) rfl dL_1394 dL_1395 dL_1396 dL_1397 dL_1398 ?_
  refine lq_callM (d := 30) (C := mX12_struckNow) (As := [.int (xs (i + 1)), .int (xs (i + 2)), .int (xs (i + 3)), .int (xs (i + 4))]) clL_157 dL_1399 rfl rfl (Nat.le_of_ble_eq_true rfl) (Nat.le_of_ble_eq_true rfl) (by decide) (dnX12_struckNow (q := fun x ν => x = r ∧ ν = μ2) (d := 25) (xM_ok K) (xM_0 K) ⟨_, e2, rfl, rfl⟩) (fun v ν hv => ?_)
  obtain ⟨x, rfl, hr, hm⟩ := hv
  rw [hr, hm]
  show lq_Ev K 1402 i b L xs [.int r, .int r] μ1 μ2
  exact lq_eq (tgt := 2425) dL_1402 (by decide) rfl (kk _ _ h2)
