/-! ===== the small constructors ===== -/
def blkX0 (X : o_Cx) (z : Nat) : List va_E := [.inr (0, [.int 0, .ref (z + 1), .ref (z + 2)]), aI X 12, aI X 12]
set_option maxRecDepth 20000 in
theorem mkX0 {X : o_Cx} {b d z : Nat} (pre : List va_E) (hz : b + pre.length = z) : e_Ev X b pre 2 24 (d + 1) mX0_init (blkX0 X z) 0 [some (.ref z)] [] [.inr (0, [.int 0, .null, .null])] 0 0 := by
  refine r_aload_n (i := 0) dX0_init_0 rfl rfl ?_
  refine r_obj w_2_185 w_1_28 w_1_29 dX0_init_1 (by omega) ?_
  refine r_aload_n (i := 0) dX0_init_4 rfl rfl ?_
  refine r_bipush (v := 12) dX0_init_5 (by decide) ?_
  refine tk_newa (t := 0) (N := 12) (atype := .int) (ty := .int) (a0 := (12, .inl (fun _ => 0))) (q := z + 1) (tl' := [.inr (0, [.int 0, .null, .null]), aI X 12]) rfl (fun _ h => by cases h) rfl w_1_108 (fun _ => rfl) (by decide) (by decide) (by decide) dX0_init_7 (by decide) (by decide) rfl (show b + pre.length + 1 = z + 1 by omega) rfl ?_
  refine tk_putF (i := 0) (tl' := [.inr (0, [.int 0, .ref (z + 1), .null]), aI X 12]) rfl (show z = b + pre.length + 0 by omega) ffX0_9 rfl rfl (Nat.le_of_ble_eq_true rfl) dX0_init_9 rfl ?_
  refine r_aload_n (i := 0) dX0_init_12 rfl rfl ?_
  refine r_bipush (v := 12) dX0_init_13 (by decide) ?_
  refine tk_newa (t := 0) (N := 12) (atype := .int) (ty := .int) (a0 := (12, .inl (fun _ => 0))) (q := z + 2) (tl' := [.inr (0, [.int 0, .ref (z + 1), .null]), aI X 12, aI X 12]) rfl (fun _ h => by cases h) rfl w_1_108 (fun _ => rfl) (by decide) (by decide) (by decide) dX0_init_15 (by decide) (by decide) rfl (show b + pre.length + 2 = z + 2 by omega) rfl ?_
  refine tk_putF (i := 0) (tl' := [.inr (0, [.int 0, .ref (z + 1), .ref (z + 2)]), aI X 12, aI X 12]) rfl (show z = b + pre.length + 0 by omega) ffX0_15 rfl rfl (Nat.le_of_ble_eq_true rfl) dX0_init_17 rfl ?_
  exact tk_ret rfl dX0_init_20 (by decide) (by decide) rfl
def blkX1 (X : o_Cx) (z : Nat) : List va_E := [.inr (1, [.int 0, .ref (z + 1), .ref (z + 2), .ref (z + 3), .ref (z + 4), .ref (z + 5)]), aI X 12, aI X 12, aI X 12, aI X 12, aI X 12]
set_option maxRecDepth 20000 in
theorem mkX1 {X : o_Cx} {b d z : Nat} (pre : List va_E) (hz : b + pre.length = z) : e_Ev X b pre 5 60 (d + 1) mX1_init (blkX1 X z) 0 [some (.ref z)] [] [.inr (1, [.int 0, .null, .null, .null, .null, .null])] 0 0 := by
  refine r_aload_n (i := 0) dX1_init_0 rfl rfl ?_
  refine r_obj w_1_67 w_1_28 w_1_29 dX1_init_1 (by omega) ?_
  refine r_aload_n (i := 0) dX1_init_4 rfl rfl ?_
  refine r_bipush (v := 12) dX1_init_5 (by decide) ?_
  refine tk_newa (t := 0) (N := 12) (atype := .int) (ty := .int) (a0 := (12, .inl (fun _ => 0))) (q := z + 1) (tl' := [.inr (1, [.int 0, .null, .null, .null, .null, .null]), aI X 12]) rfl (fun _ h => by cases h) rfl w_1_108 (fun _ => rfl) (by decide) (by decide) (by decide) dX1_init_7 (by decide) (by decide) rfl (show b + pre.length + 1 = z + 1 by omega) rfl ?_
  refine tk_putF (i := 0) (tl' := [.inr (1, [.int 0, .ref (z + 1), .null, .null, .null, .null]), aI X 12]) rfl (show z = b + pre.length + 0 by omega) ffX1_9 rfl rfl (Nat.le_of_ble_eq_true rfl) dX1_init_9 rfl ?_
  refine r_aload_n (i := 0) dX1_init_12 rfl rfl ?_
  refine r_bipush (v := 12) dX1_init_13 (by decide) ?_
  refine tk_newa (t := 0) (N := 12) (atype := .int) (ty := .int) (a0 := (12, .inl (fun _ => 0))) (q := z + 2) (tl' := [.inr (1, [.int 0, .ref (z + 1), .null, .null, .null, .null]), aI X 12, aI X 12]) rfl (fun _ h => by cases h) rfl w_1_108 (fun _ => rfl) (by decide) (by decide) (by decide) dX1_init_15 (by decide) (by decide) rfl (show b + pre.length + 2 = z + 2 by omega) rfl ?_
  refine tk_putF (i := 0) (tl' := [.inr (1, [.int 0, .ref (z + 1), .ref (z + 2), .null, .null, .null]), aI X 12, aI X 12]) rfl (show z = b + pre.length + 0 by omega) ffX1_15 rfl rfl (Nat.le_of_ble_eq_true rfl) dX1_init_17 rfl ?_
  refine r_aload_n (i := 0) dX1_init_20 rfl rfl ?_
  refine r_bipush (v := 12) dX1_init_21 (by decide) ?_
  refine tk_newa (t := 0) (N := 12) (atype := .int) (ty := .int) (a0 := (12, .inl (fun _ => 0))) (q := z + 3) (tl' := [.inr (1, [.int 0, .ref (z + 1), .ref (z + 2), .null, .null, .null]), aI X 12, aI X 12, aI X 12]) rfl (fun _ h => by cases h) rfl w_1_108 (fun _ => rfl) (by decide) (by decide) (by decide) dX1_init_23 (by decide) (by decide) rfl (show b + pre.length + 3 = z + 3 by omega) rfl ?_
  refine tk_putF (i := 0) (tl' := [.inr (1, [.int 0, .ref (z + 1), .ref (z + 2), .ref (z + 3), .null, .null]), aI X 12, aI X 12, aI X 12]) rfl (show z = b + pre.length + 0 by omega) ffX1_18 rfl rfl (Nat.le_of_ble_eq_true rfl) dX1_init_25 rfl ?_
  refine r_aload_n (i := 0) dX1_init_28 rfl rfl ?_
  refine r_bipush (v := 12) dX1_init_29 (by decide) ?_
  refine tk_newa (t := 0) (N := 12) (atype := .int) (ty := .int) (a0 := (12, .inl (fun _ => 0))) (q := z + 4) (tl' := [.inr (1, [.int 0, .ref (z + 1), .ref (z + 2), .ref (z + 3), .null, .null]), aI X 12, aI X 12, aI X 12, aI X 12]) rfl (fun _ h => by cases h) rfl w_1_108 (fun _ => rfl) (by decide) (by decide) (by decide) dX1_init_31 (by decide) (by decide) rfl (show b + pre.length + 4 = z + 4 by omega) rfl ?_
  refine tk_putF (i := 0) (tl' := [.inr (1, [.int 0, .ref (z + 1), .ref (z + 2), .ref (z + 3), .ref (z + 4), .null]), aI X 12, aI X 12, aI X 12, aI X 12]) rfl (show z = b + pre.length + 0 by omega) ffX1_21 rfl rfl (Nat.le_of_ble_eq_true rfl) dX1_init_33 rfl ?_
  refine r_aload_n (i := 0) dX1_init_36 rfl rfl ?_
  refine r_bipush (v := 12) dX1_init_37 (by decide) ?_
  refine tk_newa (t := 0) (N := 12) (atype := .int) (ty := .int) (a0 := (12, .inl (fun _ => 0))) (q := z + 5) (tl' := [.inr (1, [.int 0, .ref (z + 1), .ref (z + 2), .ref (z + 3), .ref (z + 4), .null]), aI X 12, aI X 12, aI X 12, aI X 12, aI X 12]) rfl (fun _ h => by cases h) rfl w_1_108 (fun _ => rfl) (by decide) (by decide) (by decide) dX1_init_39 (by decide) (by decide) rfl (show b + pre.length + 5 = z + 5 by omega) rfl ?_
  refine tk_putF (i := 0) (tl' := [.inr (1, [.int 0, .ref (z + 1), .ref (z + 2), .ref (z + 3), .ref (z + 4), .ref (z + 5)]), aI X 12, aI X 12, aI X 12, aI X 12, aI X 12]) rfl (show z = b + pre.length + 0 by omega) ffX1_24 rfl rfl (Nat.le_of_ble_eq_true rfl) dX1_init_41 rfl ?_
  exact tk_ret rfl dX1_init_44 (by decide) (by decide) rfl
def blkX2 (X : o_Cx) (z : Nat) : List va_E := [.inr (2, [.int 0, .int 0, .int 0, .int 0, .int 0, .int 0, .int 0, .ref (z + 1)]), aI X 60]
set_option maxRecDepth 20000 in
theorem mkX2 {X : o_Cx} {b d z : Nat} (pre : List va_E) (hz : b + pre.length = z) : e_Ev X b pre 1 60 (d + 1) mX2_init (blkX2 X z) 0 [some (.ref z)] [] [.inr (2, [.int 0, .int 0, .int 0, .int 0, .int 0, .int 0, .int 0, .null])] 0 0 := by
  refine r_aload_n (i := 0) dX2_init_0 rfl rfl ?_
  refine r_obj w_2_100 w_1_28 w_1_29 dX2_init_1 (by omega) ?_
  refine r_aload_n (i := 0) dX2_init_4 rfl rfl ?_
  refine r_bipush (v := 60) dX2_init_5 (by decide) ?_
  refine tk_newa (t := 0) (N := 60) (atype := .int) (ty := .int) (a0 := (60, .inl (fun _ => 0))) (q := z + 1) (tl' := [.inr (2, [.int 0, .int 0, .int 0, .int 0, .int 0, .int 0, .int 0, .null]), aI X 60]) rfl (fun _ h => by cases h) rfl w_1_108 (fun _ => rfl) (by decide) (by decide) (by decide) dX2_init_7 (by decide) (by decide) rfl (show b + pre.length + 1 = z + 1 by omega) rfl ?_
  refine tk_putF (i := 0) (tl' := [.inr (2, [.int 0, .int 0, .int 0, .int 0, .int 0, .int 0, .int 0, .ref (z + 1)]), aI X 60]) rfl (show z = b + pre.length + 0 by omega) ffX2_9 rfl rfl (Nat.le_of_ble_eq_true rfl) dX2_init_9 rfl ?_
  exact tk_ret rfl dX2_init_12 (by decide) (by decide) rfl
def blkX3 (X : o_Cx) (z : Nat) : List va_E := [.inr (3, [.int 0, .int 0, .int 0, .ref (z + 1), .ref (z + 2), .ref (z + 3), .ref (z + 4)]), aI X 60, aI X 60, aI X 60, aI X 60]
set_option maxRecDepth 20000 in
theorem mkX3 {X : o_Cx} {b d z : Nat} (pre : List va_E) (hz : b + pre.length = z) : e_Ev X b pre 4 240 (d + 1) mX3_init (blkX3 X z) 0 [some (.ref z)] [] [.inr (3, [.int 0, .int 0, .int 0, .null, .null, .null, .null])] 0 0 := by
  refine r_aload_n (i := 0) dX3_init_0 rfl rfl ?_
  refine r_obj w_1_208 w_1_28 w_1_29 dX3_init_1 (by omega) ?_
  refine r_aload_n (i := 0) dX3_init_4 rfl rfl ?_
  refine r_bipush (v := 60) dX3_init_5 (by decide) ?_
  refine tk_newa (t := 0) (N := 60) (atype := .int) (ty := .int) (a0 := (60, .inl (fun _ => 0))) (q := z + 1) (tl' := [.inr (3, [.int 0, .int 0, .int 0, .null, .null, .null, .null]), aI X 60]) rfl (fun _ h => by cases h) rfl w_1_108 (fun _ => rfl) (by decide) (by decide) (by decide) dX3_init_7 (by decide) (by decide) rfl (show b + pre.length + 1 = z + 1 by omega) rfl ?_
  refine tk_putF (i := 0) (tl' := [.inr (3, [.int 0, .int 0, .int 0, .ref (z + 1), .null, .null, .null]), aI X 60]) rfl (show z = b + pre.length + 0 by omega) ffX3_9 rfl rfl (Nat.le_of_ble_eq_true rfl) dX3_init_9 rfl ?_
  refine r_aload_n (i := 0) dX3_init_12 rfl rfl ?_
  refine r_bipush (v := 60) dX3_init_13 (by decide) ?_
  refine tk_newa (t := 0) (N := 60) (atype := .int) (ty := .int) (a0 := (60, .inl (fun _ => 0))) (q := z + 2) (tl' := [.inr (3, [.int 0, .int 0, .int 0, .ref (z + 1), .null, .null, .null]), aI X 60, aI X 60]) rfl (fun _ h => by cases h) rfl w_1_108 (fun _ => rfl) (by decide) (by decide) (by decide) dX3_init_15 (by decide) (by decide) rfl (show b + pre.length + 2 = z + 2 by omega) rfl ?_
  refine tk_putF (i := 0) (tl' := [.inr (3, [.int 0, .int 0, .int 0, .ref (z + 1), .ref (z + 2), .null, .null]), aI X 60, aI X 60]) rfl (show z = b + pre.length + 0 by omega) ffX3_15 rfl rfl (Nat.le_of_ble_eq_true rfl) dX3_init_17 rfl ?_
  refine r_aload_n (i := 0) dX3_init_20 rfl rfl ?_
  refine r_bipush (v := 60) dX3_init_21 (by decide) ?_
  refine tk_newa (t := 0) (N := 60) (atype := .int) (ty := .int) (a0 := (60, .inl (fun _ => 0))) (q := z + 3) (tl' := [.inr (3, [.int 0, .int 0, .int 0, .ref (z + 1), .ref (z + 2), .null, .null]), aI X 60, aI X 60, aI X 60]) rfl (fun _ h => by cases h) rfl w_1_108 (fun _ => rfl) (by decide) (by decide) (by decide) dX3_init_23 (by decide) (by decide) rfl (show b + pre.length + 3 = z + 3 by omega) rfl ?_
  refine tk_putF (i := 0) (tl' := [.inr (3, [.int 0, .int 0, .int 0, .ref (z + 1), .ref (z + 2), .ref (z + 3), .null]), aI X 60, aI X 60, aI X 60]) rfl (show z = b + pre.length + 0 by omega) ffX3_18 rfl rfl (Nat.le_of_ble_eq_true rfl) dX3_init_25 rfl ?_
  refine r_aload_n (i := 0) dX3_init_28 rfl rfl ?_
  refine r_bipush (v := 60) dX3_init_29 (by decide) ?_
  refine tk_newa (t := 0) (N := 60) (atype := .int) (ty := .int) (a0 := (60, .inl (fun _ => 0))) (q := z + 4) (tl' := [.inr (3, [.int 0, .int 0, .int 0, .ref (z + 1), .ref (z + 2), .ref (z + 3), .null]), aI X 60, aI X 60, aI X 60, aI X 60]) rfl (fun _ h => by cases h) rfl w_1_108 (fun _ => rfl) (by decide) (by decide) (by decide) dX3_init_31 (by decide) (by decide) rfl (show b + pre.length + 4 = z + 4 by omega) rfl ?_
  refine tk_putF (i := 0) (tl' := [.inr (3, [.int 0, .int 0, .int 0, .ref (z + 1), .ref (z + 2), .ref (z + 3), .ref (z + 4)]), aI X 60, aI X 60, aI X 60, aI X 60]) rfl (show z = b + pre.length + 0 by omega) ffX3_21 rfl rfl (Nat.le_of_ble_eq_true rfl) dX3_init_33 rfl ?_
  exact tk_ret rfl dX3_init_36 (by decide) (by decide) rfl
def blkX4 (X : o_Cx) (z : Nat) : List va_E := [.inr (4, [.ref (z + 1), .int 0, .int (-1), .int (-1), .int 0, .int 0, .int 0, .int 0, .int 0, .long 0, .int 0, .int 0]), aB X 900]
set_option maxRecDepth 20000 in
theorem mkX4 {X : o_Cx} {b d z : Nat} (pre : List va_E) (hz : b + pre.length = z) : e_Ev X b pre 1 900 (d + 1) mX4_init (blkX4 X z) 0 [some (.ref z)] [] [.inr (4, [.null, .int 0, .int 0, .int 0, .int 0, .int 0, .int 0, .int 0, .int 0, .long 0, .int 0, .int 0])] 0 0 := by
  refine r_aload_n (i := 0) dX4_init_0 rfl rfl ?_
  refine r_obj w_2_9 w_1_28 w_1_29 dX4_init_1 (by omega) ?_
  refine r_aload_n (i := 0) dX4_init_4 rfl rfl ?_
  refine r_sipush (v := 900) dX4_init_5 (by decide) ?_
  refine tk_newa (t := 1) (N := 900) (atype := .byte) (ty := .byte) (a0 := (900, .inl (fun _ => 0))) (q := z + 1) (tl' := [.inr (4, [.null, .int 0, .int 0, .int 0, .int 0, .int 0, .int 0, .int 0, .int 0, .long 0, .int 0, .int 0]), aB X 900]) rfl (fun _ h => by cases h) rfl w_2_56 (fun _ => rfl) (by decide) (by decide) (by decide) dX4_init_8 (by decide) (by decide) rfl (show b + pre.length + 1 = z + 1 by omega) rfl ?_
  refine tk_putF (i := 0) (tl' := [.inr (4, [.ref (z + 1), .int 0, .int 0, .int 0, .int 0, .int 0, .int 0, .int 0, .int 0, .long 0, .int 0, .int 0]), aB X 900]) rfl (show z = b + pre.length + 0 by omega) ffX4_9 rfl rfl (Nat.le_of_ble_eq_true rfl) dX4_init_10 rfl ?_
  refine r_aload_n (i := 0) dX4_init_13 rfl rfl ?_
  refine r_iconst (v := (-1)) dX4_init_14 (by decide) ?_
  refine tk_put (i := 0) (tl' := [.inr (4, [.ref (z + 1), .int 0, .int (-1), .int 0, .int 0, .int 0, .int 0, .int 0, .int 0, .long 0, .int 0, .int 0]), aB X 900]) rfl (show z = b + pre.length + 0 by omega) fzX4_15 rfl rfl (Nat.le_of_ble_eq_true rfl) dX4_init_15 rfl ?_
  refine r_aload_n (i := 0) dX4_init_18 rfl rfl ?_
  refine r_iconst (v := (-1)) dX4_init_19 (by decide) ?_
  refine tk_put (i := 0) (tl' := [.inr (4, [.ref (z + 1), .int 0, .int (-1), .int (-1), .int 0, .int 0, .int 0, .int 0, .int 0, .long 0, .int 0, .int 0]), aB X 900]) rfl (show z = b + pre.length + 0 by omega) fzX4_19 rfl rfl (Nat.le_of_ble_eq_true rfl) dX4_init_20 rfl ?_
  exact tk_ret rfl dX4_init_23 (by decide) (by decide) rfl
def blkX6 (X : o_Cx) (z : Nat) : List va_E := [.inr (6, [.ref (z + 1), .int 0, .int 0, .int 0, .ref (z + 2)]), aI X 6, aI X 36]
set_option maxRecDepth 20000 in
theorem mkX6 {X : o_Cx} {b d z : Nat} (pre : List va_E) (hz : b + pre.length = z) : e_Ev X b pre 2 42 (d + 1) mX6_init (blkX6 X z) 0 [some (.ref z)] [] [.inr (6, [.null, .int 0, .int 0, .int 0, .null])] 0 0 := by
  refine r_aload_n (i := 0) dX6_init_0 rfl rfl ?_
  refine r_obj w_2_137 w_1_28 w_1_29 dX6_init_1 (by omega) ?_
  refine r_aload_n (i := 0) dX6_init_4 rfl rfl ?_
  refine r_bipush (v := 6) dX6_init_5 (by decide) ?_
  refine tk_newa (t := 0) (N := 6) (atype := .int) (ty := .int) (a0 := (6, .inl (fun _ => 0))) (q := z + 1) (tl' := [.inr (6, [.null, .int 0, .int 0, .int 0, .null]), aI X 6]) rfl (fun _ h => by cases h) rfl w_1_108 (fun _ => rfl) (by decide) (by decide) (by decide) dX6_init_7 (by decide) (by decide) rfl (show b + pre.length + 1 = z + 1 by omega) rfl ?_
  refine tk_putF (i := 0) (tl' := [.inr (6, [.ref (z + 1), .int 0, .int 0, .int 0, .null]), aI X 6]) rfl (show z = b + pre.length + 0 by omega) ffX6_9 rfl rfl (Nat.le_of_ble_eq_true rfl) dX6_init_9 rfl ?_
  refine r_aload_n (i := 0) dX6_init_12 rfl rfl ?_
  refine r_bipush (v := 36) dX6_init_13 (by decide) ?_
  refine tk_newa (t := 0) (N := 36) (atype := .int) (ty := .int) (a0 := (36, .inl (fun _ => 0))) (q := z + 2) (tl' := [.inr (6, [.ref (z + 1), .int 0, .int 0, .int 0, .null]), aI X 6, aI X 36]) rfl (fun _ h => by cases h) rfl w_1_108 (fun _ => rfl) (by decide) (by decide) (by decide) dX6_init_15 (by decide) (by decide) rfl (show b + pre.length + 2 = z + 2 by omega) rfl ?_
  refine tk_putF (i := 0) (tl' := [.inr (6, [.ref (z + 1), .int 0, .int 0, .int 0, .ref (z + 2)]), aI X 6, aI X 36]) rfl (show z = b + pre.length + 0 by omega) ffX6_15 rfl rfl (Nat.le_of_ble_eq_true rfl) dX6_init_17 rfl ?_
  exact tk_ret rfl dX6_init_20 (by decide) (by decide) rfl
def blkX7 (X : o_Cx) (z : Nat) : List va_E := [.inr (7, [.int 0, .int 0, .int 0, .ref (z + 1)]), aL X 60]
set_option maxRecDepth 20000 in
theorem mkX7 {X : o_Cx} {b d z : Nat} (pre : List va_E) (hz : b + pre.length = z) : e_Ev X b pre 1 60 (d + 1) mX7_init (blkX7 X z) 0 [some (.ref z)] [] [.inr (7, [.int 0, .int 0, .int 0, .null])] 0 0 := by
  refine r_aload_n (i := 0) dX7_init_0 rfl rfl ?_
  refine r_obj w_1_36 w_1_28 w_1_29 dX7_init_1 (by omega) ?_
  refine r_aload_n (i := 0) dX7_init_4 rfl rfl ?_
  refine r_bipush (v := 60) dX7_init_5 (by decide) ?_
  refine tk_newa (t := 2) (N := 60) (atype := .long) (ty := .long) (a0 := (60, .inr (.inl (fun _ => 0)))) (q := z + 1) (tl' := [.inr (7, [.int 0, .int 0, .int 0, .null]), aL X 60]) rfl (fun _ h => by cases h) rfl w_1_55 (fun _ => rfl) (by decide) (by decide) (by decide) dX7_init_7 (by decide) (by decide) rfl (show b + pre.length + 1 = z + 1 by omega) rfl ?_
  refine tk_putF (i := 0) (tl' := [.inr (7, [.int 0, .int 0, .int 0, .ref (z + 1)]), aL X 60]) rfl (show z = b + pre.length + 0 by omega) ffX7_9 rfl rfl (Nat.le_of_ble_eq_true rfl) dX7_init_9 rfl ?_
  exact tk_ret rfl dX7_init_12 (by decide) (by decide) rfl
def blkX5 (X : o_Cx) (z : Nat) : List va_E := [.inr (5, [.ref (z + 1), .ref (z + 7), .int 0, .int 0])] ++ (blkX1 X (z + 1) ++ [aL X 13])
set_option maxRecDepth 20000 in
theorem mkX5 {X : o_Cx} {b d z : Nat} (pre : List va_E) (hz : b + pre.length = z) : e_Ev X b pre 7 79 (d + 2) mX5_init (blkX5 X z) 0 [some (.ref z)] [] [.inr (5, [.null, .null, .int 0, .int 0])] 0 0 := by
  refine r_aload_n (i := 0) dX5_init_0 rfl rfl ?_
  refine r_obj w_2_163 w_1_28 w_1_29 dX5_init_1 (by omega) ?_
  refine r_aload_n (i := 0) dX5_init_4 rfl rfl ?_
  refine tk_new (q := z + 1) (tl' := [.inr (5, [.null, .null, .int 0, .int 0]), .inr (1, [.int 0, .null, .null, .null, .null, .null])]) nwX5_9 dX5_init_5 (by decide) (by decide) rfl (show b + pre.length + 1 = z + 1 by omega) rfl ?_
  refine r_dup dX5_init_8 rfl ?_
  refine tk_callN (C := mX1_init) (tl0 := [.inr (5, [.null, .null, .int 0, .int 0])]) (tl' := [.inr (5, [.null, .null, .int 0, .int 0])] ++ blkX1 X (z + 1)) (As := []) (rest := [.ref (z + 1), .ref z]) (by decide) rfl rfl cbX1_init w_1_65 dX5_init_9 rfl rfl (Nat.le_of_ble_eq_true rfl) (Nat.le_of_ble_eq_true rfl) (by decide) (by decide) rfl rfl rfl (mkX1 (pre ++ ([.inr (5, [.null, .null, .int 0, .int 0])])) (z := z + 1) (by rw [List.length_append]; show b + (pre.length + 1) = z + 1; omega)) ?_
  refine tk_putF (i := 0) (tl' := [.inr (5, [.ref (z + 1), .null, .int 0, .int 0])] ++ blkX1 X (z + 1)) rfl (show z = b + pre.length + 0 by omega) ffX5_12 rfl rfl (Nat.le_of_ble_eq_true rfl) dX5_init_12 rfl ?_
  refine r_aload_n (i := 0) dX5_init_15 rfl rfl ?_
  refine r_bipush (v := 13) dX5_init_16 (by decide) ?_
  refine tk_newa (t := 2) (N := 13) (atype := .long) (ty := .long) (a0 := (13, .inr (.inl (fun _ => 0)))) (q := z + 7) (tl' := [.inr (5, [.ref (z + 1), .null, .int 0, .int 0])] ++ (blkX1 X (z + 1) ++ [aL X 13])) rfl (fun _ h => by cases h) rfl w_1_55 (fun _ => rfl) (by decide) (by decide) (by decide) dX5_init_18 (by decide) (by decide) rfl (show b + pre.length + 7 = z + 7 by omega) rfl ?_
  refine tk_putF (i := 0) (tl' := [.inr (5, [.ref (z + 1), .ref (z + 7), .int 0, .int 0])] ++ (blkX1 X (z + 1) ++ [aL X 13])) rfl (show z = b + pre.length + 0 by omega) ffX5_18 rfl rfl (Nat.le_of_ble_eq_true rfl) dX5_init_20 rfl ?_
  exact tk_ret rfl dX5_init_23 (by decide) (by decide) rfl
def blkX8 (X : o_Cx) (z : Nat) : List va_E := [.inr (8, [.int 0, .int 0, .int 0, .int 0, .int 4, .int 0, .int 0, .int 0, .int 0, .ref (z + 1), .ref (z + 2), .ref (z + 3), .ref (z + 4), .ref (z + 5), .ref (z + 6), .ref (z + 7), .ref (z + 13), .ref (z + 19)]), aI X 6, aI X 6, aI X 6, aI X 48, aI X 36, aI X 36] ++ (blkX1 X (z + 7) ++ (blkX1 X (z + 13) ++ [aL X 18]))
set_option maxRecDepth 20000 in
theorem mkX8 {X : o_Cx} {b d z : Nat} (pre : List va_E) (hz : b + pre.length = z) : e_Ev X b pre 19 288 (d + 2) mX8_init (blkX8 X z) 0 [some (.ref z)] [] [.inr (8, [.int 0, .int 0, .int 0, .int 0, .int 0, .int 0, .int 0, .int 0, .int 0, .null, .null, .null, .null, .null, .null, .null, .null, .null])] 0 0 := by
  refine r_aload_n (i := 0) dX8_init_0 rfl rfl ?_
  refine r_obj w_1_61 w_1_28 w_1_29 dX8_init_1 (by omega) ?_
  refine r_aload_n (i := 0) dX8_init_4 rfl rfl ?_
  refine r_iconst (v := 4) dX8_init_5 (by decide) ?_
  refine tk_put (i := 0) (tl' := [.inr (8, [.int 0, .int 0, .int 0, .int 0, .int 4, .int 0, .int 0, .int 0, .int 0, .null, .null, .null, .null, .null, .null, .null, .null, .null])]) rfl (show z = b + pre.length + 0 by omega) fzX8_9 rfl rfl (Nat.le_of_ble_eq_true rfl) dX8_init_6 rfl ?_
  refine r_aload_n (i := 0) dX8_init_9 rfl rfl ?_
  refine r_bipush (v := 6) dX8_init_10 (by decide) ?_
  refine tk_newa (t := 0) (N := 6) (atype := .int) (ty := .int) (a0 := (6, .inl (fun _ => 0))) (q := z + 1) (tl' := [.inr (8, [.int 0, .int 0, .int 0, .int 0, .int 4, .int 0, .int 0, .int 0, .int 0, .null, .null, .null, .null, .null, .null, .null, .null, .null]), aI X 6]) rfl (fun _ h => by cases h) rfl w_1_108 (fun _ => rfl) (by decide) (by decide) (by decide) dX8_init_12 (by decide) (by decide) rfl (show b + pre.length + 1 = z + 1 by omega) rfl ?_
  refine tk_putF (i := 0) (tl' := [.inr (8, [.int 0, .int 0, .int 0, .int 0, .int 4, .int 0, .int 0, .int 0, .int 0, .ref (z + 1), .null, .null, .null, .null, .null, .null, .null, .null]), aI X 6]) rfl (show z = b + pre.length + 0 by omega) ffX8_15 rfl rfl (Nat.le_of_ble_eq_true rfl) dX8_init_14 rfl ?_
  refine r_aload_n (i := 0) dX8_init_17 rfl rfl ?_
  refine r_bipush (v := 6) dX8_init_18 (by decide) ?_
  refine tk_newa (t := 0) (N := 6) (atype := .int) (ty := .int) (a0 := (6, .inl (fun _ => 0))) (q := z + 2) (tl' := [.inr (8, [.int 0, .int 0, .int 0, .int 0, .int 4, .int 0, .int 0, .int 0, .int 0, .ref (z + 1), .null, .null, .null, .null, .null, .null, .null, .null]), aI X 6, aI X 6]) rfl (fun _ h => by cases h) rfl w_1_108 (fun _ => rfl) (by decide) (by decide) (by decide) dX8_init_20 (by decide) (by decide) rfl (show b + pre.length + 2 = z + 2 by omega) rfl ?_
  refine tk_putF (i := 0) (tl' := [.inr (8, [.int 0, .int 0, .int 0, .int 0, .int 4, .int 0, .int 0, .int 0, .int 0, .ref (z + 1), .ref (z + 2), .null, .null, .null, .null, .null, .null, .null]), aI X 6, aI X 6]) rfl (show z = b + pre.length + 0 by omega) ffX8_19 rfl rfl (Nat.le_of_ble_eq_true rfl) dX8_init_22 rfl ?_
  refine r_aload_n (i := 0) dX8_init_25 rfl rfl ?_
  refine r_bipush (v := 6) dX8_init_26 (by decide) ?_
  refine tk_newa (t := 0) (N := 6) (atype := .int) (ty := .int) (a0 := (6, .inl (fun _ => 0))) (q := z + 3) (tl' := [.inr (8, [.int 0, .int 0, .int 0, .int 0, .int 4, .int 0, .int 0, .int 0, .int 0, .ref (z + 1), .ref (z + 2), .null, .null, .null, .null, .null, .null, .null]), aI X 6, aI X 6, aI X 6]) rfl (fun _ h => by cases h) rfl w_1_108 (fun _ => rfl) (by decide) (by decide) (by decide) dX8_init_28 (by decide) (by decide) rfl (show b + pre.length + 3 = z + 3 by omega) rfl ?_
  refine tk_putF (i := 0) (tl' := [.inr (8, [.int 0, .int 0, .int 0, .int 0, .int 4, .int 0, .int 0, .int 0, .int 0, .ref (z + 1), .ref (z + 2), .ref (z + 3), .null, .null, .null, .null, .null, .null]), aI X 6, aI X 6, aI X 6]) rfl (show z = b + pre.length + 0 by omega) ffX8_22 rfl rfl (Nat.le_of_ble_eq_true rfl) dX8_init_30 rfl ?_
  refine r_aload_n (i := 0) dX8_init_33 rfl rfl ?_
  refine r_bipush (v := 48) dX8_init_34 (by decide) ?_
  refine tk_newa (t := 0) (N := 48) (atype := .int) (ty := .int) (a0 := (48, .inl (fun _ => 0))) (q := z + 4) (tl' := [.inr (8, [.int 0, .int 0, .int 0, .int 0, .int 4, .int 0, .int 0, .int 0, .int 0, .ref (z + 1), .ref (z + 2), .ref (z + 3), .null, .null, .null, .null, .null, .null]), aI X 6, aI X 6, aI X 6, aI X 48]) rfl (fun _ h => by cases h) rfl w_1_108 (fun _ => rfl) (by decide) (by decide) (by decide) dX8_init_36 (by decide) (by decide) rfl (show b + pre.length + 4 = z + 4 by omega) rfl ?_
  refine tk_putF (i := 0) (tl' := [.inr (8, [.int 0, .int 0, .int 0, .int 0, .int 4, .int 0, .int 0, .int 0, .int 0, .ref (z + 1), .ref (z + 2), .ref (z + 3), .ref (z + 4), .null, .null, .null, .null, .null]), aI X 6, aI X 6, aI X 6, aI X 48]) rfl (show z = b + pre.length + 0 by omega) ffX8_25 rfl rfl (Nat.le_of_ble_eq_true rfl) dX8_init_38 rfl ?_
  refine r_aload_n (i := 0) dX8_init_41 rfl rfl ?_
  refine r_bipush (v := 36) dX8_init_42 (by decide) ?_
  refine tk_newa (t := 0) (N := 36) (atype := .int) (ty := .int) (a0 := (36, .inl (fun _ => 0))) (q := z + 5) (tl' := [.inr (8, [.int 0, .int 0, .int 0, .int 0, .int 4, .int 0, .int 0, .int 0, .int 0, .ref (z + 1), .ref (z + 2), .ref (z + 3), .ref (z + 4), .null, .null, .null, .null, .null]), aI X 6, aI X 6, aI X 6, aI X 48, aI X 36]) rfl (fun _ h => by cases h) rfl w_1_108 (fun _ => rfl) (by decide) (by decide) (by decide) dX8_init_44 (by decide) (by decide) rfl (show b + pre.length + 5 = z + 5 by omega) rfl ?_
  refine tk_putF (i := 0) (tl' := [.inr (8, [.int 0, .int 0, .int 0, .int 0, .int 4, .int 0, .int 0, .int 0, .int 0, .ref (z + 1), .ref (z + 2), .ref (z + 3), .ref (z + 4), .ref (z + 5), .null, .null, .null, .null]), aI X 6, aI X 6, aI X 6, aI X 48, aI X 36]) rfl (show z = b + pre.length + 0 by omega) ffX8_28 rfl rfl (Nat.le_of_ble_eq_true rfl) dX8_init_46 rfl ?_
  refine r_aload_n (i := 0) dX8_init_49 rfl rfl ?_
  refine r_bipush (v := 36) dX8_init_50 (by decide) ?_
  refine tk_newa (t := 0) (N := 36) (atype := .int) (ty := .int) (a0 := (36, .inl (fun _ => 0))) (q := z + 6) (tl' := [.inr (8, [.int 0, .int 0, .int 0, .int 0, .int 4, .int 0, .int 0, .int 0, .int 0, .ref (z + 1), .ref (z + 2), .ref (z + 3), .ref (z + 4), .ref (z + 5), .null, .null, .null, .null]), aI X 6, aI X 6, aI X 6, aI X 48, aI X 36, aI X 36]) rfl (fun _ h => by cases h) rfl w_1_108 (fun _ => rfl) (by decide) (by decide) (by decide) dX8_init_52 (by decide) (by decide) rfl (show b + pre.length + 6 = z + 6 by omega) rfl ?_
  refine tk_putF (i := 0) (tl' := [.inr (8, [.int 0, .int 0, .int 0, .int 0, .int 4, .int 0, .int 0, .int 0, .int 0, .ref (z + 1), .ref (z + 2), .ref (z + 3), .ref (z + 4), .ref (z + 5), .ref (z + 6), .null, .null, .null]), aI X 6, aI X 6, aI X 6, aI X 48, aI X 36, aI X 36]) rfl (show z = b + pre.length + 0 by omega) ffX8_31 rfl rfl (Nat.le_of_ble_eq_true rfl) dX8_init_54 rfl ?_
  refine r_aload_n (i := 0) dX8_init_57 rfl rfl ?_
  refine tk_new (q := z + 7) (tl' := [.inr (8, [.int 0, .int 0, .int 0, .int 0, .int 4, .int 0, .int 0, .int 0, .int 0, .ref (z + 1), .ref (z + 2), .ref (z + 3), .ref (z + 4), .ref (z + 5), .ref (z + 6), .null, .null, .null]), aI X 6, aI X 6, aI X 6, aI X 48, aI X 36, aI X 36, .inr (1, [.int 0, .null, .null, .null, .null, .null])]) nwX8_34 dX8_init_58 (by decide) (by decide) rfl (show b + pre.length + 7 = z + 7 by omega) rfl ?_
  refine r_dup dX8_init_61 rfl ?_
  refine tk_callN (C := mX1_init) (tl0 := [.inr (8, [.int 0, .int 0, .int 0, .int 0, .int 4, .int 0, .int 0, .int 0, .int 0, .ref (z + 1), .ref (z + 2), .ref (z + 3), .ref (z + 4), .ref (z + 5), .ref (z + 6), .null, .null, .null]), aI X 6, aI X 6, aI X 6, aI X 48, aI X 36, aI X 36]) (tl' := [.inr (8, [.int 0, .int 0, .int 0, .int 0, .int 4, .int 0, .int 0, .int 0, .int 0, .ref (z + 1), .ref (z + 2), .ref (z + 3), .ref (z + 4), .ref (z + 5), .ref (z + 6), .null, .null, .null]), aI X 6, aI X 6, aI X 6, aI X 48, aI X 36, aI X 36] ++ blkX1 X (z + 7)) (As := []) (rest := [.ref (z + 7), .ref z]) (by decide) rfl rfl cbX1_init w_1_65 dX8_init_62 rfl rfl (Nat.le_of_ble_eq_true rfl) (Nat.le_of_ble_eq_true rfl) (by decide) (by decide) rfl rfl rfl (mkX1 (pre ++ ([.inr (8, [.int 0, .int 0, .int 0, .int 0, .int 4, .int 0, .int 0, .int 0, .int 0, .ref (z + 1), .ref (z + 2), .ref (z + 3), .ref (z + 4), .ref (z + 5), .ref (z + 6), .null, .null, .null]), aI X 6, aI X 6, aI X 6, aI X 48, aI X 36, aI X 36])) (z := z + 7) (by rw [List.length_append]; show b + (pre.length + 7) = z + 7; omega)) ?_
  refine tk_putF (i := 0) (tl' := [.inr (8, [.int 0, .int 0, .int 0, .int 0, .int 4, .int 0, .int 0, .int 0, .int 0, .ref (z + 1), .ref (z + 2), .ref (z + 3), .ref (z + 4), .ref (z + 5), .ref (z + 6), .ref (z + 7), .null, .null]), aI X 6, aI X 6, aI X 6, aI X 48, aI X 36, aI X 36] ++ blkX1 X (z + 7)) rfl (show z = b + pre.length + 0 by omega) ffX8_37 rfl rfl (Nat.le_of_ble_eq_true rfl) dX8_init_65 rfl ?_
  refine r_aload_n (i := 0) dX8_init_68 rfl rfl ?_
  refine tk_new (q := z + 13) (tl' := [.inr (8, [.int 0, .int 0, .int 0, .int 0, .int 4, .int 0, .int 0, .int 0, .int 0, .ref (z + 1), .ref (z + 2), .ref (z + 3), .ref (z + 4), .ref (z + 5), .ref (z + 6), .ref (z + 7), .null, .null]), aI X 6, aI X 6, aI X 6, aI X 48, aI X 36, aI X 36] ++ (blkX1 X (z + 7) ++ [.inr (1, [.int 0, .null, .null, .null, .null, .null])])) nwX8_34 dX8_init_69 (by decide) (by decide) rfl (show b + pre.length + 13 = z + 13 by omega) rfl ?_
  refine r_dup dX8_init_72 rfl ?_
  refine tk_callN (C := mX1_init) (tl0 := [.inr (8, [.int 0, .int 0, .int 0, .int 0, .int 4, .int 0, .int 0, .int 0, .int 0, .ref (z + 1), .ref (z + 2), .ref (z + 3), .ref (z + 4), .ref (z + 5), .ref (z + 6), .ref (z + 7), .null, .null]), aI X 6, aI X 6, aI X 6, aI X 48, aI X 36, aI X 36] ++ blkX1 X (z + 7)) (tl' := [.inr (8, [.int 0, .int 0, .int 0, .int 0, .int 4, .int 0, .int 0, .int 0, .int 0, .ref (z + 1), .ref (z + 2), .ref (z + 3), .ref (z + 4), .ref (z + 5), .ref (z + 6), .ref (z + 7), .null, .null]), aI X 6, aI X 6, aI X 6, aI X 48, aI X 36, aI X 36] ++ (blkX1 X (z + 7) ++ blkX1 X (z + 13))) (As := []) (rest := [.ref (z + 13), .ref z]) (by decide) rfl rfl cbX1_init w_1_65 dX8_init_73 rfl rfl (Nat.le_of_ble_eq_true rfl) (Nat.le_of_ble_eq_true rfl) (by decide) (by decide) rfl rfl rfl (mkX1 (pre ++ ([.inr (8, [.int 0, .int 0, .int 0, .int 0, .int 4, .int 0, .int 0, .int 0, .int 0, .ref (z + 1), .ref (z + 2), .ref (z + 3), .ref (z + 4), .ref (z + 5), .ref (z + 6), .ref (z + 7), .null, .null]), aI X 6, aI X 6, aI X 6, aI X 48, aI X 36, aI X 36] ++ blkX1 X (z + 7))) (z := z + 13) (by rw [List.length_append]; show b + (pre.length + 13) = z + 13; omega)) ?_
  refine tk_putF (i := 0) (tl' := [.inr (8, [.int 0, .int 0, .int 0, .int 0, .int 4, .int 0, .int 0, .int 0, .int 0, .ref (z + 1), .ref (z + 2), .ref (z + 3), .ref (z + 4), .ref (z + 5), .ref (z + 6), .ref (z + 7), .ref (z + 13), .null]), aI X 6, aI X 6, aI X 6, aI X 48, aI X 36, aI X 36] ++ (blkX1 X (z + 7) ++ blkX1 X (z + 13))) rfl (show z = b + pre.length + 0 by omega) ffX8_41 rfl rfl (Nat.le_of_ble_eq_true rfl) dX8_init_76 rfl ?_
  refine r_aload_n (i := 0) dX8_init_79 rfl rfl ?_
  refine r_bipush (v := 18) dX8_init_80 (by decide) ?_
  refine tk_newa (t := 2) (N := 18) (atype := .long) (ty := .long) (a0 := (18, .inr (.inl (fun _ => 0)))) (q := z + 19) (tl' := [.inr (8, [.int 0, .int 0, .int 0, .int 0, .int 4, .int 0, .int 0, .int 0, .int 0, .ref (z + 1), .ref (z + 2), .ref (z + 3), .ref (z + 4), .ref (z + 5), .ref (z + 6), .ref (z + 7), .ref (z + 13), .null]), aI X 6, aI X 6, aI X 6, aI X 48, aI X 36, aI X 36] ++ (blkX1 X (z + 7) ++ (blkX1 X (z + 13) ++ [aL X 18]))) rfl (fun _ h => by cases h) rfl w_1_55 (fun _ => rfl) (by decide) (by decide) (by decide) dX8_init_82 (by decide) (by decide) rfl (show b + pre.length + 19 = z + 19 by omega) rfl ?_
  refine tk_putF (i := 0) (tl' := [.inr (8, [.int 0, .int 0, .int 0, .int 0, .int 4, .int 0, .int 0, .int 0, .int 0, .ref (z + 1), .ref (z + 2), .ref (z + 3), .ref (z + 4), .ref (z + 5), .ref (z + 6), .ref (z + 7), .ref (z + 13), .ref (z + 19)]), aI X 6, aI X 6, aI X 6, aI X 48, aI X 36, aI X 36] ++ (blkX1 X (z + 7) ++ (blkX1 X (z + 13) ++ [aL X 18]))) rfl (show z = b + pre.length + 0 by omega) ffX8_44 rfl rfl (Nat.le_of_ble_eq_true rfl) dX8_init_84 rfl ?_
  exact tk_ret rfl dX8_init_87 (by decide) (by decide) rfl
def blkX9 (_X : o_Cx) (_z : Nat) (r : Nat) (v : Nat) : List va_E := [.inr (9, [.ref r, .ref v, .int 0])]
set_option maxRecDepth 20000 in
theorem mkX9 {X : o_Cx} {b d z : Nat} (pre : List va_E) (hz : b + pre.length = z) (r : Nat) (v : Nat) : e_Ev X b pre 0 0 (d + 1) mX9_init (blkX9 X z r v) 0 [some (.ref z), some (.ref r), some (.ref v)] [] [.inr (9, [.null, .null, .int 0])] 0 0 := by
  refine r_aload_n (i := 0) dX9_init_0 rfl rfl ?_
  refine r_obj w_2_62 w_1_28 w_1_29 dX9_init_1 (by omega) ?_
  refine r_aload_n (i := 0) dX9_init_4 rfl rfl ?_
  refine r_aload_n (i := 1) dX9_init_5 rfl rfl ?_
  refine tk_putF (i := 0) (tl' := [.inr (9, [.ref r, .null, .int 0])]) rfl (show z = b + pre.length + 0 by omega) ffX9_9 rfl rfl (Nat.le_of_ble_eq_true rfl) dX9_init_6 rfl ?_
  refine r_aload_n (i := 0) dX9_init_9 rfl rfl ?_
  refine r_aload_n (i := 2) dX9_init_10 rfl rfl ?_
  refine tk_putF (i := 0) (tl' := [.inr (9, [.ref r, .ref v, .int 0])]) rfl (show z = b + pre.length + 0 by omega) ffX9_15 rfl rfl (Nat.le_of_ble_eq_true rfl) dX9_init_11 rfl ?_
  exact tk_ret rfl dX9_init_14 (by decide) (by decide) rfl
def blkX10 (X : o_Cx) (z : Nat) (r : Nat) (v : Nat) (w : Nat) : List va_E := [.inr (10, [.ref r, .ref v, .ref w, .ref (z + 1), .int 0]), aI X 3]
set_option maxRecDepth 20000 in
theorem mkX10 {X : o_Cx} {b d z : Nat} (pre : List va_E) (hz : b + pre.length = z) (r : Nat) (v : Nat) (w : Nat) : e_Ev X b pre 1 3 (d + 1) mX10_init (blkX10 X z r v w) 0 [some (.ref z), some (.ref r), some (.ref v), some (.ref w)] [] [.inr (10, [.null, .null, .null, .null, .int 0])] 0 0 := by
  refine r_aload_n (i := 0) dX10_init_0 rfl rfl ?_
  refine r_obj w_2_78 w_1_28 w_1_29 dX10_init_1 (by omega) ?_
  refine r_aload_n (i := 0) dX10_init_4 rfl rfl ?_
  refine r_iconst (v := 3) dX10_init_5 (by decide) ?_
  refine tk_newa (t := 0) (N := 3) (atype := .int) (ty := .int) (a0 := (3, .inl (fun _ => 0))) (q := z + 1) (tl' := [.inr (10, [.null, .null, .null, .null, .int 0]), aI X 3]) rfl (fun _ h => by cases h) rfl w_1_108 (fun _ => rfl) (by decide) (by decide) (by decide) dX10_init_6 (by decide) (by decide) rfl (show b + pre.length + 1 = z + 1 by omega) rfl ?_
  refine tk_putF (i := 0) (tl' := [.inr (10, [.null, .null, .null, .ref (z + 1), .int 0]), aI X 3]) rfl (show z = b + pre.length + 0 by omega) ffX10_9 rfl rfl (Nat.le_of_ble_eq_true rfl) dX10_init_8 rfl ?_
  refine r_aload_n (i := 0) dX10_init_11 rfl rfl ?_
  refine r_aload_n (i := 1) dX10_init_12 rfl rfl ?_
  refine tk_putF (i := 0) (tl' := [.inr (10, [.ref r, .null, .null, .ref (z + 1), .int 0]), aI X 3]) rfl (show z = b + pre.length + 0 by omega) ffX10_15 rfl rfl (Nat.le_of_ble_eq_true rfl) dX10_init_13 rfl ?_
  refine r_aload_n (i := 0) dX10_init_16 rfl rfl ?_
  refine r_aload_n (i := 2) dX10_init_17 rfl rfl ?_
  refine tk_putF (i := 0) (tl' := [.inr (10, [.ref r, .ref v, .null, .ref (z + 1), .int 0]), aI X 3]) rfl (show z = b + pre.length + 0 by omega) ffX10_19 rfl rfl (Nat.le_of_ble_eq_true rfl) dX10_init_18 rfl ?_
  refine r_aload_n (i := 0) dX10_init_21 rfl rfl ?_
  refine r_aload_n (i := 3) dX10_init_22 rfl rfl ?_
  refine tk_putF (i := 0) (tl' := [.inr (10, [.ref r, .ref v, .ref w, .ref (z + 1), .int 0]), aI X 3]) rfl (show z = b + pre.length + 0 by omega) ffX10_23 rfl rfl (Nat.le_of_ble_eq_true rfl) dX10_init_23 rfl ?_
  exact tk_ret rfl dX10_init_26 (by decide) (by decide) rfl
