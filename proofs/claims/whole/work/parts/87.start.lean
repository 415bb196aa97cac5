/-! ===== the start: what the Statement gives ===== -/
theorem sw_3_117 : (Jvm.Cond.stringRef "OddCancel$Reader" (70 : Nat) "strike worth hand person law under over by from to acts on weight letter odds day post drink sober any when struck waits drunk loop end stop ") ∈ lw_tbl := lw_t3 (List.mem_of_getElem? (i := 117) rfl)
theorem sw_7_81 : (Jvm.Cond.stringRef "OddCancelModel" (180 : Nat) " strike hand person law acts letter odds worth under over by from to on weight day post drink sober any when loop end stop struck waits drunk ") ∈ lw_tbl := lw_t7 (List.mem_of_getElem? (i := 81) rfl)
theorem sw_3_127 : (Jvm.Cond.laysStatic "java/lang/String" "COMPACT_STRINGS" "Z") ∈ lw_tbl := lw_t3 (List.mem_of_getElem? (i := 127) rfl)
theorem sw_3_143 : (Jvm.Cond.laysStatic "jdk/internal/util/Preconditions" "SIOOBE_FORMATTER" "Ljava/util/function/BiFunction;") ∈ lw_tbl := lw_t3 (List.mem_of_getElem? (i := 143) rfl)
theorem sw_1_17 : (Jvm.Cond.initialized "java/lang/String") ∈ lw_tbl := lw_t1 (List.mem_of_getElem? (i := 17) rfl)
theorem sw_1_19 : (Jvm.Cond.initialized "jdk/internal/util/Preconditions") ∈ lw_tbl := lw_t1 (List.mem_of_getElem? (i := 19) rfl)
theorem sw_1_31 : (Jvm.Cond.arrayOver (Jvm.ClassFile.FieldType.object "OddCancel$Tray")) ∈ lw_tbl := lw_t1 (List.mem_of_getElem? (i := 31) rfl)
theorem sw_2_2 : (Jvm.Cond.arrayOver (Jvm.ClassFile.FieldType.object "OddCancel$Valley")) ∈ lw_tbl := lw_t2 (List.mem_of_getElem? (i := 2) rfl)
theorem sw_2_3 : (Jvm.Cond.arrayOver (Jvm.ClassFile.FieldType.object "OddCancel$Plan")) ∈ lw_tbl := lw_t2 (List.mem_of_getElem? (i := 3) rfl)
theorem sw_1_108 : (Jvm.Cond.arrayClass Jvm.ClassFile.FieldType.int) ∈ lw_tbl := lw_t1 (List.mem_of_getElem? (i := 108) rfl)
theorem sw_2_56 : (Jvm.Cond.arrayClass Jvm.ClassFile.FieldType.byte) ∈ lw_tbl := lw_t2 (List.mem_of_getElem? (i := 56) rfl)
theorem sw_1_55 : (Jvm.Cond.arrayClass Jvm.ClassFile.FieldType.long) ∈ lw_tbl := lw_t1 (List.mem_of_getElem? (i := 55) rfl)
theorem sw_1_33 : (Jvm.Cond.methodLinkNest "OddCancel" (19 : Nat) ({ cls := "OddCancel$Tray", name := "<init>", desc := "()V" } : Jvm.MethodName) "OddCancel") ∈ lw_tbl := lw_t1 (List.mem_of_getElem? (i := 33) rfl)
theorem sw_1_58 : (Jvm.Cond.methodLinkNest "OddCancel" (22 : Nat) ({ cls := "OddCancel$Valley", name := "<init>", desc := "()V" } : Jvm.MethodName) "OddCancel") ∈ lw_tbl := lw_t1 (List.mem_of_getElem? (i := 58) rfl)
theorem sw_1_64 : (Jvm.Cond.methodLinkNest "OddCancel$Valley" (36 : Nat) ({ cls := "OddCancel$Letters", name := "<init>", desc := "()V" } : Jvm.MethodName) "OddCancel") ∈ lw_tbl := lw_t1 (List.mem_of_getElem? (i := 64) rfl)
theorem sw_1_205 : (Jvm.Cond.methodLinkNest "OddCancel" (32 : Nat) ({ cls := "OddCancel$Plan", name := "<init>", desc := "()V" } : Jvm.MethodName) "OddCancel") ∈ lw_tbl := lw_t1 (List.mem_of_getElem? (i := 205) rfl)
theorem sw_2_6 : (Jvm.Cond.methodLinkNest "OddCancel" (50 : Nat) ({ cls := "OddCancel$Reader", name := "<init>", desc := "()V" } : Jvm.MethodName) "OddCancel") ∈ lw_tbl := lw_t2 (List.mem_of_getElem? (i := 6) rfl)
theorem sw_2_97 : (Jvm.Cond.methodLinkNest "OddCancel" (75 : Nat) ({ cls := "OddCancel$Life", name := "<init>", desc := "()V" } : Jvm.MethodName) "OddCancel") ∈ lw_tbl := lw_t2 (List.mem_of_getElem? (i := 97) rfl)
theorem sw_2_134 : (Jvm.Cond.methodLinkNest "OddCancel" (86 : Nat) ({ cls := "OddCancel$Trails", name := "<init>", desc := "()V" } : Jvm.MethodName) "OddCancel") ∈ lw_tbl := lw_t2 (List.mem_of_getElem? (i := 134) rfl)
theorem sw_2_160 : (Jvm.Cond.methodLinkNest "OddCancel" (93 : Nat) ({ cls := "OddCancel$Rows", name := "<init>", desc := "()V" } : Jvm.MethodName) "OddCancel") ∈ lw_tbl := lw_t2 (List.mem_of_getElem? (i := 160) rfl)
theorem sw_2_165 : (Jvm.Cond.methodLinkNest "OddCancel$Rows" (11 : Nat) ({ cls := "OddCancel$Letters", name := "<init>", desc := "()V" } : Jvm.MethodName) "OddCancel") ∈ lw_tbl := lw_t2 (List.mem_of_getElem? (i := 165) rfl)
theorem sw_2_182 : (Jvm.Cond.methodLinkNest "OddCancel" (100 : Nat) ({ cls := "OddCancel$Brothers", name := "<init>", desc := "()V" } : Jvm.MethodName) "OddCancel") ∈ lw_tbl := lw_t2 (List.mem_of_getElem? (i := 182) rfl)
theorem sw_4_175 : (Jvm.Cond.methodLinkNest "OddCancel$Valley" (102 : Nat) ({ cls := "OddCancel", name := "within", desc := "(JJJ)Z" } : Jvm.MethodName) "OddCancel") ∈ lw_tbl := lw_t4 (List.mem_of_getElem? (i := 175) rfl)
theorem sw_2_181 : (Jvm.Cond.instantiable "OddCancel$Brothers" (3 : Nat)) ∈ lw_tbl := lw_t2 (List.mem_of_getElem? (i := 181) rfl)
theorem sw_1_63 : (Jvm.Cond.instantiable "OddCancel$Letters" (6 : Nat)) ∈ lw_tbl := lw_t1 (List.mem_of_getElem? (i := 63) rfl)
theorem sw_2_96 : (Jvm.Cond.instantiable "OddCancel$Life" (8 : Nat)) ∈ lw_tbl := lw_t2 (List.mem_of_getElem? (i := 96) rfl)
theorem sw_1_204 : (Jvm.Cond.instantiable "OddCancel$Plan" (7 : Nat)) ∈ lw_tbl := lw_t1 (List.mem_of_getElem? (i := 204) rfl)
theorem sw_2_5 : (Jvm.Cond.instantiable "OddCancel$Reader" (12 : Nat)) ∈ lw_tbl := lw_t2 (List.mem_of_getElem? (i := 5) rfl)
theorem sw_2_159 : (Jvm.Cond.instantiable "OddCancel$Rows" (4 : Nat)) ∈ lw_tbl := lw_t2 (List.mem_of_getElem? (i := 159) rfl)
theorem sw_2_133 : (Jvm.Cond.instantiable "OddCancel$Trails" (5 : Nat)) ∈ lw_tbl := lw_t2 (List.mem_of_getElem? (i := 133) rfl)
theorem sw_1_32 : (Jvm.Cond.instantiable "OddCancel$Tray" (4 : Nat)) ∈ lw_tbl := lw_t1 (List.mem_of_getElem? (i := 32) rfl)
theorem sw_1_57 : (Jvm.Cond.instantiable "OddCancel$Valley" (18 : Nat)) ∈ lw_tbl := lw_t1 (List.mem_of_getElem? (i := 57) rfl)
theorem sw_2_58 : (Jvm.Cond.instantiable "OddCancel$ValleyText" (3 : Nat)) ∈ lw_tbl := lw_t2 (List.mem_of_getElem? (i := 58) rfl)
theorem sw_2_74 : (Jvm.Cond.instantiable "OddCancel$WeeksText" (5 : Nat)) ∈ lw_tbl := lw_t2 (List.mem_of_getElem? (i := 74) rfl)
theorem sw_1_23 : (Jvm.Cond.instantiable "OddCancel" (19 : Nat)) ∈ lw_tbl := lw_t1 (List.mem_of_getElem? (i := 23) rfl)
theorem sw_6_107 : (Jvm.Cond.instantiable "OddCancelModel" (39 : Nat)) ∈ lw_tbl := lw_t6 (List.mem_of_getElem? (i := 107) rfl)
theorem st_AC {ty : FieldType} {s : State} {args : Array Value} (h : (Cond.arrayClass ty).before args s = true) (hno : ∀ C, ty ≠ .object C) : ∃ cA : ClassId, ArrOfT s cA ty ∧ va_RA s cA ty := by
  obtain ⟨cA, kA, comp, h1, h2, h3⟩ := Cond.arrayClass_spec h
  refine ⟨cA, fun N z => ⟨(fun k h => by cases h), kA, h2, comp, h3⟩, ?_⟩
  cases ty with
  | object C => exact absurd rfl (hno C)
  | _ => exact h1
theorem st_AO {C : String} {s : State} (h : va_AO C s) : ∃ cA : ClassId, ArrOfT s cA (.object C) ∧ va_RA s cA (.object C) := by
  obtain ⟨comp, c, k, h1, h2, h3, h4, h5⟩ := Cond.arrayOver_spec h
  exact ⟨c, fun N z => ⟨(fun k h => by cases h), k, h3, comp, h4⟩, k, comp, h3, h4, h1, h5⟩
def st_c (own : String) (k : Nat) (byt : List Int32) (j : Nat) : Cond := .eq (.elem (.field (.string own k) "java/lang/String" "value" "[B") (.int (Int32.ofNat j))) (.int (byt.getD j 0))
theorem st_in {L : List Cond} {f : Nat → Cond} {a n : Nat} (h : (L.drop a).take n = (List.range n).map f) : ∀ j, j < n → f j ∈ L := fun j hj => List.mem_of_mem_drop (List.mem_of_mem_take (by rw [h]; exact List.mem_map.mpr ⟨j, List.mem_range.mpr hj, rfl⟩))
theorem st_mem0 : ((flatC (Jvm.Cond.and given_1 narrow_1)).drop 52).take 141 = (List.range 141).map (st_c "OddCancel$Reader" 70 (o_byt 0)) := by decide +kernel
theorem st_mem1 : ((flatC (Jvm.Cond.and given_1 narrow_1)).drop 197).take 142 = (List.range 142).map (st_c "OddCancelModel" 180 (o_byt 1)) := by decide +kernel
theorem st_len0 : (o_byt 0).length = 141 := by decide +kernel
theorem st_len1 : (o_byt 1).length = 142 := by decide +kernel
def st_tm (i : Nat) : Term := if i = 0 then .string "OddCancel$Reader" 70 else .string "OddCancelModel" 180
theorem st_two {Q : Nat → Prop} (h0 : Q 0) (h1 : Q 1) : ∀ i, i < 2 → Q i := fun i hi => by
  rcases (show i = 0 ∨ i = 1 by omega) with rfl | rfl
  · exact h0
  · exact h1
theorem st_str {s : State} {b : Nat} {A : Nat → Prop} (hgv : (Jvm.Cond.and given_1 narrow_1).before #[Value.ref b] s = true) (hA : ∀ a : Nat, a < s.heap.size → ¬ A a) : ∃ adK adV : Nat → Nat, vk_S 2 o_len o_bytL adK adV A s s.heap ∧ ∀ i : Nat, i < 2 → (st_tm i).eval #[Value.ref b] s none [] s = some (.ref (adK i)) := by
  have hs := flat_of_before _ hgv
  refine vk_Sof (tm := st_tm) (len := o_len) (byt := o_bytL) (st_two (by show (o_byt 0).length < 2 ^ 31; rw [st_len0]; omega) (by show (o_byt 1).length < 2 ^ 31; rw [st_len1]; omega)) ?_ ?_ ?_ ?_ ?_ ?_ hA
  · exact st_two (hs _ (by decide +kernel)) (hs _ (by decide +kernel))
  · exact st_two (hs _ (by decide +kernel)) (hs _ (by decide +kernel))
  · exact st_two (hs _ (by decide +kernel)) (hs _ (by decide +kernel))
  · exact st_two (hs _ (by decide +kernel)) (hs _ (by decide +kernel))
  · refine st_two (fun j hj => hs _ (st_in st_mem0 j ?_)) (fun j hj => hs _ (st_in st_mem1 j ?_))
    · rw [← st_len0]; exact hj
    · rw [← st_len1]; exact hj
  · intro i j hi hj hij
    rcases (show i = 0 ∨ i = 1 by omega) with rfl | rfl
    · rcases (show j = 0 ∨ j = 1 by omega) with rfl | rfl
      · exact absurd rfl hij
      · exact Or.inl (hs _ (by decide +kernel))
    · rcases (show j = 0 ∨ j = 1 by omega) with rfl | rfl
      · exact Or.inr (hs _ (by decide +kernel))
      · exact absurd rfl hij
theorem st_St {s : State} {b : Nat} {A : Nat → Prop} (hts : ∀ w ∈ lw_tbl, w.before #[Value.ref b] s = true) (hgv : (Jvm.Cond.and given_1 narrow_1).before #[Value.ref b] s = true) (hA : ∀ a : Nat, a < s.heap.size → ¬ A a) : ∃ aK aV : Nat → Nat, ∀ X : o_Cx, o_aK X = aK → o_aV X = aV → (∀ q, o_A X q → A q) → o_St X s := by
  obtain ⟨aK, aV, hS, hE⟩ := st_str hgv hA
  refine ⟨aK, aV, ?_⟩
  intro X e1 e2 hX
  have hs := flat_of_before _ hgv
  refine ⟨?_, ?_, ?_, ?_, ?_, ?_⟩
  · rw [e1]; exact vk_R.of (hts _ sw_3_117) (hE 0 (by omega))
  · rw [e1]; exact vk_R.of (hts _ sw_7_81) (hE 1 (by omega))
  · rw [e1, e2]; exact hS.narrow hX
  · exact (va_Zof (hts _ sw_3_127) (hts _ sw_1_17) (va_eqi (hs _ (by decide +kernel))) hA).narrow hX
  · exact va_Nw.of rfl (hts _ sw_4_175)
  · exact (va_Zqof (hts _ sw_3_143) (hts _ sw_1_19) (hs _ (by decide +kernel)) hA).narrow hX
theorem st_nSt {s : State} {b : Nat} (hts : ∀ w ∈ lw_tbl, w.before #[Value.ref b] s = true) : n_St s := by
  refine ⟨?_, ?_⟩
  · exact List.forall_mem_cons.mpr ⟨va_AO.of (hts _ sw_1_31), List.forall_mem_cons.mpr ⟨va_AO.of (hts _ sw_2_2), List.forall_mem_cons.mpr ⟨va_AO.of (hts _ sw_2_3), fun _ h => absurd h List.not_mem_nil⟩⟩⟩
  · exact List.forall_mem_cons.mpr ⟨va_Nw.of rfl (hts _ sw_1_33), List.forall_mem_cons.mpr ⟨va_Nw.of rfl (hts _ sw_1_58), List.forall_mem_cons.mpr ⟨va_Nw.of rfl (hts _ sw_1_64), List.forall_mem_cons.mpr ⟨va_Nw.of rfl (hts _ sw_1_205), List.forall_mem_cons.mpr ⟨va_Nw.of rfl (hts _ sw_2_6), List.forall_mem_cons.mpr ⟨va_Nw.of rfl (hts _ sw_2_97), List.forall_mem_cons.mpr ⟨va_Nw.of rfl (hts _ sw_2_134), List.forall_mem_cons.mpr ⟨va_Nw.of rfl (hts _ sw_2_160), List.forall_mem_cons.mpr ⟨va_Nw.of rfl (hts _ sw_2_165), List.forall_mem_cons.mpr ⟨va_Nw.of rfl (hts _ sw_2_182), fun _ h => absurd h List.not_mem_nil⟩⟩⟩⟩⟩⟩⟩⟩⟩⟩
theorem st_kn {s : State} {b : Nat} (hts : ∀ w ∈ lw_tbl, w.before #[Value.ref b] s = true) : ∃ D : va_G, ∀ (k : Nat) (q : vw_C), vwCl[k]? = some q → u_Kn s q.1 q.2.1 q.2.2 (D.1 k) (D.2 k) := by
  have ho : ∀ w ∈ o_tb, w.before #[Value.ref b] s = true := fun w hw => hts w (o_tb_in hw)
  have h0 : ∀ k : Nat, ∃ x : ClassId × (Nat → Nat), ∀ q : vw_C, vwCl[k]? = some q → u_Kn s q.1 q.2.1 q.2.2 x.1 x.2 := by
    intro k
    match k with
    | 0 =>
      obtain ⟨c, iS, h⟩ := u_known (C := RX0) (T := TX0) (N := 3) (n := 3) ho inX0 (hts _ sw_2_181)
      exact ⟨(c, iS), fun q hq => by cases hq; exact h⟩
    | 1 =>
      obtain ⟨c, iS, h⟩ := u_known (C := RX1) (T := TX1) (N := 6) (n := 6) ho inX1 (hts _ sw_1_63)
      exact ⟨(c, iS), fun q hq => by cases hq; exact h⟩
    | 2 =>
      obtain ⟨c, iS, h⟩ := u_known (C := RX2) (T := TX2) (N := 8) (n := 8) ho inX2 (hts _ sw_2_96)
      exact ⟨(c, iS), fun q hq => by cases hq; exact h⟩
    | 3 =>
      obtain ⟨c, iS, h⟩ := u_known (C := RX3) (T := TX3) (N := 7) (n := 7) ho inX3 (hts _ sw_1_204)
      exact ⟨(c, iS), fun q hq => by cases hq; exact h⟩
    | 4 =>
      obtain ⟨c, iS, h⟩ := u_known (C := RX4) (T := TX4) (N := 12) (n := 12) ho inX4 (hts _ sw_2_5)
      exact ⟨(c, iS), fun q hq => by cases hq; exact h⟩
    | 5 =>
      obtain ⟨c, iS, h⟩ := u_known (C := RX5) (T := TX5) (N := 4) (n := 4) ho inX5 (hts _ sw_2_159)
      exact ⟨(c, iS), fun q hq => by cases hq; exact h⟩
    | 6 =>
      obtain ⟨c, iS, h⟩ := u_known (C := RX6) (T := TX6) (N := 5) (n := 5) ho inX6 (hts _ sw_2_133)
      exact ⟨(c, iS), fun q hq => by cases hq; exact h⟩
    | 7 =>
      obtain ⟨c, iS, h⟩ := u_known (C := RX7) (T := TX7) (N := 4) (n := 4) ho inX7 (hts _ sw_1_32)
      exact ⟨(c, iS), fun q hq => by cases hq; exact h⟩
    | 8 =>
      obtain ⟨c, iS, h⟩ := u_known (C := RX8) (T := TX8) (N := 18) (n := 18) ho inX8 (hts _ sw_1_57)
      exact ⟨(c, iS), fun q hq => by cases hq; exact h⟩
    | 9 =>
      obtain ⟨c, iS, h⟩ := u_known (C := RX9) (T := TX9) (N := 3) (n := 3) ho inX9 (hts _ sw_2_58)
      exact ⟨(c, iS), fun q hq => by cases hq; exact h⟩
    | 10 =>
      obtain ⟨c, iS, h⟩ := u_known (C := RX10) (T := TX10) (N := 5) (n := 5) ho inX10 (hts _ sw_2_74)
      exact ⟨(c, iS), fun q hq => by cases hq; exact h⟩
    | 11 =>
      obtain ⟨c, iS, h⟩ := u_known (C := RX11) (T := TX11) (N := 19) (n := 19) ho inX11 (hts _ sw_1_23)
      exact ⟨(c, iS), fun q hq => by cases hq; exact h⟩
    | 12 =>
      obtain ⟨c, iS, h⟩ := u_known (C := RX12) (T := TX12) (N := 39) (n := 39) ho inX12 (hts _ sw_6_107)
      exact ⟨(c, iS), fun q hq => by cases hq; exact h⟩
    | k + 13 => exact ⟨(default, fun _ => 0), fun q hq => by simp [vwCl] at hq⟩
  obtain ⟨f, hf⟩ := Classical.axiomOfChoice h0
  exact ⟨(fun k => (f k).1, fun k => (f k).2), fun k q hq => hf k q hq⟩
theorem st_ar {s : State} {b : Nat} (hts : ∀ w ∈ lw_tbl, w.before #[Value.ref b] s = true) : ∃ cA : Nat → ClassId, ∀ (k : Nat) (q : ClassId × FieldType), ([(cA 0, .int), (cA 1, .byte), (cA 2, .long), (cA 3, .object "OddCancel$Tray"), (cA 4, .object "OddCancel$Valley"), (cA 5, .object "OddCancel$Plan")] : List (ClassId × FieldType))[k]? = some q → ArrOfT s q.1 q.2 ∧ va_RA s q.1 q.2 := by
  obtain ⟨c0, h0⟩ := st_AC (hts _ sw_1_108) (fun C h => by cases h)
  obtain ⟨c1, h1⟩ := st_AC (hts _ sw_2_56) (fun C h => by cases h)
  obtain ⟨c2, h2⟩ := st_AC (hts _ sw_1_55) (fun C h => by cases h)
  obtain ⟨c3, h3⟩ := st_AO (va_AO.of (hts _ sw_1_31))
  obtain ⟨c4, h4⟩ := st_AO (va_AO.of (hts _ sw_2_2))
  obtain ⟨c5, h5⟩ := st_AO (va_AO.of (hts _ sw_2_3))
  refine ⟨fun t => [c0, c1, c2, c3, c4, c5].getD t c0, ?_⟩
  intro k q hq
  match k, hq with
  | 0, hq => cases hq; exact h0
  | 1, hq => cases hq; exact h1
  | 2, hq => cases hq; exact h2
  | 3, hq => cases hq; exact h3
  | 4, hq => cases hq; exact h4
  | 5, hq => cases hq; exact h5
  | k + 6, hq => simp at hq
