/-! ===== the law, and what the skeleton has of it ===== -/
/-! THE CLAIM OUT OF ONE WALK OF THE LAW'S BODY. Your part is whole_start (and what it stands on); all else here is the same for every law, but numbers. -/
def R_law : String := "OddCancelLaw"
def lw_P (b : Addr) (xs : List Int32) (args : Array Value) (s : State) : Prop := args = #[.ref b] ∧ s.IntsAt b xs ∧ xs.length ≤ 3072 ∧ (Jvm.Cond.and given_1 narrow_1).before args s = true
def lw_Q (_ : Array Value) (s : State) (o : Outcome) (t : State) : Prop := o = .returned (some (.int 1)) ∧ Framed s o t [] 600000 7302250
def lw_Z (below : List Frame) (a : Array Value) (s : State) : State → Prop := fun t => ∃ o, t.status = .running ∧ Ended t below o ∧ lw_Q a s o t
/-- the law's own end, with 1 on the stack, nothing written that was there before, its room as the claim has it -/
theorem lw_ret {p : Program} {l : Launch} {e : Env} {s : State} {m : MethodId} {below : List Frame} {meth : Method} {c : Code} {b : Nat} (hx : p.tables.exec = Jvm.exec) (hb : c.code = code) (hr : meth.sig.returnType = ret) (hlocks : meth.locks = false) {pc : Nat} {H : Heap} {ls : Array Slot} (hdg : decode code pc = .ok (.ireturn, 1)) : W p l e room_1 s m #[Value.ref b] below meth c H [] 600000 7302250 (lw_Z below #[Value.ref b] s) (F0 m pc ls [.int 1]) := by
  intro T hT X
  obtain ⟨fs, hret, hrun, hended, hW, hframe⟩ := X.leave (v := some (.int 1)) (hlocks := hlocks) (fun h => by rw [hr] at h; cases h)
  have hmeth' : T.vm.method? m = some meth := X.method'
  refine ⟨T.setFrames fs, ?_, .returned (some (.int 1)), hrun, hended, rfl, ⟨_, rfl⟩, hW, hframe⟩
  jvm_step X.here [X.here.top, hx, hb, hdg, hmeth', hr, ret, narrow_b1]
  (try refine ⟨rfl, ?_⟩); (try refine ⟨rfl, ?_⟩)
  first | (intro acts; rw [hret _ acts rfl rfl rfl]) | rw [hret _ _ rfl rfl rfl]
  exact Steps.refl _
/-- what holds at the law's entry: the machine, the code, the tables' words (any of lw_tbl by 'hts w (by decide +kernel)'), the script of L ints xs at the cell b, what the Statement gives of the start (any of its parts by flat_of_before) -/
def lw_At (p : Program) (s : State) (m : MethodId) (meth : Method) (c : Code) (b L : Nat) (xs : Nat → Int32) : Prop :=
  p.tables.exec = Jvm.exec ∧ c.code = code ∧ meth.sig.returnType = ret ∧ c.maxLocals = 4 ∧ s.vm.findClass R_law = some m.cls ∧ (∀ w ∈ lw_tbl, w.before #[Value.ref b] s = true) ∧ va_X b L xs s s.heap ∧ b < s.heap.size ∧ meth.locks = false ∧ (Jvm.Cond.and given_1 narrow_1).before #[Value.ref b] s = true
abbrev lx_K : Type := Launch × va_G × (Nat → ClassId) × (Nat → Nat) × (Nat → Nat) × Nat
abbrev lx_b (K : lx_K) : Nat := K.2.2.2.2.2
/-- the class's world and the reference's: the class's cells from b on, the reference's behind them -/
abbrev xC (K : lx_K) : o_Cx := (K.1, K.2.1, K.2.2.1, fun i => lx_b K + i, fun q => lx_b K ≤ q ∧ q < lx_b K + 159, K.2.2.2.1, K.2.2.2.2.1, wdC)
abbrev xM (K : lx_K) : o_Cx := (K.1, K.2.1, K.2.2.1, fun i => lx_b K + 159 + i, fun q => lx_b K + 159 ≤ q ∧ q < lx_b K + 178, K.2.2.2.1, K.2.2.2.2.1, wdM)
theorem xC_ok (K : lx_K) : o_ok (xC K) := okC rfl (fun i j _ _ h => by have h' : lx_b K + i = lx_b K + j := h; omega) (fun i hi => by show lx_b K ≤ lx_b K + i ∧ lx_b K + i < lx_b K + 159; omega)
theorem xM_ok (K : lx_K) : o_ok (xM K) := okM rfl (fun i j _ _ h => by have h' : lx_b K + 159 + i = lx_b K + 159 + j := h; omega) (fun i hi => by show lx_b K + 159 ≤ lx_b K + 159 + i ∧ lx_b K + 159 + i < lx_b K + 178; omega)
theorem xC_0 (K : lx_K) : o_is (xC K) 0 (.inl 11) := ⟨by show 0 < 159; omega, rfl⟩
theorem xM_0 (K : lx_K) : o_is (xM K) 0 (.inl 12) := ⟨by show 0 < 19; omega, rfl⟩
def lq_Fr (K : lx_K) (p : Program) (s : State) (m : MethodId) (meth : Method) (c : Code) (b L : Nat) (xs : Nat → Int32) : Prop := lw_At p s m meth c b L xs ∧ L ≤ 3072 ∧ s.heap.size = lx_b K ∧ va_K K.2.1 vwCl (o_tys (xC K)) s ∧ o_St (xC K) s ∧ o_St (xM K) s
/-- the law's frame at pc, with both objects' memories, comes to its end with true -/
def lq_Ev (K : lx_K) (pc i b L : Nat) (xs : Nat → Int32) (st : List Value) (μC μM : o_Mem) : Prop :=
  ∀ (p : Program) (e : Env) (s : State) (m : MethodId) (below : List Frame) (meth : Method) (c : Code) (H : Heap) (locs : List Loc) (ls : Array Slot),
    lq_Fr K p s m meth c b L xs → va_P K.2.1 vwCl (o_ws (xC K) μC) H → va_P K.2.1 vwCl (o_ws (xM K) μM) H → va_S (fun q => s.heap.size ≤ q) s.heap H locs → lv_has ls 4 [(0, .ref b), (1, .ref (lx_b K)), (2, .ref (lx_b K + 159)), (3, .int (nI i))] →
    W p K.1 e room_1 s m #[Value.ref b] below meth c H locs 600000 7302250 (lw_Z below #[Value.ref b] s) (F0 m pc ls st)
theorem lq_iald0 {p : Program} {l : Launch} {e : Env} {R : Room} {s : State} {m : MethodId} {args : Array Value} {below : List Frame} {meth : Method} {c : Code} {H : Heap} {locs : List Loc} {pc b L y k sl : Nat} {xs : Nat → Int32} {x : Int32} {ls : Array Slot} {rest : List Value} {Q : State → Prop} (hx : p.tables.exec = Jvm.exec) (hb : c.code = code) (hX : va_X b L xs s s.heap) (hbl : b < s.heap.size) (hS : va_S (fun q => s.heap.size ≤ q) s.heap H locs) (hL : L ≤ 3072) (hx0 : x = nI y) (hy : y < L) (hd : decode code pc = .ok (.iaload, 1)) (kk : W p l e R s m args below meth c H locs k sl Q (F0 m (pc + 1) ls (.int (xs y) :: rest))) : W p l e R s m args below meth c H locs k sl Q (F0 m pc ls (.int x :: .ref b :: rest)) := by
  subst hx0
  refine va_sld hx hb hX hbl (Nat.not_le.mpr hbl) hS (vp_in_nI hy (by omega)) hd ?_
  rw [nI_clamp (by omega)]
  exact kk
section lQ
variable {K : lx_K} {pc i b L : Nat} {xs : Nat → Int32} {st rest : List Value} {μC μM : o_Mem}
theorem lq_a0 (hd : decode code pc = .ok (.aload_n 0, 1)) (k : lq_Ev K (pc + 1) i b L xs (.ref b :: rest) μC μM) : lq_Ev K pc i b L xs (rest) μC μM := by
  intro p e s m below meth c H locs ls F h1 h2 hS hl
  obtain ⟨⟨hx, hb, hr, hml, hown, hts, hX, hbl, hlocks, hgv⟩, hL, hz, hK, hC, hM⟩ := id F
  exact lv_aload_n hx hb hd rfl (lv_at hl 0 rfl) (k p e s m below meth c H locs ls F h1 h2 hS hl)
theorem lq_a1 (hd : decode code pc = .ok (.aload_n 1, 1)) (k : lq_Ev K (pc + 1) i b L xs (.ref (lx_b K) :: rest) μC μM) : lq_Ev K pc i b L xs (rest) μC μM := by
  intro p e s m below meth c H locs ls F h1 h2 hS hl
  obtain ⟨⟨hx, hb, hr, hml, hown, hts, hX, hbl, hlocks, hgv⟩, hL, hz, hK, hC, hM⟩ := id F
  exact lv_aload_n hx hb hd rfl (lv_at hl 1 rfl) (k p e s m below meth c H locs ls F h1 h2 hS hl)
theorem lq_a2 (hd : decode code pc = .ok (.aload_n 2, 1)) (k : lq_Ev K (pc + 1) i b L xs (.ref (lx_b K + 159) :: rest) μC μM) : lq_Ev K pc i b L xs (rest) μC μM := by
  intro p e s m below meth c H locs ls F h1 h2 hS hl
  obtain ⟨⟨hx, hb, hr, hml, hown, hts, hX, hbl, hlocks, hgv⟩, hL, hz, hK, hC, hM⟩ := id F
  exact lv_aload_n hx hb hd rfl (lv_at hl 2 rfl) (k p e s m below meth c H locs ls F h1 h2 hS hl)
theorem lq_i3 (hd : decode code pc = .ok (.iload_n 3, 1)) (k : lq_Ev K (pc + 1) i b L xs (.int (nI i) :: rest) μC μM) : lq_Ev K pc i b L xs (rest) μC μM := by
  intro p e s m below meth c H locs ls F h1 h2 hS hl
  obtain ⟨⟨hx, hb, hr, hml, hown, hts, hX, hbl, hlocks, hgv⟩, hL, hz, hK, hC, hM⟩ := id F
  exact lv_iload_n hx hb hd rfl (lv_at hl 3 rfl) (k p e s m below meth c H locs ls F h1 h2 hS hl)
theorem lq_iconst {n : Int} {v : Int32} (hd : decode code pc = .ok (.iconst n, 1)) (hv : Int32.ofInt n = v) (k : lq_Ev K (pc + 1) i b L xs (.int v :: rest) μC μM) : lq_Ev K pc i b L xs (rest) μC μM := by
  intro p e s m below meth c H locs ls F h1 h2 hS hl
  obtain ⟨⟨hx, hb, hr, hml, hown, hts, hX, hbl, hlocks, hgv⟩, hL, hz, hK, hC, hM⟩ := id F
  exact lv_iconst hx hb hd hv (k p e s m below meth c H locs ls F h1 h2 hS hl)
theorem lq_bipush {n : Int} {v : Int32} (hd : decode code pc = .ok (.bipush n, 2)) (hv : (Int8.ofInt n).toInt32 = v) (k : lq_Ev K (pc + 2) i b L xs (.int v :: rest) μC μM) : lq_Ev K pc i b L xs (rest) μC μM := by
  intro p e s m below meth c H locs ls F h1 h2 hS hl
  obtain ⟨⟨hx, hb, hr, hml, hown, hts, hX, hbl, hlocks, hgv⟩, hL, hz, hK, hC, hM⟩ := id F
  exact lv_bipush hx hb hd hv (k p e s m below meth c H locs ls F h1 h2 hS hl)
theorem lq_iadd {x y : Int32} (hd : decode code pc = .ok (.iadd, 1)) (k : lq_Ev K (pc + 1) i b L xs (.int (x + y) :: rest) μC μM) : lq_Ev K pc i b L xs (.int y :: .int x :: rest) μC μM := by
  intro p e s m below meth c H locs ls F h1 h2 hS hl
  obtain ⟨⟨hx, hb, hr, hml, hown, hts, hX, hbl, hlocks, hgv⟩, hL, hz, hK, hC, hM⟩ := id F
  exact lv_iadd hx hb hd (k p e s m below meth c H locs ls F h1 h2 hS hl)
theorem lq_isub {x y : Int32} (hd : decode code pc = .ok (.isub, 1)) (k : lq_Ev K (pc + 1) i b L xs (.int (x - y) :: rest) μC μM) : lq_Ev K pc i b L xs (.int y :: .int x :: rest) μC μM := by
  intro p e s m below meth c H locs ls F h1 h2 hS hl
  obtain ⟨⟨hx, hb, hr, hml, hown, hts, hX, hbl, hlocks, hgv⟩, hL, hz, hK, hC, hM⟩ := id F
  exact lv_isub hx hb hd (k p e s m below meth c H locs ls F h1 h2 hS hl)
theorem lq_iand {x y : Int32} (hd : decode code pc = .ok (.iand, 1)) (k : lq_Ev K (pc + 1) i b L xs (.int (x &&& y) :: rest) μC μM) : lq_Ev K pc i b L xs (.int y :: .int x :: rest) μC μM := by
  intro p e s m below meth c H locs ls F h1 h2 hS hl
  obtain ⟨⟨hx, hb, hr, hml, hown, hts, hX, hbl, hlocks, hgv⟩, hL, hz, hK, hC, hM⟩ := id F
  exact lv_iand hx hb hd (k p e s m below meth c H locs ls F h1 h2 hS hl)
theorem lq_i2l {x : Int32} (hd : decode code pc = .ok (.i2l, 1)) (k : lq_Ev K (pc + 1) i b L xs (.long x.toInt64 :: rest) μC μM) : lq_Ev K pc i b L xs (.int x :: rest) μC μM := by
  intro p e s m below meth c H locs ls F h1 h2 hS hl
  obtain ⟨⟨hx, hb, hr, hml, hown, hts, hX, hbl, hlocks, hgv⟩, hL, hz, hK, hC, hM⟩ := id F
  exact lv_i2l hx hb hd rfl (k p e s m below meth c H locs ls F h1 h2 hS hl)
theorem lq_land {x y : Int64} (hd : decode code pc = .ok (.land, 1)) (k : lq_Ev K (pc + 1) i b L xs (.long (x &&& y) :: rest) μC μM) : lq_Ev K pc i b L xs (.long y :: .long x :: rest) μC μM := by
  intro p e s m below meth c H locs ls F h1 h2 hS hl
  obtain ⟨⟨hx, hb, hr, hml, hown, hts, hX, hbl, hlocks, hgv⟩, hL, hz, hK, hC, hM⟩ := id F
  exact lv_land hx hb hd (k p e s m below meth c H locs ls F h1 h2 hS hl)
theorem lq_lor {x y : Int64} (hd : decode code pc = .ok (.lor, 1)) (k : lq_Ev K (pc + 1) i b L xs (.long (x ||| y) :: rest) μC μM) : lq_Ev K pc i b L xs (.long y :: .long x :: rest) μC μM := by
  intro p e s m below meth c H locs ls F h1 h2 hS hl
  obtain ⟨⟨hx, hb, hr, hml, hown, hts, hX, hbl, hlocks, hgv⟩, hL, hz, hK, hC, hM⟩ := id F
  exact lv_lor hx hb hd (k p e s m below meth c H locs ls F h1 h2 hS hl)
theorem lq_lshl {x : Int64} {y : Int32} (hd : decode code pc = .ok (.lshl, 1)) (k : lq_Ev K (pc + 1) i b L xs (.long (x <<< (y.toInt64 &&& 63)) :: rest) μC μM) : lq_Ev K pc i b L xs (.int y :: .long x :: rest) μC μM := by
  intro p e s m below meth c H locs ls F h1 h2 hS hl
  obtain ⟨⟨hx, hb, hr, hml, hown, hts, hX, hbl, hlocks, hgv⟩, hL, hz, hK, hC, hM⟩ := id F
  exact lv_lshl hx hb hd rfl (k p e s m below meth c H locs ls F h1 h2 hS hl)
theorem lq_lcmp {x y : Int64} (hd : decode code pc = .ok (.lcmp, 1)) (k : lq_Ev K (pc + 1) i b L xs (.int (lg_cmp x y) :: rest) μC μM) : lq_Ev K pc i b L xs (.long y :: .long x :: rest) μC μM := by
  intro p e s m below meth c H locs ls F h1 h2 hS hl
  obtain ⟨⟨hx, hb, hr, hml, hown, hts, hX, hbl, hlocks, hgv⟩, hL, hz, hK, hC, hM⟩ := id F
  exact W.lcmp hx hb hd (k p e s m below meth c H locs ls F h1 h2 hS hl)
theorem lq_ldc2 {index : Nat} {v : Int64} (hd : decode code pc = .ok (.ldc2_w index, 3)) (hw : Cond.constantLong R_law index v ∈ o_tb) (k : lq_Ev K (pc + 3) i b L xs (.long v :: rest) μC μM) : lq_Ev K pc i b L xs (rest) μC μM := by
  intro p e s m below meth c H locs ls F h1 h2 hS hl
  obtain ⟨⟨hx, hb, hr, hml, hown, hts, hX, hbl, hlocks, hgv⟩, hL, hz, hK, hC, hM⟩ := id F
  exact lv_ldc2 hx hb hown (hts _ (o_tb_in hw)) hd (k p e s m below meth c H locs ls F h1 h2 hS hl)
theorem lq_len (hd : decode code pc = .ok (.arraylength, 1)) (k : lq_Ev K (pc + 1) i b L xs (.int (nI L) :: rest) μC μM) : lq_Ev K pc i b L xs (.ref b :: rest) μC μM := by
  intro p e s m below meth c H locs ls F h1 h2 hS hl
  obtain ⟨⟨hx, hb, hr, hml, hown, hts, hX, hbl, hlocks, hgv⟩, hL, hz, hK, hC, hM⟩ := id F
  exact va_slen hx hb hX hbl (Nat.not_le.mpr hbl) hS hd (k p e s m below meth c H locs ls F h1 h2 hS hl)
theorem lq_iald {x : Int32} {y : Nat} (hd : decode code pc = .ok (.iaload, 1)) (hx0 : x = nI y) (hy : y < L) (k : lq_Ev K (pc + 1) i b L xs (.int (xs y) :: rest) μC μM) : lq_Ev K pc i b L xs (.int x :: .ref b :: rest) μC μM := by
  intro p e s m below meth c H locs ls F h1 h2 hS hl
  obtain ⟨⟨hx, hb, hr, hml, hown, hts, hX, hbl, hlocks, hgv⟩, hL, hz, hK, hC, hM⟩ := id F
  exact lq_iald0 hx hb hX hbl hS hL hx0 hy hd (k p e s m below meth c H locs ls F h1 h2 hS hl)
theorem lq_eq {x y : Int32} {off : Int} {tgt : Nat} (hd : decode code pc = .ok (.if_icmp .eq off, 3)) (ht : (pc : Int) + off = (tgt : Int)) (h : x = y) (k : lq_Ev K tgt i b L xs rest μC μM) : lq_Ev K pc i b L xs (.int y :: .int x :: rest) μC μM := by
  intro p e s m below meth c H locs ls F h1 h2 hS hl
  exact lv_icmp_eq F.1.1 F.1.2.1 hd ht (fun _ => k p e s m below meth c H locs ls F h1 h2 hS hl) (fun z => absurd h z)
theorem lq_if {x : Int32} {off : Int} {tgt : Nat} (hd : decode code pc = .ok (.ifCond .eq off, 3)) (ht : (pc : Int) + off = (tgt : Int)) (k1 : x = 0 → lq_Ev K tgt i b L xs rest μC μM) (k2 : ¬ x = 0 → lq_Ev K (pc + 3) i b L xs rest μC μM) : lq_Ev K pc i b L xs (.int x :: rest) μC μM := by
  intro p e s m below meth c H locs ls F h1 h2 hS hl
  exact lv_if_eq F.1.1 F.1.2.1 hd ht (fun h => k1 h p e s m below meth c H locs ls F h1 h2 hS hl) (fun h => k2 h p e s m below meth c H locs ls F h1 h2 hS hl)
theorem lq_gt {x y : Int32} {off : Int} {tgt : Nat} (hd : decode code pc = .ok (.if_icmp .gt off, 3)) (ht : (pc : Int) + off = (tgt : Int)) (k1 : y < x → lq_Ev K tgt i b L xs rest μC μM) (k2 : ¬ y < x → lq_Ev K (pc + 3) i b L xs rest μC μM) : lq_Ev K pc i b L xs (.int y :: .int x :: rest) μC μM := by
  intro p e s m below meth c H locs ls F h1 h2 hS hl
  exact lv_icmp_gt F.1.1 F.1.2.1 hd ht (fun h => k1 h p e s m below meth c H locs ls F h1 h2 hS hl) (fun h => k2 h p e s m below meth c H locs ls F h1 h2 hS hl)
theorem lq_goto {off : Int} {tgt : Nat} (hd : decode code pc = .ok (.goto off, 3)) (ht : (pc : Int) + off = (tgt : Int)) (k : lq_Ev K tgt i b L xs st μC μM) : lq_Ev K pc i b L xs st μC μM := by
  intro p e s m below meth c H locs ls F h1 h2 hS hl
  exact lv_goto F.1.1 F.1.2.1 hd ht (k p e s m below meth c H locs ls F h1 h2 hS hl)
theorem lq_tabOut {dflt lo hi : Int} {offs : Array Int} {len : Nat} {x : Int32} {tgt : Nat} (hd : decode code pc = .ok (.tableswitch dflt lo hi offs, len)) (h : x.toInt < lo ∨ hi < x.toInt) (ht : (pc : Int) + dflt = (tgt : Int)) (k : lq_Ev K tgt i b L xs rest μC μM) : lq_Ev K pc i b L xs (.int x :: rest) μC μM := by
  intro p e s m below meth c H locs ls F h1 h2 hS hl
  exact lv_tableOut F.1.1 F.1.2.1 hd h ht (k p e s m below meth c H locs ls F h1 h2 hS hl)
theorem lq_tabIn {dflt lo hi : Int} {offs : Array Int} {len : Nat} {x : Int32} {off : Int} {tgt : Nat} (hd : decode code pc = .ok (.tableswitch dflt lo hi offs, len)) (h1 : ¬ x.toInt < lo) (h2 : ¬ hi < x.toInt) (ho : offs[(x.toInt - lo).toNat]? = some off) (ht : (pc : Int) + off = (tgt : Int)) (k : lq_Ev K tgt i b L xs rest μC μM) : lq_Ev K pc i b L xs (.int x :: rest) μC μM := by
  intro p e s m below meth c H locs ls F g1 g2 hS hl
  exact lv_tableIn F.1.1 F.1.2.1 hd h1 h2 ho ht (k p e s m below meth c H locs ls F g1 g2 hS hl)
theorem lq_iinc (hd : decode code pc = .ok (.iinc 3 6, 3)) (k : lq_Ev K (pc + 3) (i + 6) b L xs st μC μM) : lq_Ev K pc i b L xs st μC μM := by
  intro p e s m below meth c H locs ls F h1 h2 hS hl
  exact lv_iinc (v := nI (i + 6)) (lv' := [(3, .int (nI (i + 6))), (0, .ref b), (1, .ref (lx_b K)), (2, .ref (lx_b K + 159))]) F.1.1 F.1.2.1 hd hl (k := 3) rfl (by rw [← nI_add]; rfl) (by decide) rfl (fun ls' hl' => k p e s m below meth c H locs ls' F h1 h2 hS (lv_sub hl' [1, 2, 3, 0] rfl))
theorem lq_end (hd1 : decode code pc = .ok (.iconst 1, 1)) (hd2 : decode code (pc + 1) = .ok (.ireturn, 1)) : lq_Ev K pc i b L xs [] μC μM := by
  intro p e s m below meth c H locs ls F h1 h2 hS hl
  obtain ⟨⟨hx, hb, hr, hml, hown, hts, hX, hbl, hlocks, hgv⟩, hL, hz, hK, hC, hM⟩ := id F
  refine lv_iconst (v := 1) hx hb hd1 (by decide) ?_
  refine va_forget (fun q hq => hS.2.2 q hq) ?_
  exact lw_ret hx hb hr hlocks hd2
/-- five instructions: the script's number at i + j -/
theorem lq_ld {j : Nat} {n : Int} {v : Int32} (hi : i + j < L) (hL : L ≤ 3072) (hn : Int32.ofInt n = v) (hv : v = nI j) (d1 : decode code pc = .ok (.aload_n 0, 1)) (d2 : decode code (pc + 1) = .ok (.iload_n 3, 1)) (d3 : decode code (pc + 2) = .ok (.iconst n, 1)) (d4 : decode code (pc + 3) = .ok (.iadd, 1)) (d5 : decode code (pc + 4) = .ok (.iaload, 1)) (k : lq_Ev K (pc + 5) i b L xs (.int (xs (i + j)) :: rest) μC μM) : lq_Ev K pc i b L xs rest μC μM := by
  refine lq_a0 d1 (lq_i3 d2 (lq_iconst d3 hn (lq_iadd d4 (lq_iald d5 (y := i + j) ?_ hi k))))
  rw [hv, nI_add]
end lQ
