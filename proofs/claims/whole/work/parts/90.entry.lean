/-! ===== the law, from its entry ===== -/
theorem w_1_22 : (Jvm.Cond.classLink "OddCancelLaw" (7 : Nat) "OddCancel") ∈ o_tb := o_tb_of (lw_t1 (List.mem_of_getElem? (i := 22) rfl)) rfl
theorem w_1_23 : (Jvm.Cond.instantiable "OddCancel" (19 : Nat)) ∈ o_tb := o_tb_of (lw_t1 (List.mem_of_getElem? (i := 23) rfl)) rfl
theorem w_1_24 : (Jvm.Cond.methodLink "OddCancelLaw" (9 : Nat) ({ cls := "OddCancel", name := "<init>", desc := "()V" } : Jvm.MethodName)) ∈ o_tb := o_tb_of (lw_t1 (List.mem_of_getElem? (i := 24) rfl)) rfl
theorem w_1_25 : (Jvm.Cond.instanceMethod ({ cls := "OddCancel", name := "<init>", desc := "()V" } : Jvm.MethodName)) ∈ o_tb := o_tb_of (lw_t1 (List.mem_of_getElem? (i := 25) rfl)) rfl
theorem w_6_106 : (Jvm.Cond.classLink "OddCancelLaw" (10 : Nat) "OddCancelModel") ∈ o_tb := o_tb_of (lw_t6 (List.mem_of_getElem? (i := 106) rfl)) rfl
theorem w_6_107 : (Jvm.Cond.instantiable "OddCancelModel" (39 : Nat)) ∈ o_tb := o_tb_of (lw_t6 (List.mem_of_getElem? (i := 107) rfl)) rfl
theorem w_6_108 : (Jvm.Cond.methodLink "OddCancelLaw" (12 : Nat) ({ cls := "OddCancelModel", name := "<init>", desc := "()V" } : Jvm.MethodName)) ∈ o_tb := o_tb_of (lw_t6 (List.mem_of_getElem? (i := 108) rfl)) rfl
theorem w_6_109 : (Jvm.Cond.instanceMethod ({ cls := "OddCancelModel", name := "<init>", desc := "()V" } : Jvm.MethodName)) ∈ o_tb := o_tb_of (lw_t6 (List.mem_of_getElem? (i := 109) rfl)) rfl
theorem nwL_7 : n_NW R_law 7 11 19 [.int 0, .long 0, .long 0, .null, .null, .null, .null, .null, .null, .null, .int 0, .null, .null, .null, .null, .null, .null, .null, .null] := ⟨_, TX11, tyX11, rfl, inX11, tyX11_ok, w_1_22, w_1_23, w_1_1, fun j hj => by rcases (show j = 0 ∨ j = 1 ∨ j = 2 ∨ j = 3 ∨ j = 4 ∨ j = 5 ∨ j = 6 ∨ j = 7 ∨ j = 8 ∨ j = 9 ∨ j = 10 ∨ j = 11 ∨ j = 12 ∨ j = 13 ∨ j = 14 ∨ j = 15 ∨ j = 16 ∨ j = 17 ∨ j = 18 by omega) with rfl | rfl | rfl | rfl | rfl | rfl | rfl | rfl | rfl | rfl | rfl | rfl | rfl | rfl | rfl | rfl | rfl | rfl | rfl <;> rfl⟩
theorem nwL_10 : n_NW R_law 10 12 39 [.null, .null, .int 0, .long 0, .long 0, .null, .null, .null, .null, .null, .int 0, .int 0, .int 0, .int 0, .int 0, .int 0, .int 0, .int 0, .int 0, .int 0, .int 0, .null, .int 0, .int 0, .null, .null, .null, .null, .null, .null, .null, .int 0, .int 0, .int 0, .null, .null, .null, .int 0, .int 0] := ⟨_, TX12, tyX12, rfl, inX12, tyX12_ok, w_6_106, w_6_107, w_1_13, fun j hj => by rcases (show j = 0 ∨ j = 1 ∨ j = 2 ∨ j = 3 ∨ j = 4 ∨ j = 5 ∨ j = 6 ∨ j = 7 ∨ j = 8 ∨ j = 9 ∨ j = 10 ∨ j = 11 ∨ j = 12 ∨ j = 13 ∨ j = 14 ∨ j = 15 ∨ j = 16 ∨ j = 17 ∨ j = 18 ∨ j = 19 ∨ j = 20 ∨ j = 21 ∨ j = 22 ∨ j = 23 ∨ j = 24 ∨ j = 25 ∨ j = 26 ∨ j = 27 ∨ j = 28 ∨ j = 29 ∨ j = 30 ∨ j = 31 ∨ j = 32 ∨ j = 33 ∨ j = 34 ∨ j = 35 ∨ j = 36 ∨ j = 37 ∨ j = 38 by omega) with rfl | rfl | rfl | rfl | rfl | rfl | rfl | rfl | rfl | rfl | rfl | rfl | rfl | rfl | rfl | rfl | rfl | rfl | rfl | rfl | rfl | rfl | rfl | rfl | rfl | rfl | rfl | rfl | rfl | rfl | rfl | rfl | rfl | rfl | rfl | rfl | rfl | rfl | rfl <;> rfl⟩
theorem st_all {p : Program} {s : State} {m : MethodId} {meth : Method} {c : Code} {b L : Nat} {xs : Nat → Int32} (l : Launch) (C0 : lw_At p s m meth c b L xs) : ∃ K : lx_K, K.1 = l ∧ s.heap.size = lx_b K ∧ va_K K.2.1 vwCl (o_tys (xC K)) s ∧ o_St (xC K) s ∧ o_St (xM K) s ∧ o_St (xS K) s ∧ o_St (xT K) s ∧ n_St s := by
  obtain ⟨hx, hb, hr, hml, hown, hts, hX, hbl, hlocks, hgv⟩ := C0
  obtain ⟨D, hD⟩ := st_kn hts
  obtain ⟨cA, hcA⟩ := st_ar hts
  obtain ⟨aK, aV, hS⟩ := st_St (A := fun q => s.heap.size ≤ q) hts hgv (fun a ha => Nat.not_le.mpr ha)
  exact ⟨(l, D, cA, aK, aV, s.heap.size), rfl, rfl, ⟨hD, hcA⟩, hS _ rfl rfl (fun q hq => hq.1), hS _ rfl rfl (fun q hq => Nat.le_trans (Nat.le_add_right _ _) hq.1), hS _ rfl rfl (fun q hq => hq), hS _ rfl rfl (fun q hq => Nat.le_trans (Nat.le_add_right s.heap.size 159) hq), st_nSt hts⟩
section lZ
variable {p : Program} {l : Launch} {e : Env} {s : State} {m : MethodId} {below : List Frame} {meth : Method} {c : Code} {b : Nat} {H : Heap} {locs : List Loc} {k sl pc : Nat} {Q : State → Prop} {ls : Array Slot} {rest : List Value}
theorem lz_new {D : va_G} {tys : List (ClassId × FieldType)} {cs : List va_E} {B idx ci N q : Nat} {fs : List Value} (hB : s.heap.size = B) (hx : p.tables.exec = Jvm.exec) (hb : c.code = code) (hts : ∀ w ∈ o_tb, w.before #[Value.ref b] s = true) (hown : s.vm.findClass R_law = some m.cls) (hK : va_K D vwCl tys s) (h : n_NW R_law idx ci N fs) (hd : decode code pc = .ok (.new idx, 3)) (hP : va_P D vwCl (n_ws B cs) H) (hS : va_S (fun q => s.heap.size ≤ q) s.heap H locs) (hn : k = cs.length) (hk : k + 1 ≤ 600000) (hsl : sl + N ≤ 7302250) (hq : B + cs.length = q)
    (kk : ∀ H1 : Heap, va_P D vwCl (n_ws B (cs ++ [.inr (ci, fs)])) H1 → va_S (fun q => s.heap.size ≤ q) s.heap H1 locs → H1.size = q + 1 → W p l e room_1 s m #[Value.ref b] below meth c H1 locs (k + 1) (sl + N) Q (F0 m (pc + 3) ls (.ref q :: rest))) : W p l e room_1 s m #[Value.ref b] below meth c H locs k sl Q (F0 m pc ls rest) := by
  subst hB
  subst hq
  obtain ⟨C, T, ty, hc, hin, hty, hcl, hinst, hini, hfs⟩ := h
  refine va_new (Ts := o_tb) (A := fun q => s.heap.size ≤ q) hx hb hts hin ty hty hown (hts _ hcl) (hts _ hinst) (hts _ hini) hK hP (n_D fun q hq => hq) hS (fun q hq => hq) hc hfs hk hsl hd (fun q H1 hP1 hD1 hS1 => ?_)
  intro T1 hT St
  have hq := n_addr (n0 := 0) (b := s.heap.size) hP1 hD1 (fun q => Iff.rfl) hT St rfl (by omega)
  subst hq
  rw [n_app] at hP1
  have hz := n_size (n0 := 0) (b := s.heap.size) hP1 hT St rfl (by rw [List.length_append]; show 0 + (k + 1) = cs.length + 1; omega) (by rw [List.length_append]; show 0 < cs.length + 1; omega)
  rw [List.length_append] at hz
  exact kk H1 hP1 hS1 hz T1 hT St
theorem lz_init {X : o_Cx} {C : o_M} {B d idx a mc' ms' : Nat} {cs fin1 : List va_E} {L0 : List (Option Value)} (hx : p.tables.exec = Jvm.exec) (hb : c.code = code) (hml : c.maxLocals = 4) (hts : ∀ w ∈ o_tb, w.before #[Value.ref b] s = true) (hown : s.vm.findClass R_law = some m.cls) (hK : va_K (o_D X) vwCl (o_tys X) s) (hSt : o_St X s) (hN : n_St s) (hA : ∀ q, o_A X q ↔ B ≤ q) (hB : s.heap.size ≤ B) (hP : va_P (o_D X) vwCl (n_ws B cs) H) (hz : H.size = B + cs.length) (hS : va_S (fun q => s.heap.size ≤ q) s.heap H locs) (hls : ls.size = 4) (hnm : C.1.name = "<init>") (hret : C.2.2.2 = none) (hcb : o_CB C 0) (hlink : Cond.methodLink R_law idx C.1 ∈ o_tb) (hinst : Cond.instanceMethod C.1 ∈ o_tb) (hd : decode code pc = .ok (.invokespecial idx, 3)) (hL : o_entN C.2.2.1 [.ref a] = L0) (hlen : (lg_sl [.ref a]).length ≤ C.2.2.1) (hd0 : d ≤ 100) (hk : k + mc' ≤ 600000) (hsl : sl + ms' ≤ 7302250) (hE : n_Ev X B cs.length mc' ms' d C fin1 0 L0 [] cs 0 0)
    (kk : ∀ (H1 : Heap) (locs1 : List Loc), va_P (o_D X) vwCl (n_ws B fin1) H1 → va_S (fun q => s.heap.size ≤ q) s.heap H1 locs1 → (∀ q, q < H.size → ¬ B ≤ q → H1[q]? = H[q]?) → W p (o_l X) e room_1 s m #[Value.ref b] below meth c H1 locs1 (k + mc') (sl + ms') Q (F0 m (pc + 3) ls [.ref a])) : W p (o_l X) e room_1 s m #[Value.ref b] below meth c H locs k sl Q (F0 m pc ls [.ref a, .ref a]) := by
  obtain ⟨hcode, hini, hd3, hpn, h29⟩ := hcb
  have hM := n_met hA hnm hL hlen hpn hE
  have cb : CallB room_1 s #[Value.ref b] R_law idx C.1 C.2.1 C.2.2.1 C.2.2.2 (o_code C :: o_tb) (n_rm d mc' ms') mc' ms' 0 := callB_of 0 hts (o_good hcode) rfl rfl rfl (hts _ hini) (hts _ hlink) hd3 ⟨by show d + 1 ≤ 2048; omega, by show 8 + (C.2.2.1 + 11) + 48 * d ≤ 84000; omega⟩
  rw [hret] at cb
  have hSx : va_S (o_A X) s.heap H [] := ⟨hS.1, fun q a _ => hS.2.1 q a (Nat.not_le.mpr a), fun q hq => by cases hq⟩
  exact n_after (A := fun q => s.heap.size ≤ q) (fun q z => Nat.le_trans hB ((hA q).mp z)) (a := [Value.ref a].toArray) (va_runI (Ts := o_tb) (As := []) ⟨hx, hb, hml, hown, hts⟩ hM ⟨cb, hnm, hts _ hinst⟩ ⟨n_blind, fun U hU hW => ⟨rfl, by rw [hU]; exact hz, by rw [hU]; exact hP, va_K.moved hW.alike hK, o_St_warm (locs := []) hW (by rw [hU]; exact hSx) hSt, n_St_warm hW hN⟩⟩ rfl rfl hls rfl (lv_room (Nat.le_of_ble_eq_true rfl)) hd ⟨hk, hsl⟩) hS (fun H1 locs1 hP1 hS1 hf => kk H1 locs1 hP1 hS1 (fun q h1 h2 => hf.2 q h1 (fun z => h2 ((hA q).mp z))))
end lZ
theorem n_right {D : va_G} {B : Nat} {cs cs2 : List va_E} {H : Heap} (h : va_P D vwCl (n_ws B (cs ++ cs2)) H) : va_P D vwCl (n_ws (B + cs.length) cs2) H := by
  intro k q hk
  obtain ⟨h1, h2⟩ := n_out hk
  obtain ⟨x, hx⟩ : ∃ x, cs2[k]? = some x := ⟨_, List.getElem?_eq_getElem h2⟩
  rw [n_at hx] at hk
  cases hk
  have := h (cs.length + k) (B + (cs.length + k), x) (n_at (by rw [List.getElem?_append_right (by omega), Nat.add_sub_cancel_left]; exact hx))
  rw [← Nat.add_assoc] at this
  exact this
theorem n_left {D : va_G} {B : Nat} {cs cs2 : List va_E} {H : Heap} (h : va_P D vwCl (n_ws B (cs ++ cs2)) H) : va_P D vwCl (n_ws B cs) H := by
  intro k q hk
  obtain ⟨h1, h2⟩ := n_out hk
  obtain ⟨x, hx⟩ : ∃ x, cs[k]? = some x := ⟨_, List.getElem?_eq_getElem h2⟩
  rw [n_at hx] at hk
  cases hk
  exact h k (B + k, x) (n_at (by rw [List.getElem?_append_left h2]; exact hx))
theorem blk_len (K : lx_K) : (blkX11 (xS K) (lx_b K)).length = 159 := by rw [csX_eq, List.length_map, List.length_range]
/-- behind the making of the two objects -/
theorem lz_end {K : lx_K} {p : Program} {e : Env} {s : State} {m : MethodId} {below : List Frame} {meth : Method} {c : Code} {b L : Nat} {xs : Nat → Int32} {H : Heap} {locs : List Loc} {ls : Array Slot} {μ : o_Mem} (hL : L ≤ 3072) (F : lq_Fr K p s m meth c b L xs) (hI : Inv mC0 μ) (h1 : va_P K.2.1 vwCl (n_ws (lx_b K) (blkX11 (xS K) (lx_b K))) H) (h2 : va_P K.2.1 vwCl (n_ws (lx_b K + 159) (o_cs (xT K) μ)) H) (hS : va_S (fun q => s.heap.size ≤ q) s.heap H locs) (hl : lv_has ls 4 [(1, .ref (lx_b K)), (0, .ref b)]) : W p K.1 e room_1 s m #[Value.ref b] below meth c H locs 178 10305 (lw_Z below #[Value.ref b] s) (F0 m 15 ls [.ref (lx_b K + 159)]) := by
  obtain ⟨hx, hb, hr, hml, hown, hts0, hX, hbl, hlocks, hgv⟩ := id F.1
  refine W.widen (k := 600000) (n := 7302250) (by omega) (by omega) ?_
  refine lv_astore_n (lv' := [(2, .ref (lx_b K + 159)), (1, .ref (lx_b K)), (0, .ref b)]) hx hb dL_15 rfl hl (by decide) rfl (fun ls hl => ?_)
  refine lv_iconst (v := nI 0) hx hb dL_16 (by decide) ?_
  refine lv_istore_n (lv' := [(3, .int (nI 0)), (2, .ref (lx_b K + 159)), (1, .ref (lx_b K)), (0, .ref b)]) hx hb dL_17 rfl hl (by decide) rfl (fun ls hl => ?_)
  have h2' : va_P K.2.1 vwCl (o_ws (xT K) μ) H := by
    rw [o_n_ws (X := xT K) (b := lx_b K + 159) (fun i _ => rfl)]
    exact h2
  exact lq_loop hL (L + 1) 0 mC0 μ (by omega) (by omega) hI p e s m below meth c H locs ls F (csC h1) h2' hS (lv_sub hl [3, 2, 1, 0] rfl)
/-- from the making of the reference's object on -/
theorem lz_model {K : lx_K} {p : Program} {e : Env} {s : State} {m : MethodId} {below : List Frame} {meth : Method} {c : Code} {b L : Nat} {xs : Nat → Int32} {H : Heap} {locs : List Loc} {ls : Array Slot} (hL : L ≤ 3072) (F : lq_Fr K p s m meth c b L xs) (hTt : o_St (xT K) s) (hN : n_St s) (h1 : va_P K.2.1 vwCl (n_ws (lx_b K) (blkX11 (xS K) (lx_b K))) H) (hS : va_S (fun q => s.heap.size ≤ q) s.heap H locs) (hl : lv_has ls 4 [(1, .ref (lx_b K)), (0, .ref b)]) : W p K.1 e room_1 s m #[Value.ref b] below meth c H locs 159 4203 (lw_Z below #[Value.ref b] s) (F0 m 8 ls []) := by
  obtain ⟨⟨hx, hb, hr, hml, hown, hts0, hX, hbl, hlocks, hgv⟩, hL', hz, hK, hC, hM⟩ := id F
  have hts : ∀ w ∈ o_tb, w.before #[Value.ref b] s = true := fun w hw => hts0 w (o_tb_in hw)
  have hlen := blk_len K
  refine lz_new (q := lx_b K + 159) hz hx hb hts hown hK nwL_10 dL_8 h1 hS hlen.symm (by omega) (by omega) (by rw [hlen]) (fun H1 hP1 hS1 hz1 => ?_)
  refine lv_dup hx hb dL_11 rfl ?_
  obtain ⟨μ, hI, hE⟩ := mkM K 20
  have hP2 : va_P K.2.1 vwCl (n_ws (lx_b K + 159) [.inr (12, df12)]) H1 := by
    have := n_right hP1
    rw [hlen] at this
    exact this
  refine lz_init (X := xT K) (C := mX12_init) (B := lx_b K + 159) (d := 21) (a := lx_b K + 159) (cs := [.inr (12, df12)]) (fin1 := o_cs (xT K) μ) hx hb hml hts hown hK hTt hN (fun q => Iff.rfl) (by omega) hP2 hz1 hS1 hl.1 rfl rfl cbX12_init w_6_108 w_6_109 dL_12 rfl (Nat.le_of_ble_eq_true rfl) (by decide) (by decide) (by decide) hE (fun H2 locs2 hP3 hS3 hf => ?_)
  refine lz_end hL F hI ?_ hP3 hS3 hl
  refine (n_left hP1).kept (fun j y hj => hf y.1 ((n_left hP1) j y hj).lt ?_)
  have := n_out hj
  omega
