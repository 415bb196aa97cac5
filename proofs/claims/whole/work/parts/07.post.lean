/-! ===== what a method does, as a function: o_Post, loops; more rules ===== -/
def o_Post {ρ : Type} (o : Option (ρ × o_Mem)) (Q : ρ → o_Mem → Prop) : Prop := ∃ x : ρ × o_Mem, o = some x ∧ Q x.1 x.2
theorem o_ret {ρ : Type} {r : ρ} {μ : o_Mem} {Q : ρ → o_Mem → Prop} (h : o_Post (some (r, μ)) Q) : Q r μ := by
  obtain ⟨x, e, hq⟩ := h
  cases e
  exact hq
theorem o_ret' {ρ : Type} {r : ρ} {μ : o_Mem} {Q : ρ → o_Mem → Prop} (h : Q r μ) : o_Post (some (r, μ)) Q := ⟨_, rfl, h⟩
theorem o_none {ρ : Type} {Q : ρ → o_Mem → Prop} {G : Prop} (h : o_Post none Q) : G := by
  obtain ⟨x, e, hq⟩ := h
  cases e
def o_bd {ρ τ : Type} (o : Option (ρ × o_Mem)) (f : ρ → o_Mem → Option (τ × o_Mem)) : Option (τ × o_Mem) := match o with
  | none => none
  | some x => f x.1 x.2
def o_ck (c : Prop) [Decidable c] {ρ : Type} (o : Option (ρ × o_Mem)) : Option (ρ × o_Mem) := if c then o else none
def o_seq {ρ : Type} (m : o_Mem) (f : o_Mem → Option (ρ × o_Mem)) : Option (ρ × o_Mem) := f m
def o_lp {T : Type} (head : Nat) (step : T → o_Mem → Option ((Nat × T) × o_Mem)) : Nat → T → o_Mem → Option ((Nat × T) × o_Mem)
  | 0, _, _ => none
  | n + 1, τ, μ => o_bd (step τ μ) (fun ex μ' => if ex.1 = head then o_lp head step n ex.2 μ' else some (ex, μ'))
theorem o_fuel_ex : ∃ n : Nat, 2000000 ≤ n := ⟨2000000, Nat.le_refl _⟩
/-- enough for every loop: a number of which only this is known, so that nothing tries to count it down -/
noncomputable def o_fuel : Nat := Classical.choose o_fuel_ex
theorem o_fuel_ge : 2000000 ≤ o_fuel := Classical.choose_spec o_fuel_ex
def o_fill {α : Type} (f : Nat → α) (n : Nat) (v : α) : Nat → α := fun k => if k < n then v else f k
theorem o_bdp {ρ τ : Type} {o : Option (ρ × o_Mem)} {f : ρ → o_Mem → Option (τ × o_Mem)} {Q : τ → o_Mem → Prop} (h : o_Post (o_bd o f) Q) : o_Post o (fun r μ => o_Post (f r μ) Q) := by
  cases o with
  | none => exact o_none h
  | some x => exact ⟨x, rfl, h⟩
theorem o_bdp' {ρ τ : Type} {o : Option (ρ × o_Mem)} {f : ρ → o_Mem → Option (τ × o_Mem)} {Q : τ → o_Mem → Prop} (h : o_Post o (fun r μ => o_Post (f r μ) Q)) : o_Post (o_bd o f) Q := by
  obtain ⟨x, rfl, hq⟩ := h
  exact hq
theorem o_ck_c {c : Prop} [Decidable c] {ρ : Type} {o : Option (ρ × o_Mem)} {Q : ρ → o_Mem → Prop} (h : o_Post (o_ck c o) Q) : c := by
  by_cases hc : c
  · exact hc
  · unfold o_ck at h; rw [if_neg hc] at h; exact o_none h
theorem o_ck_k {c : Prop} [Decidable c] {ρ : Type} {o : Option (ρ × o_Mem)} {Q : ρ → o_Mem → Prop} (h : o_Post (o_ck c o) Q) : o_Post o Q := by
  have hc := o_ck_c h
  unfold o_ck at h; rw [if_pos hc] at h; exact h
theorem o_if_t {c : Prop} [Decidable c] {ρ : Type} {A B : Option (ρ × o_Mem)} {Q : ρ → o_Mem → Prop} (hc : c) (h : o_Post (if c then A else B) Q) : o_Post A Q := by rw [if_pos hc] at h; exact h
theorem o_if_f {c : Prop} [Decidable c] {ρ : Type} {A B : Option (ρ × o_Mem)} {Q : ρ → o_Mem → Prop} (hc : ¬ c) (h : o_Post (if c then A else B) Q) : o_Post B Q := by rw [if_neg hc] at h; exact h
def o_QI (q : Int32 → o_Mem → Prop) : Option Value → o_Mem → Prop := fun v μ => ∃ r : Int32, v = some (.int r) ∧ q r μ
def o_QZ (q : Int32 → o_Mem → Prop) : Option Value → o_Mem → Prop := fun v μ => ∃ r : Int32, v = some (.int r) ∧ (r = 0 ∨ r = 1) ∧ q r μ
def o_QL (q : Int64 → o_Mem → Prop) : Option Value → o_Mem → Prop := fun v μ => ∃ r : Int64, v = some (.long r) ∧ q r μ
def o_QU (q : Unit → o_Mem → Prop) : Option Value → o_Mem → Prop := fun v μ => v = none ∧ q () μ
section oP
variable {X : o_Cx} {d : Nat} {M C : o_M} {pc : Nat} {L L0 : List (Option Value)} {st rest As : List Value} {μ : o_Mem} {Q q : Option Value → o_Mem → Prop} {b ci idx : Nat}
theorem o_gen {ρ : Type} {m : o_Mem} {F : o_Mem → Option (ρ × o_Mem)} {K : ρ → o_Mem → Prop} (h : o_Post (o_seq m F) K) (k : ∀ μ, o_Post (F μ) K → o_Ev X d M pc L st μ Q) : o_Ev X d M pc L st m Q := k m h
theorem o_lp_ev {T : Type} {head : Nat} {step : T → o_Mem → Option ((Nat × T) × o_Mem)} {E : (Nat × T) → o_Mem → Prop} (Lf : T → List (Option Value))
    (hs : ∀ (τ : T) (μ : o_Mem) (K : (Nat × T) → o_Mem → Prop), o_Post (step τ μ) K → (∀ τ μ, K (head, τ) μ → o_Ev X d M head (Lf τ) [] μ Q) → (∀ ex μ, ¬ ex.1 = head → K ex μ → E ex μ) → o_Ev X d M head (Lf τ) [] μ Q) :
    ∀ (n : Nat) (τ : T) (μ : o_Mem), o_Post (o_lp head step n τ μ) E → o_Ev X d M head (Lf τ) [] μ Q
  | 0, τ, μ, h => o_none h
  | n + 1, τ, μ, h => by
    refine hs τ μ _ (o_bdp h) (fun τ μ h => ?_) (fun ex μ hne h => ?_)
    · exact o_lp_ev Lf hs n τ μ (o_if_t rfl h)
    · exact o_ret (o_if_f hne h)
theorem s_callVi {q : Int32 → o_Mem → Prop} (hX : o_ok X) (hb : o_is X b (.inl ci)) (hc : o_CV M.1.cls idx ci C As.length) (hd : decode M.2.1 pc = .ok (.invokevirtual idx, 3)) (hst : st = As.reverse ++ .ref (o_ad X b) :: rest) (hL : o_entN C.2.2.1 (.ref (o_ad X b) :: As) = L0) (hlen : (lg_sl (.ref (o_ad X b) :: As)).length ≤ C.2.2.1) (hrm : (rest.map fun v => v.category).sum ≤ 8) (hE : o_Ev X d C 0 L0 [] μ (o_QI q))
    (k : ∀ r μ', q r μ' → o_Ev X (d + 1) M (pc + 3) L (.int r :: rest) μ' Q) : o_Ev X (d + 1) M pc L st μ Q := s_callV hX hb hc hd hst hL hlen hrm hE (fun v μ' ⟨r, e, h⟩ => by subst e; exact k r μ' h)
theorem s_callVz {q : Int32 → o_Mem → Prop} (hX : o_ok X) (hb : o_is X b (.inl ci)) (hc : o_CV M.1.cls idx ci C As.length) (hd : decode M.2.1 pc = .ok (.invokevirtual idx, 3)) (hst : st = As.reverse ++ .ref (o_ad X b) :: rest) (hL : o_entN C.2.2.1 (.ref (o_ad X b) :: As) = L0) (hlen : (lg_sl (.ref (o_ad X b) :: As)).length ≤ C.2.2.1) (hrm : (rest.map fun v => v.category).sum ≤ 8) (hE : o_Ev X d C 0 L0 [] μ (o_QZ q))
    (k : ∀ r μ', (r = 0 ∨ r = 1) → q r μ' → o_Ev X (d + 1) M (pc + 3) L (.int r :: rest) μ' Q) : o_Ev X (d + 1) M pc L st μ Q := s_callV hX hb hc hd hst hL hlen hrm hE (fun v μ' ⟨r, e, z, h⟩ => by subst e; exact k r μ' z h)
theorem s_callVl {q : Int64 → o_Mem → Prop} (hX : o_ok X) (hb : o_is X b (.inl ci)) (hc : o_CV M.1.cls idx ci C As.length) (hd : decode M.2.1 pc = .ok (.invokevirtual idx, 3)) (hst : st = As.reverse ++ .ref (o_ad X b) :: rest) (hL : o_entN C.2.2.1 (.ref (o_ad X b) :: As) = L0) (hlen : (lg_sl (.ref (o_ad X b) :: As)).length ≤ C.2.2.1) (hrm : (rest.map fun v => v.category).sum ≤ 8) (hE : o_Ev X d C 0 L0 [] μ (o_QL q))
    (k : ∀ r μ', q r μ' → o_Ev X (d + 1) M (pc + 3) L (.long r :: rest) μ' Q) : o_Ev X (d + 1) M pc L st μ Q := s_callV hX hb hc hd hst hL hlen hrm hE (fun v μ' ⟨r, e, h⟩ => by subst e; exact k r μ' h)
theorem s_callVu {q : Unit → o_Mem → Prop} (hX : o_ok X) (hb : o_is X b (.inl ci)) (hc : o_CV M.1.cls idx ci C As.length) (hd : decode M.2.1 pc = .ok (.invokevirtual idx, 3)) (hst : st = As.reverse ++ .ref (o_ad X b) :: rest) (hL : o_entN C.2.2.1 (.ref (o_ad X b) :: As) = L0) (hlen : (lg_sl (.ref (o_ad X b) :: As)).length ≤ C.2.2.1) (hrm : (rest.map fun v => v.category).sum ≤ 8) (hE : o_Ev X d C 0 L0 [] μ (o_QU q))
    (k : ∀ r μ', q r μ' → o_Ev X (d + 1) M (pc + 3) L rest μ' Q) : o_Ev X (d + 1) M pc L st μ Q := s_callV hX hb hc hd hst hL hlen hrm hE (fun v μ' ⟨e, h⟩ => by subst e; exact k () μ' h)
theorem s_callSi {q : Int32 → o_Mem → Prop} (hc : o_CS M.1.cls idx C As.length) (hd : decode M.2.1 pc = .ok (.invokestatic idx, 3)) (hst : st = As.reverse ++ rest) (hL : o_entN C.2.2.1 As = L0) (hlen : (lg_sl As).length ≤ C.2.2.1) (hrm : (rest.map fun v => v.category).sum ≤ 8) (hE : o_Ev X d C 0 L0 [] μ (o_QI q))
    (k : ∀ r μ', q r μ' → o_Ev X (d + 1) M (pc + 3) L (.int r :: rest) μ' Q) : o_Ev X (d + 1) M pc L st μ Q := s_callS hc hd hst hL hlen hrm hE (fun v μ' ⟨r, e, h⟩ => by subst e; exact k r μ' h)
theorem s_callSz {q : Int32 → o_Mem → Prop} (hc : o_CS M.1.cls idx C As.length) (hd : decode M.2.1 pc = .ok (.invokestatic idx, 3)) (hst : st = As.reverse ++ rest) (hL : o_entN C.2.2.1 As = L0) (hlen : (lg_sl As).length ≤ C.2.2.1) (hrm : (rest.map fun v => v.category).sum ≤ 8) (hE : o_Ev X d C 0 L0 [] μ (o_QZ q))
    (k : ∀ r μ', (r = 0 ∨ r = 1) → q r μ' → o_Ev X (d + 1) M (pc + 3) L (.int r :: rest) μ' Q) : o_Ev X (d + 1) M pc L st μ Q := s_callS hc hd hst hL hlen hrm hE (fun v μ' ⟨r, e, z, h⟩ => by subst e; exact k r μ' z h)
theorem s_callSl {q : Int64 → o_Mem → Prop} (hc : o_CS M.1.cls idx C As.length) (hd : decode M.2.1 pc = .ok (.invokestatic idx, 3)) (hst : st = As.reverse ++ rest) (hL : o_entN C.2.2.1 As = L0) (hlen : (lg_sl As).length ≤ C.2.2.1) (hrm : (rest.map fun v => v.category).sum ≤ 8) (hE : o_Ev X d C 0 L0 [] μ (o_QL q))
    (k : ∀ r μ', q r μ' → o_Ev X (d + 1) M (pc + 3) L (.long r :: rest) μ' Q) : o_Ev X (d + 1) M pc L st μ Q := s_callS hc hd hst hL hlen hrm hE (fun v μ' ⟨r, e, h⟩ => by subst e; exact k r μ' h)
theorem s_callSu {q : Unit → o_Mem → Prop} (hc : o_CS M.1.cls idx C As.length) (hd : decode M.2.1 pc = .ok (.invokestatic idx, 3)) (hst : st = As.reverse ++ rest) (hL : o_entN C.2.2.1 As = L0) (hlen : (lg_sl As).length ≤ C.2.2.1) (hrm : (rest.map fun v => v.category).sum ≤ 8) (hE : o_Ev X d C 0 L0 [] μ (o_QU q))
    (k : ∀ r μ', q r μ' → o_Ev X (d + 1) M (pc + 3) L rest μ' Q) : o_Ev X (d + 1) M pc L st μ Q := s_callS hc hd hst hL hlen hrm hE (fun v μ' ⟨e, h⟩ => by subst e; exact k () μ' h)
theorem s_callNz {q : Int32 → o_Mem → Prop} (hm : M.1.cls = "OddCancel$Valley") (hi : idx = 102) (hC : C.1 = yX11_within) (hc : o_CB C As.length) (hstat : Cond.static C.1 ∈ o_tb) (hd : decode M.2.1 pc = .ok (.invokestatic idx, 3)) (hst : st = As.reverse ++ rest) (hL : o_entN C.2.2.1 As = L0) (hlen : (lg_sl As).length ≤ C.2.2.1) (hrm : (rest.map fun v => v.category).sum ≤ 8) (hE : o_Ev X d C 0 L0 [] μ (o_QZ q))
    (k : ∀ r μ', (r = 0 ∨ r = 1) → q r μ' → o_Ev X (d + 1) M (pc + 3) L (.int r :: rest) μ' Q) : o_Ev X (d + 1) M pc L st μ Q := s_callN hm hi hC hc hstat hd hst hL hlen hrm hE (fun v μ' ⟨r, e, z, h⟩ => by subst e; exact k r μ' z h)
theorem s_iushr {x y : Int32} (hd : decode M.2.1 pc = .ok (.iushr, 1)) (k : o_Ev X d M (pc + 1) L (.int (x.toUInt32 >>> (y.toUInt32 &&& Int32.toUInt32 31)).toInt32 :: rest) μ Q) : o_Ev X d M pc L (.int y :: .int x :: rest) μ Q := by
  intro p e R s m args below meth c H locs ls F hP hS hl
  exact lv_iushr F.1 F.2.1 hd rfl (k p e R s m args below meth c H locs ls F hP hS hl)
theorem s_lshl {x : Int64} {y : Int32} (hd : decode M.2.1 pc = .ok (.lshl, 1)) (k : o_Ev X d M (pc + 1) L (.long (x <<< (y.toInt64 &&& 63)) :: rest) μ Q) : o_Ev X d M pc L (.int y :: .long x :: rest) μ Q := by
  intro p e R s m args below meth c H locs ls F hP hS hl
  exact lv_lshl F.1 F.2.1 hd rfl (k p e R s m args below meth c H locs ls F hP hS hl)
theorem s_lif_lt {x y : Int64} {off : Int} {tgt : Nat} (hd0 : decode M.2.1 pc = .ok (.lcmp, 1)) (hd : decode M.2.1 (pc + 1) = .ok (.ifCond .lt off, 3)) (ht : ((pc + 1 : Nat) : Int) + off = (tgt : Int)) (kt : x < y → o_Ev X d M tgt L rest μ Q) (kf : ¬ x < y → o_Ev X d M (pc + 4) L rest μ Q) : o_Ev X d M pc L (.long y :: .long x :: rest) μ Q :=
  s_lcmp hd0 (s_if_lt hd ht (fun h => kt ((lg_cmp_lt x y).mp h)) (fun h => kf (fun z => h ((lg_cmp_lt x y).mpr z))))
theorem s_lif_ge {x y : Int64} {off : Int} {tgt : Nat} (hd0 : decode M.2.1 pc = .ok (.lcmp, 1)) (hd : decode M.2.1 (pc + 1) = .ok (.ifCond .ge off, 3)) (ht : ((pc + 1 : Nat) : Int) + off = (tgt : Int)) (kt : y ≤ x → o_Ev X d M tgt L rest μ Q) (kf : ¬ y ≤ x → o_Ev X d M (pc + 4) L rest μ Q) : o_Ev X d M pc L (.long y :: .long x :: rest) μ Q :=
  s_lcmp hd0 (s_if_ge hd ht (fun h => kt ((lg_cmp_ge x y).mp h)) (fun h => kf (fun z => h ((lg_cmp_ge x y).mpr z))))
theorem s_lif_gt {x y : Int64} {off : Int} {tgt : Nat} (hd0 : decode M.2.1 pc = .ok (.lcmp, 1)) (hd : decode M.2.1 (pc + 1) = .ok (.ifCond .gt off, 3)) (ht : ((pc + 1 : Nat) : Int) + off = (tgt : Int)) (kt : y < x → o_Ev X d M tgt L rest μ Q) (kf : ¬ y < x → o_Ev X d M (pc + 4) L rest μ Q) : o_Ev X d M pc L (.long y :: .long x :: rest) μ Q :=
  s_lcmp hd0 (s_if_gt hd ht (fun h => kt ((lg_cmp_gt x y).mp h)) (fun h => kf (fun z => h ((lg_cmp_gt x y).mpr z))))
theorem s_lif_le {x y : Int64} {off : Int} {tgt : Nat} (hd0 : decode M.2.1 pc = .ok (.lcmp, 1)) (hd : decode M.2.1 (pc + 1) = .ok (.ifCond .le off, 3)) (ht : ((pc + 1 : Nat) : Int) + off = (tgt : Int)) (kt : x ≤ y → o_Ev X d M tgt L rest μ Q) (kf : ¬ x ≤ y → o_Ev X d M (pc + 4) L rest μ Q) : o_Ev X d M pc L (.long y :: .long x :: rest) μ Q :=
  s_lcmp hd0 (s_if_le hd ht (fun h => kt ((lg_cmp_le x y).mp h)) (fun h => kf (fun z => h ((lg_cmp_le x y).mpr z))))
theorem s_lif_eq {x y : Int64} {off : Int} {tgt : Nat} (hd0 : decode M.2.1 pc = .ok (.lcmp, 1)) (hd : decode M.2.1 (pc + 1) = .ok (.ifCond .eq off, 3)) (ht : ((pc + 1 : Nat) : Int) + off = (tgt : Int)) (kt : x = y → o_Ev X d M tgt L rest μ Q) (kf : ¬ x = y → o_Ev X d M (pc + 4) L rest μ Q) : o_Ev X d M pc L (.long y :: .long x :: rest) μ Q :=
  s_lcmp hd0 (s_if_eq hd ht (fun h => kt ((lg_cmp_eq x y).mp h)) (fun h => kf (fun z => h ((lg_cmp_eq x y).mpr z))))
theorem s_lif_ne {x y : Int64} {off : Int} {tgt : Nat} (hd0 : decode M.2.1 pc = .ok (.lcmp, 1)) (hd : decode M.2.1 (pc + 1) = .ok (.ifCond .ne off, 3)) (ht : ((pc + 1 : Nat) : Int) + off = (tgt : Int)) (kt : ¬ x = y → o_Ev X d M tgt L rest μ Q) (kf : x = y → o_Ev X d M (pc + 4) L rest μ Q) : o_Ev X d M pc L (.long y :: .long x :: rest) μ Q :=
  s_lcmp hd0 (s_if_ne hd ht (fun h => kt (fun z => h ((lg_cmp_eq x y).mpr z))) (fun h => kf ((lg_cmp_eq x y).mp h)))
def o_tab (dflt lo hi : Int) (offs : Array Int) (z : Int) : Int := if z < lo ∨ hi < z then dflt else offs[(z - lo).toNat]?.getD 0
theorem s_table {dflt lo hi : Int} {offs : Array Int} {len : Nat} {x : Int32} {off : Int} {tgt : Nat} (hd : decode M.2.1 pc = .ok (.tableswitch dflt lo hi offs, len)) (hs : hi - lo + 1 = offs.size) (ho : o_tab dflt lo hi offs x.toInt = off) (ht : (pc : Int) + off = (tgt : Int)) (k : o_Ev X d M tgt L rest μ Q) : o_Ev X d M pc L (.int x :: rest) μ Q := by
  unfold o_tab at ho
  by_cases h : x.toInt < lo ∨ hi < x.toInt
  · rw [if_pos h] at ho
    subst ho
    exact s_tableOut hd h ht k
  · rw [if_neg h] at ho
    have hlt : (x.toInt - lo).toNat < offs.size := by omega
    refine s_tableIn hd (fun z => h (Or.inl z)) (fun z => h (Or.inr z)) (off := off) ?_ ht k
    rw [Array.getElem?_eq_getElem hlt] at ho ⊢
    exact congrArg some ho
end oP
