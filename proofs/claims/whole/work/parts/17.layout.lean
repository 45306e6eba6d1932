/-! ===== TokenFlow: the plan is laid out ===== -/
def T_enough (σ : TS) (n : Nat) : Bool := allB (fun q => decide (σ.1 11 q = n → σ.1 13 q ≤ σ.1 15 q)) (σ.1 21 0) 0
def T_next (σ : TS) : Nat := findB (fun n => decide (σ.1 5 n < σ.1 4 n) && T_enough σ n) (σ.1 20 0) 0
/-- the numbers are small enough -/
def LayB (τ : TS) : Prop := τ.1 20 0 ≤ 8 ∧ τ.1 21 0 ≤ 12 ∧ (∀ n, n < τ.1 20 0 → τ.1 5 n < 2 ^ 20 ∧ τ.1 4 n < 2 ^ 40) ∧ ∀ q, q < τ.1 21 0 → τ.1 10 q < 2 ^ 20 ∧ τ.1 11 q < 2 ^ 20 ∧ τ.1 12 q < 2 ^ 20 ∧ τ.1 13 q < 2 ^ 20 ∧ τ.1 15 q < 2 ^ 20 ∧ τ.1 16 q < 2 ^ 20
set_option maxRecDepth 100000 in
set_option maxHeartbeats 4000000 in
theorem lp_X3_hasEnough {p : Program} {l : Launch} {ev : Env} {R : Room} {s : State} {m : MethodId} {args : Array Value} {below : List Frame} {meth : Method} {c : Code} {cells slots : Nat} {Q : State → Prop} {D : va_G} {cy : Nat → ClassId} {ad : Nat → Nat} {A : Nat → Prop} (hx : p.tables.exec = Jvm.exec) (hb : c.code = cX3_hasEnough) (hml : c.maxLocals = 3) (hU : ∀ w ∈ UW, w.before args s = true) (hown : s.vm.findClass RX3 = some m.cls) (hR : 0 ≤ R.frames ∧ 32 * 0 ≤ R.locals) (hcs : cells ≤ R.cells ∧ slots ≤ R.slots) {τ : TS} {n : Nat} (hn : n < 2 ^ 20) (hB : LayB τ) :
    ∀ (k i : Nat) (H : Heap) (locs : List Loc) (ls : Array Slot), (i + k = τ.1 21 0) → XT D cy ad s A H locs τ → lv_has ls 3 [(0, .ref (ad 0)), (1, .int (nI n)), (2, .int (nI i))] → (allB (fun q => decide (τ.1 11 q = n → τ.1 13 q ≤ τ.1 15 q)) k i = true → (∀ (H : Heap) (locs : List Loc) (ls : Array Slot), XT D cy ad s A H locs τ → lv_has ls 3 [(0, .ref (ad 0))] → W p l ev R s m args below meth c H locs cells slots Q (F0 m 52 ls []))) → (allB (fun q => decide (τ.1 11 q = n → τ.1 13 q ≤ τ.1 15 q)) k i = false → (∀ (H : Heap) (locs : List Loc) (ls : Array Slot), XT D cy ad s A H locs τ → lv_has ls 3 [(0, .ref (ad 0))] → W p l ev R s m args below meth c H locs cells slots Q (F0 m 44 ls []))) → W p l ev R s m args below meth c H locs cells slots Q (F0 m 2 ls []) := by
  intro k
  induction k with
  | zero =>
    intro i H locs ls hc h hl K1 K2
    have h12 := hB.2.1
    refine lv_iload_n hx hb dX3_hasEnough_2 rfl (lv_at hl 2 rfl) ?_
    refine lv_aload_n hx hb dX3_hasEnough_3 rfl (lv_at hl 0 rfl) ?_
    refine t_gM hx hb hU hown h 5 (by decide) ufX3_57 (v := .int (nI (τ.1 21 0))) rfl dX3_hasEnough_4 ?_
    refine n_icmp_ge (tgt := 52) hx hb (by omega) (by omega) dX3_hasEnough_7 (by decide) (fun c_7 => ?_) (fun c_7 => absurd c_7 (by omega))
    exact K1 rfl _ _ _ h (lv_sub hl [0] rfl)
  | succ k ih =>
    intro i H locs ls hc h hl K1 K2
    have h12 := hB.2.1
    have h9 := hB.2.2.2 i (by omega)
    refine lv_iload_n hx hb dX3_hasEnough_2 rfl (lv_at hl 2 rfl) ?_
    refine lv_aload_n hx hb dX3_hasEnough_3 rfl (lv_at hl 0 rfl) ?_
    refine t_gM hx hb hU hown h 5 (by decide) ufX3_57 (v := .int (nI (τ.1 21 0))) rfl dX3_hasEnough_4 ?_
    refine n_icmp_ge (tgt := 52) hx hb (by omega) (by omega) dX3_hasEnough_7 (by decide) (fun c_7 => absurd c_7 (by omega)) (fun c_7 => ?_)
    refine lv_aload_n hx hb dX3_hasEnough_10 rfl (lv_at hl 0 rfl) ?_
    refine t_gM hx hb hU hown h 1 (by decide) ufX3_18 (v := .ref (ad 2)) rfl dX3_hasEnough_11 ?_
    refine lv_iload_n hx hb dX3_hasEnough_14 rfl (lv_at hl 2 rfl) ?_
    refine t_aE hx hb h (by omega) dX3_hasEnough_15 ?_
    refine t_gE hx hb hU hown h (by omega) 1 (by decide) ufX3_63 (v := .int (nI (τ.1 11 i))) rfl dX3_hasEnough_16 ?_
    refine lv_iload_n hx hb dX3_hasEnough_19 rfl (lv_at hl 1 rfl) ?_
    refine n_icmp_ne (tgt := 46) hx hb (by omega) (by omega) dX3_hasEnough_20 (by decide) (fun c_20 => ?_) (fun c_20 => ?_)
    · refine lv_iinc (v := nI (i + 1)) (lv' := [(2, .int (nI (i + 1))), (0, .ref (ad 0)), (1, .int (nI n))]) hx hb dX3_hasEnough_46 hl (k := 2) rfl (by rw [← nI_add]; rfl) (by decide) rfl (fun ls hl => ?_)
      refine lv_goto (tgt := 2) hx hb dX3_hasEnough_49 (by decide) ?_
      exact ih (i + 1) _ _ _ (by omega) h (lv_sub hl [1, 2, 0] rfl) (fun q => K1 (by rw [allB_go (decide_eq_true (by first | exact fun q => absurd q c_20 | exact fun _ => c_41))]; exact q)) (fun q => K2 (by rw [allB_go (decide_eq_true (by first | exact fun q => absurd q c_20 | exact fun _ => c_41))]; exact q))
    · refine lv_aload_n hx hb dX3_hasEnough_23 rfl (lv_at hl 0 rfl) ?_
      refine t_gM hx hb hU hown h 1 (by decide) ufX3_18 (v := .ref (ad 2)) rfl dX3_hasEnough_24 ?_
      refine lv_iload_n hx hb dX3_hasEnough_27 rfl (lv_at hl 2 rfl) ?_
      refine t_aE hx hb h (by omega) dX3_hasEnough_28 ?_
      refine t_gE hx hb hU hown h (by omega) 5 (by decide) ufX3_192 (v := .int (nI (τ.1 15 i))) rfl dX3_hasEnough_29 ?_
      refine lv_aload_n hx hb dX3_hasEnough_32 rfl (lv_at hl 0 rfl) ?_
      refine t_gM hx hb hU hown h 1 (by decide) ufX3_18 (v := .ref (ad 2)) rfl dX3_hasEnough_33 ?_
      refine lv_iload_n hx hb dX3_hasEnough_36 rfl (lv_at hl 2 rfl) ?_
      refine t_aE hx hb h (by omega) dX3_hasEnough_37 ?_
      refine t_gE hx hb hU hown h (by omega) 3 (by decide) ufX3_69 (v := .int (nI (τ.1 13 i))) rfl dX3_hasEnough_38 ?_
      refine n_icmp_ge (tgt := 46) hx hb (by omega) (by omega) dX3_hasEnough_41 (by decide) (fun c_41 => ?_) (fun c_41 => ?_)
      · refine lv_iinc (v := nI (i + 1)) (lv' := [(2, .int (nI (i + 1))), (0, .ref (ad 0)), (1, .int (nI n))]) hx hb dX3_hasEnough_46 hl (k := 2) rfl (by rw [← nI_add]; rfl) (by decide) rfl (fun ls hl => ?_)
        refine lv_goto (tgt := 2) hx hb dX3_hasEnough_49 (by decide) ?_
        exact ih (i + 1) _ _ _ (by omega) h (lv_sub hl [1, 2, 0] rfl) (fun q => K1 (by rw [allB_go (decide_eq_true (by first | exact fun q => absurd q c_20 | exact fun _ => c_41))]; exact q)) (fun q => K2 (by rw [allB_go (decide_eq_true (by first | exact fun q => absurd q c_20 | exact fun _ => c_41))]; exact q))
      · exact K2 (allB_no (decide_eq_false (fun q => absurd (q c_20) (by omega)))) _ _ _ h (lv_sub hl [0] rfl)
set_option maxRecDepth 100000 in
set_option maxHeartbeats 4000000 in
theorem c_X3_hasEnough (l : Launch) (D : va_G) (cy : Nat → ClassId) (ad : Nat → Nat) (σ : TS) (sz : Nat) {n : Nat} (hn : n < 2 ^ 20) (hB : LayB σ) : MTi l D cy ad yX3_hasEnough cX3_hasEnough 3 .boolean (rmd 0) [.ref (ad 0), .int (nI n)] σ sz (fun r u => r = bI (T_enough σ n) ∧ u = σ) := by
  refine Met.ofW (cc := cX3_hasEnough) (maxL := 3) (ret := (some .boolean)) (by decide) rfl ?_
  intro p ev s m args below meth c s₁ B hml hv
  obtain ⟨rfl, hw⟩ := hv
  have hx := B.exec
  have hb := B.bytes
  have hr := B.returns
  have hlk := B.notSynchronized
  have hU : ∀ w ∈ UW, w.before _ s = true := fun w hw => atoms_spec (ws := Cond.code yX3_hasEnough cX3_hasEnough 3 (some .boolean) :: UW) B.pre w (List.mem_cons_of_mem _ hw)
  have hown : s.vm.findClass RX3 = some m.cls := findClass_of_methodNamed B.named
  have hR : 0 ≤ (headSpec (Cond.code yX3_hasEnough cX3_hasEnough 3 (some .boolean) :: UW) (rmd 0)).room.frames ∧ 32 * 0 ≤ (headSpec (Cond.code yX3_hasEnough cX3_hasEnough 3 (some .boolean) :: UW) (rmd 0)).room.locals := ⟨Nat.le_refl _, Nat.le_refl _⟩
  have hcs : 0 ≤ (headSpec (Cond.code yX3_hasEnough cX3_hasEnough 3 (some .boolean) :: UW) (rmd 0)).room.cells ∧ 0 ≤ (headSpec (Cond.code yX3_hasEnough cX3_hasEnough 3 (some .boolean) :: UW) (rmd 0)).room.slots := ⟨Nat.zero_le _, Nat.zero_le _⟩
  have h := WX.start hw
  clear hw
  generalize va_A (wv _ _ _) _ = A at h ⊢
  have hl := lv_entry ([.ref (ad 0), .int (nI n)]) (n := 3) (Nat.le_of_ble_eq_true rfl)
  rw [lg_entry_eq]
  generalize (lg_sl ([.ref (ad 0), .int (nI n)]) ++ List.replicate (3 - (lg_sl ([.ref (ad 0), .int (nI n)])).length) Slot.unset).toArray = ls at hl ⊢
  have hl : lv_has ls 3 [(0, .ref (ad 0)), (1, .int (nI n))] := hl
  refine lv_iconst (v := nI 0) hx hb dX3_hasEnough_0 (by decide +kernel) ?_
  refine lv_istore_n (lv' := [(2, .int (nI 0)), (0, .ref (ad 0)), (1, .int (nI n))]) hx hb dX3_hasEnough_1 rfl hl (by decide) rfl (fun ls hl => ?_)
  refine lp_X3_hasEnough hx hb hml hU hown hR hcs hn hB (σ.1 21 0) 0 _ _ _ (Nat.zero_add _) h (lv_sub hl [1, 2, 0] rfl) (fun hq H locs ls h hl => ?_) (fun hq H locs ls h hl => ?_)
  · refine lv_iconst (v := nI 1) hx hb dX3_hasEnough_52 (by decide +kernel) ?_
    exact W.zret (v := nI 1) hx hb hr (by decide +kernel) (fun t ht hW => ⟨⟨_, _, rfl, ⟨(by unfold T_enough; rw [hq]; rfl), rfl⟩, h.at ht hW⟩, h.2.2.2.2.F ht⟩) h.2.2.2.2.2.2 dX3_hasEnough_53
  · refine lv_iconst (v := nI 0) hx hb dX3_hasEnough_44 (by decide +kernel) ?_
    exact W.zret (v := nI 0) hx hb hr (by decide +kernel) (fun t ht hW => ⟨⟨_, _, rfl, ⟨(by unfold T_enough; rw [hq]; rfl), rfl⟩, h.at ht hW⟩, h.2.2.2.2.F ht⟩) h.2.2.2.2.2.2 dX3_hasEnough_45
set_option maxRecDepth 100000 in
set_option maxHeartbeats 4000000 in
theorem lp_X3_nextToFire {p : Program} {l : Launch} {ev : Env} {R : Room} {s : State} {m : MethodId} {args : Array Value} {below : List Frame} {meth : Method} {c : Code} {cells slots : Nat} {Q : State → Prop} {D : va_G} {cy : Nat → ClassId} {ad : Nat → Nat} {A : Nat → Prop} (hx : p.tables.exec = Jvm.exec) (hb : c.code = cX3_nextToFire) (hml : c.maxLocals = 2) (hU : ∀ w ∈ UW, w.before args s = true) (hown : s.vm.findClass RX3 = some m.cls) (hR : 1 ≤ R.frames ∧ 32 * 1 ≤ R.locals) (hcs : cells ≤ R.cells ∧ slots ≤ R.slots) {τ : TS} (hB : LayB τ) :
    ∀ (k i : Nat) (H : Heap) (locs : List Loc) (ls : Array Slot), (i + k = τ.1 20 0) → XT D cy ad s A H locs τ → lv_has ls 2 [(0, .ref (ad 0)), (1, .int (nI i))] → (findB (fun n => decide (τ.1 5 n < τ.1 4 n) && T_enough τ n) k i = i + k → (∀ (H : Heap) (locs : List Loc) (ls : Array Slot), XT D cy ad s A H locs τ → lv_has ls 2 [(0, .ref (ad 0))] → W p l ev R s m args below meth c H locs cells slots Q (F0 m 49 ls []))) → (∀ j, findB (fun n => decide (τ.1 5 n < τ.1 4 n) && T_enough τ n) k i = j → j < i + k → (∀ (H : Heap) (locs : List Loc) (ls : Array Slot), XT D cy ad s A H locs τ → lv_has ls 2 [(0, .ref (ad 0)), (1, .int (nI j))] → W p l ev R s m args below meth c H locs cells slots Q (F0 m 41 ls []))) → W p l ev R s m args below meth c H locs cells slots Q (F0 m 2 ls []) := by
  intro k
  induction k with
  | zero =>
    intro i H locs ls hc h hl K1 K2
    have h8 := hB.1
    refine lv_iload_n hx hb dX3_nextToFire_2 rfl (lv_at hl 1 rfl) ?_
    refine lv_aload_n hx hb dX3_nextToFire_3 rfl (lv_at hl 0 rfl) ?_
    refine t_gM hx hb hU hown h 4 (by decide) ufX3_34 (v := .int (nI (τ.1 20 0))) rfl dX3_nextToFire_4 ?_
    refine n_icmp_ge (tgt := 49) hx hb (by omega) (by omega) dX3_nextToFire_7 (by decide) (fun c_7 => ?_) (fun c_7 => absurd c_7 (by omega))
    exact K1 rfl _ _ _ h (lv_sub hl [0] rfl)
  | succ k ih =>
    intro i H locs ls hc h hl K1 K2
    have h8 := hB.1
    have h9 := hB.2.2.1 i (by omega)
    refine lv_iload_n hx hb dX3_nextToFire_2 rfl (lv_at hl 1 rfl) ?_
    refine lv_aload_n hx hb dX3_nextToFire_3 rfl (lv_at hl 0 rfl) ?_
    refine t_gM hx hb hU hown h 4 (by decide) ufX3_34 (v := .int (nI (τ.1 20 0))) rfl dX3_nextToFire_4 ?_
    refine n_icmp_ge (tgt := 49) hx hb (by omega) (by omega) dX3_nextToFire_7 (by decide) (fun c_7 => absurd c_7 (by omega)) (fun c_7 => ?_)
    refine lv_aload_n hx hb dX3_nextToFire_10 rfl (lv_at hl 0 rfl) ?_
    refine t_gM hx hb hU hown h 0 (by decide) ufX3_11 (v := .ref (ad 1)) rfl dX3_nextToFire_11 ?_
    refine lv_iload_n hx hb dX3_nextToFire_14 rfl (lv_at hl 1 rfl) ?_
    refine t_aA hx hb h (by omega) dX3_nextToFire_15 ?_
    refine t_gA hx hb hU hown h (by omega) 5 (by decide) ufX3_176 (v := .int (nI (τ.1 5 i))) rfl dX3_nextToFire_16 ?_
    refine n_i2l hx hb (by omega) dX3_nextToFire_19 ?_
    refine lv_aload_n hx hb dX3_nextToFire_20 rfl (lv_at hl 0 rfl) ?_
    refine t_gM hx hb hU hown h 0 (by decide) ufX3_11 (v := .ref (ad 1)) rfl dX3_nextToFire_21 ?_
    refine lv_iload_n hx hb dX3_nextToFire_24 rfl (lv_at hl 1 rfl) ?_
    refine t_aA hx hb h (by omega) dX3_nextToFire_25 ?_
    refine t_gA hx hb hU hown h (by omega) 4 (by decide) ufX3_131 (v := .long (lN (τ.1 4 i))) rfl dX3_nextToFire_26 ?_
    refine W.lcmp hx hb dX3_nextToFire_29 ?_
    refine n_lif_ge (tgt := 43) hx hb (by omega) (by omega) dX3_nextToFire_30 (by decide) (fun c_30 => ?_) (fun c_30 => ?_)
    · refine lv_iinc (v := nI (i + 1)) (lv' := [(1, .int (nI (i + 1))), (0, .ref (ad 0))]) hx hb dX3_nextToFire_43 hl (k := 1) rfl (by rw [← nI_add]; rfl) (by decide) rfl (fun ls hl => ?_)
      refine lv_goto (tgt := 2) hx hb dX3_nextToFire_46 (by decide) ?_
      exact ih (i + 1) _ _ _ (by omega) h (lv_sub hl [1, 0] rfl) (fun q => K1 (by rw [findB_go (by show (decide _ && _) = false; first | (rw [decide_eq_false (by omega)]; rfl) | (rw [c_38]; exact Bool.and_false _)), q]; omega)) (fun j q hj => K2 j (by rw [findB_go (by show (decide _ && _) = false; first | (rw [decide_eq_false (by omega)]; rfl) | (rw [c_38]; exact Bool.and_false _)), q]) (by omega))
    · refine lv_aload_n hx hb dX3_nextToFire_33 rfl (lv_at hl 0 rfl) ?_
      refine lv_iload_n hx hb dX3_nextToFire_34 rfl (lv_at hl 1 rfl) ?_
      refine y_calli hx hb hml hU hown hR hcs h (c_X3_hasEnough l D cy ad τ _ (n := i) (by omega) hB) umX3_189 ui_X3_hasEnough us_X3_hasEnough unX3 uc_X3_hasEnough hd_X3_hasEnough (by decide) (by decide) (t_recvM h) hl.1 rfl (Nat.le_of_ble_eq_true rfl) dX3_nextToFire_35 (fun r u H locs hw h => ?_)
      obtain ⟨rfl, hu⟩ := hw
      have h : XT D cy ad s A H locs τ := by rw [← hu]; exact h
      clear hu
      refine z_if_eq (tgt := 43) hx hb dX3_nextToFire_38 (by decide) (fun c_38 => ?_) (fun c_38 => ?_)
      · refine lv_iinc (v := nI (i + 1)) (lv' := [(1, .int (nI (i + 1))), (0, .ref (ad 0))]) hx hb dX3_nextToFire_43 hl (k := 1) rfl (by rw [← nI_add]; rfl) (by decide) rfl (fun ls hl => ?_)
        refine lv_goto (tgt := 2) hx hb dX3_nextToFire_46 (by decide) ?_
        exact ih (i + 1) _ _ _ (by omega) h (lv_sub hl [1, 0] rfl) (fun q => K1 (by rw [findB_go (by show (decide _ && _) = false; first | (rw [decide_eq_false (by omega)]; rfl) | (rw [c_38]; exact Bool.and_false _)), q]; omega)) (fun j q hj => K2 j (by rw [findB_go (by show (decide _ && _) = false; first | (rw [decide_eq_false (by omega)]; rfl) | (rw [c_38]; exact Bool.and_false _)), q]) (by omega))
      · exact K2 i (findB_yes (by show (decide _ && _) = true; rw [decide_eq_true c_30, c_38]; rfl)) (by omega) _ _ _ h (lv_sub hl [0, 1] rfl)
set_option maxRecDepth 100000 in
set_option maxHeartbeats 4000000 in
theorem c_X3_nextToFire (l : Launch) (D : va_G) (cy : Nat → ClassId) (ad : Nat → Nat) (σ : TS) (sz : Nat) (hB : LayB σ) : MTi l D cy ad yX3_nextToFire cX3_nextToFire 2 .int (rmd 1) [.ref (ad 0)] σ sz (fun r u => r = (if T_next σ < σ.1 20 0 then nI (T_next σ) else (-1)) ∧ u = σ) := by
  refine Met.ofW (cc := cX3_nextToFire) (maxL := 2) (ret := (some .int)) (by decide) rfl ?_
  intro p ev s m args below meth c s₁ B hml hv
  obtain ⟨rfl, hw⟩ := hv
  have hx := B.exec
  have hb := B.bytes
  have hr := B.returns
  have hlk := B.notSynchronized
  have hU : ∀ w ∈ UW, w.before _ s = true := fun w hw => atoms_spec (ws := Cond.code yX3_nextToFire cX3_nextToFire 2 (some .int) :: UW) B.pre w (List.mem_cons_of_mem _ hw)
  have hown : s.vm.findClass RX3 = some m.cls := findClass_of_methodNamed B.named
  have hR : 1 ≤ (headSpec (Cond.code yX3_nextToFire cX3_nextToFire 2 (some .int) :: UW) (rmd 1)).room.frames ∧ 32 * 1 ≤ (headSpec (Cond.code yX3_nextToFire cX3_nextToFire 2 (some .int) :: UW) (rmd 1)).room.locals := ⟨Nat.le_refl _, Nat.le_refl _⟩
  have hcs : 0 ≤ (headSpec (Cond.code yX3_nextToFire cX3_nextToFire 2 (some .int) :: UW) (rmd 1)).room.cells ∧ 0 ≤ (headSpec (Cond.code yX3_nextToFire cX3_nextToFire 2 (some .int) :: UW) (rmd 1)).room.slots := ⟨Nat.zero_le _, Nat.zero_le _⟩
  have h := WX.start hw
  clear hw
  generalize va_A (wv _ _ _) _ = A at h ⊢
  have hl := lv_entry ([.ref (ad 0)]) (n := 2) (Nat.le_of_ble_eq_true rfl)
  rw [lg_entry_eq]
  generalize (lg_sl ([.ref (ad 0)]) ++ List.replicate (2 - (lg_sl ([.ref (ad 0)])).length) Slot.unset).toArray = ls at hl ⊢
  have hl : lv_has ls 2 [(0, .ref (ad 0))] := hl
  refine lv_iconst (v := nI 0) hx hb dX3_nextToFire_0 (by decide +kernel) ?_
  refine lv_istore_n (lv' := [(1, .int (nI 0)), (0, .ref (ad 0))]) hx hb dX3_nextToFire_1 rfl hl (by decide) rfl (fun ls hl => ?_)
  refine lp_X3_nextToFire hx hb hml hU hown hR hcs hB (σ.1 20 0) 0 _ _ _ (Nat.zero_add _) h (lv_sub hl [1, 0] rfl) (fun hq H locs ls h hl => ?_) (fun j hq hj H locs ls h hl => ?_)
  · refine lv_iconst (v := (-1)) hx hb dX3_nextToFire_49 (by decide +kernel) ?_
    exact W.iret (v := (-1)) hx hb hr (fun t ht hW => ⟨⟨_, _, rfl, ⟨(by unfold T_next; rw [hq]; first | (rw [if_neg (by omega)]; done) | (rw [if_pos (by omega)]; done)), rfl⟩, h.at ht hW⟩, h.2.2.2.2.F ht⟩) h.2.2.2.2.2.2 dX3_nextToFire_50
  · refine lv_iload_n hx hb dX3_nextToFire_41 rfl (lv_at hl 1 rfl) ?_
    exact W.iret (v := nI j) hx hb hr (fun t ht hW => ⟨⟨_, _, rfl, ⟨(by unfold T_next; rw [hq]; first | (rw [if_neg (by omega)]; done) | (rw [if_pos (by omega)]; done)), rfl⟩, h.at ht hW⟩, h.2.2.2.2.F ht⟩) h.2.2.2.2.2.2 dX3_nextToFire_42
def T_eFire_s (n : Nat) : Nat → TS → TS := fun q τ => T_eFire τ q n
def T_count (σ : TS) (n : Nat) : TS := itr (T_eFire_s n) (σ.1 21 0) 0 (sN σ 5 n (σ.1 5 n + 1))
theorem T_eFire_N (τ : TS) (q n f j : Nat) : (T_eFire τ q n).1 f j = if f = 15 ∧ j = q then T_eLy τ q n else if f = 16 ∧ j = q then max (τ.1 16 q) (T_eLy τ q n) else τ.1 f j := by
  show up2 (up2 τ.1 15 q (T_eLy τ q n)) 16 q _ f j = _
  unfold up2
  by_cases h1 : f = 16 ∧ j = q
  · rw [if_pos h1, if_neg (by omega), if_pos h1]
  · rw [if_neg h1, if_neg h1]
theorem T_eLy_same {σ τ : TS} {q n : Nat} (h : ∀ f, 10 ≤ f → f ≤ 15 → σ.1 f q = τ.1 f q) : T_eLy σ q n = T_eLy τ q n := by
  unfold T_eLy
  rw [h 10 (by decide) (by decide), h 11 (by decide) (by decide), h 12 (by decide) (by decide), h 13 (by decide) (by decide), h 15 (by decide) (by decide)]
theorem itr_eFire_N (n : Nat) : ∀ (k i : Nat) (τ : TS) (f j : Nat), (itr (T_eFire_s n) k i τ).1 f j = if f = 15 ∧ i ≤ j ∧ j < i + k then T_eLy τ j n else if f = 16 ∧ i ≤ j ∧ j < i + k then max (τ.1 16 j) (T_eLy τ j n) else τ.1 f j := by
  intro k
  induction k with
  | zero => intro i τ f j; rw [if_neg (by omega), if_neg (by omega)]; rfl
  | succ k ih =>
    intro i τ f j
    show (itr (T_eFire_s n) k (i + 1) (T_eFire τ i n)).1 f j = _
    rw [ih]
    by_cases e : j = i
    · subst e
      rw [if_neg (by omega), if_neg (by omega), T_eFire_N]
      by_cases e1 : f = 15
      · rw [if_pos (by omega), if_pos (by omega)]
      · rw [if_neg (by omega), if_neg (show ¬ (f = 15 ∧ _) by omega)]
        by_cases e2 : f = 16
        · rw [if_pos (by omega), if_pos (by omega)]
        · rw [if_neg (by omega), if_neg (by omega)]
    · have e3 : ∀ f, (T_eFire τ i n).1 f j = τ.1 f j := fun f => by rw [T_eFire_N, if_neg (by omega), if_neg (by omega)]
      rw [T_eLy_same (σ := T_eFire τ i n) (τ := τ) (fun f _ _ => e3 f), e3, e3]
      by_cases e1 : f = 15 ∧ i + 1 ≤ j ∧ j < i + 1 + k
      · rw [if_pos e1, if_pos (show f = 15 ∧ i ≤ j ∧ j < i + (k + 1) by omega)]
      · rw [if_neg e1, if_neg (show ¬ (f = 15 ∧ i ≤ j ∧ j < i + (k + 1)) by omega)]
        by_cases e2 : f = 16 ∧ i + 1 ≤ j ∧ j < i + 1 + k
        · rw [if_pos e2, if_pos (show f = 16 ∧ i ≤ j ∧ j < i + (k + 1) by omega)]
        · rw [if_neg e2, if_neg (show ¬ (f = 16 ∧ i ≤ j ∧ j < i + (k + 1)) by omega)]
def EF (τ : TS) (n q : Nat) : Prop := τ.1 10 q < 2 ^ 20 ∧ τ.1 11 q < 2 ^ 20 ∧ τ.1 12 q < 2 ^ 20 ∧ τ.1 13 q < 2 ^ 20 ∧ τ.1 15 q < 2 ^ 20 ∧ τ.1 16 q < 2 ^ 20 ∧ (τ.1 11 q = n → τ.1 13 q ≤ τ.1 15 q)
set_option maxRecDepth 100000 in
set_option maxHeartbeats 4000000 in
theorem lp_X3_countFiring {p : Program} {l : Launch} {ev : Env} {R : Room} {s : State} {m : MethodId} {args : Array Value} {below : List Frame} {meth : Method} {c : Code} {cells slots : Nat} {Q : State → Prop} {D : va_G} {cy : Nat → ClassId} {ad : Nat → Nat} {A : Nat → Prop} (hx : p.tables.exec = Jvm.exec) (hb : c.code = cX3_countFiring) (hml : c.maxLocals = 3) (hU : ∀ w ∈ UW, w.before args s = true) (hown : s.vm.findClass RX3 = some m.cls) (hR : 2 ≤ R.frames ∧ 32 * 2 ≤ R.locals) (hcs : cells ≤ R.cells ∧ slots ≤ R.slots) {n : Nat} (hn : n < 2 ^ 20) :
    ∀ (k i : Nat) (τ : TS) (H : Heap) (locs : List Loc) (ls : Array Slot), (i + k = τ.1 21 0 ∧ τ.1 21 0 ≤ 12 ∧ ∀ q, i ≤ q → q < τ.1 21 0 → EF τ n q) → XT D cy ad s A H locs τ → lv_has ls 3 [(0, .ref (ad 0)), (1, .int (nI n)), (2, .int (nI i))] → (∀ (H : Heap) (locs : List Loc) (ls : Array Slot), XT D cy ad s A H locs (itr (T_eFire_s n) k i τ) → lv_has ls 3 [(0, .ref (ad 0))] → W p l ev R s m args below meth c H locs cells slots Q (F0 m 41 ls [])) → W p l ev R s m args below meth c H locs cells slots Q (F0 m 17 ls []) := by
  intro k
  induction k with
  | zero =>
    intro i τ H locs ls hc h hl K
    refine lv_iload_n hx hb dX3_countFiring_17 rfl (lv_at hl 2 rfl) ?_
    refine lv_aload_n hx hb dX3_countFiring_18 rfl (lv_at hl 0 rfl) ?_
    refine t_gM hx hb hU hown h 5 (by decide) ufX3_57 (v := .int (nI (τ.1 21 0))) rfl dX3_countFiring_19 ?_
    refine n_icmp_ge (tgt := 41) hx hb (by omega) (by omega) dX3_countFiring_22 (by decide) (fun c_22 => ?_) (fun c_22 => absurd c_22 (by omega))
    exact K _ _ _ h (lv_sub hl [0] rfl)
  | succ k ih =>
    intro i τ H locs ls hc h hl K
    have h9 := hc.2.2 i (Nat.le_refl _) (by omega)
    refine lv_iload_n hx hb dX3_countFiring_17 rfl (lv_at hl 2 rfl) ?_
    refine lv_aload_n hx hb dX3_countFiring_18 rfl (lv_at hl 0 rfl) ?_
    refine t_gM hx hb hU hown h 5 (by decide) ufX3_57 (v := .int (nI (τ.1 21 0))) rfl dX3_countFiring_19 ?_
    refine n_icmp_ge (tgt := 41) hx hb (by omega) (by omega) dX3_countFiring_22 (by decide) (fun c_22 => absurd c_22 (by omega)) (fun c_22 => ?_)
    refine lv_aload_n hx hb dX3_countFiring_25 rfl (lv_at hl 0 rfl) ?_
    refine t_gM hx hb hU hown h 1 (by decide) ufX3_18 (v := .ref (ad 2)) rfl dX3_countFiring_26 ?_
    refine lv_iload_n hx hb dX3_countFiring_29 rfl (lv_at hl 2 rfl) ?_
    refine t_aE hx hb h (by omega) dX3_countFiring_30 ?_
    refine lv_iload_n hx hb dX3_countFiring_31 rfl (lv_at hl 1 rfl) ?_
    refine y_callv hx hb hml hU hown hR hcs h (c_X1_countFiring l D cy ad τ _ (q := i) (by omega) hn ⟨h9.1, h9.2.1, h9.2.2.1, h9.2.2.2.1, h9.2.2.2.2.1, h9.2.2.2.2.2.1⟩ h9.2.2.2.2.2.2) umX3_195 ui_X1_countFiring us_X1_countFiring unX1 uc_X1_countFiring hd_X1_countFiring (by decide) (by decide) (t_recvE h (by omega)) hl.1 rfl (Nat.le_of_ble_eq_true rfl) dX3_countFiring_32 (fun u H locs hw h => ?_)
    have hu := hw
    have h : XT D cy ad s A H locs (T_eFire τ i n) := by rw [← hu]; exact h
    clear hu
    refine lv_iinc (v := nI (i + 1)) (lv' := [(2, .int (nI (i + 1))), (0, .ref (ad 0)), (1, .int (nI n))]) hx hb dX3_countFiring_35 hl (k := 2) rfl (by rw [← nI_add]; rfl) (by decide) rfl (fun ls hl => ?_)
    refine lv_goto (tgt := 17) hx hb dX3_countFiring_38 (by decide) ?_
    exact ih (i + 1) (T_eFire τ i n) _ _ _ (by have e : ∀ f j, f ≠ 15 → f ≠ 16 → (T_eFire τ i n).1 f j = τ.1 f j := fun f j h1 h2 => (by rw [T_eFire_N, if_neg (by omega), if_neg (by omega)]); have e3 : ∀ f j, j ≠ i → (T_eFire τ i n).1 f j = τ.1 f j := fun f j h1 => (by rw [T_eFire_N, if_neg (by omega), if_neg (by omega)]); rw [e 21 0 (by decide) (by decide)]; refine ⟨by omega, hc.2.1, fun q h1 h2 => ?_⟩; unfold EF; rw [e3 10 q (by omega), e3 11 q (by omega), e3 12 q (by omega), e3 13 q (by omega), e3 15 q (by omega), e3 16 q (by omega)]; exact hc.2.2 q (by omega) h2) h (lv_sub hl [1, 2, 0] rfl) K
set_option maxRecDepth 100000 in
set_option maxHeartbeats 4000000 in
theorem c_X3_countFiring (l : Launch) (D : va_G) (cy : Nat → ClassId) (ad : Nat → Nat) (σ : TS) (sz : Nat) {n : Nat} (hn : n < 8) (h12 : σ.1 21 0 ≤ 12) (he : ∀ q, q < σ.1 21 0 → EF σ n q) : MTv l D cy ad yX3_countFiring cX3_countFiring 3 (rmd 2) [.ref (ad 0), .int (nI n)] σ sz (fun u => u = T_count σ n) := by
  refine Met.ofW (cc := cX3_countFiring) (maxL := 3) (ret := none) (by decide) rfl ?_
  intro p ev s m args below meth c s₁ B hml hv
  obtain ⟨rfl, hw⟩ := hv
  have hx := B.exec
  have hb := B.bytes
  have hr := B.returns
  have hlk := B.notSynchronized
  have hU : ∀ w ∈ UW, w.before _ s = true := fun w hw => atoms_spec (ws := Cond.code yX3_countFiring cX3_countFiring 3 none :: UW) B.pre w (List.mem_cons_of_mem _ hw)
  have hown : s.vm.findClass RX3 = some m.cls := findClass_of_methodNamed B.named
  have hR : 2 ≤ (headSpec (Cond.code yX3_countFiring cX3_countFiring 3 none :: UW) (rmd 2)).room.frames ∧ 32 * 2 ≤ (headSpec (Cond.code yX3_countFiring cX3_countFiring 3 none :: UW) (rmd 2)).room.locals := ⟨Nat.le_refl _, Nat.le_refl _⟩
  have hcs : 0 ≤ (headSpec (Cond.code yX3_countFiring cX3_countFiring 3 none :: UW) (rmd 2)).room.cells ∧ 0 ≤ (headSpec (Cond.code yX3_countFiring cX3_countFiring 3 none :: UW) (rmd 2)).room.slots := ⟨Nat.zero_le _, Nat.zero_le _⟩
  have h := WX.start hw
  clear hw
  generalize va_A (wv _ _ _) _ = A at h ⊢
  have hl := lv_entry ([.ref (ad 0), .int (nI n)]) (n := 3) (Nat.le_of_ble_eq_true rfl)
  rw [lg_entry_eq]
  generalize (lg_sl ([.ref (ad 0), .int (nI n)]) ++ List.replicate (3 - (lg_sl ([.ref (ad 0), .int (nI n)])).length) Slot.unset).toArray = ls at hl ⊢
  have hl : lv_has ls 3 [(0, .ref (ad 0)), (1, .int (nI n))] := hl
  refine lv_aload_n hx hb dX3_countFiring_0 rfl (lv_at hl 0 rfl) ?_
  refine t_gM hx hb hU hown h 0 (by decide) ufX3_11 (v := .ref (ad 1)) rfl dX3_countFiring_1 ?_
  refine lv_iload_n hx hb dX3_countFiring_4 rfl (lv_at hl 1 rfl) ?_
  refine t_aA hx hb h hn dX3_countFiring_5 ?_
  refine lv_dup hx hb dX3_countFiring_6 rfl ?_
  refine t_gA hx hb hU hown h hn 5 (by decide) ufX3_176 (v := .int (nI (σ.1 5 n))) rfl dX3_countFiring_7 ?_
  refine lv_iconst (v := nI 1) hx hb dX3_countFiring_10 (by decide +kernel) ?_
  refine n_iadd hx hb dX3_countFiring_11 ?_
  refine t_pA5 hx hb hU hown h hn ufX3_176 dX3_countFiring_12 (fun H locs h => ?_)
  refine lv_iconst (v := nI 0) hx hb dX3_countFiring_15 (by decide +kernel) ?_
  refine lv_istore_n (lv' := [(2, .int (nI 0)), (0, .ref (ad 0)), (1, .int (nI n))]) hx hb dX3_countFiring_16 rfl hl (by decide) rfl (fun ls hl => ?_)
  refine lp_X3_countFiring hx hb hml hU hown hR hcs (by omega) (σ.1 21 0) 0 _ _ _ _ ⟨by rw [sN_k _ _ _ _ (by decide)]; omega, by rw [sN_k _ _ _ _ (by decide)]; exact h12, fun q _ h2 => (by rw [sN_k _ _ _ _ (by decide)] at h2; unfold EF; rw [sN_k _ _ _ _ (by decide), sN_k _ _ _ _ (by decide), sN_k _ _ _ _ (by decide), sN_k _ _ _ _ (by decide), sN_k _ _ _ _ (by decide), sN_k _ _ _ _ (by decide)]; exact he q h2)⟩ h (lv_sub hl [1, 2, 0] rfl) (fun H locs ls h hl => ?_)
  exact W.vret hx hb hr (fun t ht hW => ⟨⟨_, rfl, rfl, h.at ht hW⟩, h.2.2.2.2.F ht⟩) h.2.2.2.2.2.2 dX3_countFiring_41
theorem T_count_N (σ : TS) (n f j : Nat) : (T_count σ n).1 f j = if f = 15 ∧ j < σ.1 21 0 then T_eLy σ j n else if f = 16 ∧ j < σ.1 21 0 then max (σ.1 16 j) (T_eLy σ j n) else if f = 5 ∧ j = n then σ.1 5 n + 1 else σ.1 f j := by
  unfold T_count
  rw [itr_eFire_N, T_eLy_same (σ := sN σ 5 n (σ.1 5 n + 1)) (τ := σ) (fun f h1 h2 => sN_k _ _ _ _ (by omega)), sN_k _ _ _ _ (by decide)]
  by_cases e1 : f = 15 ∧ j < σ.1 21 0
  · rw [if_pos (by omega), if_pos e1]
  · rw [if_neg (by omega), if_neg e1]
    by_cases e2 : f = 16 ∧ j < σ.1 21 0
    · rw [if_pos (by omega), if_pos e2]
    · rw [if_neg (by omega), if_neg e2]
      rfl
def T_lay : Nat → Nat → TS → Bool × TS
  | 0, _, τ => (true, τ)
  | k + 1, i, τ => if T_next τ < τ.1 20 0 then T_lay k (i + 1) (T_count (sN τ 23 i (T_next τ)) (T_next τ)) else (false, τ)
/-- while the plan is laid out: i firings are written down -/
def LayI (i : Nat) (τ : TS) : Prop := TNet τ ∧ (∀ n, n < τ.1 20 0 → τ.1 5 n ≤ i ∧ τ.1 4 n < 2 ^ 40) ∧ ∀ q, q < τ.1 21 0 → τ.1 15 q ≤ 9 + 9 * i ∧ τ.1 16 q ≤ 9 + 9 * i
theorem LayI.B {i : Nat} {τ : TS} (h : LayI i τ) (hi : i ≤ 200) : LayB τ := by
  obtain ⟨⟨a1, a2, a3⟩, b, d⟩ := h
  refine ⟨a1, a2, fun n hn => ?_, fun q hq => ?_⟩
  · have := b n hn; omega
  · have := a3 q hq; have := d q hq; omega
theorem findB_spec {p : Nat → Bool} : ∀ (k i : Nat), findB p k i < i + k → p (findB p k i) = true := by
  intro k
  induction k with
  | zero => intro i h; exact absurd h (Nat.lt_irrefl _)
  | succ k ih =>
    intro i h
    by_cases e : p i = true
    · rw [findB_yes e]; exact e
    · rw [findB_go (Bool.eq_false_iff.mpr e)] at h ⊢
      exact ih (i + 1) (by omega)
theorem T_next_spec {τ : TS} (h : T_next τ < τ.1 20 0) : τ.1 5 (T_next τ) < τ.1 4 (T_next τ) ∧ ∀ q, q < τ.1 21 0 → τ.1 11 q = T_next τ → τ.1 13 q ≤ τ.1 15 q := by
  have h1 := findB_spec (p := fun n => decide (τ.1 5 n < τ.1 4 n) && T_enough τ n) (τ.1 20 0) 0 (by rw [Nat.zero_add]; exact h)
  rw [Bool.and_eq_true] at h1
  refine ⟨of_decide_eq_true h1.1, fun q hq he => ?_⟩
  have h2 := (allB_iff _ _).mp h1.2 q (Nat.zero_le _) (by omega)
  exact of_decide_eq_true h2 he
theorem LayI_next {i : Nat} {τ : TS} (h : LayI i τ) (hn : T_next τ < τ.1 20 0) : LayI (i + 1) (T_count (sN τ 23 i (T_next τ)) (T_next τ)) := by
  obtain ⟨a, b, d⟩ := h
  obtain ⟨s1, s2⟩ := T_next_spec hn
  have e : ∀ f j, f ≠ 15 → f ≠ 16 → f ≠ 5 → f ≠ 23 → (T_count (sN τ 23 i (T_next τ)) (T_next τ)).1 f j = τ.1 f j := fun f j h1 h2 h3 h4 => by
    rw [T_count_N, if_neg (by omega), if_neg (by omega), if_neg (by omega), sN_k _ _ _ _ h4]
  have el : ∀ q, T_eLy (sN τ 23 i (T_next τ)) q (T_next τ) = T_eLy τ q (T_next τ) := fun q => T_eLy_same (fun f _ _ => sN_k _ _ _ _ (by omega))
  refine ⟨?_, ?_, ?_⟩
  · unfold TNet
    rw [e 20 0 (by decide) (by decide) (by decide) (by decide), e 21 0 (by decide) (by decide) (by decide) (by decide)]
    refine ⟨a.1, a.2.1, fun q hq => ?_⟩
    rw [e 10 q (by decide) (by decide) (by decide) (by decide), e 11 q (by decide) (by decide) (by decide) (by decide), e 12 q (by decide) (by decide) (by decide) (by decide), e 13 q (by decide) (by decide) (by decide) (by decide), e 14 q (by decide) (by decide) (by decide) (by decide)]
    exact a.2.2 q hq
  · rw [e 20 0 (by decide) (by decide) (by decide) (by decide)]
    intro n hn'
    rw [e 4 n (by decide) (by decide) (by decide) (by decide), T_count_N, if_neg (by omega), if_neg (by omega), sN_k _ _ _ _ (by decide), sN_k _ _ _ _ (by decide)]
    have := b n hn'
    have := b _ hn
    split <;> omega
  · rw [e 21 0 (by decide) (by decide) (by decide) (by decide)]
    intro q hq
    have := d q hq
    have := a.2.2 q hq
    have hl : T_eLy τ q (T_next τ) ≤ τ.1 15 q + 9 := by unfold T_eLy; split <;> split <;> omega
    rw [T_count_N, T_count_N, sN_k _ _ _ _ (by decide), if_pos (by omega), if_neg (by omega), if_pos (by omega), el, sN_k _ _ _ _ (by decide)]
    omega
def T_lay_f : Nat → TS → TS := fun n τ => sN τ 5 n 0
def T_lay_e : Nat → TS → TS := fun q τ => T_eCount τ q
def T_layOut (σ : TS) (F : Nat) : Bool × TS := T_lay F 0 (itr T_lay_e (σ.1 21 0) 0 (itr T_lay_f (σ.1 20 0) 0 σ))
theorem itr_lay_f_N : ∀ (k i : Nat) (τ : TS) (f j : Nat), (itr T_lay_f k i τ).1 f j = if f = 5 ∧ i ≤ j ∧ j < i + k then 0 else τ.1 f j := by
  intro k
  induction k with
  | zero => intro i τ f j; rw [if_neg (by omega)]; rfl
  | succ k ih =>
    intro i τ f j
    show (itr T_lay_f k (i + 1) (sN τ 5 i 0)).1 f j = _
    rw [ih]
    by_cases e : f = 5 ∧ j = i
    · rw [if_neg (by omega), if_pos (by omega), e.1, e.2]; exact up2_eq _ _ _ _
    · rw [show (sN τ 5 i 0).1 f j = τ.1 f j from by show up2 τ.1 5 i 0 f j = _; unfold up2; rw [if_neg e]]
      by_cases e1 : f = 5 ∧ i + 1 ≤ j ∧ j < i + 1 + k
      · rw [if_pos e1, if_pos (show f = 5 ∧ i ≤ j ∧ j < i + (k + 1) by omega)]
      · rw [if_neg e1, if_neg (show ¬ (f = 5 ∧ i ≤ j ∧ j < i + (k + 1)) by omega)]
theorem T_eCount_N (τ : TS) (q f j : Nat) : (T_eCount τ q).1 f j = if (f = 15 ∨ f = 16) ∧ j = q then τ.1 14 q else τ.1 f j := by
  show up2 (up2 τ.1 15 q (τ.1 14 q)) 16 q (τ.1 14 q) f j = _
  unfold up2
  by_cases e1 : f = 16 ∧ j = q
  · rw [if_pos e1, if_pos (by omega)]
  · rw [if_neg e1]
    by_cases e2 : f = 15 ∧ j = q
    · rw [if_pos e2, if_pos (by omega)]
    · rw [if_neg e2, if_neg (by omega)]
theorem itr_lay_e_N : ∀ (k i : Nat) (τ : TS) (f j : Nat), (itr T_lay_e k i τ).1 f j = if (f = 15 ∨ f = 16) ∧ i ≤ j ∧ j < i + k then τ.1 14 j else τ.1 f j := by
  intro k
  induction k with
  | zero => intro i τ f j; rw [if_neg (by omega)]; rfl
  | succ k ih =>
    intro i τ f j
    show (itr T_lay_e k (i + 1) (T_eCount τ i)).1 f j = _
    rw [ih, T_eCount_N, T_eCount_N, if_neg (show ¬ ((14 = 15 ∨ 14 = 16) ∧ j = i) by omega)]
    by_cases e : (f = 15 ∨ f = 16) ∧ j = i
    · rw [if_neg (by omega), if_pos e, if_pos (by omega), e.2]
    · rw [if_neg e]
      by_cases e1 : (f = 15 ∨ f = 16) ∧ i + 1 ≤ j ∧ j < i + 1 + k
      · rw [if_pos e1, if_pos (show (f = 15 ∨ f = 16) ∧ i ≤ j ∧ j < i + (k + 1) by omega)]
      · rw [if_neg e1, if_neg (show ¬ ((f = 15 ∨ f = 16) ∧ i ≤ j ∧ j < i + (k + 1)) by omega)]
theorem LayI_start {σ : TS} (h : TNet σ) (hr : ∀ n, n < σ.1 20 0 → σ.1 4 n < 2 ^ 40) : LayI 0 (itr T_lay_e (σ.1 21 0) 0 (itr T_lay_f (σ.1 20 0) 0 σ)) := by
  have e : ∀ f j, f ≠ 15 → f ≠ 16 → f ≠ 5 → (itr T_lay_e (σ.1 21 0) 0 (itr T_lay_f (σ.1 20 0) 0 σ)).1 f j = σ.1 f j := fun f j h1 h2 h3 => by
    rw [itr_lay_e_N, if_neg (by omega), itr_lay_f_N, if_neg (by omega)]
  refine ⟨?_, ?_, ?_⟩
  · unfold TNet
    rw [e 20 0 (by decide) (by decide) (by decide), e 21 0 (by decide) (by decide) (by decide)]
    refine ⟨h.1, h.2.1, fun q hq => ?_⟩
    rw [e 10 q (by decide) (by decide) (by decide), e 11 q (by decide) (by decide) (by decide), e 12 q (by decide) (by decide) (by decide), e 13 q (by decide) (by decide) (by decide), e 14 q (by decide) (by decide) (by decide)]
    exact h.2.2 q hq
  · rw [e 20 0 (by decide) (by decide) (by decide)]
    intro n hn
    rw [e 4 n (by decide) (by decide) (by decide), itr_lay_e_N, if_neg (by omega), itr_lay_f_N, if_pos (by omega)]
    exact ⟨Nat.le_refl _, hr n hn⟩
  · rw [e 21 0 (by decide) (by decide) (by decide)]
    intro q hq
    rw [itr_lay_e_N, if_pos (by omega), itr_lay_e_N, if_pos (by omega), itr_lay_f_N, if_neg (by omega)]
    have := h.2.2 q hq
    omega
set_option maxRecDepth 100000 in
set_option maxHeartbeats 4000000 in
theorem lp_X3_layOut1 {p : Program} {l : Launch} {ev : Env} {R : Room} {s : State} {m : MethodId} {args : Array Value} {below : List Frame} {meth : Method} {c : Code} {cells slots : Nat} {Q : State → Prop} {D : va_G} {cy : Nat → ClassId} {ad : Nat → Nat} {A : Nat → Prop} (hx : p.tables.exec = Jvm.exec) (hb : c.code = cX3_layOut) (hml : c.maxLocals = 4) (hU : ∀ w ∈ UW, w.before args s = true) (hown : s.vm.findClass RX3 = some m.cls) (hR : 3 ≤ R.frames ∧ 32 * 3 ≤ R.locals) (hcs : cells ≤ R.cells ∧ slots ≤ R.slots) {F : Nat} :
    ∀ (k i : Nat) (τ : TS) (H : Heap) (locs : List Loc) (ls : Array Slot), (i + k = τ.1 20 0 ∧ τ.1 20 0 ≤ 8) → XT D cy ad s A H locs τ → lv_has ls 4 [(0, .ref (ad 0)), (1, .int (nI F)), (2, .int (nI i))] → (∀ (H : Heap) (locs : List Loc) (ls : Array Slot), XT D cy ad s A H locs (itr T_lay_f k i τ) → lv_has ls 4 [(0, .ref (ad 0)), (1, .int (nI F))] → W p l ev R s m args below meth c H locs cells slots Q (F0 m 26 ls [])) → W p l ev R s m args below meth c H locs cells slots Q (F0 m 2 ls []) := by
  intro k
  induction k with
  | zero =>
    intro i τ H locs ls hc h hl K
    refine lv_iload_n hx hb dX3_layOut_2 rfl (lv_at hl 2 rfl) ?_
    refine lv_aload_n hx hb dX3_layOut_3 rfl (lv_at hl 0 rfl) ?_
    refine t_gM hx hb hU hown h 4 (by decide) ufX3_34 (v := .int (nI (τ.1 20 0))) rfl dX3_layOut_4 ?_
    refine n_icmp_ge (tgt := 26) hx hb (by omega) (by omega) dX3_layOut_7 (by decide) (fun c_7 => ?_) (fun c_7 => absurd c_7 (by omega))
    exact K _ _ _ h (lv_sub hl [0, 1] rfl)
  | succ k ih =>
    intro i τ H locs ls hc h hl K
    refine lv_iload_n hx hb dX3_layOut_2 rfl (lv_at hl 2 rfl) ?_
    refine lv_aload_n hx hb dX3_layOut_3 rfl (lv_at hl 0 rfl) ?_
    refine t_gM hx hb hU hown h 4 (by decide) ufX3_34 (v := .int (nI (τ.1 20 0))) rfl dX3_layOut_4 ?_
    refine n_icmp_ge (tgt := 26) hx hb (by omega) (by omega) dX3_layOut_7 (by decide) (fun c_7 => absurd c_7 (by omega)) (fun c_7 => ?_)
    refine lv_aload_n hx hb dX3_layOut_10 rfl (lv_at hl 0 rfl) ?_
    refine t_gM hx hb hU hown h 0 (by decide) ufX3_11 (v := .ref (ad 1)) rfl dX3_layOut_11 ?_
    refine lv_iload_n hx hb dX3_layOut_14 rfl (lv_at hl 2 rfl) ?_
    refine t_aA hx hb h (by omega) dX3_layOut_15 ?_
    refine lv_iconst (v := nI 0) hx hb dX3_layOut_16 (by decide +kernel) ?_
    refine t_pA5 hx hb hU hown h (by omega) ufX3_176 dX3_layOut_17 (fun H locs h => ?_)
    refine lv_iinc (v := nI (i + 1)) (lv' := [(2, .int (nI (i + 1))), (0, .ref (ad 0)), (1, .int (nI F))]) hx hb dX3_layOut_20 hl (k := 2) rfl (by rw [← nI_add]; rfl) (by decide) rfl (fun ls hl => ?_)
    refine lv_goto (tgt := 2) hx hb dX3_layOut_23 (by decide) ?_
    exact ih (i + 1) (sN τ 5 i 0) _ _ _ ⟨by rw [sN_k _ _ _ _ (by decide)]; omega, by rw [sN_k _ _ _ _ (by decide)]; exact hc.2⟩ h (lv_sub hl [1, 2, 0] rfl) K
set_option maxRecDepth 100000 in
set_option maxHeartbeats 4000000 in
theorem lp_X3_layOut2 {p : Program} {l : Launch} {ev : Env} {R : Room} {s : State} {m : MethodId} {args : Array Value} {below : List Frame} {meth : Method} {c : Code} {cells slots : Nat} {Q : State → Prop} {D : va_G} {cy : Nat → ClassId} {ad : Nat → Nat} {A : Nat → Prop} (hx : p.tables.exec = Jvm.exec) (hb : c.code = cX3_layOut) (hml : c.maxLocals = 4) (hU : ∀ w ∈ UW, w.before args s = true) (hown : s.vm.findClass RX3 = some m.cls) (hR : 3 ≤ R.frames ∧ 32 * 3 ≤ R.locals) (hcs : cells ≤ R.cells ∧ slots ≤ R.slots) {F : Nat} :
    ∀ (k i : Nat) (τ : TS) (H : Heap) (locs : List Loc) (ls : Array Slot), (i + k = τ.1 21 0 ∧ τ.1 21 0 ≤ 12) → XT D cy ad s A H locs τ → lv_has ls 4 [(0, .ref (ad 0)), (1, .int (nI F)), (2, .int (nI i))] → (∀ (H : Heap) (locs : List Loc) (ls : Array Slot), XT D cy ad s A H locs (itr T_lay_e k i τ) → lv_has ls 4 [(0, .ref (ad 0)), (1, .int (nI F))] → W p l ev R s m args below meth c H locs cells slots Q (F0 m 51 ls [])) → W p l ev R s m args below meth c H locs cells slots Q (F0 m 28 ls []) := by
  intro k
  induction k with
  | zero =>
    intro i τ H locs ls hc h hl K
    refine lv_iload_n hx hb dX3_layOut_28 rfl (lv_at hl 2 rfl) ?_
    refine lv_aload_n hx hb dX3_layOut_29 rfl (lv_at hl 0 rfl) ?_
    refine t_gM hx hb hU hown h 5 (by decide) ufX3_57 (v := .int (nI (τ.1 21 0))) rfl dX3_layOut_30 ?_
    refine n_icmp_ge (tgt := 51) hx hb (by omega) (by omega) dX3_layOut_33 (by decide) (fun c_33 => ?_) (fun c_33 => absurd c_33 (by omega))
    exact K _ _ _ h (lv_sub hl [0, 1] rfl)
  | succ k ih =>
    intro i τ H locs ls hc h hl K
    refine lv_iload_n hx hb dX3_layOut_28 rfl (lv_at hl 2 rfl) ?_
    refine lv_aload_n hx hb dX3_layOut_29 rfl (lv_at hl 0 rfl) ?_
    refine t_gM hx hb hU hown h 5 (by decide) ufX3_57 (v := .int (nI (τ.1 21 0))) rfl dX3_layOut_30 ?_
    refine n_icmp_ge (tgt := 51) hx hb (by omega) (by omega) dX3_layOut_33 (by decide) (fun c_33 => absurd c_33 (by omega)) (fun c_33 => ?_)
    refine lv_aload_n hx hb dX3_layOut_36 rfl (lv_at hl 0 rfl) ?_
    refine t_gM hx hb hU hown h 1 (by decide) ufX3_18 (v := .ref (ad 2)) rfl dX3_layOut_37 ?_
    refine lv_iload_n hx hb dX3_layOut_40 rfl (lv_at hl 2 rfl) ?_
    refine t_aE hx hb h (by omega) dX3_layOut_41 ?_
    refine y_callv hx hb hml hU hown hR hcs h (c_X1_beginCounting l D cy ad τ _ (q := i) (by omega)) umX3_179 ui_X1_beginCounting us_X1_beginCounting unX1 uc_X1_beginCounting hd_X1_beginCounting (by decide) (by decide) (t_recvE h (by omega)) hl.1 rfl (Nat.le_of_ble_eq_true rfl) dX3_layOut_42 (fun u H locs hw h => ?_)
    have hu := hw
    have h : XT D cy ad s A H locs (T_eCount τ i) := by rw [← hu]; exact h
    clear hu
    refine lv_iinc (v := nI (i + 1)) (lv' := [(2, .int (nI (i + 1))), (0, .ref (ad 0)), (1, .int (nI F))]) hx hb dX3_layOut_45 hl (k := 2) rfl (by rw [← nI_add]; rfl) (by decide) rfl (fun ls hl => ?_)
    refine lv_goto (tgt := 28) hx hb dX3_layOut_48 (by decide) ?_
    exact ih (i + 1) (T_eCount τ i) _ _ _ ⟨by rw [T_eCount_N, if_neg (by omega)]; omega, by rw [T_eCount_N, if_neg (by omega)]; exact hc.2⟩ h (lv_sub hl [1, 2, 0] rfl) K
set_option maxRecDepth 100000 in
set_option maxHeartbeats 4000000 in
theorem lp_X3_layOut3 {p : Program} {l : Launch} {ev : Env} {R : Room} {s : State} {m : MethodId} {args : Array Value} {below : List Frame} {meth : Method} {c : Code} {cells slots : Nat} {Q : State → Prop} {D : va_G} {cy : Nat → ClassId} {ad : Nat → Nat} {A : Nat → Prop} (hx : p.tables.exec = Jvm.exec) (hb : c.code = cX3_layOut) (hml : c.maxLocals = 4) (hU : ∀ w ∈ UW, w.before args s = true) (hown : s.vm.findClass RX3 = some m.cls) (hR : 3 ≤ R.frames ∧ 32 * 3 ≤ R.locals) (hcs : cells ≤ R.cells ∧ slots ≤ R.slots) {F : Nat} :
    ∀ (k i : Nat) (τ : TS) (H : Heap) (locs : List Loc) (ls : Array Slot), (i + k = F ∧ F ≤ 200) → LayI i τ → XT D cy ad s A H locs τ → lv_has ls 4 [(0, .ref (ad 0)), (1, .int (nI F)), (2, .int (nI i))] → ((T_lay k i τ).1 = true → ∀ (H : Heap) (locs : List Loc) (ls : Array Slot), XT D cy ad s A H locs (T_lay k i τ).2 → lv_has ls 4 [(0, .ref (ad 0))] → W p l ev R s m args below meth c H locs cells slots Q (F0 m 94 ls [])) → ((T_lay k i τ).1 = false → ∀ (H : Heap) (locs : List Loc) (ls : Array Slot), XT D cy ad s A H locs (T_lay k i τ).2 → lv_has ls 4 [(0, .ref (ad 0))] → W p l ev R s m args below meth c H locs cells slots Q (F0 m 74 ls [])) → W p l ev R s m args below meth c H locs cells slots Q (F0 m 53 ls []) := by
  intro k
  induction k with
  | zero =>
    intro i τ H locs ls hc hI h hl K1 K2
    refine lv_iload_n hx hb dX3_layOut_53 rfl (lv_at hl 2 rfl) ?_
    refine lv_iload_n hx hb dX3_layOut_54 rfl (lv_at hl 1 rfl) ?_
    refine n_icmp_ge (tgt := 94) hx hb (by omega) (by omega) dX3_layOut_55 (by decide) (fun c_55 => ?_) (fun c_55 => absurd c_55 (by omega))
    exact K1 rfl _ _ _ h (lv_sub hl [0] rfl)
  | succ k ih =>
    intro i τ H locs ls hc hI h hl K1 K2
    refine lv_iload_n hx hb dX3_layOut_53 rfl (lv_at hl 2 rfl) ?_
    refine lv_iload_n hx hb dX3_layOut_54 rfl (lv_at hl 1 rfl) ?_
    refine n_icmp_ge (tgt := 94) hx hb (by omega) (by omega) dX3_layOut_55 (by decide) (fun c_55 => absurd c_55 (by omega)) (fun c_55 => ?_)
    refine lv_iload_n hx hb dX3_layOut_58 rfl (lv_at hl 2 rfl) ?_
    refine lv_sipush (v := nI 200) hx hb dX3_layOut_59 (by decide +kernel) ?_
    refine n_icmp_ge (tgt := 94) hx hb (by omega) (by omega) dX3_layOut_62 (by decide) (fun c_62 => absurd c_62 (by omega)) (fun c_62 => ?_)
    refine lv_aload_n hx hb dX3_layOut_65 rfl (lv_at hl 0 rfl) ?_
    refine y_calli hx hb hml hU hown hR hcs h (c_X3_nextToFire l D cy ad τ _ (hI.B (by omega))) umX3_182 ui_X3_nextToFire us_X3_nextToFire unX3 uc_X3_nextToFire hd_X3_nextToFire (by decide) (by decide) (t_recvM h) hl.1 rfl (Nat.le_of_ble_eq_true rfl) dX3_layOut_66 (fun r u H locs hw h => ?_)
    obtain ⟨hr9, hu⟩ := hw
    have h : XT D cy ad s A H locs τ := by rw [← hu]; exact h
    clear hu
    by_cases hn : T_next τ < τ.1 20 0
    · rw [if_pos hn] at hr9
      subst hr9
      have hs := T_next_spec hn
      have h8 := hI.1.1
      refine lv_istore_n (lv' := [(3, .int (nI (T_next τ))), (0, .ref (ad 0)), (1, .int (nI F)), (2, .int (nI i))]) hx hb dX3_layOut_69 rfl hl (by decide) rfl (fun ls hl => ?_)
      refine lv_iload_n hx hb dX3_layOut_70 rfl (lv_at hl 0 rfl) ?_
      refine n_if_ge (tgt := 76) hx hb (by omega) dX3_layOut_71 (by decide) ?_
      refine lv_aload_n hx hb dX3_layOut_76 rfl (lv_at hl 1 rfl) ?_
      refine t_gM hx hb hU hown h 2 (by decide) ufX3_23 (v := .ref (ad 3)) rfl dX3_layOut_77 ?_
      refine lv_iload_n hx hb dX3_layOut_80 rfl (lv_at hl 3 rfl) ?_
      refine lv_iload_n hx hb dX3_layOut_81 rfl (lv_at hl 0 rfl) ?_
      refine t_sF hx hb h (by omega) dX3_layOut_82 (fun H locs h => ?_)
      refine lv_aload_n hx hb dX3_layOut_83 rfl (lv_at hl 1 rfl) ?_
      refine lv_iload_n hx hb dX3_layOut_84 rfl (lv_at hl 0 rfl) ?_
      refine y_callv hx hb hml hU hown hR hcs h (c_X3_countFiring l D cy ad (sN τ 23 i (T_next τ)) _ (n := T_next τ) (by omega) (by rw [sN_k _ _ _ _ (by decide)]; exact hI.1.2.1) (fun q hq => (by rw [sN_k _ _ _ _ (by decide)] at hq; have b1 := hI.1.2.2 q hq; have b2 := hI.2.2 q hq; have b3 := hs.2 q hq; unfold EF; rw [sN_k _ _ _ _ (by decide), sN_k _ _ _ _ (by decide), sN_k _ _ _ _ (by decide), sN_k _ _ _ _ (by decide), sN_k _ _ _ _ (by decide), sN_k _ _ _ _ (by decide)]; refine ⟨by omega, by omega, by omega, by omega, by omega, by omega, b3⟩))) umX3_186 ui_X3_countFiring us_X3_countFiring unX3 uc_X3_countFiring hd_X3_countFiring (by decide) (by decide) (t_recvM h) hl.1 rfl (Nat.le_of_ble_eq_true rfl) dX3_layOut_85 (fun u H locs hw h => ?_)
      have hu := hw
      have h : XT D cy ad s A H locs (T_count (sN τ 23 i (T_next τ)) (T_next τ)) := by rw [← hu]; exact h
      clear hu
      refine lv_iinc (v := nI (i + 1)) (lv' := [(2, .int (nI (i + 1))), (3, .int (nI (T_next τ))), (0, .ref (ad 0)), (1, .int (nI F))]) hx hb dX3_layOut_88 hl (k := 3) rfl (by rw [← nI_add]; rfl) (by decide) rfl (fun ls hl => ?_)
      refine lv_goto (tgt := 53) hx hb dX3_layOut_91 (by decide) ?_
      rw [show T_lay (k + 1) i τ = T_lay k (i + 1) (T_count (sN τ 23 i (T_next τ)) (T_next τ)) from if_pos hn] at K1 K2
      exact ih (i + 1) (T_count (sN τ 23 i (T_next τ)) (T_next τ)) _ _ _ ⟨by omega, hc.2⟩ (LayI_next hI hn) h (lv_sub hl [2, 3, 0] rfl) K1 K2
    · rw [if_neg hn] at hr9
      subst hr9
      refine lv_istore_n (lv' := [(3, .int ((-1))), (0, .ref (ad 0)), (1, .int (nI F)), (2, .int (nI i))]) hx hb dX3_layOut_69 rfl hl (by decide) rfl (fun ls hl => ?_)
      refine lv_iload_n hx hb dX3_layOut_70 rfl (lv_at hl 0 rfl) ?_
      refine lv_if_ge (tgt := 76) hx hb dX3_layOut_71 (by decide) (fun c_71 => absurd c_71 (by decide)) (fun c_71 => ?_)
      rw [show T_lay (k + 1) i τ = (false, τ) from if_neg hn] at K2
      exact K2 rfl _ _ _ h (lv_sub hl [1] rfl)
set_option maxRecDepth 100000 in
set_option maxHeartbeats 4000000 in
theorem c_X3_layOut (l : Launch) (D : va_G) (cy : Nat → ClassId) (ad : Nat → Nat) (σ : TS) (sz : Nat) {F : Nat} (hF : F ≤ 200) (hn : TNet σ) (hr9 : ∀ n, n < σ.1 20 0 → σ.1 4 n < 2 ^ 40) : MTi l D cy ad yX3_layOut cX3_layOut 4 .boolean (rmd 3) [.ref (ad 0), .int (nI F)] σ sz (fun r u => r = bI (T_layOut σ F).1 ∧ u = (T_layOut σ F).2) := by
  refine Met.ofW (cc := cX3_layOut) (maxL := 4) (ret := (some .boolean)) (by decide) rfl ?_
  intro p ev s m args below meth c s₁ B hml hv
  obtain ⟨rfl, hw⟩ := hv
  have hx := B.exec
  have hb := B.bytes
  have hr := B.returns
  have hlk := B.notSynchronized
  have hU : ∀ w ∈ UW, w.before _ s = true := fun w hw => atoms_spec (ws := Cond.code yX3_layOut cX3_layOut 4 (some .boolean) :: UW) B.pre w (List.mem_cons_of_mem _ hw)
  have hown : s.vm.findClass RX3 = some m.cls := findClass_of_methodNamed B.named
  have hR : 3 ≤ (headSpec (Cond.code yX3_layOut cX3_layOut 4 (some .boolean) :: UW) (rmd 3)).room.frames ∧ 32 * 3 ≤ (headSpec (Cond.code yX3_layOut cX3_layOut 4 (some .boolean) :: UW) (rmd 3)).room.locals := ⟨Nat.le_refl _, Nat.le_refl _⟩
  have hcs : 0 ≤ (headSpec (Cond.code yX3_layOut cX3_layOut 4 (some .boolean) :: UW) (rmd 3)).room.cells ∧ 0 ≤ (headSpec (Cond.code yX3_layOut cX3_layOut 4 (some .boolean) :: UW) (rmd 3)).room.slots := ⟨Nat.zero_le _, Nat.zero_le _⟩
  have h := WX.start hw
  clear hw
  generalize va_A (wv _ _ _) _ = A at h ⊢
  have hl := lv_entry ([.ref (ad 0), .int (nI F)]) (n := 4) (Nat.le_of_ble_eq_true rfl)
  rw [lg_entry_eq]
  generalize (lg_sl ([.ref (ad 0), .int (nI F)]) ++ List.replicate (4 - (lg_sl ([.ref (ad 0), .int (nI F)])).length) Slot.unset).toArray = ls at hl ⊢
  have hl : lv_has ls 4 [(0, .ref (ad 0)), (1, .int (nI F))] := hl
  refine lv_iconst (v := nI 0) hx hb dX3_layOut_0 (by decide +kernel) ?_
  refine lv_istore_n (lv' := [(2, .int (nI 0)), (0, .ref (ad 0)), (1, .int (nI F))]) hx hb dX3_layOut_1 rfl hl (by decide) rfl (fun ls hl => ?_)
  refine lp_X3_layOut1 hx hb hml hU hown hR hcs  (σ.1 20 0) 0 _ _ _ _ ⟨Nat.zero_add _, hn.1⟩ h (lv_sub hl [1, 2, 0] rfl) (fun H locs ls h hl => ?_)
  refine lv_iconst (v := nI 0) hx hb dX3_layOut_26 (by decide +kernel) ?_
  refine lv_istore_n (lv' := [(2, .int (nI 0)), (0, .ref (ad 0)), (1, .int (nI F))]) hx hb dX3_layOut_27 rfl hl (by decide) rfl (fun ls hl => ?_)
  refine lp_X3_layOut2 hx hb hml hU hown hR hcs  (σ.1 21 0) 0 _ _ _ _ ⟨by rw [itr_lay_f_N, if_neg (by omega)]; omega, by rw [itr_lay_f_N, if_neg (by omega)]; exact hn.2.1⟩ h (lv_sub hl [1, 2, 0] rfl) (fun H locs ls h hl => ?_)
  refine lv_iconst (v := nI 0) hx hb dX3_layOut_51 (by decide +kernel) ?_
  refine lv_istore_n (lv' := [(2, .int (nI 0)), (0, .ref (ad 0)), (1, .int (nI F))]) hx hb dX3_layOut_52 rfl hl (by decide) rfl (fun ls hl => ?_)
  refine lp_X3_layOut3 hx hb hml hU hown hR hcs F 0 (itr T_lay_e (σ.1 21 0) 0 (itr T_lay_f (σ.1 20 0) 0 σ)) _ _ _ ⟨Nat.zero_add _, hF⟩ (LayI_start hn hr9) h (lv_sub hl [1, 2, 0] rfl) (fun hq H locs ls h hl => ?_) (fun hq H locs ls h hl => ?_)
  · refine lv_iconst (v := nI 1) hx hb dX3_layOut_94 (by decide +kernel) ?_
    exact W.zret (v := nI 1) hx hb hr (by decide +kernel) (fun t ht hW => ⟨⟨_, _, rfl, ⟨(by unfold T_layOut; rw [hq]; rfl), rfl⟩, h.at ht hW⟩, h.2.2.2.2.F ht⟩) h.2.2.2.2.2.2 dX3_layOut_95
  · refine lv_iconst (v := nI 0) hx hb dX3_layOut_74 (by decide +kernel) ?_
    exact W.zret (v := nI 0) hx hb hr (by decide +kernel) (fun t ht hW => ⟨⟨_, _, rfl, ⟨(by unfold T_layOut; rw [hq]; rfl), rfl⟩, h.at ht hW⟩, h.2.2.2.2.F ht⟩) h.2.2.2.2.2.2 dX3_layOut_75
