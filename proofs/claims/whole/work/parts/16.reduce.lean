/-! ===== TokenFlow: connected, balanced, reduced, summed ===== -/
set_option maxRecDepth 100000 in
set_option maxHeartbeats 4000000 in
theorem lp_X3_isConnected {p : Program} {l : Launch} {ev : Env} {R : Room} {s : State} {m : MethodId} {args : Array Value} {below : List Frame} {meth : Method} {c : Code} {cells slots : Nat} {Q : State → Prop} {D : va_G} {cy : Nat → ClassId} {ad : Nat → Nat} {A : Nat → Prop} (hx : p.tables.exec = Jvm.exec) (hb : c.code = cX3_isConnected) (hml : c.maxLocals = 2) (hU : ∀ w ∈ UW, w.before args s = true) (hown : s.vm.findClass RX3 = some m.cls) (hR : 0 ≤ R.frames ∧ 32 * 0 ≤ R.locals) (hcs : cells ≤ R.cells ∧ slots ≤ R.slots) {τ : TS} (h8 : τ.1 20 0 ≤ 8) (hr : ∀ n, n < τ.1 20 0 → τ.1 4 n < 2 ^ 63) :
    ∀ (k i : Nat) (H : Heap) (locs : List Loc) (ls : Array Slot), (i + k = τ.1 20 0) → XT D cy ad s A H locs τ → lv_has ls 2 [(0, .ref (ad 0)), (1, .int (nI i))] → (allB (fun n => decide (τ.1 4 n ≠ 0)) k i = true → (∀ (H : Heap) (locs : List Loc) (ls : Array Slot), XT D cy ad s A H locs τ → lv_has ls 2 [(0, .ref (ad 0))] → W p l ev R s m args below meth c H locs cells slots Q (F0 m 32 ls []))) → (allB (fun n => decide (τ.1 4 n ≠ 0)) k i = false → (∀ (H : Heap) (locs : List Loc) (ls : Array Slot), XT D cy ad s A H locs τ → lv_has ls 2 [(0, .ref (ad 0))] → W p l ev R s m args below meth c H locs cells slots Q (F0 m 24 ls []))) → W p l ev R s m args below meth c H locs cells slots Q (F0 m 2 ls []) := by
  intro k
  induction k with
  | zero =>
    intro i H locs ls hc h hl K1 K2
    refine lv_iload_n hx hb dX3_isConnected_2 rfl (lv_at hl 1 rfl) ?_
    refine lv_aload_n hx hb dX3_isConnected_3 rfl (lv_at hl 0 rfl) ?_
    refine t_gM hx hb hU hown h 4 (by decide) ufX3_34 (v := .int (nI (τ.1 20 0))) rfl dX3_isConnected_4 ?_
    refine n_icmp_ge (tgt := 32) hx hb (by omega) (by omega) dX3_isConnected_7 (by decide) (fun c_7 => ?_) (fun c_7 => absurd c_7 (by omega))
    exact K1 rfl _ _ _ h (lv_sub hl [0] rfl)
  | succ k ih =>
    intro i H locs ls hc h hl K1 K2
    refine lv_iload_n hx hb dX3_isConnected_2 rfl (lv_at hl 1 rfl) ?_
    refine lv_aload_n hx hb dX3_isConnected_3 rfl (lv_at hl 0 rfl) ?_
    refine t_gM hx hb hU hown h 4 (by decide) ufX3_34 (v := .int (nI (τ.1 20 0))) rfl dX3_isConnected_4 ?_
    refine n_icmp_ge (tgt := 32) hx hb (by omega) (by omega) dX3_isConnected_7 (by decide) (fun c_7 => absurd c_7 (by omega)) (fun c_7 => ?_)
    refine lv_aload_n hx hb dX3_isConnected_10 rfl (lv_at hl 0 rfl) ?_
    refine t_gM hx hb hU hown h 0 (by decide) ufX3_11 (v := .ref (ad 1)) rfl dX3_isConnected_11 ?_
    refine lv_iload_n hx hb dX3_isConnected_14 rfl (lv_at hl 1 rfl) ?_
    refine t_aA hx hb h (by omega) dX3_isConnected_15 ?_
    refine t_gA hx hb hU hown h (by omega) 4 (by decide) ufX3_131 (v := .long (lN (τ.1 4 i))) rfl dX3_isConnected_16 ?_
    refine lv_lconst (v := lN 0) hx hb dX3_isConnected_19 (by decide +kernel) ?_
    refine W.lcmp hx hb dX3_isConnected_20 ?_
    refine n_lif_ne (tgt := 26) hx hb (hr i (by omega)) (by decide) dX3_isConnected_21 (by decide) (fun c_21 => ?_) (fun c_21 => ?_)
    · refine lv_iinc (v := nI (i + 1)) (lv' := [(1, .int (nI (i + 1))), (0, .ref (ad 0))]) hx hb dX3_isConnected_26 hl (k := 1) rfl (by rw [← nI_add]; rfl) (by decide) rfl (fun ls hl => ?_)
      refine lv_goto (tgt := 2) hx hb dX3_isConnected_29 (by decide) ?_
      exact ih (i + 1) _ _ _ (by omega) h (lv_sub hl [1, 0] rfl) (fun q => K1 (by rw [allB_go (decide_eq_true c_21)]; exact q)) (fun q => K2 (by rw [allB_go (decide_eq_true c_21)]; exact q))
    · exact K2 (allB_no (decide_eq_false (fun q => q c_21))) _ _ _ h (lv_sub hl [0] rfl)
set_option maxRecDepth 100000 in
set_option maxHeartbeats 4000000 in
theorem c_X3_isConnected (l : Launch) (D : va_G) (cy : Nat → ClassId) (ad : Nat → Nat) (σ : TS) (sz : Nat) (h8 : σ.1 20 0 ≤ 8) (hr9 : ∀ n, n < σ.1 20 0 → σ.1 4 n < 2 ^ 63) : MTi l D cy ad yX3_isConnected cX3_isConnected 2 .boolean (rmd 0) [.ref (ad 0)] σ sz (fun r u => r = bI (allB (fun n => decide (σ.1 4 n ≠ 0)) (σ.1 20 0) 0 && decide (0 < σ.1 20 0)) ∧ u = σ) := by
  refine Met.ofW (cc := cX3_isConnected) (maxL := 2) (ret := (some .boolean)) (by decide) rfl ?_
  intro p ev s m args below meth c s₁ B hml hv
  obtain ⟨rfl, hw⟩ := hv
  have hx := B.exec
  have hb := B.bytes
  have hr := B.returns
  have hlk := B.notSynchronized
  have hU : ∀ w ∈ UW, w.before _ s = true := fun w hw => atoms_spec (ws := Cond.code yX3_isConnected cX3_isConnected 2 (some .boolean) :: UW) B.pre w (List.mem_cons_of_mem _ hw)
  have hown : s.vm.findClass RX3 = some m.cls := findClass_of_methodNamed B.named
  have hR : 0 ≤ (headSpec (Cond.code yX3_isConnected cX3_isConnected 2 (some .boolean) :: UW) (rmd 0)).room.frames ∧ 32 * 0 ≤ (headSpec (Cond.code yX3_isConnected cX3_isConnected 2 (some .boolean) :: UW) (rmd 0)).room.locals := ⟨Nat.le_refl _, Nat.le_refl _⟩
  have hcs : 0 ≤ (headSpec (Cond.code yX3_isConnected cX3_isConnected 2 (some .boolean) :: UW) (rmd 0)).room.cells ∧ 0 ≤ (headSpec (Cond.code yX3_isConnected cX3_isConnected 2 (some .boolean) :: UW) (rmd 0)).room.slots := ⟨Nat.zero_le _, Nat.zero_le _⟩
  have h := WX.start hw
  clear hw
  generalize va_A (wv _ _ _) _ = A at h ⊢
  have hl := lv_entry ([.ref (ad 0)]) (n := 2) (Nat.le_of_ble_eq_true rfl)
  rw [lg_entry_eq]
  generalize (lg_sl ([.ref (ad 0)]) ++ List.replicate (2 - (lg_sl ([.ref (ad 0)])).length) Slot.unset).toArray = ls at hl ⊢
  have hl : lv_has ls 2 [(0, .ref (ad 0))] := hl
  refine lv_iconst (v := nI 0) hx hb dX3_isConnected_0 (by decide +kernel) ?_
  refine lv_istore_n (lv' := [(1, .int (nI 0)), (0, .ref (ad 0))]) hx hb dX3_isConnected_1 rfl hl (by decide) rfl (fun ls hl => ?_)
  refine lp_X3_isConnected hx hb hml hU hown hR hcs h8 hr9 (σ.1 20 0) 0 _ _ _ (Nat.zero_add _) h (lv_sub hl [1, 0] rfl) (fun hq H locs ls h hl => ?_) (fun hq H locs ls h hl => ?_)
  · refine lv_aload_n hx hb dX3_isConnected_32 rfl (lv_at hl 0 rfl) ?_
    refine t_gM hx hb hU hown h 4 (by decide) ufX3_34 (v := .int (nI (σ.1 20 0))) rfl dX3_isConnected_33 ?_
    refine n_if_le (tgt := 43) hx hb (by omega) dX3_isConnected_36 (by decide) (fun c_36 => ?_) (fun c_36 => ?_)
    · refine lv_iconst (v := nI 0) hx hb dX3_isConnected_43 (by decide +kernel) ?_
      exact W.zret (v := nI 0) hx hb hr (by decide +kernel) (fun t ht hW => ⟨⟨_, _, rfl, ⟨(by rw [hq]; first | rfl | (rw [decide_eq_true c_36]; rfl) | (rw [decide_eq_false (by omega)]; rfl)), rfl⟩, h.at ht hW⟩, h.2.2.2.2.F ht⟩) h.2.2.2.2.2.2 dX3_isConnected_44
    · refine lv_iconst (v := nI 1) hx hb dX3_isConnected_39 (by decide +kernel) ?_
      refine lv_goto (tgt := 44) hx hb dX3_isConnected_40 (by decide) ?_
      exact W.zret (v := nI 1) hx hb hr (by decide +kernel) (fun t ht hW => ⟨⟨_, _, rfl, ⟨(by rw [hq]; first | rfl | (rw [decide_eq_true c_36]; rfl) | (rw [decide_eq_false (by omega)]; rfl)), rfl⟩, h.at ht hW⟩, h.2.2.2.2.F ht⟩) h.2.2.2.2.2.2 dX3_isConnected_44
  · refine lv_iconst (v := nI 0) hx hb dX3_isConnected_24 (by decide +kernel) ?_
    exact W.zret (v := nI 0) hx hb hr (by decide +kernel) (fun t ht hW => ⟨⟨_, _, rfl, ⟨(by rw [hq]; first | rfl | (rw [decide_eq_true c_36]; rfl) | (rw [decide_eq_false (by omega)]; rfl)), rfl⟩, h.at ht hW⟩, h.2.2.2.2.F ht⟩) h.2.2.2.2.2.2 dX3_isConnected_25
set_option maxRecDepth 100000 in
set_option maxHeartbeats 4000000 in
theorem lp_X3_isBalanced {p : Program} {l : Launch} {ev : Env} {R : Room} {s : State} {m : MethodId} {args : Array Value} {below : List Frame} {meth : Method} {c : Code} {cells slots : Nat} {Q : State → Prop} {D : va_G} {cy : Nat → ClassId} {ad : Nat → Nat} {A : Nat → Prop} (hx : p.tables.exec = Jvm.exec) (hb : c.code = cX3_isBalanced) (hml : c.maxLocals = 5) (hU : ∀ w ∈ UW, w.before args s = true) (hown : s.vm.findClass RX3 = some m.cls) (hR : 0 ≤ R.frames ∧ 32 * 0 ≤ R.locals) (hcs : cells ≤ R.cells ∧ slots ≤ R.slots) {τ : TS} (h8 : τ.1 20 0 ≤ 8) (h12 : τ.1 21 0 ≤ 12) (hr : ∀ n, n < τ.1 20 0 → τ.1 4 n < 2 ^ 40) (he : ∀ q, q < τ.1 21 0 → τ.1 10 q < τ.1 20 0 ∧ τ.1 11 q < τ.1 20 0 ∧ τ.1 12 q ≤ 9 ∧ τ.1 13 q ≤ 9) :
    ∀ (k i : Nat) (H : Heap) (locs : List Loc) (ls : Array Slot), (i + k = τ.1 21 0) → XT D cy ad s A H locs τ → lv_has ls 5 [(0, .ref (ad 0)), (1, .int (nI i))] → (allB (fun q => decide (τ.1 4 (τ.1 10 q) * τ.1 12 q = τ.1 4 (τ.1 11 q) * τ.1 13 q)) k i = true → (∀ (H : Heap) (locs : List Loc) (ls : Array Slot), XT D cy ad s A H locs τ → lv_has ls 5 [(0, .ref (ad 0))] → W p l ev R s m args below meth c H locs cells slots Q (F0 m 67 ls []))) → (allB (fun q => decide (τ.1 4 (τ.1 10 q) * τ.1 12 q = τ.1 4 (τ.1 11 q) * τ.1 13 q)) k i = false → (∀ (H : Heap) (locs : List Loc) (ls : Array Slot), XT D cy ad s A H locs τ → lv_has ls 5 [(0, .ref (ad 0))] → W p l ev R s m args below meth c H locs cells slots Q (F0 m 59 ls []))) → W p l ev R s m args below meth c H locs cells slots Q (F0 m 2 ls []) := by
  intro k
  induction k with
  | zero =>
    intro i H locs ls hc h hl K1 K2
    refine lv_iload_n hx hb dX3_isBalanced_2 rfl (lv_at hl 1 rfl) ?_
    refine lv_aload_n hx hb dX3_isBalanced_3 rfl (lv_at hl 0 rfl) ?_
    refine t_gM hx hb hU hown h 5 (by decide) ufX3_57 (v := .int (nI (τ.1 21 0))) rfl dX3_isBalanced_4 ?_
    refine n_icmp_ge (tgt := 67) hx hb (by omega) (by omega) dX3_isBalanced_7 (by decide) (fun c_7 => ?_) (fun c_7 => absurd c_7 (by omega))
    exact K1 rfl _ _ _ h (lv_sub hl [0] rfl)
  | succ k ih =>
    intro i H locs ls hc h hl K1 K2
    have h9 := he i (by omega)
    have h3 : τ.1 4 (τ.1 10 i) * τ.1 12 i < 2 ^ 63 := Nat.lt_of_le_of_lt (Nat.mul_le_mul_left _ h9.2.2.1) (by have := hr _ h9.1; omega)
    have h4 : τ.1 4 (τ.1 11 i) * τ.1 13 i < 2 ^ 63 := Nat.lt_of_le_of_lt (Nat.mul_le_mul_left _ h9.2.2.2) (by have := hr _ h9.2.1; omega)
    refine lv_iload_n hx hb dX3_isBalanced_2 rfl (lv_at hl 1 rfl) ?_
    refine lv_aload_n hx hb dX3_isBalanced_3 rfl (lv_at hl 0 rfl) ?_
    refine t_gM hx hb hU hown h 5 (by decide) ufX3_57 (v := .int (nI (τ.1 21 0))) rfl dX3_isBalanced_4 ?_
    refine n_icmp_ge (tgt := 67) hx hb (by omega) (by omega) dX3_isBalanced_7 (by decide) (fun c_7 => absurd c_7 (by omega)) (fun c_7 => ?_)
    refine lv_aload_n hx hb dX3_isBalanced_10 rfl (lv_at hl 0 rfl) ?_
    refine t_gM hx hb hU hown h 1 (by decide) ufX3_18 (v := .ref (ad 2)) rfl dX3_isBalanced_11 ?_
    refine lv_iload_n hx hb dX3_isBalanced_14 rfl (lv_at hl 1 rfl) ?_
    refine t_aE hx hb h (by omega) dX3_isBalanced_15 ?_
    refine lv_astore_n (lv' := [(2, .ref (ad (13 + i))), (0, .ref (ad 0)), (1, .int (nI i))]) hx hb dX3_isBalanced_16 rfl hl (by decide) rfl (fun ls hl => ?_)
    refine lv_aload_n hx hb dX3_isBalanced_17 rfl (lv_at hl 1 rfl) ?_
    refine t_gM hx hb hU hown h 0 (by decide) ufX3_11 (v := .ref (ad 1)) rfl dX3_isBalanced_18 ?_
    refine lv_aload_n hx hb dX3_isBalanced_21 rfl (lv_at hl 0 rfl) ?_
    refine t_gE hx hb hU hown h (by omega) 0 (by decide) ufX3_60 (v := .int (nI (τ.1 10 i))) rfl dX3_isBalanced_22 ?_
    refine t_aA hx hb h (by omega) dX3_isBalanced_25 ?_
    refine t_gA hx hb hU hown h (by omega) 4 (by decide) ufX3_131 (v := .long (lN (τ.1 4 (τ.1 10 i)))) rfl dX3_isBalanced_26 ?_
    refine lv_aload_n hx hb dX3_isBalanced_29 rfl (lv_at hl 0 rfl) ?_
    refine t_gE hx hb hU hown h (by omega) 2 (by decide) ufX3_66 (v := .int (nI (τ.1 12 i))) rfl dX3_isBalanced_30 ?_
    refine n_i2l hx hb (by omega) dX3_isBalanced_33 ?_
    refine n_lmul hx hb dX3_isBalanced_34 ?_
    refine lv_lstore_n (lv' := [(3, .long (lN ((τ.1 4 (τ.1 10 i)) * (τ.1 12 i)))), (2, .ref (ad (13 + i))), (0, .ref (ad 0)), (1, .int (nI i))]) hx hb dX3_isBalanced_35 rfl hl (by decide) rfl (fun ls hl => ?_)
    refine lv_lload_n hx hb dX3_isBalanced_36 rfl (lv_at hl 0 rfl) ?_
    refine lv_aload_n hx hb dX3_isBalanced_37 rfl (lv_at hl 2 rfl) ?_
    refine t_gM hx hb hU hown h 0 (by decide) ufX3_11 (v := .ref (ad 1)) rfl dX3_isBalanced_38 ?_
    refine lv_aload_n hx hb dX3_isBalanced_41 rfl (lv_at hl 1 rfl) ?_
    refine t_gE hx hb hU hown h (by omega) 1 (by decide) ufX3_63 (v := .int (nI (τ.1 11 i))) rfl dX3_isBalanced_42 ?_
    refine t_aA hx hb h (by omega) dX3_isBalanced_45 ?_
    refine t_gA hx hb hU hown h (by omega) 4 (by decide) ufX3_131 (v := .long (lN (τ.1 4 (τ.1 11 i)))) rfl dX3_isBalanced_46 ?_
    refine lv_aload_n hx hb dX3_isBalanced_49 rfl (lv_at hl 1 rfl) ?_
    refine t_gE hx hb hU hown h (by omega) 3 (by decide) ufX3_69 (v := .int (nI (τ.1 13 i))) rfl dX3_isBalanced_50 ?_
    refine n_i2l hx hb (by omega) dX3_isBalanced_53 ?_
    refine n_lmul hx hb dX3_isBalanced_54 ?_
    refine W.lcmp hx hb dX3_isBalanced_55 ?_
    refine n_lif_eq (tgt := 61) hx hb h3 h4 dX3_isBalanced_56 (by decide) (fun c_56 => ?_) (fun c_56 => ?_)
    · refine lv_iinc (v := nI (i + 1)) (lv' := [(1, .int (nI (i + 1))), (3, .long (lN ((τ.1 4 (τ.1 10 i)) * (τ.1 12 i)))), (2, .ref (ad (13 + i))), (0, .ref (ad 0))]) hx hb dX3_isBalanced_61 hl (k := 3) rfl (by rw [← nI_add]; rfl) (by decide) rfl (fun ls hl => ?_)
      refine lv_goto (tgt := 2) hx hb dX3_isBalanced_64 (by decide) ?_
      exact ih (i + 1) _ _ _ (by omega) h (lv_sub hl [3, 0] rfl) (fun q => K1 (by rw [allB_go (decide_eq_true c_56)]; exact q)) (fun q => K2 (by rw [allB_go (decide_eq_true c_56)]; exact q))
    · exact K2 (allB_no (decide_eq_false c_56)) _ _ _ h (lv_sub hl [2] rfl)
set_option maxRecDepth 100000 in
set_option maxHeartbeats 4000000 in
theorem c_X3_isBalanced (l : Launch) (D : va_G) (cy : Nat → ClassId) (ad : Nat → Nat) (σ : TS) (sz : Nat) (h8 : σ.1 20 0 ≤ 8) (h12 : σ.1 21 0 ≤ 12) (hr9 : ∀ n, n < σ.1 20 0 → σ.1 4 n < 2 ^ 40) (he : ∀ q, q < σ.1 21 0 → σ.1 10 q < σ.1 20 0 ∧ σ.1 11 q < σ.1 20 0 ∧ σ.1 12 q ≤ 9 ∧ σ.1 13 q ≤ 9) : MTi l D cy ad yX3_isBalanced cX3_isBalanced 5 .boolean (rmd 0) [.ref (ad 0)] σ sz (fun r u => r = bI (allB (fun q => decide (σ.1 4 (σ.1 10 q) * σ.1 12 q = σ.1 4 (σ.1 11 q) * σ.1 13 q)) (σ.1 21 0) 0) ∧ u = σ) := by
  refine Met.ofW (cc := cX3_isBalanced) (maxL := 5) (ret := (some .boolean)) (by decide) rfl ?_
  intro p ev s m args below meth c s₁ B hml hv
  obtain ⟨rfl, hw⟩ := hv
  have hx := B.exec
  have hb := B.bytes
  have hr := B.returns
  have hlk := B.notSynchronized
  have hU : ∀ w ∈ UW, w.before _ s = true := fun w hw => atoms_spec (ws := Cond.code yX3_isBalanced cX3_isBalanced 5 (some .boolean) :: UW) B.pre w (List.mem_cons_of_mem _ hw)
  have hown : s.vm.findClass RX3 = some m.cls := findClass_of_methodNamed B.named
  have hR : 0 ≤ (headSpec (Cond.code yX3_isBalanced cX3_isBalanced 5 (some .boolean) :: UW) (rmd 0)).room.frames ∧ 32 * 0 ≤ (headSpec (Cond.code yX3_isBalanced cX3_isBalanced 5 (some .boolean) :: UW) (rmd 0)).room.locals := ⟨Nat.le_refl _, Nat.le_refl _⟩
  have hcs : 0 ≤ (headSpec (Cond.code yX3_isBalanced cX3_isBalanced 5 (some .boolean) :: UW) (rmd 0)).room.cells ∧ 0 ≤ (headSpec (Cond.code yX3_isBalanced cX3_isBalanced 5 (some .boolean) :: UW) (rmd 0)).room.slots := ⟨Nat.zero_le _, Nat.zero_le _⟩
  have h := WX.start hw
  clear hw
  generalize va_A (wv _ _ _) _ = A at h ⊢
  have hl := lv_entry ([.ref (ad 0)]) (n := 5) (Nat.le_of_ble_eq_true rfl)
  rw [lg_entry_eq]
  generalize (lg_sl ([.ref (ad 0)]) ++ List.replicate (5 - (lg_sl ([.ref (ad 0)])).length) Slot.unset).toArray = ls at hl ⊢
  have hl : lv_has ls 5 [(0, .ref (ad 0))] := hl
  refine lv_iconst (v := nI 0) hx hb dX3_isBalanced_0 (by decide +kernel) ?_
  refine lv_istore_n (lv' := [(1, .int (nI 0)), (0, .ref (ad 0))]) hx hb dX3_isBalanced_1 rfl hl (by decide) rfl (fun ls hl => ?_)
  refine lp_X3_isBalanced hx hb hml hU hown hR hcs h8 h12 hr9 he (σ.1 21 0) 0 _ _ _ (Nat.zero_add _) h (lv_sub hl [1, 0] rfl) (fun hq H locs ls h hl => ?_) (fun hq H locs ls h hl => ?_)
  · refine lv_iconst (v := nI 1) hx hb dX3_isBalanced_67 (by decide +kernel) ?_
    exact W.zret (v := nI 1) hx hb hr (by decide +kernel) (fun t ht hW => ⟨⟨_, _, rfl, ⟨(by rw [hq]; rfl), rfl⟩, h.at ht hW⟩, h.2.2.2.2.F ht⟩) h.2.2.2.2.2.2 dX3_isBalanced_68
  · refine lv_iconst (v := nI 0) hx hb dX3_isBalanced_59 (by decide +kernel) ?_
    exact W.zret (v := nI 0) hx hb hr (by decide +kernel) (fun t ht hW => ⟨⟨_, _, rfl, ⟨(by rw [hq]; rfl), rfl⟩, h.at ht hW⟩, h.2.2.2.2.F ht⟩) h.2.2.2.2.2.2 dX3_isBalanced_60
def gcdS : Nat → Nat → Nat → Nat
  | 0, x, _ => x
  | k + 1, x, y => if y = 0 then x else gcdS k y (x % y)
theorem gcdS_lt {B : Nat} : ∀ (k x y : Nat), x < B → y < B → gcdS k x y < B := by
  intro k
  induction k with
  | zero => intro x y h _; exact h
  | succ k ih =>
    intro x y hx hy
    show (if y = 0 then x else gcdS k y (x % y)) < B
    split
    · exact hx
    · rename_i h0
      exact ih y (x % y) hy (Nat.lt_trans (Nat.mod_lt _ (Nat.pos_of_ne_zero h0)) hy)
set_option maxRecDepth 100000 in
set_option maxHeartbeats 4000000 in
theorem lp_X3_gcd {p : Program} {l : Launch} {ev : Env} {R : Room} {s : State} {m : MethodId} {args : Array Value} {below : List Frame} {meth : Method} {c : Code} {cells slots : Nat} {Q : State → Prop} {D : va_G} {cy : Nat → ClassId} {ad : Nat → Nat} {A : Nat → Prop} (hx : p.tables.exec = Jvm.exec) (hb : c.code = cX3_greatestDivisor) (hml : c.maxLocals = 11) (hU : ∀ w ∈ UW, w.before args s = true) (hown : s.vm.findClass RX3 = some m.cls) (hR : 0 ≤ R.frames ∧ 32 * 0 ≤ R.locals) (hcs : cells ≤ R.cells ∧ slots ≤ R.slots) {σ : TS} {a b : Nat} :
    ∀ (k i x y : Nat) (H : Heap) (locs : List Loc) (ls : Array Slot), i + k = 100 → x < 2 ^ 63 → y < 2 ^ 63 → XT D cy ad s A H locs σ → lv_has ls 11 [(0, .long (lN a)), (2, .long (lN b)), (4, .long (lN x)), (6, .long (lN y)), (8, .int (nI i))] → (∀ (H : Heap) (locs : List Loc) (ls : Array Slot), XT D cy ad s A H locs σ → lv_has ls 11 [(4, .long (lN (gcdS k x y)))] → W p l ev R s m args below meth c H locs cells slots Q (F0 m 44 ls [])) → W p l ev R s m args below meth c H locs cells slots Q (F0 m 9 ls []) := by
  intro k
  induction k with
  | zero =>
    intro i x y H locs ls hc hx0 hy h hl K
    refine lv_iload hx hb dX3_greatestDivisor_9 (lv_at hl 4 rfl) ?_
    refine lv_bipush (v := nI 100) hx hb dX3_greatestDivisor_11 (by decide +kernel) ?_
    refine n_icmp_ge (tgt := 44) hx hb (by omega) (by omega) dX3_greatestDivisor_13 (by decide) (fun c_13 => ?_) (fun c_13 => absurd c_13 (by omega))
    exact K _ _ _ h (lv_sub hl [2] rfl)
  | succ k ih =>
    intro i x y H locs ls hc hx0 hy h hl K
    refine lv_iload hx hb dX3_greatestDivisor_9 (lv_at hl 4 rfl) ?_
    refine lv_bipush (v := nI 100) hx hb dX3_greatestDivisor_11 (by decide +kernel) ?_
    refine n_icmp_ge (tgt := 44) hx hb (by omega) (by omega) dX3_greatestDivisor_13 (by decide) (fun c_13 => absurd c_13 (by omega)) (fun c_13 => ?_)
    refine lv_lload hx hb dX3_greatestDivisor_16 (lv_at hl 3 rfl) ?_
    refine lv_lconst (v := lN 0) hx hb dX3_greatestDivisor_18 (by decide +kernel) ?_
    refine W.lcmp hx hb dX3_greatestDivisor_19 ?_
    refine n_lif_eq (tgt := 44) hx hb hy (by decide) dX3_greatestDivisor_20 (by decide) (fun c_20 => ?_) (fun c_20 => ?_)
    · rw [show gcdS (k + 1) x y = x from by show (if y = 0 then x else _) = x; rw [if_pos c_20]] at K
      exact K _ _ _ h (lv_sub hl [2] rfl)
    · refine lv_lload hx hb dX3_greatestDivisor_23 (lv_at hl 2 rfl) ?_
      refine lv_lload hx hb dX3_greatestDivisor_25 (lv_at hl 3 rfl) ?_
      refine n_lrem hx hb hx0 (Nat.pos_of_ne_zero c_20) hy dX3_greatestDivisor_27 ?_
      refine lv_lstore (lv' := [(9, .long (lN (x % y))), (0, .long (lN a)), (2, .long (lN b)), (4, .long (lN x)), (6, .long (lN y)), (8, .int (nI i))]) hx hb dX3_greatestDivisor_28 hl (by decide) rfl (fun ls hl => ?_)
      refine lv_lload hx hb dX3_greatestDivisor_30 (lv_at hl 4 rfl) ?_
      refine lv_lstore (lv' := [(4, .long (lN y)), (9, .long (lN (x % y))), (0, .long (lN a)), (2, .long (lN b)), (6, .long (lN y)), (8, .int (nI i))]) hx hb dX3_greatestDivisor_32 hl (by decide) rfl (fun ls hl => ?_)
      refine lv_lload hx hb dX3_greatestDivisor_34 (lv_at hl 1 rfl) ?_
      refine lv_lstore (lv' := [(6, .long (lN (x % y))), (4, .long (lN y)), (9, .long (lN (x % y))), (0, .long (lN a)), (2, .long (lN b)), (8, .int (nI i))]) hx hb dX3_greatestDivisor_36 hl (by decide) rfl (fun ls hl => ?_)
      refine lv_iinc (v := nI (i + 1)) (lv' := [(8, .int (nI (i + 1))), (6, .long (lN (x % y))), (4, .long (lN y)), (9, .long (lN (x % y))), (0, .long (lN a)), (2, .long (lN b))]) hx hb dX3_greatestDivisor_38 hl (k := 5) rfl (by rw [← nI_add]; rfl) (by decide) rfl (fun ls hl => ?_)
      refine lv_goto (tgt := 9) hx hb dX3_greatestDivisor_41 (by decide) ?_
      rw [show gcdS (k + 1) x y = gcdS k y (x % y) from by show (if y = 0 then x else _) = _; rw [if_neg c_20]] at K
      exact ih (i + 1) y (x % y) _ _ _ (by omega) hy (Nat.lt_trans (Nat.mod_lt _ (Nat.pos_of_ne_zero c_20)) hy) h (lv_sub hl [4, 5, 2, 1, 0] rfl) K
set_option maxRecDepth 100000 in
set_option maxHeartbeats 4000000 in
theorem c_X3_greatestDivisor (l : Launch) (D : va_G) (cy : Nat → ClassId) (ad : Nat → Nat) (σ : TS) (sz : Nat) {a b : Nat} (ha : a < 2 ^ 63) (hb : b < 2 ^ 63) : MTl l D cy ad yX3_greatestDivisor cX3_greatestDivisor 11 (rmd 0) [.long (lN a), .long (lN b)] σ sz (fun r u => r = lN (gcdS 100 a b) ∧ u = σ) := by
  refine Met.ofW (cc := cX3_greatestDivisor) (maxL := 11) (ret := (some .long)) (by decide) rfl ?_
  intro p ev s m args below meth c s₁ B hml hv
  obtain ⟨rfl, hw⟩ := hv
  have hx := B.exec
  have hb := B.bytes
  have hr := B.returns
  have hlk := B.notSynchronized
  have hU : ∀ w ∈ UW, w.before _ s = true := fun w hw => atoms_spec (ws := Cond.code yX3_greatestDivisor cX3_greatestDivisor 11 (some .long) :: UW) B.pre w (List.mem_cons_of_mem _ hw)
  have hown : s.vm.findClass RX3 = some m.cls := findClass_of_methodNamed B.named
  have hR : 0 ≤ (headSpec (Cond.code yX3_greatestDivisor cX3_greatestDivisor 11 (some .long) :: UW) (rmd 0)).room.frames ∧ 32 * 0 ≤ (headSpec (Cond.code yX3_greatestDivisor cX3_greatestDivisor 11 (some .long) :: UW) (rmd 0)).room.locals := ⟨Nat.le_refl _, Nat.le_refl _⟩
  have hcs : 0 ≤ (headSpec (Cond.code yX3_greatestDivisor cX3_greatestDivisor 11 (some .long) :: UW) (rmd 0)).room.cells ∧ 0 ≤ (headSpec (Cond.code yX3_greatestDivisor cX3_greatestDivisor 11 (some .long) :: UW) (rmd 0)).room.slots := ⟨Nat.zero_le _, Nat.zero_le _⟩
  have h := WX.start hw
  clear hw
  generalize va_A (wv _ _ _) _ = A at h ⊢
  have hl := lv_entry ([.long (lN a), .long (lN b)]) (n := 11) (Nat.le_of_ble_eq_true rfl)
  rw [lg_entry_eq]
  generalize (lg_sl ([.long (lN a), .long (lN b)]) ++ List.replicate (11 - (lg_sl ([.long (lN a), .long (lN b)])).length) Slot.unset).toArray = ls at hl ⊢
  have hl : lv_has ls 11 [(0, .long (lN a)), (2, .long (lN b))] := hl
  have hb9 : b < 2 ^ 63 := by assumption
  have hb := B.bytes
  refine lv_lload_n hx hb dX3_greatestDivisor_0 rfl (lv_at hl 0 rfl) ?_
  refine lv_lstore (lv' := [(4, .long (lN a)), (0, .long (lN a)), (2, .long (lN b))]) hx hb dX3_greatestDivisor_1 hl (by decide) rfl (fun ls hl => ?_)
  refine lv_lload_n hx hb dX3_greatestDivisor_3 rfl (lv_at hl 2 rfl) ?_
  refine lv_lstore (lv' := [(6, .long (lN b)), (4, .long (lN a)), (0, .long (lN a)), (2, .long (lN b))]) hx hb dX3_greatestDivisor_4 hl (by decide) rfl (fun ls hl => ?_)
  refine lv_iconst (v := nI 0) hx hb dX3_greatestDivisor_6 (by decide +kernel) ?_
  refine lv_istore (lv' := [(8, .int (nI 0)), (6, .long (lN b)), (4, .long (lN a)), (0, .long (lN a)), (2, .long (lN b))]) hx hb dX3_greatestDivisor_7 hl (by decide) rfl (fun ls hl => ?_)
  refine lp_X3_gcd hx hb hml hU hown hR hcs 100 0 a b _ _ _ (by omega) ha hb9 h (lv_sub hl [3, 4, 2, 1, 0] rfl) (fun H locs ls h hl => ?_)
  refine lv_lload hx hb dX3_greatestDivisor_44 (lv_at hl 0 rfl) ?_
  exact W.lret (v := lN (gcdS 100 a b)) hx hb hr (fun t ht hW => ⟨⟨_, _, rfl, ⟨rfl, rfl⟩, h.at ht hW⟩, h.2.2.2.2.F ht⟩) h.2.2.2.2.2.2 dX3_greatestDivisor_46
def gF (f : Nat → Nat) : Nat → Nat → Nat → Nat
  | 0, _, c => c
  | k + 1, i, c => gF f k (i + 1) (gcdS 100 (f i) c)
def sF (f : Nat → Nat) : Nat → Nat → Nat → Nat
  | 0, _, c => c
  | k + 1, i, c => sF f k (i + 1) (c + f i)
theorem gF_lt {f : Nat → Nat} {B : Nat} : ∀ (k i c : Nat), c < B → (∀ j, i ≤ j → j < i + k → f j < B) → gF f k i c < B := by
  intro k
  induction k with
  | zero => intro i c h _; exact h
  | succ k ih => intro i c hc h; exact ih (i + 1) _ (gcdS_lt _ _ _ (h i (by omega) (by omega)) hc) (fun j h1 h2 => h j (by omega) (by omega))
def T_div (c : Nat) : Nat → TS → TS := fun j τ => sN τ 4 j (τ.1 4 j / c)
def T_reduce (σ : TS) : TS := if 1 < gF (σ.1 4) (σ.1 20 0) 0 0 then itr (T_div (gF (σ.1 4) (σ.1 20 0) 0 0)) (σ.1 20 0) 0 σ else σ
set_option maxRecDepth 100000 in
set_option maxHeartbeats 4000000 in
theorem lp_X3_reduce1 {p : Program} {l : Launch} {ev : Env} {R : Room} {s : State} {m : MethodId} {args : Array Value} {below : List Frame} {meth : Method} {c : Code} {cells slots : Nat} {Q : State → Prop} {D : va_G} {cy : Nat → ClassId} {ad : Nat → Nat} {A : Nat → Prop} (hx : p.tables.exec = Jvm.exec) (hb : c.code = cX3_reduceRepetitions) (hml : c.maxLocals = 4) (hU : ∀ w ∈ UW, w.before args s = true) (hown : s.vm.findClass RX3 = some m.cls) (hR : 1 ≤ R.frames ∧ 32 * 1 ≤ R.locals) (hcs : cells ≤ R.cells ∧ slots ≤ R.slots) {σ : TS} (h8 : σ.1 20 0 ≤ 8) (hr : ∀ n, n < σ.1 20 0 → σ.1 4 n < 2 ^ 63) :
    ∀ (k i x : Nat) (H : Heap) (locs : List Loc) (ls : Array Slot), i + k = σ.1 20 0 → x < 2 ^ 63 → XT D cy ad s A H locs σ → lv_has ls 4 [(0, .ref (ad 0)), (1, .long (lN x)), (3, .int (nI i))] → (∀ (H : Heap) (locs : List Loc) (ls : Array Slot), XT D cy ad s A H locs σ → lv_has ls 4 [(0, .ref (ad 0)), (1, .long (lN (gF (σ.1 4) k i x)))] → W p l ev R s m args below meth c H locs cells slots Q (F0 m 32 ls [])) → W p l ev R s m args below meth c H locs cells slots Q (F0 m 4 ls []) := by
  intro k
  induction k with
  | zero =>
    intro i x H locs ls hc hx0 h hl K
    refine lv_iload_n hx hb dX3_reduceRepetitions_4 rfl (lv_at hl 2 rfl) ?_
    refine lv_aload_n hx hb dX3_reduceRepetitions_5 rfl (lv_at hl 0 rfl) ?_
    refine t_gM hx hb hU hown h 4 (by decide) ufX3_34 (v := .int (nI (σ.1 20 0))) rfl dX3_reduceRepetitions_6 ?_
    refine n_icmp_ge (tgt := 32) hx hb (by omega) (by omega) dX3_reduceRepetitions_9 (by decide) (fun c_9 => ?_) (fun c_9 => absurd c_9 (by omega))
    exact K _ _ _ h (lv_sub hl [0, 1] rfl)
  | succ k ih =>
    intro i x H locs ls hc hx0 h hl K
    refine lv_iload_n hx hb dX3_reduceRepetitions_4 rfl (lv_at hl 2 rfl) ?_
    refine lv_aload_n hx hb dX3_reduceRepetitions_5 rfl (lv_at hl 0 rfl) ?_
    refine t_gM hx hb hU hown h 4 (by decide) ufX3_34 (v := .int (nI (σ.1 20 0))) rfl dX3_reduceRepetitions_6 ?_
    refine n_icmp_ge (tgt := 32) hx hb (by omega) (by omega) dX3_reduceRepetitions_9 (by decide) (fun c_9 => absurd c_9 (by omega)) (fun c_9 => ?_)
    refine lv_aload_n hx hb dX3_reduceRepetitions_12 rfl (lv_at hl 0 rfl) ?_
    refine t_gM hx hb hU hown h 0 (by decide) ufX3_11 (v := .ref (ad 1)) rfl dX3_reduceRepetitions_13 ?_
    refine lv_iload_n hx hb dX3_reduceRepetitions_16 rfl (lv_at hl 2 rfl) ?_
    refine t_aA hx hb h (by omega) dX3_reduceRepetitions_17 ?_
    refine t_gA hx hb hU hown h (by omega) 4 (by decide) ufX3_131 (v := .long (lN (σ.1 4 i))) rfl dX3_reduceRepetitions_18 ?_
    refine lv_lload_n hx hb dX3_reduceRepetitions_21 rfl (lv_at hl 1 rfl) ?_
    refine y_callSl hx hb hml hU hown hR hcs h (c_X3_greatestDivisor l D cy ad σ _ (a := σ.1 4 i) (b := x) (hr i (by omega)) hx0) umX3_172 uz_X3_greatestDivisor unX3 uc_X3_greatestDivisor hd_X3_greatestDivisor.2 (by decide) (by decide) hl.1 rfl (Nat.le_of_ble_eq_true rfl) dX3_reduceRepetitions_22 (fun r u H locs hw h => ?_)
    obtain ⟨rfl, hu⟩ := hw
    have h : XT D cy ad s A H locs σ := by rw [← hu]; exact h
    clear hu
    refine lv_lstore_n (lv' := [(1, .long (lN (gcdS 100 (σ.1 4 i) x))), (0, .ref (ad 0)), (3, .int (nI i))]) hx hb dX3_reduceRepetitions_25 rfl hl (by decide) rfl (fun ls hl => ?_)
    refine lv_iinc (v := nI (i + 1)) (lv' := [(3, .int (nI (i + 1))), (1, .long (lN (gcdS 100 (σ.1 4 i) x))), (0, .ref (ad 0))]) hx hb dX3_reduceRepetitions_26 hl (k := 2) rfl (by rw [← nI_add]; rfl) (by decide) rfl (fun ls hl => ?_)
    refine lv_goto (tgt := 4) hx hb dX3_reduceRepetitions_29 (by decide) ?_
    exact ih (i + 1) (gcdS 100 (σ.1 4 i) x) _ _ _ (by omega) (gcdS_lt _ _ _ (hr i (by omega)) hx0) h (lv_sub hl [2, 1, 0] rfl) K
set_option maxRecDepth 100000 in
set_option maxHeartbeats 4000000 in
theorem lp_X3_reduce2 {p : Program} {l : Launch} {ev : Env} {R : Room} {s : State} {m : MethodId} {args : Array Value} {below : List Frame} {meth : Method} {c : Code} {cells slots : Nat} {Q : State → Prop} {D : va_G} {cy : Nat → ClassId} {ad : Nat → Nat} {A : Nat → Prop} (hx : p.tables.exec = Jvm.exec) (hb : c.code = cX3_reduceRepetitions) (hml : c.maxLocals = 4) (hU : ∀ w ∈ UW, w.before args s = true) (hown : s.vm.findClass RX3 = some m.cls) (hR : 1 ≤ R.frames ∧ 32 * 1 ≤ R.locals) (hcs : cells ≤ R.cells ∧ slots ≤ R.slots) {x : Nat} (h0 : 0 < x) (hx0 : x < 2 ^ 63) :
    ∀ (k i : Nat) (τ : TS) (H : Heap) (locs : List Loc) (ls : Array Slot), (i + k = τ.1 20 0 ∧ τ.1 20 0 ≤ 8 ∧ ∀ n, i ≤ n → n < τ.1 20 0 → τ.1 4 n < 2 ^ 63) → XT D cy ad s A H locs τ → lv_has ls 4 [(0, .ref (ad 0)), (1, .long (lN x)), (3, .int (nI i))] → (∀ (H : Heap) (locs : List Loc) (ls : Array Slot), XT D cy ad s A H locs (itr (T_div x) k i τ) → lv_has ls 4 [(0, .ref (ad 0)), (1, .long (lN x))] → W p l ev R s m args below meth c H locs cells slots Q (F0 m 69 ls [])) → W p l ev R s m args below meth c H locs cells slots Q (F0 m 40 ls []) := by
  intro k
  induction k with
  | zero =>
    intro i τ H locs ls hc h hl K
    refine lv_iload_n hx hb dX3_reduceRepetitions_40 rfl (lv_at hl 2 rfl) ?_
    refine lv_aload_n hx hb dX3_reduceRepetitions_41 rfl (lv_at hl 0 rfl) ?_
    refine t_gM hx hb hU hown h 4 (by decide) ufX3_34 (v := .int (nI (τ.1 20 0))) rfl dX3_reduceRepetitions_42 ?_
    refine n_icmp_ge (tgt := 69) hx hb (by omega) (by omega) dX3_reduceRepetitions_45 (by decide) (fun c_45 => ?_) (fun c_45 => absurd c_45 (by omega))
    exact K _ _ _ h (lv_sub hl [0, 1] rfl)
  | succ k ih =>
    intro i τ H locs ls hc h hl K
    refine lv_iload_n hx hb dX3_reduceRepetitions_40 rfl (lv_at hl 2 rfl) ?_
    refine lv_aload_n hx hb dX3_reduceRepetitions_41 rfl (lv_at hl 0 rfl) ?_
    refine t_gM hx hb hU hown h 4 (by decide) ufX3_34 (v := .int (nI (τ.1 20 0))) rfl dX3_reduceRepetitions_42 ?_
    refine n_icmp_ge (tgt := 69) hx hb (by omega) (by omega) dX3_reduceRepetitions_45 (by decide) (fun c_45 => absurd c_45 (by omega)) (fun c_45 => ?_)
    refine lv_aload_n hx hb dX3_reduceRepetitions_48 rfl (lv_at hl 0 rfl) ?_
    refine t_gM hx hb hU hown h 0 (by decide) ufX3_11 (v := .ref (ad 1)) rfl dX3_reduceRepetitions_49 ?_
    refine lv_iload_n hx hb dX3_reduceRepetitions_52 rfl (lv_at hl 2 rfl) ?_
    refine t_aA hx hb h (by omega) dX3_reduceRepetitions_53 ?_
    refine lv_dup hx hb dX3_reduceRepetitions_54 rfl ?_
    refine t_gA hx hb hU hown h (by omega) 4 (by decide) ufX3_131 (v := .long (lN (τ.1 4 i))) rfl dX3_reduceRepetitions_55 ?_
    refine lv_lload_n hx hb dX3_reduceRepetitions_58 rfl (lv_at hl 1 rfl) ?_
    refine n_ldiv hx hb (hc.2.2 i (by omega) (by omega)) h0 hx0 dX3_reduceRepetitions_59 ?_
    refine t_pA4 hx hb hU hown h (by omega) ufX3_131 dX3_reduceRepetitions_60 (fun H locs h => ?_)
    refine lv_iinc (v := nI (i + 1)) (lv' := [(3, .int (nI (i + 1))), (0, .ref (ad 0)), (1, .long (lN x))]) hx hb dX3_reduceRepetitions_63 hl (k := 2) rfl (by rw [← nI_add]; rfl) (by decide) rfl (fun ls hl => ?_)
    refine lv_goto (tgt := 40) hx hb dX3_reduceRepetitions_66 (by decide) ?_
    exact ih (i + 1) (sN τ 4 i ((τ.1 4 i) / x)) _ _ _ ⟨by rw [sN_k _ _ _ _ (by decide)]; omega, by rw [sN_k _ _ _ _ (by decide)]; exact hc.2.1, fun n h1 h2 => by rw [sN_k _ _ _ _ (by decide)] at h2; show up2 τ.1 4 i (τ.1 4 i / x) 4 n < _; rw [up2_n _ _ _ _ (by omega)]; exact hc.2.2 n (by omega) h2⟩ h (lv_sub hl [1, 2, 0] rfl) K
set_option maxRecDepth 100000 in
set_option maxHeartbeats 4000000 in
theorem c_X3_reduceRepetitions (l : Launch) (D : va_G) (cy : Nat → ClassId) (ad : Nat → Nat) (σ : TS) (sz : Nat) (h8 : σ.1 20 0 ≤ 8) (hr9 : ∀ n, n < σ.1 20 0 → σ.1 4 n < 2 ^ 63) : MTv l D cy ad yX3_reduceRepetitions cX3_reduceRepetitions 4 (rmd 1) [.ref (ad 0)] σ sz (fun u => u = T_reduce σ) := by
  refine Met.ofW (cc := cX3_reduceRepetitions) (maxL := 4) (ret := none) (by decide) rfl ?_
  intro p ev s m args below meth c s₁ B hml hv
  obtain ⟨rfl, hw⟩ := hv
  have hx := B.exec
  have hb := B.bytes
  have hr := B.returns
  have hlk := B.notSynchronized
  have hU : ∀ w ∈ UW, w.before _ s = true := fun w hw => atoms_spec (ws := Cond.code yX3_reduceRepetitions cX3_reduceRepetitions 4 none :: UW) B.pre w (List.mem_cons_of_mem _ hw)
  have hown : s.vm.findClass RX3 = some m.cls := findClass_of_methodNamed B.named
  have hR : 1 ≤ (headSpec (Cond.code yX3_reduceRepetitions cX3_reduceRepetitions 4 none :: UW) (rmd 1)).room.frames ∧ 32 * 1 ≤ (headSpec (Cond.code yX3_reduceRepetitions cX3_reduceRepetitions 4 none :: UW) (rmd 1)).room.locals := ⟨Nat.le_refl _, Nat.le_refl _⟩
  have hcs : 0 ≤ (headSpec (Cond.code yX3_reduceRepetitions cX3_reduceRepetitions 4 none :: UW) (rmd 1)).room.cells ∧ 0 ≤ (headSpec (Cond.code yX3_reduceRepetitions cX3_reduceRepetitions 4 none :: UW) (rmd 1)).room.slots := ⟨Nat.zero_le _, Nat.zero_le _⟩
  have h := WX.start hw
  clear hw
  generalize va_A (wv _ _ _) _ = A at h ⊢
  have hl := lv_entry ([.ref (ad 0)]) (n := 4) (Nat.le_of_ble_eq_true rfl)
  rw [lg_entry_eq]
  generalize (lg_sl ([.ref (ad 0)]) ++ List.replicate (4 - (lg_sl ([.ref (ad 0)])).length) Slot.unset).toArray = ls at hl ⊢
  have hl : lv_has ls 4 [(0, .ref (ad 0))] := hl
  refine lv_lconst (v := lN 0) hx hb dX3_reduceRepetitions_0 (by decide +kernel) ?_
  refine lv_lstore_n (lv' := [(1, .long (lN 0)), (0, .ref (ad 0))]) hx hb dX3_reduceRepetitions_1 rfl hl (by decide) rfl (fun ls hl => ?_)
  refine lv_iconst (v := nI 0) hx hb dX3_reduceRepetitions_2 (by decide +kernel) ?_
  refine lv_istore_n (lv' := [(3, .int (nI 0)), (1, .long (lN 0)), (0, .ref (ad 0))]) hx hb dX3_reduceRepetitions_3 rfl hl (by decide) rfl (fun ls hl => ?_)
  refine lp_X3_reduce1 hx hb hml hU hown hR hcs h8 hr9 (σ.1 20 0) 0 0 _ _ _ (Nat.zero_add _) (by decide) h (lv_sub hl [2, 1, 0] rfl) (fun H locs ls h hl => ?_)
  have hg := gF_lt (f := σ.1 4) (B := 2 ^ 63) (σ.1 20 0) 0 0 (by decide) (fun j _ hj => hr9 j (by omega))
  refine lv_lload_n hx hb dX3_reduceRepetitions_32 rfl (lv_at hl 1 rfl) ?_
  refine lv_lconst (v := lN 1) hx hb dX3_reduceRepetitions_33 (by decide +kernel) ?_
  refine W.lcmp hx hb dX3_reduceRepetitions_34 ?_
  refine n_lif_le (tgt := 69) hx hb hg (by decide) dX3_reduceRepetitions_35 (by decide) (fun c_35 => ?_) (fun c_35 => ?_)
  · exact W.vret hx hb hr (fun t ht hW => ⟨⟨_, rfl, (by first | (rw [T_reduce, if_pos c_35]; done) | (rw [T_reduce, if_neg (by omega)]; done)), h.at ht hW⟩, h.2.2.2.2.F ht⟩) h.2.2.2.2.2.2 dX3_reduceRepetitions_69
  · refine lv_iconst (v := nI 0) hx hb dX3_reduceRepetitions_38 (by decide +kernel) ?_
    refine lv_istore_n (lv' := [(3, .int (nI 0)), (0, .ref (ad 0)), (1, .long (lN (gF (σ.1 4) (σ.1 20 0) 0 0)))]) hx hb dX3_reduceRepetitions_39 rfl hl (by decide) rfl (fun ls hl => ?_)
    refine lp_X3_reduce2 hx hb hml hU hown hR hcs (by omega) hg (σ.1 20 0) 0 _ _ _ _ ⟨Nat.zero_add _, h8, fun n _ hn => hr9 n hn⟩ h (lv_sub hl [1, 2, 0] rfl) (fun H locs ls h hl => ?_)
    exact W.vret hx hb hr (fun t ht hW => ⟨⟨_, rfl, (by first | (rw [T_reduce, if_pos c_35]; done) | (rw [T_reduce, if_neg (by omega)]; done)), h.at ht hW⟩, h.2.2.2.2.F ht⟩) h.2.2.2.2.2.2 dX3_reduceRepetitions_69
set_option maxRecDepth 100000 in
set_option maxHeartbeats 4000000 in
theorem lp_X3_sum {p : Program} {l : Launch} {ev : Env} {R : Room} {s : State} {m : MethodId} {args : Array Value} {below : List Frame} {meth : Method} {c : Code} {cells slots : Nat} {Q : State → Prop} {D : va_G} {cy : Nat → ClassId} {ad : Nat → Nat} {A : Nat → Prop} (hx : p.tables.exec = Jvm.exec) (hb : c.code = cX3_sumOfRepetitions) (hml : c.maxLocals = 4) (hU : ∀ w ∈ UW, w.before args s = true) (hown : s.vm.findClass RX3 = some m.cls) (hR : 0 ≤ R.frames ∧ 32 * 0 ≤ R.locals) (hcs : cells ≤ R.cells ∧ slots ≤ R.slots) {σ : TS} (h8 : σ.1 20 0 ≤ 8) :
    ∀ (k i x : Nat) (H : Heap) (locs : List Loc) (ls : Array Slot), i + k = σ.1 20 0 → XT D cy ad s A H locs σ → lv_has ls 4 [(0, .ref (ad 0)), (1, .long (lN x)), (3, .int (nI i))] → (∀ (H : Heap) (locs : List Loc) (ls : Array Slot), XT D cy ad s A H locs σ → lv_has ls 4 [(1, .long (lN (sF (σ.1 4) k i x)))] → W p l ev R s m args below meth c H locs cells slots Q (F0 m 30 ls [])) → W p l ev R s m args below meth c H locs cells slots Q (F0 m 4 ls []) := by
  intro k
  induction k with
  | zero =>
    intro i x H locs ls hc h hl K
    refine lv_iload_n hx hb dX3_sumOfRepetitions_4 rfl (lv_at hl 2 rfl) ?_
    refine lv_aload_n hx hb dX3_sumOfRepetitions_5 rfl (lv_at hl 0 rfl) ?_
    refine t_gM hx hb hU hown h 4 (by decide) ufX3_34 (v := .int (nI (σ.1 20 0))) rfl dX3_sumOfRepetitions_6 ?_
    refine n_icmp_ge (tgt := 30) hx hb (by omega) (by omega) dX3_sumOfRepetitions_9 (by decide) (fun c_9 => ?_) (fun c_9 => absurd c_9 (by omega))
    exact K _ _ _ h (lv_sub hl [1] rfl)
  | succ k ih =>
    intro i x H locs ls hc h hl K
    refine lv_iload_n hx hb dX3_sumOfRepetitions_4 rfl (lv_at hl 2 rfl) ?_
    refine lv_aload_n hx hb dX3_sumOfRepetitions_5 rfl (lv_at hl 0 rfl) ?_
    refine t_gM hx hb hU hown h 4 (by decide) ufX3_34 (v := .int (nI (σ.1 20 0))) rfl dX3_sumOfRepetitions_6 ?_
    refine n_icmp_ge (tgt := 30) hx hb (by omega) (by omega) dX3_sumOfRepetitions_9 (by decide) (fun c_9 => absurd c_9 (by omega)) (fun c_9 => ?_)
    refine lv_lload_n hx hb dX3_sumOfRepetitions_12 rfl (lv_at hl 1 rfl) ?_
    refine lv_aload_n hx hb dX3_sumOfRepetitions_13 rfl (lv_at hl 0 rfl) ?_
    refine t_gM hx hb hU hown h 0 (by decide) ufX3_11 (v := .ref (ad 1)) rfl dX3_sumOfRepetitions_14 ?_
    refine lv_iload_n hx hb dX3_sumOfRepetitions_17 rfl (lv_at hl 2 rfl) ?_
    refine t_aA hx hb h (by omega) dX3_sumOfRepetitions_18 ?_
    refine t_gA hx hb hU hown h (by omega) 4 (by decide) ufX3_131 (v := .long (lN (σ.1 4 i))) rfl dX3_sumOfRepetitions_19 ?_
    refine n_ladd hx hb dX3_sumOfRepetitions_22 ?_
    refine lv_lstore_n (lv' := [(1, .long (lN (x + (σ.1 4 i)))), (0, .ref (ad 0)), (3, .int (nI i))]) hx hb dX3_sumOfRepetitions_23 rfl hl (by decide) rfl (fun ls hl => ?_)
    refine lv_iinc (v := nI (i + 1)) (lv' := [(3, .int (nI (i + 1))), (1, .long (lN (x + (σ.1 4 i)))), (0, .ref (ad 0))]) hx hb dX3_sumOfRepetitions_24 hl (k := 2) rfl (by rw [← nI_add]; rfl) (by decide) rfl (fun ls hl => ?_)
    refine lv_goto (tgt := 4) hx hb dX3_sumOfRepetitions_27 (by decide) ?_
    exact ih (i + 1) (x + σ.1 4 i) _ _ _ (by omega) h (lv_sub hl [2, 1, 0] rfl) K
set_option maxRecDepth 100000 in
set_option maxHeartbeats 4000000 in
theorem c_X3_sumOfRepetitions (l : Launch) (D : va_G) (cy : Nat → ClassId) (ad : Nat → Nat) (σ : TS) (sz : Nat) (h8 : σ.1 20 0 ≤ 8) : MTl l D cy ad yX3_sumOfRepetitions cX3_sumOfRepetitions 4 (rmd 0) [.ref (ad 0)] σ sz (fun r u => r = lN (sF (σ.1 4) (σ.1 20 0) 0 0) ∧ u = σ) := by
  refine Met.ofW (cc := cX3_sumOfRepetitions) (maxL := 4) (ret := (some .long)) (by decide) rfl ?_
  intro p ev s m args below meth c s₁ B hml hv
  obtain ⟨rfl, hw⟩ := hv
  have hx := B.exec
  have hb := B.bytes
  have hr := B.returns
  have hlk := B.notSynchronized
  have hU : ∀ w ∈ UW, w.before _ s = true := fun w hw => atoms_spec (ws := Cond.code yX3_sumOfRepetitions cX3_sumOfRepetitions 4 (some .long) :: UW) B.pre w (List.mem_cons_of_mem _ hw)
  have hown : s.vm.findClass RX3 = some m.cls := findClass_of_methodNamed B.named
  have hR : 0 ≤ (headSpec (Cond.code yX3_sumOfRepetitions cX3_sumOfRepetitions 4 (some .long) :: UW) (rmd 0)).room.frames ∧ 32 * 0 ≤ (headSpec (Cond.code yX3_sumOfRepetitions cX3_sumOfRepetitions 4 (some .long) :: UW) (rmd 0)).room.locals := ⟨Nat.le_refl _, Nat.le_refl _⟩
  have hcs : 0 ≤ (headSpec (Cond.code yX3_sumOfRepetitions cX3_sumOfRepetitions 4 (some .long) :: UW) (rmd 0)).room.cells ∧ 0 ≤ (headSpec (Cond.code yX3_sumOfRepetitions cX3_sumOfRepetitions 4 (some .long) :: UW) (rmd 0)).room.slots := ⟨Nat.zero_le _, Nat.zero_le _⟩
  have h := WX.start hw
  clear hw
  generalize va_A (wv _ _ _) _ = A at h ⊢
  have hl := lv_entry ([.ref (ad 0)]) (n := 4) (Nat.le_of_ble_eq_true rfl)
  rw [lg_entry_eq]
  generalize (lg_sl ([.ref (ad 0)]) ++ List.replicate (4 - (lg_sl ([.ref (ad 0)])).length) Slot.unset).toArray = ls at hl ⊢
  have hl : lv_has ls 4 [(0, .ref (ad 0))] := hl
  refine lv_lconst (v := lN 0) hx hb dX3_sumOfRepetitions_0 (by decide +kernel) ?_
  refine lv_lstore_n (lv' := [(1, .long (lN 0)), (0, .ref (ad 0))]) hx hb dX3_sumOfRepetitions_1 rfl hl (by decide) rfl (fun ls hl => ?_)
  refine lv_iconst (v := nI 0) hx hb dX3_sumOfRepetitions_2 (by decide +kernel) ?_
  refine lv_istore_n (lv' := [(3, .int (nI 0)), (1, .long (lN 0)), (0, .ref (ad 0))]) hx hb dX3_sumOfRepetitions_3 rfl hl (by decide) rfl (fun ls hl => ?_)
  refine lp_X3_sum hx hb hml hU hown hR hcs h8 (σ.1 20 0) 0 0 _ _ _ (Nat.zero_add _) h (lv_sub hl [2, 1, 0] rfl) (fun H locs ls h hl => ?_)
  refine lv_lload_n hx hb dX3_sumOfRepetitions_30 rfl (lv_at hl 0 rfl) ?_
  exact W.lret (v := lN (sF (σ.1 4) (σ.1 20 0) 0 0)) hx hb hr (fun t ht hW => ⟨⟨_, _, rfl, ⟨rfl, rfl⟩, h.at ht hW⟩, h.2.2.2.2.F ht⟩) h.2.2.2.2.2.2 dX3_sumOfRepetitions_31
