/-! ===== the reference: questions, start, what changes the network ===== -/
def wiI (x a b : Int32) : Bool := decide (a ≤ x) && decide (x ≤ b)
theorem wiI_lo {x a b : Int32} (h : x < a) : wiI x a b = false := by
  unfold wiI
  rw [decide_eq_false (by rw [Int32.le_iff_toInt_le]; rw [Int32.lt_iff_toInt_lt] at h; omega), Bool.false_and]
theorem wiI_hi {x a b : Int32} (h : b < x) : wiI x a b = false := by
  unfold wiI
  rw [decide_eq_false (p := x ≤ b) (by rw [Int32.le_iff_toInt_le]; rw [Int32.lt_iff_toInt_lt] at h; omega), Bool.and_false]
theorem wiI_ok {x a b : Int32} (h0 : ¬ x < a) (h : ¬ b < x) : wiI x a b = true := by
  unfold wiI
  rw [Bool.and_eq_true]
  exact ⟨decide_eq_true (Int32.not_lt.mp h0), decide_eq_true (Int32.not_lt.mp h)⟩
theorem wiI_in {x : Int32} {n : Nat} (hn : n < 2 ^ 20) : wiI x (nI 0) (nI n - nI 1) = inR x n := by
  unfold wiI inR
  rw [nI_0]
  congr 1
  apply decide_eq_decide.mpr
  rw [Int32.le_iff_toInt_le, Int32.lt_iff_toInt_lt, pk_sub_toInt (by omega) (by omega), nI_toInt (by omega)]
  omega
theorem mN_k (μ : MS) {k a : Nat} (n b v : Nat) (h : a ≠ k) : (mN μ k n v).1 a b = μ.1 a b := up2_k _ _ _ _ h
theorem mN_e (μ : MS) (k n v : Nat) : (mN μ k n v).1 k n = v := up2_eq _ _ _ _
set_option maxRecDepth 100000 in
set_option maxHeartbeats 4000000 in
theorem c_X4_within (l : Launch) (D : va_G) (cy : Nat → ClassId) (bd : Nat → Nat) (μ : MS) (sz : Nat) {x a b : Int32} : MMi l D cy bd yX4_within cX4_within 3 .boolean (rmd 0) [.int x, .int a, .int b] μ sz (fun r u => r = bI (wiI x a b) ∧ u = μ) := by
  refine Met.ofW (cc := cX4_within) (maxL := 3) (ret := (some .boolean)) (by decide) rfl ?_
  intro p ev s m args below meth c s₁ B hml hv
  obtain ⟨rfl, hw⟩ := hv
  have hx := B.exec
  have hb := B.bytes
  have hr := B.returns
  have hlk := B.notSynchronized
  have hU : ∀ w ∈ UW, w.before _ s = true := fun w hw => atoms_spec (ws := Cond.code yX4_within cX4_within 3 (some .boolean) :: UW) B.pre w (List.mem_cons_of_mem _ hw)
  have hown : s.vm.findClass RX4 = some m.cls := findClass_of_methodNamed B.named
  have hR : 0 ≤ (headSpec (Cond.code yX4_within cX4_within 3 (some .boolean) :: UW) (rmd 0)).room.frames ∧ 32 * 0 ≤ (headSpec (Cond.code yX4_within cX4_within 3 (some .boolean) :: UW) (rmd 0)).room.locals := ⟨Nat.le_refl _, Nat.le_refl _⟩
  have hcs : 0 ≤ (headSpec (Cond.code yX4_within cX4_within 3 (some .boolean) :: UW) (rmd 0)).room.cells ∧ 0 ≤ (headSpec (Cond.code yX4_within cX4_within 3 (some .boolean) :: UW) (rmd 0)).room.slots := ⟨Nat.zero_le _, Nat.zero_le _⟩
  have h := WX.start hw
  clear hw
  generalize va_A (wv _ _ _) _ = A at h ⊢
  have hl := lv_entry ([.int x, .int a, .int b]) (n := 3) (Nat.le_of_ble_eq_true rfl)
  rw [lg_entry_eq]
  generalize (lg_sl ([.int x, .int a, .int b]) ++ List.replicate (3 - (lg_sl ([.int x, .int a, .int b])).length) Slot.unset).toArray = ls at hl ⊢
  have hl : lv_has ls 3 [(0, .int x), (1, .int a), (2, .int b)] := hl
  refine lv_iload_n hx hb dX4_within_0 rfl (lv_at hl 0 rfl) ?_
  refine lv_iload_n hx hb dX4_within_1 rfl (lv_at hl 1 rfl) ?_
  refine lv_icmp_lt (tgt := 14) hx hb dX4_within_2 (by decide) (fun c_2 => ?_) (fun c_2 => ?_)
  · refine lv_iconst (v := nI 0) hx hb dX4_within_14 (by decide +kernel) ?_
    exact W.zret (v := nI 0) hx hb hr (by decide +kernel) (fun t ht hW => ⟨⟨_, _, rfl, ⟨(by first | (rw [wiI_lo c_2]; rfl) | (rw [wiI_hi c_7]; rfl) | (rw [wiI_ok c_2 c_7]; rfl)), rfl⟩, h.at ht hW⟩, h.2.2.2.2.F ht⟩) h.2.2.2.2.2.2 dX4_within_15
  · refine lv_iload_n hx hb dX4_within_5 rfl (lv_at hl 0 rfl) ?_
    refine lv_iload_n hx hb dX4_within_6 rfl (lv_at hl 2 rfl) ?_
    refine lv_icmp_gt (tgt := 14) hx hb dX4_within_7 (by decide) (fun c_7 => ?_) (fun c_7 => ?_)
    · refine lv_iconst (v := nI 0) hx hb dX4_within_14 (by decide +kernel) ?_
      exact W.zret (v := nI 0) hx hb hr (by decide +kernel) (fun t ht hW => ⟨⟨_, _, rfl, ⟨(by first | (rw [wiI_lo c_2]; rfl) | (rw [wiI_hi c_7]; rfl) | (rw [wiI_ok c_2 c_7]; rfl)), rfl⟩, h.at ht hW⟩, h.2.2.2.2.F ht⟩) h.2.2.2.2.2.2 dX4_within_15
    · refine lv_iconst (v := nI 1) hx hb dX4_within_10 (by decide +kernel) ?_
      refine lv_goto (tgt := 15) hx hb dX4_within_11 (by decide) ?_
      exact W.zret (v := nI 1) hx hb hr (by decide +kernel) (fun t ht hW => ⟨⟨_, _, rfl, ⟨(by first | (rw [wiI_lo c_2]; rfl) | (rw [wiI_hi c_7]; rfl) | (rw [wiI_ok c_2 c_7]; rfl)), rfl⟩, h.at ht hW⟩, h.2.2.2.2.F ht⟩) h.2.2.2.2.2.2 dX4_within_15
set_option maxRecDepth 100000 in
set_option maxHeartbeats 4000000 in
theorem c_X4_thrown (l : Launch) (D : va_G) (cy : Nat → ClassId) (bd : Nat → Nat) (μ : MS) (sz : Nat)  : MMi l D cy bd yX4_thrown cX4_thrown 1 .int (rmd 0) [.ref (bd 0)] μ sz (fun r u => r = nI (μ.1 2 0) ∧ u = μ) := by
  refine Met.ofW (cc := cX4_thrown) (maxL := 1) (ret := (some .int)) (by decide) rfl ?_
  intro p ev s m args below meth c s₁ B hml hv
  obtain ⟨rfl, hw⟩ := hv
  have hx := B.exec
  have hb := B.bytes
  have hr := B.returns
  have hlk := B.notSynchronized
  have hU : ∀ w ∈ UW, w.before _ s = true := fun w hw => atoms_spec (ws := Cond.code yX4_thrown cX4_thrown 1 (some .int) :: UW) B.pre w (List.mem_cons_of_mem _ hw)
  have hown : s.vm.findClass RX4 = some m.cls := findClass_of_methodNamed B.named
  have hR : 0 ≤ (headSpec (Cond.code yX4_thrown cX4_thrown 1 (some .int) :: UW) (rmd 0)).room.frames ∧ 32 * 0 ≤ (headSpec (Cond.code yX4_thrown cX4_thrown 1 (some .int) :: UW) (rmd 0)).room.locals := ⟨Nat.le_refl _, Nat.le_refl _⟩
  have hcs : 0 ≤ (headSpec (Cond.code yX4_thrown cX4_thrown 1 (some .int) :: UW) (rmd 0)).room.cells ∧ 0 ≤ (headSpec (Cond.code yX4_thrown cX4_thrown 1 (some .int) :: UW) (rmd 0)).room.slots := ⟨Nat.zero_le _, Nat.zero_le _⟩
  have h := WX.start hw
  clear hw
  generalize va_A (wv _ _ _) _ = A at h ⊢
  have hl := lv_entry ([.ref (bd 0)]) (n := 1) (Nat.le_of_ble_eq_true rfl)
  rw [lg_entry_eq]
  generalize (lg_sl ([.ref (bd 0)]) ++ List.replicate (1 - (lg_sl ([.ref (bd 0)])).length) Slot.unset).toArray = ls at hl ⊢
  have hl : lv_has ls 1 [(0, .ref (bd 0))] := hl
  refine lv_aload_n hx hb dX4_thrown_0 rfl (lv_at hl 0 rfl) ?_
  refine m_g hx hb hU hown h 2 (by decide) ufX4_71 (v := .int (nI (μ.1 2 0))) rfl dX4_thrown_1 ?_
  exact W.iret (v := nI (μ.1 2 0)) hx hb hr (fun t ht hW => ⟨⟨_, _, rfl, ⟨rfl, rfl⟩, h.at ht hW⟩, h.2.2.2.2.F ht⟩) h.2.2.2.2.2.2 dX4_thrown_4
set_option maxRecDepth 100000 in
set_option maxHeartbeats 4000000 in
theorem c_X4_isActor (l : Launch) (D : va_G) (cy : Nat → ClassId) (bd : Nat → Nat) (μ : MS) (sz : Nat) {x : Int32} (h1 : μ.1 0 0 < 2 ^ 20) : MMi l D cy bd yX4_isActor cX4_isActor 2 .boolean (rmd 1) [.ref (bd 0), .int x] μ sz (fun r u => r = bI (inR x (μ.1 0 0)) ∧ u = μ) := by
  refine Met.ofW (cc := cX4_isActor) (maxL := 2) (ret := (some .boolean)) (by decide) rfl ?_
  intro p ev s m args below meth c s₁ B hml hv
  obtain ⟨rfl, hw⟩ := hv
  have hx := B.exec
  have hb := B.bytes
  have hr := B.returns
  have hlk := B.notSynchronized
  have hU : ∀ w ∈ UW, w.before _ s = true := fun w hw => atoms_spec (ws := Cond.code yX4_isActor cX4_isActor 2 (some .boolean) :: UW) B.pre w (List.mem_cons_of_mem _ hw)
  have hown : s.vm.findClass RX4 = some m.cls := findClass_of_methodNamed B.named
  have hR : 1 ≤ (headSpec (Cond.code yX4_isActor cX4_isActor 2 (some .boolean) :: UW) (rmd 1)).room.frames ∧ 32 * 1 ≤ (headSpec (Cond.code yX4_isActor cX4_isActor 2 (some .boolean) :: UW) (rmd 1)).room.locals := ⟨Nat.le_refl _, Nat.le_refl _⟩
  have hcs : 0 ≤ (headSpec (Cond.code yX4_isActor cX4_isActor 2 (some .boolean) :: UW) (rmd 1)).room.cells ∧ 0 ≤ (headSpec (Cond.code yX4_isActor cX4_isActor 2 (some .boolean) :: UW) (rmd 1)).room.slots := ⟨Nat.zero_le _, Nat.zero_le _⟩
  have h := WX.start hw
  clear hw
  generalize va_A (wv _ _ _) _ = A at h ⊢
  have hl := lv_entry ([.ref (bd 0), .int x]) (n := 2) (Nat.le_of_ble_eq_true rfl)
  rw [lg_entry_eq]
  generalize (lg_sl ([.ref (bd 0), .int x]) ++ List.replicate (2 - (lg_sl ([.ref (bd 0), .int x])).length) Slot.unset).toArray = ls at hl ⊢
  have hl : lv_has ls 2 [(0, .ref (bd 0)), (1, .int x)] := hl
  refine lv_iload_n hx hb dX4_isActor_0 rfl (lv_at hl 1 rfl) ?_
  refine lv_iconst (v := nI 0) hx hb dX4_isActor_1 (by decide +kernel) ?_
  refine lv_aload_n hx hb dX4_isActor_2 rfl (lv_at hl 0 rfl) ?_
  refine m_g hx hb hU hown h 0 (by decide) ufX4_75 (v := .int (nI (μ.1 0 0))) rfl dX4_isActor_3 ?_
  refine lv_iconst (v := nI 1) hx hb dX4_isActor_6 (by decide +kernel) ?_
  refine lv_isub hx hb dX4_isActor_7 ?_
  refine y_callSi hx hb hml hU hown hR hcs h (c_X4_within l D cy bd μ _ (x := x) (a := nI 0) (b := ((nI (μ.1 0 0)) - (nI 1)))) umX4_87 uz_X4_within unX4 uc_X4_within hd_X4_within.2 (by decide) (by decide) hl.1 rfl (Nat.le_of_ble_eq_true rfl) dX4_isActor_8 (fun r u H locs hw h => ?_)
  obtain ⟨rfl, hu⟩ := hw
  have h : XM D cy bd s A H locs μ := by rw [← hu]; exact h
  clear hu
  exact W.zret (v := bI (wiI x (nI 0) (((nI (μ.1 0 0)) - (nI 1))))) hx hb hr (bI_nar _) (fun t ht hW => ⟨⟨_, _, rfl, ⟨by rw [wiI_in h1], rfl⟩, h.at ht hW⟩, h.2.2.2.2.F ht⟩) h.2.2.2.2.2.2 dX4_isActor_11
set_option maxRecDepth 100000 in
set_option maxHeartbeats 4000000 in
theorem c_X4_isEdge (l : Launch) (D : va_G) (cy : Nat → ClassId) (bd : Nat → Nat) (μ : MS) (sz : Nat) {x : Int32} (h1 : μ.1 1 0 < 2 ^ 20) : MMi l D cy bd yX4_isEdge cX4_isEdge 2 .boolean (rmd 1) [.ref (bd 0), .int x] μ sz (fun r u => r = bI (inR x (μ.1 1 0)) ∧ u = μ) := by
  refine Met.ofW (cc := cX4_isEdge) (maxL := 2) (ret := (some .boolean)) (by decide) rfl ?_
  intro p ev s m args below meth c s₁ B hml hv
  obtain ⟨rfl, hw⟩ := hv
  have hx := B.exec
  have hb := B.bytes
  have hr := B.returns
  have hlk := B.notSynchronized
  have hU : ∀ w ∈ UW, w.before _ s = true := fun w hw => atoms_spec (ws := Cond.code yX4_isEdge cX4_isEdge 2 (some .boolean) :: UW) B.pre w (List.mem_cons_of_mem _ hw)
  have hown : s.vm.findClass RX4 = some m.cls := findClass_of_methodNamed B.named
  have hR : 1 ≤ (headSpec (Cond.code yX4_isEdge cX4_isEdge 2 (some .boolean) :: UW) (rmd 1)).room.frames ∧ 32 * 1 ≤ (headSpec (Cond.code yX4_isEdge cX4_isEdge 2 (some .boolean) :: UW) (rmd 1)).room.locals := ⟨Nat.le_refl _, Nat.le_refl _⟩
  have hcs : 0 ≤ (headSpec (Cond.code yX4_isEdge cX4_isEdge 2 (some .boolean) :: UW) (rmd 1)).room.cells ∧ 0 ≤ (headSpec (Cond.code yX4_isEdge cX4_isEdge 2 (some .boolean) :: UW) (rmd 1)).room.slots := ⟨Nat.zero_le _, Nat.zero_le _⟩
  have h := WX.start hw
  clear hw
  generalize va_A (wv _ _ _) _ = A at h ⊢
  have hl := lv_entry ([.ref (bd 0), .int x]) (n := 2) (Nat.le_of_ble_eq_true rfl)
  rw [lg_entry_eq]
  generalize (lg_sl ([.ref (bd 0), .int x]) ++ List.replicate (2 - (lg_sl ([.ref (bd 0), .int x])).length) Slot.unset).toArray = ls at hl ⊢
  have hl : lv_has ls 2 [(0, .ref (bd 0)), (1, .int x)] := hl
  refine lv_iload_n hx hb dX4_isEdge_0 rfl (lv_at hl 1 rfl) ?_
  refine lv_iconst (v := nI 0) hx hb dX4_isEdge_1 (by decide +kernel) ?_
  refine lv_aload_n hx hb dX4_isEdge_2 rfl (lv_at hl 0 rfl) ?_
  refine m_g hx hb hU hown h 1 (by decide) ufX4_78 (v := .int (nI (μ.1 1 0))) rfl dX4_isEdge_3 ?_
  refine lv_iconst (v := nI 1) hx hb dX4_isEdge_6 (by decide +kernel) ?_
  refine lv_isub hx hb dX4_isEdge_7 ?_
  refine y_callSi hx hb hml hU hown hR hcs h (c_X4_within l D cy bd μ _ (x := x) (a := nI 0) (b := ((nI (μ.1 1 0)) - (nI 1)))) umX4_87 uz_X4_within unX4 uc_X4_within hd_X4_within.2 (by decide) (by decide) hl.1 rfl (Nat.le_of_ble_eq_true rfl) dX4_isEdge_8 (fun r u H locs hw h => ?_)
  obtain ⟨rfl, hu⟩ := hw
  have h : XM D cy bd s A H locs μ := by rw [← hu]; exact h
  clear hu
  exact W.zret (v := bI (wiI x (nI 0) (((nI (μ.1 1 0)) - (nI 1))))) hx hb hr (bI_nar _) (fun t ht hW => ⟨⟨_, _, rfl, ⟨by rw [wiI_in h1], rfl⟩, h.at ht hW⟩, h.2.2.2.2.F ht⟩) h.2.2.2.2.2.2 dX4_isEdge_11
set_option maxRecDepth 100000 in
set_option maxHeartbeats 4000000 in
theorem c_X4_actors (l : Launch) (D : va_G) (cy : Nat → ClassId) (bd : Nat → Nat) (μ : MS) (sz : Nat)  : MMi l D cy bd yX4_actors cX4_actors 1 .int (rmd 0) [.ref (bd 0)] μ sz (fun r u => r = nI (μ.1 0 0) ∧ u = mN μ 2 0 0) := by
  refine Met.ofW (cc := cX4_actors) (maxL := 1) (ret := (some .int)) (by decide) rfl ?_
  intro p ev s m args below meth c s₁ B hml hv
  obtain ⟨rfl, hw⟩ := hv
  have hx := B.exec
  have hb := B.bytes
  have hr := B.returns
  have hlk := B.notSynchronized
  have hU : ∀ w ∈ UW, w.before _ s = true := fun w hw => atoms_spec (ws := Cond.code yX4_actors cX4_actors 1 (some .int) :: UW) B.pre w (List.mem_cons_of_mem _ hw)
  have hown : s.vm.findClass RX4 = some m.cls := findClass_of_methodNamed B.named
  have hR : 0 ≤ (headSpec (Cond.code yX4_actors cX4_actors 1 (some .int) :: UW) (rmd 0)).room.frames ∧ 32 * 0 ≤ (headSpec (Cond.code yX4_actors cX4_actors 1 (some .int) :: UW) (rmd 0)).room.locals := ⟨Nat.le_refl _, Nat.le_refl _⟩
  have hcs : 0 ≤ (headSpec (Cond.code yX4_actors cX4_actors 1 (some .int) :: UW) (rmd 0)).room.cells ∧ 0 ≤ (headSpec (Cond.code yX4_actors cX4_actors 1 (some .int) :: UW) (rmd 0)).room.slots := ⟨Nat.zero_le _, Nat.zero_le _⟩
  have h := WX.start hw
  clear hw
  generalize va_A (wv _ _ _) _ = A at h ⊢
  have hl := lv_entry ([.ref (bd 0)]) (n := 1) (Nat.le_of_ble_eq_true rfl)
  rw [lg_entry_eq]
  generalize (lg_sl ([.ref (bd 0)]) ++ List.replicate (1 - (lg_sl ([.ref (bd 0)])).length) Slot.unset).toArray = ls at hl ⊢
  have hl : lv_has ls 1 [(0, .ref (bd 0))] := hl
  refine lv_aload_n hx hb dX4_actors_0 rfl (lv_at hl 0 rfl) ?_
  refine lv_iconst (v := nI 0) hx hb dX4_actors_1 (by decide +kernel) ?_
  refine m_p hx hb hU hown h 2 (by decide) ufX4_71 dX4_actors_2 (fun H locs h => ?_)
  refine lv_aload_n hx hb dX4_actors_5 rfl (lv_at hl 0 rfl) ?_
  refine m_g hx hb hU hown h 0 (by decide) ufX4_75 (v := .int (nI (μ.1 0 0))) (by first | rfl | (simp [mO, mN, mI, up2]; done)) dX4_actors_6 ?_
  exact W.iret (v := nI (μ.1 0 0)) hx hb hr (fun t ht hW => ⟨⟨_, _, rfl, ⟨rfl, rfl⟩, h.at ht hW⟩, h.2.2.2.2.F ht⟩) h.2.2.2.2.2.2 dX4_actors_9
set_option maxRecDepth 100000 in
set_option maxHeartbeats 4000000 in
theorem c_X4_edges (l : Launch) (D : va_G) (cy : Nat → ClassId) (bd : Nat → Nat) (μ : MS) (sz : Nat)  : MMi l D cy bd yX4_edges cX4_edges 1 .int (rmd 0) [.ref (bd 0)] μ sz (fun r u => r = nI (μ.1 1 0) ∧ u = mN μ 2 0 0) := by
  refine Met.ofW (cc := cX4_edges) (maxL := 1) (ret := (some .int)) (by decide) rfl ?_
  intro p ev s m args below meth c s₁ B hml hv
  obtain ⟨rfl, hw⟩ := hv
  have hx := B.exec
  have hb := B.bytes
  have hr := B.returns
  have hlk := B.notSynchronized
  have hU : ∀ w ∈ UW, w.before _ s = true := fun w hw => atoms_spec (ws := Cond.code yX4_edges cX4_edges 1 (some .int) :: UW) B.pre w (List.mem_cons_of_mem _ hw)
  have hown : s.vm.findClass RX4 = some m.cls := findClass_of_methodNamed B.named
  have hR : 0 ≤ (headSpec (Cond.code yX4_edges cX4_edges 1 (some .int) :: UW) (rmd 0)).room.frames ∧ 32 * 0 ≤ (headSpec (Cond.code yX4_edges cX4_edges 1 (some .int) :: UW) (rmd 0)).room.locals := ⟨Nat.le_refl _, Nat.le_refl _⟩
  have hcs : 0 ≤ (headSpec (Cond.code yX4_edges cX4_edges 1 (some .int) :: UW) (rmd 0)).room.cells ∧ 0 ≤ (headSpec (Cond.code yX4_edges cX4_edges 1 (some .int) :: UW) (rmd 0)).room.slots := ⟨Nat.zero_le _, Nat.zero_le _⟩
  have h := WX.start hw
  clear hw
  generalize va_A (wv _ _ _) _ = A at h ⊢
  have hl := lv_entry ([.ref (bd 0)]) (n := 1) (Nat.le_of_ble_eq_true rfl)
  rw [lg_entry_eq]
  generalize (lg_sl ([.ref (bd 0)]) ++ List.replicate (1 - (lg_sl ([.ref (bd 0)])).length) Slot.unset).toArray = ls at hl ⊢
  have hl : lv_has ls 1 [(0, .ref (bd 0))] := hl
  refine lv_aload_n hx hb dX4_edges_0 rfl (lv_at hl 0 rfl) ?_
  refine lv_iconst (v := nI 0) hx hb dX4_edges_1 (by decide +kernel) ?_
  refine m_p hx hb hU hown h 2 (by decide) ufX4_71 dX4_edges_2 (fun H locs h => ?_)
  refine lv_aload_n hx hb dX4_edges_5 rfl (lv_at hl 0 rfl) ?_
  refine m_g hx hb hU hown h 1 (by decide) ufX4_78 (v := .int (nI (μ.1 1 0))) (by first | rfl | (simp [mO, mN, mI, up2]; done)) dX4_edges_6 ?_
  exact W.iret (v := nI (μ.1 1 0)) hx hb hr (fun t ht hW => ⟨⟨_, _, rfl, ⟨rfl, rfl⟩, h.at ht hW⟩, h.2.2.2.2.F ht⟩) h.2.2.2.2.2.2 dX4_edges_9
set_option maxRecDepth 100000 in
set_option maxHeartbeats 4000000 in
theorem c_X4_planned (l : Launch) (D : va_G) (cy : Nat → ClassId) (bd : Nat → Nat) (μ : MS) (sz : Nat)  : MMi l D cy bd yX4_planned cX4_planned 1 .int (rmd 0) [.ref (bd 0)] μ sz (fun r u => r = nI (μ.1 15 0) ∧ u = mN μ 2 0 0) := by
  refine Met.ofW (cc := cX4_planned) (maxL := 1) (ret := (some .int)) (by decide) rfl ?_
  intro p ev s m args below meth c s₁ B hml hv
  obtain ⟨rfl, hw⟩ := hv
  have hx := B.exec
  have hb := B.bytes
  have hr := B.returns
  have hlk := B.notSynchronized
  have hU : ∀ w ∈ UW, w.before _ s = true := fun w hw => atoms_spec (ws := Cond.code yX4_planned cX4_planned 1 (some .int) :: UW) B.pre w (List.mem_cons_of_mem _ hw)
  have hown : s.vm.findClass RX4 = some m.cls := findClass_of_methodNamed B.named
  have hR : 0 ≤ (headSpec (Cond.code yX4_planned cX4_planned 1 (some .int) :: UW) (rmd 0)).room.frames ∧ 32 * 0 ≤ (headSpec (Cond.code yX4_planned cX4_planned 1 (some .int) :: UW) (rmd 0)).room.locals := ⟨Nat.le_refl _, Nat.le_refl _⟩
  have hcs : 0 ≤ (headSpec (Cond.code yX4_planned cX4_planned 1 (some .int) :: UW) (rmd 0)).room.cells ∧ 0 ≤ (headSpec (Cond.code yX4_planned cX4_planned 1 (some .int) :: UW) (rmd 0)).room.slots := ⟨Nat.zero_le _, Nat.zero_le _⟩
  have h := WX.start hw
  clear hw
  generalize va_A (wv _ _ _) _ = A at h ⊢
  have hl := lv_entry ([.ref (bd 0)]) (n := 1) (Nat.le_of_ble_eq_true rfl)
  rw [lg_entry_eq]
  generalize (lg_sl ([.ref (bd 0)]) ++ List.replicate (1 - (lg_sl ([.ref (bd 0)])).length) Slot.unset).toArray = ls at hl ⊢
  have hl : lv_has ls 1 [(0, .ref (bd 0))] := hl
  refine lv_aload_n hx hb dX4_planned_0 rfl (lv_at hl 0 rfl) ?_
  refine lv_iconst (v := nI 0) hx hb dX4_planned_1 (by decide +kernel) ?_
  refine m_p hx hb hU hown h 2 (by decide) ufX4_71 dX4_planned_2 (fun H locs h => ?_)
  refine lv_aload_n hx hb dX4_planned_5 rfl (lv_at hl 0 rfl) ?_
  refine m_g hx hb hU hown h 15 (by decide) ufX4_81 (v := .int (nI (μ.1 15 0))) (by first | rfl | (simp [mO, mN, mI, up2]; done)) dX4_planned_6 ?_
  exact W.iret (v := nI (μ.1 15 0)) hx hb hr (fun t ht hW => ⟨⟨_, _, rfl, ⟨rfl, rfl⟩, h.at ht hW⟩, h.2.2.2.2.F ht⟩) h.2.2.2.2.2.2 dX4_planned_9
set_option maxRecDepth 100000 in
set_option maxHeartbeats 4000000 in
theorem c_X4_value (l : Launch) (D : va_G) (cy : Nat → ClassId) (bd : Nat → Nat) (μ : MS) (sz : Nat) {x : Int32} (h1 : μ.1 0 0 ≤ 8) : MMi l D cy bd yX4_value cX4_value 2 .int (rmd 2) [.ref (bd 0), .int x] μ sz (fun r u => r = (if inR x (μ.1 0 0) = true then μ.2 6 (tn x) else nI 0) ∧ u = mN μ 2 0 0) := by
  refine Met.ofW (cc := cX4_value) (maxL := 2) (ret := (some .int)) (by decide) rfl ?_
  intro p ev s m args below meth c s₁ B hml hv
  obtain ⟨rfl, hw⟩ := hv
  have hx := B.exec
  have hb := B.bytes
  have hr := B.returns
  have hlk := B.notSynchronized
  have hU : ∀ w ∈ UW, w.before _ s = true := fun w hw => atoms_spec (ws := Cond.code yX4_value cX4_value 2 (some .int) :: UW) B.pre w (List.mem_cons_of_mem _ hw)
  have hown : s.vm.findClass RX4 = some m.cls := findClass_of_methodNamed B.named
  have hR : 2 ≤ (headSpec (Cond.code yX4_value cX4_value 2 (some .int) :: UW) (rmd 2)).room.frames ∧ 32 * 2 ≤ (headSpec (Cond.code yX4_value cX4_value 2 (some .int) :: UW) (rmd 2)).room.locals := ⟨Nat.le_refl _, Nat.le_refl _⟩
  have hcs : 0 ≤ (headSpec (Cond.code yX4_value cX4_value 2 (some .int) :: UW) (rmd 2)).room.cells ∧ 0 ≤ (headSpec (Cond.code yX4_value cX4_value 2 (some .int) :: UW) (rmd 2)).room.slots := ⟨Nat.zero_le _, Nat.zero_le _⟩
  have h := WX.start hw
  clear hw
  generalize va_A (wv _ _ _) _ = A at h ⊢
  have hl := lv_entry ([.ref (bd 0), .int x]) (n := 2) (Nat.le_of_ble_eq_true rfl)
  rw [lg_entry_eq]
  generalize (lg_sl ([.ref (bd 0), .int x]) ++ List.replicate (2 - (lg_sl ([.ref (bd 0), .int x])).length) Slot.unset).toArray = ls at hl ⊢
  have hl : lv_has ls 2 [(0, .ref (bd 0)), (1, .int x)] := hl
  refine lv_aload_n hx hb dX4_value_0 rfl (lv_at hl 0 rfl) ?_
  refine lv_iconst (v := nI 0) hx hb dX4_value_1 (by decide +kernel) ?_
  refine m_p hx hb hU hown h 2 (by decide) ufX4_71 dX4_value_2 (fun H locs h => ?_)
  refine lv_aload_n hx hb dX4_value_5 rfl (lv_at hl 0 rfl) ?_
  refine lv_iload_n hx hb dX4_value_6 rfl (lv_at hl 1 rfl) ?_
  refine y_calli hx hb hml hU hown hR hcs h (c_X4_isActor l D cy bd (mN μ 2 0 0) _ (x := x) (by rw [mN_k _ _ _ _ (by decide)]; omega)) umX4_94 ui_X4_isActor us_X4_isActor unX4 uc_X4_isActor hd_X4_isActor (by decide) (by decide) (m_recv h) hl.1 rfl (Nat.le_of_ble_eq_true rfl) dX4_value_7 (fun r u H locs hw h => ?_)
  obtain ⟨rfl, hu⟩ := hw
  have h : XM D cy bd s A H locs (mN μ 2 0 0) := by rw [← hu]; exact h
  clear hu
  refine z_if_eq (tgt := 22) hx hb dX4_value_10 (by decide) (fun c_10 => ?_) (fun c_10 => ?_)
  · refine lv_iconst (v := nI 0) hx hb dX4_value_22 (by decide +kernel) ?_
    exact W.iret (v := nI 0) hx hb hr (fun t ht hW => ⟨⟨_, _, rfl, ⟨by rw [if_neg (by rw [show inR x (μ.1 0 0) = false from c_10]; decide)], rfl⟩, h.at ht hW⟩, h.2.2.2.2.F ht⟩) h.2.2.2.2.2.2 dX4_value_23
  · have c5 : inR x (μ.1 0 0) = true := c_10
    obtain ⟨j, hj, rfl⟩ := inR_of (by omega) c5
    refine lv_aload_n hx hb dX4_value_13 rfl (lv_at hl 0 rfl) ?_
    refine m_g hx hb hU hown h 6 (by decide) ufX4_19 (v := .ref (bd 4)) (by first | rfl | (simp [mO, mN, mI, up2]; done)) dX4_value_14 ?_
    refine lv_iload_n hx hb dX4_value_17 rfl (lv_at hl 1 rfl) ?_
    refine m_iI hx hb h 6 8 rfl rfl (by omega) (v := μ.2 6 j) (by simp [mN, mI, up2]) dX4_value_18 ?_
    refine lv_goto (tgt := 23) hx hb dX4_value_19 (by decide) ?_
    exact W.iret (v := μ.2 6 j) hx hb hr (fun t ht hW => ⟨⟨_, _, rfl, ⟨by rw [if_pos c5]; simp only [tn]; rw [nI_clamp (by omega)], rfl⟩, h.at ht hW⟩, h.2.2.2.2.F ht⟩) h.2.2.2.2.2.2 dX4_value_23
set_option maxRecDepth 100000 in
set_option maxHeartbeats 4000000 in
theorem c_X4_state (l : Launch) (D : va_G) (cy : Nat → ClassId) (bd : Nat → Nat) (μ : MS) (sz : Nat) {x : Int32} (h1 : μ.1 0 0 ≤ 8) : MMi l D cy bd yX4_state cX4_state 2 .int (rmd 2) [.ref (bd 0), .int x] μ sz (fun r u => r = (if inR x (μ.1 0 0) = true then μ.2 5 (tn x) else nI 0) ∧ u = mN μ 2 0 0) := by
  refine Met.ofW (cc := cX4_state) (maxL := 2) (ret := (some .int)) (by decide) rfl ?_
  intro p ev s m args below meth c s₁ B hml hv
  obtain ⟨rfl, hw⟩ := hv
  have hx := B.exec
  have hb := B.bytes
  have hr := B.returns
  have hlk := B.notSynchronized
  have hU : ∀ w ∈ UW, w.before _ s = true := fun w hw => atoms_spec (ws := Cond.code yX4_state cX4_state 2 (some .int) :: UW) B.pre w (List.mem_cons_of_mem _ hw)
  have hown : s.vm.findClass RX4 = some m.cls := findClass_of_methodNamed B.named
  have hR : 2 ≤ (headSpec (Cond.code yX4_state cX4_state 2 (some .int) :: UW) (rmd 2)).room.frames ∧ 32 * 2 ≤ (headSpec (Cond.code yX4_state cX4_state 2 (some .int) :: UW) (rmd 2)).room.locals := ⟨Nat.le_refl _, Nat.le_refl _⟩
  have hcs : 0 ≤ (headSpec (Cond.code yX4_state cX4_state 2 (some .int) :: UW) (rmd 2)).room.cells ∧ 0 ≤ (headSpec (Cond.code yX4_state cX4_state 2 (some .int) :: UW) (rmd 2)).room.slots := ⟨Nat.zero_le _, Nat.zero_le _⟩
  have h := WX.start hw
  clear hw
  generalize va_A (wv _ _ _) _ = A at h ⊢
  have hl := lv_entry ([.ref (bd 0), .int x]) (n := 2) (Nat.le_of_ble_eq_true rfl)
  rw [lg_entry_eq]
  generalize (lg_sl ([.ref (bd 0), .int x]) ++ List.replicate (2 - (lg_sl ([.ref (bd 0), .int x])).length) Slot.unset).toArray = ls at hl ⊢
  have hl : lv_has ls 2 [(0, .ref (bd 0)), (1, .int x)] := hl
  refine lv_aload_n hx hb dX4_state_0 rfl (lv_at hl 0 rfl) ?_
  refine lv_iconst (v := nI 0) hx hb dX4_state_1 (by decide +kernel) ?_
  refine m_p hx hb hU hown h 2 (by decide) ufX4_71 dX4_state_2 (fun H locs h => ?_)
  refine lv_aload_n hx hb dX4_state_5 rfl (lv_at hl 0 rfl) ?_
  refine lv_iload_n hx hb dX4_state_6 rfl (lv_at hl 1 rfl) ?_
  refine y_calli hx hb hml hU hown hR hcs h (c_X4_isActor l D cy bd (mN μ 2 0 0) _ (x := x) (by rw [mN_k _ _ _ _ (by decide)]; omega)) umX4_94 ui_X4_isActor us_X4_isActor unX4 uc_X4_isActor hd_X4_isActor (by decide) (by decide) (m_recv h) hl.1 rfl (Nat.le_of_ble_eq_true rfl) dX4_state_7 (fun r u H locs hw h => ?_)
  obtain ⟨rfl, hu⟩ := hw
  have h : XM D cy bd s A H locs (mN μ 2 0 0) := by rw [← hu]; exact h
  clear hu
  refine z_if_eq (tgt := 22) hx hb dX4_state_10 (by decide) (fun c_10 => ?_) (fun c_10 => ?_)
  · refine lv_iconst (v := nI 0) hx hb dX4_state_22 (by decide +kernel) ?_
    exact W.iret (v := nI 0) hx hb hr (fun t ht hW => ⟨⟨_, _, rfl, ⟨by rw [if_neg (by rw [show inR x (μ.1 0 0) = false from c_10]; decide)], rfl⟩, h.at ht hW⟩, h.2.2.2.2.F ht⟩) h.2.2.2.2.2.2 dX4_state_23
  · have c5 : inR x (μ.1 0 0) = true := c_10
    obtain ⟨j, hj, rfl⟩ := inR_of (by omega) c5
    refine lv_aload_n hx hb dX4_state_13 rfl (lv_at hl 0 rfl) ?_
    refine m_g hx hb hU hown h 5 (by decide) ufX4_16 (v := .ref (bd 3)) (by first | rfl | (simp [mO, mN, mI, up2]; done)) dX4_state_14 ?_
    refine lv_iload_n hx hb dX4_state_17 rfl (lv_at hl 1 rfl) ?_
    refine m_iI hx hb h 5 8 rfl rfl (by omega) (v := μ.2 5 j) (by simp [mN, mI, up2]) dX4_state_18 ?_
    refine lv_goto (tgt := 23) hx hb dX4_state_19 (by decide) ?_
    exact W.iret (v := μ.2 5 j) hx hb hr (fun t ht hW => ⟨⟨_, _, rfl, ⟨by rw [if_pos c5]; simp only [tn]; rw [nI_clamp (by omega)], rfl⟩, h.at ht hW⟩, h.2.2.2.2.F ht⟩) h.2.2.2.2.2.2 dX4_state_23
set_option maxRecDepth 100000 in
set_option maxHeartbeats 4000000 in
theorem c_X4_tokens (l : Launch) (D : va_G) (cy : Nat → ClassId) (bd : Nat → Nat) (μ : MS) (sz : Nat) {x : Int32} (h1 : μ.1 1 0 ≤ 12) : MMi l D cy bd yX4_tokens cX4_tokens 2 .int (rmd 2) [.ref (bd 0), .int x] μ sz (fun r u => r = (if inR x (μ.1 1 0) = true then nI (μ.1 14 (tn x)) else (-1)) ∧ u = mN μ 2 0 0) := by
  refine Met.ofW (cc := cX4_tokens) (maxL := 2) (ret := (some .int)) (by decide) rfl ?_
  intro p ev s m args below meth c s₁ B hml hv
  obtain ⟨rfl, hw⟩ := hv
  have hx := B.exec
  have hb := B.bytes
  have hr := B.returns
  have hlk := B.notSynchronized
  have hU : ∀ w ∈ UW, w.before _ s = true := fun w hw => atoms_spec (ws := Cond.code yX4_tokens cX4_tokens 2 (some .int) :: UW) B.pre w (List.mem_cons_of_mem _ hw)
  have hown : s.vm.findClass RX4 = some m.cls := findClass_of_methodNamed B.named
  have hR : 2 ≤ (headSpec (Cond.code yX4_tokens cX4_tokens 2 (some .int) :: UW) (rmd 2)).room.frames ∧ 32 * 2 ≤ (headSpec (Cond.code yX4_tokens cX4_tokens 2 (some .int) :: UW) (rmd 2)).room.locals := ⟨Nat.le_refl _, Nat.le_refl _⟩
  have hcs : 0 ≤ (headSpec (Cond.code yX4_tokens cX4_tokens 2 (some .int) :: UW) (rmd 2)).room.cells ∧ 0 ≤ (headSpec (Cond.code yX4_tokens cX4_tokens 2 (some .int) :: UW) (rmd 2)).room.slots := ⟨Nat.zero_le _, Nat.zero_le _⟩
  have h := WX.start hw
  clear hw
  generalize va_A (wv _ _ _) _ = A at h ⊢
  have hl := lv_entry ([.ref (bd 0), .int x]) (n := 2) (Nat.le_of_ble_eq_true rfl)
  rw [lg_entry_eq]
  generalize (lg_sl ([.ref (bd 0), .int x]) ++ List.replicate (2 - (lg_sl ([.ref (bd 0), .int x])).length) Slot.unset).toArray = ls at hl ⊢
  have hl : lv_has ls 2 [(0, .ref (bd 0)), (1, .int x)] := hl
  refine lv_aload_n hx hb dX4_tokens_0 rfl (lv_at hl 0 rfl) ?_
  refine lv_iconst (v := nI 0) hx hb dX4_tokens_1 (by decide +kernel) ?_
  refine m_p hx hb hU hown h 2 (by decide) ufX4_71 dX4_tokens_2 (fun H locs h => ?_)
  refine lv_aload_n hx hb dX4_tokens_5 rfl (lv_at hl 0 rfl) ?_
  refine lv_iload_n hx hb dX4_tokens_6 rfl (lv_at hl 1 rfl) ?_
  refine y_calli hx hb hml hU hown hR hcs h (c_X4_isEdge l D cy bd (mN μ 2 0 0) _ (x := x) (by rw [mN_k _ _ _ _ (by decide)]; omega)) umX4_98 ui_X4_isEdge us_X4_isEdge unX4 uc_X4_isEdge hd_X4_isEdge (by decide) (by decide) (m_recv h) hl.1 rfl (Nat.le_of_ble_eq_true rfl) dX4_tokens_7 (fun r u H locs hw h => ?_)
  obtain ⟨rfl, hu⟩ := hw
  have h : XM D cy bd s A H locs (mN μ 2 0 0) := by rw [← hu]; exact h
  clear hu
  refine z_if_eq (tgt := 22) hx hb dX4_tokens_10 (by decide) (fun c_10 => ?_) (fun c_10 => ?_)
  · refine lv_iconst (v := (-1)) hx hb dX4_tokens_22 (by decide +kernel) ?_
    exact W.iret (v := (-1)) hx hb hr (fun t ht hW => ⟨⟨_, _, rfl, ⟨by rw [if_neg (by rw [show inR x (μ.1 1 0) = false from c_10]; decide)], rfl⟩, h.at ht hW⟩, h.2.2.2.2.F ht⟩) h.2.2.2.2.2.2 dX4_tokens_23
  · have c5 : inR x (μ.1 1 0) = true := c_10
    obtain ⟨j, hj, rfl⟩ := inR_of (by omega) c5
    refine lv_aload_n hx hb dX4_tokens_13 rfl (lv_at hl 0 rfl) ?_
    refine m_g hx hb hU hown h 14 (by decide) ufX4_43 (v := .ref (bd 12)) (by first | rfl | (simp [mO, mN, mI, up2]; done)) dX4_tokens_14 ?_
    refine lv_iload_n hx hb dX4_tokens_17 rfl (lv_at hl 1 rfl) ?_
    refine m_iN hx hb h 14 12 ⟨rfl, by unfold mA; omega⟩ rfl (by omega) (v := μ.1 14 j) (by simp [mN, mI, up2]) dX4_tokens_18 ?_
    refine lv_goto (tgt := 23) hx hb dX4_tokens_19 (by decide) ?_
    exact W.iret (v := nI (μ.1 14 j)) hx hb hr (fun t ht hW => ⟨⟨_, _, rfl, ⟨by rw [if_pos c5]; simp only [tn]; rw [nI_clamp (by omega)], rfl⟩, h.at ht hW⟩, h.2.2.2.2.F ht⟩) h.2.2.2.2.2.2 dX4_tokens_23
set_option maxRecDepth 100000 in
set_option maxHeartbeats 4000000 in
theorem c_X4_firing (l : Launch) (D : va_G) (cy : Nat → ClassId) (bd : Nat → Nat) (μ : MS) (sz : Nat) {x : Int32} (h1 : μ.1 15 0 ≤ 200) : MMi l D cy bd yX4_firing cX4_firing 2 .int (rmd 1) [.ref (bd 0), .int x] μ sz (fun r u => r = (if inR x (μ.1 15 0) = true then nI (μ.1 16 (tn x)) else (-1)) ∧ u = mN μ 2 0 0) := by
  refine Met.ofW (cc := cX4_firing) (maxL := 2) (ret := (some .int)) (by decide) rfl ?_
  intro p ev s m args below meth c s₁ B hml hv
  obtain ⟨rfl, hw⟩ := hv
  have hx := B.exec
  have hb := B.bytes
  have hr := B.returns
  have hlk := B.notSynchronized
  have hU : ∀ w ∈ UW, w.before _ s = true := fun w hw => atoms_spec (ws := Cond.code yX4_firing cX4_firing 2 (some .int) :: UW) B.pre w (List.mem_cons_of_mem _ hw)
  have hown : s.vm.findClass RX4 = some m.cls := findClass_of_methodNamed B.named
  have hR : 1 ≤ (headSpec (Cond.code yX4_firing cX4_firing 2 (some .int) :: UW) (rmd 1)).room.frames ∧ 32 * 1 ≤ (headSpec (Cond.code yX4_firing cX4_firing 2 (some .int) :: UW) (rmd 1)).room.locals := ⟨Nat.le_refl _, Nat.le_refl _⟩
  have hcs : 0 ≤ (headSpec (Cond.code yX4_firing cX4_firing 2 (some .int) :: UW) (rmd 1)).room.cells ∧ 0 ≤ (headSpec (Cond.code yX4_firing cX4_firing 2 (some .int) :: UW) (rmd 1)).room.slots := ⟨Nat.zero_le _, Nat.zero_le _⟩
  have h := WX.start hw
  clear hw
  generalize va_A (wv _ _ _) _ = A at h ⊢
  have hl := lv_entry ([.ref (bd 0), .int x]) (n := 2) (Nat.le_of_ble_eq_true rfl)
  rw [lg_entry_eq]
  generalize (lg_sl ([.ref (bd 0), .int x]) ++ List.replicate (2 - (lg_sl ([.ref (bd 0), .int x])).length) Slot.unset).toArray = ls at hl ⊢
  have hl : lv_has ls 2 [(0, .ref (bd 0)), (1, .int x)] := hl
  refine lv_aload_n hx hb dX4_firing_0 rfl (lv_at hl 0 rfl) ?_
  refine lv_iconst (v := nI 0) hx hb dX4_firing_1 (by decide +kernel) ?_
  refine m_p hx hb hU hown h 2 (by decide) ufX4_71 dX4_firing_2 (fun H locs h => ?_)
  refine lv_iload_n hx hb dX4_firing_5 rfl (lv_at hl 1 rfl) ?_
  refine lv_iconst (v := nI 0) hx hb dX4_firing_6 (by decide +kernel) ?_
  refine lv_aload_n hx hb dX4_firing_7 rfl (lv_at hl 0 rfl) ?_
  refine m_g hx hb hU hown h 15 (by decide) ufX4_81 (v := .int (nI (μ.1 15 0))) (by first | rfl | (simp [mO, mN, mI, up2]; done)) dX4_firing_8 ?_
  refine lv_iconst (v := nI 1) hx hb dX4_firing_11 (by decide +kernel) ?_
  refine lv_isub hx hb dX4_firing_12 ?_
  refine y_callSi hx hb hml hU hown hR hcs h (c_X4_within l D cy bd (mN μ 2 0 0) _ (x := x) (a := nI 0) (b := ((nI (μ.1 15 0)) - (nI 1)))) umX4_87 uz_X4_within unX4 uc_X4_within hd_X4_within.2 (by decide) (by decide) hl.1 rfl (Nat.le_of_ble_eq_true rfl) dX4_firing_13 (fun r u H locs hw h => ?_)
  obtain ⟨rfl, hu⟩ := hw
  have h : XM D cy bd s A H locs (mN μ 2 0 0) := by rw [← hu]; exact h
  clear hu
  refine z_if_eq (tgt := 28) hx hb dX4_firing_16 (by decide) (fun c_16 => ?_) (fun c_16 => ?_)
  · refine lv_iconst (v := (-1)) hx hb dX4_firing_28 (by decide +kernel) ?_
    exact W.iret (v := (-1)) hx hb hr (fun t ht hW => ⟨⟨_, _, rfl, ⟨by rw [if_neg (by rw [show inR x (μ.1 15 0) = false from by rw [← wiI_in (by omega)]; exact c_16]; decide)], rfl⟩, h.at ht hW⟩, h.2.2.2.2.F ht⟩) h.2.2.2.2.2.2 dX4_firing_29
  · have c5 : inR x (μ.1 15 0) = true := by rw [← wiI_in (by omega)]; exact c_16
    obtain ⟨j, hj, rfl⟩ := inR_of (by omega) c5
    refine lv_aload_n hx hb dX4_firing_19 rfl (lv_at hl 0 rfl) ?_
    refine m_g hx hb hU hown h 16 (by decide) ufX4_46 (v := .ref (bd 13)) (by first | rfl | (simp [mO, mN, mI, up2]; done)) dX4_firing_20 ?_
    refine lv_iload_n hx hb dX4_firing_23 rfl (lv_at hl 1 rfl) ?_
    refine m_iN hx hb h 16 200 ⟨rfl, by unfold mA; omega⟩ rfl (by omega) (v := μ.1 16 j) (by simp [mN, mI, up2]) dX4_firing_24 ?_
    refine lv_goto (tgt := 29) hx hb dX4_firing_25 (by decide) ?_
    exact W.iret (v := nI (μ.1 16 j)) hx hb hr (fun t ht hW => ⟨⟨_, _, rfl, ⟨by rw [if_pos c5]; simp only [tn]; rw [nI_clamp (by omega)], rfl⟩, h.at ht hW⟩, h.2.2.2.2.F ht⟩) h.2.2.2.2.2.2 dX4_firing_29
set_option maxRecDepth 100000 in
set_option maxHeartbeats 4000000 in
theorem c_X4_repetitions (l : Launch) (D : va_G) (cy : Nat → ClassId) (bd : Nat → Nat) (μ : MS) (sz : Nat) {x : Int32} (h0 : μ.1 15 0 ≤ 200) (h1 : μ.1 0 0 ≤ 8) : MMi l D cy bd yX4_repetitions cX4_repetitions 2 .int (rmd 2) [.ref (bd 0), .int x] μ sz (fun r u => r = (if 0 < μ.1 15 0 ∧ inR x (μ.1 0 0) = true then nI (μ.1 17 (tn x)) else nI 0) ∧ u = mN μ 2 0 0) := by
  refine Met.ofW (cc := cX4_repetitions) (maxL := 2) (ret := (some .int)) (by decide) rfl ?_
  intro p ev s m args below meth c s₁ B hml hv
  obtain ⟨rfl, hw⟩ := hv
  have hx := B.exec
  have hb := B.bytes
  have hr := B.returns
  have hlk := B.notSynchronized
  have hU : ∀ w ∈ UW, w.before _ s = true := fun w hw => atoms_spec (ws := Cond.code yX4_repetitions cX4_repetitions 2 (some .int) :: UW) B.pre w (List.mem_cons_of_mem _ hw)
  have hown : s.vm.findClass RX4 = some m.cls := findClass_of_methodNamed B.named
  have hR : 2 ≤ (headSpec (Cond.code yX4_repetitions cX4_repetitions 2 (some .int) :: UW) (rmd 2)).room.frames ∧ 32 * 2 ≤ (headSpec (Cond.code yX4_repetitions cX4_repetitions 2 (some .int) :: UW) (rmd 2)).room.locals := ⟨Nat.le_refl _, Nat.le_refl _⟩
  have hcs : 0 ≤ (headSpec (Cond.code yX4_repetitions cX4_repetitions 2 (some .int) :: UW) (rmd 2)).room.cells ∧ 0 ≤ (headSpec (Cond.code yX4_repetitions cX4_repetitions 2 (some .int) :: UW) (rmd 2)).room.slots := ⟨Nat.zero_le _, Nat.zero_le _⟩
  have h := WX.start hw
  clear hw
  generalize va_A (wv _ _ _) _ = A at h ⊢
  have hl := lv_entry ([.ref (bd 0), .int x]) (n := 2) (Nat.le_of_ble_eq_true rfl)
  rw [lg_entry_eq]
  generalize (lg_sl ([.ref (bd 0), .int x]) ++ List.replicate (2 - (lg_sl ([.ref (bd 0), .int x])).length) Slot.unset).toArray = ls at hl ⊢
  have hl : lv_has ls 2 [(0, .ref (bd 0)), (1, .int x)] := hl
  refine lv_aload_n hx hb dX4_repetitions_0 rfl (lv_at hl 0 rfl) ?_
  refine lv_iconst (v := nI 0) hx hb dX4_repetitions_1 (by decide +kernel) ?_
  refine m_p hx hb hU hown h 2 (by decide) ufX4_71 dX4_repetitions_2 (fun H locs h => ?_)
  refine lv_aload_n hx hb dX4_repetitions_5 rfl (lv_at hl 0 rfl) ?_
  refine m_g hx hb hU hown h 15 (by decide) ufX4_81 (v := .int (nI (μ.1 15 0))) (by first | rfl | (simp [mO, mN, mI, up2]; done)) dX4_repetitions_6 ?_
  refine n_if_le (tgt := 29) hx hb (by show μ.1 15 0 < _; omega) dX4_repetitions_9 (by decide) (fun c_9 => ?_) (fun c_9 => ?_)
  · refine lv_iconst (v := nI 0) hx hb dX4_repetitions_29 (by decide +kernel) ?_
    exact W.iret (v := nI 0) hx hb hr (fun t ht hW => ⟨⟨_, _, rfl, ⟨by first | (rw [if_neg (fun q => absurd q.1 (by have c9 : μ.1 15 0 = 0 := c_9; omega))]; done) | (rw [if_neg (fun q => by have c17 : inR x (μ.1 0 0) = false := c_17; rw [c17] at q; exact absurd q.2 (by decide))]; done), rfl⟩, h.at ht hW⟩, h.2.2.2.2.F ht⟩) h.2.2.2.2.2.2 dX4_repetitions_30
  · refine lv_aload_n hx hb dX4_repetitions_12 rfl (lv_at hl 0 rfl) ?_
    refine lv_iload_n hx hb dX4_repetitions_13 rfl (lv_at hl 1 rfl) ?_
    refine y_calli hx hb hml hU hown hR hcs h (c_X4_isActor l D cy bd (mN μ 2 0 0) _ (x := x) (by rw [mN_k _ _ _ _ (by decide)]; omega)) umX4_94 ui_X4_isActor us_X4_isActor unX4 uc_X4_isActor hd_X4_isActor (by decide) (by decide) (m_recv h) hl.1 rfl (Nat.le_of_ble_eq_true rfl) dX4_repetitions_14 (fun r u H locs hw h => ?_)
    obtain ⟨rfl, hu⟩ := hw
    have h : XM D cy bd s A H locs (mN μ 2 0 0) := by rw [← hu]; exact h
    clear hu
    refine z_if_eq (tgt := 29) hx hb dX4_repetitions_17 (by decide) (fun c_17 => ?_) (fun c_17 => ?_)
    · refine lv_iconst (v := nI 0) hx hb dX4_repetitions_29 (by decide +kernel) ?_
      exact W.iret (v := nI 0) hx hb hr (fun t ht hW => ⟨⟨_, _, rfl, ⟨by first | (rw [if_neg (fun q => absurd q.1 (by have c9 : μ.1 15 0 = 0 := c_9; omega))]; done) | (rw [if_neg (fun q => by have c17 : inR x (μ.1 0 0) = false := c_17; rw [c17] at q; exact absurd q.2 (by decide))]; done), rfl⟩, h.at ht hW⟩, h.2.2.2.2.F ht⟩) h.2.2.2.2.2.2 dX4_repetitions_30
    · have c5 : inR x (μ.1 0 0) = true := c_17
      obtain ⟨j, hj, rfl⟩ := inR_of (by omega) c5
      have c9 : 0 < μ.1 15 0 := c_9
      refine lv_aload_n hx hb dX4_repetitions_20 rfl (lv_at hl 0 rfl) ?_
      refine m_g hx hb hU hown h 17 (by decide) ufX4_49 (v := .ref (bd 14)) (by first | rfl | (simp [mO, mN, mI, up2]; done)) dX4_repetitions_21 ?_
      refine lv_iload_n hx hb dX4_repetitions_24 rfl (lv_at hl 1 rfl) ?_
      refine m_iN hx hb h 17 8 ⟨rfl, by unfold mA; omega⟩ rfl (by omega) (v := μ.1 17 j) (by simp [mN, mI, up2]) dX4_repetitions_25 ?_
      refine lv_goto (tgt := 30) hx hb dX4_repetitions_26 (by decide) ?_
      exact W.iret (v := nI (μ.1 17 j)) hx hb hr (fun t ht hW => ⟨⟨_, _, rfl, ⟨by rw [if_pos ⟨c9, c5⟩]; simp only [tn]; rw [nI_clamp (by omega)], rfl⟩, h.at ht hW⟩, h.2.2.2.2.F ht⟩) h.2.2.2.2.2.2 dX4_repetitions_30
set_option maxRecDepth 100000 in
set_option maxHeartbeats 4000000 in
theorem c_X4_bound (l : Launch) (D : va_G) (cy : Nat → ClassId) (bd : Nat → Nat) (μ : MS) (sz : Nat) {x : Int32} (h0 : μ.1 15 0 ≤ 200) (h1 : μ.1 1 0 ≤ 12) : MMi l D cy bd yX4_bound cX4_bound 2 .int (rmd 2) [.ref (bd 0), .int x] μ sz (fun r u => r = (if 0 < μ.1 15 0 ∧ inR x (μ.1 1 0) = true then nI (μ.1 18 (tn x)) else (-1)) ∧ u = mN μ 2 0 0) := by
  refine Met.ofW (cc := cX4_bound) (maxL := 2) (ret := (some .int)) (by decide) rfl ?_
  intro p ev s m args below meth c s₁ B hml hv
  obtain ⟨rfl, hw⟩ := hv
  have hx := B.exec
  have hb := B.bytes
  have hr := B.returns
  have hlk := B.notSynchronized
  have hU : ∀ w ∈ UW, w.before _ s = true := fun w hw => atoms_spec (ws := Cond.code yX4_bound cX4_bound 2 (some .int) :: UW) B.pre w (List.mem_cons_of_mem _ hw)
  have hown : s.vm.findClass RX4 = some m.cls := findClass_of_methodNamed B.named
  have hR : 2 ≤ (headSpec (Cond.code yX4_bound cX4_bound 2 (some .int) :: UW) (rmd 2)).room.frames ∧ 32 * 2 ≤ (headSpec (Cond.code yX4_bound cX4_bound 2 (some .int) :: UW) (rmd 2)).room.locals := ⟨Nat.le_refl _, Nat.le_refl _⟩
  have hcs : 0 ≤ (headSpec (Cond.code yX4_bound cX4_bound 2 (some .int) :: UW) (rmd 2)).room.cells ∧ 0 ≤ (headSpec (Cond.code yX4_bound cX4_bound 2 (some .int) :: UW) (rmd 2)).room.slots := ⟨Nat.zero_le _, Nat.zero_le _⟩
  have h := WX.start hw
  clear hw
  generalize va_A (wv _ _ _) _ = A at h ⊢
  have hl := lv_entry ([.ref (bd 0), .int x]) (n := 2) (Nat.le_of_ble_eq_true rfl)
  rw [lg_entry_eq]
  generalize (lg_sl ([.ref (bd 0), .int x]) ++ List.replicate (2 - (lg_sl ([.ref (bd 0), .int x])).length) Slot.unset).toArray = ls at hl ⊢
  have hl : lv_has ls 2 [(0, .ref (bd 0)), (1, .int x)] := hl
  refine lv_aload_n hx hb dX4_bound_0 rfl (lv_at hl 0 rfl) ?_
  refine lv_iconst (v := nI 0) hx hb dX4_bound_1 (by decide +kernel) ?_
  refine m_p hx hb hU hown h 2 (by decide) ufX4_71 dX4_bound_2 (fun H locs h => ?_)
  refine lv_aload_n hx hb dX4_bound_5 rfl (lv_at hl 0 rfl) ?_
  refine m_g hx hb hU hown h 15 (by decide) ufX4_81 (v := .int (nI (μ.1 15 0))) (by first | rfl | (simp [mO, mN, mI, up2]; done)) dX4_bound_6 ?_
  refine n_if_le (tgt := 29) hx hb (by show μ.1 15 0 < _; omega) dX4_bound_9 (by decide) (fun c_9 => ?_) (fun c_9 => ?_)
  · refine lv_iconst (v := (-1)) hx hb dX4_bound_29 (by decide +kernel) ?_
    exact W.iret (v := (-1)) hx hb hr (fun t ht hW => ⟨⟨_, _, rfl, ⟨by first | (rw [if_neg (fun q => absurd q.1 (by have c9 : μ.1 15 0 = 0 := c_9; omega))]; done) | (rw [if_neg (fun q => by have c17 : inR x (μ.1 1 0) = false := c_17; rw [c17] at q; exact absurd q.2 (by decide))]; done), rfl⟩, h.at ht hW⟩, h.2.2.2.2.F ht⟩) h.2.2.2.2.2.2 dX4_bound_30
  · refine lv_aload_n hx hb dX4_bound_12 rfl (lv_at hl 0 rfl) ?_
    refine lv_iload_n hx hb dX4_bound_13 rfl (lv_at hl 1 rfl) ?_
    refine y_calli hx hb hml hU hown hR hcs h (c_X4_isEdge l D cy bd (mN μ 2 0 0) _ (x := x) (by rw [mN_k _ _ _ _ (by decide)]; omega)) umX4_98 ui_X4_isEdge us_X4_isEdge unX4 uc_X4_isEdge hd_X4_isEdge (by decide) (by decide) (m_recv h) hl.1 rfl (Nat.le_of_ble_eq_true rfl) dX4_bound_14 (fun r u H locs hw h => ?_)
    obtain ⟨rfl, hu⟩ := hw
    have h : XM D cy bd s A H locs (mN μ 2 0 0) := by rw [← hu]; exact h
    clear hu
    refine z_if_eq (tgt := 29) hx hb dX4_bound_17 (by decide) (fun c_17 => ?_) (fun c_17 => ?_)
    · refine lv_iconst (v := (-1)) hx hb dX4_bound_29 (by decide +kernel) ?_
      exact W.iret (v := (-1)) hx hb hr (fun t ht hW => ⟨⟨_, _, rfl, ⟨by first | (rw [if_neg (fun q => absurd q.1 (by have c9 : μ.1 15 0 = 0 := c_9; omega))]; done) | (rw [if_neg (fun q => by have c17 : inR x (μ.1 1 0) = false := c_17; rw [c17] at q; exact absurd q.2 (by decide))]; done), rfl⟩, h.at ht hW⟩, h.2.2.2.2.F ht⟩) h.2.2.2.2.2.2 dX4_bound_30
    · have c5 : inR x (μ.1 1 0) = true := c_17
      obtain ⟨j, hj, rfl⟩ := inR_of (by omega) c5
      have c9 : 0 < μ.1 15 0 := c_9
      refine lv_aload_n hx hb dX4_bound_20 rfl (lv_at hl 0 rfl) ?_
      refine m_g hx hb hU hown h 18 (by decide) ufX4_52 (v := .ref (bd 15)) (by first | rfl | (simp [mO, mN, mI, up2]; done)) dX4_bound_21 ?_
      refine lv_iload_n hx hb dX4_bound_24 rfl (lv_at hl 1 rfl) ?_
      refine m_iN hx hb h 18 12 ⟨rfl, by unfold mA; omega⟩ rfl (by omega) (v := μ.1 18 j) (by simp [mN, mI, up2]) dX4_bound_25 ?_
      refine lv_goto (tgt := 30) hx hb dX4_bound_26 (by decide) ?_
      exact W.iret (v := nI (μ.1 18 j)) hx hb hr (fun t ht hW => ⟨⟨_, _, rfl, ⟨by rw [if_pos ⟨c9, c5⟩]; simp only [tn]; rw [nI_clamp (by omega)], rfl⟩, h.at ht hW⟩, h.2.2.2.2.F ht⟩) h.2.2.2.2.2.2 dX4_bound_30
