/-! ===== TokenFlow: questions, and what changes the network ===== -/
theorem bI_nar (b : Bool) : narrow .boolean (.int (bI b)) = .int (bI b) := by cases b <;> decide +kernel
theorem inR_ok {x : Int32} {n : Nat} (h0 : ¬ x < 0) (h : ¬ nI n ≤ x) : inR x n = true := by
  unfold inR
  rw [Bool.and_eq_true]
  refine ⟨decide_eq_true ?_, decide_eq_true ?_⟩
  · rw [Int32.le_iff_toInt_le]; rw [Int32.lt_iff_toInt_lt] at h0; omega
  · rw [Int32.lt_iff_toInt_lt]; rw [Int32.le_iff_toInt_le] at h; omega
def wi (x : Int32) (a b : Nat) : Bool := decide (nI a ≤ x) && decide (x ≤ nI b)
theorem wi_lo {x : Int32} {a b : Nat} (h : x < nI a) : wi x a b = false := by
  unfold wi
  rw [decide_eq_false (by rw [Int32.le_iff_toInt_le]; rw [Int32.lt_iff_toInt_lt] at h; omega), Bool.false_and]
theorem wi_hi {x : Int32} {a b : Nat} (h : nI b < x) : wi x a b = false := by
  unfold wi
  rw [decide_eq_false (p := x ≤ nI b) (by rw [Int32.le_iff_toInt_le]; rw [Int32.lt_iff_toInt_lt] at h; omega), Bool.and_false]
theorem wi_ok {x : Int32} {a b : Nat} (h0 : ¬ x < nI a) (h : ¬ nI b < x) : wi x a b = true := by
  unfold wi
  rw [Bool.and_eq_true]
  refine ⟨decide_eq_true ?_, decide_eq_true ?_⟩
  · rw [Int32.le_iff_toInt_le]; rw [Int32.lt_iff_toInt_lt] at h0; omega
  · rw [Int32.le_iff_toInt_le]; rw [Int32.lt_iff_toInt_lt] at h; omega
theorem wi_of {x : Int32} {a b : Nat} (hb : b < 2 ^ 31) (ha : a < 2 ^ 31) (h : wi x a b = true) : ∃ j, a ≤ j ∧ j ≤ b ∧ x = nI j := by
  unfold wi at h
  rw [Bool.and_eq_true] at h
  have h1 := of_decide_eq_true h.1
  have h2 := of_decide_eq_true h.2
  have h0 : ¬ x < 0 := fun q => by
    rw [Int32.le_iff_toInt_le, nI_toInt ha] at h1
    rw [Int32.lt_iff_toInt_lt, show (0 : Int32).toInt = 0 from rfl] at q
    omega
  obtain ⟨j, hj, rfl⟩ := nI_of h0
  exact ⟨j, (nI_leI ha hj).mp h1, (nI_leI hj hb).mp h2, rfl⟩
set_option maxRecDepth 100000 in
set_option maxHeartbeats 4000000 in
theorem c_X3_actors (l : Launch) (D : va_G) (cy : Nat → ClassId) (ad : Nat → Nat) (σ : TS) (sz : Nat)  : MTi l D cy ad yX3_actors cX3_actors 1 .int (rmd 0) [.ref (ad 0)] σ sz (fun r u => r = nI (σ.1 20 0) ∧ u = σ) := by
  refine Met.ofW (cc := cX3_actors) (maxL := 1) (ret := (some .int)) (by decide) rfl ?_
  intro p ev s m args below meth c s₁ B hml hv
  obtain ⟨rfl, hw⟩ := hv
  have hx := B.exec
  have hb := B.bytes
  have hr := B.returns
  have hlk := B.notSynchronized
  have hU : ∀ w ∈ UW, w.before _ s = true := fun w hw => atoms_spec (ws := Cond.code yX3_actors cX3_actors 1 (some .int) :: UW) B.pre w (List.mem_cons_of_mem _ hw)
  have hown : s.vm.findClass RX3 = some m.cls := findClass_of_methodNamed B.named
  have hR : 0 ≤ (headSpec (Cond.code yX3_actors cX3_actors 1 (some .int) :: UW) (rmd 0)).room.frames ∧ 32 * 0 ≤ (headSpec (Cond.code yX3_actors cX3_actors 1 (some .int) :: UW) (rmd 0)).room.locals := ⟨Nat.le_refl _, Nat.le_refl _⟩
  have hcs : 0 ≤ (headSpec (Cond.code yX3_actors cX3_actors 1 (some .int) :: UW) (rmd 0)).room.cells ∧ 0 ≤ (headSpec (Cond.code yX3_actors cX3_actors 1 (some .int) :: UW) (rmd 0)).room.slots := ⟨Nat.zero_le _, Nat.zero_le _⟩
  have h := WX.start hw
  clear hw
  generalize va_A (wv _ _ _) _ = A at h ⊢
  have hl := lv_entry ([.ref (ad 0)]) (n := 1) (Nat.le_of_ble_eq_true rfl)
  rw [lg_entry_eq]
  generalize (lg_sl ([.ref (ad 0)]) ++ List.replicate (1 - (lg_sl ([.ref (ad 0)])).length) Slot.unset).toArray = ls at hl ⊢
  have hl : lv_has ls 1 [(0, .ref (ad 0))] := hl
  refine lv_aload_n hx hb dX3_actors_0 rfl (lv_at hl 0 rfl) ?_
  refine t_gM hx hb hU hown h 4 (by decide) ufX3_34 (v := .int (nI (σ.1 20 0))) rfl dX3_actors_1 ?_
  exact W.iret (v := nI (σ.1 20 0)) hx hb hr (fun t ht hW => ⟨⟨_, _, rfl, ⟨rfl, rfl⟩, h.at ht hW⟩, h.2.2.2.2.F ht⟩) h.2.2.2.2.2.2 dX3_actors_4
set_option maxRecDepth 100000 in
set_option maxHeartbeats 4000000 in
theorem c_X3_edges (l : Launch) (D : va_G) (cy : Nat → ClassId) (ad : Nat → Nat) (σ : TS) (sz : Nat)  : MTi l D cy ad yX3_edges cX3_edges 1 .int (rmd 0) [.ref (ad 0)] σ sz (fun r u => r = nI (σ.1 21 0) ∧ u = σ) := by
  refine Met.ofW (cc := cX3_edges) (maxL := 1) (ret := (some .int)) (by decide) rfl ?_
  intro p ev s m args below meth c s₁ B hml hv
  obtain ⟨rfl, hw⟩ := hv
  have hx := B.exec
  have hb := B.bytes
  have hr := B.returns
  have hlk := B.notSynchronized
  have hU : ∀ w ∈ UW, w.before _ s = true := fun w hw => atoms_spec (ws := Cond.code yX3_edges cX3_edges 1 (some .int) :: UW) B.pre w (List.mem_cons_of_mem _ hw)
  have hown : s.vm.findClass RX3 = some m.cls := findClass_of_methodNamed B.named
  have hR : 0 ≤ (headSpec (Cond.code yX3_edges cX3_edges 1 (some .int) :: UW) (rmd 0)).room.frames ∧ 32 * 0 ≤ (headSpec (Cond.code yX3_edges cX3_edges 1 (some .int) :: UW) (rmd 0)).room.locals := ⟨Nat.le_refl _, Nat.le_refl _⟩
  have hcs : 0 ≤ (headSpec (Cond.code yX3_edges cX3_edges 1 (some .int) :: UW) (rmd 0)).room.cells ∧ 0 ≤ (headSpec (Cond.code yX3_edges cX3_edges 1 (some .int) :: UW) (rmd 0)).room.slots := ⟨Nat.zero_le _, Nat.zero_le _⟩
  have h := WX.start hw
  clear hw
  generalize va_A (wv _ _ _) _ = A at h ⊢
  have hl := lv_entry ([.ref (ad 0)]) (n := 1) (Nat.le_of_ble_eq_true rfl)
  rw [lg_entry_eq]
  generalize (lg_sl ([.ref (ad 0)]) ++ List.replicate (1 - (lg_sl ([.ref (ad 0)])).length) Slot.unset).toArray = ls at hl ⊢
  have hl : lv_has ls 1 [(0, .ref (ad 0))] := hl
  refine lv_aload_n hx hb dX3_edges_0 rfl (lv_at hl 0 rfl) ?_
  refine t_gM hx hb hU hown h 5 (by decide) ufX3_57 (v := .int (nI (σ.1 21 0))) rfl dX3_edges_1 ?_
  exact W.iret (v := nI (σ.1 21 0)) hx hb hr (fun t ht hW => ⟨⟨_, _, rfl, ⟨rfl, rfl⟩, h.at ht hW⟩, h.2.2.2.2.F ht⟩) h.2.2.2.2.2.2 dX3_edges_4
set_option maxRecDepth 100000 in
set_option maxHeartbeats 4000000 in
theorem c_X3_planned (l : Launch) (D : va_G) (cy : Nat → ClassId) (ad : Nat → Nat) (σ : TS) (sz : Nat)  : MTi l D cy ad yX3_planned cX3_planned 1 .int (rmd 0) [.ref (ad 0)] σ sz (fun r u => r = nI (σ.1 22 0) ∧ u = σ) := by
  refine Met.ofW (cc := cX3_planned) (maxL := 1) (ret := (some .int)) (by decide) rfl ?_
  intro p ev s m args below meth c s₁ B hml hv
  obtain ⟨rfl, hw⟩ := hv
  have hx := B.exec
  have hb := B.bytes
  have hr := B.returns
  have hlk := B.notSynchronized
  have hU : ∀ w ∈ UW, w.before _ s = true := fun w hw => atoms_spec (ws := Cond.code yX3_planned cX3_planned 1 (some .int) :: UW) B.pre w (List.mem_cons_of_mem _ hw)
  have hown : s.vm.findClass RX3 = some m.cls := findClass_of_methodNamed B.named
  have hR : 0 ≤ (headSpec (Cond.code yX3_planned cX3_planned 1 (some .int) :: UW) (rmd 0)).room.frames ∧ 32 * 0 ≤ (headSpec (Cond.code yX3_planned cX3_planned 1 (some .int) :: UW) (rmd 0)).room.locals := ⟨Nat.le_refl _, Nat.le_refl _⟩
  have hcs : 0 ≤ (headSpec (Cond.code yX3_planned cX3_planned 1 (some .int) :: UW) (rmd 0)).room.cells ∧ 0 ≤ (headSpec (Cond.code yX3_planned cX3_planned 1 (some .int) :: UW) (rmd 0)).room.slots := ⟨Nat.zero_le _, Nat.zero_le _⟩
  have h := WX.start hw
  clear hw
  generalize va_A (wv _ _ _) _ = A at h ⊢
  have hl := lv_entry ([.ref (ad 0)]) (n := 1) (Nat.le_of_ble_eq_true rfl)
  rw [lg_entry_eq]
  generalize (lg_sl ([.ref (ad 0)]) ++ List.replicate (1 - (lg_sl ([.ref (ad 0)])).length) Slot.unset).toArray = ls at hl ⊢
  have hl : lv_has ls 1 [(0, .ref (ad 0))] := hl
  refine lv_aload_n hx hb dX3_planned_0 rfl (lv_at hl 0 rfl) ?_
  refine t_gM hx hb hU hown h 6 (by decide) ufX3_81 (v := .int (nI (σ.1 22 0))) rfl dX3_planned_1 ?_
  exact W.iret (v := nI (σ.1 22 0)) hx hb hr (fun t ht hW => ⟨⟨_, _, rfl, ⟨rfl, rfl⟩, h.at ht hW⟩, h.2.2.2.2.F ht⟩) h.2.2.2.2.2.2 dX3_planned_4
set_option maxRecDepth 100000 in
set_option maxHeartbeats 4000000 in
theorem c_X3_isActor (l : Launch) (D : va_G) (cy : Nat → ClassId) (ad : Nat → Nat) (σ : TS) (sz : Nat) {x : Int32} : MTi l D cy ad yX3_isActor cX3_isActor 2 .boolean (rmd 0) [.ref (ad 0), .int x] σ sz (fun r u => r = bI (inR x (σ.1 20 0)) ∧ u = σ) := by
  refine Met.ofW (cc := cX3_isActor) (maxL := 2) (ret := (some .boolean)) (by decide) rfl ?_
  intro p ev s m args below meth c s₁ B hml hv
  obtain ⟨rfl, hw⟩ := hv
  have hx := B.exec
  have hb := B.bytes
  have hr := B.returns
  have hlk := B.notSynchronized
  have hU : ∀ w ∈ UW, w.before _ s = true := fun w hw => atoms_spec (ws := Cond.code yX3_isActor cX3_isActor 2 (some .boolean) :: UW) B.pre w (List.mem_cons_of_mem _ hw)
  have hown : s.vm.findClass RX3 = some m.cls := findClass_of_methodNamed B.named
  have hR : 0 ≤ (headSpec (Cond.code yX3_isActor cX3_isActor 2 (some .boolean) :: UW) (rmd 0)).room.frames ∧ 32 * 0 ≤ (headSpec (Cond.code yX3_isActor cX3_isActor 2 (some .boolean) :: UW) (rmd 0)).room.locals := ⟨Nat.le_refl _, Nat.le_refl _⟩
  have hcs : 0 ≤ (headSpec (Cond.code yX3_isActor cX3_isActor 2 (some .boolean) :: UW) (rmd 0)).room.cells ∧ 0 ≤ (headSpec (Cond.code yX3_isActor cX3_isActor 2 (some .boolean) :: UW) (rmd 0)).room.slots := ⟨Nat.zero_le _, Nat.zero_le _⟩
  have h := WX.start hw
  clear hw
  generalize va_A (wv _ _ _) _ = A at h ⊢
  have hl := lv_entry ([.ref (ad 0), .int x]) (n := 2) (Nat.le_of_ble_eq_true rfl)
  rw [lg_entry_eq]
  generalize (lg_sl ([.ref (ad 0), .int x]) ++ List.replicate (2 - (lg_sl ([.ref (ad 0), .int x])).length) Slot.unset).toArray = ls at hl ⊢
  have hl : lv_has ls 2 [(0, .ref (ad 0)), (1, .int x)] := hl
  refine lv_iload_n hx hb dX3_isActor_0 rfl (lv_at hl 1 rfl) ?_
  refine lv_if_lt (tgt := 16) hx hb dX3_isActor_1 (by decide) (fun c_1 => ?_) (fun c_1 => ?_)
  · refine lv_iconst (v := nI 0) hx hb dX3_isActor_16 (by decide +kernel) ?_
    exact W.zret (v := nI 0) hx hb hr (by decide +kernel) (fun t ht hW => ⟨⟨_, _, rfl, ⟨(by first | (rw [inR_neg c_1]; rfl) | (rw [inR_big c_9]; rfl) | (rw [inR_ok c_1 c_9]; rfl)), rfl⟩, h.at ht hW⟩, h.2.2.2.2.F ht⟩) h.2.2.2.2.2.2 dX3_isActor_17
  · refine lv_iload_n hx hb dX3_isActor_4 rfl (lv_at hl 1 rfl) ?_
    refine lv_aload_n hx hb dX3_isActor_5 rfl (lv_at hl 0 rfl) ?_
    refine t_gM hx hb hU hown h 4 (by decide) ufX3_34 (v := .int (nI (σ.1 20 0))) rfl dX3_isActor_6 ?_
    refine lv_icmp_ge (tgt := 16) hx hb dX3_isActor_9 (by decide) (fun c_9 => ?_) (fun c_9 => ?_)
    · refine lv_iconst (v := nI 0) hx hb dX3_isActor_16 (by decide +kernel) ?_
      exact W.zret (v := nI 0) hx hb hr (by decide +kernel) (fun t ht hW => ⟨⟨_, _, rfl, ⟨(by first | (rw [inR_neg c_1]; rfl) | (rw [inR_big c_9]; rfl) | (rw [inR_ok c_1 c_9]; rfl)), rfl⟩, h.at ht hW⟩, h.2.2.2.2.F ht⟩) h.2.2.2.2.2.2 dX3_isActor_17
    · refine lv_iconst (v := nI 1) hx hb dX3_isActor_12 (by decide +kernel) ?_
      refine lv_goto (tgt := 17) hx hb dX3_isActor_13 (by decide) ?_
      exact W.zret (v := nI 1) hx hb hr (by decide +kernel) (fun t ht hW => ⟨⟨_, _, rfl, ⟨(by first | (rw [inR_neg c_1]; rfl) | (rw [inR_big c_9]; rfl) | (rw [inR_ok c_1 c_9]; rfl)), rfl⟩, h.at ht hW⟩, h.2.2.2.2.F ht⟩) h.2.2.2.2.2.2 dX3_isActor_17
set_option maxRecDepth 100000 in
set_option maxHeartbeats 4000000 in
theorem c_X3_isEdge (l : Launch) (D : va_G) (cy : Nat → ClassId) (ad : Nat → Nat) (σ : TS) (sz : Nat) {x : Int32} : MTi l D cy ad yX3_isEdge cX3_isEdge 2 .boolean (rmd 0) [.ref (ad 0), .int x] σ sz (fun r u => r = bI (inR x (σ.1 21 0)) ∧ u = σ) := by
  refine Met.ofW (cc := cX3_isEdge) (maxL := 2) (ret := (some .boolean)) (by decide) rfl ?_
  intro p ev s m args below meth c s₁ B hml hv
  obtain ⟨rfl, hw⟩ := hv
  have hx := B.exec
  have hb := B.bytes
  have hr := B.returns
  have hlk := B.notSynchronized
  have hU : ∀ w ∈ UW, w.before _ s = true := fun w hw => atoms_spec (ws := Cond.code yX3_isEdge cX3_isEdge 2 (some .boolean) :: UW) B.pre w (List.mem_cons_of_mem _ hw)
  have hown : s.vm.findClass RX3 = some m.cls := findClass_of_methodNamed B.named
  have hR : 0 ≤ (headSpec (Cond.code yX3_isEdge cX3_isEdge 2 (some .boolean) :: UW) (rmd 0)).room.frames ∧ 32 * 0 ≤ (headSpec (Cond.code yX3_isEdge cX3_isEdge 2 (some .boolean) :: UW) (rmd 0)).room.locals := ⟨Nat.le_refl _, Nat.le_refl _⟩
  have hcs : 0 ≤ (headSpec (Cond.code yX3_isEdge cX3_isEdge 2 (some .boolean) :: UW) (rmd 0)).room.cells ∧ 0 ≤ (headSpec (Cond.code yX3_isEdge cX3_isEdge 2 (some .boolean) :: UW) (rmd 0)).room.slots := ⟨Nat.zero_le _, Nat.zero_le _⟩
  have h := WX.start hw
  clear hw
  generalize va_A (wv _ _ _) _ = A at h ⊢
  have hl := lv_entry ([.ref (ad 0), .int x]) (n := 2) (Nat.le_of_ble_eq_true rfl)
  rw [lg_entry_eq]
  generalize (lg_sl ([.ref (ad 0), .int x]) ++ List.replicate (2 - (lg_sl ([.ref (ad 0), .int x])).length) Slot.unset).toArray = ls at hl ⊢
  have hl : lv_has ls 2 [(0, .ref (ad 0)), (1, .int x)] := hl
  refine lv_iload_n hx hb dX3_isEdge_0 rfl (lv_at hl 1 rfl) ?_
  refine lv_if_lt (tgt := 16) hx hb dX3_isEdge_1 (by decide) (fun c_1 => ?_) (fun c_1 => ?_)
  · refine lv_iconst (v := nI 0) hx hb dX3_isEdge_16 (by decide +kernel) ?_
    exact W.zret (v := nI 0) hx hb hr (by decide +kernel) (fun t ht hW => ⟨⟨_, _, rfl, ⟨(by first | (rw [inR_neg c_1]; rfl) | (rw [inR_big c_9]; rfl) | (rw [inR_ok c_1 c_9]; rfl)), rfl⟩, h.at ht hW⟩, h.2.2.2.2.F ht⟩) h.2.2.2.2.2.2 dX3_isEdge_17
  · refine lv_iload_n hx hb dX3_isEdge_4 rfl (lv_at hl 1 rfl) ?_
    refine lv_aload_n hx hb dX3_isEdge_5 rfl (lv_at hl 0 rfl) ?_
    refine t_gM hx hb hU hown h 5 (by decide) ufX3_57 (v := .int (nI (σ.1 21 0))) rfl dX3_isEdge_6 ?_
    refine lv_icmp_ge (tgt := 16) hx hb dX3_isEdge_9 (by decide) (fun c_9 => ?_) (fun c_9 => ?_)
    · refine lv_iconst (v := nI 0) hx hb dX3_isEdge_16 (by decide +kernel) ?_
      exact W.zret (v := nI 0) hx hb hr (by decide +kernel) (fun t ht hW => ⟨⟨_, _, rfl, ⟨(by first | (rw [inR_neg c_1]; rfl) | (rw [inR_big c_9]; rfl) | (rw [inR_ok c_1 c_9]; rfl)), rfl⟩, h.at ht hW⟩, h.2.2.2.2.F ht⟩) h.2.2.2.2.2.2 dX3_isEdge_17
    · refine lv_iconst (v := nI 1) hx hb dX3_isEdge_12 (by decide +kernel) ?_
      refine lv_goto (tgt := 17) hx hb dX3_isEdge_13 (by decide) ?_
      exact W.zret (v := nI 1) hx hb hr (by decide +kernel) (fun t ht hW => ⟨⟨_, _, rfl, ⟨(by first | (rw [inR_neg c_1]; rfl) | (rw [inR_big c_9]; rfl) | (rw [inR_ok c_1 c_9]; rfl)), rfl⟩, h.at ht hW⟩, h.2.2.2.2.F ht⟩) h.2.2.2.2.2.2 dX3_isEdge_17
set_option maxRecDepth 100000 in
set_option maxHeartbeats 4000000 in
theorem c_X3_isAtOnce (l : Launch) (D : va_G) (cy : Nat → ClassId) (ad : Nat → Nat) (σ : TS) (sz : Nat) {x : Int32} : MTi l D cy ad yX3_isAtOnce cX3_isAtOnce 1 .boolean (rmd 0) [.int x] σ sz (fun r u => r = bI (wi x 1 9) ∧ u = σ) := by
  refine Met.ofW (cc := cX3_isAtOnce) (maxL := 1) (ret := (some .boolean)) (by decide) rfl ?_
  intro p ev s m args below meth c s₁ B hml hv
  obtain ⟨rfl, hw⟩ := hv
  have hx := B.exec
  have hb := B.bytes
  have hr := B.returns
  have hlk := B.notSynchronized
  have hU : ∀ w ∈ UW, w.before _ s = true := fun w hw => atoms_spec (ws := Cond.code yX3_isAtOnce cX3_isAtOnce 1 (some .boolean) :: UW) B.pre w (List.mem_cons_of_mem _ hw)
  have hown : s.vm.findClass RX3 = some m.cls := findClass_of_methodNamed B.named
  have hR : 0 ≤ (headSpec (Cond.code yX3_isAtOnce cX3_isAtOnce 1 (some .boolean) :: UW) (rmd 0)).room.frames ∧ 32 * 0 ≤ (headSpec (Cond.code yX3_isAtOnce cX3_isAtOnce 1 (some .boolean) :: UW) (rmd 0)).room.locals := ⟨Nat.le_refl _, Nat.le_refl _⟩
  have hcs : 0 ≤ (headSpec (Cond.code yX3_isAtOnce cX3_isAtOnce 1 (some .boolean) :: UW) (rmd 0)).room.cells ∧ 0 ≤ (headSpec (Cond.code yX3_isAtOnce cX3_isAtOnce 1 (some .boolean) :: UW) (rmd 0)).room.slots := ⟨Nat.zero_le _, Nat.zero_le _⟩
  have h := WX.start hw
  clear hw
  generalize va_A (wv _ _ _) _ = A at h ⊢
  have hl := lv_entry ([.int x]) (n := 1) (Nat.le_of_ble_eq_true rfl)
  rw [lg_entry_eq]
  generalize (lg_sl ([.int x]) ++ List.replicate (1 - (lg_sl ([.int x])).length) Slot.unset).toArray = ls at hl ⊢
  have hl : lv_has ls 1 [(0, .int x)] := hl
  refine lv_iload_n hx hb dX3_isAtOnce_0 rfl (lv_at hl 0 rfl) ?_
  refine lv_iconst (v := nI 1) hx hb dX3_isAtOnce_1 (by decide +kernel) ?_
  refine lv_icmp_lt (tgt := 15) hx hb dX3_isAtOnce_2 (by decide) (fun c_2 => ?_) (fun c_2 => ?_)
  · refine lv_iconst (v := nI 0) hx hb dX3_isAtOnce_15 (by decide +kernel) ?_
    exact W.zret (v := nI 0) hx hb hr (by decide +kernel) (fun t ht hW => ⟨⟨_, _, rfl, ⟨(by first | (rw [wi_lo c_2]; rfl) | (rw [wi_hi c_8]; rfl) | (rw [wi_ok c_2 c_8]; rfl)), rfl⟩, h.at ht hW⟩, h.2.2.2.2.F ht⟩) h.2.2.2.2.2.2 dX3_isAtOnce_16
  · refine lv_iload_n hx hb dX3_isAtOnce_5 rfl (lv_at hl 0 rfl) ?_
    refine lv_bipush (v := nI 9) hx hb dX3_isAtOnce_6 (by decide +kernel) ?_
    refine lv_icmp_gt (tgt := 15) hx hb dX3_isAtOnce_8 (by decide) (fun c_8 => ?_) (fun c_8 => ?_)
    · refine lv_iconst (v := nI 0) hx hb dX3_isAtOnce_15 (by decide +kernel) ?_
      exact W.zret (v := nI 0) hx hb hr (by decide +kernel) (fun t ht hW => ⟨⟨_, _, rfl, ⟨(by first | (rw [wi_lo c_2]; rfl) | (rw [wi_hi c_8]; rfl) | (rw [wi_ok c_2 c_8]; rfl)), rfl⟩, h.at ht hW⟩, h.2.2.2.2.F ht⟩) h.2.2.2.2.2.2 dX3_isAtOnce_16
    · refine lv_iconst (v := nI 1) hx hb dX3_isAtOnce_11 (by decide +kernel) ?_
      refine lv_goto (tgt := 16) hx hb dX3_isAtOnce_12 (by decide) ?_
      exact W.zret (v := nI 1) hx hb hr (by decide +kernel) (fun t ht hW => ⟨⟨_, _, rfl, ⟨(by first | (rw [wi_lo c_2]; rfl) | (rw [wi_hi c_8]; rfl) | (rw [wi_ok c_2 c_8]; rfl)), rfl⟩, h.at ht hW⟩, h.2.2.2.2.F ht⟩) h.2.2.2.2.2.2 dX3_isAtOnce_16
set_option maxRecDepth 100000 in
set_option maxHeartbeats 4000000 in
theorem c_X3_isWaiting (l : Launch) (D : va_G) (cy : Nat → ClassId) (ad : Nat → Nat) (σ : TS) (sz : Nat) {x : Int32} : MTi l D cy ad yX3_isWaiting cX3_isWaiting 1 .boolean (rmd 0) [.int x] σ sz (fun r u => r = bI (wi x 0 9) ∧ u = σ) := by
  refine Met.ofW (cc := cX3_isWaiting) (maxL := 1) (ret := (some .boolean)) (by decide) rfl ?_
  intro p ev s m args below meth c s₁ B hml hv
  obtain ⟨rfl, hw⟩ := hv
  have hx := B.exec
  have hb := B.bytes
  have hr := B.returns
  have hlk := B.notSynchronized
  have hU : ∀ w ∈ UW, w.before _ s = true := fun w hw => atoms_spec (ws := Cond.code yX3_isWaiting cX3_isWaiting 1 (some .boolean) :: UW) B.pre w (List.mem_cons_of_mem _ hw)
  have hown : s.vm.findClass RX3 = some m.cls := findClass_of_methodNamed B.named
  have hR : 0 ≤ (headSpec (Cond.code yX3_isWaiting cX3_isWaiting 1 (some .boolean) :: UW) (rmd 0)).room.frames ∧ 32 * 0 ≤ (headSpec (Cond.code yX3_isWaiting cX3_isWaiting 1 (some .boolean) :: UW) (rmd 0)).room.locals := ⟨Nat.le_refl _, Nat.le_refl _⟩
  have hcs : 0 ≤ (headSpec (Cond.code yX3_isWaiting cX3_isWaiting 1 (some .boolean) :: UW) (rmd 0)).room.cells ∧ 0 ≤ (headSpec (Cond.code yX3_isWaiting cX3_isWaiting 1 (some .boolean) :: UW) (rmd 0)).room.slots := ⟨Nat.zero_le _, Nat.zero_le _⟩
  have h := WX.start hw
  clear hw
  generalize va_A (wv _ _ _) _ = A at h ⊢
  have hl := lv_entry ([.int x]) (n := 1) (Nat.le_of_ble_eq_true rfl)
  rw [lg_entry_eq]
  generalize (lg_sl ([.int x]) ++ List.replicate (1 - (lg_sl ([.int x])).length) Slot.unset).toArray = ls at hl ⊢
  have hl : lv_has ls 1 [(0, .int x)] := hl
  refine lv_iload_n hx hb dX3_isWaiting_0 rfl (lv_at hl 0 rfl) ?_
  refine lv_if_lt (tgt := 14) hx hb dX3_isWaiting_1 (by decide) (fun c_1 => ?_) (fun c_1 => ?_)
  · refine lv_iconst (v := nI 0) hx hb dX3_isWaiting_14 (by decide +kernel) ?_
    exact W.zret (v := nI 0) hx hb hr (by decide +kernel) (fun t ht hW => ⟨⟨_, _, rfl, ⟨(by first | (rw [wi_lo (a := 0) c_1]; rfl) | (rw [wi_hi c_7]; rfl) | (rw [wi_ok (a := 0) c_1 c_7]; rfl)), rfl⟩, h.at ht hW⟩, h.2.2.2.2.F ht⟩) h.2.2.2.2.2.2 dX3_isWaiting_15
  · refine lv_iload_n hx hb dX3_isWaiting_4 rfl (lv_at hl 0 rfl) ?_
    refine lv_bipush (v := nI 9) hx hb dX3_isWaiting_5 (by decide +kernel) ?_
    refine lv_icmp_gt (tgt := 14) hx hb dX3_isWaiting_7 (by decide) (fun c_7 => ?_) (fun c_7 => ?_)
    · refine lv_iconst (v := nI 0) hx hb dX3_isWaiting_14 (by decide +kernel) ?_
      exact W.zret (v := nI 0) hx hb hr (by decide +kernel) (fun t ht hW => ⟨⟨_, _, rfl, ⟨(by first | (rw [wi_lo (a := 0) c_1]; rfl) | (rw [wi_hi c_7]; rfl) | (rw [wi_ok (a := 0) c_1 c_7]; rfl)), rfl⟩, h.at ht hW⟩, h.2.2.2.2.F ht⟩) h.2.2.2.2.2.2 dX3_isWaiting_15
    · refine lv_iconst (v := nI 1) hx hb dX3_isWaiting_10 (by decide +kernel) ?_
      refine lv_goto (tgt := 15) hx hb dX3_isWaiting_11 (by decide) ?_
      exact W.zret (v := nI 1) hx hb hr (by decide +kernel) (fun t ht hW => ⟨⟨_, _, rfl, ⟨(by first | (rw [wi_lo (a := 0) c_1]; rfl) | (rw [wi_hi c_7]; rfl) | (rw [wi_ok (a := 0) c_1 c_7]; rfl)), rfl⟩, h.at ht hW⟩, h.2.2.2.2.F ht⟩) h.2.2.2.2.2.2 dX3_isWaiting_15
set_option maxRecDepth 100000 in
set_option maxHeartbeats 4000000 in
theorem c_X3_value (l : Launch) (D : va_G) (cy : Nat → ClassId) (ad : Nat → Nat) (σ : TS) (sz : Nat) {x : Int32} (h1 : σ.1 20 0 ≤ 8) : MTi l D cy ad yX3_value cX3_value 2 .int (rmd 1) [.ref (ad 0), .int x] σ sz (fun r u => r = (if inR x (σ.1 20 0) = true then σ.2.1 3 (tn x) else nI 0) ∧ u = σ) := by
  refine Met.ofW (cc := cX3_value) (maxL := 2) (ret := (some .int)) (by decide) rfl ?_
  intro p ev s m args below meth c s₁ B hml hv
  obtain ⟨rfl, hw⟩ := hv
  have hx := B.exec
  have hb := B.bytes
  have hr := B.returns
  have hlk := B.notSynchronized
  have hU : ∀ w ∈ UW, w.before _ s = true := fun w hw => atoms_spec (ws := Cond.code yX3_value cX3_value 2 (some .int) :: UW) B.pre w (List.mem_cons_of_mem _ hw)
  have hown : s.vm.findClass RX3 = some m.cls := findClass_of_methodNamed B.named
  have hR : 1 ≤ (headSpec (Cond.code yX3_value cX3_value 2 (some .int) :: UW) (rmd 1)).room.frames ∧ 32 * 1 ≤ (headSpec (Cond.code yX3_value cX3_value 2 (some .int) :: UW) (rmd 1)).room.locals := ⟨Nat.le_refl _, Nat.le_refl _⟩
  have hcs : 0 ≤ (headSpec (Cond.code yX3_value cX3_value 2 (some .int) :: UW) (rmd 1)).room.cells ∧ 0 ≤ (headSpec (Cond.code yX3_value cX3_value 2 (some .int) :: UW) (rmd 1)).room.slots := ⟨Nat.zero_le _, Nat.zero_le _⟩
  have h := WX.start hw
  clear hw
  generalize va_A (wv _ _ _) _ = A at h ⊢
  have hl := lv_entry ([.ref (ad 0), .int x]) (n := 2) (Nat.le_of_ble_eq_true rfl)
  rw [lg_entry_eq]
  generalize (lg_sl ([.ref (ad 0), .int x]) ++ List.replicate (2 - (lg_sl ([.ref (ad 0), .int x])).length) Slot.unset).toArray = ls at hl ⊢
  have hl : lv_has ls 2 [(0, .ref (ad 0)), (1, .int x)] := hl
  refine lv_aload_n hx hb dX3_value_0 rfl (lv_at hl 0 rfl) ?_
  refine lv_iload_n hx hb dX3_value_1 rfl (lv_at hl 1 rfl) ?_
  refine y_calli hx hb hml hU hown hR hcs h (c_X3_isActor l D cy ad σ _ (x := x)) umX3_47 ui_X3_isActor us_X3_isActor unX3 uc_X3_isActor hd_X3_isActor (by decide) (by decide) (t_recvM h) hl.1 rfl (Nat.le_of_ble_eq_true rfl) dX3_value_2 (fun r u H locs hw h => ?_)
  obtain ⟨rfl, hu⟩ := hw
  have h : XT D cy ad s A H locs σ := by rw [← hu]; exact h
  clear hu
  refine z_if_eq (tgt := 20) hx hb dX3_value_5 (by decide) (fun c_5 => ?_) (fun c_5 => ?_)
  · refine lv_iconst (v := nI 0) hx hb dX3_value_20 (by decide +kernel) ?_
    exact W.iret (v := nI 0) hx hb hr (fun t ht hW => ⟨⟨_, _, rfl, ⟨by rw [if_neg (by rw [c_5]; decide)], rfl⟩, h.at ht hW⟩, h.2.2.2.2.F ht⟩) h.2.2.2.2.2.2 dX3_value_21
  · have c5 := c_5
    obtain ⟨j, hj, rfl⟩ := inR_of (by omega) c_5
    refine lv_aload_n hx hb dX3_value_8 rfl (lv_at hl 0 rfl) ?_
    refine t_gM hx hb hU hown h 0 (by decide) ufX3_11 (v := .ref (ad 1)) rfl dX3_value_9 ?_
    refine lv_iload_n hx hb dX3_value_12 rfl (lv_at hl 1 rfl) ?_
    refine t_aA hx hb h (by omega) dX3_value_13 ?_
    refine t_gA hx hb hU hown h (by omega) 3 (by decide) ufX3_156 (v := .int (σ.2.1 3 j)) rfl dX3_value_14 ?_
    refine lv_goto (tgt := 21) hx hb dX3_value_17 (by decide) ?_
    exact W.iret (v := σ.2.1 3 j) hx hb hr (fun t ht hW => ⟨⟨_, _, rfl, ⟨by rw [if_pos c5]; simp only [tn]; rw [nI_clamp (by omega)], rfl⟩, h.at ht hW⟩, h.2.2.2.2.F ht⟩) h.2.2.2.2.2.2 dX3_value_21
set_option maxRecDepth 100000 in
set_option maxHeartbeats 4000000 in
theorem c_X3_state (l : Launch) (D : va_G) (cy : Nat → ClassId) (ad : Nat → Nat) (σ : TS) (sz : Nat) {x : Int32} (h1 : σ.1 20 0 ≤ 8) : MTi l D cy ad yX3_state cX3_state 2 .int (rmd 1) [.ref (ad 0), .int x] σ sz (fun r u => r = (if inR x (σ.1 20 0) = true then σ.2.1 2 (tn x) else nI 0) ∧ u = σ) := by
  refine Met.ofW (cc := cX3_state) (maxL := 2) (ret := (some .int)) (by decide) rfl ?_
  intro p ev s m args below meth c s₁ B hml hv
  obtain ⟨rfl, hw⟩ := hv
  have hx := B.exec
  have hb := B.bytes
  have hr := B.returns
  have hlk := B.notSynchronized
  have hU : ∀ w ∈ UW, w.before _ s = true := fun w hw => atoms_spec (ws := Cond.code yX3_state cX3_state 2 (some .int) :: UW) B.pre w (List.mem_cons_of_mem _ hw)
  have hown : s.vm.findClass RX3 = some m.cls := findClass_of_methodNamed B.named
  have hR : 1 ≤ (headSpec (Cond.code yX3_state cX3_state 2 (some .int) :: UW) (rmd 1)).room.frames ∧ 32 * 1 ≤ (headSpec (Cond.code yX3_state cX3_state 2 (some .int) :: UW) (rmd 1)).room.locals := ⟨Nat.le_refl _, Nat.le_refl _⟩
  have hcs : 0 ≤ (headSpec (Cond.code yX3_state cX3_state 2 (some .int) :: UW) (rmd 1)).room.cells ∧ 0 ≤ (headSpec (Cond.code yX3_state cX3_state 2 (some .int) :: UW) (rmd 1)).room.slots := ⟨Nat.zero_le _, Nat.zero_le _⟩
  have h := WX.start hw
  clear hw
  generalize va_A (wv _ _ _) _ = A at h ⊢
  have hl := lv_entry ([.ref (ad 0), .int x]) (n := 2) (Nat.le_of_ble_eq_true rfl)
  rw [lg_entry_eq]
  generalize (lg_sl ([.ref (ad 0), .int x]) ++ List.replicate (2 - (lg_sl ([.ref (ad 0), .int x])).length) Slot.unset).toArray = ls at hl ⊢
  have hl : lv_has ls 2 [(0, .ref (ad 0)), (1, .int x)] := hl
  refine lv_aload_n hx hb dX3_state_0 rfl (lv_at hl 0 rfl) ?_
  refine lv_iload_n hx hb dX3_state_1 rfl (lv_at hl 1 rfl) ?_
  refine y_calli hx hb hml hU hown hR hcs h (c_X3_isActor l D cy ad σ _ (x := x)) umX3_47 ui_X3_isActor us_X3_isActor unX3 uc_X3_isActor hd_X3_isActor (by decide) (by decide) (t_recvM h) hl.1 rfl (Nat.le_of_ble_eq_true rfl) dX3_state_2 (fun r u H locs hw h => ?_)
  obtain ⟨rfl, hu⟩ := hw
  have h : XT D cy ad s A H locs σ := by rw [← hu]; exact h
  clear hu
  refine z_if_eq (tgt := 20) hx hb dX3_state_5 (by decide) (fun c_5 => ?_) (fun c_5 => ?_)
  · refine lv_iconst (v := nI 0) hx hb dX3_state_20 (by decide +kernel) ?_
    exact W.iret (v := nI 0) hx hb hr (fun t ht hW => ⟨⟨_, _, rfl, ⟨by rw [if_neg (by rw [c_5]; decide)], rfl⟩, h.at ht hW⟩, h.2.2.2.2.F ht⟩) h.2.2.2.2.2.2 dX3_state_21
  · have c5 := c_5
    obtain ⟨j, hj, rfl⟩ := inR_of (by omega) c_5
    refine lv_aload_n hx hb dX3_state_8 rfl (lv_at hl 0 rfl) ?_
    refine t_gM hx hb hU hown h 0 (by decide) ufX3_11 (v := .ref (ad 1)) rfl dX3_state_9 ?_
    refine lv_iload_n hx hb dX3_state_12 rfl (lv_at hl 1 rfl) ?_
    refine t_aA hx hb h (by omega) dX3_state_13 ?_
    refine t_gA hx hb hU hown h (by omega) 2 (by decide) ufX3_159 (v := .int (σ.2.1 2 j)) rfl dX3_state_14 ?_
    refine lv_goto (tgt := 21) hx hb dX3_state_17 (by decide) ?_
    exact W.iret (v := σ.2.1 2 j) hx hb hr (fun t ht hW => ⟨⟨_, _, rfl, ⟨by rw [if_pos c5]; simp only [tn]; rw [nI_clamp (by omega)], rfl⟩, h.at ht hW⟩, h.2.2.2.2.F ht⟩) h.2.2.2.2.2.2 dX3_state_21
set_option maxRecDepth 100000 in
set_option maxHeartbeats 4000000 in
theorem c_X3_tokens (l : Launch) (D : va_G) (cy : Nat → ClassId) (ad : Nat → Nat) (σ : TS) (sz : Nat) {x : Int32} (h1 : σ.1 21 0 ≤ 12) : MTi l D cy ad yX3_tokens cX3_tokens 2 .int (rmd 1) [.ref (ad 0), .int x] σ sz (fun r u => r = (if inR x (σ.1 21 0) = true then nI (σ.1 19 (tn x)) else (-1)) ∧ u = σ) := by
  refine Met.ofW (cc := cX3_tokens) (maxL := 2) (ret := (some .int)) (by decide) rfl ?_
  intro p ev s m args below meth c s₁ B hml hv
  obtain ⟨rfl, hw⟩ := hv
  have hx := B.exec
  have hb := B.bytes
  have hr := B.returns
  have hlk := B.notSynchronized
  have hU : ∀ w ∈ UW, w.before _ s = true := fun w hw => atoms_spec (ws := Cond.code yX3_tokens cX3_tokens 2 (some .int) :: UW) B.pre w (List.mem_cons_of_mem _ hw)
  have hown : s.vm.findClass RX3 = some m.cls := findClass_of_methodNamed B.named
  have hR : 1 ≤ (headSpec (Cond.code yX3_tokens cX3_tokens 2 (some .int) :: UW) (rmd 1)).room.frames ∧ 32 * 1 ≤ (headSpec (Cond.code yX3_tokens cX3_tokens 2 (some .int) :: UW) (rmd 1)).room.locals := ⟨Nat.le_refl _, Nat.le_refl _⟩
  have hcs : 0 ≤ (headSpec (Cond.code yX3_tokens cX3_tokens 2 (some .int) :: UW) (rmd 1)).room.cells ∧ 0 ≤ (headSpec (Cond.code yX3_tokens cX3_tokens 2 (some .int) :: UW) (rmd 1)).room.slots := ⟨Nat.zero_le _, Nat.zero_le _⟩
  have h := WX.start hw
  clear hw
  generalize va_A (wv _ _ _) _ = A at h ⊢
  have hl := lv_entry ([.ref (ad 0), .int x]) (n := 2) (Nat.le_of_ble_eq_true rfl)
  rw [lg_entry_eq]
  generalize (lg_sl ([.ref (ad 0), .int x]) ++ List.replicate (2 - (lg_sl ([.ref (ad 0), .int x])).length) Slot.unset).toArray = ls at hl ⊢
  have hl : lv_has ls 2 [(0, .ref (ad 0)), (1, .int x)] := hl
  refine lv_aload_n hx hb dX3_tokens_0 rfl (lv_at hl 0 rfl) ?_
  refine lv_iload_n hx hb dX3_tokens_1 rfl (lv_at hl 1 rfl) ?_
  refine y_calli hx hb hml hU hown hR hcs h (c_X3_isEdge l D cy ad σ _ (x := x)) umX3_75 ui_X3_isEdge us_X3_isEdge unX3 uc_X3_isEdge hd_X3_isEdge (by decide) (by decide) (t_recvM h) hl.1 rfl (Nat.le_of_ble_eq_true rfl) dX3_tokens_2 (fun r u H locs hw h => ?_)
  obtain ⟨rfl, hu⟩ := hw
  have h : XT D cy ad s A H locs σ := by rw [← hu]; exact h
  clear hu
  refine z_if_eq (tgt := 20) hx hb dX3_tokens_5 (by decide) (fun c_5 => ?_) (fun c_5 => ?_)
  · refine lv_iconst (v := (-1)) hx hb dX3_tokens_20 (by decide +kernel) ?_
    exact W.iret (v := (-1)) hx hb hr (fun t ht hW => ⟨⟨_, _, rfl, ⟨by rw [if_neg (by rw [c_5]; decide)], rfl⟩, h.at ht hW⟩, h.2.2.2.2.F ht⟩) h.2.2.2.2.2.2 dX3_tokens_21
  · have c5 := c_5
    obtain ⟨j, hj, rfl⟩ := inR_of (by omega) c_5
    refine lv_aload_n hx hb dX3_tokens_8 rfl (lv_at hl 0 rfl) ?_
    refine t_gM hx hb hU hown h 1 (by decide) ufX3_18 (v := .ref (ad 2)) rfl dX3_tokens_9 ?_
    refine lv_iload_n hx hb dX3_tokens_12 rfl (lv_at hl 1 rfl) ?_
    refine t_aE hx hb h (by omega) dX3_tokens_13 ?_
    refine t_gE hx hb hU hown h (by omega) 9 (by decide) ufX3_149 (v := .int (nI (σ.1 19 j))) rfl dX3_tokens_14 ?_
    refine lv_goto (tgt := 21) hx hb dX3_tokens_17 (by decide) ?_
    exact W.iret (v := nI (σ.1 19 j)) hx hb hr (fun t ht hW => ⟨⟨_, _, rfl, ⟨by rw [if_pos c5]; simp only [tn]; rw [nI_clamp (by omega)], rfl⟩, h.at ht hW⟩, h.2.2.2.2.F ht⟩) h.2.2.2.2.2.2 dX3_tokens_21
set_option maxRecDepth 100000 in
set_option maxHeartbeats 4000000 in
theorem c_X3_firing (l : Launch) (D : va_G) (cy : Nat → ClassId) (ad : Nat → Nat) (σ : TS) (sz : Nat) {x : Int32} (h1 : σ.1 22 0 ≤ 200) : MTi l D cy ad yX3_firing cX3_firing 2 .int (rmd 0) [.ref (ad 0), .int x] σ sz (fun r u => r = (if inR x (σ.1 22 0) = true then nI (σ.1 23 (tn x)) else (-1)) ∧ u = σ) := by
  refine Met.ofW (cc := cX3_firing) (maxL := 2) (ret := (some .int)) (by decide) rfl ?_
  intro p ev s m args below meth c s₁ B hml hv
  obtain ⟨rfl, hw⟩ := hv
  have hx := B.exec
  have hb := B.bytes
  have hr := B.returns
  have hlk := B.notSynchronized
  have hU : ∀ w ∈ UW, w.before _ s = true := fun w hw => atoms_spec (ws := Cond.code yX3_firing cX3_firing 2 (some .int) :: UW) B.pre w (List.mem_cons_of_mem _ hw)
  have hown : s.vm.findClass RX3 = some m.cls := findClass_of_methodNamed B.named
  have hR : 0 ≤ (headSpec (Cond.code yX3_firing cX3_firing 2 (some .int) :: UW) (rmd 0)).room.frames ∧ 32 * 0 ≤ (headSpec (Cond.code yX3_firing cX3_firing 2 (some .int) :: UW) (rmd 0)).room.locals := ⟨Nat.le_refl _, Nat.le_refl _⟩
  have hcs : 0 ≤ (headSpec (Cond.code yX3_firing cX3_firing 2 (some .int) :: UW) (rmd 0)).room.cells ∧ 0 ≤ (headSpec (Cond.code yX3_firing cX3_firing 2 (some .int) :: UW) (rmd 0)).room.slots := ⟨Nat.zero_le _, Nat.zero_le _⟩
  have h := WX.start hw
  clear hw
  generalize va_A (wv _ _ _) _ = A at h ⊢
  have hl := lv_entry ([.ref (ad 0), .int x]) (n := 2) (Nat.le_of_ble_eq_true rfl)
  rw [lg_entry_eq]
  generalize (lg_sl ([.ref (ad 0), .int x]) ++ List.replicate (2 - (lg_sl ([.ref (ad 0), .int x])).length) Slot.unset).toArray = ls at hl ⊢
  have hl : lv_has ls 2 [(0, .ref (ad 0)), (1, .int x)] := hl
  refine lv_iload_n hx hb dX3_firing_0 rfl (lv_at hl 1 rfl) ?_
  refine lv_if_lt (tgt := 21) hx hb dX3_firing_1 (by decide) (fun c_1 => ?_) (fun c_1 => ?_)
  · refine lv_iconst (v := (-1)) hx hb dX3_firing_21 (by decide +kernel) ?_
    exact W.iret (v := (-1)) hx hb hr (fun t ht hW => ⟨⟨_, _, rfl, ⟨by rw [if_neg (by first | (rw [inR_neg c_1]; decide) | (rw [inR_big c_9]; decide))], rfl⟩, h.at ht hW⟩, h.2.2.2.2.F ht⟩) h.2.2.2.2.2.2 dX3_firing_22
  · refine lv_iload_n hx hb dX3_firing_4 rfl (lv_at hl 1 rfl) ?_
    refine lv_aload_n hx hb dX3_firing_5 rfl (lv_at hl 0 rfl) ?_
    refine t_gM hx hb hU hown h 6 (by decide) ufX3_81 (v := .int (nI (σ.1 22 0))) rfl dX3_firing_6 ?_
    refine lv_icmp_ge (tgt := 21) hx hb dX3_firing_9 (by decide) (fun c_9 => ?_) (fun c_9 => ?_)
    · refine lv_iconst (v := (-1)) hx hb dX3_firing_21 (by decide +kernel) ?_
      exact W.iret (v := (-1)) hx hb hr (fun t ht hW => ⟨⟨_, _, rfl, ⟨by rw [if_neg (by first | (rw [inR_neg c_1]; decide) | (rw [inR_big c_9]; decide))], rfl⟩, h.at ht hW⟩, h.2.2.2.2.F ht⟩) h.2.2.2.2.2.2 dX3_firing_22
    · have c5 := inR_ok c_1 c_9
      obtain ⟨j, hj, rfl⟩ := inR_yes (by omega) c_1 c_9
      refine lv_aload_n hx hb dX3_firing_12 rfl (lv_at hl 0 rfl) ?_
      refine t_gM hx hb hU hown h 2 (by decide) ufX3_23 (v := .ref (ad 3)) rfl dX3_firing_13 ?_
      refine lv_iload_n hx hb dX3_firing_16 rfl (lv_at hl 1 rfl) ?_
      refine t_iF hx hb h (by omega) dX3_firing_17 ?_
      refine lv_goto (tgt := 22) hx hb dX3_firing_18 (by decide) ?_
      exact W.iret (v := nI (σ.1 23 j)) hx hb hr (fun t ht hW => ⟨⟨_, _, rfl, ⟨by rw [if_pos c5]; simp only [tn]; rw [nI_clamp (by omega)], rfl⟩, h.at ht hW⟩, h.2.2.2.2.F ht⟩) h.2.2.2.2.2.2 dX3_firing_22
set_option maxRecDepth 100000 in
set_option maxHeartbeats 4000000 in
theorem c_X3_repetitions (l : Launch) (D : va_G) (cy : Nat → ClassId) (ad : Nat → Nat) (σ : TS) (sz : Nat) {x : Int32} (h0 : σ.1 22 0 ≤ 200) (h1 : σ.1 20 0 ≤ 8) : MTi l D cy ad yX3_repetitions cX3_repetitions 2 .int (rmd 1) [.ref (ad 0), .int x] σ sz (fun r u => r = (if 0 < σ.1 22 0 ∧ inR x (σ.1 20 0) = true then nI (σ.1 4 (tn x)) else nI 0) ∧ u = σ) := by
  refine Met.ofW (cc := cX3_repetitions) (maxL := 2) (ret := (some .int)) (by decide) rfl ?_
  intro p ev s m args below meth c s₁ B hml hv
  obtain ⟨rfl, hw⟩ := hv
  have hx := B.exec
  have hb := B.bytes
  have hr := B.returns
  have hlk := B.notSynchronized
  have hU : ∀ w ∈ UW, w.before _ s = true := fun w hw => atoms_spec (ws := Cond.code yX3_repetitions cX3_repetitions 2 (some .int) :: UW) B.pre w (List.mem_cons_of_mem _ hw)
  have hown : s.vm.findClass RX3 = some m.cls := findClass_of_methodNamed B.named
  have hR : 1 ≤ (headSpec (Cond.code yX3_repetitions cX3_repetitions 2 (some .int) :: UW) (rmd 1)).room.frames ∧ 32 * 1 ≤ (headSpec (Cond.code yX3_repetitions cX3_repetitions 2 (some .int) :: UW) (rmd 1)).room.locals := ⟨Nat.le_refl _, Nat.le_refl _⟩
  have hcs : 0 ≤ (headSpec (Cond.code yX3_repetitions cX3_repetitions 2 (some .int) :: UW) (rmd 1)).room.cells ∧ 0 ≤ (headSpec (Cond.code yX3_repetitions cX3_repetitions 2 (some .int) :: UW) (rmd 1)).room.slots := ⟨Nat.zero_le _, Nat.zero_le _⟩
  have h := WX.start hw
  clear hw
  generalize va_A (wv _ _ _) _ = A at h ⊢
  have hl := lv_entry ([.ref (ad 0), .int x]) (n := 2) (Nat.le_of_ble_eq_true rfl)
  rw [lg_entry_eq]
  generalize (lg_sl ([.ref (ad 0), .int x]) ++ List.replicate (2 - (lg_sl ([.ref (ad 0), .int x])).length) Slot.unset).toArray = ls at hl ⊢
  have hl : lv_has ls 2 [(0, .ref (ad 0)), (1, .int x)] := hl
  refine lv_aload_n hx hb dX3_repetitions_0 rfl (lv_at hl 0 rfl) ?_
  refine t_gM hx hb hU hown h 6 (by decide) ufX3_81 (v := .int (nI (σ.1 22 0))) rfl dX3_repetitions_1 ?_
  refine n_if_le (tgt := 28) hx hb (by omega) dX3_repetitions_4 (by decide) (fun c_4 => ?_) (fun c_4 => ?_)
  · refine lv_iconst (v := nI 0) hx hb dX3_repetitions_28 (by decide +kernel) ?_
    exact W.iret (v := nI 0) hx hb hr (fun t ht hW => ⟨⟨_, _, rfl, ⟨by first | (rw [if_neg (fun q => by rw [c_4] at q; exact absurd q.1 (Nat.lt_irrefl 0))]; done) | (rw [if_neg (fun q => by rw [c_12] at q; exact absurd q.2 (by decide))]; done), rfl⟩, h.at ht hW⟩, h.2.2.2.2.F ht⟩) h.2.2.2.2.2.2 dX3_repetitions_29
  · refine lv_aload_n hx hb dX3_repetitions_7 rfl (lv_at hl 0 rfl) ?_
    refine lv_iload_n hx hb dX3_repetitions_8 rfl (lv_at hl 1 rfl) ?_
    refine y_calli hx hb hml hU hown hR hcs h (c_X3_isActor l D cy ad σ _ (x := x)) umX3_47 ui_X3_isActor us_X3_isActor unX3 uc_X3_isActor hd_X3_isActor (by decide) (by decide) (t_recvM h) hl.1 rfl (Nat.le_of_ble_eq_true rfl) dX3_repetitions_9 (fun r u H locs hw h => ?_)
    obtain ⟨rfl, hu⟩ := hw
    have h : XT D cy ad s A H locs σ := by rw [← hu]; exact h
    clear hu
    refine z_if_eq (tgt := 28) hx hb dX3_repetitions_12 (by decide) (fun c_12 => ?_) (fun c_12 => ?_)
    · refine lv_iconst (v := nI 0) hx hb dX3_repetitions_28 (by decide +kernel) ?_
      exact W.iret (v := nI 0) hx hb hr (fun t ht hW => ⟨⟨_, _, rfl, ⟨by first | (rw [if_neg (fun q => by rw [c_4] at q; exact absurd q.1 (Nat.lt_irrefl 0))]; done) | (rw [if_neg (fun q => by rw [c_12] at q; exact absurd q.2 (by decide))]; done), rfl⟩, h.at ht hW⟩, h.2.2.2.2.F ht⟩) h.2.2.2.2.2.2 dX3_repetitions_29
    · have c5 := c_12
      obtain ⟨j, hj, rfl⟩ := inR_of (by omega) c_12
      refine lv_aload_n hx hb dX3_repetitions_15 rfl (lv_at hl 0 rfl) ?_
      refine t_gM hx hb hU hown h 0 (by decide) ufX3_11 (v := .ref (ad 1)) rfl dX3_repetitions_16 ?_
      refine lv_iload_n hx hb dX3_repetitions_19 rfl (lv_at hl 1 rfl) ?_
      refine t_aA hx hb h (by omega) dX3_repetitions_20 ?_
      refine t_gA hx hb hU hown h (by omega) 4 (by decide) ufX3_131 (v := .long (lN (σ.1 4 j))) rfl dX3_repetitions_21 ?_
      refine n_l2i hx hb dX3_repetitions_24 ?_
      refine lv_goto (tgt := 29) hx hb dX3_repetitions_25 (by decide) ?_
      exact W.iret (v := nI (σ.1 4 j)) hx hb hr (fun t ht hW => ⟨⟨_, _, rfl, ⟨by rw [if_pos ⟨c_4, c5⟩]; simp only [tn]; rw [nI_clamp (by omega)], rfl⟩, h.at ht hW⟩, h.2.2.2.2.F ht⟩) h.2.2.2.2.2.2 dX3_repetitions_29
set_option maxRecDepth 100000 in
set_option maxHeartbeats 4000000 in
theorem c_X3_bound (l : Launch) (D : va_G) (cy : Nat → ClassId) (ad : Nat → Nat) (σ : TS) (sz : Nat) {x : Int32} (h0 : σ.1 22 0 ≤ 200) (h1 : σ.1 21 0 ≤ 12) : MTi l D cy ad yX3_bound cX3_bound 2 .int (rmd 1) [.ref (ad 0), .int x] σ sz (fun r u => r = (if 0 < σ.1 22 0 ∧ inR x (σ.1 21 0) = true then nI (σ.1 16 (tn x)) else (-1)) ∧ u = σ) := by
  refine Met.ofW (cc := cX3_bound) (maxL := 2) (ret := (some .int)) (by decide) rfl ?_
  intro p ev s m args below meth c s₁ B hml hv
  obtain ⟨rfl, hw⟩ := hv
  have hx := B.exec
  have hb := B.bytes
  have hr := B.returns
  have hlk := B.notSynchronized
  have hU : ∀ w ∈ UW, w.before _ s = true := fun w hw => atoms_spec (ws := Cond.code yX3_bound cX3_bound 2 (some .int) :: UW) B.pre w (List.mem_cons_of_mem _ hw)
  have hown : s.vm.findClass RX3 = some m.cls := findClass_of_methodNamed B.named
  have hR : 1 ≤ (headSpec (Cond.code yX3_bound cX3_bound 2 (some .int) :: UW) (rmd 1)).room.frames ∧ 32 * 1 ≤ (headSpec (Cond.code yX3_bound cX3_bound 2 (some .int) :: UW) (rmd 1)).room.locals := ⟨Nat.le_refl _, Nat.le_refl _⟩
  have hcs : 0 ≤ (headSpec (Cond.code yX3_bound cX3_bound 2 (some .int) :: UW) (rmd 1)).room.cells ∧ 0 ≤ (headSpec (Cond.code yX3_bound cX3_bound 2 (some .int) :: UW) (rmd 1)).room.slots := ⟨Nat.zero_le _, Nat.zero_le _⟩
  have h := WX.start hw
  clear hw
  generalize va_A (wv _ _ _) _ = A at h ⊢
  have hl := lv_entry ([.ref (ad 0), .int x]) (n := 2) (Nat.le_of_ble_eq_true rfl)
  rw [lg_entry_eq]
  generalize (lg_sl ([.ref (ad 0), .int x]) ++ List.replicate (2 - (lg_sl ([.ref (ad 0), .int x])).length) Slot.unset).toArray = ls at hl ⊢
  have hl : lv_has ls 2 [(0, .ref (ad 0)), (1, .int x)] := hl
  refine lv_aload_n hx hb dX3_bound_0 rfl (lv_at hl 0 rfl) ?_
  refine t_gM hx hb hU hown h 6 (by decide) ufX3_81 (v := .int (nI (σ.1 22 0))) rfl dX3_bound_1 ?_
  refine n_if_le (tgt := 27) hx hb (by omega) dX3_bound_4 (by decide) (fun c_4 => ?_) (fun c_4 => ?_)
  · refine lv_iconst (v := (-1)) hx hb dX3_bound_27 (by decide +kernel) ?_
    exact W.iret (v := (-1)) hx hb hr (fun t ht hW => ⟨⟨_, _, rfl, ⟨by first | (rw [if_neg (fun q => by rw [c_4] at q; exact absurd q.1 (Nat.lt_irrefl 0))]; done) | (rw [if_neg (fun q => by rw [c_12] at q; exact absurd q.2 (by decide))]; done), rfl⟩, h.at ht hW⟩, h.2.2.2.2.F ht⟩) h.2.2.2.2.2.2 dX3_bound_28
  · refine lv_aload_n hx hb dX3_bound_7 rfl (lv_at hl 0 rfl) ?_
    refine lv_iload_n hx hb dX3_bound_8 rfl (lv_at hl 1 rfl) ?_
    refine y_calli hx hb hml hU hown hR hcs h (c_X3_isEdge l D cy ad σ _ (x := x)) umX3_75 ui_X3_isEdge us_X3_isEdge unX3 uc_X3_isEdge hd_X3_isEdge (by decide) (by decide) (t_recvM h) hl.1 rfl (Nat.le_of_ble_eq_true rfl) dX3_bound_9 (fun r u H locs hw h => ?_)
    obtain ⟨rfl, hu⟩ := hw
    have h : XT D cy ad s A H locs σ := by rw [← hu]; exact h
    clear hu
    refine z_if_eq (tgt := 27) hx hb dX3_bound_12 (by decide) (fun c_12 => ?_) (fun c_12 => ?_)
    · refine lv_iconst (v := (-1)) hx hb dX3_bound_27 (by decide +kernel) ?_
      exact W.iret (v := (-1)) hx hb hr (fun t ht hW => ⟨⟨_, _, rfl, ⟨by first | (rw [if_neg (fun q => by rw [c_4] at q; exact absurd q.1 (Nat.lt_irrefl 0))]; done) | (rw [if_neg (fun q => by rw [c_12] at q; exact absurd q.2 (by decide))]; done), rfl⟩, h.at ht hW⟩, h.2.2.2.2.F ht⟩) h.2.2.2.2.2.2 dX3_bound_28
    · have c5 := c_12
      obtain ⟨j, hj, rfl⟩ := inR_of (by omega) c_12
      refine lv_aload_n hx hb dX3_bound_15 rfl (lv_at hl 0 rfl) ?_
      refine t_gM hx hb hU hown h 1 (by decide) ufX3_18 (v := .ref (ad 2)) rfl dX3_bound_16 ?_
      refine lv_iload_n hx hb dX3_bound_19 rfl (lv_at hl 1 rfl) ?_
      refine t_aE hx hb h (by omega) dX3_bound_20 ?_
      refine t_gE hx hb hU hown h (by omega) 6 (by decide) ufX3_135 (v := .int (nI (σ.1 16 j))) rfl dX3_bound_21 ?_
      refine lv_goto (tgt := 28) hx hb dX3_bound_24 (by decide) ?_
      exact W.iret (v := nI (σ.1 16 j)) hx hb hr (fun t ht hW => ⟨⟨_, _, rfl, ⟨by rw [if_pos ⟨c_4, c5⟩]; simp only [tn]; rw [nI_clamp (by omega)], rfl⟩, h.at ht hW⟩, h.2.2.2.2.F ht⟩) h.2.2.2.2.2.2 dX3_bound_28
set_option maxRecDepth 100000 in
set_option maxHeartbeats 4000000 in
theorem c_X3_token (l : Launch) (D : va_G) (cy : Nat → ClassId) (ad : Nat → Nat) (σ : TS) (sz : Nat) {x y : Int32} (h1 : σ.1 21 0 ≤ 12) (h2 : ∀ q, q < σ.1 21 0 → σ.1 18 q < σ.1 17 q ∧ σ.1 19 q ≤ σ.1 17 q ∧ σ.1 17 q < 2 ^ 20) : MTi l D cy ad yX3_token cX3_token 3 .int (rmd 2) [.ref (ad 0), .int x, .int y] σ sz (fun r u => r = (if inR x (σ.1 21 0) = true then T_look σ (tn x) y else nI 0) ∧ u = σ) := by
  refine Met.ofW (cc := cX3_token) (maxL := 3) (ret := (some .int)) (by decide) rfl ?_
  intro p ev s m args below meth c s₁ B hml hv
  obtain ⟨rfl, hw⟩ := hv
  have hx := B.exec
  have hb := B.bytes
  have hr := B.returns
  have hlk := B.notSynchronized
  have hU : ∀ w ∈ UW, w.before _ s = true := fun w hw => atoms_spec (ws := Cond.code yX3_token cX3_token 3 (some .int) :: UW) B.pre w (List.mem_cons_of_mem _ hw)
  have hown : s.vm.findClass RX3 = some m.cls := findClass_of_methodNamed B.named
  have hR : 2 ≤ (headSpec (Cond.code yX3_token cX3_token 3 (some .int) :: UW) (rmd 2)).room.frames ∧ 32 * 2 ≤ (headSpec (Cond.code yX3_token cX3_token 3 (some .int) :: UW) (rmd 2)).room.locals := ⟨Nat.le_refl _, Nat.le_refl _⟩
  have hcs : 0 ≤ (headSpec (Cond.code yX3_token cX3_token 3 (some .int) :: UW) (rmd 2)).room.cells ∧ 0 ≤ (headSpec (Cond.code yX3_token cX3_token 3 (some .int) :: UW) (rmd 2)).room.slots := ⟨Nat.zero_le _, Nat.zero_le _⟩
  have h := WX.start hw
  clear hw
  generalize va_A (wv _ _ _) _ = A at h ⊢
  have hl := lv_entry ([.ref (ad 0), .int x, .int y]) (n := 3) (Nat.le_of_ble_eq_true rfl)
  rw [lg_entry_eq]
  generalize (lg_sl ([.ref (ad 0), .int x, .int y]) ++ List.replicate (3 - (lg_sl ([.ref (ad 0), .int x, .int y])).length) Slot.unset).toArray = ls at hl ⊢
  have hl : lv_has ls 3 [(0, .ref (ad 0)), (1, .int x), (2, .int y)] := hl
  refine lv_aload_n hx hb dX3_token_0 rfl (lv_at hl 0 rfl) ?_
  refine lv_iload_n hx hb dX3_token_1 rfl (lv_at hl 1 rfl) ?_
  refine y_calli hx hb hml hU hown hR hcs h (c_X3_isEdge l D cy ad σ _ (x := x)) umX3_75 ui_X3_isEdge us_X3_isEdge unX3 uc_X3_isEdge hd_X3_isEdge (by decide) (by decide) (t_recvM h) hl.1 rfl (Nat.le_of_ble_eq_true rfl) dX3_token_2 (fun r u H locs hw h => ?_)
  obtain ⟨rfl, hu⟩ := hw
  have h : XT D cy ad s A H locs σ := by rw [← hu]; exact h
  clear hu
  refine z_if_eq (tgt := 21) hx hb dX3_token_5 (by decide) (fun c_5 => ?_) (fun c_5 => ?_)
  · refine lv_iconst (v := nI 0) hx hb dX3_token_21 (by decide +kernel) ?_
    exact W.iret (v := nI 0) hx hb hr (fun t ht hW => ⟨⟨_, _, rfl, ⟨by rw [if_neg (by rw [c_5]; decide)], rfl⟩, h.at ht hW⟩, h.2.2.2.2.F ht⟩) h.2.2.2.2.2.2 dX3_token_22
  · have c5 := c_5
    obtain ⟨j, hj, rfl⟩ := inR_of (by omega) c_5
    refine lv_aload_n hx hb dX3_token_8 rfl (lv_at hl 0 rfl) ?_
    refine t_gM hx hb hU hown h 1 (by decide) ufX3_18 (v := .ref (ad 2)) rfl dX3_token_9 ?_
    refine lv_iload_n hx hb dX3_token_12 rfl (lv_at hl 1 rfl) ?_
    refine t_aE hx hb h (by omega) dX3_token_13 ?_
    refine lv_iload_n hx hb dX3_token_14 rfl (lv_at hl 2 rfl) ?_
    refine y_calli hx hb hml hU hown hR hcs h (c_X1_look l D cy ad σ _ (q := j) (x := y) (by omega) (h2 j hj).1 (h2 j hj).2.1 (h2 j hj).2.2) umX3_152 ui_X1_look us_X1_look unX1 uc_X1_look hd_X1_look (by decide) (by decide) (t_recvE h (by omega)) hl.1 rfl (Nat.le_of_ble_eq_true rfl) dX3_token_15 (fun r u H locs hw h => ?_)
    obtain ⟨rfl, hu⟩ := hw
    have h : XT D cy ad s A H locs σ := by rw [← hu]; exact h
    clear hu
    refine lv_goto (tgt := 22) hx hb dX3_token_18 (by decide) ?_
    exact W.iret (v := T_look σ j y) hx hb hr (fun t ht hW => ⟨⟨_, _, rfl, ⟨by rw [if_pos c5]; simp only [tn]; rw [nI_clamp (by omega)], rfl⟩, h.at ht hW⟩, h.2.2.2.2.F ht⟩) h.2.2.2.2.2.2 dX3_token_22
def T_start_a : Nat → TS → TS := fun n τ => T_aStart τ n
def T_start_e : Nat → TS → TS := fun q τ => T_eStart τ q
def T_start (σ : TS) : TS := itr T_start_e (σ.1 21 0) 0 (itr T_start_a (σ.1 20 0) 0 σ)
def T_startC (τ : TS) : Prop := τ.1 20 0 ≤ 8 ∧ τ.1 21 0 ≤ 12 ∧ ∀ q, q < τ.1 21 0 → τ.1 14 q ≤ τ.1 17 q ∧ τ.1 17 q < 2 ^ 20
def T_change (σ : TS) : TS := T_start (sN σ 22 0 0)
theorem itr_eStart_N (q : Nat) : ∀ (k i : Nat) (τ : TS), (itr (T_eStart_s q) k i τ).1 = τ.1 := by
  intro k
  induction k with
  | zero => intro i τ; rfl
  | succ k ih => intro i τ; exact (ih (i + 1) _).trans rfl
theorem T_eStart_N (σ : TS) (q : Nat) : (T_eStart σ q).1 = up2 (up2 σ.1 18 q 0) 19 q (σ.1 14 q) := itr_eStart_N q _ _ _
theorem itr_start_a_N : ∀ (k i : Nat) (τ : TS), (itr T_start_a k i τ).1 = τ.1 := by
  intro k
  induction k with
  | zero => intro i τ; rfl
  | succ k ih => intro i τ; exact (ih (i + 1) _).trans rfl
theorem T_startC_e {τ : TS} (q : Nat) (h : T_startC τ) : T_startC (T_start_e q τ) := by
  have e : ∀ f n, f ≠ 18 → f ≠ 19 → (T_start_e q τ).1 f n = τ.1 f n := fun f n h1 h2 => by
    show (T_eStart τ q).1 f n = _
    rw [T_eStart_N, up2_k _ _ _ _ h2, up2_k _ _ _ _ h1]
  unfold T_startC
  rw [e 20 0 (by decide) (by decide), e 21 0 (by decide) (by decide)]
  refine ⟨h.1, h.2.1, fun q' hq => ?_⟩
  rw [e 14 q' (by decide) (by decide), e 17 q' (by decide) (by decide)]
  exact h.2.2 q' hq
set_option maxRecDepth 100000 in
set_option maxHeartbeats 4000000 in
theorem lp_X3_bringToStart1 {p : Program} {l : Launch} {ev : Env} {R : Room} {s : State} {m : MethodId} {args : Array Value} {below : List Frame} {meth : Method} {c : Code} {cells slots : Nat} {Q : State → Prop} {D : va_G} {cy : Nat → ClassId} {ad : Nat → Nat} {A : Nat → Prop} (hx : p.tables.exec = Jvm.exec) (hb : c.code = cX3_bringToStart) (hml : c.maxLocals = 2) (hU : ∀ w ∈ UW, w.before args s = true) (hown : s.vm.findClass RX3 = some m.cls) (hR : 1 ≤ R.frames ∧ 32 * 1 ≤ R.locals) (hcs : cells ≤ R.cells ∧ slots ≤ R.slots)  :
    ∀ (k i : Nat) (τ : TS) (H : Heap) (locs : List Loc) (ls : Array Slot), (i + k = τ.1 20 0 ∧ τ.1 20 0 ≤ 8) → XT D cy ad s A H locs τ → lv_has ls 2 [(0, .ref (ad 0)), (1, .int (nI i))] → (∀ (H : Heap) (locs : List Loc) (ls : Array Slot), XT D cy ad s A H locs (itr T_start_a k i τ) → lv_has ls 2 [(0, .ref (ad 0))] → W p l ev R s m args below meth c H locs cells slots Q (F0 m 25 ls [])) → W p l ev R s m args below meth c H locs cells slots Q (F0 m 2 ls []) := by
  intro k
  induction k with
  | zero =>
    intro i τ H locs ls hc h hl K
    refine lv_iload_n hx hb dX3_bringToStart_2 rfl (lv_at hl 1 rfl) ?_
    refine lv_aload_n hx hb dX3_bringToStart_3 rfl (lv_at hl 0 rfl) ?_
    refine t_gM hx hb hU hown h 4 (by decide) ufX3_34 (v := .int (nI (τ.1 20 0))) rfl dX3_bringToStart_4 ?_
    refine n_icmp_ge (tgt := 25) hx hb (by omega) (by omega) dX3_bringToStart_7 (by decide) (fun c_7 => ?_) (fun c_7 => absurd c_7 (by omega))
    exact K _ _ _ h (lv_sub hl [0] rfl)
  | succ k ih =>
    intro i τ H locs ls hc h hl K
    refine lv_iload_n hx hb dX3_bringToStart_2 rfl (lv_at hl 1 rfl) ?_
    refine lv_aload_n hx hb dX3_bringToStart_3 rfl (lv_at hl 0 rfl) ?_
    refine t_gM hx hb hU hown h 4 (by decide) ufX3_34 (v := .int (nI (τ.1 20 0))) rfl dX3_bringToStart_4 ?_
    refine n_icmp_ge (tgt := 25) hx hb (by omega) (by omega) dX3_bringToStart_7 (by decide) (fun c_7 => absurd c_7 (by omega)) (fun c_7 => ?_)
    refine lv_aload_n hx hb dX3_bringToStart_10 rfl (lv_at hl 0 rfl) ?_
    refine t_gM hx hb hU hown h 0 (by decide) ufX3_11 (v := .ref (ad 1)) rfl dX3_bringToStart_11 ?_
    refine lv_iload_n hx hb dX3_bringToStart_14 rfl (lv_at hl 1 rfl) ?_
    refine t_aA hx hb h (by omega) dX3_bringToStart_15 ?_
    refine y_callv hx hb hml hU hown hR hcs h (c_X0_bringToStart l D cy ad τ _ (n := i) (by omega)) umX3_162 ui_X0_bringToStart us_X0_bringToStart unX0 uc_X0_bringToStart hd_X0_bringToStart (by decide) (by decide) (t_recvA h (by omega)) hl.1 rfl (Nat.le_of_ble_eq_true rfl) dX3_bringToStart_16 (fun u H locs hw h => ?_)
    have hu := hw
    have h : XT D cy ad s A H locs (T_aStart τ i) := by rw [← hu]; exact h
    clear hu
    refine lv_iinc (v := nI (i + 1)) (lv' := [(1, .int (nI (i + 1))), (0, .ref (ad 0))]) hx hb dX3_bringToStart_19 hl (k := 1) rfl (by rw [← nI_add]; rfl) (by decide) rfl (fun ls hl => ?_)
    refine lv_goto (tgt := 2) hx hb dX3_bringToStart_22 (by decide) ?_
    exact ih (i + 1) (T_aStart τ i) _ _ _ ⟨by show i + 1 + k = τ.1 20 0; omega, hc.2⟩ h (lv_sub hl [1, 0] rfl) K
set_option maxRecDepth 100000 in
set_option maxHeartbeats 4000000 in
theorem lp_X3_bringToStart2 {p : Program} {l : Launch} {ev : Env} {R : Room} {s : State} {m : MethodId} {args : Array Value} {below : List Frame} {meth : Method} {c : Code} {cells slots : Nat} {Q : State → Prop} {D : va_G} {cy : Nat → ClassId} {ad : Nat → Nat} {A : Nat → Prop} (hx : p.tables.exec = Jvm.exec) (hb : c.code = cX3_bringToStart) (hml : c.maxLocals = 2) (hU : ∀ w ∈ UW, w.before args s = true) (hown : s.vm.findClass RX3 = some m.cls) (hR : 1 ≤ R.frames ∧ 32 * 1 ≤ R.locals) (hcs : cells ≤ R.cells ∧ slots ≤ R.slots)  :
    ∀ (k i : Nat) (τ : TS) (H : Heap) (locs : List Loc) (ls : Array Slot), (i + k = τ.1 21 0 ∧ T_startC τ) → XT D cy ad s A H locs τ → lv_has ls 2 [(0, .ref (ad 0)), (1, .int (nI i))] → (∀ (H : Heap) (locs : List Loc) (ls : Array Slot), XT D cy ad s A H locs (itr T_start_e k i τ) → lv_has ls 2 [(0, .ref (ad 0))] → W p l ev R s m args below meth c H locs cells slots Q (F0 m 50 ls [])) → W p l ev R s m args below meth c H locs cells slots Q (F0 m 27 ls []) := by
  intro k
  induction k with
  | zero =>
    intro i τ H locs ls hc h hl K
    have h8 := hc.2.2.1
    refine lv_iload_n hx hb dX3_bringToStart_27 rfl (lv_at hl 1 rfl) ?_
    refine lv_aload_n hx hb dX3_bringToStart_28 rfl (lv_at hl 0 rfl) ?_
    refine t_gM hx hb hU hown h 5 (by decide) ufX3_57 (v := .int (nI (τ.1 21 0))) rfl dX3_bringToStart_29 ?_
    refine n_icmp_ge (tgt := 50) hx hb (by omega) (by omega) dX3_bringToStart_32 (by decide) (fun c_32 => ?_) (fun c_32 => absurd c_32 (by omega))
    exact K _ _ _ h (lv_sub hl [0] rfl)
  | succ k ih =>
    intro i τ H locs ls hc h hl K
    have h8 := hc.2.2.1
    have h9 := hc.2.2.2 i (by omega)
    refine lv_iload_n hx hb dX3_bringToStart_27 rfl (lv_at hl 1 rfl) ?_
    refine lv_aload_n hx hb dX3_bringToStart_28 rfl (lv_at hl 0 rfl) ?_
    refine t_gM hx hb hU hown h 5 (by decide) ufX3_57 (v := .int (nI (τ.1 21 0))) rfl dX3_bringToStart_29 ?_
    refine n_icmp_ge (tgt := 50) hx hb (by omega) (by omega) dX3_bringToStart_32 (by decide) (fun c_32 => absurd c_32 (by omega)) (fun c_32 => ?_)
    refine lv_aload_n hx hb dX3_bringToStart_35 rfl (lv_at hl 0 rfl) ?_
    refine t_gM hx hb hU hown h 1 (by decide) ufX3_18 (v := .ref (ad 2)) rfl dX3_bringToStart_36 ?_
    refine lv_iload_n hx hb dX3_bringToStart_39 rfl (lv_at hl 1 rfl) ?_
    refine t_aE hx hb h (by omega) dX3_bringToStart_40 ?_
    refine y_callv hx hb hml hU hown hR hcs h (c_X1_bringToStart l D cy ad τ _ (q := i) (by omega) h9.1 h9.2) umX3_163 ui_X1_bringToStart us_X1_bringToStart unX1 uc_X1_bringToStart hd_X1_bringToStart (by decide) (by decide) (t_recvE h (by omega)) hl.1 rfl (Nat.le_of_ble_eq_true rfl) dX3_bringToStart_41 (fun u H locs hw h => ?_)
    have hu := hw
    have h : XT D cy ad s A H locs (T_eStart τ i) := by rw [← hu]; exact h
    clear hu
    refine lv_iinc (v := nI (i + 1)) (lv' := [(1, .int (nI (i + 1))), (0, .ref (ad 0))]) hx hb dX3_bringToStart_44 hl (k := 1) rfl (by rw [← nI_add]; rfl) (by decide) rfl (fun ls hl => ?_)
    refine lv_goto (tgt := 27) hx hb dX3_bringToStart_47 (by decide) ?_
    exact ih (i + 1) (T_eStart τ i) _ _ _ ⟨by show i + 1 + k = (T_eStart τ i).1 21 0; rw [T_eStart_N, up2_k _ _ _ _ (by decide), up2_k _ _ _ _ (by decide)]; omega, T_startC_e i hc.2⟩ h (lv_sub hl [1, 0] rfl) K
set_option maxRecDepth 100000 in
set_option maxHeartbeats 4000000 in
theorem c_X3_bringToStart (l : Launch) (D : va_G) (cy : Nat → ClassId) (ad : Nat → Nat) (σ : TS) (sz : Nat) (hs : T_startC σ) : MTv l D cy ad yX3_bringToStart cX3_bringToStart 2 (rmd 1) [.ref (ad 0)] σ sz (fun u => u = T_start σ) := by
  refine Met.ofW (cc := cX3_bringToStart) (maxL := 2) (ret := none) (by decide) rfl ?_
  intro p ev s m args below meth c s₁ B hml hv
  obtain ⟨rfl, hw⟩ := hv
  have hx := B.exec
  have hb := B.bytes
  have hr := B.returns
  have hlk := B.notSynchronized
  have hU : ∀ w ∈ UW, w.before _ s = true := fun w hw => atoms_spec (ws := Cond.code yX3_bringToStart cX3_bringToStart 2 none :: UW) B.pre w (List.mem_cons_of_mem _ hw)
  have hown : s.vm.findClass RX3 = some m.cls := findClass_of_methodNamed B.named
  have hR : 1 ≤ (headSpec (Cond.code yX3_bringToStart cX3_bringToStart 2 none :: UW) (rmd 1)).room.frames ∧ 32 * 1 ≤ (headSpec (Cond.code yX3_bringToStart cX3_bringToStart 2 none :: UW) (rmd 1)).room.locals := ⟨Nat.le_refl _, Nat.le_refl _⟩
  have hcs : 0 ≤ (headSpec (Cond.code yX3_bringToStart cX3_bringToStart 2 none :: UW) (rmd 1)).room.cells ∧ 0 ≤ (headSpec (Cond.code yX3_bringToStart cX3_bringToStart 2 none :: UW) (rmd 1)).room.slots := ⟨Nat.zero_le _, Nat.zero_le _⟩
  have h := WX.start hw
  clear hw
  generalize va_A (wv _ _ _) _ = A at h ⊢
  have hl := lv_entry ([.ref (ad 0)]) (n := 2) (Nat.le_of_ble_eq_true rfl)
  rw [lg_entry_eq]
  generalize (lg_sl ([.ref (ad 0)]) ++ List.replicate (2 - (lg_sl ([.ref (ad 0)])).length) Slot.unset).toArray = ls at hl ⊢
  have hl : lv_has ls 2 [(0, .ref (ad 0))] := hl
  refine lv_iconst (v := nI 0) hx hb dX3_bringToStart_0 (by decide +kernel) ?_
  refine lv_istore_n (lv' := [(1, .int (nI 0)), (0, .ref (ad 0))]) hx hb dX3_bringToStart_1 rfl hl (by decide) rfl (fun ls hl => ?_)
  refine lp_X3_bringToStart1 hx hb hml hU hown hR hcs  (σ.1 20 0) 0 _ _ _ _ ⟨Nat.zero_add _, hs.1⟩ h (lv_sub hl [1, 0] rfl) (fun H locs ls h hl => ?_)
  refine lv_iconst (v := nI 0) hx hb dX3_bringToStart_25 (by decide +kernel) ?_
  refine lv_istore_n (lv' := [(1, .int (nI 0)), (0, .ref (ad 0))]) hx hb dX3_bringToStart_26 rfl hl (by decide) rfl (fun ls hl => ?_)
  refine lp_X3_bringToStart2 hx hb hml hU hown hR hcs  (σ.1 21 0) 0 _ _ _ _ ⟨by rw [itr_start_a_N]; exact Nat.zero_add _, by unfold T_startC; rw [itr_start_a_N]; exact hs⟩ h (lv_sub hl [1, 0] rfl) (fun H locs ls h hl => ?_)
  exact W.vret hx hb hr (fun t ht hW => ⟨⟨_, rfl, rfl, h.at ht hW⟩, h.2.2.2.2.F ht⟩) h.2.2.2.2.2.2 dX3_bringToStart_50
set_option maxRecDepth 100000 in
set_option maxHeartbeats 4000000 in
theorem c_X3_reset (l : Launch) (D : va_G) (cy : Nat → ClassId) (ad : Nat → Nat) (σ : TS) (sz : Nat) (hs : T_startC σ) : MTv l D cy ad yX3_reset cX3_reset 1 (rmd 2) [.ref (ad 0)] σ sz (fun u => u = T_start σ) := by
  refine Met.ofW (cc := cX3_reset) (maxL := 1) (ret := none) (by decide) rfl ?_
  intro p ev s m args below meth c s₁ B hml hv
  obtain ⟨rfl, hw⟩ := hv
  have hx := B.exec
  have hb := B.bytes
  have hr := B.returns
  have hlk := B.notSynchronized
  have hU : ∀ w ∈ UW, w.before _ s = true := fun w hw => atoms_spec (ws := Cond.code yX3_reset cX3_reset 1 none :: UW) B.pre w (List.mem_cons_of_mem _ hw)
  have hown : s.vm.findClass RX3 = some m.cls := findClass_of_methodNamed B.named
  have hR : 2 ≤ (headSpec (Cond.code yX3_reset cX3_reset 1 none :: UW) (rmd 2)).room.frames ∧ 32 * 2 ≤ (headSpec (Cond.code yX3_reset cX3_reset 1 none :: UW) (rmd 2)).room.locals := ⟨Nat.le_refl _, Nat.le_refl _⟩
  have hcs : 0 ≤ (headSpec (Cond.code yX3_reset cX3_reset 1 none :: UW) (rmd 2)).room.cells ∧ 0 ≤ (headSpec (Cond.code yX3_reset cX3_reset 1 none :: UW) (rmd 2)).room.slots := ⟨Nat.zero_le _, Nat.zero_le _⟩
  have h := WX.start hw
  clear hw
  generalize va_A (wv _ _ _) _ = A at h ⊢
  have hl := lv_entry ([.ref (ad 0)]) (n := 1) (Nat.le_of_ble_eq_true rfl)
  rw [lg_entry_eq]
  generalize (lg_sl ([.ref (ad 0)]) ++ List.replicate (1 - (lg_sl ([.ref (ad 0)])).length) Slot.unset).toArray = ls at hl ⊢
  have hl : lv_has ls 1 [(0, .ref (ad 0))] := hl
  refine lv_aload_n hx hb dX3_reset_0 rfl (lv_at hl 0 rfl) ?_
  refine y_callv hx hb hml hU hown hR hcs h (c_X3_bringToStart l D cy ad σ _ hs) umX3_78 ui_X3_bringToStart us_X3_bringToStart unX3 uc_X3_bringToStart hd_X3_bringToStart (by decide) (by decide) (t_recvM h) hl.1 rfl (Nat.le_of_ble_eq_true rfl) dX3_reset_1 (fun u H locs hw h => ?_)
  have hu := hw
  have h : XT D cy ad s A H locs (T_start σ) := by rw [← hu]; exact h
  clear hu
  exact W.vret hx hb hr (fun t ht hW => ⟨⟨_, rfl, rfl, h.at ht hW⟩, h.2.2.2.2.F ht⟩) h.2.2.2.2.2.2 dX3_reset_4
set_option maxRecDepth 100000 in
set_option maxHeartbeats 4000000 in
theorem c_X3_noteChange (l : Launch) (D : va_G) (cy : Nat → ClassId) (ad : Nat → Nat) (σ : TS) (sz : Nat) (hs : T_startC σ) : MTv l D cy ad yX3_noteChange cX3_noteChange 1 (rmd 2) [.ref (ad 0)] σ sz (fun u => u = T_change σ) := by
  refine Met.ofW (cc := cX3_noteChange) (maxL := 1) (ret := none) (by decide) rfl ?_
  intro p ev s m args below meth c s₁ B hml hv
  obtain ⟨rfl, hw⟩ := hv
  have hx := B.exec
  have hb := B.bytes
  have hr := B.returns
  have hlk := B.notSynchronized
  have hU : ∀ w ∈ UW, w.before _ s = true := fun w hw => atoms_spec (ws := Cond.code yX3_noteChange cX3_noteChange 1 none :: UW) B.pre w (List.mem_cons_of_mem _ hw)
  have hown : s.vm.findClass RX3 = some m.cls := findClass_of_methodNamed B.named
  have hR : 2 ≤ (headSpec (Cond.code yX3_noteChange cX3_noteChange 1 none :: UW) (rmd 2)).room.frames ∧ 32 * 2 ≤ (headSpec (Cond.code yX3_noteChange cX3_noteChange 1 none :: UW) (rmd 2)).room.locals := ⟨Nat.le_refl _, Nat.le_refl _⟩
  have hcs : 0 ≤ (headSpec (Cond.code yX3_noteChange cX3_noteChange 1 none :: UW) (rmd 2)).room.cells ∧ 0 ≤ (headSpec (Cond.code yX3_noteChange cX3_noteChange 1 none :: UW) (rmd 2)).room.slots := ⟨Nat.zero_le _, Nat.zero_le _⟩
  have h := WX.start hw
  clear hw
  generalize va_A (wv _ _ _) _ = A at h ⊢
  have hl := lv_entry ([.ref (ad 0)]) (n := 1) (Nat.le_of_ble_eq_true rfl)
  rw [lg_entry_eq]
  generalize (lg_sl ([.ref (ad 0)]) ++ List.replicate (1 - (lg_sl ([.ref (ad 0)])).length) Slot.unset).toArray = ls at hl ⊢
  have hl : lv_has ls 1 [(0, .ref (ad 0))] := hl
  refine lv_aload_n hx hb dX3_noteChange_0 rfl (lv_at hl 0 rfl) ?_
  refine lv_iconst (v := nI 0) hx hb dX3_noteChange_1 (by decide +kernel) ?_
  refine t_pM hx hb hU hown h 6 (by decide) ufX3_81 dX3_noteChange_2 (fun H locs h => ?_)
  have h : XT D cy ad s A H locs (sN σ 22 0 0) := h
  refine lv_aload_n hx hb dX3_noteChange_5 rfl (lv_at hl 0 rfl) ?_
  refine y_callv hx hb hml hU hown hR hcs h (c_X3_bringToStart l D cy ad (sN σ 22 0 0) _ (by unfold T_startC; simp only [sN, up2]; simpa [T_startC] using hs)) umX3_78 ui_X3_bringToStart us_X3_bringToStart unX3 uc_X3_bringToStart hd_X3_bringToStart (by decide) (by decide) (t_recvM h) hl.1 rfl (Nat.le_of_ble_eq_true rfl) dX3_noteChange_6 (fun u H locs hw h => ?_)
  have hu := hw
  have h : XT D cy ad s A H locs (T_start (sN σ 22 0 0)) := by rw [← hu]; exact h
  clear hu
  exact W.vret hx hb hr (fun t ht hW => ⟨⟨_, rfl, rfl, h.at ht hW⟩, h.2.2.2.2.F ht⟩) h.2.2.2.2.2.2 dX3_noteChange_9
set_option maxRecDepth 100000 in
set_option maxHeartbeats 4000000 in
theorem c_X3_clear (l : Launch) (D : va_G) (cy : Nat → ClassId) (ad : Nat → Nat) (σ : TS) (sz : Nat)  : MTv l D cy ad yX3_clear cX3_clear 1 (rmd 3) [.ref (ad 0)] σ sz (fun u => u = T_change (sN (sN σ 20 0 0) 21 0 0)) := by
  refine Met.ofW (cc := cX3_clear) (maxL := 1) (ret := none) (by decide) rfl ?_
  intro p ev s m args below meth c s₁ B hml hv
  obtain ⟨rfl, hw⟩ := hv
  have hx := B.exec
  have hb := B.bytes
  have hr := B.returns
  have hlk := B.notSynchronized
  have hU : ∀ w ∈ UW, w.before _ s = true := fun w hw => atoms_spec (ws := Cond.code yX3_clear cX3_clear 1 none :: UW) B.pre w (List.mem_cons_of_mem _ hw)
  have hown : s.vm.findClass RX3 = some m.cls := findClass_of_methodNamed B.named
  have hR : 3 ≤ (headSpec (Cond.code yX3_clear cX3_clear 1 none :: UW) (rmd 3)).room.frames ∧ 32 * 3 ≤ (headSpec (Cond.code yX3_clear cX3_clear 1 none :: UW) (rmd 3)).room.locals := ⟨Nat.le_refl _, Nat.le_refl _⟩
  have hcs : 0 ≤ (headSpec (Cond.code yX3_clear cX3_clear 1 none :: UW) (rmd 3)).room.cells ∧ 0 ≤ (headSpec (Cond.code yX3_clear cX3_clear 1 none :: UW) (rmd 3)).room.slots := ⟨Nat.zero_le _, Nat.zero_le _⟩
  have h := WX.start hw
  clear hw
  generalize va_A (wv _ _ _) _ = A at h ⊢
  have hl := lv_entry ([.ref (ad 0)]) (n := 1) (Nat.le_of_ble_eq_true rfl)
  rw [lg_entry_eq]
  generalize (lg_sl ([.ref (ad 0)]) ++ List.replicate (1 - (lg_sl ([.ref (ad 0)])).length) Slot.unset).toArray = ls at hl ⊢
  have hl : lv_has ls 1 [(0, .ref (ad 0))] := hl
  refine lv_aload_n hx hb dX3_clear_0 rfl (lv_at hl 0 rfl) ?_
  refine lv_iconst (v := nI 0) hx hb dX3_clear_1 (by decide +kernel) ?_
  refine t_pM hx hb hU hown h 4 (by decide) ufX3_34 dX3_clear_2 (fun H locs h => ?_)
  have h : XT D cy ad s A H locs (sN σ 20 0 0) := h
  refine lv_aload_n hx hb dX3_clear_5 rfl (lv_at hl 0 rfl) ?_
  refine lv_iconst (v := nI 0) hx hb dX3_clear_6 (by decide +kernel) ?_
  refine t_pM hx hb hU hown h 5 (by decide) ufX3_57 dX3_clear_7 (fun H locs h => ?_)
  have h : XT D cy ad s A H locs (sN (sN σ 20 0 0) 21 0 0) := h
  refine lv_aload_n hx hb dX3_clear_10 rfl (lv_at hl 0 rfl) ?_
  refine y_callv hx hb hml hU hown hR hcs h (c_X3_noteChange l D cy ad (sN (sN σ 20 0 0) 21 0 0) _ (by unfold T_startC; simp [sN, up2])) umX3_44 ui_X3_noteChange us_X3_noteChange unX3 uc_X3_noteChange hd_X3_noteChange (by decide) (by decide) (t_recvM h) hl.1 rfl (Nat.le_of_ble_eq_true rfl) dX3_clear_11 (fun u H locs hw h => ?_)
  have hu := hw
  have h : XT D cy ad s A H locs (T_change (sN (sN σ 20 0 0) 21 0 0)) := by rw [← hu]; exact h
  clear hu
  exact W.vret hx hb hr (fun t ht hW => ⟨⟨_, rfl, rfl, h.at ht hW⟩, h.2.2.2.2.F ht⟩) h.2.2.2.2.2.2 dX3_clear_14
