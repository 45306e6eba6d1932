/-! ===== leaves of the class: Actor, Taken, Edge ===== -/
def T_aStart (σ : TS) (n : Nat) : TS := sI (sI σ 2 n (σ.2.1 1 n)) 3 n (nI 0)
set_option maxRecDepth 100000 in
set_option maxHeartbeats 4000000 in
theorem c_X0_bringToStart (l : Launch) (D : va_G) (cy : Nat → ClassId) (ad : Nat → Nat) (σ : TS) (sz : Nat) {n : Nat} (hn : n < 8) : MTv l D cy ad yX0_bringToStart cX0_bringToStart 1 (rmd 0) [.ref (ad (5 + n))] σ sz (fun u => u = T_aStart σ n) := by
  refine Met.ofW (cc := cX0_bringToStart) (maxL := 1) (ret := none) (by decide) rfl ?_
  intro p ev s m args below meth c s₁ B hml hv
  obtain ⟨rfl, hw⟩ := hv
  have hx := B.exec
  have hb := B.bytes
  have hr := B.returns
  have hlk := B.notSynchronized
  have hU : ∀ w ∈ UW, w.before _ s = true := fun w hw => atoms_spec (ws := Cond.code yX0_bringToStart cX0_bringToStart 1 none :: UW) B.pre w (List.mem_cons_of_mem _ hw)
  have hown : s.vm.findClass RX0 = some m.cls := findClass_of_methodNamed B.named
  have hR : 0 ≤ (headSpec (Cond.code yX0_bringToStart cX0_bringToStart 1 none :: UW) (rmd 0)).room.frames ∧ 32 * 0 ≤ (headSpec (Cond.code yX0_bringToStart cX0_bringToStart 1 none :: UW) (rmd 0)).room.locals := ⟨Nat.le_refl _, Nat.le_refl _⟩
  have hcs : 0 ≤ (headSpec (Cond.code yX0_bringToStart cX0_bringToStart 1 none :: UW) (rmd 0)).room.cells ∧ 0 ≤ (headSpec (Cond.code yX0_bringToStart cX0_bringToStart 1 none :: UW) (rmd 0)).room.slots := ⟨Nat.zero_le _, Nat.zero_le _⟩
  have h := WX.start hw
  clear hw
  generalize va_A (wv _ _ _) _ = A at h ⊢
  have hl := lv_entry ([.ref (ad (5 + n))]) (n := 1) (Nat.le_of_ble_eq_true rfl)
  rw [lg_entry_eq]
  generalize (lg_sl ([.ref (ad (5 + n))]) ++ List.replicate (1 - (lg_sl ([.ref (ad (5 + n))])).length) Slot.unset).toArray = ls at hl ⊢
  have hl : lv_has ls 1 [(0, .ref (ad (5 + n)))] := hl
  refine lv_aload_n hx hb dX0_bringToStart_0 rfl (lv_at hl 0 rfl) ?_
  refine lv_aload_n hx hb dX0_bringToStart_1 rfl (lv_at hl 0 rfl) ?_
  refine t_gA hx hb hU hown h hn 1 (by decide) ufX0_9 (v := .int (σ.2.1 1 n)) rfl dX0_bringToStart_2 ?_
  refine t_pA hx hb hU hown h hn 2 (by decide) ufX0_15 (v := σ.2.1 1 n) dX0_bringToStart_5 (fun H locs h => ?_)
  refine lv_aload_n hx hb dX0_bringToStart_8 rfl (lv_at hl 0 rfl) ?_
  refine lv_iconst (v := nI 0) hx hb dX0_bringToStart_9 (by decide +kernel) ?_
  refine t_pA hx hb hU hown h hn 3 (by decide) ufX0_18 (v := nI 0) dX0_bringToStart_10 (fun H locs h => ?_)
  exact W.vret hx hb hr (fun t ht hW => ⟨⟨_, rfl, rfl, h.at ht hW⟩, h.2.2.2.2.F ht⟩) h.2.2.2.2.2.2 dX0_bringToStart_13
def T_forget (σ : TS) : TS := sI (sI (sI (sN σ 30 0 0) 31 0 (nI 0)) 32 0 (nI 0)) 33 0 (nI 0)
set_option maxRecDepth 100000 in
set_option maxHeartbeats 4000000 in
theorem c_X2_forget (l : Launch) (D : va_G) (cy : Nat → ClassId) (ad : Nat → Nat) (σ : TS) (sz : Nat)  : MTv l D cy ad yX2_forget cX2_forget 1 (rmd 0) [.ref (ad 4)] σ sz (fun u => u = T_forget σ) := by
  refine Met.ofW (cc := cX2_forget) (maxL := 1) (ret := none) (by decide) rfl ?_
  intro p ev s m args below meth c s₁ B hml hv
  obtain ⟨rfl, hw⟩ := hv
  have hx := B.exec
  have hb := B.bytes
  have hr := B.returns
  have hlk := B.notSynchronized
  have hU : ∀ w ∈ UW, w.before _ s = true := fun w hw => atoms_spec (ws := Cond.code yX2_forget cX2_forget 1 none :: UW) B.pre w (List.mem_cons_of_mem _ hw)
  have hown : s.vm.findClass RX2 = some m.cls := findClass_of_methodNamed B.named
  have hR : 0 ≤ (headSpec (Cond.code yX2_forget cX2_forget 1 none :: UW) (rmd 0)).room.frames ∧ 32 * 0 ≤ (headSpec (Cond.code yX2_forget cX2_forget 1 none :: UW) (rmd 0)).room.locals := ⟨Nat.le_refl _, Nat.le_refl _⟩
  have hcs : 0 ≤ (headSpec (Cond.code yX2_forget cX2_forget 1 none :: UW) (rmd 0)).room.cells ∧ 0 ≤ (headSpec (Cond.code yX2_forget cX2_forget 1 none :: UW) (rmd 0)).room.slots := ⟨Nat.zero_le _, Nat.zero_le _⟩
  have h := WX.start hw
  clear hw
  generalize va_A (wv _ _ _) _ = A at h ⊢
  have hl := lv_entry ([.ref (ad 4)]) (n := 1) (Nat.le_of_ble_eq_true rfl)
  rw [lg_entry_eq]
  generalize (lg_sl ([.ref (ad 4)]) ++ List.replicate (1 - (lg_sl ([.ref (ad 4)])).length) Slot.unset).toArray = ls at hl ⊢
  have hl : lv_has ls 1 [(0, .ref (ad 4))] := hl
  refine lv_aload_n hx hb dX2_forget_0 rfl (lv_at hl 0 rfl) ?_
  refine lv_iconst (v := nI 0) hx hb dX2_forget_1 (by decide +kernel) ?_
  refine t_pK0 hx hb hU hown h ufX2_7 dX2_forget_2 (fun H locs h => ?_)
  have h : XT D cy ad s A H locs (sN σ 30 0 0) := h
  refine lv_aload_n hx hb dX2_forget_5 rfl (lv_at hl 0 rfl) ?_
  refine lv_iconst (v := nI 0) hx hb dX2_forget_6 (by decide +kernel) ?_
  refine t_pK hx hb hU hown h 1 (by decide) ufX2_13 (v := nI 0) dX2_forget_7 (fun H locs h => ?_)
  have h : XT D cy ad s A H locs (sI (sN σ 30 0 0) 31 0 (nI 0)) := h
  refine lv_aload_n hx hb dX2_forget_10 rfl (lv_at hl 0 rfl) ?_
  refine lv_iconst (v := nI 0) hx hb dX2_forget_11 (by decide +kernel) ?_
  refine t_pK hx hb hU hown h 2 (by decide) ufX2_16 (v := nI 0) dX2_forget_12 (fun H locs h => ?_)
  have h : XT D cy ad s A H locs (sI (sI (sN σ 30 0 0) 31 0 (nI 0)) 32 0 (nI 0)) := h
  refine lv_aload_n hx hb dX2_forget_15 rfl (lv_at hl 0 rfl) ?_
  refine lv_iconst (v := nI 0) hx hb dX2_forget_16 (by decide +kernel) ?_
  refine t_pK hx hb hU hown h 3 (by decide) ufX2_19 (v := nI 0) dX2_forget_17 (fun H locs h => ?_)
  have h : XT D cy ad s A H locs (sI (sI (sI (sN σ 30 0 0) 31 0 (nI 0)) 32 0 (nI 0)) 33 0 (nI 0)) := h
  exact W.vret hx hb hr (fun t ht hW => ⟨⟨_, rfl, rfl, h.at ht hW⟩, h.2.2.2.2.F ht⟩) h.2.2.2.2.2.2 dX2_forget_20
def T_place (σ : TS) (e k : Nat) : Nat := if σ.1 18 e + k < σ.1 17 e then σ.1 18 e + k else σ.1 18 e + k - σ.1 17 e
set_option maxRecDepth 100000 in
set_option maxHeartbeats 4000000 in
theorem c_X1_place (l : Launch) (D : va_G) (cy : Nat → ClassId) (ad : Nat → Nat) (σ : TS) (sz : Nat) {q k : Nat} (hq : q < 12) (h1 : σ.1 18 q < 2 ^ 20) (h2 : k < 2 ^ 20) (h3 : σ.1 17 q < 2 ^ 20) : MTi l D cy ad yX1_place cX1_place 3 .int (rmd 0) [.ref (ad (13 + q)), .int (nI k)] σ sz (fun r u => r = nI (T_place σ q k) ∧ u = σ) := by
  refine Met.ofW (cc := cX1_place) (maxL := 3) (ret := (some .int)) (by decide) rfl ?_
  intro p ev s m args below meth c s₁ B hml hv
  obtain ⟨rfl, hw⟩ := hv
  have hx := B.exec
  have hb := B.bytes
  have hr := B.returns
  have hlk := B.notSynchronized
  have hU : ∀ w ∈ UW, w.before _ s = true := fun w hw => atoms_spec (ws := Cond.code yX1_place cX1_place 3 (some .int) :: UW) B.pre w (List.mem_cons_of_mem _ hw)
  have hown : s.vm.findClass RX1 = some m.cls := findClass_of_methodNamed B.named
  have hR : 0 ≤ (headSpec (Cond.code yX1_place cX1_place 3 (some .int) :: UW) (rmd 0)).room.frames ∧ 32 * 0 ≤ (headSpec (Cond.code yX1_place cX1_place 3 (some .int) :: UW) (rmd 0)).room.locals := ⟨Nat.le_refl _, Nat.le_refl _⟩
  have hcs : 0 ≤ (headSpec (Cond.code yX1_place cX1_place 3 (some .int) :: UW) (rmd 0)).room.cells ∧ 0 ≤ (headSpec (Cond.code yX1_place cX1_place 3 (some .int) :: UW) (rmd 0)).room.slots := ⟨Nat.zero_le _, Nat.zero_le _⟩
  have h := WX.start hw
  clear hw
  generalize va_A (wv _ _ _) _ = A at h ⊢
  have hl := lv_entry ([.ref (ad (13 + q)), .int (nI k)]) (n := 3) (Nat.le_of_ble_eq_true rfl)
  rw [lg_entry_eq]
  generalize (lg_sl ([.ref (ad (13 + q)), .int (nI k)]) ++ List.replicate (3 - (lg_sl ([.ref (ad (13 + q)), .int (nI k)])).length) Slot.unset).toArray = ls at hl ⊢
  have hl : lv_has ls 3 [(0, .ref (ad (13 + q))), (1, .int (nI k))] := hl
  refine lv_aload_n hx hb dX1_place_0 rfl (lv_at hl 0 rfl) ?_
  refine t_gE hx hb hU hown h hq 8 (by decide) ufX1_15 (v := .int (nI (σ.1 18 q))) rfl dX1_place_1 ?_
  refine lv_iload_n hx hb dX1_place_4 rfl (lv_at hl 1 rfl) ?_
  refine n_iadd hx hb dX1_place_5 ?_
  refine lv_istore_n (lv' := [(2, .int (nI ((σ.1 18 q) + k))), (0, .ref (ad (13 + q))), (1, .int (nI k))]) hx hb dX1_place_6 rfl hl (by decide) rfl (fun ls hl => ?_)
  refine lv_iload_n hx hb dX1_place_7 rfl (lv_at hl 0 rfl) ?_
  refine lv_aload_n hx hb dX1_place_8 rfl (lv_at hl 1 rfl) ?_
  refine t_gE hx hb hU hown h hq 7 (by decide) ufX1_9 (v := .ref (σ.2.2 q)) rfl dX1_place_9 ?_
  refine t_lR hx hb h hq dX1_place_12 ?_
  refine n_icmp_ge (tgt := 20) hx hb (by omega) (by omega) dX1_place_13 (by decide) (fun c_13 => ?_) (fun c_13 => ?_)
  · refine lv_iload_n hx hb dX1_place_20 rfl (lv_at hl 0 rfl) ?_
    refine lv_aload_n hx hb dX1_place_21 rfl (lv_at hl 1 rfl) ?_
    refine t_gE hx hb hU hown h hq 7 (by decide) ufX1_9 (v := .ref (σ.2.2 q)) rfl dX1_place_22 ?_
    refine t_lR hx hb h hq dX1_place_25 ?_
    refine n_isub hx hb (by omega) dX1_place_26 ?_
    exact W.iret (v := nI (((σ.1 18 q) + k) - (σ.1 17 q))) hx hb hr (fun t ht hW => ⟨⟨_, _, rfl, ⟨by simp only [T_place]; first | rw [if_pos (by omega)] | rw [if_neg (by omega)], rfl⟩, h.at ht hW⟩, h.2.2.2.2.F ht⟩) h.2.2.2.2.2.2 dX1_place_27
  · refine lv_iload_n hx hb dX1_place_16 rfl (lv_at hl 0 rfl) ?_
    refine lv_goto (tgt := 27) hx hb dX1_place_17 (by decide) ?_
    exact W.iret (v := nI ((σ.1 18 q) + k)) hx hb hr (fun t ht hW => ⟨⟨_, _, rfl, ⟨by simp only [T_place]; first | rw [if_pos (by omega)] | rw [if_neg (by omega)], rfl⟩, h.at ht hW⟩, h.2.2.2.2.F ht⟩) h.2.2.2.2.2.2 dX1_place_27
def T_work (σ : TS) (n : Nat) : TS :=
  if σ.2.1 0 n = 0 then sI (sI σ 3 n (σ.2.1 2 n)) 2 n (σ.2.1 2 n + nI 1) else
  if σ.2.1 0 n = 1 then sI σ 3 n (σ.2.1 31 0 + σ.2.1 1 n) else
  if σ.2.1 0 n = 2 then sI σ 3 n (σ.2.1 31 0 * σ.2.1 1 n) else
  if σ.2.1 0 n = 3 then sI (sI σ 2 n (σ.2.1 2 n + σ.2.1 31 0)) 3 n (σ.2.1 2 n + σ.2.1 31 0) else
  if σ.2.1 0 n = 4 then sI σ 3 n (if σ.1 30 0 = 0 then σ.2.1 1 n else σ.2.1 32 0) else
  sI σ 3 n (σ.2.1 33 0 + σ.2.1 1 n)
theorem t_kout {x : Int32} (h0 : ¬ x = 0) (h1 : ¬ x = 1) (h2 : ¬ x = 2) (h3 : ¬ x = 3) (h4 : ¬ x = 4) : x.toInt < 0 ∨ 4 < x.toInt := by
  have e : ∀ k : Int32, ¬ x = k → x.toInt ≠ k.toInt := fun k h q => h (Int32.toInt_inj.mp q)
  have a0 := e 0 h0; have a1 := e 1 h1; have a2 := e 2 h2; have a3 := e 3 h3; have a4 := e 4 h4
  rw [show (0 : Int32).toInt = 0 from rfl] at a0
  rw [show (1 : Int32).toInt = 1 from rfl] at a1
  rw [show (2 : Int32).toInt = 2 from rfl] at a2
  rw [show (3 : Int32).toInt = 3 from rfl] at a3
  rw [show (4 : Int32).toInt = 4 from rfl] at a4
  omega
set_option maxRecDepth 100000 in
set_option maxHeartbeats 4000000 in
theorem c_X0_work (l : Launch) (D : va_G) (cy : Nat → ClassId) (ad : Nat → Nat) (σ : TS) (sz : Nat) {n : Nat} (hn : n < 8) (h1 : σ.1 30 0 < 2 ^ 20) : MTv l D cy ad yX0_work cX0_work 2 (rmd 0) [.ref (ad (5 + n)), .ref (ad 4)] σ sz (fun u => u = T_work σ n) := by
  refine Met.ofW (cc := cX0_work) (maxL := 2) (ret := none) (by decide) rfl ?_
  intro p ev s m args below meth c s₁ B hml hv
  obtain ⟨rfl, hw⟩ := hv
  have hx := B.exec
  have hb := B.bytes
  have hr := B.returns
  have hlk := B.notSynchronized
  have hU : ∀ w ∈ UW, w.before _ s = true := fun w hw => atoms_spec (ws := Cond.code yX0_work cX0_work 2 none :: UW) B.pre w (List.mem_cons_of_mem _ hw)
  have hown : s.vm.findClass RX0 = some m.cls := findClass_of_methodNamed B.named
  have hR : 0 ≤ (headSpec (Cond.code yX0_work cX0_work 2 none :: UW) (rmd 0)).room.frames ∧ 32 * 0 ≤ (headSpec (Cond.code yX0_work cX0_work 2 none :: UW) (rmd 0)).room.locals := ⟨Nat.le_refl _, Nat.le_refl _⟩
  have hcs : 0 ≤ (headSpec (Cond.code yX0_work cX0_work 2 none :: UW) (rmd 0)).room.cells ∧ 0 ≤ (headSpec (Cond.code yX0_work cX0_work 2 none :: UW) (rmd 0)).room.slots := ⟨Nat.zero_le _, Nat.zero_le _⟩
  have h := WX.start hw
  clear hw
  generalize va_A (wv _ _ _) _ = A at h ⊢
  have hl := lv_entry ([.ref (ad (5 + n)), .ref (ad 4)]) (n := 2) (Nat.le_of_ble_eq_true rfl)
  rw [lg_entry_eq]
  generalize (lg_sl ([.ref (ad (5 + n)), .ref (ad 4)]) ++ List.replicate (2 - (lg_sl ([.ref (ad (5 + n)), .ref (ad 4)])).length) Slot.unset).toArray = ls at hl ⊢
  have hl : lv_has ls 2 [(0, .ref (ad (5 + n))), (1, .ref (ad 4))] := hl
  refine lv_aload_n hx hb dX0_work_0 rfl (lv_at hl 0 rfl) ?_
  refine t_gA hx hb hU hown h hn 0 (by decide) ufX0_21 (v := .int (σ.2.1 0 n)) rfl dX0_work_1 ?_
  by_cases hk : σ.2.1 0 n = 0 ∨ σ.2.1 0 n = 1 ∨ σ.2.1 0 n = 2 ∨ σ.2.1 0 n = 3 ∨ σ.2.1 0 n = 4
  · rcases hk with hk | hk | hk | hk | hk
    · refine lv_tableIn (off := 36) (tgt := 40) hx hb dX0_work_4 (by rw [hk]; decide +kernel) (by rw [hk]; decide +kernel) (by rw [hk]; decide +kernel) (by decide) ?_
      refine lv_aload_n hx hb dX0_work_40 rfl (lv_at hl 0 rfl) ?_
      refine lv_aload_n hx hb dX0_work_41 rfl (lv_at hl 0 rfl) ?_
      refine t_gA hx hb hU hown h hn 2 (by decide) ufX0_15 (v := .int (σ.2.1 2 n)) rfl dX0_work_42 ?_
      refine t_pA hx hb hU hown h hn 3 (by decide) ufX0_18 (v := σ.2.1 2 n) dX0_work_45 (fun H locs h => ?_)
      refine lv_aload_n hx hb dX0_work_48 rfl (lv_at hl 0 rfl) ?_
      refine lv_aload_n hx hb dX0_work_49 rfl (lv_at hl 0 rfl) ?_
      refine t_gA hx hb hU hown h hn 2 (by decide) ufX0_15 (v := .int (σ.2.1 2 n)) (by first | rfl | (simp [fM, fA, fE, fK, sN, sI, up2]; done)) dX0_work_50 ?_
      refine lv_iconst (v := nI 1) hx hb dX0_work_53 (by decide +kernel) ?_
      refine lv_iadd hx hb dX0_work_54 ?_
      refine t_pA hx hb hU hown h hn 2 (by decide) ufX0_15 (v := ((σ.2.1 2 n) + (nI 1))) dX0_work_55 (fun H locs h => ?_)
      refine lv_goto (tgt := 155) hx hb dX0_work_58 (by decide) ?_
      exact W.vret hx hb hr (fun t ht hW => ⟨⟨_, rfl, (by simp [T_work, hk]), h.at ht hW⟩, h.2.2.2.2.F ht⟩) h.2.2.2.2.2.2 dX0_work_155
    · refine lv_tableIn (off := 57) (tgt := 61) hx hb dX0_work_4 (by rw [hk]; decide +kernel) (by rw [hk]; decide +kernel) (by rw [hk]; decide +kernel) (by decide) ?_
      refine lv_aload_n hx hb dX0_work_61 rfl (lv_at hl 0 rfl) ?_
      refine lv_aload_n hx hb dX0_work_62 rfl (lv_at hl 1 rfl) ?_
      refine t_gK hx hb hU hown h 1 (by decide) ufX0_24 (v := .int (σ.2.1 31 0)) rfl dX0_work_63 ?_
      refine lv_aload_n hx hb dX0_work_66 rfl (lv_at hl 0 rfl) ?_
      refine t_gA hx hb hU hown h hn 1 (by decide) ufX0_9 (v := .int (σ.2.1 1 n)) rfl dX0_work_67 ?_
      refine lv_iadd hx hb dX0_work_70 ?_
      refine t_pA hx hb hU hown h hn 3 (by decide) ufX0_18 (v := ((σ.2.1 31 0) + (σ.2.1 1 n))) dX0_work_71 (fun H locs h => ?_)
      refine lv_goto (tgt := 155) hx hb dX0_work_74 (by decide) ?_
      exact W.vret hx hb hr (fun t ht hW => ⟨⟨_, rfl, (by simp [T_work, hk]), h.at ht hW⟩, h.2.2.2.2.F ht⟩) h.2.2.2.2.2.2 dX0_work_155
    · refine lv_tableIn (off := 73) (tgt := 77) hx hb dX0_work_4 (by rw [hk]; decide +kernel) (by rw [hk]; decide +kernel) (by rw [hk]; decide +kernel) (by decide) ?_
      refine lv_aload_n hx hb dX0_work_77 rfl (lv_at hl 0 rfl) ?_
      refine lv_aload_n hx hb dX0_work_78 rfl (lv_at hl 1 rfl) ?_
      refine t_gK hx hb hU hown h 1 (by decide) ufX0_24 (v := .int (σ.2.1 31 0)) rfl dX0_work_79 ?_
      refine lv_aload_n hx hb dX0_work_82 rfl (lv_at hl 0 rfl) ?_
      refine t_gA hx hb hU hown h hn 1 (by decide) ufX0_9 (v := .int (σ.2.1 1 n)) rfl dX0_work_83 ?_
      refine lv_imul hx hb dX0_work_86 ?_
      refine t_pA hx hb hU hown h hn 3 (by decide) ufX0_18 (v := ((σ.2.1 31 0) * (σ.2.1 1 n))) dX0_work_87 (fun H locs h => ?_)
      refine lv_goto (tgt := 155) hx hb dX0_work_90 (by decide) ?_
      exact W.vret hx hb hr (fun t ht hW => ⟨⟨_, rfl, (by simp [T_work, hk]), h.at ht hW⟩, h.2.2.2.2.F ht⟩) h.2.2.2.2.2.2 dX0_work_155
    · refine lv_tableIn (off := 89) (tgt := 93) hx hb dX0_work_4 (by rw [hk]; decide +kernel) (by rw [hk]; decide +kernel) (by rw [hk]; decide +kernel) (by decide) ?_
      refine lv_aload_n hx hb dX0_work_93 rfl (lv_at hl 0 rfl) ?_
      refine lv_aload_n hx hb dX0_work_94 rfl (lv_at hl 0 rfl) ?_
      refine t_gA hx hb hU hown h hn 2 (by decide) ufX0_15 (v := .int (σ.2.1 2 n)) rfl dX0_work_95 ?_
      refine lv_aload_n hx hb dX0_work_98 rfl (lv_at hl 1 rfl) ?_
      refine t_gK hx hb hU hown h 1 (by decide) ufX0_24 (v := .int (σ.2.1 31 0)) rfl dX0_work_99 ?_
      refine lv_iadd hx hb dX0_work_102 ?_
      refine t_pA hx hb hU hown h hn 2 (by decide) ufX0_15 (v := ((σ.2.1 2 n) + (σ.2.1 31 0))) dX0_work_103 (fun H locs h => ?_)
      refine lv_aload_n hx hb dX0_work_106 rfl (lv_at hl 0 rfl) ?_
      refine lv_aload_n hx hb dX0_work_107 rfl (lv_at hl 0 rfl) ?_
      refine t_gA hx hb hU hown h hn 2 (by decide) ufX0_15 (v := .int (((σ.2.1 2 n) + (σ.2.1 31 0)))) (by first | rfl | (simp [fM, fA, fE, fK, sN, sI, up2]; done)) dX0_work_108 ?_
      refine t_pA hx hb hU hown h hn 3 (by decide) ufX0_18 (v := ((σ.2.1 2 n) + (σ.2.1 31 0))) dX0_work_111 (fun H locs h => ?_)
      refine lv_goto (tgt := 155) hx hb dX0_work_114 (by decide) ?_
      exact W.vret hx hb hr (fun t ht hW => ⟨⟨_, rfl, (by simp [T_work, hk]), h.at ht hW⟩, h.2.2.2.2.F ht⟩) h.2.2.2.2.2.2 dX0_work_155
    · refine lv_tableIn (off := 113) (tgt := 117) hx hb dX0_work_4 (by rw [hk]; decide +kernel) (by rw [hk]; decide +kernel) (by rw [hk]; decide +kernel) (by decide) ?_
      refine lv_aload_n hx hb dX0_work_117 rfl (lv_at hl 0 rfl) ?_
      refine lv_aload_n hx hb dX0_work_118 rfl (lv_at hl 1 rfl) ?_
      refine t_gK hx hb hU hown h 0 (by decide) ufX0_29 (v := .int (nI (σ.1 30 0))) rfl dX0_work_119 ?_
      refine n_if_ne (tgt := 132) hx hb (by omega) dX0_work_122 (by decide) (fun c_122 => ?_) (fun c_122 => ?_)
      · refine lv_aload_n hx hb dX0_work_132 rfl (lv_at hl 1 rfl) ?_
        refine t_gK hx hb hU hown h 2 (by decide) ufX0_32 (v := .int (σ.2.1 32 0)) rfl dX0_work_133 ?_
        refine t_pA hx hb hU hown h hn 3 (by decide) ufX0_18 (v := σ.2.1 32 0) dX0_work_136 (fun H locs h => ?_)
        refine lv_goto (tgt := 155) hx hb dX0_work_139 (by decide) ?_
        exact W.vret hx hb hr (fun t ht hW => ⟨⟨_, rfl, (by first | (simp [T_work, hk, c_122]; done) | (simp [T_work, hk, Nat.ne_of_gt c_122]; done)), h.at ht hW⟩, h.2.2.2.2.F ht⟩) h.2.2.2.2.2.2 dX0_work_155
      · refine lv_aload_n hx hb dX0_work_125 rfl (lv_at hl 0 rfl) ?_
        refine t_gA hx hb hU hown h hn 1 (by decide) ufX0_9 (v := .int (σ.2.1 1 n)) rfl dX0_work_126 ?_
        refine lv_goto (tgt := 136) hx hb dX0_work_129 (by decide) ?_
        refine t_pA hx hb hU hown h hn 3 (by decide) ufX0_18 (v := σ.2.1 1 n) dX0_work_136 (fun H locs h => ?_)
        refine lv_goto (tgt := 155) hx hb dX0_work_139 (by decide) ?_
        exact W.vret hx hb hr (fun t ht hW => ⟨⟨_, rfl, (by first | (simp [T_work, hk, c_122]; done) | (simp [T_work, hk, Nat.ne_of_gt c_122]; done)), h.at ht hW⟩, h.2.2.2.2.F ht⟩) h.2.2.2.2.2.2 dX0_work_155
  · refine lv_tableOut (tgt := 142) hx hb dX0_work_4 (t_kout (fun q => hk (Or.inl q)) (fun q => hk (Or.inr (Or.inl q))) (fun q => hk (Or.inr (Or.inr (Or.inl q)))) (fun q => hk (Or.inr (Or.inr (Or.inr (Or.inl q))))) (fun q => hk (Or.inr (Or.inr (Or.inr (Or.inr q)))))) (by decide) ?_
    refine lv_aload_n hx hb dX0_work_142 rfl (lv_at hl 0 rfl) ?_
    refine lv_aload_n hx hb dX0_work_143 rfl (lv_at hl 1 rfl) ?_
    refine t_gK hx hb hU hown h 3 (by decide) ufX0_35 (v := .int (σ.2.1 33 0)) rfl dX0_work_144 ?_
    refine lv_aload_n hx hb dX0_work_147 rfl (lv_at hl 0 rfl) ?_
    refine t_gA hx hb hU hown h hn 1 (by decide) ufX0_9 (v := .int (σ.2.1 1 n)) rfl dX0_work_148 ?_
    refine lv_iadd hx hb dX0_work_151 ?_
    refine t_pA hx hb hU hown h hn 3 (by decide) ufX0_18 (v := ((σ.2.1 33 0) + (σ.2.1 1 n))) dX0_work_152 (fun H locs h => ?_)
    exact W.vret hx hb hr (fun t ht hW => ⟨⟨_, rfl, (by simp [T_work, show ¬ σ.2.1 0 n = 0 from fun q => hk (Or.inl q), show ¬ σ.2.1 0 n = 1 from fun q => hk (Or.inr (Or.inl q)), show ¬ σ.2.1 0 n = 2 from fun q => hk (Or.inr (Or.inr (Or.inl q))), show ¬ σ.2.1 0 n = 3 from fun q => hk (Or.inr (Or.inr (Or.inr (Or.inl q)))), show ¬ σ.2.1 0 n = 4 from fun q => hk (Or.inr (Or.inr (Or.inr (Or.inr q))))]), h.at ht hW⟩, h.2.2.2.2.F ht⟩) h.2.2.2.2.2.2 dX0_work_155
def T_add (σ : TS) (v : Int32) : TS := sI (sI (sN (sI σ 32 0 (if σ.1 30 0 = 0 then v else if σ.2.1 32 0 < v then v else σ.2.1 32 0)) 30 0 (σ.1 30 0 + 1)) 31 0 (σ.2.1 31 0 + v)) 33 0 (nI 31 * σ.2.1 33 0 + v)
theorem le_trans9 {a b c : Nat} (h1 : a ≤ b) (h2 : b ≤ c) : a ≤ c := Nat.le_trans h1 h2
set_option maxRecDepth 100000 in
set_option maxHeartbeats 4000000 in
theorem c_X2_add (l : Launch) (D : va_G) (cy : Nat → ClassId) (ad : Nat → Nat) (σ : TS) (sz : Nat) {v : Int32} (h1 : σ.1 30 0 < 2 ^ 20) : MTv l D cy ad yX2_add cX2_add 2 (rmd 1) [.ref (ad 4), .int v] σ sz (fun u => u = T_add σ v) := by
  refine Met.ofW (cc := cX2_add) (maxL := 2) (ret := none) (by decide) rfl ?_
  intro p ev s m args below meth c s₁ B hml hv
  obtain ⟨rfl, hw⟩ := hv
  have hx := B.exec
  have hb := B.bytes
  have hr := B.returns
  have hlk := B.notSynchronized
  have hU : ∀ w ∈ UW, w.before _ s = true := fun w hw => atoms_spec (ws := Cond.code yX2_add cX2_add 2 none :: UW) B.pre w (List.mem_cons_of_mem _ hw)
  have hown : s.vm.findClass RX2 = some m.cls := findClass_of_methodNamed B.named
  have hR : 1 ≤ (headSpec (Cond.code yX2_add cX2_add 2 none :: UW) (rmd 1)).room.frames ∧ 32 * 1 ≤ (headSpec (Cond.code yX2_add cX2_add 2 none :: UW) (rmd 1)).room.locals := ⟨Nat.le_refl _, Nat.le_refl _⟩
  have hcs : 0 ≤ (headSpec (Cond.code yX2_add cX2_add 2 none :: UW) (rmd 1)).room.cells ∧ 0 ≤ (headSpec (Cond.code yX2_add cX2_add 2 none :: UW) (rmd 1)).room.slots := ⟨Nat.zero_le _, Nat.zero_le _⟩
  have h := WX.start hw
  clear hw
  generalize va_A (wv _ _ _) _ = A at h ⊢
  have hl := lv_entry ([.ref (ad 4), .int v]) (n := 2) (Nat.le_of_ble_eq_true rfl)
  rw [lg_entry_eq]
  generalize (lg_sl ([.ref (ad 4), .int v]) ++ List.replicate (2 - (lg_sl ([.ref (ad 4), .int v])).length) Slot.unset).toArray = ls at hl ⊢
  have hl : lv_has ls 2 [(0, .ref (ad 4)), (1, .int v)] := hl
  refine lv_aload_n hx hb dX2_add_0 rfl (lv_at hl 0 rfl) ?_
  refine lv_aload_n hx hb dX2_add_1 rfl (lv_at hl 0 rfl) ?_
  refine t_gK hx hb hU hown h 0 (by decide) ufX2_7 (v := .int (nI (σ.1 30 0))) rfl dX2_add_2 ?_
  refine n_if_ne (tgt := 12) hx hb (by omega) dX2_add_5 (by decide) (fun c_5 => ?_) (fun c_5 => ?_)
  · refine lv_aload_n hx hb dX2_add_12 rfl (lv_at hl 0 rfl) ?_
    refine t_gK hx hb hU hown h 2 (by decide) ufX2_16 (v := .int (σ.2.1 32 0)) rfl dX2_add_13 ?_
    refine lv_iload_n hx hb dX2_add_16 rfl (lv_at hl 1 rfl) ?_
    refine i_mmax hx hb hml hl.1 hU hown umX2_22 (by omega) (le_trans9 (Nat.le_of_ble_eq_true rfl) hR.2) hcs.1 hcs.2 dX2_add_17 ?_
    refine t_pK hx hb hU hown h 2 (by decide) ufX2_16 (v := if σ.2.1 32 0 < v then v else σ.2.1 32 0) dX2_add_20 (fun H locs h => ?_)
    have h : XT D cy ad s A H locs (sI σ 32 0 (if σ.2.1 32 0 < v then v else σ.2.1 32 0)) := h
    refine lv_aload_n hx hb dX2_add_23 rfl (lv_at hl 0 rfl) ?_
    refine lv_dup hx hb dX2_add_24 rfl ?_
    refine t_gK hx hb hU hown h 0 (by decide) ufX2_7 (v := .int (nI (σ.1 30 0))) (by first | rfl | (simp [fM, fA, fE, fK, sN, sI, up2]; done)) dX2_add_25 ?_
    refine lv_iconst (v := nI 1) hx hb dX2_add_28 (by decide +kernel) ?_
    refine n_iadd hx hb dX2_add_29 ?_
    refine t_pK0 hx hb hU hown h ufX2_7 dX2_add_30 (fun H locs h => ?_)
    have h : XT D cy ad s A H locs (sN (sI σ 32 0 (if σ.2.1 32 0 < v then v else σ.2.1 32 0)) 30 0 ((σ.1 30 0) + 1)) := h
    refine lv_aload_n hx hb dX2_add_33 rfl (lv_at hl 0 rfl) ?_
    refine lv_aload_n hx hb dX2_add_34 rfl (lv_at hl 0 rfl) ?_
    refine t_gK hx hb hU hown h 1 (by decide) ufX2_13 (v := .int (σ.2.1 31 0)) (by first | rfl | (simp [fM, fA, fE, fK, sN, sI, up2]; done)) dX2_add_35 ?_
    refine lv_iload_n hx hb dX2_add_38 rfl (lv_at hl 1 rfl) ?_
    refine lv_iadd hx hb dX2_add_39 ?_
    refine t_pK hx hb hU hown h 1 (by decide) ufX2_13 (v := ((σ.2.1 31 0) + v)) dX2_add_40 (fun H locs h => ?_)
    have h : XT D cy ad s A H locs (sI (sN (sI σ 32 0 (if σ.2.1 32 0 < v then v else σ.2.1 32 0)) 30 0 ((σ.1 30 0) + 1)) 31 0 (((σ.2.1 31 0) + v))) := h
    refine lv_aload_n hx hb dX2_add_43 rfl (lv_at hl 0 rfl) ?_
    refine lv_bipush (v := nI 31) hx hb dX2_add_44 (by decide +kernel) ?_
    refine lv_aload_n hx hb dX2_add_46 rfl (lv_at hl 0 rfl) ?_
    refine t_gK hx hb hU hown h 3 (by decide) ufX2_19 (v := .int (σ.2.1 33 0)) (by first | rfl | (simp [fM, fA, fE, fK, sN, sI, up2]; done)) dX2_add_47 ?_
    refine lv_imul hx hb dX2_add_50 ?_
    refine lv_iload_n hx hb dX2_add_51 rfl (lv_at hl 1 rfl) ?_
    refine lv_iadd hx hb dX2_add_52 ?_
    refine t_pK hx hb hU hown h 3 (by decide) ufX2_19 (v := ((((nI 31) * (σ.2.1 33 0))) + v)) dX2_add_53 (fun H locs h => ?_)
    have h : XT D cy ad s A H locs (sI (sI (sN (sI σ 32 0 (if σ.2.1 32 0 < v then v else σ.2.1 32 0)) 30 0 ((σ.1 30 0) + 1)) 31 0 (((σ.2.1 31 0) + v))) 33 0 (((((nI 31) * (σ.2.1 33 0))) + v))) := h
    exact W.vret hx hb hr (fun t ht hW => ⟨⟨_, rfl, (by simp only [T_add]; first | rw [if_pos (show σ.1 30 0 = 0 by omega)] | rw [if_neg (show ¬ σ.1 30 0 = 0 by omega)]), h.at ht hW⟩, h.2.2.2.2.F ht⟩) h.2.2.2.2.2.2 dX2_add_56
  · refine lv_iload_n hx hb dX2_add_8 rfl (lv_at hl 1 rfl) ?_
    refine lv_goto (tgt := 20) hx hb dX2_add_9 (by decide) ?_
    refine t_pK hx hb hU hown h 2 (by decide) ufX2_16 (v := v) dX2_add_20 (fun H locs h => ?_)
    have h : XT D cy ad s A H locs (sI σ 32 0 v) := h
    refine lv_aload_n hx hb dX2_add_23 rfl (lv_at hl 0 rfl) ?_
    refine lv_dup hx hb dX2_add_24 rfl ?_
    refine t_gK hx hb hU hown h 0 (by decide) ufX2_7 (v := .int (nI (σ.1 30 0))) (by first | rfl | (simp [fM, fA, fE, fK, sN, sI, up2]; done)) dX2_add_25 ?_
    refine lv_iconst (v := nI 1) hx hb dX2_add_28 (by decide +kernel) ?_
    refine n_iadd hx hb dX2_add_29 ?_
    refine t_pK0 hx hb hU hown h ufX2_7 dX2_add_30 (fun H locs h => ?_)
    have h : XT D cy ad s A H locs (sN (sI σ 32 0 v) 30 0 ((σ.1 30 0) + 1)) := h
    refine lv_aload_n hx hb dX2_add_33 rfl (lv_at hl 0 rfl) ?_
    refine lv_aload_n hx hb dX2_add_34 rfl (lv_at hl 0 rfl) ?_
    refine t_gK hx hb hU hown h 1 (by decide) ufX2_13 (v := .int (σ.2.1 31 0)) (by first | rfl | (simp [fM, fA, fE, fK, sN, sI, up2]; done)) dX2_add_35 ?_
    refine lv_iload_n hx hb dX2_add_38 rfl (lv_at hl 1 rfl) ?_
    refine lv_iadd hx hb dX2_add_39 ?_
    refine t_pK hx hb hU hown h 1 (by decide) ufX2_13 (v := ((σ.2.1 31 0) + v)) dX2_add_40 (fun H locs h => ?_)
    have h : XT D cy ad s A H locs (sI (sN (sI σ 32 0 v) 30 0 ((σ.1 30 0) + 1)) 31 0 (((σ.2.1 31 0) + v))) := h
    refine lv_aload_n hx hb dX2_add_43 rfl (lv_at hl 0 rfl) ?_
    refine lv_bipush (v := nI 31) hx hb dX2_add_44 (by decide +kernel) ?_
    refine lv_aload_n hx hb dX2_add_46 rfl (lv_at hl 0 rfl) ?_
    refine t_gK hx hb hU hown h 3 (by decide) ufX2_19 (v := .int (σ.2.1 33 0)) (by first | rfl | (simp [fM, fA, fE, fK, sN, sI, up2]; done)) dX2_add_47 ?_
    refine lv_imul hx hb dX2_add_50 ?_
    refine lv_iload_n hx hb dX2_add_51 rfl (lv_at hl 1 rfl) ?_
    refine lv_iadd hx hb dX2_add_52 ?_
    refine t_pK hx hb hU hown h 3 (by decide) ufX2_19 (v := ((((nI 31) * (σ.2.1 33 0))) + v)) dX2_add_53 (fun H locs h => ?_)
    have h : XT D cy ad s A H locs (sI (sI (sN (sI σ 32 0 v) 30 0 ((σ.1 30 0) + 1)) 31 0 (((σ.2.1 31 0) + v))) 33 0 (((((nI 31) * (σ.2.1 33 0))) + v))) := h
    exact W.vret hx hb hr (fun t ht hW => ⟨⟨_, rfl, (by simp only [T_add]; first | rw [if_pos (show σ.1 30 0 = 0 by omega)] | rw [if_neg (show ¬ σ.1 30 0 = 0 by omega)]), h.at ht hW⟩, h.2.2.2.2.F ht⟩) h.2.2.2.2.2.2 dX2_add_56
def T_eStart_s (q : Nat) : Nat → TS → TS := fun k τ => sI τ (100 + q) k (nI 0)
def T_eStart (σ : TS) (q : Nat) : TS := itr (T_eStart_s q) (σ.1 14 q) 0 (sN (sN σ 18 q 0) 19 q (σ.1 14 q))
set_option maxRecDepth 100000 in
set_option maxHeartbeats 4000000 in
theorem lp_X1_bringToStart {p : Program} {l : Launch} {ev : Env} {R : Room} {s : State} {m : MethodId} {args : Array Value} {below : List Frame} {meth : Method} {c : Code} {cells slots : Nat} {Q : State → Prop} {D : va_G} {cy : Nat → ClassId} {ad : Nat → Nat} {A : Nat → Prop} (hx : p.tables.exec = Jvm.exec) (hb : c.code = cX1_bringToStart) (hml : c.maxLocals = 2) (hU : ∀ w ∈ UW, w.before args s = true) (hown : s.vm.findClass RX1 = some m.cls) (hR : 0 ≤ R.frames ∧ 32 * 0 ≤ R.locals) (hcs : cells ≤ R.cells ∧ slots ≤ R.slots) {q : Nat} (hq : q < 12) :
    ∀ (k i : Nat) (τ : TS) (H : Heap) (locs : List Loc) (ls : Array Slot), (i + k = τ.1 14 q ∧ τ.1 14 q ≤ τ.1 17 q ∧ τ.1 17 q < 2 ^ 20) → XT D cy ad s A H locs τ → lv_has ls 2 [(0, .ref (ad (13 + q))), (1, .int (nI i))] → (∀ (H : Heap) (locs : List Loc) (ls : Array Slot), XT D cy ad s A H locs (itr (T_eStart_s q) k i τ) → lv_has ls 2 [(0, .ref (ad (13 + q)))] → W p l ev R s m args below meth c H locs cells slots Q (F0 m 45 ls [])) → W p l ev R s m args below meth c H locs cells slots Q (F0 m 15 ls []) := by
  intro k
  induction k with
  | zero =>
    intro i τ H locs ls hc h hl K
    refine lv_iload_n hx hb dX1_bringToStart_15 rfl (lv_at hl 1 rfl) ?_
    refine lv_aload_n hx hb dX1_bringToStart_16 rfl (lv_at hl 0 rfl) ?_
    refine t_gE hx hb hU hown h hq 4 (by decide) ufX1_19 (v := .int (nI (τ.1 14 q))) rfl dX1_bringToStart_17 ?_
    refine n_icmp_ge (tgt := 45) hx hb (by omega) (by omega) dX1_bringToStart_20 (by decide) (fun c_20 => ?_) (fun c_20 => absurd c_20 (by omega))
    exact K _ _ _ h (lv_sub hl [0] rfl)
  | succ k ih =>
    intro i τ H locs ls hc h hl K
    refine lv_iload_n hx hb dX1_bringToStart_15 rfl (lv_at hl 1 rfl) ?_
    refine lv_aload_n hx hb dX1_bringToStart_16 rfl (lv_at hl 0 rfl) ?_
    refine t_gE hx hb hU hown h hq 4 (by decide) ufX1_19 (v := .int (nI (τ.1 14 q))) rfl dX1_bringToStart_17 ?_
    refine n_icmp_ge (tgt := 45) hx hb (by omega) (by omega) dX1_bringToStart_20 (by decide) (fun c_20 => absurd c_20 (by omega)) (fun c_20 => ?_)
    refine lv_iload_n hx hb dX1_bringToStart_23 rfl (lv_at hl 1 rfl) ?_
    refine lv_aload_n hx hb dX1_bringToStart_24 rfl (lv_at hl 0 rfl) ?_
    refine t_gE hx hb hU hown h hq 7 (by decide) ufX1_9 (v := .ref (τ.2.2 q)) rfl dX1_bringToStart_25 ?_
    refine t_lR hx hb h hq dX1_bringToStart_28 ?_
    refine n_icmp_ge (tgt := 45) hx hb (by omega) (by omega) dX1_bringToStart_29 (by decide) (fun c_29 => absurd c_29 (by omega)) (fun c_29 => ?_)
    refine lv_aload_n hx hb dX1_bringToStart_32 rfl (lv_at hl 0 rfl) ?_
    refine t_gE hx hb hU hown h hq 7 (by decide) ufX1_9 (v := .ref (τ.2.2 q)) rfl dX1_bringToStart_33 ?_
    refine lv_iload_n hx hb dX1_bringToStart_36 rfl (lv_at hl 1 rfl) ?_
    refine lv_iconst (v := nI 0) hx hb dX1_bringToStart_37 (by decide +kernel) ?_
    refine t_sR hx hb h hq (v := nI 0) (by omega) (by omega) dX1_bringToStart_38 (fun H locs h => ?_)
    refine lv_iinc (v := nI (i + 1)) (lv' := [(1, .int (nI (i + 1))), (0, .ref (ad (13 + q)))]) hx hb dX1_bringToStart_39 hl (k := 1) rfl (by rw [← nI_add]; rfl) (by decide) rfl (fun ls hl => ?_)
    refine lv_goto (tgt := 15) hx hb dX1_bringToStart_42 (by decide) ?_
    exact ih (i + 1) (sI τ (100 + q) i (nI 0)) _ _ _ ⟨by show i + 1 + k = τ.1 14 q; omega, hc.2⟩ h (lv_sub hl [1, 0] rfl) K
set_option maxRecDepth 100000 in
set_option maxHeartbeats 4000000 in
theorem c_X1_bringToStart (l : Launch) (D : va_G) (cy : Nat → ClassId) (ad : Nat → Nat) (σ : TS) (sz : Nat) {q : Nat} (hq : q < 12) (h1 : σ.1 14 q ≤ σ.1 17 q) (h2 : σ.1 17 q < 2 ^ 20) : MTv l D cy ad yX1_bringToStart cX1_bringToStart 2 (rmd 0) [.ref (ad (13 + q))] σ sz (fun u => u = T_eStart σ q) := by
  refine Met.ofW (cc := cX1_bringToStart) (maxL := 2) (ret := none) (by decide) rfl ?_
  intro p ev s m args below meth c s₁ B hml hv
  obtain ⟨rfl, hw⟩ := hv
  have hx := B.exec
  have hb := B.bytes
  have hr := B.returns
  have hlk := B.notSynchronized
  have hU : ∀ w ∈ UW, w.before _ s = true := fun w hw => atoms_spec (ws := Cond.code yX1_bringToStart cX1_bringToStart 2 none :: UW) B.pre w (List.mem_cons_of_mem _ hw)
  have hown : s.vm.findClass RX1 = some m.cls := findClass_of_methodNamed B.named
  have hR : 0 ≤ (headSpec (Cond.code yX1_bringToStart cX1_bringToStart 2 none :: UW) (rmd 0)).room.frames ∧ 32 * 0 ≤ (headSpec (Cond.code yX1_bringToStart cX1_bringToStart 2 none :: UW) (rmd 0)).room.locals := ⟨Nat.le_refl _, Nat.le_refl _⟩
  have hcs : 0 ≤ (headSpec (Cond.code yX1_bringToStart cX1_bringToStart 2 none :: UW) (rmd 0)).room.cells ∧ 0 ≤ (headSpec (Cond.code yX1_bringToStart cX1_bringToStart 2 none :: UW) (rmd 0)).room.slots := ⟨Nat.zero_le _, Nat.zero_le _⟩
  have h := WX.start hw
  clear hw
  generalize va_A (wv _ _ _) _ = A at h ⊢
  have hl := lv_entry ([.ref (ad (13 + q))]) (n := 2) (Nat.le_of_ble_eq_true rfl)
  rw [lg_entry_eq]
  generalize (lg_sl ([.ref (ad (13 + q))]) ++ List.replicate (2 - (lg_sl ([.ref (ad (13 + q))])).length) Slot.unset).toArray = ls at hl ⊢
  have hl : lv_has ls 2 [(0, .ref (ad (13 + q)))] := hl
  refine lv_aload_n hx hb dX1_bringToStart_0 rfl (lv_at hl 0 rfl) ?_
  refine lv_iconst (v := nI 0) hx hb dX1_bringToStart_1 (by decide +kernel) ?_
  refine t_pE hx hb hU hown h hq 8 (by decide) ufX1_15 dX1_bringToStart_2 (fun H locs h => ?_)
  have h : XT D cy ad s A H locs (sN σ 18 q 0) := h
  refine lv_aload_n hx hb dX1_bringToStart_5 rfl (lv_at hl 0 rfl) ?_
  refine lv_aload_n hx hb dX1_bringToStart_6 rfl (lv_at hl 0 rfl) ?_
  refine t_gE hx hb hU hown h hq 4 (by decide) ufX1_19 (v := .int (nI (σ.1 14 q))) (by first | rfl | (simp [fM, fA, fE, fK, sN, sI, up2]; done)) dX1_bringToStart_7 ?_
  refine t_pE hx hb hU hown h hq 9 (by decide) ufX1_22 dX1_bringToStart_10 (fun H locs h => ?_)
  have h : XT D cy ad s A H locs (sN (sN σ 18 q 0) 19 q (σ.1 14 q)) := h
  refine lv_iconst (v := nI 0) hx hb dX1_bringToStart_13 (by decide +kernel) ?_
  refine lv_istore_n (lv' := [(1, .int (nI 0)), (0, .ref (ad (13 + q)))]) hx hb dX1_bringToStart_14 rfl hl (by decide) rfl (fun ls hl => ?_)
  refine lp_X1_bringToStart hx hb hml hU hown hR hcs hq (σ.1 14 q) 0 _ _ _ _ ⟨by simp [sN, up2], by simpa [sN, up2] using h1, by simpa [sN, up2] using h2⟩ h (lv_sub hl [1, 0] rfl) (fun H locs ls h hl => ?_)
  exact W.vret hx hb hr (fun t ht hW => ⟨⟨_, rfl, rfl, h.at ht hW⟩, h.2.2.2.2.F ht⟩) h.2.2.2.2.2.2 dX1_bringToStart_45
def T_eCount (σ : TS) (q : Nat) : TS := sN (sN σ 15 q (σ.1 14 q)) 16 q (σ.1 14 q)
set_option maxRecDepth 100000 in
set_option maxHeartbeats 4000000 in
theorem c_X1_beginCounting (l : Launch) (D : va_G) (cy : Nat → ClassId) (ad : Nat → Nat) (σ : TS) (sz : Nat) {q : Nat} (hq : q < 12) : MTv l D cy ad yX1_beginCounting cX1_beginCounting 1 (rmd 0) [.ref (ad (13 + q))] σ sz (fun u => u = T_eCount σ q) := by
  refine Met.ofW (cc := cX1_beginCounting) (maxL := 1) (ret := none) (by decide) rfl ?_
  intro p ev s m args below meth c s₁ B hml hv
  obtain ⟨rfl, hw⟩ := hv
  have hx := B.exec
  have hb := B.bytes
  have hr := B.returns
  have hlk := B.notSynchronized
  have hU : ∀ w ∈ UW, w.before _ s = true := fun w hw => atoms_spec (ws := Cond.code yX1_beginCounting cX1_beginCounting 1 none :: UW) B.pre w (List.mem_cons_of_mem _ hw)
  have hown : s.vm.findClass RX1 = some m.cls := findClass_of_methodNamed B.named
  have hR : 0 ≤ (headSpec (Cond.code yX1_beginCounting cX1_beginCounting 1 none :: UW) (rmd 0)).room.frames ∧ 32 * 0 ≤ (headSpec (Cond.code yX1_beginCounting cX1_beginCounting 1 none :: UW) (rmd 0)).room.locals := ⟨Nat.le_refl _, Nat.le_refl _⟩
  have hcs : 0 ≤ (headSpec (Cond.code yX1_beginCounting cX1_beginCounting 1 none :: UW) (rmd 0)).room.cells ∧ 0 ≤ (headSpec (Cond.code yX1_beginCounting cX1_beginCounting 1 none :: UW) (rmd 0)).room.slots := ⟨Nat.zero_le _, Nat.zero_le _⟩
  have h := WX.start hw
  clear hw
  generalize va_A (wv _ _ _) _ = A at h ⊢
  have hl := lv_entry ([.ref (ad (13 + q))]) (n := 1) (Nat.le_of_ble_eq_true rfl)
  rw [lg_entry_eq]
  generalize (lg_sl ([.ref (ad (13 + q))]) ++ List.replicate (1 - (lg_sl ([.ref (ad (13 + q))])).length) Slot.unset).toArray = ls at hl ⊢
  have hl : lv_has ls 1 [(0, .ref (ad (13 + q)))] := hl
  refine lv_aload_n hx hb dX1_beginCounting_0 rfl (lv_at hl 0 rfl) ?_
  refine lv_aload_n hx hb dX1_beginCounting_1 rfl (lv_at hl 0 rfl) ?_
  refine t_gE hx hb hU hown h hq 4 (by decide) ufX1_19 (v := .int (nI (σ.1 14 q))) rfl dX1_beginCounting_2 ?_
  refine t_pE hx hb hU hown h hq 5 (by decide) ufX1_25 dX1_beginCounting_5 (fun H locs h => ?_)
  have h : XT D cy ad s A H locs (sN σ 15 q (σ.1 14 q)) := h
  refine lv_aload_n hx hb dX1_beginCounting_8 rfl (lv_at hl 0 rfl) ?_
  refine lv_aload_n hx hb dX1_beginCounting_9 rfl (lv_at hl 0 rfl) ?_
  refine t_gE hx hb hU hown h hq 4 (by decide) ufX1_19 (v := .int (nI (σ.1 14 q))) (by first | rfl | (simp [fM, fA, fE, fK, sN, sI, up2]; done)) dX1_beginCounting_10 ?_
  refine t_pE hx hb hU hown h hq 6 (by decide) ufX1_28 dX1_beginCounting_13 (fun H locs h => ?_)
  have h : XT D cy ad s A H locs (sN (sN σ 15 q (σ.1 14 q)) 16 q (σ.1 14 q)) := h
  exact W.vret hx hb hr (fun t ht hW => ⟨⟨_, rfl, rfl, h.at ht hW⟩, h.2.2.2.2.F ht⟩) h.2.2.2.2.2.2 dX1_beginCounting_16
def T_eLy (σ : TS) (q n : Nat) : Nat := (if σ.1 11 q = n then σ.1 15 q - σ.1 13 q else σ.1 15 q) + (if σ.1 10 q = n then σ.1 12 q else 0)
def T_eFire (σ : TS) (q n : Nat) : TS := sN (sN σ 15 q (T_eLy σ q n)) 16 q (max (σ.1 16 q) (T_eLy σ q n))
set_option maxRecDepth 100000 in
set_option maxHeartbeats 4000000 in
theorem c_X1_countFiring (l : Launch) (D : va_G) (cy : Nat → ClassId) (ad : Nat → Nat) (σ : TS) (sz : Nat) {q n : Nat} (hq : q < 12) (hn : n < 2 ^ 20) (h1 : σ.1 10 q < 2 ^ 20 ∧ σ.1 11 q < 2 ^ 20 ∧ σ.1 12 q < 2 ^ 20 ∧ σ.1 13 q < 2 ^ 20 ∧ σ.1 15 q < 2 ^ 20 ∧ σ.1 16 q < 2 ^ 20) (h2 : σ.1 11 q = n → σ.1 13 q ≤ σ.1 15 q) : MTv l D cy ad yX1_countFiring cX1_countFiring 2 (rmd 1) [.ref (ad (13 + q)), .int (nI n)] σ sz (fun u => u = T_eFire σ q n) := by
  refine Met.ofW (cc := cX1_countFiring) (maxL := 2) (ret := none) (by decide) rfl ?_
  intro p ev s m args below meth c s₁ B hml hv
  obtain ⟨rfl, hw⟩ := hv
  have hx := B.exec
  have hb := B.bytes
  have hr := B.returns
  have hlk := B.notSynchronized
  have hU : ∀ w ∈ UW, w.before _ s = true := fun w hw => atoms_spec (ws := Cond.code yX1_countFiring cX1_countFiring 2 none :: UW) B.pre w (List.mem_cons_of_mem _ hw)
  have hown : s.vm.findClass RX1 = some m.cls := findClass_of_methodNamed B.named
  have hR : 1 ≤ (headSpec (Cond.code yX1_countFiring cX1_countFiring 2 none :: UW) (rmd 1)).room.frames ∧ 32 * 1 ≤ (headSpec (Cond.code yX1_countFiring cX1_countFiring 2 none :: UW) (rmd 1)).room.locals := ⟨Nat.le_refl _, Nat.le_refl _⟩
  have hcs : 0 ≤ (headSpec (Cond.code yX1_countFiring cX1_countFiring 2 none :: UW) (rmd 1)).room.cells ∧ 0 ≤ (headSpec (Cond.code yX1_countFiring cX1_countFiring 2 none :: UW) (rmd 1)).room.slots := ⟨Nat.zero_le _, Nat.zero_le _⟩
  have h := WX.start hw
  clear hw
  generalize va_A (wv _ _ _) _ = A at h ⊢
  have hl := lv_entry ([.ref (ad (13 + q)), .int (nI n)]) (n := 2) (Nat.le_of_ble_eq_true rfl)
  rw [lg_entry_eq]
  generalize (lg_sl ([.ref (ad (13 + q)), .int (nI n)]) ++ List.replicate (2 - (lg_sl ([.ref (ad (13 + q)), .int (nI n)])).length) Slot.unset).toArray = ls at hl ⊢
  have hl : lv_has ls 2 [(0, .ref (ad (13 + q))), (1, .int (nI n))] := hl
  refine lv_aload_n hx hb dX1_countFiring_0 rfl (lv_at hl 0 rfl) ?_
  refine t_gE hx hb hU hown h hq 1 (by decide) ufX1_31 (v := .int (nI (σ.1 11 q))) rfl dX1_countFiring_1 ?_
  refine lv_iload_n hx hb dX1_countFiring_4 rfl (lv_at hl 1 rfl) ?_
  refine n_icmp_ne (tgt := 21) hx hb (by omega) (by omega) dX1_countFiring_5 (by decide) (fun c_5 => ?_) (fun c_5 => ?_)
  · refine lv_aload_n hx hb dX1_countFiring_21 rfl (lv_at hl 0 rfl) ?_
    refine t_gE hx hb hU hown h hq 0 (by decide) ufX1_37 (v := .int (nI (σ.1 10 q))) rfl dX1_countFiring_22 ?_
    refine lv_iload_n hx hb dX1_countFiring_25 rfl (lv_at hl 1 rfl) ?_
    refine n_icmp_ne (tgt := 42) hx hb (by omega) (by omega) dX1_countFiring_26 (by decide) (fun c_26 => ?_) (fun c_26 => ?_)
    · refine lv_aload_n hx hb dX1_countFiring_42 rfl (lv_at hl 0 rfl) ?_
      refine lv_aload_n hx hb dX1_countFiring_43 rfl (lv_at hl 0 rfl) ?_
      refine t_gE hx hb hU hown h hq 6 (by decide) ufX1_28 (v := .int (nI (σ.1 16 q))) rfl dX1_countFiring_44 ?_
      refine lv_aload_n hx hb dX1_countFiring_47 rfl (lv_at hl 0 rfl) ?_
      refine t_gE hx hb hU hown h hq 5 (by decide) ufX1_25 (v := .int (nI (σ.1 15 q))) rfl dX1_countFiring_48 ?_
      refine n_mmax hx hb hml hl.1 hU hown umX1_43 (by omega) (le_trans9 (Nat.le_of_ble_eq_true rfl) hR.2) hcs.1 hcs.2 (by omega) (by omega) dX1_countFiring_51 ?_
      refine t_pE hx hb hU hown h hq 6 (by decide) ufX1_28 dX1_countFiring_54 (fun H locs h => ?_)
      have h : XT D cy ad s A H locs (sN σ 16 q (max (σ.1 16 q) (σ.1 15 q))) := h
      exact W.vret hx hb hr (fun t ht hW => ⟨⟨_, rfl, (by simp only [T_eFire, T_eLy, sN]; simp [c_5, c_26, up2_up2, up2_self]), h.at ht hW⟩, h.2.2.2.2.F ht⟩) h.2.2.2.2.2.2 dX1_countFiring_57
    · refine lv_aload_n hx hb dX1_countFiring_29 rfl (lv_at hl 0 rfl) ?_
      refine lv_dup hx hb dX1_countFiring_30 rfl ?_
      refine t_gE hx hb hU hown h hq 5 (by decide) ufX1_25 (v := .int (nI (σ.1 15 q))) rfl dX1_countFiring_31 ?_
      refine lv_aload_n hx hb dX1_countFiring_34 rfl (lv_at hl 0 rfl) ?_
      refine t_gE hx hb hU hown h hq 2 (by decide) ufX1_40 (v := .int (nI (σ.1 12 q))) rfl dX1_countFiring_35 ?_
      refine n_iadd hx hb dX1_countFiring_38 ?_
      refine t_pE hx hb hU hown h hq 5 (by decide) ufX1_25 dX1_countFiring_39 (fun H locs h => ?_)
      have h : XT D cy ad s A H locs (sN σ 15 q ((σ.1 15 q) + (σ.1 12 q))) := h
      refine lv_aload_n hx hb dX1_countFiring_42 rfl (lv_at hl 0 rfl) ?_
      refine lv_aload_n hx hb dX1_countFiring_43 rfl (lv_at hl 0 rfl) ?_
      refine t_gE hx hb hU hown h hq 6 (by decide) ufX1_28 (v := .int (nI (σ.1 16 q))) (by first | rfl | (simp [fM, fA, fE, fK, sN, sI, up2]; done)) dX1_countFiring_44 ?_
      refine lv_aload_n hx hb dX1_countFiring_47 rfl (lv_at hl 0 rfl) ?_
      refine t_gE hx hb hU hown h hq 5 (by decide) ufX1_25 (v := .int (nI ((σ.1 15 q) + (σ.1 12 q)))) (by first | rfl | (simp [fM, fA, fE, fK, sN, sI, up2]; done)) dX1_countFiring_48 ?_
      refine n_mmax hx hb hml hl.1 hU hown umX1_43 (by omega) (le_trans9 (Nat.le_of_ble_eq_true rfl) hR.2) hcs.1 hcs.2 (by omega) (by omega) dX1_countFiring_51 ?_
      refine t_pE hx hb hU hown h hq 6 (by decide) ufX1_28 dX1_countFiring_54 (fun H locs h => ?_)
      have h : XT D cy ad s A H locs (sN (sN σ 15 q ((σ.1 15 q) + (σ.1 12 q))) 16 q (max (σ.1 16 q) ((σ.1 15 q) + (σ.1 12 q)))) := h
      exact W.vret hx hb hr (fun t ht hW => ⟨⟨_, rfl, (by simp only [T_eFire, T_eLy, sN]; simp [c_5, c_26, up2_up2, up2_self]), h.at ht hW⟩, h.2.2.2.2.F ht⟩) h.2.2.2.2.2.2 dX1_countFiring_57
  · refine lv_aload_n hx hb dX1_countFiring_8 rfl (lv_at hl 0 rfl) ?_
    refine lv_dup hx hb dX1_countFiring_9 rfl ?_
    refine t_gE hx hb hU hown h hq 5 (by decide) ufX1_25 (v := .int (nI (σ.1 15 q))) rfl dX1_countFiring_10 ?_
    refine lv_aload_n hx hb dX1_countFiring_13 rfl (lv_at hl 0 rfl) ?_
    refine t_gE hx hb hU hown h hq 3 (by decide) ufX1_34 (v := .int (nI (σ.1 13 q))) rfl dX1_countFiring_14 ?_
    refine n_isub hx hb (h2 c_5) dX1_countFiring_17 ?_
    refine t_pE hx hb hU hown h hq 5 (by decide) ufX1_25 dX1_countFiring_18 (fun H locs h => ?_)
    have h : XT D cy ad s A H locs (sN σ 15 q ((σ.1 15 q) - (σ.1 13 q))) := h
    refine lv_aload_n hx hb dX1_countFiring_21 rfl (lv_at hl 0 rfl) ?_
    refine t_gE hx hb hU hown h hq 0 (by decide) ufX1_37 (v := .int (nI (σ.1 10 q))) (by first | rfl | (simp [fM, fA, fE, fK, sN, sI, up2]; done)) dX1_countFiring_22 ?_
    refine lv_iload_n hx hb dX1_countFiring_25 rfl (lv_at hl 1 rfl) ?_
    refine n_icmp_ne (tgt := 42) hx hb (by omega) (by omega) dX1_countFiring_26 (by decide) (fun c_26 => ?_) (fun c_26 => ?_)
    · refine lv_aload_n hx hb dX1_countFiring_42 rfl (lv_at hl 0 rfl) ?_
      refine lv_aload_n hx hb dX1_countFiring_43 rfl (lv_at hl 0 rfl) ?_
      refine t_gE hx hb hU hown h hq 6 (by decide) ufX1_28 (v := .int (nI (σ.1 16 q))) (by first | rfl | (simp [fM, fA, fE, fK, sN, sI, up2]; done)) dX1_countFiring_44 ?_
      refine lv_aload_n hx hb dX1_countFiring_47 rfl (lv_at hl 0 rfl) ?_
      refine t_gE hx hb hU hown h hq 5 (by decide) ufX1_25 (v := .int (nI ((σ.1 15 q) - (σ.1 13 q)))) (by first | rfl | (simp [fM, fA, fE, fK, sN, sI, up2]; done)) dX1_countFiring_48 ?_
      refine n_mmax hx hb hml hl.1 hU hown umX1_43 (by omega) (le_trans9 (Nat.le_of_ble_eq_true rfl) hR.2) hcs.1 hcs.2 (by omega) (by omega) dX1_countFiring_51 ?_
      refine t_pE hx hb hU hown h hq 6 (by decide) ufX1_28 dX1_countFiring_54 (fun H locs h => ?_)
      have h : XT D cy ad s A H locs (sN (sN σ 15 q ((σ.1 15 q) - (σ.1 13 q))) 16 q (max (σ.1 16 q) ((σ.1 15 q) - (σ.1 13 q)))) := h
      exact W.vret hx hb hr (fun t ht hW => ⟨⟨_, rfl, (by simp only [T_eFire, T_eLy, sN]; simp [c_5, c_26, up2_up2, up2_self]), h.at ht hW⟩, h.2.2.2.2.F ht⟩) h.2.2.2.2.2.2 dX1_countFiring_57
    · refine lv_aload_n hx hb dX1_countFiring_29 rfl (lv_at hl 0 rfl) ?_
      refine lv_dup hx hb dX1_countFiring_30 rfl ?_
      refine t_gE hx hb hU hown h hq 5 (by decide) ufX1_25 (v := .int (nI ((σ.1 15 q) - (σ.1 13 q)))) (by first | rfl | (simp [fM, fA, fE, fK, sN, sI, up2]; done)) dX1_countFiring_31 ?_
      refine lv_aload_n hx hb dX1_countFiring_34 rfl (lv_at hl 0 rfl) ?_
      refine t_gE hx hb hU hown h hq 2 (by decide) ufX1_40 (v := .int (nI (σ.1 12 q))) (by first | rfl | (simp [fM, fA, fE, fK, sN, sI, up2]; done)) dX1_countFiring_35 ?_
      refine n_iadd hx hb dX1_countFiring_38 ?_
      refine t_pE hx hb hU hown h hq 5 (by decide) ufX1_25 dX1_countFiring_39 (fun H locs h => ?_)
      have h : XT D cy ad s A H locs (sN (sN σ 15 q ((σ.1 15 q) - (σ.1 13 q))) 15 q (((σ.1 15 q) - (σ.1 13 q)) + (σ.1 12 q))) := h
      refine lv_aload_n hx hb dX1_countFiring_42 rfl (lv_at hl 0 rfl) ?_
      refine lv_aload_n hx hb dX1_countFiring_43 rfl (lv_at hl 0 rfl) ?_
      refine t_gE hx hb hU hown h hq 6 (by decide) ufX1_28 (v := .int (nI (σ.1 16 q))) (by first | rfl | (simp [fM, fA, fE, fK, sN, sI, up2]; done)) dX1_countFiring_44 ?_
      refine lv_aload_n hx hb dX1_countFiring_47 rfl (lv_at hl 0 rfl) ?_
      refine t_gE hx hb hU hown h hq 5 (by decide) ufX1_25 (v := .int (nI (((σ.1 15 q) - (σ.1 13 q)) + (σ.1 12 q)))) (by first | rfl | (simp [fM, fA, fE, fK, sN, sI, up2]; done)) dX1_countFiring_48 ?_
      refine n_mmax hx hb hml hl.1 hU hown umX1_43 (by omega) (le_trans9 (Nat.le_of_ble_eq_true rfl) hR.2) hcs.1 hcs.2 (by omega) (by omega) dX1_countFiring_51 ?_
      refine t_pE hx hb hU hown h hq 6 (by decide) ufX1_28 dX1_countFiring_54 (fun H locs h => ?_)
      have h : XT D cy ad s A H locs (sN (sN (sN σ 15 q ((σ.1 15 q) - (σ.1 13 q))) 15 q (((σ.1 15 q) - (σ.1 13 q)) + (σ.1 12 q))) 16 q (max (σ.1 16 q) (((σ.1 15 q) - (σ.1 13 q)) + (σ.1 12 q)))) := h
      exact W.vret hx hb hr (fun t ht hW => ⟨⟨_, rfl, (by simp only [T_eFire, T_eLy, sN]; simp [c_5, c_26, up2_up2, up2_self]), h.at ht hW⟩, h.2.2.2.2.F ht⟩) h.2.2.2.2.2.2 dX1_countFiring_57
