/-! ===== leaves of the class: Actor, Taken, Edge ===== -/
def T_aStart (σ : TS) (n : Nat) : TS := sI (sI σ 2 n (σ.2.1 1 n)) 3 n 0
set_option maxRecDepth 100000 in
set_option maxHeartbeats 4000000 in
theorem c_X0_bringToStart (l : Launch) (D : va_G) (cy : Nat → ClassId) (ad : Nat → Nat) (σ : TS) (sz : Nat) {n : Nat} (hn : n < 8) : MTv l D cy ad yX0_bringToStart cX0_bringToStart 1 (rmd 0) [.ref (ad (5 + n))] σ sz (fun u => u = T_aStart σ n) := by
  refine Met.ofW (cc := cX0_bringToStart) (maxL := 1) (ret := none) (by decide) rfl ?_
  intro p ev s m args below meth c s₁ B hml hv
  obtain ⟨rfl, hw⟩ := hv
  have hx := B.exec
  have hb := B.bytes
  have hr := B.returns
  have hlk := B.notSynchronized
  have hU : ∀ w ∈ UW, w.before _ s = true := fun w hw => atoms_spec (ws := Cond.code yX0_bringToStart cX0_bringToStart 1 none :: UW) B.pre w (List.mem_cons_of_mem _ hw)
  have hown : s.vm.findClass RX0 = some m.cls := findClass_of_methodNamed B.named
  have h := WX.start hw
  clear hw
  generalize va_A (wv _ _ _) _ = A at h ⊢
  have hl := lv_entry ([.ref (ad (5 + n))]) (n := 1) (Nat.le_of_ble_eq_true rfl)
  rw [lg_entry_eq]
  generalize (lg_sl ([.ref (ad (5 + n))]) ++ List.replicate (1 - (lg_sl ([.ref (ad (5 + n))])).length) Slot.unset).toArray = ls at hl ⊢
  have hl : lv_has ls 1 [(0, .ref (ad (5 + n)))] := hl
  refine lv_aload_n hx hb dX0_bringToStart_0 rfl (lv_at hl 0 rfl) ?_
  refine lv_aload_n hx hb dX0_bringToStart_1 rfl (lv_at hl 0 rfl) ?_
  refine t_gA hx hb hU hown h hn 1 (by decide) ufX0_9 (v := .int (σ.2.1 1 n)) rfl dX0_bringToStart_2 ?_
  refine t_pA hx hb hU hown h hn 2 (by decide) ufX0_15 (v := σ.2.1 1 n) dX0_bringToStart_5 (fun H locs h => ?_)
  refine lv_aload_n hx hb dX0_bringToStart_8 rfl (lv_at hl 0 rfl) ?_
  refine lv_iconst (v := nI 0) hx hb dX0_bringToStart_9 (by decide +kernel) ?_
  refine t_pA hx hb hU hown h hn 3 (by decide) ufX0_18 (v := nI 0) dX0_bringToStart_10 (fun H locs h => ?_)
  exact W.vret hx hb hr (fun t ht hW => ⟨⟨_, rfl, rfl, h.at ht hW⟩, h.2.2.2.2.F ht⟩) h.2.2.2.2.2.2 dX0_bringToStart_13
def T_forget (σ : TS) : TS := sI (sI (sI (sN σ 30 0 0) 31 0 0) 32 0 0) 33 0 0
set_option maxRecDepth 100000 in
set_option maxHeartbeats 4000000 in
theorem c_X2_forget (l : Launch) (D : va_G) (cy : Nat → ClassId) (ad : Nat → Nat) (σ : TS) (sz : Nat)  : MTv l D cy ad yX2_forget cX2_forget 1 (rmd 0) [.ref (ad 4)] σ sz (fun u => u = T_forget σ) := by
  refine Met.ofW (cc := cX2_forget) (maxL := 1) (ret := none) (by decide) rfl ?_
  intro p ev s m args below meth c s₁ B hml hv
  obtain ⟨rfl, hw⟩ := hv
  have hx := B.exec
  have hb := B.bytes
  have hr := B.returns
  have hlk := B.notSynchronized
  have hU : ∀ w ∈ UW, w.before _ s = true := fun w hw => atoms_spec (ws := Cond.code yX2_forget cX2_forget 1 none :: UW) B.pre w (List.mem_cons_of_mem _ hw)
  have hown : s.vm.findClass RX2 = some m.cls := findClass_of_methodNamed B.named
  have h := WX.start hw
  clear hw
  generalize va_A (wv _ _ _) _ = A at h ⊢
  have hl := lv_entry ([.ref (ad 4)]) (n := 1) (Nat.le_of_ble_eq_true rfl)
  rw [lg_entry_eq]
  generalize (lg_sl ([.ref (ad 4)]) ++ List.replicate (1 - (lg_sl ([.ref (ad 4)])).length) Slot.unset).toArray = ls at hl ⊢
  have hl : lv_has ls 1 [(0, .ref (ad 4))] := hl
  refine lv_aload_n hx hb dX2_forget_0 rfl (lv_at hl 0 rfl) ?_
  refine lv_iconst (v := nI 0) hx hb dX2_forget_1 (by decide +kernel) ?_
  refine t_pK0 hx hb hU hown h ufX2_7 dX2_forget_2 (fun H locs h => ?_)
  refine lv_aload_n hx hb dX2_forget_5 rfl (lv_at hl 0 rfl) ?_
  refine lv_iconst (v := nI 0) hx hb dX2_forget_6 (by decide +kernel) ?_
  refine t_pK hx hb hU hown h 1 (by decide) ufX2_13 (v := nI 0) dX2_forget_7 (fun H locs h => ?_)
  refine lv_aload_n hx hb dX2_forget_10 rfl (lv_at hl 0 rfl) ?_
  refine lv_iconst (v := nI 0) hx hb dX2_forget_11 (by decide +kernel) ?_
  refine t_pK hx hb hU hown h 2 (by decide) ufX2_16 (v := nI 0) dX2_forget_12 (fun H locs h => ?_)
  refine lv_aload_n hx hb dX2_forget_15 rfl (lv_at hl 0 rfl) ?_
  refine lv_iconst (v := nI 0) hx hb dX2_forget_16 (by decide +kernel) ?_
  refine t_pK hx hb hU hown h 3 (by decide) ufX2_19 (v := nI 0) dX2_forget_17 (fun H locs h => ?_)
  exact W.vret hx hb hr (fun t ht hW => ⟨⟨_, rfl, rfl, h.at ht hW⟩, h.2.2.2.2.F ht⟩) h.2.2.2.2.2.2 dX2_forget_20
def T_place (σ : TS) (e k : Nat) : Nat := if σ.1 18 e + k < σ.1 17 e then σ.1 18 e + k else σ.1 18 e + k - σ.1 17 e
set_option maxRecDepth 100000 in
set_option maxHeartbeats 4000000 in
theorem c_X1_place (l : Launch) (D : va_G) (cy : Nat → ClassId) (ad : Nat → Nat) (σ : TS) (sz : Nat) {q k : Nat} (hq : q < 12) (h1 : σ.1 18 q < 2 ^ 20) (h2 : k < 2 ^ 20) (h3 : σ.1 17 q < 2 ^ 20) : MTi l D cy ad yX1_place cX1_place 3 .int (rmd 0) [.ref (ad (13 + q)), .int (nI k)] σ sz (fun r u => r = nI (T_place σ q k) ∧ u = σ) := by
  refine Met.ofW (cc := cX1_place) (maxL := 3) (ret := (some .int)) (by decide) rfl ?_
  intro p ev s m args below meth c s₁ B hml hv
  obtain ⟨rfl, hw⟩ := hv
  have hx := B.exec
  have hb := B.bytes
  have hr := B.returns
  have hlk := B.notSynchronized
  have hU : ∀ w ∈ UW, w.before _ s = true := fun w hw => atoms_spec (ws := Cond.code yX1_place cX1_place 3 (some .int) :: UW) B.pre w (List.mem_cons_of_mem _ hw)
  have hown : s.vm.findClass RX1 = some m.cls := findClass_of_methodNamed B.named
  have h := WX.start hw
  clear hw
  generalize va_A (wv _ _ _) _ = A at h ⊢
  have hl := lv_entry ([.ref (ad (13 + q)), .int (nI k)]) (n := 3) (Nat.le_of_ble_eq_true rfl)
  rw [lg_entry_eq]
  generalize (lg_sl ([.ref (ad (13 + q)), .int (nI k)]) ++ List.replicate (3 - (lg_sl ([.ref (ad (13 + q)), .int (nI k)])).length) Slot.unset).toArray = ls at hl ⊢
  have hl : lv_has ls 3 [(0, .ref (ad (13 + q))), (1, .int (nI k))] := hl
  refine lv_aload_n hx hb dX1_place_0 rfl (lv_at hl 0 rfl) ?_
  refine t_gE hx hb hU hown h hq 8 (by decide) ufX1_15 (v := .int (nI (σ.1 18 q))) rfl dX1_place_1 ?_
  refine lv_iload_n hx hb dX1_place_4 rfl (lv_at hl 1 rfl) ?_
  refine n_iadd hx hb dX1_place_5 ?_
  refine lv_istore_n (lv' := [(2, .int (nI ((σ.1 18 q) + k))), (0, .ref (ad (13 + q))), (1, .int (nI k))]) hx hb dX1_place_6 rfl hl (by decide) rfl (fun ls hl => ?_)
  refine lv_iload_n hx hb dX1_place_7 rfl (lv_at hl 0 rfl) ?_
  refine lv_aload_n hx hb dX1_place_8 rfl (lv_at hl 1 rfl) ?_
  refine t_gE hx hb hU hown h hq 7 (by decide) ufX1_9 (v := .ref (σ.2.2 q)) rfl dX1_place_9 ?_
  refine t_lR hx hb h hq dX1_place_12 ?_
  refine n_icmp_ge (tgt := 20) hx hb (by omega) (by omega) dX1_place_13 (by decide) (fun c_13 => ?_) (fun c_13 => ?_)
  · refine lv_iload_n hx hb dX1_place_20 rfl (lv_at hl 0 rfl) ?_
    refine lv_aload_n hx hb dX1_place_21 rfl (lv_at hl 1 rfl) ?_
    refine t_gE hx hb hU hown h hq 7 (by decide) ufX1_9 (v := .ref (σ.2.2 q)) rfl dX1_place_22 ?_
    refine t_lR hx hb h hq dX1_place_25 ?_
    refine n_isub hx hb (by omega) dX1_place_26 ?_
    exact W.iret (v := nI (((σ.1 18 q) + k) - (σ.1 17 q))) hx hb hr (fun t ht hW => ⟨⟨_, _, rfl, ⟨by simp only [T_place]; first | rw [if_pos (by omega)] | rw [if_neg (by omega)], rfl⟩, h.at ht hW⟩, h.2.2.2.2.F ht⟩) h.2.2.2.2.2.2 dX1_place_27
  · refine lv_iload_n hx hb dX1_place_16 rfl (lv_at hl 0 rfl) ?_
    refine lv_goto (tgt := 27) hx hb dX1_place_17 (by decide) ?_
    exact W.iret (v := nI ((σ.1 18 q) + k)) hx hb hr (fun t ht hW => ⟨⟨_, _, rfl, ⟨by simp only [T_place]; first | rw [if_pos (by omega)] | rw [if_neg (by omega)], rfl⟩, h.at ht hW⟩, h.2.2.2.2.F ht⟩) h.2.2.2.2.2.2 dX1_place_27
