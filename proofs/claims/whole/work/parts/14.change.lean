/-! ===== TokenFlow: actor, edge, delay ===== -/
def TWF (σ : TS) : Prop := σ.1 20 0 ≤ 8 ∧ σ.1 21 0 ≤ 12 ∧ σ.1 22 0 ≤ 200 ∧ (∀ q, q < 12 → 9 ≤ σ.1 17 q ∧ σ.1 17 q < 2 ^ 20) ∧ ∀ q, q < σ.1 21 0 → σ.1 14 q ≤ 9
theorem TWF.startC {σ : TS} (h : TWF σ) : T_startC σ := ⟨h.1, h.2.1, fun q hq => by
  have a := h.2.2.2.1 q (by have := h.2.1; omega)
  have b := h.2.2.2.2 q hq
  omega⟩
def T_actor (σ : TS) (x y : Int32) : Int32 × TS :=
  if wi x 0 5 = false then (-1, σ) else
  if 8 ≤ σ.1 20 0 then (-2, σ) else
  (nI (σ.1 20 0), T_change (sN (sI (sI σ 0 (σ.1 20 0) x) 1 (σ.1 20 0) y) 20 0 (σ.1 20 0 + 1)))
def T_edge (σ : TS) (x1 x2 x3 x4 x5 : Int32) : Int32 × TS :=
  if (inR x1 (σ.1 20 0) && inR x2 (σ.1 20 0)) = false then (-1, σ) else
  if (wi x3 1 9 && (wi x4 1 9 && wi x5 0 9)) = false then (-2, σ) else
  if 12 ≤ σ.1 21 0 then (-3, σ) else
  (nI (σ.1 21 0), T_change (sN (sN (sN (sN (sN (sN σ 10 (σ.1 21 0) (tn x1)) 11 (σ.1 21 0) (tn x2)) 12 (σ.1 21 0) (tn x3)) 13 (σ.1 21 0) (tn x4)) 14 (σ.1 21 0) (tn x5)) 21 0 (σ.1 21 0 + 1)))
def T_delay (σ : TS) (x y : Int32) : Int32 × TS :=
  if (inR x (σ.1 21 0) && wi y 0 9) = false then (nI 0, σ) else (nI 1, T_change (sN σ 14 (tn x) (tn y)))
theorem wi_nI {j a b : Nat} (h1 : a ≤ j) (h2 : j ≤ b) (hb : b < 2 ^ 31) : wi (nI j) a b = true := by
  unfold wi
  rw [Bool.and_eq_true]
  exact ⟨decide_eq_true (nI_le h1 (by omega)), decide_eq_true (nI_le h2 hb)⟩
set_option maxRecDepth 100000 in
set_option maxHeartbeats 4000000 in
theorem c_X3_actor (l : Launch) (D : va_G) (cy : Nat → ClassId) (ad : Nat → Nat) (σ : TS) (sz : Nat) {x y : Int32} (hw : TWF σ) : MTi l D cy ad yX3_actor cX3_actor 4 .int (rmd 3) [.ref (ad 0), .int x, .int y] σ sz (fun r u => r = (T_actor σ x y).1 ∧ u = (T_actor σ x y).2) := by
  refine Met.ofW (cc := cX3_actor) (maxL := 4) (ret := (some .int)) (by decide) rfl ?_
  intro p ev s m args below meth c s₁ B hml hv
  obtain ⟨rfl, hw⟩ := hv
  have hx := B.exec
  have hb := B.bytes
  have hr := B.returns
  have hlk := B.notSynchronized
  have hU : ∀ w ∈ UW, w.before _ s = true := fun w hw => atoms_spec (ws := Cond.code yX3_actor cX3_actor 4 (some .int) :: UW) B.pre w (List.mem_cons_of_mem _ hw)
  have hown : s.vm.findClass RX3 = some m.cls := findClass_of_methodNamed B.named
  have hR : 3 ≤ (headSpec (Cond.code yX3_actor cX3_actor 4 (some .int) :: UW) (rmd 3)).room.frames ∧ 32 * 3 ≤ (headSpec (Cond.code yX3_actor cX3_actor 4 (some .int) :: UW) (rmd 3)).room.locals := ⟨Nat.le_refl _, Nat.le_refl _⟩
  have hcs : 0 ≤ (headSpec (Cond.code yX3_actor cX3_actor 4 (some .int) :: UW) (rmd 3)).room.cells ∧ 0 ≤ (headSpec (Cond.code yX3_actor cX3_actor 4 (some .int) :: UW) (rmd 3)).room.slots := ⟨Nat.zero_le _, Nat.zero_le _⟩
  have h := WX.start hw
  clear hw
  generalize va_A (wv _ _ _) _ = A at h ⊢
  have hl := lv_entry ([.ref (ad 0), .int x, .int y]) (n := 4) (Nat.le_of_ble_eq_true rfl)
  rw [lg_entry_eq]
  generalize (lg_sl ([.ref (ad 0), .int x, .int y]) ++ List.replicate (4 - (lg_sl ([.ref (ad 0), .int x, .int y])).length) Slot.unset).toArray = ls at hl ⊢
  have hl : lv_has ls 4 [(0, .ref (ad 0)), (1, .int x), (2, .int y)] := hl
  have h8 := hw.1
  have hs := hw.startC
  refine lv_iload_n hx hb dX3_actor_0 rfl (lv_at hl 1 rfl) ?_
  refine lv_if_lt (tgt := 9) hx hb dX3_actor_1 (by decide) (fun c_1 => ?_) (fun c_1 => ?_)
  · refine lv_iconst (v := (-1)) hx hb dX3_actor_9 (by decide +kernel) ?_
    exact W.iret (v := (-1)) hx hb hr (fun t ht hW => ⟨⟨_, _, rfl, (by first | (simp only [T_actor]; rw [if_pos (wi_lo (a := 0) c_1)]; exact ⟨rfl, rfl⟩) | (simp only [T_actor]; rw [if_pos (wi_hi (b := 5) (Int32.not_le.mp c_6))]; exact ⟨rfl, rfl⟩) | (simp only [T_actor]; rw [if_neg (by rw [wi_ok (a := 0) (b := 5) c_1 (Int32.not_lt.mpr c_6)]; decide), if_pos (by omega)]; exact ⟨rfl, rfl⟩) | (simp only [T_actor]; rw [if_neg (by rw [wi_ok (a := 0) (b := 5) c_1 (Int32.not_lt.mpr c_6)]; decide), if_neg (by omega)]; exact ⟨rfl, rfl⟩)), h.at ht hW⟩, h.2.2.2.2.F ht⟩) h.2.2.2.2.2.2 dX3_actor_10
  · refine lv_iload_n hx hb dX3_actor_4 rfl (lv_at hl 1 rfl) ?_
    refine lv_iconst (v := nI 5) hx hb dX3_actor_5 (by decide +kernel) ?_
    refine lv_icmp_le (tgt := 11) hx hb dX3_actor_6 (by decide) (fun c_6 => ?_) (fun c_6 => ?_)
    · refine lv_aload_n hx hb dX3_actor_11 rfl (lv_at hl 0 rfl) ?_
      refine t_gM hx hb hU hown h 4 (by decide) ufX3_34 (v := .int (nI (σ.1 20 0))) rfl dX3_actor_12 ?_
      refine lv_bipush (v := nI 8) hx hb dX3_actor_15 (by decide +kernel) ?_
      refine n_icmp_lt (tgt := 23) hx hb (by omega) (by omega) dX3_actor_17 (by decide) (fun c_17 => ?_) (fun c_17 => ?_)
      · refine lv_aload_n hx hb dX3_actor_23 rfl (lv_at hl 0 rfl) ?_
        refine t_gM hx hb hU hown h 4 (by decide) ufX3_34 (v := .int (nI (σ.1 20 0))) rfl dX3_actor_24 ?_
        refine lv_istore_n (lv' := [(3, .int (nI (σ.1 20 0))), (0, .ref (ad 0)), (1, .int x), (2, .int y)]) hx hb dX3_actor_27 rfl hl (by decide) rfl (fun ls hl => ?_)
        refine lv_aload_n hx hb dX3_actor_28 rfl (lv_at hl 1 rfl) ?_
        refine t_gM hx hb hU hown h 0 (by decide) ufX3_11 (v := .ref (ad 1)) rfl dX3_actor_29 ?_
        refine lv_iload_n hx hb dX3_actor_32 rfl (lv_at hl 0 rfl) ?_
        refine t_aA hx hb h (by omega) dX3_actor_33 ?_
        refine lv_iload_n hx hb dX3_actor_34 rfl (lv_at hl 2 rfl) ?_
        refine t_pA hx hb hU hown h (by omega) 0 (by decide) ufX3_38 (v := x) dX3_actor_35 (fun H locs h => ?_)
        refine lv_aload_n hx hb dX3_actor_38 rfl (lv_at hl 1 rfl) ?_
        refine t_gM hx hb hU hown h 0 (by decide) ufX3_11 (v := .ref (ad 1)) (by first | rfl | (simp [fM, fA, fE, fK, sN, sI, up2]; done)) dX3_actor_39 ?_
        refine lv_iload_n hx hb dX3_actor_42 rfl (lv_at hl 0 rfl) ?_
        refine t_aA hx hb h (by omega) dX3_actor_43 ?_
        refine lv_iload_n hx hb dX3_actor_44 rfl (lv_at hl 3 rfl) ?_
        refine t_pA hx hb hU hown h (by omega) 1 (by decide) ufX3_41 (v := y) dX3_actor_45 (fun H locs h => ?_)
        refine lv_aload_n hx hb dX3_actor_48 rfl (lv_at hl 1 rfl) ?_
        refine lv_dup hx hb dX3_actor_49 rfl ?_
        refine t_gM hx hb hU hown h 4 (by decide) ufX3_34 (v := .int (nI (σ.1 20 0))) (by first | rfl | (simp [fM, fA, fE, fK, sN, sI, up2]; done)) dX3_actor_50 ?_
        refine lv_iconst (v := nI 1) hx hb dX3_actor_53 (by decide +kernel) ?_
        refine n_iadd hx hb dX3_actor_54 ?_
        refine t_pM hx hb hU hown h 4 (by decide) ufX3_34 dX3_actor_55 (fun H locs h => ?_)
        have h : XT D cy ad s A H locs (sN (sI (sI σ 0 (σ.1 20 0) x) 1 (σ.1 20 0) y) 20 0 ((σ.1 20 0) + 1)) := h
        refine lv_aload_n hx hb dX3_actor_58 rfl (lv_at hl 1 rfl) ?_
        refine y_callv hx hb hml hU hown hR hcs h (c_X3_noteChange l D cy ad (sN (sI (sI σ 0 (σ.1 20 0) x) 1 (σ.1 20 0) y) 20 0 ((σ.1 20 0) + 1)) _ (by obtain ⟨a1, a2, a3⟩ := hs; refine ⟨?_, ?_, ?_⟩ <;> simp [sN, sI, up2] <;> first | omega | exact a3)) umX3_44 ui_X3_noteChange us_X3_noteChange unX3 uc_X3_noteChange hd_X3_noteChange (by decide) (by decide) (t_recvM h) hl.1 rfl (Nat.le_of_ble_eq_true rfl) dX3_actor_59 (fun u H locs hw h => ?_)
        have hu := hw
        have h : XT D cy ad s A H locs (T_change (sN (sI (sI σ 0 (σ.1 20 0) x) 1 (σ.1 20 0) y) 20 0 ((σ.1 20 0) + 1))) := by rw [← hu]; exact h
        clear hu
        refine lv_iload_n hx hb dX3_actor_62 rfl (lv_at hl 0 rfl) ?_
        exact W.iret (v := nI (σ.1 20 0)) hx hb hr (fun t ht hW => ⟨⟨_, _, rfl, (by first | (simp only [T_actor]; rw [if_pos (wi_lo (a := 0) c_1)]; exact ⟨rfl, rfl⟩) | (simp only [T_actor]; rw [if_pos (wi_hi (b := 5) (Int32.not_le.mp c_6))]; exact ⟨rfl, rfl⟩) | (simp only [T_actor]; rw [if_neg (by rw [wi_ok (a := 0) (b := 5) c_1 (Int32.not_lt.mpr c_6)]; decide), if_pos (by omega)]; exact ⟨rfl, rfl⟩) | (simp only [T_actor]; rw [if_neg (by rw [wi_ok (a := 0) (b := 5) c_1 (Int32.not_lt.mpr c_6)]; decide), if_neg (by omega)]; exact ⟨rfl, rfl⟩)), h.at ht hW⟩, h.2.2.2.2.F ht⟩) h.2.2.2.2.2.2 dX3_actor_63
      · refine lv_bipush (v := (-2)) hx hb dX3_actor_20 (by decide +kernel) ?_
        exact W.iret (v := (-2)) hx hb hr (fun t ht hW => ⟨⟨_, _, rfl, (by first | (simp only [T_actor]; rw [if_pos (wi_lo (a := 0) c_1)]; exact ⟨rfl, rfl⟩) | (simp only [T_actor]; rw [if_pos (wi_hi (b := 5) (Int32.not_le.mp c_6))]; exact ⟨rfl, rfl⟩) | (simp only [T_actor]; rw [if_neg (by rw [wi_ok (a := 0) (b := 5) c_1 (Int32.not_lt.mpr c_6)]; decide), if_pos (by omega)]; exact ⟨rfl, rfl⟩) | (simp only [T_actor]; rw [if_neg (by rw [wi_ok (a := 0) (b := 5) c_1 (Int32.not_lt.mpr c_6)]; decide), if_neg (by omega)]; exact ⟨rfl, rfl⟩)), h.at ht hW⟩, h.2.2.2.2.F ht⟩) h.2.2.2.2.2.2 dX3_actor_22
    · refine lv_iconst (v := (-1)) hx hb dX3_actor_9 (by decide +kernel) ?_
      exact W.iret (v := (-1)) hx hb hr (fun t ht hW => ⟨⟨_, _, rfl, (by first | (simp only [T_actor]; rw [if_pos (wi_lo (a := 0) c_1)]; exact ⟨rfl, rfl⟩) | (simp only [T_actor]; rw [if_pos (wi_hi (b := 5) (Int32.not_le.mp c_6))]; exact ⟨rfl, rfl⟩) | (simp only [T_actor]; rw [if_neg (by rw [wi_ok (a := 0) (b := 5) c_1 (Int32.not_lt.mpr c_6)]; decide), if_pos (by omega)]; exact ⟨rfl, rfl⟩) | (simp only [T_actor]; rw [if_neg (by rw [wi_ok (a := 0) (b := 5) c_1 (Int32.not_lt.mpr c_6)]; decide), if_neg (by omega)]; exact ⟨rfl, rfl⟩)), h.at ht hW⟩, h.2.2.2.2.F ht⟩) h.2.2.2.2.2.2 dX3_actor_10
set_option maxRecDepth 100000 in
set_option maxHeartbeats 4000000 in
theorem c_X3_delay (l : Launch) (D : va_G) (cy : Nat → ClassId) (ad : Nat → Nat) (σ : TS) (sz : Nat) {x y : Int32} (hw : TWF σ) : MTi l D cy ad yX3_delay cX3_delay 3 .boolean (rmd 3) [.ref (ad 0), .int x, .int y] σ sz (fun r u => r = (T_delay σ x y).1 ∧ u = (T_delay σ x y).2) := by
  refine Met.ofW (cc := cX3_delay) (maxL := 3) (ret := (some .boolean)) (by decide) rfl ?_
  intro p ev s m args below meth c s₁ B hml hv
  obtain ⟨rfl, hw⟩ := hv
  have hx := B.exec
  have hb := B.bytes
  have hr := B.returns
  have hlk := B.notSynchronized
  have hU : ∀ w ∈ UW, w.before _ s = true := fun w hw => atoms_spec (ws := Cond.code yX3_delay cX3_delay 3 (some .boolean) :: UW) B.pre w (List.mem_cons_of_mem _ hw)
  have hown : s.vm.findClass RX3 = some m.cls := findClass_of_methodNamed B.named
  have hR : 3 ≤ (headSpec (Cond.code yX3_delay cX3_delay 3 (some .boolean) :: UW) (rmd 3)).room.frames ∧ 32 * 3 ≤ (headSpec (Cond.code yX3_delay cX3_delay 3 (some .boolean) :: UW) (rmd 3)).room.locals := ⟨Nat.le_refl _, Nat.le_refl _⟩
  have hcs : 0 ≤ (headSpec (Cond.code yX3_delay cX3_delay 3 (some .boolean) :: UW) (rmd 3)).room.cells ∧ 0 ≤ (headSpec (Cond.code yX3_delay cX3_delay 3 (some .boolean) :: UW) (rmd 3)).room.slots := ⟨Nat.zero_le _, Nat.zero_le _⟩
  have h := WX.start hw
  clear hw
  generalize va_A (wv _ _ _) _ = A at h ⊢
  have hl := lv_entry ([.ref (ad 0), .int x, .int y]) (n := 3) (Nat.le_of_ble_eq_true rfl)
  rw [lg_entry_eq]
  generalize (lg_sl ([.ref (ad 0), .int x, .int y]) ++ List.replicate (3 - (lg_sl ([.ref (ad 0), .int x, .int y])).length) Slot.unset).toArray = ls at hl ⊢
  have hl : lv_has ls 3 [(0, .ref (ad 0)), (1, .int x), (2, .int y)] := hl
  have h8 := hw.1
  have h12 := hw.2.1
  have hs := hw.startC
  have hg := hw.2.2.2.1
  refine lv_aload_n hx hb dX3_delay_0 rfl (lv_at hl 0 rfl) ?_
  refine lv_iload_n hx hb dX3_delay_1 rfl (lv_at hl 1 rfl) ?_
  refine y_calli hx hb hml hU hown hR hcs h (c_X3_isEdge l D cy ad σ _ (x := x)) umX3_75 ui_X3_isEdge us_X3_isEdge unX3 uc_X3_isEdge hd_X3_isEdge (by decide) (by decide) (t_recvM h) hl.1 rfl (Nat.le_of_ble_eq_true rfl) dX3_delay_2 (fun r u H locs hw h => ?_)
  obtain ⟨rfl, hu⟩ := hw
  have h : XT D cy ad s A H locs σ := by rw [← hu]; exact h
  clear hu
  refine z_if_eq (tgt := 15) hx hb dX3_delay_5 (by decide) (fun c_5 => ?_) (fun c_5 => ?_)
  · refine lv_iconst (v := nI 0) hx hb dX3_delay_15 (by decide +kernel) ?_
    exact W.zret (v := nI 0) hx hb hr (by decide +kernel) (fun t ht hW => ⟨⟨_, _, rfl, (by first | (simp only [T_delay]; rw [c_5, Bool.false_and, if_pos rfl]; exact ⟨rfl, rfl⟩) | (simp only [T_delay]; rw [c_12, Bool.and_false, if_pos rfl]; exact ⟨rfl, rfl⟩) | (simp only [T_delay, tn]; rw [c5, c12, nI_clamp (by omega), nI_clamp (by omega), if_neg (by decide)]; exact ⟨rfl, rfl⟩)), h.at ht hW⟩, h.2.2.2.2.F ht⟩) h.2.2.2.2.2.2 dX3_delay_16
  · refine lv_iload_n hx hb dX3_delay_8 rfl (lv_at hl 2 rfl) ?_
    refine y_callSi hx hb hml hU hown hR hcs h (c_X3_isWaiting l D cy ad σ _ (x := y)) umX3_54 uz_X3_isWaiting unX3 uc_X3_isWaiting hd_X3_isWaiting.2 (by decide) (by decide) hl.1 rfl (Nat.le_of_ble_eq_true rfl) dX3_delay_9 (fun r u H locs hw h => ?_)
    obtain ⟨rfl, hu⟩ := hw
    have h : XT D cy ad s A H locs σ := by rw [← hu]; exact h
    clear hu
    refine z_if_ne (tgt := 17) hx hb dX3_delay_12 (by decide) (fun c_12 => ?_) (fun c_12 => ?_)
    · have c5 := c_5
      have c12 := c_12
      obtain ⟨j, hj, rfl⟩ := inR_of (by omega) c_5
      obtain ⟨k, hk0, hk, rfl⟩ := wi_of (by decide) (by decide) c_12
      refine lv_aload_n hx hb dX3_delay_17 rfl (lv_at hl 0 rfl) ?_
      refine t_gM hx hb hU hown h 1 (by decide) ufX3_18 (v := .ref (ad 2)) rfl dX3_delay_18 ?_
      refine lv_iload_n hx hb dX3_delay_21 rfl (lv_at hl 1 rfl) ?_
      refine t_aE hx hb h (by omega) dX3_delay_22 ?_
      refine lv_iload_n hx hb dX3_delay_23 rfl (lv_at hl 2 rfl) ?_
      refine t_pE hx hb hU hown h (by omega) 4 (by decide) ufX3_72 dX3_delay_24 (fun H locs h => ?_)
      have h : XT D cy ad s A H locs (sN σ 14 j k) := h
      refine lv_aload_n hx hb dX3_delay_27 rfl (lv_at hl 0 rfl) ?_
      refine y_callv hx hb hml hU hown hR hcs h (c_X3_noteChange l D cy ad (sN σ 14 j k) _ (by obtain ⟨a1, a2, a3⟩ := hs; refine ⟨a1, a2, fun q hq => ?_⟩; have b1 := a3 q hq; have b2 := hg q (Nat.lt_of_lt_of_le hq a2); simp only [sN, up2]; by_cases e : q = j <;> simp [e] <;> (try subst e) <;> omega)) umX3_44 ui_X3_noteChange us_X3_noteChange unX3 uc_X3_noteChange hd_X3_noteChange (by decide) (by decide) (t_recvM h) hl.1 rfl (Nat.le_of_ble_eq_true rfl) dX3_delay_28 (fun u H locs hw h => ?_)
      have hu := hw
      have h : XT D cy ad s A H locs (T_change (sN σ 14 j k)) := by rw [← hu]; exact h
      clear hu
      refine lv_iconst (v := nI 1) hx hb dX3_delay_31 (by decide +kernel) ?_
      exact W.zret (v := nI 1) hx hb hr (by decide +kernel) (fun t ht hW => ⟨⟨_, _, rfl, (by first | (simp only [T_delay]; rw [c_5, Bool.false_and, if_pos rfl]; exact ⟨rfl, rfl⟩) | (simp only [T_delay]; rw [c_12, Bool.and_false, if_pos rfl]; exact ⟨rfl, rfl⟩) | (simp only [T_delay, tn]; rw [c5, c12, nI_clamp (by omega), nI_clamp (by omega), if_neg (by decide)]; exact ⟨rfl, rfl⟩)), h.at ht hW⟩, h.2.2.2.2.F ht⟩) h.2.2.2.2.2.2 dX3_delay_32
    · refine lv_iconst (v := nI 0) hx hb dX3_delay_15 (by decide +kernel) ?_
      exact W.zret (v := nI 0) hx hb hr (by decide +kernel) (fun t ht hW => ⟨⟨_, _, rfl, (by first | (simp only [T_delay]; rw [c_5, Bool.false_and, if_pos rfl]; exact ⟨rfl, rfl⟩) | (simp only [T_delay]; rw [c_12, Bool.and_false, if_pos rfl]; exact ⟨rfl, rfl⟩) | (simp only [T_delay, tn]; rw [c5, c12, nI_clamp (by omega), nI_clamp (by omega), if_neg (by decide)]; exact ⟨rfl, rfl⟩)), h.at ht hW⟩, h.2.2.2.2.F ht⟩) h.2.2.2.2.2.2 dX3_delay_16
set_option maxRecDepth 100000 in
set_option maxHeartbeats 4000000 in
theorem c_X3_edge (l : Launch) (D : va_G) (cy : Nat → ClassId) (ad : Nat → Nat) (σ : TS) (sz : Nat) {x1 x2 x3 x4 x5 : Int32} (hw : TWF σ) : MTi l D cy ad yX3_edge cX3_edge 8 .int (rmd 3) [.ref (ad 0), .int x1, .int x2, .int x3, .int x4, .int x5] σ sz (fun r u => r = (T_edge σ x1 x2 x3 x4 x5).1 ∧ u = (T_edge σ x1 x2 x3 x4 x5).2) := by
  refine Met.ofW (cc := cX3_edge) (maxL := 8) (ret := (some .int)) (by decide) rfl ?_
  intro p ev s m args below meth c s₁ B hml hv
  obtain ⟨rfl, hw⟩ := hv
  have hx := B.exec
  have hb := B.bytes
  have hr := B.returns
  have hlk := B.notSynchronized
  have hU : ∀ w ∈ UW, w.before _ s = true := fun w hw => atoms_spec (ws := Cond.code yX3_edge cX3_edge 8 (some .int) :: UW) B.pre w (List.mem_cons_of_mem _ hw)
  have hown : s.vm.findClass RX3 = some m.cls := findClass_of_methodNamed B.named
  have hR : 3 ≤ (headSpec (Cond.code yX3_edge cX3_edge 8 (some .int) :: UW) (rmd 3)).room.frames ∧ 32 * 3 ≤ (headSpec (Cond.code yX3_edge cX3_edge 8 (some .int) :: UW) (rmd 3)).room.locals := ⟨Nat.le_refl _, Nat.le_refl _⟩
  have hcs : 0 ≤ (headSpec (Cond.code yX3_edge cX3_edge 8 (some .int) :: UW) (rmd 3)).room.cells ∧ 0 ≤ (headSpec (Cond.code yX3_edge cX3_edge 8 (some .int) :: UW) (rmd 3)).room.slots := ⟨Nat.zero_le _, Nat.zero_le _⟩
  have h := WX.start hw
  clear hw
  generalize va_A (wv _ _ _) _ = A at h ⊢
  have hl := lv_entry ([.ref (ad 0), .int x1, .int x2, .int x3, .int x4, .int x5]) (n := 8) (Nat.le_of_ble_eq_true rfl)
  rw [lg_entry_eq]
  generalize (lg_sl ([.ref (ad 0), .int x1, .int x2, .int x3, .int x4, .int x5]) ++ List.replicate (8 - (lg_sl ([.ref (ad 0), .int x1, .int x2, .int x3, .int x4, .int x5])).length) Slot.unset).toArray = ls at hl ⊢
  have hl : lv_has ls 8 [(0, .ref (ad 0)), (1, .int x1), (2, .int x2), (3, .int x3), (4, .int x4), (5, .int x5)] := hl
  have h8 := hw.1
  have h12 := hw.2.1
  have hs := hw.startC
  have hg := hw.2.2.2.1
  refine lv_aload_n hx hb dX3_edge_0 rfl (lv_at hl 0 rfl) ?_
  refine lv_iload_n hx hb dX3_edge_1 rfl (lv_at hl 1 rfl) ?_
  refine y_calli hx hb hml hU hown hR hcs h (c_X3_isActor l D cy ad σ _ (x := x1)) umX3_47 ui_X3_isActor us_X3_isActor unX3 uc_X3_isActor hd_X3_isActor (by decide) (by decide) (t_recvM h) hl.1 rfl (Nat.le_of_ble_eq_true rfl) dX3_edge_2 (fun r u H locs hw h => ?_)
  obtain ⟨rfl, hu⟩ := hw
  have h : XT D cy ad s A H locs σ := by rw [← hu]; exact h
  clear hu
  refine z_if_eq (tgt := 16) hx hb dX3_edge_5 (by decide) (fun c_5 => ?_) (fun c_5 => ?_)
  · refine lv_iconst (v := (-1)) hx hb dX3_edge_16 (by decide +kernel) ?_
    exact W.iret (v := (-1)) hx hb hr (fun t ht hW => ⟨⟨_, _, rfl, (by first | (simp only [T_edge]; rw [c_5, Bool.false_and, if_pos rfl]; exact ⟨rfl, rfl⟩) | (simp only [T_edge]; rw [c_13, Bool.and_false, if_pos rfl]; exact ⟨rfl, rfl⟩) | (simp only [T_edge]; rw [c_5, c_13, if_neg (by decide), c_22, Bool.false_and, if_pos rfl]; exact ⟨rfl, rfl⟩) | (simp only [T_edge]; rw [c_5, c_13, if_neg (by decide), c_30, Bool.false_and, Bool.and_false, if_pos rfl]; exact ⟨rfl, rfl⟩) | (simp only [T_edge]; rw [c_5, c_13, if_neg (by decide), c_38, Bool.and_false, Bool.and_false, if_pos rfl]; exact ⟨rfl, rfl⟩) | (simp only [T_edge]; rw [c5, c13, if_neg (by decide), c22, c30, c38, if_neg (by decide), if_pos (by omega)]; exact ⟨rfl, rfl⟩) | (simp only [T_edge, tn]; rw [c5, c13, if_neg (by decide), c22, c30, c38, if_neg (by decide), if_neg (by omega), nI_clamp (by omega), nI_clamp (by omega), nI_clamp (by omega), nI_clamp (by omega), nI_clamp (by omega)]; exact ⟨rfl, rfl⟩)), h.at ht hW⟩, h.2.2.2.2.F ht⟩) h.2.2.2.2.2.2 dX3_edge_17
  · refine lv_aload_n hx hb dX3_edge_8 rfl (lv_at hl 0 rfl) ?_
    refine lv_iload_n hx hb dX3_edge_9 rfl (lv_at hl 2 rfl) ?_
    refine y_calli hx hb hml hU hown hR hcs h (c_X3_isActor l D cy ad σ _ (x := x2)) umX3_47 ui_X3_isActor us_X3_isActor unX3 uc_X3_isActor hd_X3_isActor (by decide) (by decide) (t_recvM h) hl.1 rfl (Nat.le_of_ble_eq_true rfl) dX3_edge_10 (fun r u H locs hw h => ?_)
    obtain ⟨rfl, hu⟩ := hw
    have h : XT D cy ad s A H locs σ := by rw [← hu]; exact h
    clear hu
    refine z_if_ne (tgt := 18) hx hb dX3_edge_13 (by decide) (fun c_13 => ?_) (fun c_13 => ?_)
    · refine lv_iload_n hx hb dX3_edge_18 rfl (lv_at hl 3 rfl) ?_
      refine y_callSi hx hb hml hU hown hR hcs h (c_X3_isAtOnce l D cy ad σ _ (x := x3)) umX3_51 uz_X3_isAtOnce unX3 uc_X3_isAtOnce hd_X3_isAtOnce.2 (by decide) (by decide) hl.1 rfl (Nat.le_of_ble_eq_true rfl) dX3_edge_19 (fun r u H locs hw h => ?_)
      obtain ⟨rfl, hu⟩ := hw
      have h : XT D cy ad s A H locs σ := by rw [← hu]; exact h
      clear hu
      refine z_if_eq (tgt := 41) hx hb dX3_edge_22 (by decide) (fun c_22 => ?_) (fun c_22 => ?_)
      · refine lv_bipush (v := (-2)) hx hb dX3_edge_41 (by decide +kernel) ?_
        exact W.iret (v := (-2)) hx hb hr (fun t ht hW => ⟨⟨_, _, rfl, (by first | (simp only [T_edge]; rw [c_5, Bool.false_and, if_pos rfl]; exact ⟨rfl, rfl⟩) | (simp only [T_edge]; rw [c_13, Bool.and_false, if_pos rfl]; exact ⟨rfl, rfl⟩) | (simp only [T_edge]; rw [c_5, c_13, if_neg (by decide), c_22, Bool.false_and, if_pos rfl]; exact ⟨rfl, rfl⟩) | (simp only [T_edge]; rw [c_5, c_13, if_neg (by decide), c_30, Bool.false_and, Bool.and_false, if_pos rfl]; exact ⟨rfl, rfl⟩) | (simp only [T_edge]; rw [c_5, c_13, if_neg (by decide), c_38, Bool.and_false, Bool.and_false, if_pos rfl]; exact ⟨rfl, rfl⟩) | (simp only [T_edge]; rw [c5, c13, if_neg (by decide), c22, c30, c38, if_neg (by decide), if_pos (by omega)]; exact ⟨rfl, rfl⟩) | (simp only [T_edge, tn]; rw [c5, c13, if_neg (by decide), c22, c30, c38, if_neg (by decide), if_neg (by omega), nI_clamp (by omega), nI_clamp (by omega), nI_clamp (by omega), nI_clamp (by omega), nI_clamp (by omega)]; exact ⟨rfl, rfl⟩)), h.at ht hW⟩, h.2.2.2.2.F ht⟩) h.2.2.2.2.2.2 dX3_edge_43
      · refine lv_iload hx hb dX3_edge_25 (lv_at hl 4 rfl) ?_
        refine y_callSi hx hb hml hU hown hR hcs h (c_X3_isAtOnce l D cy ad σ _ (x := x4)) umX3_51 uz_X3_isAtOnce unX3 uc_X3_isAtOnce hd_X3_isAtOnce.2 (by decide) (by decide) hl.1 rfl (Nat.le_of_ble_eq_true rfl) dX3_edge_27 (fun r u H locs hw h => ?_)
        obtain ⟨rfl, hu⟩ := hw
        have h : XT D cy ad s A H locs σ := by rw [← hu]; exact h
        clear hu
        refine z_if_eq (tgt := 41) hx hb dX3_edge_30 (by decide) (fun c_30 => ?_) (fun c_30 => ?_)
        · refine lv_bipush (v := (-2)) hx hb dX3_edge_41 (by decide +kernel) ?_
          exact W.iret (v := (-2)) hx hb hr (fun t ht hW => ⟨⟨_, _, rfl, (by first | (simp only [T_edge]; rw [c_5, Bool.false_and, if_pos rfl]; exact ⟨rfl, rfl⟩) | (simp only [T_edge]; rw [c_13, Bool.and_false, if_pos rfl]; exact ⟨rfl, rfl⟩) | (simp only [T_edge]; rw [c_5, c_13, if_neg (by decide), c_22, Bool.false_and, if_pos rfl]; exact ⟨rfl, rfl⟩) | (simp only [T_edge]; rw [c_5, c_13, if_neg (by decide), c_30, Bool.false_and, Bool.and_false, if_pos rfl]; exact ⟨rfl, rfl⟩) | (simp only [T_edge]; rw [c_5, c_13, if_neg (by decide), c_38, Bool.and_false, Bool.and_false, if_pos rfl]; exact ⟨rfl, rfl⟩) | (simp only [T_edge]; rw [c5, c13, if_neg (by decide), c22, c30, c38, if_neg (by decide), if_pos (by omega)]; exact ⟨rfl, rfl⟩) | (simp only [T_edge, tn]; rw [c5, c13, if_neg (by decide), c22, c30, c38, if_neg (by decide), if_neg (by omega), nI_clamp (by omega), nI_clamp (by omega), nI_clamp (by omega), nI_clamp (by omega), nI_clamp (by omega)]; exact ⟨rfl, rfl⟩)), h.at ht hW⟩, h.2.2.2.2.F ht⟩) h.2.2.2.2.2.2 dX3_edge_43
        · refine lv_iload hx hb dX3_edge_33 (lv_at hl 5 rfl) ?_
          refine y_callSi hx hb hml hU hown hR hcs h (c_X3_isWaiting l D cy ad σ _ (x := x5)) umX3_54 uz_X3_isWaiting unX3 uc_X3_isWaiting hd_X3_isWaiting.2 (by decide) (by decide) hl.1 rfl (Nat.le_of_ble_eq_true rfl) dX3_edge_35 (fun r u H locs hw h => ?_)
          obtain ⟨rfl, hu⟩ := hw
          have h : XT D cy ad s A H locs σ := by rw [← hu]; exact h
          clear hu
          refine z_if_ne (tgt := 44) hx hb dX3_edge_38 (by decide) (fun c_38 => ?_) (fun c_38 => ?_)
          · have c5 := c_5
            have c13 := c_13
            have c22 := c_22
            have c30 := c_30
            have c38 := c_38
            obtain ⟨j1, hj1, rfl⟩ := inR_of (by omega) c_5
            obtain ⟨j2, hj2, rfl⟩ := inR_of (by omega) c_13
            obtain ⟨j3, ha3, hj3, rfl⟩ := wi_of (by decide) (by decide) c_22
            obtain ⟨j4, ha4, hj4, rfl⟩ := wi_of (by decide) (by decide) c_30
            obtain ⟨j5, ha5, hj5, rfl⟩ := wi_of (by decide) (by decide) c_38
            refine lv_aload_n hx hb dX3_edge_44 rfl (lv_at hl 0 rfl) ?_
            refine t_gM hx hb hU hown h 5 (by decide) ufX3_57 (v := .int (nI (σ.1 21 0))) rfl dX3_edge_45 ?_
            refine lv_bipush (v := nI 12) hx hb dX3_edge_48 (by decide +kernel) ?_
            refine n_icmp_lt (tgt := 56) hx hb (by omega) (by omega) dX3_edge_50 (by decide) (fun c_50 => ?_) (fun c_50 => ?_)
            · refine lv_aload_n hx hb dX3_edge_56 rfl (lv_at hl 0 rfl) ?_
              refine t_gM hx hb hU hown h 5 (by decide) ufX3_57 (v := .int (nI (σ.1 21 0))) rfl dX3_edge_57 ?_
              refine lv_istore (lv' := [(6, .int (nI (σ.1 21 0))), (0, .ref (ad 0)), (1, .int (nI j1)), (2, .int (nI j2)), (3, .int (nI j3)), (4, .int (nI j4)), (5, .int (nI j5))]) hx hb dX3_edge_60 hl (by decide) rfl (fun ls hl => ?_)
              refine lv_aload_n hx hb dX3_edge_62 rfl (lv_at hl 1 rfl) ?_
              refine t_gM hx hb hU hown h 1 (by decide) ufX3_18 (v := .ref (ad 2)) rfl dX3_edge_63 ?_
              refine lv_iload hx hb dX3_edge_66 (lv_at hl 0 rfl) ?_
              refine t_aE hx hb h (by omega) dX3_edge_68 ?_
              refine lv_astore (lv' := [(7, .ref (ad (13 + (σ.1 21 0)))), (6, .int (nI (σ.1 21 0))), (0, .ref (ad 0)), (1, .int (nI j1)), (2, .int (nI j2)), (3, .int (nI j3)), (4, .int (nI j4)), (5, .int (nI j5))]) hx hb dX3_edge_69 hl (by decide) rfl (fun ls hl => ?_)
              refine lv_aload hx hb dX3_edge_71 (lv_at hl 0 rfl) ?_
              refine lv_iload_n hx hb dX3_edge_73 rfl (lv_at hl 3 rfl) ?_
              refine t_pE hx hb hU hown h (by omega) 0 (by decide) ufX3_60 dX3_edge_74 (fun H locs h => ?_)
              have h : XT D cy ad s A H locs (sN σ 10 (σ.1 21 0) j1) := h
              refine lv_aload hx hb dX3_edge_77 (lv_at hl 0 rfl) ?_
              refine lv_iload_n hx hb dX3_edge_79 rfl (lv_at hl 4 rfl) ?_
              refine t_pE hx hb hU hown h (by omega) 1 (by decide) ufX3_63 dX3_edge_80 (fun H locs h => ?_)
              have h : XT D cy ad s A H locs (sN (sN σ 10 (σ.1 21 0) j1) 11 (σ.1 21 0) j2) := h
              refine lv_aload hx hb dX3_edge_83 (lv_at hl 0 rfl) ?_
              refine lv_iload_n hx hb dX3_edge_85 rfl (lv_at hl 5 rfl) ?_
              refine t_pE hx hb hU hown h (by omega) 2 (by decide) ufX3_66 dX3_edge_86 (fun H locs h => ?_)
              have h : XT D cy ad s A H locs (sN (sN (sN σ 10 (σ.1 21 0) j1) 11 (σ.1 21 0) j2) 12 (σ.1 21 0) j3) := h
              refine lv_aload hx hb dX3_edge_89 (lv_at hl 0 rfl) ?_
              refine lv_iload hx hb dX3_edge_91 (lv_at hl 6 rfl) ?_
              refine t_pE hx hb hU hown h (by omega) 3 (by decide) ufX3_69 dX3_edge_93 (fun H locs h => ?_)
              have h : XT D cy ad s A H locs (sN (sN (sN (sN σ 10 (σ.1 21 0) j1) 11 (σ.1 21 0) j2) 12 (σ.1 21 0) j3) 13 (σ.1 21 0) j4) := h
              refine lv_aload hx hb dX3_edge_96 (lv_at hl 0 rfl) ?_
              refine lv_iload hx hb dX3_edge_98 (lv_at hl 7 rfl) ?_
              refine t_pE hx hb hU hown h (by omega) 4 (by decide) ufX3_72 dX3_edge_100 (fun H locs h => ?_)
              have h : XT D cy ad s A H locs (sN (sN (sN (sN (sN σ 10 (σ.1 21 0) j1) 11 (σ.1 21 0) j2) 12 (σ.1 21 0) j3) 13 (σ.1 21 0) j4) 14 (σ.1 21 0) j5) := h
              refine lv_aload_n hx hb dX3_edge_103 rfl (lv_at hl 2 rfl) ?_
              refine lv_dup hx hb dX3_edge_104 rfl ?_
              refine t_gM hx hb hU hown h 5 (by decide) ufX3_57 (v := .int (nI (σ.1 21 0))) (by first | rfl | (simp [fM, fA, fE, fK, sN, sI, up2]; done)) dX3_edge_105 ?_
              refine lv_iconst (v := nI 1) hx hb dX3_edge_108 (by decide +kernel) ?_
              refine n_iadd hx hb dX3_edge_109 ?_
              refine t_pM hx hb hU hown h 5 (by decide) ufX3_57 dX3_edge_110 (fun H locs h => ?_)
              have h : XT D cy ad s A H locs (sN (sN (sN (sN (sN (sN σ 10 (σ.1 21 0) j1) 11 (σ.1 21 0) j2) 12 (σ.1 21 0) j3) 13 (σ.1 21 0) j4) 14 (σ.1 21 0) j5) 21 0 ((σ.1 21 0) + 1)) := h
              refine lv_aload_n hx hb dX3_edge_113 rfl (lv_at hl 2 rfl) ?_
              refine y_callv hx hb hml hU hown hR hcs h (c_X3_noteChange l D cy ad (sN (sN (sN (sN (sN (sN σ 10 (σ.1 21 0) j1) 11 (σ.1 21 0) j2) 12 (σ.1 21 0) j3) 13 (σ.1 21 0) j4) 14 (σ.1 21 0) j5) 21 0 ((σ.1 21 0) + 1)) _ (by obtain ⟨a1, a2, a3⟩ := hs; refine ⟨a1, by simp [sN, up2]; omega, fun q hq => ?_⟩; have hq2 : q < σ.1 21 0 + 1 := (by simpa [sN, up2] using hq); have b2 := hg q (by omega); simp only [sN, up2]; by_cases e : q = σ.1 21 0 <;> simp [e] <;> (try subst e) <;> first | omega | (have b1 := a3 q (by omega); omega))) umX3_44 ui_X3_noteChange us_X3_noteChange unX3 uc_X3_noteChange hd_X3_noteChange (by decide) (by decide) (t_recvM h) hl.1 rfl (Nat.le_of_ble_eq_true rfl) dX3_edge_114 (fun u H locs hw h => ?_)
              have hu := hw
              have h : XT D cy ad s A H locs (T_change (sN (sN (sN (sN (sN (sN σ 10 (σ.1 21 0) j1) 11 (σ.1 21 0) j2) 12 (σ.1 21 0) j3) 13 (σ.1 21 0) j4) 14 (σ.1 21 0) j5) 21 0 ((σ.1 21 0) + 1))) := by rw [← hu]; exact h
              clear hu
              refine lv_iload hx hb dX3_edge_117 (lv_at hl 1 rfl) ?_
              exact W.iret (v := nI (σ.1 21 0)) hx hb hr (fun t ht hW => ⟨⟨_, _, rfl, (by first | (simp only [T_edge]; rw [c_5, Bool.false_and, if_pos rfl]; exact ⟨rfl, rfl⟩) | (simp only [T_edge]; rw [c_13, Bool.and_false, if_pos rfl]; exact ⟨rfl, rfl⟩) | (simp only [T_edge]; rw [c_5, c_13, if_neg (by decide), c_22, Bool.false_and, if_pos rfl]; exact ⟨rfl, rfl⟩) | (simp only [T_edge]; rw [c_5, c_13, if_neg (by decide), c_30, Bool.false_and, Bool.and_false, if_pos rfl]; exact ⟨rfl, rfl⟩) | (simp only [T_edge]; rw [c_5, c_13, if_neg (by decide), c_38, Bool.and_false, Bool.and_false, if_pos rfl]; exact ⟨rfl, rfl⟩) | (simp only [T_edge]; rw [c5, c13, if_neg (by decide), c22, c30, c38, if_neg (by decide), if_pos (by omega)]; exact ⟨rfl, rfl⟩) | (simp only [T_edge, tn]; rw [c5, c13, if_neg (by decide), c22, c30, c38, if_neg (by decide), if_neg (by omega), nI_clamp (by omega), nI_clamp (by omega), nI_clamp (by omega), nI_clamp (by omega), nI_clamp (by omega)]; exact ⟨rfl, rfl⟩)), h.at ht hW⟩, h.2.2.2.2.F ht⟩) h.2.2.2.2.2.2 dX3_edge_119
            · refine lv_bipush (v := (-3)) hx hb dX3_edge_53 (by decide +kernel) ?_
              exact W.iret (v := (-3)) hx hb hr (fun t ht hW => ⟨⟨_, _, rfl, (by first | (simp only [T_edge]; rw [c_5, Bool.false_and, if_pos rfl]; exact ⟨rfl, rfl⟩) | (simp only [T_edge]; rw [c_13, Bool.and_false, if_pos rfl]; exact ⟨rfl, rfl⟩) | (simp only [T_edge]; rw [c_5, c_13, if_neg (by decide), c_22, Bool.false_and, if_pos rfl]; exact ⟨rfl, rfl⟩) | (simp only [T_edge]; rw [c_5, c_13, if_neg (by decide), c_30, Bool.false_and, Bool.and_false, if_pos rfl]; exact ⟨rfl, rfl⟩) | (simp only [T_edge]; rw [c_5, c_13, if_neg (by decide), c_38, Bool.and_false, Bool.and_false, if_pos rfl]; exact ⟨rfl, rfl⟩) | (simp only [T_edge]; rw [c5, c13, if_neg (by decide), c22, c30, c38, if_neg (by decide), if_pos (by omega)]; exact ⟨rfl, rfl⟩) | (simp only [T_edge, tn]; rw [c5, c13, if_neg (by decide), c22, c30, c38, if_neg (by decide), if_neg (by omega), nI_clamp (by omega), nI_clamp (by omega), nI_clamp (by omega), nI_clamp (by omega), nI_clamp (by omega)]; exact ⟨rfl, rfl⟩)), h.at ht hW⟩, h.2.2.2.2.F ht⟩) h.2.2.2.2.2.2 dX3_edge_55
          · refine lv_bipush (v := (-2)) hx hb dX3_edge_41 (by decide +kernel) ?_
            exact W.iret (v := (-2)) hx hb hr (fun t ht hW => ⟨⟨_, _, rfl, (by first | (simp only [T_edge]; rw [c_5, Bool.false_and, if_pos rfl]; exact ⟨rfl, rfl⟩) | (simp only [T_edge]; rw [c_13, Bool.and_false, if_pos rfl]; exact ⟨rfl, rfl⟩) | (simp only [T_edge]; rw [c_5, c_13, if_neg (by decide), c_22, Bool.false_and, if_pos rfl]; exact ⟨rfl, rfl⟩) | (simp only [T_edge]; rw [c_5, c_13, if_neg (by decide), c_30, Bool.false_and, Bool.and_false, if_pos rfl]; exact ⟨rfl, rfl⟩) | (simp only [T_edge]; rw [c_5, c_13, if_neg (by decide), c_38, Bool.and_false, Bool.and_false, if_pos rfl]; exact ⟨rfl, rfl⟩) | (simp only [T_edge]; rw [c5, c13, if_neg (by decide), c22, c30, c38, if_neg (by decide), if_pos (by omega)]; exact ⟨rfl, rfl⟩) | (simp only [T_edge, tn]; rw [c5, c13, if_neg (by decide), c22, c30, c38, if_neg (by decide), if_neg (by omega), nI_clamp (by omega), nI_clamp (by omega), nI_clamp (by omega), nI_clamp (by omega), nI_clamp (by omega)]; exact ⟨rfl, rfl⟩)), h.at ht hW⟩, h.2.2.2.2.F ht⟩) h.2.2.2.2.2.2 dX3_edge_43
    · refine lv_iconst (v := (-1)) hx hb dX3_edge_16 (by decide +kernel) ?_
      exact W.iret (v := (-1)) hx hb hr (fun t ht hW => ⟨⟨_, _, rfl, (by first | (simp only [T_edge]; rw [c_5, Bool.false_and, if_pos rfl]; exact ⟨rfl, rfl⟩) | (simp only [T_edge]; rw [c_13, Bool.and_false, if_pos rfl]; exact ⟨rfl, rfl⟩) | (simp only [T_edge]; rw [c_5, c_13, if_neg (by decide), c_22, Bool.false_and, if_pos rfl]; exact ⟨rfl, rfl⟩) | (simp only [T_edge]; rw [c_5, c_13, if_neg (by decide), c_30, Bool.false_and, Bool.and_false, if_pos rfl]; exact ⟨rfl, rfl⟩) | (simp only [T_edge]; rw [c_5, c_13, if_neg (by decide), c_38, Bool.and_false, Bool.and_false, if_pos rfl]; exact ⟨rfl, rfl⟩) | (simp only [T_edge]; rw [c5, c13, if_neg (by decide), c22, c30, c38, if_neg (by decide), if_pos (by omega)]; exact ⟨rfl, rfl⟩) | (simp only [T_edge, tn]; rw [c5, c13, if_neg (by decide), c22, c30, c38, if_neg (by decide), if_neg (by omega), nI_clamp (by omega), nI_clamp (by omega), nI_clamp (by omega), nI_clamp (by omega), nI_clamp (by omega)]; exact ⟨rfl, rfl⟩)), h.at ht hW⟩, h.2.2.2.2.F ht⟩) h.2.2.2.2.2.2 dX3_edge_17
