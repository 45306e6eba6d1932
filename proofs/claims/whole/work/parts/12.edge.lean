/-! ===== Edge: look, handOver, receive ===== -/
abbrev tn (x : Int32) : Nat := x.toNatClampNeg
def T_look (σ : TS) (q : Nat) (x : Int32) : Int32 := if inR x (σ.1 19 q) then σ.2.1 (100 + q) (T_place σ q (tn x)) else nI 0
theorem inR_neg {x : Int32} {n : Nat} (h : x < 0) : inR x n = false := by
  unfold inR
  rw [decide_eq_false (by rw [Int32.le_iff_toInt_le]; rw [Int32.lt_iff_toInt_lt] at h; omega), Bool.false_and]
theorem inR_big {x : Int32} {n : Nat} (h : nI n ≤ x) : inR x n = false := by
  unfold inR
  rw [decide_eq_false (p := x < nI n) (by rw [Int32.lt_iff_toInt_lt]; rw [Int32.le_iff_toInt_le] at h; omega), Bool.and_false]
theorem inR_yes {x : Int32} {n : Nat} (hn : n < 2 ^ 31) (h0 : ¬ x < 0) (h : ¬ nI n ≤ x) : ∃ j, j < n ∧ x = nI j := by
  obtain ⟨j, hj, rfl⟩ := nI_of h0
  exact ⟨j, Nat.not_le.mp (fun q => h (nI_le q hj)), rfl⟩
theorem inR_lt {j n : Nat} (h : j < n) (hn : n < 2 ^ 31) : inR (nI j) n = true := by
  rw [inR_nI (by omega) hn]; exact decide_eq_true h
theorem T_place_lt {σ : TS} {q k : Nat} (h1 : σ.1 18 q < σ.1 17 q) (h2 : k ≤ σ.1 17 q) : T_place σ q k < σ.1 17 q := by
  unfold T_place; split <;> omega
set_option maxRecDepth 100000 in
set_option maxHeartbeats 4000000 in
theorem c_X1_look (l : Launch) (D : va_G) (cy : Nat → ClassId) (ad : Nat → Nat) (σ : TS) (sz : Nat) {q : Nat} {x : Int32} (hq : q < 12) (h1 : σ.1 18 q < σ.1 17 q) (h2 : σ.1 19 q ≤ σ.1 17 q) (h3 : σ.1 17 q < 2 ^ 20) : MTi l D cy ad yX1_look cX1_look 2 .int (rmd 1) [.ref (ad (13 + q)), .int x] σ sz (fun r u => r = T_look σ q x ∧ u = σ) := by
  refine Met.ofW (cc := cX1_look) (maxL := 2) (ret := (some .int)) (by decide) rfl ?_
  intro p ev s m args below meth c s₁ B hml hv
  obtain ⟨rfl, hw⟩ := hv
  have hx := B.exec
  have hb := B.bytes
  have hr := B.returns
  have hlk := B.notSynchronized
  have hU : ∀ w ∈ UW, w.before _ s = true := fun w hw => atoms_spec (ws := Cond.code yX1_look cX1_look 2 (some .int) :: UW) B.pre w (List.mem_cons_of_mem _ hw)
  have hown : s.vm.findClass RX1 = some m.cls := findClass_of_methodNamed B.named
  have hR : 1 ≤ (headSpec (Cond.code yX1_look cX1_look 2 (some .int) :: UW) (rmd 1)).room.frames ∧ 32 * 1 ≤ (headSpec (Cond.code yX1_look cX1_look 2 (some .int) :: UW) (rmd 1)).room.locals := ⟨Nat.le_refl _, Nat.le_refl _⟩
  have hcs : 0 ≤ (headSpec (Cond.code yX1_look cX1_look 2 (some .int) :: UW) (rmd 1)).room.cells ∧ 0 ≤ (headSpec (Cond.code yX1_look cX1_look 2 (some .int) :: UW) (rmd 1)).room.slots := ⟨Nat.zero_le _, Nat.zero_le _⟩
  have h := WX.start hw
  clear hw
  generalize va_A (wv _ _ _) _ = A at h ⊢
  have hl := lv_entry ([.ref (ad (13 + q)), .int x]) (n := 2) (Nat.le_of_ble_eq_true rfl)
  rw [lg_entry_eq]
  generalize (lg_sl ([.ref (ad (13 + q)), .int x]) ++ List.replicate (2 - (lg_sl ([.ref (ad (13 + q)), .int x])).length) Slot.unset).toArray = ls at hl ⊢
  have hl : lv_has ls 2 [(0, .ref (ad (13 + q))), (1, .int x)] := hl
  refine lv_iload_n hx hb dX1_look_0 rfl (lv_at hl 1 rfl) ?_
  refine lv_if_lt (tgt := 25) hx hb dX1_look_1 (by decide) (fun c_1 => ?_) (fun c_1 => ?_)
  · refine lv_iconst (v := nI 0) hx hb dX1_look_25 (by decide +kernel) ?_
    exact W.iret (v := nI 0) hx hb hr (fun t ht hW => ⟨⟨_, _, rfl, ⟨by simp only [T_look]; rw [show inR x (σ.1 19 q) = false from by first | exact inR_neg c_1 | exact inR_big c_9]; rfl, rfl⟩, h.at ht hW⟩, h.2.2.2.2.F ht⟩) h.2.2.2.2.2.2 dX1_look_26
  · refine lv_iload_n hx hb dX1_look_4 rfl (lv_at hl 1 rfl) ?_
    refine lv_aload_n hx hb dX1_look_5 rfl (lv_at hl 0 rfl) ?_
    refine t_gE hx hb hU hown h hq 9 (by decide) ufX1_22 (v := .int (nI (σ.1 19 q))) rfl dX1_look_6 ?_
    refine lv_icmp_ge (tgt := 25) hx hb dX1_look_9 (by decide) (fun c_9 => ?_) (fun c_9 => ?_)
    · refine lv_iconst (v := nI 0) hx hb dX1_look_25 (by decide +kernel) ?_
      exact W.iret (v := nI 0) hx hb hr (fun t ht hW => ⟨⟨_, _, rfl, ⟨by simp only [T_look]; rw [show inR x (σ.1 19 q) = false from by first | exact inR_neg c_1 | exact inR_big c_9]; rfl, rfl⟩, h.at ht hW⟩, h.2.2.2.2.F ht⟩) h.2.2.2.2.2.2 dX1_look_26
    · obtain ⟨j, hj, rfl⟩ := inR_yes (by omega) c_1 c_9
      refine lv_aload_n hx hb dX1_look_12 rfl (lv_at hl 0 rfl) ?_
      refine t_gE hx hb hU hown h hq 7 (by decide) ufX1_9 (v := .ref (σ.2.2 q)) rfl dX1_look_13 ?_
      refine lv_aload_n hx hb dX1_look_16 rfl (lv_at hl 0 rfl) ?_
      refine lv_iload_n hx hb dX1_look_17 rfl (lv_at hl 1 rfl) ?_
      refine y_calli hx hb hml hU hown hR hcs h (c_X1_place l D cy ad σ _ (q := q) (k := j) hq (by omega) (by omega) (by omega)) umX1_59 ui_X1_place us_X1_place unX1 uc_X1_place hd_X1_place (by decide) (by decide) (t_recvE h hq) hl.1 rfl (Nat.le_of_ble_eq_true rfl) dX1_look_18 (fun r u H locs hw h => ?_)
      obtain ⟨rfl, hu⟩ := hw
      have h : XT D cy ad s A H locs σ := by rw [← hu]; exact h
      clear hu
      refine t_iR hx hb h hq (T_place_lt h1 (by omega)) (by omega) dX1_look_21 ?_
      refine lv_goto (tgt := 26) hx hb dX1_look_22 (by decide) ?_
      exact W.iret (v := σ.2.1 (100 + q) (T_place σ q j)) hx hb hr (fun t ht hW => ⟨⟨_, _, rfl, ⟨by simp only [T_look, tn]; rw [if_pos (inR_lt hj (by omega)), nI_clamp (by omega)], rfl⟩, h.at ht hW⟩, h.2.2.2.2.F ht⟩) h.2.2.2.2.2.2 dX1_look_26
theorem T_add_N (σ : TS) (v : Int32) (f n : Nat) : (T_add σ v).1 f n = if f = 30 ∧ n = 0 then σ.1 30 0 + 1 else σ.1 f n := by
  simp only [T_add, sI, sN, up2]
def T_hand_s (q : Nat) : Nat → TS → TS := fun _ τ => sN (sN (T_add τ (T_look τ q (nI 0))) 18 q (T_place (T_add τ (T_look τ q (nI 0))) q 1)) 19 q ((T_add τ (T_look τ q (nI 0))).1 19 q - 1)
def T_hand (σ : TS) (q : Nat) : TS := itr (T_hand_s q) (σ.1 13 q) 0 σ
def T_handC (q k i : Nat) (τ : TS) : Prop := i + k = τ.1 13 q ∧ k ≤ τ.1 19 q ∧ τ.1 19 q ≤ τ.1 17 q ∧ τ.1 18 q < τ.1 17 q ∧ τ.1 17 q < 2 ^ 20 ∧ τ.1 30 0 + k < 2 ^ 20 ∧ τ.1 13 q < 2 ^ 20
theorem T_place_add (σ : TS) (v : Int32) (q k : Nat) : T_place (T_add σ v) q k = T_place σ q k := by
  simp only [T_place, T_add_N]; simp
theorem T_handC_s {q k i : Nat} {τ : TS} (h : T_handC q (k + 1) i τ) : T_handC q k (i + 1) (T_hand_s q i τ) := by
  obtain ⟨h1, h2, h3, h4, h5, h6, h7⟩ := h
  have hp := T_place_lt (k := 1) h4 (by omega)
  simp only [T_handC, T_hand_s, sN, up2, T_add_N, T_place_add]
  simp
  omega
set_option maxRecDepth 100000 in
set_option maxHeartbeats 4000000 in
theorem lp_X1_handOver {p : Program} {l : Launch} {ev : Env} {R : Room} {s : State} {m : MethodId} {args : Array Value} {below : List Frame} {meth : Method} {c : Code} {cells slots : Nat} {Q : State → Prop} {D : va_G} {cy : Nat → ClassId} {ad : Nat → Nat} {A : Nat → Prop} (hx : p.tables.exec = Jvm.exec) (hb : c.code = cX1_handOver) (hml : c.maxLocals = 3) (hU : ∀ w ∈ UW, w.before args s = true) (hown : s.vm.findClass RX1 = some m.cls) (hR : 2 ≤ R.frames ∧ 32 * 2 ≤ R.locals) (hcs : cells ≤ R.cells ∧ slots ≤ R.slots) {q : Nat} (hq : q < 12) :
    ∀ (k i : Nat) (τ : TS) (H : Heap) (locs : List Loc) (ls : Array Slot), T_handC q k i τ → XT D cy ad s A H locs τ → lv_has ls 3 [(0, .ref (ad (13 + q))), (1, .ref (ad 4)), (2, .int (nI i))] → (∀ (H : Heap) (locs : List Loc) (ls : Array Slot), XT D cy ad s A H locs (itr (T_hand_s q) k i τ) → lv_has ls 3 [(0, .ref (ad (13 + q))), (1, .ref (ad 4))] → W p l ev R s m args below meth c H locs cells slots Q (F0 m 51 ls [])) → W p l ev R s m args below meth c H locs cells slots Q (F0 m 2 ls []) := by
  intro k
  induction k with
  | zero =>
    intro i τ H locs ls hc h hl K
    obtain ⟨h1, h2, h3, h4, h5, h6, h7⟩ := hc
    refine lv_iload_n hx hb dX1_handOver_2 rfl (lv_at hl 2 rfl) ?_
    refine lv_aload_n hx hb dX1_handOver_3 rfl (lv_at hl 0 rfl) ?_
    refine t_gE hx hb hU hown h hq 3 (by decide) ufX1_34 (v := .int (nI (τ.1 13 q))) rfl dX1_handOver_4 ?_
    refine n_icmp_ge (tgt := 51) hx hb (by omega) (by omega) dX1_handOver_7 (by decide) (fun c_7 => ?_) (fun c_7 => absurd c_7 (by omega))
    exact K _ _ _ h (lv_sub hl [0, 1] rfl)
  | succ k ih =>
    intro i τ H locs ls hc h hl K
    have hc0 := hc
    obtain ⟨h1, h2, h3, h4, h5, h6, h7⟩ := hc
    refine lv_iload_n hx hb dX1_handOver_2 rfl (lv_at hl 2 rfl) ?_
    refine lv_aload_n hx hb dX1_handOver_3 rfl (lv_at hl 0 rfl) ?_
    refine t_gE hx hb hU hown h hq 3 (by decide) ufX1_34 (v := .int (nI (τ.1 13 q))) rfl dX1_handOver_4 ?_
    refine n_icmp_ge (tgt := 51) hx hb (by omega) (by omega) dX1_handOver_7 (by decide) (fun c_7 => absurd c_7 (by omega)) (fun c_7 => ?_)
    refine lv_aload_n hx hb dX1_handOver_10 rfl (lv_at hl 0 rfl) ?_
    refine t_gE hx hb hU hown h hq 9 (by decide) ufX1_22 (v := .int (nI (τ.1 19 q))) rfl dX1_handOver_11 ?_
    refine n_if_le (tgt := 51) hx hb (by omega) dX1_handOver_14 (by decide) (fun c_14 => absurd c_14 (by omega)) (fun c_14 => ?_)
    refine lv_aload_n hx hb dX1_handOver_17 rfl (lv_at hl 1 rfl) ?_
    refine lv_aload_n hx hb dX1_handOver_18 rfl (lv_at hl 0 rfl) ?_
    refine lv_iconst (v := nI 0) hx hb dX1_handOver_19 (by decide +kernel) ?_
    refine y_calli hx hb hml hU hown hR hcs h (c_X1_look l D cy ad τ _ (q := q) (x := nI 0) hq h4 h3 h5) umX1_49 ui_X1_look us_X1_look unX1 uc_X1_look hd_X1_look (by decide) (by decide) (t_recvE h hq) hl.1 rfl (Nat.le_of_ble_eq_true rfl) dX1_handOver_20 (fun r u H locs hw h => ?_)
    obtain ⟨rfl, hu⟩ := hw
    have h : XT D cy ad s A H locs τ := by rw [← hu]; exact h
    clear hu
    refine y_callv hx hb hml hU hown hR hcs h (c_X2_add l D cy ad τ _ (v := T_look τ q (nI 0)) (by omega)) umX1_53 ui_X2_add us_X2_add unX2 uc_X2_add hd_X2_add (by decide) (by decide) (t_recvK h) hl.1 rfl (Nat.le_of_ble_eq_true rfl) dX1_handOver_23 (fun u H locs hw h => ?_)
    have hu := hw
    have h : XT D cy ad s A H locs (T_add τ (T_look τ q (nI 0))) := by rw [← hu]; exact h
    clear hu
    refine lv_aload_n hx hb dX1_handOver_26 rfl (lv_at hl 0 rfl) ?_
    refine lv_aload_n hx hb dX1_handOver_27 rfl (lv_at hl 0 rfl) ?_
    refine lv_iconst (v := nI 1) hx hb dX1_handOver_28 (by decide +kernel) ?_
    refine y_calli hx hb hml hU hown hR hcs h (c_X1_place l D cy ad (T_add τ (T_look τ q (nI 0))) _ (q := q) (k := 1) hq (by rw [T_add_N]; simp; omega) (by omega) (by rw [T_add_N]; simp; omega)) umX1_59 ui_X1_place us_X1_place unX1 uc_X1_place hd_X1_place (by decide) (by decide) (t_recvE h hq) hl.1 rfl (Nat.le_of_ble_eq_true rfl) dX1_handOver_29 (fun r u H locs hw h => ?_)
    obtain ⟨rfl, hu⟩ := hw
    have h : XT D cy ad s A H locs (T_add τ (T_look τ q (nI 0))) := by rw [← hu]; exact h
    clear hu
    refine t_pE hx hb hU hown h hq 8 (by decide) ufX1_15 dX1_handOver_32 (fun H locs h => ?_)
    have h : XT D cy ad s A H locs (sN (T_add τ (T_look τ q (nI 0))) 18 q (T_place (T_add τ (T_look τ q (nI 0))) q 1)) := h
    refine lv_aload_n hx hb dX1_handOver_35 rfl (lv_at hl 0 rfl) ?_
    refine lv_dup hx hb dX1_handOver_36 rfl ?_
    refine t_gE hx hb hU hown h hq 9 (by decide) ufX1_22 (v := .int (nI ((T_add τ (T_look τ q (nI 0))).1 19 q))) (by first | rfl | (simp [fM, fA, fE, fK, sN, sI, up2]; done)) dX1_handOver_37 ?_
    refine lv_iconst (v := nI 1) hx hb dX1_handOver_40 (by decide +kernel) ?_
    refine n_isub hx hb (by rw [T_add_N]; simp; omega) dX1_handOver_41 ?_
    refine t_pE hx hb hU hown h hq 9 (by decide) ufX1_22 dX1_handOver_42 (fun H locs h => ?_)
    have h : XT D cy ad s A H locs (sN (sN (T_add τ (T_look τ q (nI 0))) 18 q (T_place (T_add τ (T_look τ q (nI 0))) q 1)) 19 q (((T_add τ (T_look τ q (nI 0))).1 19 q) - 1)) := h
    refine lv_iinc (v := nI (i + 1)) (lv' := [(2, .int (nI (i + 1))), (0, .ref (ad (13 + q))), (1, .ref (ad 4))]) hx hb dX1_handOver_45 hl (k := 2) rfl (by rw [← nI_add]; rfl) (by decide) rfl (fun ls hl => ?_)
    refine lv_goto (tgt := 2) hx hb dX1_handOver_48 (by decide) ?_
    exact ih (i + 1) (sN (sN (T_add τ (T_look τ q (nI 0))) 18 q (T_place (T_add τ (T_look τ q (nI 0))) q 1)) 19 q (((T_add τ (T_look τ q (nI 0))).1 19 q) - 1)) _ _ _ (T_handC_s hc0) h (lv_sub hl [1, 2, 0] rfl) K
set_option maxRecDepth 100000 in
set_option maxHeartbeats 4000000 in
theorem c_X1_handOver (l : Launch) (D : va_G) (cy : Nat → ClassId) (ad : Nat → Nat) (σ : TS) (sz : Nat) {q : Nat} (hq : q < 12) (hc : T_handC q (σ.1 13 q) 0 σ) : MTv l D cy ad yX1_handOver cX1_handOver 3 (rmd 2) [.ref (ad (13 + q)), .ref (ad 4)] σ sz (fun u => u = T_hand σ q) := by
  refine Met.ofW (cc := cX1_handOver) (maxL := 3) (ret := none) (by decide) rfl ?_
  intro p ev s m args below meth c s₁ B hml hv
  obtain ⟨rfl, hw⟩ := hv
  have hx := B.exec
  have hb := B.bytes
  have hr := B.returns
  have hlk := B.notSynchronized
  have hU : ∀ w ∈ UW, w.before _ s = true := fun w hw => atoms_spec (ws := Cond.code yX1_handOver cX1_handOver 3 none :: UW) B.pre w (List.mem_cons_of_mem _ hw)
  have hown : s.vm.findClass RX1 = some m.cls := findClass_of_methodNamed B.named
  have hR : 2 ≤ (headSpec (Cond.code yX1_handOver cX1_handOver 3 none :: UW) (rmd 2)).room.frames ∧ 32 * 2 ≤ (headSpec (Cond.code yX1_handOver cX1_handOver 3 none :: UW) (rmd 2)).room.locals := ⟨Nat.le_refl _, Nat.le_refl _⟩
  have hcs : 0 ≤ (headSpec (Cond.code yX1_handOver cX1_handOver 3 none :: UW) (rmd 2)).room.cells ∧ 0 ≤ (headSpec (Cond.code yX1_handOver cX1_handOver 3 none :: UW) (rmd 2)).room.slots := ⟨Nat.zero_le _, Nat.zero_le _⟩
  have h := WX.start hw
  clear hw
  generalize va_A (wv _ _ _) _ = A at h ⊢
  have hl := lv_entry ([.ref (ad (13 + q)), .ref (ad 4)]) (n := 3) (Nat.le_of_ble_eq_true rfl)
  rw [lg_entry_eq]
  generalize (lg_sl ([.ref (ad (13 + q)), .ref (ad 4)]) ++ List.replicate (3 - (lg_sl ([.ref (ad (13 + q)), .ref (ad 4)])).length) Slot.unset).toArray = ls at hl ⊢
  have hl : lv_has ls 3 [(0, .ref (ad (13 + q))), (1, .ref (ad 4))] := hl
  refine lv_iconst (v := nI 0) hx hb dX1_handOver_0 (by decide +kernel) ?_
  refine lv_istore_n (lv' := [(2, .int (nI 0)), (0, .ref (ad (13 + q))), (1, .ref (ad 4))]) hx hb dX1_handOver_1 rfl hl (by decide) rfl (fun ls hl => ?_)
  refine lp_X1_handOver hx hb hml hU hown hR hcs hq (σ.1 13 q) 0 _ _ _ _ hc h (lv_sub hl [1, 2, 0] rfl) (fun H locs ls h hl => ?_)
  exact W.vret hx hb hr (fun t ht hW => ⟨⟨_, rfl, rfl, h.at ht hW⟩, h.2.2.2.2.F ht⟩) h.2.2.2.2.2.2 dX1_handOver_51
def T_recv_s (q : Nat) (v : Int32) : Nat → TS → TS := fun i τ => sN (sI τ (100 + q) (T_place τ q (τ.1 19 q)) (v + nI i)) 19 q (τ.1 19 q + 1)
def T_recv (σ : TS) (q : Nat) (v : Int32) : TS := itr (T_recv_s q v) (σ.1 12 q) 0 σ
def T_recvC (q k i : Nat) (τ : TS) : Prop := i + k = τ.1 12 q ∧ τ.1 19 q + k ≤ τ.1 17 q ∧ τ.1 18 q < τ.1 17 q ∧ τ.1 17 q < 2 ^ 20 ∧ τ.1 12 q < 2 ^ 20
theorem T_recvC_s {q k i : Nat} {v : Int32} {τ : TS} (h : T_recvC q (k + 1) i τ) : T_recvC q k (i + 1) (T_recv_s q v i τ) := by
  obtain ⟨h1, h2, h3, h4, h5⟩ := h
  simp only [T_recvC, T_recv_s, sN, sI, up2]
  simp
  omega
set_option maxRecDepth 100000 in
set_option maxHeartbeats 4000000 in
theorem lp_X1_receive {p : Program} {l : Launch} {ev : Env} {R : Room} {s : State} {m : MethodId} {args : Array Value} {below : List Frame} {meth : Method} {c : Code} {cells slots : Nat} {Q : State → Prop} {D : va_G} {cy : Nat → ClassId} {ad : Nat → Nat} {A : Nat → Prop} (hx : p.tables.exec = Jvm.exec) (hb : c.code = cX1_receive) (hml : c.maxLocals = 3) (hU : ∀ w ∈ UW, w.before args s = true) (hown : s.vm.findClass RX1 = some m.cls) (hR : 1 ≤ R.frames ∧ 32 * 1 ≤ R.locals) (hcs : cells ≤ R.cells ∧ slots ≤ R.slots) {q : Nat} {v : Int32} (hq : q < 12) :
    ∀ (k i : Nat) (τ : TS) (H : Heap) (locs : List Loc) (ls : Array Slot), T_recvC q k i τ → XT D cy ad s A H locs τ → lv_has ls 3 [(0, .ref (ad (13 + q))), (1, .int v), (2, .int (nI i))] → (∀ (H : Heap) (locs : List Loc) (ls : Array Slot), XT D cy ad s A H locs (itr (T_recv_s q v) k i τ) → lv_has ls 3 [(0, .ref (ad (13 + q))), (1, .int v)] → W p l ev R s m args below meth c H locs cells slots Q (F0 m 54 ls [])) → W p l ev R s m args below meth c H locs cells slots Q (F0 m 2 ls []) := by
  intro k
  induction k with
  | zero =>
    intro i τ H locs ls hc h hl K
    obtain ⟨h1, h2, h3, h4, h5⟩ := hc
    refine lv_iload_n hx hb dX1_receive_2 rfl (lv_at hl 2 rfl) ?_
    refine lv_aload_n hx hb dX1_receive_3 rfl (lv_at hl 0 rfl) ?_
    refine t_gE hx hb hU hown h hq 2 (by decide) ufX1_40 (v := .int (nI (τ.1 12 q))) rfl dX1_receive_4 ?_
    refine n_icmp_ge (tgt := 54) hx hb (by omega) (by omega) dX1_receive_7 (by decide) (fun c_7 => ?_) (fun c_7 => absurd c_7 (by omega))
    exact K _ _ _ h (lv_sub hl [0, 1] rfl)
  | succ k ih =>
    intro i τ H locs ls hc h hl K
    have hc0 := hc
    obtain ⟨h1, h2, h3, h4, h5⟩ := hc
    refine lv_iload_n hx hb dX1_receive_2 rfl (lv_at hl 2 rfl) ?_
    refine lv_aload_n hx hb dX1_receive_3 rfl (lv_at hl 0 rfl) ?_
    refine t_gE hx hb hU hown h hq 2 (by decide) ufX1_40 (v := .int (nI (τ.1 12 q))) rfl dX1_receive_4 ?_
    refine n_icmp_ge (tgt := 54) hx hb (by omega) (by omega) dX1_receive_7 (by decide) (fun c_7 => absurd c_7 (by omega)) (fun c_7 => ?_)
    refine lv_aload_n hx hb dX1_receive_10 rfl (lv_at hl 0 rfl) ?_
    refine t_gE hx hb hU hown h hq 9 (by decide) ufX1_22 (v := .int (nI (τ.1 19 q))) rfl dX1_receive_11 ?_
    refine lv_aload_n hx hb dX1_receive_14 rfl (lv_at hl 0 rfl) ?_
    refine t_gE hx hb hU hown h hq 7 (by decide) ufX1_9 (v := .ref (τ.2.2 q)) rfl dX1_receive_15 ?_
    refine t_lR hx hb h hq dX1_receive_18 ?_
    refine n_icmp_ge (tgt := 54) hx hb (by omega) (by omega) dX1_receive_19 (by decide) (fun c_19 => absurd c_19 (by omega)) (fun c_19 => ?_)
    refine lv_aload_n hx hb dX1_receive_22 rfl (lv_at hl 0 rfl) ?_
    refine t_gE hx hb hU hown h hq 7 (by decide) ufX1_9 (v := .ref (τ.2.2 q)) rfl dX1_receive_23 ?_
    refine lv_aload_n hx hb dX1_receive_26 rfl (lv_at hl 0 rfl) ?_
    refine lv_aload_n hx hb dX1_receive_27 rfl (lv_at hl 0 rfl) ?_
    refine t_gE hx hb hU hown h hq 9 (by decide) ufX1_22 (v := .int (nI (τ.1 19 q))) rfl dX1_receive_28 ?_
    refine y_calli hx hb hml hU hown hR hcs h (c_X1_place l D cy ad τ _ (q := q) (k := τ.1 19 q) hq (by omega) (by omega) (by omega)) umX1_59 ui_X1_place us_X1_place unX1 uc_X1_place hd_X1_place (by decide) (by decide) (t_recvE h hq) hl.1 rfl (Nat.le_of_ble_eq_true rfl) dX1_receive_31 (fun r u H locs hw h => ?_)
    obtain ⟨rfl, hu⟩ := hw
    have h : XT D cy ad s A H locs τ := by rw [← hu]; exact h
    clear hu
    refine lv_iload_n hx hb dX1_receive_34 rfl (lv_at hl 1 rfl) ?_
    refine lv_iload_n hx hb dX1_receive_35 rfl (lv_at hl 2 rfl) ?_
    refine lv_iadd hx hb dX1_receive_36 ?_
    refine t_sR hx hb h hq (v := (v + (nI i))) (T_place_lt h3 (by omega)) (by omega) dX1_receive_37 (fun H locs h => ?_)
    refine lv_aload_n hx hb dX1_receive_38 rfl (lv_at hl 0 rfl) ?_
    refine lv_dup hx hb dX1_receive_39 rfl ?_
    refine t_gE hx hb hU hown h hq 9 (by decide) ufX1_22 (v := .int (nI (τ.1 19 q))) (by first | rfl | (simp [fM, fA, fE, fK, sN, sI, up2]; done)) dX1_receive_40 ?_
    refine lv_iconst (v := nI 1) hx hb dX1_receive_43 (by decide +kernel) ?_
    refine n_iadd hx hb dX1_receive_44 ?_
    refine t_pE hx hb hU hown h hq 9 (by decide) ufX1_22 dX1_receive_45 (fun H locs h => ?_)
    have h : XT D cy ad s A H locs (sN (sI τ (100 + q) (T_place τ q (τ.1 19 q)) ((v + (nI i)))) 19 q ((τ.1 19 q) + 1)) := h
    refine lv_iinc (v := nI (i + 1)) (lv' := [(2, .int (nI (i + 1))), (0, .ref (ad (13 + q))), (1, .int v)]) hx hb dX1_receive_48 hl (k := 2) rfl (by rw [← nI_add]; rfl) (by decide) rfl (fun ls hl => ?_)
    refine lv_goto (tgt := 2) hx hb dX1_receive_51 (by decide) ?_
    exact ih (i + 1) (sN (sI τ (100 + q) (T_place τ q (τ.1 19 q)) ((v + (nI i)))) 19 q ((τ.1 19 q) + 1)) _ _ _ (T_recvC_s hc0) h (lv_sub hl [1, 2, 0] rfl) K
set_option maxRecDepth 100000 in
set_option maxHeartbeats 4000000 in
theorem c_X1_receive (l : Launch) (D : va_G) (cy : Nat → ClassId) (ad : Nat → Nat) (σ : TS) (sz : Nat) {q : Nat} {v : Int32} (hq : q < 12) (hc : T_recvC q (σ.1 12 q) 0 σ) : MTv l D cy ad yX1_receive cX1_receive 3 (rmd 1) [.ref (ad (13 + q)), .int v] σ sz (fun u => u = T_recv σ q v) := by
  refine Met.ofW (cc := cX1_receive) (maxL := 3) (ret := none) (by decide) rfl ?_
  intro p ev s m args below meth c s₁ B hml hv
  obtain ⟨rfl, hw⟩ := hv
  have hx := B.exec
  have hb := B.bytes
  have hr := B.returns
  have hlk := B.notSynchronized
  have hU : ∀ w ∈ UW, w.before _ s = true := fun w hw => atoms_spec (ws := Cond.code yX1_receive cX1_receive 3 none :: UW) B.pre w (List.mem_cons_of_mem _ hw)
  have hown : s.vm.findClass RX1 = some m.cls := findClass_of_methodNamed B.named
  have hR : 1 ≤ (headSpec (Cond.code yX1_receive cX1_receive 3 none :: UW) (rmd 1)).room.frames ∧ 32 * 1 ≤ (headSpec (Cond.code yX1_receive cX1_receive 3 none :: UW) (rmd 1)).room.locals := ⟨Nat.le_refl _, Nat.le_refl _⟩
  have hcs : 0 ≤ (headSpec (Cond.code yX1_receive cX1_receive 3 none :: UW) (rmd 1)).room.cells ∧ 0 ≤ (headSpec (Cond.code yX1_receive cX1_receive 3 none :: UW) (rmd 1)).room.slots := ⟨Nat.zero_le _, Nat.zero_le _⟩
  have h := WX.start hw
  clear hw
  generalize va_A (wv _ _ _) _ = A at h ⊢
  have hl := lv_entry ([.ref (ad (13 + q)), .int v]) (n := 3) (Nat.le_of_ble_eq_true rfl)
  rw [lg_entry_eq]
  generalize (lg_sl ([.ref (ad (13 + q)), .int v]) ++ List.replicate (3 - (lg_sl ([.ref (ad (13 + q)), .int v])).length) Slot.unset).toArray = ls at hl ⊢
  have hl : lv_has ls 3 [(0, .ref (ad (13 + q))), (1, .int v)] := hl
  refine lv_iconst (v := nI 0) hx hb dX1_receive_0 (by decide +kernel) ?_
  refine lv_istore_n (lv' := [(2, .int (nI 0)), (0, .ref (ad (13 + q))), (1, .int v)]) hx hb dX1_receive_1 rfl hl (by decide) rfl (fun ls hl => ?_)
  refine lp_X1_receive hx hb hml hU hown hR hcs hq (σ.1 12 q) 0 _ _ _ _ hc h (lv_sub hl [1, 2, 0] rfl) (fun H locs ls h hl => ?_)
  exact W.vret hx hb hr (fun t ht hW => ⟨⟨_, rfl, rfl, h.at ht hW⟩, h.2.2.2.2.F ht⟩) h.2.2.2.2.2.2 dX1_receive_54
