/-! ===== the reference: where a token lies; start; actor, edge, delay ===== -/
def M_at (μ : MS) (e k : Nat) : Nat := 910 * e + (μ.1 13 e + k) % 910
theorem M_at_lt (μ : MS) {e : Nat} (k : Nat) (he : e < 12) : M_at μ e k < 10920 := by
  have := Nat.mod_lt (μ.1 13 e + k) (show 0 < 910 by decide)
  unfold M_at; omega
set_option maxRecDepth 100000 in
set_option maxHeartbeats 4000000 in
theorem c_X4_at (l : Launch) (D : va_G) (cy : Nat → ClassId) (bd : Nat → Nat) (μ : MS) (sz : Nat) {e k : Nat} (he : e < 12) (h1 : μ.1 13 e < 2 ^ 20) (h2 : k < 2 ^ 20) : MMi l D cy bd yX4_at cX4_at 3 .int (rmd 0) [.ref (bd 0), .int (nI e), .int (nI k)] μ sz (fun r u => r = nI (M_at μ e k) ∧ u = μ) := by
  refine Met.ofW (cc := cX4_at) (maxL := 3) (ret := (some .int)) (by decide) rfl ?_
  intro p ev s m args below meth c s₁ B hml hv
  obtain ⟨rfl, hw⟩ := hv
  have hx := B.exec
  have hb := B.bytes
  have hr := B.returns
  have hlk := B.notSynchronized
  have hU : ∀ w ∈ UW, w.before _ s = true := fun w hw => atoms_spec (ws := Cond.code yX4_at cX4_at 3 (some .int) :: UW) B.pre w (List.mem_cons_of_mem _ hw)
  have hown : s.vm.findClass RX4 = some m.cls := findClass_of_methodNamed B.named
  have hR : 0 ≤ (headSpec (Cond.code yX4_at cX4_at 3 (some .int) :: UW) (rmd 0)).room.frames ∧ 32 * 0 ≤ (headSpec (Cond.code yX4_at cX4_at 3 (some .int) :: UW) (rmd 0)).room.locals := ⟨Nat.le_refl _, Nat.le_refl _⟩
  have hcs : 0 ≤ (headSpec (Cond.code yX4_at cX4_at 3 (some .int) :: UW) (rmd 0)).room.cells ∧ 0 ≤ (headSpec (Cond.code yX4_at cX4_at 3 (some .int) :: UW) (rmd 0)).room.slots := ⟨Nat.zero_le _, Nat.zero_le _⟩
  have h := WX.start hw
  clear hw
  generalize va_A (wv _ _ _) _ = A at h ⊢
  have hl := lv_entry ([.ref (bd 0), .int (nI e), .int (nI k)]) (n := 3) (Nat.le_of_ble_eq_true rfl)
  rw [lg_entry_eq]
  generalize (lg_sl ([.ref (bd 0), .int (nI e), .int (nI k)]) ++ List.replicate (3 - (lg_sl ([.ref (bd 0), .int (nI e), .int (nI k)])).length) Slot.unset).toArray = ls at hl ⊢
  have hl : lv_has ls 3 [(0, .ref (bd 0)), (1, .int (nI e)), (2, .int (nI k))] := hl
  refine lv_sipush (v := nI 910) hx hb dX4_at_0 (by decide +kernel) ?_
  refine lv_iload_n hx hb dX4_at_3 rfl (lv_at hl 1 rfl) ?_
  refine n_imul hx hb dX4_at_4 ?_
  refine lv_aload_n hx hb dX4_at_5 rfl (lv_at hl 0 rfl) ?_
  refine m_g hx hb hU hown h 13 (by decide) ufX4_40 (v := .ref (bd 11)) rfl dX4_at_6 ?_
  refine lv_iload_n hx hb dX4_at_9 rfl (lv_at hl 1 rfl) ?_
  refine m_iN hx hb h 13 12 ⟨rfl, by unfold mA; omega⟩ rfl (by omega) (v := μ.1 13 e) rfl dX4_at_10 ?_
  refine lv_iload_n hx hb dX4_at_11 rfl (lv_at hl 2 rfl) ?_
  refine n_iadd hx hb dX4_at_12 ?_
  refine lv_sipush (v := nI 910) hx hb dX4_at_13 (by decide +kernel) ?_
  refine n_irem hx hb (by omega) (by omega) (by omega) dX4_at_16 ?_
  refine n_iadd hx hb dX4_at_17 ?_
  exact W.iret (v := nI ((910 * e) + (((μ.1 13 e) + k) % 910))) hx hb hr (fun t ht hW => ⟨⟨_, _, rfl, ⟨rfl, rfl⟩, h.at ht hW⟩, h.2.2.2.2.F ht⟩) h.2.2.2.2.2.2 dX4_at_18
def M_look (μ : MS) (e : Nat) (y : Int32) : Int32 := if inR y (μ.1 14 e) = true then μ.2 12 (M_at μ e (tn y)) else nI 0
set_option maxRecDepth 100000 in
set_option maxHeartbeats 4000000 in
theorem c_X4_token (l : Launch) (D : va_G) (cy : Nat → ClassId) (bd : Nat → Nat) (μ : MS) (sz : Nat) {x y : Int32} (h1 : μ.1 1 0 ≤ 12) (h2 : ∀ e, e < μ.1 1 0 → μ.1 14 e < 2 ^ 18 ∧ μ.1 13 e < 2 ^ 18) : MMi l D cy bd yX4_token cX4_token 3 .int (rmd 2) [.ref (bd 0), .int x, .int y] μ sz (fun r u => r = (if inR x (μ.1 1 0) = true then M_look μ (tn x) y else nI 0) ∧ u = mN μ 2 0 0) := by
  refine Met.ofW (cc := cX4_token) (maxL := 3) (ret := (some .int)) (by decide) rfl ?_
  intro p ev s m args below meth c s₁ B hml hv
  obtain ⟨rfl, hw⟩ := hv
  have hx := B.exec
  have hb := B.bytes
  have hr := B.returns
  have hlk := B.notSynchronized
  have hU : ∀ w ∈ UW, w.before _ s = true := fun w hw => atoms_spec (ws := Cond.code yX4_token cX4_token 3 (some .int) :: UW) B.pre w (List.mem_cons_of_mem _ hw)
  have hown : s.vm.findClass RX4 = some m.cls := findClass_of_methodNamed B.named
  have hR : 2 ≤ (headSpec (Cond.code yX4_token cX4_token 3 (some .int) :: UW) (rmd 2)).room.frames ∧ 32 * 2 ≤ (headSpec (Cond.code yX4_token cX4_token 3 (some .int) :: UW) (rmd 2)).room.locals := ⟨Nat.le_refl _, Nat.le_refl _⟩
  have hcs : 0 ≤ (headSpec (Cond.code yX4_token cX4_token 3 (some .int) :: UW) (rmd 2)).room.cells ∧ 0 ≤ (headSpec (Cond.code yX4_token cX4_token 3 (some .int) :: UW) (rmd 2)).room.slots := ⟨Nat.zero_le _, Nat.zero_le _⟩
  have h := WX.start hw
  clear hw
  generalize va_A (wv _ _ _) _ = A at h ⊢
  have hl := lv_entry ([.ref (bd 0), .int x, .int y]) (n := 3) (Nat.le_of_ble_eq_true rfl)
  rw [lg_entry_eq]
  generalize (lg_sl ([.ref (bd 0), .int x, .int y]) ++ List.replicate (3 - (lg_sl ([.ref (bd 0), .int x, .int y])).length) Slot.unset).toArray = ls at hl ⊢
  have hl : lv_has ls 3 [(0, .ref (bd 0)), (1, .int x), (2, .int y)] := hl
  refine lv_aload_n hx hb dX4_token_0 rfl (lv_at hl 0 rfl) ?_
  refine lv_iconst (v := nI 0) hx hb dX4_token_1 (by decide +kernel) ?_
  refine m_p hx hb hU hown h 2 (by decide) ufX4_71 dX4_token_2 (fun H locs h => ?_)
  refine lv_aload_n hx hb dX4_token_5 rfl (lv_at hl 0 rfl) ?_
  refine lv_iload_n hx hb dX4_token_6 rfl (lv_at hl 1 rfl) ?_
  refine y_calli hx hb hml hU hown hR hcs h (c_X4_isEdge l D cy bd (mN μ 2 0 0) _ (x := x) (by rw [mN_k _ _ _ _ (by decide)]; omega)) umX4_98 ui_X4_isEdge us_X4_isEdge unX4 uc_X4_isEdge hd_X4_isEdge (by decide) (by decide) (m_recv h) hl.1 rfl (Nat.le_of_ble_eq_true rfl) dX4_token_7 (fun r u H locs hw h => ?_)
  obtain ⟨rfl, hu⟩ := hw
  have h : XM D cy bd s A H locs (mN μ 2 0 0) := by rw [← hu]; exact h
  clear hu
  refine z_if_eq (tgt := 43) hx hb dX4_token_10 (by decide) (fun c_10 => ?_) (fun c_10 => ?_)
  · refine lv_iconst (v := nI 0) hx hb dX4_token_43 (by decide +kernel) ?_
    exact W.iret (v := nI 0) hx hb hr (fun t ht hW => ⟨⟨_, _, rfl, ⟨by first | (rw [if_neg (by rw [show inR x (μ.1 1 0) = false from c_10]; decide)]; done) | (rw [if_pos c5]; simp only [tn]; rw [nI_clamp (by omega)]; unfold M_look; rw [if_neg (by rw [show inR y (μ.1 14 j) = false from by rw [← wiI_in (by omega)]; exact c_26]; decide)]; done) | (rw [if_pos c5]; simp only [tn]; rw [nI_clamp (by omega)]; unfold M_look; rw [if_pos c6]; simp only [tn]; rw [nI_clamp (by omega)]; rfl), rfl⟩, h.at ht hW⟩, h.2.2.2.2.F ht⟩) h.2.2.2.2.2.2 dX4_token_44
  · have c5 : inR x (μ.1 1 0) = true := c_10
    obtain ⟨j, hj, rfl⟩ := inR_of (by omega) c5
    have h9 := h2 j hj
    refine lv_iload_n hx hb dX4_token_13 rfl (lv_at hl 2 rfl) ?_
    refine lv_iconst (v := nI 0) hx hb dX4_token_14 (by decide +kernel) ?_
    refine lv_aload_n hx hb dX4_token_15 rfl (lv_at hl 0 rfl) ?_
    refine m_g hx hb hU hown h 14 (by decide) ufX4_43 (v := .ref (bd 12)) (by first | rfl | (simp [mO, mN, mI, up2]; done)) dX4_token_16 ?_
    refine lv_iload_n hx hb dX4_token_19 rfl (lv_at hl 1 rfl) ?_
    refine m_iN hx hb h 14 12 ⟨rfl, by unfold mA; omega⟩ rfl (by omega) (v := μ.1 14 j) (by simp [mN, mI, up2]) dX4_token_20 ?_
    refine lv_iconst (v := nI 1) hx hb dX4_token_21 (by decide +kernel) ?_
    refine lv_isub hx hb dX4_token_22 ?_
    refine y_callSi hx hb hml hU hown hR hcs h (c_X4_within l D cy bd (mN μ 2 0 0) _ (x := y) (a := nI 0) (b := ((nI (μ.1 14 j)) - (nI 1)))) umX4_87 uz_X4_within unX4 uc_X4_within hd_X4_within.2 (by decide) (by decide) hl.1 rfl (Nat.le_of_ble_eq_true rfl) dX4_token_23 (fun r u H locs hw h => ?_)
    obtain ⟨rfl, hu⟩ := hw
    have h : XM D cy bd s A H locs (mN μ 2 0 0) := by rw [← hu]; exact h
    clear hu
    refine z_if_eq (tgt := 43) hx hb dX4_token_26 (by decide) (fun c_26 => ?_) (fun c_26 => ?_)
    · refine lv_iconst (v := nI 0) hx hb dX4_token_43 (by decide +kernel) ?_
      exact W.iret (v := nI 0) hx hb hr (fun t ht hW => ⟨⟨_, _, rfl, ⟨by first | (rw [if_neg (by rw [show inR x (μ.1 1 0) = false from c_10]; decide)]; done) | (rw [if_pos c5]; simp only [tn]; rw [nI_clamp (by omega)]; unfold M_look; rw [if_neg (by rw [show inR y (μ.1 14 j) = false from by rw [← wiI_in (by omega)]; exact c_26]; decide)]; done) | (rw [if_pos c5]; simp only [tn]; rw [nI_clamp (by omega)]; unfold M_look; rw [if_pos c6]; simp only [tn]; rw [nI_clamp (by omega)]; rfl), rfl⟩, h.at ht hW⟩, h.2.2.2.2.F ht⟩) h.2.2.2.2.2.2 dX4_token_44
    · have c6 : inR y (μ.1 14 j) = true := by rw [← wiI_in (by omega)]; exact c_26
      obtain ⟨k, hk, rfl⟩ := inR_of (by omega) c6
      refine lv_aload_n hx hb dX4_token_29 rfl (lv_at hl 0 rfl) ?_
      refine m_g hx hb hU hown h 12 (by decide) ufX4_37 (v := .ref (bd 10)) (by first | rfl | (simp [mO, mN, mI, up2]; done)) dX4_token_30 ?_
      refine lv_aload_n hx hb dX4_token_33 rfl (lv_at hl 0 rfl) ?_
      refine lv_iload_n hx hb dX4_token_34 rfl (lv_at hl 1 rfl) ?_
      refine lv_iload_n hx hb dX4_token_35 rfl (lv_at hl 2 rfl) ?_
      refine y_calli hx hb hml hU hown hR hcs h (c_X4_at l D cy bd (mN μ 2 0 0) _ (e := j) (k := k) (by omega) (by rw [mN_k _ _ _ _ (by decide)]; omega) (by omega)) umX4_127 ui_X4_at us_X4_at unX4 uc_X4_at hd_X4_at (by decide) (by decide) (m_recv h) hl.1 rfl (Nat.le_of_ble_eq_true rfl) dX4_token_36 (fun r u H locs hw h => ?_)
      obtain ⟨rfl, hu⟩ := hw
      have h : XM D cy bd s A H locs (mN μ 2 0 0) := by rw [← hu]; exact h
      clear hu
      refine m_iI hx hb h 12 10920 rfl rfl (M_at_lt _ _ (by omega)) (v := μ.2 12 (M_at (mN μ 2 0 0) j k)) (by simp [mN, mI, up2]) dX4_token_39 ?_
      refine lv_goto (tgt := 44) hx hb dX4_token_40 (by decide) ?_
      exact W.iret (v := μ.2 12 (M_at (mN μ 2 0 0) j k)) hx hb hr (fun t ht hW => ⟨⟨_, _, rfl, ⟨by first | (rw [if_neg (by rw [show inR x (μ.1 1 0) = false from c_10]; decide)]; done) | (rw [if_pos c5]; simp only [tn]; rw [nI_clamp (by omega)]; unfold M_look; rw [if_neg (by rw [show inR y (μ.1 14 j) = false from by rw [← wiI_in (by omega)]; exact c_26]; decide)]; done) | (rw [if_pos c5]; simp only [tn]; rw [nI_clamp (by omega)]; unfold M_look; rw [if_pos c6]; simp only [tn]; rw [nI_clamp (by omega)]; rfl), rfl⟩, h.at ht hW⟩, h.2.2.2.2.F ht⟩) h.2.2.2.2.2.2 dX4_token_44
def M_st_a : Nat → MS → MS := fun n ν => mI (mI ν 5 n (ν.2 4 n)) 6 n (nI 0)
def M_st_k (e : Nat) : Nat → MS → MS := fun k ν => mI ν 12 (910 * e + k) (nI 0)
def M_st_e : Nat → MS → MS := fun e ν => itr (M_st_k e) 9 0 (mN (mN ν 13 e 0) 14 e (ν.1 11 e))
def M_start (μ : MS) : MS := itr M_st_e (μ.1 1 0) 0 (itr M_st_a (μ.1 0 0) 0 μ)
def M_changed (μ : MS) : MS := M_start (mN μ 15 0 0)
theorem itr_st_k_N (e : Nat) : ∀ (k i : Nat) (ν : MS), (itr (M_st_k e) k i ν).1 = ν.1 := by
  intro k
  induction k with
  | zero => intro i ν; rfl
  | succ k ih => intro i ν; exact (ih (i + 1) _).trans rfl
theorem M_st_e_N (e : Nat) (ν : MS) : (M_st_e e ν).1 = up2 (up2 ν.1 13 e 0) 14 e (ν.1 11 e) := itr_st_k_N e _ _ _
theorem itr_st_a_N : ∀ (k i : Nat) (ν : MS), (itr M_st_a k i ν).1 = ν.1 := by
  intro k
  induction k with
  | zero => intro i ν; rfl
  | succ k ih => intro i ν; exact (ih (i + 1) _).trans rfl
theorem itr_st_e_N : ∀ (k i : Nat) (ν : MS) {f : Nat} (n : Nat), f ≠ 13 → f ≠ 14 → (itr M_st_e k i ν).1 f n = ν.1 f n := by
  intro k
  induction k with
  | zero => intro i ν f n _ _; rfl
  | succ k ih => intro i ν f n h1 h2; exact (ih (i + 1) _ n h1 h2).trans (by rw [M_st_e_N, up2_k _ _ _ _ h2, up2_k _ _ _ _ h1])
theorem M_start_N (μ : MS) {f : Nat} (n : Nat) (h1 : f ≠ 13) (h2 : f ≠ 14) : (M_start μ).1 f n = μ.1 f n := by
  unfold M_start
  rw [itr_st_e_N _ _ _ n h1 h2, itr_st_a_N]
theorem M_changed_N (μ : MS) {f : Nat} (n : Nat) (h1 : f ≠ 13) (h2 : f ≠ 14) (h3 : f ≠ 15) : (M_changed μ).1 f n = μ.1 f n := by
  unfold M_changed
  rw [M_start_N _ n h1 h2, mN_k _ _ _ _ h3]
def M_C (μ : MS) : Prop := μ.1 0 0 ≤ 8 ∧ μ.1 1 0 ≤ 12
set_option maxRecDepth 100000 in
set_option maxHeartbeats 4000000 in
theorem lp_X4_start1 {p : Program} {l : Launch} {ev : Env} {R : Room} {s : State} {m : MethodId} {args : Array Value} {below : List Frame} {meth : Method} {c : Code} {cells slots : Nat} {Q : State → Prop} {D : va_G} {cy : Nat → ClassId} {bd : Nat → Nat} {A : Nat → Prop} (hx : p.tables.exec = Jvm.exec) (hb : c.code = cX4_start) (hml : c.maxLocals = 3) (hU : ∀ w ∈ UW, w.before args s = true) (hown : s.vm.findClass RX4 = some m.cls) (hR : 0 ≤ R.frames ∧ 32 * 0 ≤ R.locals) (hcs : cells ≤ R.cells ∧ slots ≤ R.slots)  :
    ∀ (k i : Nat) (τ : MS) (H : Heap) (locs : List Loc) (ls : Array Slot), (i + k = τ.1 0 0 ∧ τ.1 0 0 ≤ 8) → XM D cy bd s A H locs τ → lv_has ls 3 [(0, .ref (bd 0)), (1, .int (nI i))] → (∀ (H : Heap) (locs : List Loc) (ls : Array Slot), XM D cy bd s A H locs (itr M_st_a k i τ) → lv_has ls 3 [(0, .ref (bd 0))] → W p l ev R s m args below meth c H locs cells slots Q (F0 m 35 ls [])) → W p l ev R s m args below meth c H locs cells slots Q (F0 m 2 ls []) := by
  intro k
  induction k with
  | zero =>
    intro i τ H locs ls hc h hl K
    refine lv_iload_n hx hb dX4_start_2 rfl (lv_at hl 1 rfl) ?_
    refine lv_aload_n hx hb dX4_start_3 rfl (lv_at hl 0 rfl) ?_
    refine m_g hx hb hU hown h 0 (by decide) ufX4_75 (v := .int (nI (τ.1 0 0))) rfl dX4_start_4 ?_
    refine n_icmp_ge (tgt := 35) hx hb (by omega) (by omega) dX4_start_7 (by decide) (fun c_7 => ?_) (fun c_7 => absurd c_7 (by omega))
    exact K _ _ _ h (lv_sub hl [0] rfl)
  | succ k ih =>
    intro i τ H locs ls hc h hl K
    refine lv_iload_n hx hb dX4_start_2 rfl (lv_at hl 1 rfl) ?_
    refine lv_aload_n hx hb dX4_start_3 rfl (lv_at hl 0 rfl) ?_
    refine m_g hx hb hU hown h 0 (by decide) ufX4_75 (v := .int (nI (τ.1 0 0))) rfl dX4_start_4 ?_
    refine n_icmp_ge (tgt := 35) hx hb (by omega) (by omega) dX4_start_7 (by decide) (fun c_7 => absurd c_7 (by omega)) (fun c_7 => ?_)
    refine lv_aload_n hx hb dX4_start_10 rfl (lv_at hl 0 rfl) ?_
    refine m_g hx hb hU hown h 5 (by decide) ufX4_16 (v := .ref (bd 3)) rfl dX4_start_11 ?_
    refine lv_iload_n hx hb dX4_start_14 rfl (lv_at hl 1 rfl) ?_
    refine lv_aload_n hx hb dX4_start_15 rfl (lv_at hl 0 rfl) ?_
    refine m_g hx hb hU hown h 4 (by decide) ufX4_13 (v := .ref (bd 2)) rfl dX4_start_16 ?_
    refine lv_iload_n hx hb dX4_start_19 rfl (lv_at hl 1 rfl) ?_
    refine m_iI hx hb h 4 8 rfl rfl (by omega) (v := τ.2 4 i) rfl dX4_start_20 ?_
    refine m_sI hx hb h 5 8 rfl rfl (v := τ.2 4 i) (by omega) dX4_start_21 (fun H locs h => ?_)
    refine lv_aload_n hx hb dX4_start_22 rfl (lv_at hl 0 rfl) ?_
    refine m_g hx hb hU hown h 6 (by decide) ufX4_19 (v := .ref (bd 4)) (by first | rfl | (simp [mO, mN, mI, up2]; done)) dX4_start_23 ?_
    refine lv_iload_n hx hb dX4_start_26 rfl (lv_at hl 1 rfl) ?_
    refine lv_iconst (v := nI 0) hx hb dX4_start_27 (by decide +kernel) ?_
    refine m_sI hx hb h 6 8 rfl rfl (v := nI 0) (by omega) dX4_start_28 (fun H locs h => ?_)
    refine lv_iinc (v := nI (i + 1)) (lv' := [(1, .int (nI (i + 1))), (0, .ref (bd 0))]) hx hb dX4_start_29 hl (k := 1) rfl (by rw [← nI_add]; rfl) (by decide) rfl (fun ls hl => ?_)
    refine lv_goto (tgt := 2) hx hb dX4_start_32 (by decide) ?_
    exact ih (i + 1) (mI (mI τ 5 i (τ.2 4 i)) 6 i (nI 0)) _ _ _ ⟨by show i + 1 + k = τ.1 0 0; omega, hc.2⟩ h (lv_sub hl [1, 0] rfl) K
set_option maxRecDepth 100000 in
set_option maxHeartbeats 4000000 in
theorem lp_X4_start2 {p : Program} {l : Launch} {ev : Env} {R : Room} {s : State} {m : MethodId} {args : Array Value} {below : List Frame} {meth : Method} {c : Code} {cells slots : Nat} {Q : State → Prop} {D : va_G} {cy : Nat → ClassId} {bd : Nat → Nat} {A : Nat → Prop} (hx : p.tables.exec = Jvm.exec) (hb : c.code = cX4_start) (hml : c.maxLocals = 3) (hU : ∀ w ∈ UW, w.before args s = true) (hown : s.vm.findClass RX4 = some m.cls) (hR : 0 ≤ R.frames ∧ 32 * 0 ≤ R.locals) (hcs : cells ≤ R.cells ∧ slots ≤ R.slots) {j : Nat} (hj : j < 12) :
    ∀ (k i : Nat) (τ : MS) (H : Heap) (locs : List Loc) (ls : Array Slot), (i + k = 9) → XM D cy bd s A H locs τ → lv_has ls 3 [(0, .ref (bd 0)), (1, .int (nI j)), (2, .int (nI i))] → (∀ (H : Heap) (locs : List Loc) (ls : Array Slot), XM D cy bd s A H locs (itr (M_st_k j) k i τ) → lv_has ls 3 [(0, .ref (bd 0)), (1, .int (nI j))] → W p l ev R s m args below meth c H locs cells slots Q (F0 m 91 ls [])) → W p l ev R s m args below meth c H locs cells slots Q (F0 m 66 ls []) := by
  intro k
  induction k with
  | zero =>
    intro i τ H locs ls hc h hl K
    refine lv_iload_n hx hb dX4_start_66 rfl (lv_at hl 2 rfl) ?_
    refine lv_bipush (v := nI 9) hx hb dX4_start_67 (by decide +kernel) ?_
    refine n_icmp_ge (tgt := 91) hx hb (by omega) (by omega) dX4_start_69 (by decide) (fun c_69 => ?_) (fun c_69 => absurd c_69 (by omega))
    exact K _ _ _ h (lv_sub hl [0, 1] rfl)
  | succ k ih =>
    intro i τ H locs ls hc h hl K
    refine lv_iload_n hx hb dX4_start_66 rfl (lv_at hl 2 rfl) ?_
    refine lv_bipush (v := nI 9) hx hb dX4_start_67 (by decide +kernel) ?_
    refine n_icmp_ge (tgt := 91) hx hb (by omega) (by omega) dX4_start_69 (by decide) (fun c_69 => absurd c_69 (by omega)) (fun c_69 => ?_)
    refine lv_aload_n hx hb dX4_start_72 rfl (lv_at hl 0 rfl) ?_
    refine m_g hx hb hU hown h 12 (by decide) ufX4_37 (v := .ref (bd 10)) rfl dX4_start_73 ?_
    refine lv_sipush (v := nI 910) hx hb dX4_start_76 (by decide +kernel) ?_
    refine lv_iload_n hx hb dX4_start_79 rfl (lv_at hl 1 rfl) ?_
    refine n_imul hx hb dX4_start_80 ?_
    refine lv_iload_n hx hb dX4_start_81 rfl (lv_at hl 2 rfl) ?_
    refine n_iadd hx hb dX4_start_82 ?_
    refine lv_iconst (v := nI 0) hx hb dX4_start_83 (by decide +kernel) ?_
    refine m_sI hx hb h 12 10920 rfl rfl (v := nI 0) (by omega) dX4_start_84 (fun H locs h => ?_)
    refine lv_iinc (v := nI (i + 1)) (lv' := [(2, .int (nI (i + 1))), (0, .ref (bd 0)), (1, .int (nI j))]) hx hb dX4_start_85 hl (k := 2) rfl (by rw [← nI_add]; rfl) (by decide) rfl (fun ls hl => ?_)
    refine lv_goto (tgt := 66) hx hb dX4_start_88 (by decide) ?_
    exact ih (i + 1) (mI τ 12 ((910 * j) + i) (nI 0)) _ _ _ (by omega) h (lv_sub hl [1, 2, 0] rfl) K
set_option maxRecDepth 100000 in
set_option maxHeartbeats 4000000 in
theorem lp_X4_start3 {p : Program} {l : Launch} {ev : Env} {R : Room} {s : State} {m : MethodId} {args : Array Value} {below : List Frame} {meth : Method} {c : Code} {cells slots : Nat} {Q : State → Prop} {D : va_G} {cy : Nat → ClassId} {bd : Nat → Nat} {A : Nat → Prop} (hx : p.tables.exec = Jvm.exec) (hb : c.code = cX4_start) (hml : c.maxLocals = 3) (hU : ∀ w ∈ UW, w.before args s = true) (hown : s.vm.findClass RX4 = some m.cls) (hR : 0 ≤ R.frames ∧ 32 * 0 ≤ R.locals) (hcs : cells ≤ R.cells ∧ slots ≤ R.slots)  :
    ∀ (k i : Nat) (τ : MS) (H : Heap) (locs : List Loc) (ls : Array Slot), (i + k = τ.1 1 0 ∧ τ.1 1 0 ≤ 12) → XM D cy bd s A H locs τ → lv_has ls 3 [(0, .ref (bd 0)), (1, .int (nI i))] → (∀ (H : Heap) (locs : List Loc) (ls : Array Slot), XM D cy bd s A H locs (itr M_st_e k i τ) → lv_has ls 3 [(0, .ref (bd 0))] → W p l ev R s m args below meth c H locs cells slots Q (F0 m 97 ls [])) → W p l ev R s m args below meth c H locs cells slots Q (F0 m 37 ls []) := by
  intro k
  induction k with
  | zero =>
    intro i τ H locs ls hc h hl K
    refine lv_iload_n hx hb dX4_start_37 rfl (lv_at hl 1 rfl) ?_
    refine lv_aload_n hx hb dX4_start_38 rfl (lv_at hl 0 rfl) ?_
    refine m_g hx hb hU hown h 1 (by decide) ufX4_78 (v := .int (nI (τ.1 1 0))) rfl dX4_start_39 ?_
    refine n_icmp_ge (tgt := 97) hx hb (by omega) (by omega) dX4_start_42 (by decide) (fun c_42 => ?_) (fun c_42 => absurd c_42 (by omega))
    exact K _ _ _ h (lv_sub hl [0] rfl)
  | succ k ih =>
    intro i τ H locs ls hc h hl K
    refine lv_iload_n hx hb dX4_start_37 rfl (lv_at hl 1 rfl) ?_
    refine lv_aload_n hx hb dX4_start_38 rfl (lv_at hl 0 rfl) ?_
    refine m_g hx hb hU hown h 1 (by decide) ufX4_78 (v := .int (nI (τ.1 1 0))) rfl dX4_start_39 ?_
    refine n_icmp_ge (tgt := 97) hx hb (by omega) (by omega) dX4_start_42 (by decide) (fun c_42 => absurd c_42 (by omega)) (fun c_42 => ?_)
    refine lv_aload_n hx hb dX4_start_45 rfl (lv_at hl 0 rfl) ?_
    refine m_g hx hb hU hown h 13 (by decide) ufX4_40 (v := .ref (bd 11)) rfl dX4_start_46 ?_
    refine lv_iload_n hx hb dX4_start_49 rfl (lv_at hl 1 rfl) ?_
    refine lv_iconst (v := nI 0) hx hb dX4_start_50 (by decide +kernel) ?_
    refine m_sN hx hb h 13 12 ⟨rfl, by unfold mA; omega⟩ rfl (by omega) dX4_start_51 (fun H locs h => ?_)
    refine lv_aload_n hx hb dX4_start_52 rfl (lv_at hl 0 rfl) ?_
    refine m_g hx hb hU hown h 14 (by decide) ufX4_43 (v := .ref (bd 12)) (by first | rfl | (simp [mO, mN, mI, up2]; done)) dX4_start_53 ?_
    refine lv_iload_n hx hb dX4_start_56 rfl (lv_at hl 1 rfl) ?_
    refine lv_aload_n hx hb dX4_start_57 rfl (lv_at hl 0 rfl) ?_
    refine m_g hx hb hU hown h 11 (by decide) ufX4_34 (v := .ref (bd 9)) (by first | rfl | (simp [mO, mN, mI, up2]; done)) dX4_start_58 ?_
    refine lv_iload_n hx hb dX4_start_61 rfl (lv_at hl 1 rfl) ?_
    refine m_iN hx hb h 11 12 ⟨rfl, by unfold mA; omega⟩ rfl (by omega) (v := τ.1 11 i) (by simp [mN, mI, up2]) dX4_start_62 ?_
    refine m_sN hx hb h 14 12 ⟨rfl, by unfold mA; omega⟩ rfl (by omega) dX4_start_63 (fun H locs h => ?_)
    refine lv_iconst (v := nI 0) hx hb dX4_start_64 (by decide +kernel) ?_
    refine lv_istore_n (lv' := [(2, .int (nI 0)), (0, .ref (bd 0)), (1, .int (nI i))]) hx hb dX4_start_65 rfl hl (by decide) rfl (fun ls hl => ?_)
    refine lp_X4_start2 hx hb hml hU hown hR hcs (by omega) (9) 0 (mN (mN τ 13 i 0) 14 i (τ.1 11 i)) _ _ _ (by omega) h (lv_sub hl [1, 2, 0] rfl) (fun H locs ls h hl => ?_)
    refine lv_iinc (v := nI (i + 1)) (lv' := [(1, .int (nI (i + 1))), (0, .ref (bd 0))]) hx hb dX4_start_91 hl (k := 1) rfl (by rw [← nI_add]; rfl) (by decide) rfl (fun ls hl => ?_)
    refine lv_goto (tgt := 37) hx hb dX4_start_94 (by decide) ?_
    exact ih (i + 1) (itr (M_st_k i) 9 0 (mN (mN τ 13 i 0) 14 i (τ.1 11 i))) _ _ _ ⟨by show i + 1 + k = (M_st_e i τ).1 1 0; rw [M_st_e_N, up2_k _ _ _ _ (by decide), up2_k _ _ _ _ (by decide)]; omega, by show (M_st_e i τ).1 1 0 ≤ 12; rw [M_st_e_N, up2_k _ _ _ _ (by decide), up2_k _ _ _ _ (by decide)]; exact hc.2⟩ h (lv_sub hl [1, 0] rfl) K
set_option maxRecDepth 100000 in
set_option maxHeartbeats 4000000 in
theorem c_X4_start (l : Launch) (D : va_G) (cy : Nat → ClassId) (bd : Nat → Nat) (μ : MS) (sz : Nat) (hc : M_C μ) : MMv l D cy bd yX4_start cX4_start 3 (rmd 0) [.ref (bd 0)] μ sz (fun u => u = M_start μ) := by
  refine Met.ofW (cc := cX4_start) (maxL := 3) (ret := none) (by decide) rfl ?_
  intro p ev s m args below meth c s₁ B hml hv
  obtain ⟨rfl, hw⟩ := hv
  have hx := B.exec
  have hb := B.bytes
  have hr := B.returns
  have hlk := B.notSynchronized
  have hU : ∀ w ∈ UW, w.before _ s = true := fun w hw => atoms_spec (ws := Cond.code yX4_start cX4_start 3 none :: UW) B.pre w (List.mem_cons_of_mem _ hw)
  have hown : s.vm.findClass RX4 = some m.cls := findClass_of_methodNamed B.named
  have hR : 0 ≤ (headSpec (Cond.code yX4_start cX4_start 3 none :: UW) (rmd 0)).room.frames ∧ 32 * 0 ≤ (headSpec (Cond.code yX4_start cX4_start 3 none :: UW) (rmd 0)).room.locals := ⟨Nat.le_refl _, Nat.le_refl _⟩
  have hcs : 0 ≤ (headSpec (Cond.code yX4_start cX4_start 3 none :: UW) (rmd 0)).room.cells ∧ 0 ≤ (headSpec (Cond.code yX4_start cX4_start 3 none :: UW) (rmd 0)).room.slots := ⟨Nat.zero_le _, Nat.zero_le _⟩
  have h := WX.start hw
  clear hw
  generalize va_A (wv _ _ _) _ = A at h ⊢
  have hl := lv_entry ([.ref (bd 0)]) (n := 3) (Nat.le_of_ble_eq_true rfl)
  rw [lg_entry_eq]
  generalize (lg_sl ([.ref (bd 0)]) ++ List.replicate (3 - (lg_sl ([.ref (bd 0)])).length) Slot.unset).toArray = ls at hl ⊢
  have hl : lv_has ls 3 [(0, .ref (bd 0))] := hl
  refine lv_iconst (v := nI 0) hx hb dX4_start_0 (by decide +kernel) ?_
  refine lv_istore_n (lv' := [(1, .int (nI 0)), (0, .ref (bd 0))]) hx hb dX4_start_1 rfl hl (by decide) rfl (fun ls hl => ?_)
  refine lp_X4_start1 hx hb hml hU hown hR hcs  (μ.1 0 0) 0 μ _ _ _ ⟨Nat.zero_add _, hc.1⟩ h (lv_sub hl [1, 0] rfl) (fun H locs ls h hl => ?_)
  refine lv_iconst (v := nI 0) hx hb dX4_start_35 (by decide +kernel) ?_
  refine lv_istore_n (lv' := [(1, .int (nI 0)), (0, .ref (bd 0))]) hx hb dX4_start_36 rfl hl (by decide) rfl (fun ls hl => ?_)
  refine lp_X4_start3 hx hb hml hU hown hR hcs  (μ.1 1 0) 0 (itr M_st_a (μ.1 0 0) 0 μ) _ _ _ ⟨by rw [itr_st_a_N]; exact Nat.zero_add _, by rw [itr_st_a_N]; exact hc.2⟩ h (lv_sub hl [1, 0] rfl) (fun H locs ls h hl => ?_)
  exact W.vret hx hb hr (fun t ht hW => ⟨⟨_, rfl, rfl, h.at ht hW⟩, h.2.2.2.2.F ht⟩) h.2.2.2.2.2.2 dX4_start_97
set_option maxRecDepth 100000 in
set_option maxHeartbeats 4000000 in
theorem c_X4_changed (l : Launch) (D : va_G) (cy : Nat → ClassId) (bd : Nat → Nat) (μ : MS) (sz : Nat) (hc : M_C μ) : MMv l D cy bd yX4_changed cX4_changed 1 (rmd 1) [.ref (bd 0)] μ sz (fun u => u = M_changed μ) := by
  refine Met.ofW (cc := cX4_changed) (maxL := 1) (ret := none) (by decide) rfl ?_
  intro p ev s m args below meth c s₁ B hml hv
  obtain ⟨rfl, hw⟩ := hv
  have hx := B.exec
  have hb := B.bytes
  have hr := B.returns
  have hlk := B.notSynchronized
  have hU : ∀ w ∈ UW, w.before _ s = true := fun w hw => atoms_spec (ws := Cond.code yX4_changed cX4_changed 1 none :: UW) B.pre w (List.mem_cons_of_mem _ hw)
  have hown : s.vm.findClass RX4 = some m.cls := findClass_of_methodNamed B.named
  have hR : 1 ≤ (headSpec (Cond.code yX4_changed cX4_changed 1 none :: UW) (rmd 1)).room.frames ∧ 32 * 1 ≤ (headSpec (Cond.code yX4_changed cX4_changed 1 none :: UW) (rmd 1)).room.locals := ⟨Nat.le_refl _, Nat.le_refl _⟩
  have hcs : 0 ≤ (headSpec (Cond.code yX4_changed cX4_changed 1 none :: UW) (rmd 1)).room.cells ∧ 0 ≤ (headSpec (Cond.code yX4_changed cX4_changed 1 none :: UW) (rmd 1)).room.slots := ⟨Nat.zero_le _, Nat.zero_le _⟩
  have h := WX.start hw
  clear hw
  generalize va_A (wv _ _ _) _ = A at h ⊢
  have hl := lv_entry ([.ref (bd 0)]) (n := 1) (Nat.le_of_ble_eq_true rfl)
  rw [lg_entry_eq]
  generalize (lg_sl ([.ref (bd 0)]) ++ List.replicate (1 - (lg_sl ([.ref (bd 0)])).length) Slot.unset).toArray = ls at hl ⊢
  have hl : lv_has ls 1 [(0, .ref (bd 0))] := hl
  refine lv_aload_n hx hb dX4_changed_0 rfl (lv_at hl 0 rfl) ?_
  refine lv_iconst (v := nI 0) hx hb dX4_changed_1 (by decide +kernel) ?_
  refine m_p hx hb hU hown h 15 (by decide) ufX4_81 dX4_changed_2 (fun H locs h => ?_)
  refine lv_aload_n hx hb dX4_changed_5 rfl (lv_at hl 0 rfl) ?_
  refine y_callv hx hb hml hU hown hR hcs h (c_X4_start l D cy bd (mN μ 15 0 0) _ hc) umX4_84 ui_X4_start us_X4_start unX4 uc_X4_start hd_X4_start (by decide) (by decide) (m_recv h) hl.1 rfl (Nat.le_of_ble_eq_true rfl) dX4_changed_6 (fun u H locs hw h => ?_)
  have hu := hw
  have h : XM D cy bd s A H locs (M_start (mN μ 15 0 0)) := by rw [← hu]; exact h
  clear hu
  exact W.vret hx hb hr (fun t ht hW => ⟨⟨_, rfl, rfl, h.at ht hW⟩, h.2.2.2.2.F ht⟩) h.2.2.2.2.2.2 dX4_changed_9
set_option maxRecDepth 100000 in
set_option maxHeartbeats 4000000 in
theorem c_X4_reset (l : Launch) (D : va_G) (cy : Nat → ClassId) (bd : Nat → Nat) (μ : MS) (sz : Nat) (hc : M_C μ) : MMv l D cy bd yX4_reset cX4_reset 1 (rmd 1) [.ref (bd 0)] μ sz (fun u => u = M_start (mN μ 2 0 0)) := by
  refine Met.ofW (cc := cX4_reset) (maxL := 1) (ret := none) (by decide) rfl ?_
  intro p ev s m args below meth c s₁ B hml hv
  obtain ⟨rfl, hw⟩ := hv
  have hx := B.exec
  have hb := B.bytes
  have hr := B.returns
  have hlk := B.notSynchronized
  have hU : ∀ w ∈ UW, w.before _ s = true := fun w hw => atoms_spec (ws := Cond.code yX4_reset cX4_reset 1 none :: UW) B.pre w (List.mem_cons_of_mem _ hw)
  have hown : s.vm.findClass RX4 = some m.cls := findClass_of_methodNamed B.named
  have hR : 1 ≤ (headSpec (Cond.code yX4_reset cX4_reset 1 none :: UW) (rmd 1)).room.frames ∧ 32 * 1 ≤ (headSpec (Cond.code yX4_reset cX4_reset 1 none :: UW) (rmd 1)).room.locals := ⟨Nat.le_refl _, Nat.le_refl _⟩
  have hcs : 0 ≤ (headSpec (Cond.code yX4_reset cX4_reset 1 none :: UW) (rmd 1)).room.cells ∧ 0 ≤ (headSpec (Cond.code yX4_reset cX4_reset 1 none :: UW) (rmd 1)).room.slots := ⟨Nat.zero_le _, Nat.zero_le _⟩
  have h := WX.start hw
  clear hw
  generalize va_A (wv _ _ _) _ = A at h ⊢
  have hl := lv_entry ([.ref (bd 0)]) (n := 1) (Nat.le_of_ble_eq_true rfl)
  rw [lg_entry_eq]
  generalize (lg_sl ([.ref (bd 0)]) ++ List.replicate (1 - (lg_sl ([.ref (bd 0)])).length) Slot.unset).toArray = ls at hl ⊢
  have hl : lv_has ls 1 [(0, .ref (bd 0))] := hl
  refine lv_aload_n hx hb dX4_reset_0 rfl (lv_at hl 0 rfl) ?_
  refine lv_iconst (v := nI 0) hx hb dX4_reset_1 (by decide +kernel) ?_
  refine m_p hx hb hU hown h 2 (by decide) ufX4_71 dX4_reset_2 (fun H locs h => ?_)
  refine lv_aload_n hx hb dX4_reset_5 rfl (lv_at hl 0 rfl) ?_
  refine y_callv hx hb hml hU hown hR hcs h (c_X4_start l D cy bd (mN μ 2 0 0) _ hc) umX4_84 ui_X4_start us_X4_start unX4 uc_X4_start hd_X4_start (by decide) (by decide) (m_recv h) hl.1 rfl (Nat.le_of_ble_eq_true rfl) dX4_reset_6 (fun u H locs hw h => ?_)
  have hu := hw
  have h : XM D cy bd s A H locs (M_start (mN μ 2 0 0)) := by rw [← hu]; exact h
  clear hu
  exact W.vret hx hb hr (fun t ht hW => ⟨⟨_, rfl, rfl, h.at ht hW⟩, h.2.2.2.2.F ht⟩) h.2.2.2.2.2.2 dX4_reset_9
set_option maxRecDepth 100000 in
set_option maxHeartbeats 4000000 in
theorem c_X4_clear (l : Launch) (D : va_G) (cy : Nat → ClassId) (bd : Nat → Nat) (μ : MS) (sz : Nat)  : MMv l D cy bd yX4_clear cX4_clear 1 (rmd 0) [.ref (bd 0)] μ sz (fun u => u = mN (mN (mN (mN μ 2 0 0) 0 0 0) 1 0 0) 15 0 0) := by
  refine Met.ofW (cc := cX4_clear) (maxL := 1) (ret := none) (by decide) rfl ?_
  intro p ev s m args below meth c s₁ B hml hv
  obtain ⟨rfl, hw⟩ := hv
  have hx := B.exec
  have hb := B.bytes
  have hr := B.returns
  have hlk := B.notSynchronized
  have hU : ∀ w ∈ UW, w.before _ s = true := fun w hw => atoms_spec (ws := Cond.code yX4_clear cX4_clear 1 none :: UW) B.pre w (List.mem_cons_of_mem _ hw)
  have hown : s.vm.findClass RX4 = some m.cls := findClass_of_methodNamed B.named
  have hR : 0 ≤ (headSpec (Cond.code yX4_clear cX4_clear 1 none :: UW) (rmd 0)).room.frames ∧ 32 * 0 ≤ (headSpec (Cond.code yX4_clear cX4_clear 1 none :: UW) (rmd 0)).room.locals := ⟨Nat.le_refl _, Nat.le_refl _⟩
  have hcs : 0 ≤ (headSpec (Cond.code yX4_clear cX4_clear 1 none :: UW) (rmd 0)).room.cells ∧ 0 ≤ (headSpec (Cond.code yX4_clear cX4_clear 1 none :: UW) (rmd 0)).room.slots := ⟨Nat.zero_le _, Nat.zero_le _⟩
  have h := WX.start hw
  clear hw
  generalize va_A (wv _ _ _) _ = A at h ⊢
  have hl := lv_entry ([.ref (bd 0)]) (n := 1) (Nat.le_of_ble_eq_true rfl)
  rw [lg_entry_eq]
  generalize (lg_sl ([.ref (bd 0)]) ++ List.replicate (1 - (lg_sl ([.ref (bd 0)])).length) Slot.unset).toArray = ls at hl ⊢
  have hl : lv_has ls 1 [(0, .ref (bd 0))] := hl
  refine lv_aload_n hx hb dX4_clear_0 rfl (lv_at hl 0 rfl) ?_
  refine lv_iconst (v := nI 0) hx hb dX4_clear_1 (by decide +kernel) ?_
  refine m_p hx hb hU hown h 2 (by decide) ufX4_71 dX4_clear_2 (fun H locs h => ?_)
  refine lv_aload_n hx hb dX4_clear_5 rfl (lv_at hl 0 rfl) ?_
  refine lv_iconst (v := nI 0) hx hb dX4_clear_6 (by decide +kernel) ?_
  refine m_p hx hb hU hown h 0 (by decide) ufX4_75 dX4_clear_7 (fun H locs h => ?_)
  refine lv_aload_n hx hb dX4_clear_10 rfl (lv_at hl 0 rfl) ?_
  refine lv_iconst (v := nI 0) hx hb dX4_clear_11 (by decide +kernel) ?_
  refine m_p hx hb hU hown h 1 (by decide) ufX4_78 dX4_clear_12 (fun H locs h => ?_)
  refine lv_aload_n hx hb dX4_clear_15 rfl (lv_at hl 0 rfl) ?_
  refine lv_iconst (v := nI 0) hx hb dX4_clear_16 (by decide +kernel) ?_
  refine m_p hx hb hU hown h 15 (by decide) ufX4_81 dX4_clear_17 (fun H locs h => ?_)
  exact W.vret hx hb hr (fun t ht hW => ⟨⟨_, rfl, rfl, h.at ht hW⟩, h.2.2.2.2.F ht⟩) h.2.2.2.2.2.2 dX4_clear_20
def M_actor (μ : MS) (x y : Int32) : Int32 × MS :=
  if wi x 0 5 = false then (-1, mN μ 2 0 0) else
  if μ.1 0 0 = 8 then (-2, mN μ 2 0 0) else
  (nI (μ.1 0 0), M_changed (mN (mI (mI (mN μ 2 0 0) 3 (μ.1 0 0) x) 4 (μ.1 0 0) y) 0 0 (μ.1 0 0 + 1)))
def M_edge (μ : MS) (x1 x2 x3 x4 x5 : Int32) : Int32 × MS :=
  if (inR x1 (μ.1 0 0) && inR x2 (μ.1 0 0)) = false then (-1, mN μ 2 0 0) else
  if (wi x3 1 9 && (wi x4 1 9 && wi x5 0 9)) = false then (-2, mN μ 2 0 0) else
  if μ.1 1 0 = 12 then (-3, mN μ 2 0 0) else
  (nI (μ.1 1 0), M_changed (mN (mN (mN (mN (mN (mN (mN μ 2 0 0) 7 (μ.1 1 0) (tn x1)) 8 (μ.1 1 0) (tn x2)) 9 (μ.1 1 0) (tn x3)) 10 (μ.1 1 0) (tn x4)) 11 (μ.1 1 0) (tn x5)) 1 0 (μ.1 1 0 + 1)))
def M_delay (μ : MS) (x y : Int32) : Int32 × MS :=
  if (inR x (μ.1 1 0) && wi y 0 9) = false then (nI 0, mN μ 2 0 0) else (nI 1, M_changed (mN (mN μ 2 0 0) 11 (tn x) (tn y)))
set_option maxRecDepth 100000 in
set_option maxHeartbeats 4000000 in
theorem c_X4_actor (l : Launch) (D : va_G) (cy : Nat → ClassId) (bd : Nat → Nat) (μ : MS) (sz : Nat) {x y : Int32} (hc : M_C μ) : MMi l D cy bd yX4_actor cX4_actor 3 .int (rmd 2) [.ref (bd 0), .int x, .int y] μ sz (fun r u => r = (M_actor μ x y).1 ∧ u = (M_actor μ x y).2) := by
  refine Met.ofW (cc := cX4_actor) (maxL := 3) (ret := (some .int)) (by decide) rfl ?_
  intro p ev s m args below meth c s₁ B hml hv
  obtain ⟨rfl, hw⟩ := hv
  have hx := B.exec
  have hb := B.bytes
  have hr := B.returns
  have hlk := B.notSynchronized
  have hU : ∀ w ∈ UW, w.before _ s = true := fun w hw => atoms_spec (ws := Cond.code yX4_actor cX4_actor 3 (some .int) :: UW) B.pre w (List.mem_cons_of_mem _ hw)
  have hown : s.vm.findClass RX4 = some m.cls := findClass_of_methodNamed B.named
  have hR : 2 ≤ (headSpec (Cond.code yX4_actor cX4_actor 3 (some .int) :: UW) (rmd 2)).room.frames ∧ 32 * 2 ≤ (headSpec (Cond.code yX4_actor cX4_actor 3 (some .int) :: UW) (rmd 2)).room.locals := ⟨Nat.le_refl _, Nat.le_refl _⟩
  have hcs : 0 ≤ (headSpec (Cond.code yX4_actor cX4_actor 3 (some .int) :: UW) (rmd 2)).room.cells ∧ 0 ≤ (headSpec (Cond.code yX4_actor cX4_actor 3 (some .int) :: UW) (rmd 2)).room.slots := ⟨Nat.zero_le _, Nat.zero_le _⟩
  have h := WX.start hw
  clear hw
  generalize va_A (wv _ _ _) _ = A at h ⊢
  have hl := lv_entry ([.ref (bd 0), .int x, .int y]) (n := 3) (Nat.le_of_ble_eq_true rfl)
  rw [lg_entry_eq]
  generalize (lg_sl ([.ref (bd 0), .int x, .int y]) ++ List.replicate (3 - (lg_sl ([.ref (bd 0), .int x, .int y])).length) Slot.unset).toArray = ls at hl ⊢
  have hl : lv_has ls 3 [(0, .ref (bd 0)), (1, .int x), (2, .int y)] := hl
  have h8 := hc.1
  refine lv_aload_n hx hb dX4_actor_0 rfl (lv_at hl 0 rfl) ?_
  refine lv_iconst (v := nI 0) hx hb dX4_actor_1 (by decide +kernel) ?_
  refine m_p hx hb hU hown h 2 (by decide) ufX4_71 dX4_actor_2 (fun H locs h => ?_)
  refine lv_iload_n hx hb dX4_actor_5 rfl (lv_at hl 1 rfl) ?_
  refine lv_iconst (v := nI 0) hx hb dX4_actor_6 (by decide +kernel) ?_
  refine lv_iconst (v := nI 5) hx hb dX4_actor_7 (by decide +kernel) ?_
  refine y_callSi hx hb hml hU hown hR hcs h (c_X4_within l D cy bd (mN μ 2 0 0) _ (x := x) (a := nI 0) (b := nI 5)) umX4_87 uz_X4_within unX4 uc_X4_within hd_X4_within.2 (by decide) (by decide) hl.1 rfl (Nat.le_of_ble_eq_true rfl) dX4_actor_8 (fun r u H locs hw h => ?_)
  obtain ⟨rfl, hu⟩ := hw
  have h : XM D cy bd s A H locs (mN μ 2 0 0) := by rw [← hu]; exact h
  clear hu
  refine z_if_ne (tgt := 16) hx hb dX4_actor_11 (by decide) (fun c_11 => ?_) (fun c_11 => ?_)
  · refine lv_aload_n hx hb dX4_actor_16 rfl (lv_at hl 0 rfl) ?_
    refine m_g hx hb hU hown h 0 (by decide) ufX4_75 (v := .int (nI (μ.1 0 0))) (by first | rfl | (simp [mO, mN, mI, up2]; done)) dX4_actor_17 ?_
    refine lv_bipush (v := nI 8) hx hb dX4_actor_20 (by decide +kernel) ?_
    refine n_icmp_ne (tgt := 28) hx hb (by show μ.1 0 0 < _; omega) (by omega) dX4_actor_22 (by decide) (fun c_22 => ?_) (fun c_22 => ?_)
    · have c22 : ¬ μ.1 0 0 = 8 := c_22
      refine lv_aload_n hx hb dX4_actor_28 rfl (lv_at hl 0 rfl) ?_
      refine m_g hx hb hU hown h 3 (by decide) ufX4_7 (v := .ref (bd 1)) (by first | rfl | (simp [mO, mN, mI, up2]; done)) dX4_actor_29 ?_
      refine lv_aload_n hx hb dX4_actor_32 rfl (lv_at hl 0 rfl) ?_
      refine m_g hx hb hU hown h 0 (by decide) ufX4_75 (v := .int (nI (μ.1 0 0))) (by first | rfl | (simp [mO, mN, mI, up2]; done)) dX4_actor_33 ?_
      refine lv_iload_n hx hb dX4_actor_36 rfl (lv_at hl 1 rfl) ?_
      refine m_sI hx hb h 3 8 rfl rfl (v := x) (by show μ.1 0 0 < _; omega) dX4_actor_37 (fun H locs h => ?_)
      refine lv_aload_n hx hb dX4_actor_38 rfl (lv_at hl 0 rfl) ?_
      refine m_g hx hb hU hown h 4 (by decide) ufX4_13 (v := .ref (bd 2)) (by first | rfl | (simp [mO, mN, mI, up2]; done)) dX4_actor_39 ?_
      refine lv_aload_n hx hb dX4_actor_42 rfl (lv_at hl 0 rfl) ?_
      refine m_g hx hb hU hown h 0 (by decide) ufX4_75 (v := .int (nI (μ.1 0 0))) (by first | rfl | (simp [mO, mN, mI, up2]; done)) dX4_actor_43 ?_
      refine lv_iload_n hx hb dX4_actor_46 rfl (lv_at hl 2 rfl) ?_
      refine m_sI hx hb h 4 8 rfl rfl (v := y) (by show μ.1 0 0 < _; omega) dX4_actor_47 (fun H locs h => ?_)
      refine lv_aload_n hx hb dX4_actor_48 rfl (lv_at hl 0 rfl) ?_
      refine lv_dup hx hb dX4_actor_49 rfl ?_
      refine m_g hx hb hU hown h 0 (by decide) ufX4_75 (v := .int (nI (μ.1 0 0))) (by first | rfl | (simp [mO, mN, mI, up2]; done)) dX4_actor_50 ?_
      refine lv_iconst (v := nI 1) hx hb dX4_actor_53 (by decide +kernel) ?_
      refine n_iadd hx hb dX4_actor_54 ?_
      refine m_p hx hb hU hown h 0 (by decide) ufX4_75 dX4_actor_55 (fun H locs h => ?_)
      refine lv_aload_n hx hb dX4_actor_58 rfl (lv_at hl 0 rfl) ?_
      refine y_callv hx hb hml hU hown hR hcs h (c_X4_changed l D cy bd (mN (mI (mI (mN μ 2 0 0) 3 (μ.1 0 0) x) 4 (μ.1 0 0) y) 0 0 ((μ.1 0 0) + 1)) _ ⟨by rw [mN_e]; omega, by rw [mN_k _ _ _ _ (by decide)]; exact hc.2⟩) umX4_91 ui_X4_changed us_X4_changed unX4 uc_X4_changed hd_X4_changed (by decide) (by decide) (m_recv h) hl.1 rfl (Nat.le_of_ble_eq_true rfl) dX4_actor_59 (fun u H locs hw h => ?_)
      have hu := hw
      have h : XM D cy bd s A H locs (M_changed (mN (mI (mI (mN μ 2 0 0) 3 (μ.1 0 0) x) 4 (μ.1 0 0) y) 0 0 ((μ.1 0 0) + 1))) := by rw [← hu]; exact h
      clear hu
      refine lv_aload_n hx hb dX4_actor_62 rfl (lv_at hl 0 rfl) ?_
      refine m_g hx hb hU hown h 0 (by decide) ufX4_75 (v := .int (nI ((M_changed (mN (mI (mI (mN μ 2 0 0) 3 (μ.1 0 0) x) 4 (μ.1 0 0) y) 0 0 ((μ.1 0 0) + 1))).1 0 0))) rfl dX4_actor_63 ?_
      refine lv_iconst (v := nI 1) hx hb dX4_actor_66 (by decide +kernel) ?_
      refine n_isub hx hb (by rw [M_changed_N _ 0 (by decide) (by decide) (by decide), mN_e]; omega) dX4_actor_67 ?_
      exact W.iret (v := nI (((M_changed (mN (mI (mI (mN μ 2 0 0) 3 (μ.1 0 0) x) 4 (μ.1 0 0) y) 0 0 ((μ.1 0 0) + 1))).1 0 0) - 1)) hx hb hr (fun t ht hW => ⟨⟨_, _, rfl, (by first | (simp only [M_actor]; rw [if_pos (show wi x 0 5 = false from c_11)]; exact ⟨rfl, rfl⟩) | (simp only [M_actor]; rw [if_neg (by rw [show wi x 0 5 = true from c_11]; decide), if_pos (show μ.1 0 0 = 8 from c_22)]; exact ⟨rfl, rfl⟩) | (simp only [M_actor]; rw [if_neg (by rw [show wi x 0 5 = true from c_11]; decide), if_neg (show ¬ μ.1 0 0 = 8 from c_22), M_changed_N _ 0 (by decide) (by decide) (by decide), mN_e]; exact ⟨rfl, rfl⟩)), h.at ht hW⟩, h.2.2.2.2.F ht⟩) h.2.2.2.2.2.2 dX4_actor_68
    · refine lv_bipush (v := (-2)) hx hb dX4_actor_25 (by decide +kernel) ?_
      exact W.iret (v := (-2)) hx hb hr (fun t ht hW => ⟨⟨_, _, rfl, (by first | (simp only [M_actor]; rw [if_pos (show wi x 0 5 = false from c_11)]; exact ⟨rfl, rfl⟩) | (simp only [M_actor]; rw [if_neg (by rw [show wi x 0 5 = true from c_11]; decide), if_pos (show μ.1 0 0 = 8 from c_22)]; exact ⟨rfl, rfl⟩) | (simp only [M_actor]; rw [if_neg (by rw [show wi x 0 5 = true from c_11]; decide), if_neg (show ¬ μ.1 0 0 = 8 from c_22), M_changed_N _ 0 (by decide) (by decide) (by decide), mN_e]; exact ⟨rfl, rfl⟩)), h.at ht hW⟩, h.2.2.2.2.F ht⟩) h.2.2.2.2.2.2 dX4_actor_27
  · refine lv_iconst (v := (-1)) hx hb dX4_actor_14 (by decide +kernel) ?_
    exact W.iret (v := (-1)) hx hb hr (fun t ht hW => ⟨⟨_, _, rfl, (by first | (simp only [M_actor]; rw [if_pos (show wi x 0 5 = false from c_11)]; exact ⟨rfl, rfl⟩) | (simp only [M_actor]; rw [if_neg (by rw [show wi x 0 5 = true from c_11]; decide), if_pos (show μ.1 0 0 = 8 from c_22)]; exact ⟨rfl, rfl⟩) | (simp only [M_actor]; rw [if_neg (by rw [show wi x 0 5 = true from c_11]; decide), if_neg (show ¬ μ.1 0 0 = 8 from c_22), M_changed_N _ 0 (by decide) (by decide) (by decide), mN_e]; exact ⟨rfl, rfl⟩)), h.at ht hW⟩, h.2.2.2.2.F ht⟩) h.2.2.2.2.2.2 dX4_actor_15
set_option maxRecDepth 100000 in
set_option maxHeartbeats 4000000 in
theorem c_X4_delay (l : Launch) (D : va_G) (cy : Nat → ClassId) (bd : Nat → Nat) (μ : MS) (sz : Nat) {x y : Int32} (hc : M_C μ) : MMi l D cy bd yX4_delay cX4_delay 3 .boolean (rmd 2) [.ref (bd 0), .int x, .int y] μ sz (fun r u => r = (M_delay μ x y).1 ∧ u = (M_delay μ x y).2) := by
  refine Met.ofW (cc := cX4_delay) (maxL := 3) (ret := (some .boolean)) (by decide) rfl ?_
  intro p ev s m args below meth c s₁ B hml hv
  obtain ⟨rfl, hw⟩ := hv
  have hx := B.exec
  have hb := B.bytes
  have hr := B.returns
  have hlk := B.notSynchronized
  have hU : ∀ w ∈ UW, w.before _ s = true := fun w hw => atoms_spec (ws := Cond.code yX4_delay cX4_delay 3 (some .boolean) :: UW) B.pre w (List.mem_cons_of_mem _ hw)
  have hown : s.vm.findClass RX4 = some m.cls := findClass_of_methodNamed B.named
  have hR : 2 ≤ (headSpec (Cond.code yX4_delay cX4_delay 3 (some .boolean) :: UW) (rmd 2)).room.frames ∧ 32 * 2 ≤ (headSpec (Cond.code yX4_delay cX4_delay 3 (some .boolean) :: UW) (rmd 2)).room.locals := ⟨Nat.le_refl _, Nat.le_refl _⟩
  have hcs : 0 ≤ (headSpec (Cond.code yX4_delay cX4_delay 3 (some .boolean) :: UW) (rmd 2)).room.cells ∧ 0 ≤ (headSpec (Cond.code yX4_delay cX4_delay 3 (some .boolean) :: UW) (rmd 2)).room.slots := ⟨Nat.zero_le _, Nat.zero_le _⟩
  have h := WX.start hw
  clear hw
  generalize va_A (wv _ _ _) _ = A at h ⊢
  have hl := lv_entry ([.ref (bd 0), .int x, .int y]) (n := 3) (Nat.le_of_ble_eq_true rfl)
  rw [lg_entry_eq]
  generalize (lg_sl ([.ref (bd 0), .int x, .int y]) ++ List.replicate (3 - (lg_sl ([.ref (bd 0), .int x, .int y])).length) Slot.unset).toArray = ls at hl ⊢
  have hl : lv_has ls 3 [(0, .ref (bd 0)), (1, .int x), (2, .int y)] := hl
  have h12 := hc.2
  refine lv_aload_n hx hb dX4_delay_0 rfl (lv_at hl 0 rfl) ?_
  refine lv_iconst (v := nI 0) hx hb dX4_delay_1 (by decide +kernel) ?_
  refine m_p hx hb hU hown h 2 (by decide) ufX4_71 dX4_delay_2 (fun H locs h => ?_)
  refine lv_aload_n hx hb dX4_delay_5 rfl (lv_at hl 0 rfl) ?_
  refine lv_iload_n hx hb dX4_delay_6 rfl (lv_at hl 1 rfl) ?_
  refine y_calli hx hb hml hU hown hR hcs h (c_X4_isEdge l D cy bd (mN μ 2 0 0) _ (x := x) (by rw [mN_k _ _ _ _ (by decide)]; omega)) umX4_98 ui_X4_isEdge us_X4_isEdge unX4 uc_X4_isEdge hd_X4_isEdge (by decide) (by decide) (m_recv h) hl.1 rfl (Nat.le_of_ble_eq_true rfl) dX4_delay_7 (fun r u H locs hw h => ?_)
  obtain ⟨rfl, hu⟩ := hw
  have h : XM D cy bd s A H locs (mN μ 2 0 0) := by rw [← hu]; exact h
  clear hu
  refine z_if_eq (tgt := 23) hx hb dX4_delay_10 (by decide) (fun c_10 => ?_) (fun c_10 => ?_)
  · refine lv_iconst (v := nI 0) hx hb dX4_delay_23 (by decide +kernel) ?_
    exact W.zret (v := nI 0) hx hb hr (by decide +kernel) (fun t ht hW => ⟨⟨_, _, rfl, (by first | (simp only [M_delay]; rw [show inR x (μ.1 1 0) = false from c_10, Bool.false_and, if_pos rfl]; exact ⟨rfl, rfl⟩) | (simp only [M_delay]; rw [show wi y 0 9 = false from c_20, Bool.and_false, if_pos rfl]; exact ⟨rfl, rfl⟩) | (simp only [M_delay, tn]; rw [c5, c12, nI_clamp (by omega), nI_clamp (by omega), if_neg (by decide)]; exact ⟨rfl, rfl⟩)), h.at ht hW⟩, h.2.2.2.2.F ht⟩) h.2.2.2.2.2.2 dX4_delay_24
  · refine lv_iload_n hx hb dX4_delay_13 rfl (lv_at hl 2 rfl) ?_
    refine lv_iconst (v := nI 0) hx hb dX4_delay_14 (by decide +kernel) ?_
    refine lv_bipush (v := nI 9) hx hb dX4_delay_15 (by decide +kernel) ?_
    refine y_callSi hx hb hml hU hown hR hcs h (c_X4_within l D cy bd (mN μ 2 0 0) _ (x := y) (a := nI 0) (b := nI 9)) umX4_87 uz_X4_within unX4 uc_X4_within hd_X4_within.2 (by decide) (by decide) hl.1 rfl (Nat.le_of_ble_eq_true rfl) dX4_delay_17 (fun r u H locs hw h => ?_)
    obtain ⟨rfl, hu⟩ := hw
    have h : XM D cy bd s A H locs (mN μ 2 0 0) := by rw [← hu]; exact h
    clear hu
    refine z_if_ne (tgt := 25) hx hb dX4_delay_20 (by decide) (fun c_20 => ?_) (fun c_20 => ?_)
    · have c5 : inR x (μ.1 1 0) = true := c_10
      have c12 : wi y 0 9 = true := c_20
      obtain ⟨j, hj, rfl⟩ := inR_of (by omega) c5
      obtain ⟨k, hk0, hk, rfl⟩ := wi_of (by decide) (by decide) c12
      refine lv_aload_n hx hb dX4_delay_25 rfl (lv_at hl 0 rfl) ?_
      refine m_g hx hb hU hown h 11 (by decide) ufX4_34 (v := .ref (bd 9)) (by first | rfl | (simp [mO, mN, mI, up2]; done)) dX4_delay_26 ?_
      refine lv_iload_n hx hb dX4_delay_29 rfl (lv_at hl 1 rfl) ?_
      refine lv_iload_n hx hb dX4_delay_30 rfl (lv_at hl 2 rfl) ?_
      refine m_sN hx hb h 11 12 ⟨rfl, by unfold mA; omega⟩ rfl (by omega) dX4_delay_31 (fun H locs h => ?_)
      refine lv_aload_n hx hb dX4_delay_32 rfl (lv_at hl 0 rfl) ?_
      refine y_callv hx hb hml hU hown hR hcs h (c_X4_changed l D cy bd (mN (mN μ 2 0 0) 11 j k) _ ⟨by rw [mN_k _ _ _ _ (by decide), mN_k _ _ _ _ (by decide)]; exact hc.1, by rw [mN_k _ _ _ _ (by decide), mN_k _ _ _ _ (by decide)]; exact hc.2⟩) umX4_91 ui_X4_changed us_X4_changed unX4 uc_X4_changed hd_X4_changed (by decide) (by decide) (m_recv h) hl.1 rfl (Nat.le_of_ble_eq_true rfl) dX4_delay_33 (fun u H locs hw h => ?_)
      have hu := hw
      have h : XM D cy bd s A H locs (M_changed (mN (mN μ 2 0 0) 11 j k)) := by rw [← hu]; exact h
      clear hu
      refine lv_iconst (v := nI 1) hx hb dX4_delay_36 (by decide +kernel) ?_
      exact W.zret (v := nI 1) hx hb hr (by decide +kernel) (fun t ht hW => ⟨⟨_, _, rfl, (by first | (simp only [M_delay]; rw [show inR x (μ.1 1 0) = false from c_10, Bool.false_and, if_pos rfl]; exact ⟨rfl, rfl⟩) | (simp only [M_delay]; rw [show wi y 0 9 = false from c_20, Bool.and_false, if_pos rfl]; exact ⟨rfl, rfl⟩) | (simp only [M_delay, tn]; rw [c5, c12, nI_clamp (by omega), nI_clamp (by omega), if_neg (by decide)]; exact ⟨rfl, rfl⟩)), h.at ht hW⟩, h.2.2.2.2.F ht⟩) h.2.2.2.2.2.2 dX4_delay_37
    · refine lv_iconst (v := nI 0) hx hb dX4_delay_23 (by decide +kernel) ?_
      exact W.zret (v := nI 0) hx hb hr (by decide +kernel) (fun t ht hW => ⟨⟨_, _, rfl, (by first | (simp only [M_delay]; rw [show inR x (μ.1 1 0) = false from c_10, Bool.false_and, if_pos rfl]; exact ⟨rfl, rfl⟩) | (simp only [M_delay]; rw [show wi y 0 9 = false from c_20, Bool.and_false, if_pos rfl]; exact ⟨rfl, rfl⟩) | (simp only [M_delay, tn]; rw [c5, c12, nI_clamp (by omega), nI_clamp (by omega), if_neg (by decide)]; exact ⟨rfl, rfl⟩)), h.at ht hW⟩, h.2.2.2.2.F ht⟩) h.2.2.2.2.2.2 dX4_delay_24
set_option maxRecDepth 100000 in
set_option maxHeartbeats 4000000 in
theorem c_X4_edge (l : Launch) (D : va_G) (cy : Nat → ClassId) (bd : Nat → Nat) (μ : MS) (sz : Nat) {x1 x2 x3 x4 x5 : Int32} (hc : M_C μ) : MMi l D cy bd yX4_edge cX4_edge 6 .int (rmd 2) [.ref (bd 0), .int x1, .int x2, .int x3, .int x4, .int x5] μ sz (fun r u => r = (M_edge μ x1 x2 x3 x4 x5).1 ∧ u = (M_edge μ x1 x2 x3 x4 x5).2) := by
  refine Met.ofW (cc := cX4_edge) (maxL := 6) (ret := (some .int)) (by decide) rfl ?_
  intro p ev s m args below meth c s₁ B hml hv
  obtain ⟨rfl, hw⟩ := hv
  have hx := B.exec
  have hb := B.bytes
  have hr := B.returns
  have hlk := B.notSynchronized
  have hU : ∀ w ∈ UW, w.before _ s = true := fun w hw => atoms_spec (ws := Cond.code yX4_edge cX4_edge 6 (some .int) :: UW) B.pre w (List.mem_cons_of_mem _ hw)
  have hown : s.vm.findClass RX4 = some m.cls := findClass_of_methodNamed B.named
  have hR : 2 ≤ (headSpec (Cond.code yX4_edge cX4_edge 6 (some .int) :: UW) (rmd 2)).room.frames ∧ 32 * 2 ≤ (headSpec (Cond.code yX4_edge cX4_edge 6 (some .int) :: UW) (rmd 2)).room.locals := ⟨Nat.le_refl _, Nat.le_refl _⟩
  have hcs : 0 ≤ (headSpec (Cond.code yX4_edge cX4_edge 6 (some .int) :: UW) (rmd 2)).room.cells ∧ 0 ≤ (headSpec (Cond.code yX4_edge cX4_edge 6 (some .int) :: UW) (rmd 2)).room.slots := ⟨Nat.zero_le _, Nat.zero_le _⟩
  have h := WX.start hw
  clear hw
  generalize va_A (wv _ _ _) _ = A at h ⊢
  have hl := lv_entry ([.ref (bd 0), .int x1, .int x2, .int x3, .int x4, .int x5]) (n := 6) (Nat.le_of_ble_eq_true rfl)
  rw [lg_entry_eq]
  generalize (lg_sl ([.ref (bd 0), .int x1, .int x2, .int x3, .int x4, .int x5]) ++ List.replicate (6 - (lg_sl ([.ref (bd 0), .int x1, .int x2, .int x3, .int x4, .int x5])).length) Slot.unset).toArray = ls at hl ⊢
  have hl : lv_has ls 6 [(0, .ref (bd 0)), (1, .int x1), (2, .int x2), (3, .int x3), (4, .int x4), (5, .int x5)] := hl
  have h8 := hc.1
  have h12 := hc.2
  refine lv_aload_n hx hb dX4_edge_0 rfl (lv_at hl 0 rfl) ?_
  refine lv_iconst (v := nI 0) hx hb dX4_edge_1 (by decide +kernel) ?_
  refine m_p hx hb hU hown h 2 (by decide) ufX4_71 dX4_edge_2 (fun H locs h => ?_)
  refine lv_aload_n hx hb dX4_edge_5 rfl (lv_at hl 0 rfl) ?_
  refine lv_iload_n hx hb dX4_edge_6 rfl (lv_at hl 1 rfl) ?_
  refine y_calli hx hb hml hU hown hR hcs h (c_X4_isActor l D cy bd (mN μ 2 0 0) _ (x := x1) (by rw [mN_k _ _ _ _ (by decide)]; omega)) umX4_94 ui_X4_isActor us_X4_isActor unX4 uc_X4_isActor hd_X4_isActor (by decide) (by decide) (m_recv h) hl.1 rfl (Nat.le_of_ble_eq_true rfl) dX4_edge_7 (fun r u H locs hw h => ?_)
  obtain ⟨rfl, hu⟩ := hw
  have h : XM D cy bd s A H locs (mN μ 2 0 0) := by rw [← hu]; exact h
  clear hu
  refine z_if_eq (tgt := 21) hx hb dX4_edge_10 (by decide) (fun c_10 => ?_) (fun c_10 => ?_)
  · refine lv_iconst (v := (-1)) hx hb dX4_edge_21 (by decide +kernel) ?_
    exact W.iret (v := (-1)) hx hb hr (fun t ht hW => ⟨⟨_, _, rfl, (by first | (simp only [M_edge]; rw [show inR x1 (μ.1 0 0) = false from c_10, Bool.false_and, if_pos rfl]; exact ⟨rfl, rfl⟩) | (simp only [M_edge]; rw [show inR x2 (μ.1 0 0) = false from c_18, Bool.and_false, if_pos rfl]; exact ⟨rfl, rfl⟩) | (simp only [M_edge]; rw [show inR x1 (μ.1 0 0) = true from c_10, show inR x2 (μ.1 0 0) = true from c_18, if_neg (by decide), show wi x3 1 9 = false from c_30, Bool.false_and, if_pos rfl]; exact ⟨rfl, rfl⟩) | (simp only [M_edge]; rw [show inR x1 (μ.1 0 0) = true from c_10, show inR x2 (μ.1 0 0) = true from c_18, if_neg (by decide), show wi x4 1 9 = false from c_41, Bool.false_and, Bool.and_false, if_pos rfl]; exact ⟨rfl, rfl⟩) | (simp only [M_edge]; rw [show inR x1 (μ.1 0 0) = true from c_10, show inR x2 (μ.1 0 0) = true from c_18, if_neg (by decide), show wi x5 0 9 = false from c_52, Bool.and_false, Bool.and_false, if_pos rfl]; exact ⟨rfl, rfl⟩) | (simp only [M_edge]; rw [c5, c13, if_neg (by decide), c22, c30, c38, if_neg (by decide), if_pos (show μ.1 1 0 = 12 from c_64)]; exact ⟨rfl, rfl⟩) | (simp only [M_edge, tn]; rw [c5, c13, if_neg (by decide), c22, c30, c38, if_neg (by decide), if_neg (show ¬ μ.1 1 0 = 12 from c_64), nI_clamp (by omega), nI_clamp (by omega), nI_clamp (by omega), nI_clamp (by omega), nI_clamp (by omega), M_changed_N _ 0 (by decide) (by decide) (by decide), mN_e]; exact ⟨rfl, rfl⟩)), h.at ht hW⟩, h.2.2.2.2.F ht⟩) h.2.2.2.2.2.2 dX4_edge_22
  · refine lv_aload_n hx hb dX4_edge_13 rfl (lv_at hl 0 rfl) ?_
    refine lv_iload_n hx hb dX4_edge_14 rfl (lv_at hl 2 rfl) ?_
    refine y_calli hx hb hml hU hown hR hcs h (c_X4_isActor l D cy bd (mN μ 2 0 0) _ (x := x2) (by rw [mN_k _ _ _ _ (by decide)]; omega)) umX4_94 ui_X4_isActor us_X4_isActor unX4 uc_X4_isActor hd_X4_isActor (by decide) (by decide) (m_recv h) hl.1 rfl (Nat.le_of_ble_eq_true rfl) dX4_edge_15 (fun r u H locs hw h => ?_)
    obtain ⟨rfl, hu⟩ := hw
    have h : XM D cy bd s A H locs (mN μ 2 0 0) := by rw [← hu]; exact h
    clear hu
    refine z_if_ne (tgt := 23) hx hb dX4_edge_18 (by decide) (fun c_18 => ?_) (fun c_18 => ?_)
    · refine lv_iload_n hx hb dX4_edge_23 rfl (lv_at hl 3 rfl) ?_
      refine lv_iconst (v := nI 1) hx hb dX4_edge_24 (by decide +kernel) ?_
      refine lv_bipush (v := nI 9) hx hb dX4_edge_25 (by decide +kernel) ?_
      refine y_callSi hx hb hml hU hown hR hcs h (c_X4_within l D cy bd (mN μ 2 0 0) _ (x := x3) (a := nI 1) (b := nI 9)) umX4_87 uz_X4_within unX4 uc_X4_within hd_X4_within.2 (by decide) (by decide) hl.1 rfl (Nat.le_of_ble_eq_true rfl) dX4_edge_27 (fun r u H locs hw h => ?_)
      obtain ⟨rfl, hu⟩ := hw
      have h : XM D cy bd s A H locs (mN μ 2 0 0) := by rw [← hu]; exact h
      clear hu
      refine z_if_eq (tgt := 55) hx hb dX4_edge_30 (by decide) (fun c_30 => ?_) (fun c_30 => ?_)
      · refine lv_bipush (v := (-2)) hx hb dX4_edge_55 (by decide +kernel) ?_
        exact W.iret (v := (-2)) hx hb hr (fun t ht hW => ⟨⟨_, _, rfl, (by first | (simp only [M_edge]; rw [show inR x1 (μ.1 0 0) = false from c_10, Bool.false_and, if_pos rfl]; exact ⟨rfl, rfl⟩) | (simp only [M_edge]; rw [show inR x2 (μ.1 0 0) = false from c_18, Bool.and_false, if_pos rfl]; exact ⟨rfl, rfl⟩) | (simp only [M_edge]; rw [show inR x1 (μ.1 0 0) = true from c_10, show inR x2 (μ.1 0 0) = true from c_18, if_neg (by decide), show wi x3 1 9 = false from c_30, Bool.false_and, if_pos rfl]; exact ⟨rfl, rfl⟩) | (simp only [M_edge]; rw [show inR x1 (μ.1 0 0) = true from c_10, show inR x2 (μ.1 0 0) = true from c_18, if_neg (by decide), show wi x4 1 9 = false from c_41, Bool.false_and, Bool.and_false, if_pos rfl]; exact ⟨rfl, rfl⟩) | (simp only [M_edge]; rw [show inR x1 (μ.1 0 0) = true from c_10, show inR x2 (μ.1 0 0) = true from c_18, if_neg (by decide), show wi x5 0 9 = false from c_52, Bool.and_false, Bool.and_false, if_pos rfl]; exact ⟨rfl, rfl⟩) | (simp only [M_edge]; rw [c5, c13, if_neg (by decide), c22, c30, c38, if_neg (by decide), if_pos (show μ.1 1 0 = 12 from c_64)]; exact ⟨rfl, rfl⟩) | (simp only [M_edge, tn]; rw [c5, c13, if_neg (by decide), c22, c30, c38, if_neg (by decide), if_neg (show ¬ μ.1 1 0 = 12 from c_64), nI_clamp (by omega), nI_clamp (by omega), nI_clamp (by omega), nI_clamp (by omega), nI_clamp (by omega), M_changed_N _ 0 (by decide) (by decide) (by decide), mN_e]; exact ⟨rfl, rfl⟩)), h.at ht hW⟩, h.2.2.2.2.F ht⟩) h.2.2.2.2.2.2 dX4_edge_57
      · refine lv_iload hx hb dX4_edge_33 (lv_at hl 4 rfl) ?_
        refine lv_iconst (v := nI 1) hx hb dX4_edge_35 (by decide +kernel) ?_
        refine lv_bipush (v := nI 9) hx hb dX4_edge_36 (by decide +kernel) ?_
        refine y_callSi hx hb hml hU hown hR hcs h (c_X4_within l D cy bd (mN μ 2 0 0) _ (x := x4) (a := nI 1) (b := nI 9)) umX4_87 uz_X4_within unX4 uc_X4_within hd_X4_within.2 (by decide) (by decide) hl.1 rfl (Nat.le_of_ble_eq_true rfl) dX4_edge_38 (fun r u H locs hw h => ?_)
        obtain ⟨rfl, hu⟩ := hw
        have h : XM D cy bd s A H locs (mN μ 2 0 0) := by rw [← hu]; exact h
        clear hu
        refine z_if_eq (tgt := 55) hx hb dX4_edge_41 (by decide) (fun c_41 => ?_) (fun c_41 => ?_)
        · refine lv_bipush (v := (-2)) hx hb dX4_edge_55 (by decide +kernel) ?_
          exact W.iret (v := (-2)) hx hb hr (fun t ht hW => ⟨⟨_, _, rfl, (by first | (simp only [M_edge]; rw [show inR x1 (μ.1 0 0) = false from c_10, Bool.false_and, if_pos rfl]; exact ⟨rfl, rfl⟩) | (simp only [M_edge]; rw [show inR x2 (μ.1 0 0) = false from c_18, Bool.and_false, if_pos rfl]; exact ⟨rfl, rfl⟩) | (simp only [M_edge]; rw [show inR x1 (μ.1 0 0) = true from c_10, show inR x2 (μ.1 0 0) = true from c_18, if_neg (by decide), show wi x3 1 9 = false from c_30, Bool.false_and, if_pos rfl]; exact ⟨rfl, rfl⟩) | (simp only [M_edge]; rw [show inR x1 (μ.1 0 0) = true from c_10, show inR x2 (μ.1 0 0) = true from c_18, if_neg (by decide), show wi x4 1 9 = false from c_41, Bool.false_and, Bool.and_false, if_pos rfl]; exact ⟨rfl, rfl⟩) | (simp only [M_edge]; rw [show inR x1 (μ.1 0 0) = true from c_10, show inR x2 (μ.1 0 0) = true from c_18, if_neg (by decide), show wi x5 0 9 = false from c_52, Bool.and_false, Bool.and_false, if_pos rfl]; exact ⟨rfl, rfl⟩) | (simp only [M_edge]; rw [c5, c13, if_neg (by decide), c22, c30, c38, if_neg (by decide), if_pos (show μ.1 1 0 = 12 from c_64)]; exact ⟨rfl, rfl⟩) | (simp only [M_edge, tn]; rw [c5, c13, if_neg (by decide), c22, c30, c38, if_neg (by decide), if_neg (show ¬ μ.1 1 0 = 12 from c_64), nI_clamp (by omega), nI_clamp (by omega), nI_clamp (by omega), nI_clamp (by omega), nI_clamp (by omega), M_changed_N _ 0 (by decide) (by decide) (by decide), mN_e]; exact ⟨rfl, rfl⟩)), h.at ht hW⟩, h.2.2.2.2.F ht⟩) h.2.2.2.2.2.2 dX4_edge_57
        · refine lv_iload hx hb dX4_edge_44 (lv_at hl 5 rfl) ?_
          refine lv_iconst (v := nI 0) hx hb dX4_edge_46 (by decide +kernel) ?_
          refine lv_bipush (v := nI 9) hx hb dX4_edge_47 (by decide +kernel) ?_
          refine y_callSi hx hb hml hU hown hR hcs h (c_X4_within l D cy bd (mN μ 2 0 0) _ (x := x5) (a := nI 0) (b := nI 9)) umX4_87 uz_X4_within unX4 uc_X4_within hd_X4_within.2 (by decide) (by decide) hl.1 rfl (Nat.le_of_ble_eq_true rfl) dX4_edge_49 (fun r u H locs hw h => ?_)
          obtain ⟨rfl, hu⟩ := hw
          have h : XM D cy bd s A H locs (mN μ 2 0 0) := by rw [← hu]; exact h
          clear hu
          refine z_if_ne (tgt := 58) hx hb dX4_edge_52 (by decide) (fun c_52 => ?_) (fun c_52 => ?_)
          · have c5 : inR x1 (μ.1 0 0) = true := c_10
            have c13 : inR x2 (μ.1 0 0) = true := c_18
            have c22 : wi x3 1 9 = true := c_30
            have c30 : wi x4 1 9 = true := c_41
            have c38 : wi x5 0 9 = true := c_52
            obtain ⟨j1, hj1, rfl⟩ := inR_of (by omega) c5
            obtain ⟨j2, hj2, rfl⟩ := inR_of (by omega) c13
            obtain ⟨j3, ha3, hj3, rfl⟩ := wi_of (by decide) (by decide) c22
            obtain ⟨j4, ha4, hj4, rfl⟩ := wi_of (by decide) (by decide) c30
            obtain ⟨j5, ha5, hj5, rfl⟩ := wi_of (by decide) (by decide) c38
            refine lv_aload_n hx hb dX4_edge_58 rfl (lv_at hl 0 rfl) ?_
            refine m_g hx hb hU hown h 1 (by decide) ufX4_78 (v := .int (nI (μ.1 1 0))) (by first | rfl | (simp [mO, mN, mI, up2]; done)) dX4_edge_59 ?_
            refine lv_bipush (v := nI 12) hx hb dX4_edge_62 (by decide +kernel) ?_
            refine n_icmp_ne (tgt := 70) hx hb (by show μ.1 1 0 < _; omega) (by omega) dX4_edge_64 (by decide) (fun c_64 => ?_) (fun c_64 => ?_)
            · have c64 : ¬ μ.1 1 0 = 12 := c_64
              refine lv_aload_n hx hb dX4_edge_70 rfl (lv_at hl 0 rfl) ?_
              refine m_g hx hb hU hown h 7 (by decide) ufX4_22 (v := .ref (bd 5)) (by first | rfl | (simp [mO, mN, mI, up2]; done)) dX4_edge_71 ?_
              refine lv_aload_n hx hb dX4_edge_74 rfl (lv_at hl 0 rfl) ?_
              refine m_g hx hb hU hown h 1 (by decide) ufX4_78 (v := .int (nI (μ.1 1 0))) (by first | rfl | (simp [mO, mN, mI, up2]; done)) dX4_edge_75 ?_
              refine lv_iload_n hx hb dX4_edge_78 rfl (lv_at hl 1 rfl) ?_
              refine m_sN hx hb h 7 12 ⟨rfl, by unfold mA; omega⟩ rfl (by show μ.1 1 0 < _; omega) dX4_edge_79 (fun H locs h => ?_)
              refine lv_aload_n hx hb dX4_edge_80 rfl (lv_at hl 0 rfl) ?_
              refine m_g hx hb hU hown h 8 (by decide) ufX4_25 (v := .ref (bd 6)) (by first | rfl | (simp [mO, mN, mI, up2]; done)) dX4_edge_81 ?_
              refine lv_aload_n hx hb dX4_edge_84 rfl (lv_at hl 0 rfl) ?_
              refine m_g hx hb hU hown h 1 (by decide) ufX4_78 (v := .int (nI (μ.1 1 0))) (by first | rfl | (simp [mO, mN, mI, up2]; done)) dX4_edge_85 ?_
              refine lv_iload_n hx hb dX4_edge_88 rfl (lv_at hl 2 rfl) ?_
              refine m_sN hx hb h 8 12 ⟨rfl, by unfold mA; omega⟩ rfl (by show μ.1 1 0 < _; omega) dX4_edge_89 (fun H locs h => ?_)
              refine lv_aload_n hx hb dX4_edge_90 rfl (lv_at hl 0 rfl) ?_
              refine m_g hx hb hU hown h 9 (by decide) ufX4_28 (v := .ref (bd 7)) (by first | rfl | (simp [mO, mN, mI, up2]; done)) dX4_edge_91 ?_
              refine lv_aload_n hx hb dX4_edge_94 rfl (lv_at hl 0 rfl) ?_
              refine m_g hx hb hU hown h 1 (by decide) ufX4_78 (v := .int (nI (μ.1 1 0))) (by first | rfl | (simp [mO, mN, mI, up2]; done)) dX4_edge_95 ?_
              refine lv_iload_n hx hb dX4_edge_98 rfl (lv_at hl 3 rfl) ?_
              refine m_sN hx hb h 9 12 ⟨rfl, by unfold mA; omega⟩ rfl (by show μ.1 1 0 < _; omega) dX4_edge_99 (fun H locs h => ?_)
              refine lv_aload_n hx hb dX4_edge_100 rfl (lv_at hl 0 rfl) ?_
              refine m_g hx hb hU hown h 10 (by decide) ufX4_31 (v := .ref (bd 8)) (by first | rfl | (simp [mO, mN, mI, up2]; done)) dX4_edge_101 ?_
              refine lv_aload_n hx hb dX4_edge_104 rfl (lv_at hl 0 rfl) ?_
              refine m_g hx hb hU hown h 1 (by decide) ufX4_78 (v := .int (nI (μ.1 1 0))) (by first | rfl | (simp [mO, mN, mI, up2]; done)) dX4_edge_105 ?_
              refine lv_iload hx hb dX4_edge_108 (lv_at hl 4 rfl) ?_
              refine m_sN hx hb h 10 12 ⟨rfl, by unfold mA; omega⟩ rfl (by show μ.1 1 0 < _; omega) dX4_edge_110 (fun H locs h => ?_)
              refine lv_aload_n hx hb dX4_edge_111 rfl (lv_at hl 0 rfl) ?_
              refine m_g hx hb hU hown h 11 (by decide) ufX4_34 (v := .ref (bd 9)) (by first | rfl | (simp [mO, mN, mI, up2]; done)) dX4_edge_112 ?_
              refine lv_aload_n hx hb dX4_edge_115 rfl (lv_at hl 0 rfl) ?_
              refine m_g hx hb hU hown h 1 (by decide) ufX4_78 (v := .int (nI (μ.1 1 0))) (by first | rfl | (simp [mO, mN, mI, up2]; done)) dX4_edge_116 ?_
              refine lv_iload hx hb dX4_edge_119 (lv_at hl 5 rfl) ?_
              refine m_sN hx hb h 11 12 ⟨rfl, by unfold mA; omega⟩ rfl (by show μ.1 1 0 < _; omega) dX4_edge_121 (fun H locs h => ?_)
              refine lv_aload_n hx hb dX4_edge_122 rfl (lv_at hl 0 rfl) ?_
              refine lv_dup hx hb dX4_edge_123 rfl ?_
              refine m_g hx hb hU hown h 1 (by decide) ufX4_78 (v := .int (nI (μ.1 1 0))) (by first | rfl | (simp [mO, mN, mI, up2]; done)) dX4_edge_124 ?_
              refine lv_iconst (v := nI 1) hx hb dX4_edge_127 (by decide +kernel) ?_
              refine n_iadd hx hb dX4_edge_128 ?_
              refine m_p hx hb hU hown h 1 (by decide) ufX4_78 dX4_edge_129 (fun H locs h => ?_)
              refine lv_aload_n hx hb dX4_edge_132 rfl (lv_at hl 0 rfl) ?_
              refine y_callv hx hb hml hU hown hR hcs h (c_X4_changed l D cy bd (mN (mN (mN (mN (mN (mN (mN μ 2 0 0) 7 (μ.1 1 0) j1) 8 (μ.1 1 0) j2) 9 (μ.1 1 0) j3) 10 (μ.1 1 0) j4) 11 (μ.1 1 0) j5) 1 0 ((μ.1 1 0) + 1)) _ ⟨by rw [mN_k _ _ _ _ (by decide), mN_k _ _ _ _ (by decide), mN_k _ _ _ _ (by decide), mN_k _ _ _ _ (by decide), mN_k _ _ _ _ (by decide), mN_k _ _ _ _ (by decide), mN_k _ _ _ _ (by decide)]; exact hc.1, by rw [mN_e]; omega⟩) umX4_91 ui_X4_changed us_X4_changed unX4 uc_X4_changed hd_X4_changed (by decide) (by decide) (m_recv h) hl.1 rfl (Nat.le_of_ble_eq_true rfl) dX4_edge_133 (fun u H locs hw h => ?_)
              have hu := hw
              have h : XM D cy bd s A H locs (M_changed (mN (mN (mN (mN (mN (mN (mN μ 2 0 0) 7 (μ.1 1 0) j1) 8 (μ.1 1 0) j2) 9 (μ.1 1 0) j3) 10 (μ.1 1 0) j4) 11 (μ.1 1 0) j5) 1 0 ((μ.1 1 0) + 1))) := by rw [← hu]; exact h
              clear hu
              refine lv_aload_n hx hb dX4_edge_136 rfl (lv_at hl 0 rfl) ?_
              refine m_g hx hb hU hown h 1 (by decide) ufX4_78 (v := .int (nI ((M_changed (mN (mN (mN (mN (mN (mN (mN μ 2 0 0) 7 (μ.1 1 0) j1) 8 (μ.1 1 0) j2) 9 (μ.1 1 0) j3) 10 (μ.1 1 0) j4) 11 (μ.1 1 0) j5) 1 0 ((μ.1 1 0) + 1))).1 1 0))) rfl dX4_edge_137 ?_
              refine lv_iconst (v := nI 1) hx hb dX4_edge_140 (by decide +kernel) ?_
              refine n_isub hx hb (by rw [M_changed_N _ 0 (by decide) (by decide) (by decide), mN_e]; omega) dX4_edge_141 ?_
              exact W.iret (v := nI (((M_changed (mN (mN (mN (mN (mN (mN (mN μ 2 0 0) 7 (μ.1 1 0) j1) 8 (μ.1 1 0) j2) 9 (μ.1 1 0) j3) 10 (μ.1 1 0) j4) 11 (μ.1 1 0) j5) 1 0 ((μ.1 1 0) + 1))).1 1 0) - 1)) hx hb hr (fun t ht hW => ⟨⟨_, _, rfl, (by first | (simp only [M_edge]; rw [show inR x1 (μ.1 0 0) = false from c_10, Bool.false_and, if_pos rfl]; exact ⟨rfl, rfl⟩) | (simp only [M_edge]; rw [show inR x2 (μ.1 0 0) = false from c_18, Bool.and_false, if_pos rfl]; exact ⟨rfl, rfl⟩) | (simp only [M_edge]; rw [show inR x1 (μ.1 0 0) = true from c_10, show inR x2 (μ.1 0 0) = true from c_18, if_neg (by decide), show wi x3 1 9 = false from c_30, Bool.false_and, if_pos rfl]; exact ⟨rfl, rfl⟩) | (simp only [M_edge]; rw [show inR x1 (μ.1 0 0) = true from c_10, show inR x2 (μ.1 0 0) = true from c_18, if_neg (by decide), show wi x4 1 9 = false from c_41, Bool.false_and, Bool.and_false, if_pos rfl]; exact ⟨rfl, rfl⟩) | (simp only [M_edge]; rw [show inR x1 (μ.1 0 0) = true from c_10, show inR x2 (μ.1 0 0) = true from c_18, if_neg (by decide), show wi x5 0 9 = false from c_52, Bool.and_false, Bool.and_false, if_pos rfl]; exact ⟨rfl, rfl⟩) | (simp only [M_edge]; rw [c5, c13, if_neg (by decide), c22, c30, c38, if_neg (by decide), if_pos (show μ.1 1 0 = 12 from c_64)]; exact ⟨rfl, rfl⟩) | (simp only [M_edge, tn]; rw [c5, c13, if_neg (by decide), c22, c30, c38, if_neg (by decide), if_neg (show ¬ μ.1 1 0 = 12 from c_64), nI_clamp (by omega), nI_clamp (by omega), nI_clamp (by omega), nI_clamp (by omega), nI_clamp (by omega), M_changed_N _ 0 (by decide) (by decide) (by decide), mN_e]; exact ⟨rfl, rfl⟩)), h.at ht hW⟩, h.2.2.2.2.F ht⟩) h.2.2.2.2.2.2 dX4_edge_142
            · refine lv_bipush (v := (-3)) hx hb dX4_edge_67 (by decide +kernel) ?_
              exact W.iret (v := (-3)) hx hb hr (fun t ht hW => ⟨⟨_, _, rfl, (by first | (simp only [M_edge]; rw [show inR x1 (μ.1 0 0) = false from c_10, Bool.false_and, if_pos rfl]; exact ⟨rfl, rfl⟩) | (simp only [M_edge]; rw [show inR x2 (μ.1 0 0) = false from c_18, Bool.and_false, if_pos rfl]; exact ⟨rfl, rfl⟩) | (simp only [M_edge]; rw [show inR x1 (μ.1 0 0) = true from c_10, show inR x2 (μ.1 0 0) = true from c_18, if_neg (by decide), show wi x3 1 9 = false from c_30, Bool.false_and, if_pos rfl]; exact ⟨rfl, rfl⟩) | (simp only [M_edge]; rw [show inR x1 (μ.1 0 0) = true from c_10, show inR x2 (μ.1 0 0) = true from c_18, if_neg (by decide), show wi x4 1 9 = false from c_41, Bool.false_and, Bool.and_false, if_pos rfl]; exact ⟨rfl, rfl⟩) | (simp only [M_edge]; rw [show inR x1 (μ.1 0 0) = true from c_10, show inR x2 (μ.1 0 0) = true from c_18, if_neg (by decide), show wi x5 0 9 = false from c_52, Bool.and_false, Bool.and_false, if_pos rfl]; exact ⟨rfl, rfl⟩) | (simp only [M_edge]; rw [c5, c13, if_neg (by decide), c22, c30, c38, if_neg (by decide), if_pos (show μ.1 1 0 = 12 from c_64)]; exact ⟨rfl, rfl⟩) | (simp only [M_edge, tn]; rw [c5, c13, if_neg (by decide), c22, c30, c38, if_neg (by decide), if_neg (show ¬ μ.1 1 0 = 12 from c_64), nI_clamp (by omega), nI_clamp (by omega), nI_clamp (by omega), nI_clamp (by omega), nI_clamp (by omega), M_changed_N _ 0 (by decide) (by decide) (by decide), mN_e]; exact ⟨rfl, rfl⟩)), h.at ht hW⟩, h.2.2.2.2.F ht⟩) h.2.2.2.2.2.2 dX4_edge_69
          · refine lv_bipush (v := (-2)) hx hb dX4_edge_55 (by decide +kernel) ?_
            exact W.iret (v := (-2)) hx hb hr (fun t ht hW => ⟨⟨_, _, rfl, (by first | (simp only [M_edge]; rw [show inR x1 (μ.1 0 0) = false from c_10, Bool.false_and, if_pos rfl]; exact ⟨rfl, rfl⟩) | (simp only [M_edge]; rw [show inR x2 (μ.1 0 0) = false from c_18, Bool.and_false, if_pos rfl]; exact ⟨rfl, rfl⟩) | (simp only [M_edge]; rw [show inR x1 (μ.1 0 0) = true from c_10, show inR x2 (μ.1 0 0) = true from c_18, if_neg (by decide), show wi x3 1 9 = false from c_30, Bool.false_and, if_pos rfl]; exact ⟨rfl, rfl⟩) | (simp only [M_edge]; rw [show inR x1 (μ.1 0 0) = true from c_10, show inR x2 (μ.1 0 0) = true from c_18, if_neg (by decide), show wi x4 1 9 = false from c_41, Bool.false_and, Bool.and_false, if_pos rfl]; exact ⟨rfl, rfl⟩) | (simp only [M_edge]; rw [show inR x1 (μ.1 0 0) = true from c_10, show inR x2 (μ.1 0 0) = true from c_18, if_neg (by decide), show wi x5 0 9 = false from c_52, Bool.and_false, Bool.and_false, if_pos rfl]; exact ⟨rfl, rfl⟩) | (simp only [M_edge]; rw [c5, c13, if_neg (by decide), c22, c30, c38, if_neg (by decide), if_pos (show μ.1 1 0 = 12 from c_64)]; exact ⟨rfl, rfl⟩) | (simp only [M_edge, tn]; rw [c5, c13, if_neg (by decide), c22, c30, c38, if_neg (by decide), if_neg (show ¬ μ.1 1 0 = 12 from c_64), nI_clamp (by omega), nI_clamp (by omega), nI_clamp (by omega), nI_clamp (by omega), nI_clamp (by omega), M_changed_N _ 0 (by decide) (by decide) (by decide), mN_e]; exact ⟨rfl, rfl⟩)), h.at ht hW⟩, h.2.2.2.2.F ht⟩) h.2.2.2.2.2.2 dX4_edge_57
    · refine lv_iconst (v := (-1)) hx hb dX4_edge_21 (by decide +kernel) ?_
      exact W.iret (v := (-1)) hx hb hr (fun t ht hW => ⟨⟨_, _, rfl, (by first | (simp only [M_edge]; rw [show inR x1 (μ.1 0 0) = false from c_10, Bool.false_and, if_pos rfl]; exact ⟨rfl, rfl⟩) | (simp only [M_edge]; rw [show inR x2 (μ.1 0 0) = false from c_18, Bool.and_false, if_pos rfl]; exact ⟨rfl, rfl⟩) | (simp only [M_edge]; rw [show inR x1 (μ.1 0 0) = true from c_10, show inR x2 (μ.1 0 0) = true from c_18, if_neg (by decide), show wi x3 1 9 = false from c_30, Bool.false_and, if_pos rfl]; exact ⟨rfl, rfl⟩) | (simp only [M_edge]; rw [show inR x1 (μ.1 0 0) = true from c_10, show inR x2 (μ.1 0 0) = true from c_18, if_neg (by decide), show wi x4 1 9 = false from c_41, Bool.false_and, Bool.and_false, if_pos rfl]; exact ⟨rfl, rfl⟩) | (simp only [M_edge]; rw [show inR x1 (μ.1 0 0) = true from c_10, show inR x2 (μ.1 0 0) = true from c_18, if_neg (by decide), show wi x5 0 9 = false from c_52, Bool.and_false, Bool.and_false, if_pos rfl]; exact ⟨rfl, rfl⟩) | (simp only [M_edge]; rw [c5, c13, if_neg (by decide), c22, c30, c38, if_neg (by decide), if_pos (show μ.1 1 0 = 12 from c_64)]; exact ⟨rfl, rfl⟩) | (simp only [M_edge, tn]; rw [c5, c13, if_neg (by decide), c22, c30, c38, if_neg (by decide), if_neg (show ¬ μ.1 1 0 = 12 from c_64), nI_clamp (by omega), nI_clamp (by omega), nI_clamp (by omega), nI_clamp (by omega), nI_clamp (by omega), M_changed_N _ 0 (by decide) (by decide) (by decide), mN_e]; exact ⟨rfl, rfl⟩)), h.at ht hW⟩, h.2.2.2.2.F ht⟩) h.2.2.2.2.2.2 dX4_edge_22
