/-! ===== the reference: run ===== -/
def M_run_s : Nat → MS → MS := fun k τ => M_fire τ (τ.1 16 (k % τ.1 15 0))
def M_run (μ : MS) (x : Int32) : Nat × MS :=
  if μ.1 15 0 = 0 then (0, mN μ 2 0 1) else
  if wi x 1 20 = true then (tn x * μ.1 15 0, itr M_run_s (tn x * μ.1 15 0) 0 (mN μ 2 0 0)) else (0, mN μ 2 0 2)
def RunJM (J : Nat → MS → Prop) (P : Nat) : Prop := (∀ i τ, J i τ → τ.1 15 0 = P) ∧ (∀ i τ, i < P → J i τ → τ.1 16 i < 8 ∧ FI (τ.1 16 i) 0 τ ∧ J (i + 1) (M_fire τ (τ.1 16 i))) ∧ ∀ τ, J P τ → J 0 τ
theorem RunJM.step {J : Nat → MS → Prop} {P : Nat} (h : RunJM J P) (hP : 0 < P) {i : Nat} {τ : MS} (hj : J (i % P) τ) : τ.1 15 0 = P ∧ τ.1 16 (i % τ.1 15 0) < 8 ∧ FI (τ.1 16 (i % τ.1 15 0)) 0 τ ∧ J ((i + 1) % P) (M_fire τ (τ.1 16 (i % τ.1 15 0))) := by
  have e := h.1 _ _ hj
  have hm := Nat.mod_lt i hP
  obtain ⟨a, b, d⟩ := h.2.1 _ _ hm hj
  rw [e]
  refine ⟨rfl, a, b, ?_⟩
  have e2 : (i + 1) % P = if i % P + 1 = P then 0 else i % P + 1 := by
    rw [Nat.add_mod]
    by_cases h1 : P = 1
    · subst h1
      rw [if_pos (by omega)]; exact Nat.mod_one _
    · rw [Nat.mod_eq_of_lt (show 1 < P by omega)]
      split
      · rename_i h2; rw [h2]; exact Nat.mod_self _
      · exact Nat.mod_eq_of_lt (by omega)
  rw [e2]
  split
  · rename_i h2
    rw [h2] at d
    exact h.2.2 _ d
  · exact d
theorem RunJM.rounds {J : Nat → MS → Prop} {P : Nat} (h : RunJM J P) (hP : 0 < P) : ∀ (k i : Nat) (τ : MS), J (i % P) τ → J ((i + k) % P) (itr M_run_s k i τ) := by
  intro k
  induction k with
  | zero => intro i τ hj; exact hj
  | succ k ih =>
    intro i τ hj
    have := ih (i + 1) _ (h.step hP hj).2.2.2
    rw [show i + 1 + k = i + (k + 1) by omega] at this
    exact this
set_option maxRecDepth 100000 in
set_option maxHeartbeats 4000000 in
theorem lp_X4_run {p : Program} {l : Launch} {ev : Env} {R : Room} {s : State} {m : MethodId} {args : Array Value} {below : List Frame} {meth : Method} {c : Code} {cells slots : Nat} {Q : State → Prop} {D : va_G} {cy : Nat → ClassId} {bd : Nat → Nat} {A : Nat → Prop} (hx : p.tables.exec = Jvm.exec) (hb : c.code = cX4_run) (hml : c.maxLocals = 3) (hU : ∀ w ∈ UW, w.before args s = true) (hown : s.vm.findClass RX4 = some m.cls) (hR : 2 ≤ R.frames ∧ 32 * 2 ≤ R.locals) (hcs : cells ≤ R.cells ∧ slots ≤ R.slots) {n P : Nat} (hP : 0 < P) (hP2 : P ≤ 200) (hb9 : n * P < 2 ^ 20) {J : Nat → MS → Prop} (hJ : RunJM J P) :
    ∀ (k i : Nat) (τ : MS) (H : Heap) (locs : List Loc) (ls : Array Slot), (i + k = n * P ∧ J (i % P) τ) → XM D cy bd s A H locs τ → lv_has ls 3 [(0, .ref (bd 0)), (1, .int (nI n)), (2, .int (nI i))] → (∀ (H : Heap) (locs : List Loc) (ls : Array Slot), XM D cy bd s A H locs (itr M_run_s k i τ) → lv_has ls 3 [(0, .ref (bd 0)), (1, .int (nI n))] → W p l ev R s m args below meth c H locs cells slots Q (F0 m 72 ls [])) → W p l ev R s m args below meth c H locs cells slots Q (F0 m 41 ls []) := by
  intro k
  induction k with
  | zero =>
    intro i τ H locs ls hc h hl K
    have e15 := hJ.1 _ _ hc.2
    refine lv_iload_n hx hb dX4_run_41 rfl (lv_at hl 2 rfl) ?_
    refine lv_iload_n hx hb dX4_run_42 rfl (lv_at hl 1 rfl) ?_
    refine lv_aload_n hx hb dX4_run_43 rfl (lv_at hl 0 rfl) ?_
    refine m_g hx hb hU hown h 15 (by decide) ufX4_81 (v := .int (nI (τ.1 15 0))) rfl dX4_run_44 ?_
    refine n_imul hx hb dX4_run_47 ?_
    refine n_icmp_ge (tgt := 72) hx hb (by omega) (by rw [e15]; omega) dX4_run_48 (by decide) (fun c_48 => ?_) (fun c_48 => absurd c_48 (by rw [e15]; omega))
    exact K _ _ _ h (lv_sub hl [0, 1] rfl)
  | succ k ih =>
    intro i τ H locs ls hc h hl K
    obtain ⟨e15, h2, h3, h4⟩ := hJ.step hP hc.2
    refine lv_iload_n hx hb dX4_run_41 rfl (lv_at hl 2 rfl) ?_
    refine lv_iload_n hx hb dX4_run_42 rfl (lv_at hl 1 rfl) ?_
    refine lv_aload_n hx hb dX4_run_43 rfl (lv_at hl 0 rfl) ?_
    refine m_g hx hb hU hown h 15 (by decide) ufX4_81 (v := .int (nI (τ.1 15 0))) rfl dX4_run_44 ?_
    refine n_imul hx hb dX4_run_47 ?_
    refine n_icmp_ge (tgt := 72) hx hb (by omega) (by rw [e15]; omega) dX4_run_48 (by decide) (fun c_48 => absurd c_48 (by rw [e15]; omega)) (fun c_48 => ?_)
    refine lv_aload_n hx hb dX4_run_51 rfl (lv_at hl 0 rfl) ?_
    refine lv_aload_n hx hb dX4_run_52 rfl (lv_at hl 0 rfl) ?_
    refine m_g hx hb hU hown h 16 (by decide) ufX4_46 (v := .ref (bd 13)) rfl dX4_run_53 ?_
    refine lv_iload_n hx hb dX4_run_56 rfl (lv_at hl 2 rfl) ?_
    refine lv_aload_n hx hb dX4_run_57 rfl (lv_at hl 0 rfl) ?_
    refine m_g hx hb hU hown h 15 (by decide) ufX4_81 (v := .int (nI (τ.1 15 0))) rfl dX4_run_58 ?_
    refine n_irem hx hb (by omega) (by rw [e15]; exact hP) (by rw [e15]; omega) dX4_run_61 ?_
    refine m_iN hx hb h 16 200 ⟨rfl, by unfold mA; omega⟩ rfl (Nat.lt_of_lt_of_le (Nat.mod_lt _ (by rw [e15]; exact hP)) (by rw [e15]; exact hP2)) (v := τ.1 16 (i % (τ.1 15 0))) rfl dX4_run_62 ?_
    refine y_callv hx hb hml hU hown hR hcs h (c_X4_fire l D cy bd τ _ (n := τ.1 16 (i % (τ.1 15 0))) h2 h3) umX4_131 ui_X4_fire us_X4_fire unX4 uc_X4_fire hd_X4_fire (by decide) (by decide) (m_recv h) hl.1 rfl (Nat.le_of_ble_eq_true rfl) dX4_run_63 (fun u H locs hw h => ?_)
    have hu := hw
    have h : XM D cy bd s A H locs (M_fire τ (τ.1 16 (i % (τ.1 15 0)))) := by rw [← hu]; exact h
    clear hu
    refine lv_iinc (v := nI (i + 1)) (lv' := [(2, .int (nI (i + 1))), (0, .ref (bd 0)), (1, .int (nI n))]) hx hb dX4_run_66 hl (k := 2) rfl (by rw [← nI_add]; rfl) (by decide) rfl (fun ls hl => ?_)
    refine lv_goto (tgt := 41) hx hb dX4_run_69 (by decide) ?_
    exact ih (i + 1) (M_fire τ (τ.1 16 (i % (τ.1 15 0)))) _ _ _ ⟨by omega, h4⟩ h (lv_sub hl [1, 2, 0] rfl) K
set_option maxRecDepth 100000 in
set_option maxHeartbeats 4000000 in
theorem c_X4_run (l : Launch) (D : va_G) (cy : Nat → ClassId) (bd : Nat → Nat) (μ : MS) (sz : Nat) {x : Int32} (hP : μ.1 15 0 ≤ 200) {J : Nat → MS → Prop} (hJ9 : 0 < μ.1 15 0 → RunJM J (μ.1 15 0) ∧ J 0 (mN μ 2 0 0)) : MMi l D cy bd yX4_run cX4_run 3 .int (rmd 2) [.ref (bd 0), .int x] μ sz (fun r u => r = nI (M_run μ x).1 ∧ u = (M_run μ x).2) := by
  refine Met.ofW (cc := cX4_run) (maxL := 3) (ret := (some .int)) (by decide) rfl ?_
  intro p ev s m args below meth c s₁ B hml hv
  obtain ⟨rfl, hw⟩ := hv
  have hx := B.exec
  have hb := B.bytes
  have hr := B.returns
  have hlk := B.notSynchronized
  have hU : ∀ w ∈ UW, w.before _ s = true := fun w hw => atoms_spec (ws := Cond.code yX4_run cX4_run 3 (some .int) :: UW) B.pre w (List.mem_cons_of_mem _ hw)
  have hown : s.vm.findClass RX4 = some m.cls := findClass_of_methodNamed B.named
  have hR : 2 ≤ (headSpec (Cond.code yX4_run cX4_run 3 (some .int) :: UW) (rmd 2)).room.frames ∧ 32 * 2 ≤ (headSpec (Cond.code yX4_run cX4_run 3 (some .int) :: UW) (rmd 2)).room.locals := ⟨Nat.le_refl _, Nat.le_refl _⟩
  have hcs : 0 ≤ (headSpec (Cond.code yX4_run cX4_run 3 (some .int) :: UW) (rmd 2)).room.cells ∧ 0 ≤ (headSpec (Cond.code yX4_run cX4_run 3 (some .int) :: UW) (rmd 2)).room.slots := ⟨Nat.zero_le _, Nat.zero_le _⟩
  have h := WX.start hw
  clear hw
  generalize va_A (wv _ _ _) _ = A at h ⊢
  have hl := lv_entry ([.ref (bd 0), .int x]) (n := 3) (Nat.le_of_ble_eq_true rfl)
  rw [lg_entry_eq]
  generalize (lg_sl ([.ref (bd 0), .int x]) ++ List.replicate (3 - (lg_sl ([.ref (bd 0), .int x])).length) Slot.unset).toArray = ls at hl ⊢
  have hl : lv_has ls 3 [(0, .ref (bd 0)), (1, .int x)] := hl
  refine lv_aload_n hx hb dX4_run_0 rfl (lv_at hl 0 rfl) ?_
  refine lv_aload_n hx hb dX4_run_1 rfl (lv_at hl 0 rfl) ?_
  refine m_g hx hb hU hown h 15 (by decide) ufX4_81 (v := .int (nI (μ.1 15 0))) rfl dX4_run_2 ?_
  refine n_if_ne (tgt := 12) hx hb (by omega) dX4_run_5 (by decide) (fun c_5 => ?_) (fun c_5 => ?_)
  · refine lv_iload_n hx hb dX4_run_12 rfl (lv_at hl 1 rfl) ?_
    refine lv_iconst (v := nI 1) hx hb dX4_run_13 (by decide +kernel) ?_
    refine lv_bipush (v := nI 20) hx hb dX4_run_14 (by decide +kernel) ?_
    refine y_callSi hx hb hml hU hown hR hcs h (c_X4_within l D cy bd μ _ (x := x) (a := nI 1) (b := nI 20)) umX4_87 uz_X4_within unX4 uc_X4_within hd_X4_within.2 (by decide) (by decide) hl.1 rfl (Nat.le_of_ble_eq_true rfl) dX4_run_16 (fun r u H locs hw h => ?_)
    obtain ⟨rfl, hu⟩ := hw
    have h : XM D cy bd s A H locs μ := by rw [← hu]; exact h
    clear hu
    refine z_if_ne (tgt := 26) hx hb dX4_run_19 (by decide) (fun c_19 => ?_) (fun c_19 => ?_)
    · have c19 : wi x 1 20 = true := c_19
      obtain ⟨n, hn1, hn, rfl⟩ := wi_of (by decide) (by decide) c19
      obtain ⟨hJ, hJ0⟩ := hJ9 c_5
      have hb9 : n * μ.1 15 0 ≤ 20 * 200 := Nat.mul_le_mul hn hP
      refine lv_iconst (v := nI 0) hx hb dX4_run_26 (by decide +kernel) ?_
      refine m_p hx hb hU hown h 2 (by decide) ufX4_71 dX4_run_27 (fun H locs h => ?_)
      refine lv_aload_n hx hb dX4_run_30 rfl (lv_at hl 0 rfl) ?_
      refine m_g hx hb hU hown h 2 (by decide) ufX4_71 (v := .int (nI 0)) (by first | rfl | (simp [mO, mN, mI, up2]; done)) dX4_run_31 ?_
      refine n_if_le (tgt := 39) hx hb (by omega) dX4_run_34 (by decide) (fun c_34 => ?_) (fun c_34 => absurd c_34 (by omega))
      refine lv_iconst (v := nI 0) hx hb dX4_run_39 (by decide +kernel) ?_
      refine lv_istore_n (lv' := [(2, .int (nI 0)), (0, .ref (bd 0)), (1, .int (nI n))]) hx hb dX4_run_40 rfl hl (by decide) rfl (fun ls hl => ?_)
      refine lp_X4_run hx hb hml hU hown hR hcs c_5 hP (by omega) hJ (n * μ.1 15 0) 0 (mN μ 2 0 0) _ _ _ ⟨Nat.zero_add _, by rw [Nat.zero_mod]; exact hJ0⟩ h (lv_sub hl [1, 2, 0] rfl) (fun H locs ls h hl => ?_)
      have e15 := hJ.1 _ _ (hJ.rounds c_5 (n * μ.1 15 0) 0 _ (by rw [Nat.zero_mod]; exact hJ0))
      refine lv_iload_n hx hb dX4_run_72 rfl (lv_at hl 1 rfl) ?_
      refine lv_aload_n hx hb dX4_run_73 rfl (lv_at hl 0 rfl) ?_
      refine m_g hx hb hU hown h 15 (by decide) ufX4_81 (v := .int (nI ((itr M_run_s (n * μ.1 15 0) 0 (mN μ 2 0 0)).1 15 0))) rfl dX4_run_74 ?_
      refine n_imul hx hb dX4_run_77 ?_
      exact W.iret (v := nI (n * ((itr M_run_s (n * μ.1 15 0) 0 (mN μ 2 0 0)).1 15 0))) hx hb hr (fun t ht hW => ⟨⟨_, _, rfl, (by show _ = nI (M_run μ _).1 ∧ _ = (M_run μ _).2; unfold M_run; first | (rw [if_pos c_5]; exact ⟨rfl, rfl⟩) | (rw [if_neg (by omega), if_pos c19]; simp only [tn]; rw [nI_clamp (by omega), e15]; exact ⟨rfl, rfl⟩) | (rw [if_neg (by omega), if_neg (show ¬ wi x 1 20 = true by rw [show wi x 1 20 = false from c_19]; decide)]; exact ⟨rfl, rfl⟩)), h.at ht hW⟩, h.2.2.2.2.F ht⟩) h.2.2.2.2.2.2 dX4_run_78
    · refine lv_iconst (v := nI 2) hx hb dX4_run_22 (by decide +kernel) ?_
      refine lv_goto (tgt := 27) hx hb dX4_run_23 (by decide) ?_
      refine m_p hx hb hU hown h 2 (by decide) ufX4_71 dX4_run_27 (fun H locs h => ?_)
      refine lv_aload_n hx hb dX4_run_30 rfl (lv_at hl 0 rfl) ?_
      refine m_g hx hb hU hown h 2 (by decide) ufX4_71 (v := .int (nI 2)) (by first | rfl | (simp [mO, mN, mI, up2]; done)) dX4_run_31 ?_
      refine n_if_le (tgt := 39) hx hb (by omega) dX4_run_34 (by decide) (fun c_34 => absurd c_34 (by omega)) (fun c_34 => ?_)
      refine lv_iconst (v := nI 0) hx hb dX4_run_37 (by decide +kernel) ?_
      exact W.iret (v := nI 0) hx hb hr (fun t ht hW => ⟨⟨_, _, rfl, (by show _ = nI (M_run μ _).1 ∧ _ = (M_run μ _).2; unfold M_run; first | (rw [if_pos c_5]; exact ⟨rfl, rfl⟩) | (rw [if_neg (by omega), if_pos c19]; simp only [tn]; rw [nI_clamp (by omega), e15]; exact ⟨rfl, rfl⟩) | (rw [if_neg (by omega), if_neg (show ¬ wi x 1 20 = true by rw [show wi x 1 20 = false from c_19]; decide)]; exact ⟨rfl, rfl⟩)), h.at ht hW⟩, h.2.2.2.2.F ht⟩) h.2.2.2.2.2.2 dX4_run_38
  · refine lv_iconst (v := nI 1) hx hb dX4_run_8 (by decide +kernel) ?_
    refine lv_goto (tgt := 27) hx hb dX4_run_9 (by decide) ?_
    refine m_p hx hb hU hown h 2 (by decide) ufX4_71 dX4_run_27 (fun H locs h => ?_)
    refine lv_aload_n hx hb dX4_run_30 rfl (lv_at hl 0 rfl) ?_
    refine m_g hx hb hU hown h 2 (by decide) ufX4_71 (v := .int (nI 1)) (by first | rfl | (simp [mO, mN, mI, up2]; done)) dX4_run_31 ?_
    refine n_if_le (tgt := 39) hx hb (by omega) dX4_run_34 (by decide) (fun c_34 => absurd c_34 (by omega)) (fun c_34 => ?_)
    refine lv_iconst (v := nI 0) hx hb dX4_run_37 (by decide +kernel) ?_
    exact W.iret (v := nI 0) hx hb hr (fun t ht hW => ⟨⟨_, _, rfl, (by show _ = nI (M_run μ _).1 ∧ _ = (M_run μ _).2; unfold M_run; first | (rw [if_pos c_5]; exact ⟨rfl, rfl⟩) | (rw [if_neg (by omega), if_pos c19]; simp only [tn]; rw [nI_clamp (by omega), e15]; exact ⟨rfl, rfl⟩) | (rw [if_neg (by omega), if_neg (show ¬ wi x 1 20 = true by rw [show wi x 1 20 = false from c_19]; decide)]; exact ⟨rfl, rfl⟩)), h.at ht hW⟩, h.2.2.2.2.F ht⟩) h.2.2.2.2.2.2 dX4_run_38
