/-! ===== TokenFlow.plan ===== -/
def T_conn (σ : TS) : Bool := allB (fun n => decide (σ.1 4 n ≠ 0)) (σ.1 20 0) 0 && decide (0 < σ.1 20 0)
def T_bal (σ : TS) : Bool := allB (fun q => decide (σ.1 4 (σ.1 10 q) * σ.1 12 q = σ.1 4 (σ.1 11 q) * σ.1 13 q)) (σ.1 21 0) 0
def T_sum (σ : TS) : Nat := sF (σ.1 4) (σ.1 20 0) 0 0
theorem itr_round_N : ∀ (k i : Nat) (τ : TS) {f : Nat} (n : Nat), f ≠ 4 → (itr T_round k i τ).1 f n = τ.1 f n := by
  intro k
  induction k with
  | zero => intro i τ f n _; rfl
  | succ k ih => intro i τ f n hf; exact (ih (i + 1) _ n hf).trans (T_round_N i τ n hf)
theorem itr_round_I : ∀ (k i : Nat) (τ : TS), SpI τ → SpI (itr T_round k i τ) := by
  intro k
  induction k with
  | zero => intro i τ h; exact h
  | succ k ih => intro i τ h; exact ih (i + 1) _ (SpI_round i h)
theorem T_spread_N (σ : TS) {f : Nat} (n : Nat) (hf : f ≠ 4) : (T_spread σ).1 f n = σ.1 f n := by
  unfold T_spread
  rw [itr_round_N _ _ _ n hf, itr_sp0_N, if_neg (by omega)]
theorem T_spread_I {σ : TS} (h : TNet σ) : SpI (T_spread σ) := itr_round_I _ _ _ (SpI_sp0 h)
theorem itr_div_N (c : Nat) : ∀ (k i : Nat) (τ : TS) (f n : Nat), (itr (T_div c) k i τ).1 f n = if f = 4 ∧ i ≤ n ∧ n < i + k then τ.1 4 n / c else τ.1 f n := by
  intro k
  induction k with
  | zero => intro i τ f n; rw [if_neg (by omega)]; rfl
  | succ k ih =>
    intro i τ f n
    show (itr (T_div c) k (i + 1) (T_div c i τ)).1 f n = _
    rw [ih]
    show (if f = 4 ∧ i + 1 ≤ n ∧ n < i + 1 + k then up2 τ.1 4 i (τ.1 4 i / c) 4 n / c else up2 τ.1 4 i (τ.1 4 i / c) f n) = _
    by_cases e : n = i
    · subst e
      rw [if_neg (by omega)]
      by_cases ef : f = 4
      · subst ef; rw [up2_eq, if_pos (by omega)]
      · rw [up2_k _ _ _ _ ef, if_neg (by omega)]
    · rw [up2_n _ _ _ _ e, up2_n _ _ _ _ e]
      by_cases q : f = 4 ∧ i + 1 ≤ n ∧ n < i + 1 + k
      · rw [if_pos q, if_pos (by omega)]
      · rw [if_neg q, if_neg (by omega)]
theorem T_reduce_N (σ : TS) {f : Nat} (n : Nat) (hf : f ≠ 4) : (T_reduce σ).1 f n = σ.1 f n := by
  unfold T_reduce
  split
  · rw [itr_div_N, if_neg (by omega)]
  · rfl
theorem T_reduce_le (σ : TS) (n : Nat) : (T_reduce σ).1 4 n ≤ σ.1 4 n := by
  unfold T_reduce
  split
  · rw [itr_div_N]
    split
    · exact Nat.div_le_self _ _
    · exact Nat.le_refl _
  · exact Nat.le_refl _
theorem sF_le {f : Nat → Nat} {B : Nat} : ∀ (k i c : Nat), (∀ j, i ≤ j → j < i + k → f j ≤ B) → sF f k i c ≤ c + k * B := by
  intro k
  induction k with
  | zero => intro i c _; show c ≤ _; omega
  | succ k ih =>
    intro i c h
    have h1 := ih (i + 1) (c + f i) (fun j h1 h2 => h j (by omega) (by omega))
    have h2 := h i (Nat.le_refl _) (by omega)
    show sF f k (i + 1) (c + f i) ≤ _
    rw [Nat.succ_mul]
    omega
theorem T_lay_N : ∀ (k i : Nat) (τ : TS) {f : Nat} (n : Nat), f ≠ 5 → f ≠ 15 → f ≠ 16 → f ≠ 23 → (T_lay k i τ).2.1 f n = τ.1 f n := by
  intro k
  induction k with
  | zero => intro i τ f n _ _ _ _; rfl
  | succ k ih =>
    intro i τ f n h1 h2 h3 h4
    by_cases e : T_next τ < τ.1 20 0
    · rw [show T_lay (k + 1) i τ = T_lay k (i + 1) (T_count (sN τ 23 i (T_next τ)) (T_next τ)) from if_pos e, ih (i + 1) _ n h1 h2 h3 h4, T_count_N, if_neg (by omega), if_neg (by omega), if_neg (by omega), sN_k _ _ _ _ h4]
    · rw [show T_lay (k + 1) i τ = (false, τ) from if_neg e]
theorem T_lay_I : ∀ (k i : Nat) (τ : TS), LayI i τ → ∃ j, j ≤ i + k ∧ LayI j (T_lay k i τ).2 := by
  intro k
  induction k with
  | zero => intro i τ h; exact ⟨i, Nat.le_refl _, h⟩
  | succ k ih =>
    intro i τ h
    by_cases e : T_next τ < τ.1 20 0
    · rw [show T_lay (k + 1) i τ = T_lay k (i + 1) (T_count (sN τ 23 i (T_next τ)) (T_next τ)) from if_pos e]
      obtain ⟨j, h1, h2⟩ := ih (i + 1) _ (LayI_next h e)
      exact ⟨j, by omega, h2⟩
    · rw [show T_lay (k + 1) i τ = (false, τ) from if_neg e]
      exact ⟨i, by omega, h⟩
theorem T_layOut_N (σ : TS) (F : Nat) {f : Nat} (n : Nat) (h1 : f ≠ 5) (h2 : f ≠ 15) (h3 : f ≠ 16) (h4 : f ≠ 23) : (T_layOut σ F).2.1 f n = σ.1 f n := by
  unfold T_layOut
  rw [T_lay_N _ _ _ n h1 h2 h3 h4, itr_lay_e_N, if_neg (by omega), itr_lay_f_N, if_neg (by omega)]
theorem T_layOut_B {σ : TS} {F : Nat} (h : TNet σ) (hr : ∀ n, n < σ.1 20 0 → σ.1 4 n < 2 ^ 40) (hF : F ≤ 200) (q : Nat) (hq : q < σ.1 21 0) : (T_layOut σ F).2.1 16 q < 2 ^ 18 := by
  obtain ⟨j, h1, h2⟩ := T_lay_I F 0 _ (LayI_start h hr)
  have h3 := h2.2.2 q (by rw [T_lay_N _ _ _ 0 (by decide) (by decide) (by decide) (by decide), itr_lay_e_N, if_neg (by omega), itr_lay_f_N, if_neg (by omega)]; exact hq)
  unfold T_layOut
  omega
/-- the stages of a plan -/
def P0 (σ : TS) : TS := T_spread (sN σ 22 0 0)
def P1 (σ : TS) : TS := T_reduce (P0 σ)
def PF (σ : TS) : Nat := T_sum (P1 σ)
def P3 (σ : TS) : TS := sN (T_layOut (P1 σ) (PF σ)).2 22 0 (PF σ)
abbrev PlanS (σ : TS) : Prop := T_conn (P0 σ) = true ∧ T_bal (P0 σ) = true ∧ PF σ ≤ 200 ∧ (T_layOut (P1 σ) (PF σ)).1 = true
def PS (σ : TS) : Nat := if PlanS σ then 6 + rsum (P3 σ) ((P3 σ).1 21 0) 0 else 6
theorem PS_ok {σ : TS} (h : PlanS σ) : PS σ = 6 + rsum (P3 σ) ((P3 σ).1 21 0) 0 := if_pos h
theorem PS_no {σ : TS} (h : ¬ PlanS σ) : PS σ = 6 := if_neg h
theorem PS_ge (σ : TS) : 6 ≤ PS σ := by unfold PS; split <;> omega
/-- what plan() asks -/
def PlanC (σ : TS) : Prop := TNet σ ∧ ∀ q, q < 12 → 9 ≤ σ.1 17 q ∧ σ.1 17 q < 2 ^ 18
theorem P0_N (σ : TS) {f : Nat} (n : Nat) (h1 : f ≠ 4) (h2 : f ≠ 22) : (P0 σ).1 f n = σ.1 f n := by
  unfold P0; rw [T_spread_N _ n h1, sN_k _ _ _ _ h2]
theorem TNet.s22 {σ : TS} (h : TNet σ) (v : Nat) : TNet (sN σ 22 0 v) := by
  unfold TNet
  rw [sN_k _ _ _ _ (by decide), sN_k _ _ _ _ (by decide)]
  refine ⟨h.1, h.2.1, fun q hq => ?_⟩
  rw [sN_k _ _ _ _ (by decide), sN_k _ _ _ _ (by decide), sN_k _ _ _ _ (by decide), sN_k _ _ _ _ (by decide), sN_k _ _ _ _ (by decide)]
  exact h.2.2 q hq
theorem P0_I {σ : TS} (h : TNet σ) : SpI (P0 σ) := T_spread_I (h.s22 0)
theorem P1_N (σ : TS) {f : Nat} (n : Nat) (h1 : f ≠ 4) (h2 : f ≠ 22) : (P1 σ).1 f n = σ.1 f n := by
  unfold P1; rw [T_reduce_N _ n h1, P0_N σ n h1 h2]
theorem P1_T {σ : TS} (h : TNet σ) : TNet (P1 σ) ∧ ∀ n, n < (P1 σ).1 20 0 → (P1 σ).1 4 n < 2 ^ 40 := by
  have hI := P0_I h
  refine ⟨hI.1.same (fun f n hf => T_reduce_N _ n hf), fun n hn => ?_⟩
  rw [P1_N σ 0 (by decide) (by decide)] at hn
  exact Nat.lt_of_le_of_lt (T_reduce_le _ _) (hI.lt (by rw [P0_N σ 0 (by decide) (by decide)]; exact hn))
theorem PF_lt {σ : TS} (h : TNet σ) : PF σ < 2 ^ 63 := by
  have h1 := P1_T h
  have h2 := sF_le (f := (P1 σ).1 4) (B := 2 ^ 40) ((P1 σ).1 20 0) 0 0 (fun j _ hj => Nat.le_of_lt (h1.2 j (by omega)))
  have h3 := h1.1.1
  have h4 : (P1 σ).1 20 0 * 2 ^ 40 ≤ 8 * 2 ^ 40 := Nat.mul_le_mul_right _ h3
  show sF _ _ _ _ < _
  omega
theorem P3_N (σ : TS) {f : Nat} (n : Nat) (h1 : f ≠ 4) (h2 : f ≠ 22) (h3 : f ≠ 5) (h4 : f ≠ 15) (h5 : f ≠ 16) (h6 : f ≠ 23) : (P3 σ).1 f n = σ.1 f n := by
  unfold P3; rw [sN_k _ _ _ _ h2, T_layOut_N _ _ n h3 h4 h5 h6, P1_N σ n h1 h2]
theorem Rooms_start {σ u : TS} (h : PlanC σ) (hF : PF σ ≤ 200) (hu : Rooms (P3 σ) ((P3 σ).1 21 0) 0 u) : T_startC u := by
  have e : ∀ f n, f ≠ 17 → u.1 f n = (P3 σ).1 f n := fun f n hf => by rw [hu.1 f n, if_neg (by omega)]
  unfold T_startC
  rw [e 20 0 (by decide), e 21 0 (by decide), P3_N σ 0 (by decide) (by decide) (by decide) (by decide) (by decide) (by decide), P3_N σ 0 (by decide) (by decide) (by decide) (by decide) (by decide) (by decide)]
  refine ⟨h.1.1, h.1.2.1, fun q hq => ?_⟩
  have h12 := h.1.2.1
  have hw := (h.1.2.2 q hq).2.2.2.2.2.2
  have hr := h.2 q (by omega)
  have hb := T_layOut_B (P1_T h.1).1 (P1_T h.1).2 hF q (by rw [P1_N σ 0 (by decide) (by decide)]; exact hq)
  rw [e 14 q (by decide), P3_N σ q (by decide) (by decide) (by decide) (by decide) (by decide) (by decide), hu.1 17 q, P3_N σ q (f := 17) (by decide) (by decide) (by decide) (by decide) (by decide) (by decide)]
  have h16 : (P3 σ).1 16 q = (T_layOut (P1 σ) (PF σ)).2.1 16 q := sN_k _ _ _ _ (by decide)
  rw [h16]
  split
  · unfold roomL; omega
  · omega
theorem P3_22 (σ : TS) : (P3 σ).1 22 0 = PF σ := by simp [P3, sN, up2]
theorem plan_rooms {σ : TS} (hc : PlanC σ) (hF : PF σ ≤ 200) : ∀ q, q < (P3 σ).1 21 0 → (P3 σ).1 17 q < 2 ^ 18 ∧ (P3 σ).1 16 q < 2 ^ 18 := by
  intro q hq
  rw [P3_N σ 0 (by decide) (by decide) (by decide) (by decide) (by decide) (by decide)] at hq
  have h12 := hc.1.2.1
  refine ⟨?_, ?_⟩
  · rw [P3_N σ q (by decide) (by decide) (by decide) (by decide) (by decide) (by decide)]
    exact (hc.2 q (by omega)).2
  · unfold P3
    rw [sN_k _ _ _ _ (by decide)]
    exact T_layOut_B (P1_T hc.1).1 (P1_T hc.1).2 hF q (by rw [P1_N σ 0 (by decide) (by decide)]; exact hq)
theorem T_start_22 (u : TS) : (T_start u).1 22 0 = u.1 22 0 := by
  have e : ∀ (k i : Nat) (τ : TS), (itr T_start_e k i τ).1 22 0 = τ.1 22 0 := by
    intro k
    induction k with
    | zero => intro i τ; rfl
    | succ k ih =>
      intro i τ
      show (itr T_start_e k (i + 1) (T_eStart τ i)).1 22 0 = _
      rw [ih, T_eStart_N, up2_k _ _ _ _ (by decide), up2_k _ _ _ _ (by decide)]
  unfold T_start
  rw [e, itr_start_a_N]
/-- the ends of plan(): a plan, or what is thrown -/
def PlanQ (σ : TS) (r : Int32) (u : TS) : Prop := T_conn (P0 σ) = true ∧ T_bal (P0 σ) = true ∧ PF σ ≤ 200 ∧ (T_layOut (P1 σ) (PF σ)).1 = true ∧ r = nI (PF σ) ∧ ∃ v, Rooms (P3 σ) ((P3 σ).1 21 0) 0 v ∧ u = T_start v
def PlanX (σ : TS) (x : String × TS) : Prop :=
  (T_conn (P0 σ) = false ∧ x = (xISE, P0 σ)) ∨ (T_conn (P0 σ) = true ∧ T_bal (P0 σ) = false ∧ x = (xAE, P0 σ)) ∨
  (T_conn (P0 σ) = true ∧ T_bal (P0 σ) = true ∧ 200 < PF σ ∧ x = (xUOE, P1 σ)) ∨
  (T_conn (P0 σ) = true ∧ T_bal (P0 σ) = true ∧ PF σ ≤ 200 ∧ (T_layOut (P1 σ) (PF σ)).1 = false ∧ x = (xNSEE, (T_layOut (P1 σ) (PF σ)).2))
set_option maxRecDepth 100000 in
set_option maxHeartbeats 4000000 in
theorem c_X3_plan (l : Launch) (D : va_G) (cy : Nat → ClassId) (ad : Nat → Nat) (σ : TS) (sz : Nat) (hst : l.stackTraces = false) (hc : PlanC σ) : MTx l D cy ad yX3_plan cX3_plan 3 .int (rmx 6 13 (PS σ)) [.ref (ad 0)] σ sz (PlanQ σ) (PlanX σ) := by
  refine vx_ofW (cc := cX3_plan) (maxL := 3) (ret := (some .int)) (by decide) rfl ?_
  intro p ev s m args below meth c s₁ B hml ht hv
  obtain ⟨rfl, hw, hT⟩ := hv
  have hx := B.exec
  have hb := B.bytes
  have hr := B.returns
  have hlk := B.notSynchronized
  have hU : ∀ w ∈ UW, w.before _ s = true := fun w hw => atoms_spec (ws := Cond.code yX3_plan cX3_plan 3 (some .int) :: UW) B.pre w (List.mem_cons_of_mem _ hw)
  have hown : s.vm.findClass RX3 = some m.cls := findClass_of_methodNamed B.named
  have hR : 6 ≤ (headSpec (Cond.code yX3_plan cX3_plan 3 (some .int) :: UW) (rmx 6 13 (PS σ))).room.frames ∧ 32 * 6 ≤ (headSpec (Cond.code yX3_plan cX3_plan 3 (some .int) :: UW) (rmx 6 13 (PS σ))).room.locals := ⟨Nat.le_refl _, Nat.le_refl _⟩
  have hcs : 0 ≤ (headSpec (Cond.code yX3_plan cX3_plan 3 (some .int) :: UW) (rmx 6 13 (PS σ))).room.cells ∧ 0 ≤ (headSpec (Cond.code yX3_plan cX3_plan 3 (some .int) :: UW) (rmx 6 13 (PS σ))).room.slots := ⟨Nat.zero_le _, Nat.zero_le _⟩
  have h := WX.start hw
  clear hw
  generalize va_A (wv _ _ _) _ = A at h hT ⊢
  have hl := lv_entry ([.ref (ad 0)]) (n := 3) (Nat.le_of_ble_eq_true rfl)
  rw [lg_entry_eq]
  generalize (lg_sl ([.ref (ad 0)]) ++ List.replicate (3 - (lg_sl ([.ref (ad 0)])).length) Slot.unset).toArray = ls at hl ⊢
  have hl : lv_has ls 3 [(0, .ref (ad 0))] := hl
  have hI := P0_I hc.1
  have hI1 := P1_T hc.1
  refine lv_aload_n hx hb dX3_plan_0 rfl (lv_at hl 0 rfl) ?_
  refine lv_iconst (v := nI 0) hx hb dX3_plan_1 (by decide +kernel) ?_
  refine t_pM hx hb hU hown h 6 (by decide) ufX3_81 dX3_plan_2 (fun H locs h => ?_)
  have h : XT D cy ad s A H locs (sN σ 22 0 0) := h
  refine lv_aload_n hx hb dX3_plan_5 rfl (lv_at hl 0 rfl) ?_
  refine y_callv hx hb hml hU hown hR hcs h (c_X3_spreadRepetitions l D cy ad (sN σ 22 0 0) _ (hc.1.s22 0)) umX3_84 ui_X3_spreadRepetitions us_X3_spreadRepetitions unX3 uc_X3_spreadRepetitions hd_X3_spreadRepetitions (by decide) (by decide) (t_recvM h) hl.1 rfl (Nat.le_of_ble_eq_true rfl) dX3_plan_6 (fun u H locs hw h => ?_)
  have hu := hw
  have h : XT D cy ad s A H locs (T_spread (sN σ 22 0 0)) := by rw [← hu]; exact h
  clear hu
  have h : XT D cy ad s A H locs (P0 σ) := h
  refine lv_aload_n hx hb dX3_plan_9 rfl (lv_at hl 0 rfl) ?_
  refine y_calli hx hb hml hU hown hR hcs h (c_X3_isConnected l D cy ad (P0 σ) _ hI.1.1 (fun n hn => Nat.lt_trans (hI.lt hn) (by decide))) umX3_87 ui_X3_isConnected us_X3_isConnected unX3 uc_X3_isConnected hd_X3_isConnected (by decide) (by decide) (t_recvM h) hl.1 rfl (Nat.le_of_ble_eq_true rfl) dX3_plan_10 (fun r u H locs hw h => ?_)
  obtain ⟨rfl, hu⟩ := hw
  have h : XT D cy ad s A H locs (P0 σ) := by rw [← hu]; exact h
  clear hu
  refine z_if_ne (tgt := 26) hx hb dX3_plan_13 (by decide) (fun c_13 => ?_) (fun c_13 => ?_)
  · refine lv_aload_n hx hb dX3_plan_26 rfl (lv_at hl 0 rfl) ?_
    refine y_calli hx hb hml hU hown hR hcs h (c_X3_isBalanced l D cy ad (P0 σ) _ hI.1.1 hI.1.2.1 (fun n hn => hI.lt hn) (fun q hq => ⟨(hI.1.2.2 q hq).1, (hI.1.2.2 q hq).2.1, (hI.1.2.2 q hq).2.2.2.1, (hI.1.2.2 q hq).2.2.2.2.2.1⟩)) umX3_98 ui_X3_isBalanced us_X3_isBalanced unX3 uc_X3_isBalanced hd_X3_isBalanced (by decide) (by decide) (t_recvM h) hl.1 rfl (Nat.le_of_ble_eq_true rfl) dX3_plan_27 (fun r u H locs hw h => ?_)
    obtain ⟨rfl, hu⟩ := hw
    have h : XT D cy ad s A H locs (P0 σ) := by rw [← hu]; exact h
    clear hu
    refine z_if_ne (tgt := 43) hx hb dX3_plan_30 (by decide) (fun c_30 => ?_) (fun c_30 => ?_)
    · refine lv_aload_n hx hb dX3_plan_43 rfl (lv_at hl 0 rfl) ?_
      refine y_callv hx hb hml hU hown hR hcs h (c_X3_reduceRepetitions l D cy ad (P0 σ) _ hI.1.1 (fun n hn => Nat.lt_trans (hI.lt hn) (by decide))) umX3_106 ui_X3_reduceRepetitions us_X3_reduceRepetitions unX3 uc_X3_reduceRepetitions hd_X3_reduceRepetitions (by decide) (by decide) (t_recvM h) hl.1 rfl (Nat.le_of_ble_eq_true rfl) dX3_plan_44 (fun u H locs hw h => ?_)
      have hu := hw
      have h : XT D cy ad s A H locs (T_reduce (P0 σ)) := by rw [← hu]; exact h
      clear hu
      have h : XT D cy ad s A H locs (P1 σ) := h
      refine lv_aload_n hx hb dX3_plan_47 rfl (lv_at hl 0 rfl) ?_
      refine y_calll hx hb hml hU hown hR hcs h (c_X3_sumOfRepetitions l D cy ad (P1 σ) _ hI1.1.1) umX3_109 ui_X3_sumOfRepetitions us_X3_sumOfRepetitions unX3 uc_X3_sumOfRepetitions hd_X3_sumOfRepetitions (by decide) (by decide) (t_recvM h) hl.1 rfl (Nat.le_of_ble_eq_true rfl) dX3_plan_48 (fun r u H locs hw h => ?_)
      obtain ⟨rfl, hu⟩ := hw
      have h : XT D cy ad s A H locs (P1 σ) := by rw [← hu]; exact h
      clear hu
      refine lv_lstore_n (lv' := [(1, .long (lN (T_sum (P1 σ)))), (0, .ref (ad 0))]) hx hb dX3_plan_51 rfl hl (by decide) rfl (fun ls hl => ?_)
      refine lv_lload_n hx hb dX3_plan_52 rfl (lv_at hl 0 rfl) ?_
      refine lv_ldc2l (v := lN 200) hx hb hown (hU _ ukX3_113) dX3_plan_53 ?_
      refine W.lcmp hx hb dX3_plan_56 ?_
      refine n_lif_le (tgt := 70) hx hb (PF_lt hc.1) (by decide) dX3_plan_57 (by decide) (fun c_57 => ?_) (fun c_57 => ?_)
      · refine lv_aload_n hx hb dX3_plan_70 rfl (lv_at hl 1 rfl) ?_
        refine lv_lload_n hx hb dX3_plan_71 rfl (lv_at hl 0 rfl) ?_
        refine n_l2i hx hb dX3_plan_72 ?_
        refine y_calli hx hb hml hU hown hR hcs h (c_X3_layOut l D cy ad (P1 σ) _ (F := T_sum (P1 σ)) c_57 hI1.1 hI1.2) umX3_120 ui_X3_layOut us_X3_layOut unX3 uc_X3_layOut hd_X3_layOut (by decide) (by decide) (t_recvM h) hl.1 rfl (Nat.le_of_ble_eq_true rfl) dX3_plan_73 (fun r u H locs hw h => ?_)
        obtain ⟨rfl, hu⟩ := hw
        have h : XT D cy ad s A H locs (T_layOut (P1 σ) (T_sum (P1 σ))).2 := by rw [← hu]; exact h
        clear hu
        refine z_if_ne (tgt := 89) hx hb dX3_plan_76 (by decide) (fun c_76 => ?_) (fun c_76 => ?_)
        · refine lv_aload_n hx hb dX3_plan_89 rfl (lv_at hl 1 rfl) ?_
          refine lv_lload_n hx hb dX3_plan_90 rfl (lv_at hl 0 rfl) ?_
          refine n_l2i hx hb dX3_plan_91 ?_
          refine t_pM hx hb hU hown h 6 (by decide) ufX3_81 dX3_plan_92 (fun H locs h => ?_)
          have h : XT D cy ad s A H locs (sN (T_layOut (P1 σ) (T_sum (P1 σ))).2 22 0 (T_sum (P1 σ))) := h
          have e21 : (P3 σ).1 21 0 = σ.1 21 0 := P3_N σ 0 (by decide) (by decide) (by decide) (by decide) (by decide) (by decide)
          have h : XT D cy ad s A H locs (P3 σ) := h
          refine lv_aload_n hx hb dX3_plan_95 rfl (lv_at hl 1 rfl) ?_
          refine x_callv (rm := rmx 2 ((P3 σ).1 21 0) (rsum (P3 σ) ((P3 σ).1 21 0) 0)) hx hb hml hU hown h (c_X3_makeRoomForTokens l D cy ad (P3 σ) _ (by rw [e21]; exact hc.1.2.1) (plan_rooms hc c_57)) umX3_128 ui_X3_makeRoomForTokens us_X3_makeRoomForTokens unX3 uc_X3_makeRoomForTokens hd_X3_makeRoomForTokens ⟨Nat.le_trans (Nat.le_of_ble_eq_true rfl) hR.1, Nat.le_trans (Nat.le_of_ble_eq_true rfl) hR.2⟩ (t_recvM h) hl.1 rfl (Nat.le_of_ble_eq_true rfl) dX3_plan_96 ⟨by show 0 + (P3 σ).1 21 0 ≤ 13; rw [e21]; have := hc.1.2.1; omega, by show 0 + rsum _ _ _ ≤ PS σ; rw [PS_ok ⟨c_13, c_30, c_57, c_76⟩]; omega⟩ (fun v0 H locs hv0 h => ?_)
          refine W.widen (k := 13) (n := PS σ) (by show 0 + (P3 σ).1 21 0 ≤ 13; rw [e21]; have := hc.1.2.1; omega) (by show 0 + rsum _ _ _ ≤ PS σ; rw [PS_ok ⟨c_13, c_30, c_57, c_76⟩]; omega) ?_
          have hs := Rooms_start hc c_57 hv0
          have hcs : 13 ≤ (headSpec (Cond.code yX3_plan cX3_plan 3 (some .int) :: UW) (rmx 6 13 (PS σ))).room.cells ∧ PS σ ≤ (headSpec (Cond.code yX3_plan cX3_plan 3 (some .int) :: UW) (rmx 6 13 (PS σ))).room.slots := ⟨Nat.le_refl _, Nat.le_refl _⟩
          refine lv_aload_n hx hb dX3_plan_99 rfl (lv_at hl 1 rfl) ?_
          refine y_callv hx hb hml hU hown hR hcs h (c_X3_bringToStart l D cy ad v0 _ hs) umX3_78 ui_X3_bringToStart us_X3_bringToStart unX3 uc_X3_bringToStart hd_X3_bringToStart (by decide) (by decide) (t_recvM h) hl.1 rfl (Nat.le_of_ble_eq_true rfl) dX3_plan_100 (fun u H locs hw h => ?_)
          have hu := hw
          have h : XT D cy ad s A H locs (T_start v0) := by rw [← hu]; exact h
          clear hu
          refine lv_aload_n hx hb dX3_plan_103 rfl (lv_at hl 1 rfl) ?_
          refine t_gM hx hb hU hown h 6 (by decide) ufX3_81 (v := .int (nI ((T_start v0).1 22 0))) rfl dX3_plan_104 ?_
          exact vx_ret (W.iret (v := nI ((T_start v0).1 22 0)) hx hb hr (fun t ht hW => ⟨⟨_, _, rfl, ⟨c_13, c_30, c_57, c_76, by rw [T_start_22, hv0.1, if_neg (by omega), P3_22], v0, hv0, rfl⟩, h.at ht hW⟩, h.2.2.2.2.F ht⟩) h.2.2.2.2.2.2 dX3_plan_107)
        · obtain ⟨sa, hsa⟩ := hT.2.2.2 (125, "no actor can fire though firings are left") (by simp [TXT])
          exact nx_throwS (own := RX3) (cls := xNSEE) (names := nm2) (ik := 123) (is := 125) (ic := 127) (ix := 13) (rx := rxN) (A := A) hx hb hst rxN_0 rxN_1 rxN_2 rxN_5 hown ft_all.2.2.2.1 ft_all.2.2.2.2.2 (hU _ ulX3_123) (hU _ unNoSuchElementException) hsa (vx_hat (fun w hw => hU w (at_NSEE w hw)) nb_NSEE hT.words) og_NSEE hT.1 hT.2.1 h.2.2.2.2 (hl.1.trans hml.symm) dX3_plan_79 dX3_plan_82 dX3_plan_83 dX3_plan_85 dX3_plan_88 (fun x hx => (ht x hx).elim) (Nat.lt_of_lt_of_le (by decide) hR.1) (Nat.le_trans (by decide) hR.2) (by show 0 + 1 ≤ 13; decide) (by show 0 + 6 ≤ PS σ; have := PS_ge σ; omega) hlk (fun t ha hz hq => ⟨(xNSEE, (T_layOut (P1 σ) (T_sum (P1 σ))).2), Or.inr (Or.inr (Or.inr ⟨c_13, c_30, c_57, c_76, rfl⟩)), ⟨rfl, (h.thrown ha hz hq).1⟩, (h.thrown ha hz hq).2⟩) h.2.2.2.2.2.2 (by show 0 + 1 ≤ 13; decide) (by show 0 + 6 ≤ PS σ; have := PS_ge σ; omega)
      · obtain ⟨sa, hsa⟩ := hT.2.2.2 (117, "the repetitions are too many") (by simp [TXT])
        exact vx_throwS (own := RX3) (cls := xUOE) (names := nm2) (ik := 115) (is := 117) (ic := 119) (A := A) hx hb hst hown ft_all.2.2.1 ft_all.2.2.2.2.2 (hU _ ulX3_115) (hU _ unUnsupportedOperationException) hsa (vx_hat (fun w hw => hU w (at_UOE w hw)) nb_UOE hT.words) og_UOE hT.1 hT.2.1 h.2.2.2.2 (hl.1.trans hml.symm) dX3_plan_60 dX3_plan_63 dX3_plan_64 dX3_plan_66 dX3_plan_69 (fun x hx => (ht x hx).elim) (Nat.lt_of_lt_of_le (by decide) hR.1) (Nat.le_trans (by decide) hR.2) (by show 0 + 1 ≤ 13; decide) (by show 0 + 6 ≤ PS σ; have := PS_ge σ; omega) hlk (fun t ha hz hq => ⟨(xUOE, (P1 σ)), Or.inr (Or.inr (Or.inl ⟨c_13, c_30, c_57, rfl⟩)), ⟨rfl, (h.thrown ha hz hq).1⟩, (h.thrown ha hz hq).2⟩) h.2.2.2.2.2.2 (by show 0 + 1 ≤ 13; decide) (by show 0 + 6 ≤ PS σ; have := PS_ge σ; omega)
    · obtain ⟨sa, hsa⟩ := hT.2.2.2 (103, "there are no repetitions") (by simp [TXT])
      exact vx_throwS (own := RX3) (cls := xAE) (names := nm2) (ik := 101) (is := 103) (ic := 105) (A := A) hx hb hst hown ft_all.2.1 ft_all.2.2.2.2.2 (hU _ ulX3_101) (hU _ unArithmeticException) hsa (vx_hat (fun w hw => hU w (at_AE w hw)) nb_AE hT.words) og_AE hT.1 hT.2.1 h.2.2.2.2 (hl.1.trans hml.symm) dX3_plan_33 dX3_plan_36 dX3_plan_37 dX3_plan_39 dX3_plan_42 (fun x hx => (ht x hx).elim) (Nat.lt_of_lt_of_le (by decide) hR.1) (Nat.le_trans (by decide) hR.2) (by show 0 + 1 ≤ 13; decide) (by show 0 + 6 ≤ PS σ; have := PS_ge σ; omega) hlk (fun t ha hz hq => ⟨(xAE, (P0 σ)), Or.inr (Or.inl ⟨c_13, c_30, rfl⟩), ⟨rfl, (h.thrown ha hz hq).1⟩, (h.thrown ha hz hq).2⟩) h.2.2.2.2.2.2 (by show 0 + 1 ≤ 13; decide) (by show 0 + 6 ≤ PS σ; have := PS_ge σ; omega)
  · obtain ⟨sa, hsa⟩ := hT.2.2.2 (93, "the network is not connected") (by simp [TXT])
    exact vx_throwS (own := RX3) (cls := xISE) (names := nm2) (ik := 91) (is := 93) (ic := 95) (A := A) hx hb hst hown ft_all.1 ft_all.2.2.2.2.2 (hU _ ulX3_91) (hU _ unIllegalStateException) hsa (vx_hat (fun w hw => hU w (at_ISE w hw)) nb_ISE hT.words) og_ISE hT.1 hT.2.1 h.2.2.2.2 (hl.1.trans hml.symm) dX3_plan_16 dX3_plan_19 dX3_plan_20 dX3_plan_22 dX3_plan_25 (fun x hx => (ht x hx).elim) (Nat.lt_of_lt_of_le (by decide) hR.1) (Nat.le_trans (by decide) hR.2) (by show 0 + 1 ≤ 13; decide) (by show 0 + 6 ≤ PS σ; have := PS_ge σ; omega) hlk (fun t ha hz hq => ⟨(xISE, (P0 σ)), Or.inl ⟨c_13, rfl⟩, ⟨rfl, (h.thrown ha hz hq).1⟩, (h.thrown ha hz hq).2⟩) h.2.2.2.2.2.2 (by show 0 + 1 ≤ 13; decide) (by show 0 + 6 ≤ PS σ; have := PS_ge σ; omega)
/-! ===== TokenFlow.run ===== -/
def T_run_s : Nat → TS → TS := fun i τ => T_fire τ (τ.1 23 i)
def T_run1 (P : Nat) : Nat → TS → TS := fun _ τ => itr T_run_s P 0 τ
def T_run (σ : TS) (n : Nat) : TS := itr (T_run1 (σ.1 22 0)) n 0 σ
/-- J i τ: the plan's first i firings of this round are done; each next one can be done -/
def RunJ (J : Nat → TS → Prop) (P : Nat) : Prop := (∀ i τ, J i τ → τ.1 22 0 = P) ∧ (∀ i τ, i < P → J i τ → FireC τ (τ.1 23 i) ∧ J (i + 1) (T_fire τ (τ.1 23 i))) ∧ ∀ τ, J P τ → J 0 τ
set_option maxRecDepth 100000 in
set_option maxHeartbeats 4000000 in
theorem lp_X3_run1 {p : Program} {l : Launch} {ev : Env} {R : Room} {s : State} {m : MethodId} {args : Array Value} {below : List Frame} {meth : Method} {c : Code} {cells slots : Nat} {Q : State → Prop} {D : va_G} {cy : Nat → ClassId} {ad : Nat → Nat} {A : Nat → Prop} (hx : p.tables.exec = Jvm.exec) (hb : c.code = cX3_run) (hml : c.maxLocals = 4) (hU : ∀ w ∈ UW, w.before args s = true) (hown : s.vm.findClass RX3 = some m.cls) (hR : 6 ≤ R.frames ∧ 32 * 6 ≤ R.locals) (hcs : cells ≤ R.cells ∧ slots ≤ R.slots) {J : Nat → TS → Prop} {P n : Nat} (hP : P ≤ 200) (hn : n ≤ 20) (hJ : RunJ J P) {j : Nat} :
    ∀ (k i : Nat) (τ : TS) (H : Heap) (locs : List Loc) (ls : Array Slot), (i + k = P ∧ J i τ) → XT D cy ad s A H locs τ → lv_has ls 4 [(0, .ref (ad 0)), (1, .int (nI n)), (2, .int (nI j)), (3, .int (nI i))] → (∀ (H : Heap) (locs : List Loc) (ls : Array Slot), XT D cy ad s A H locs (itr T_run_s k i τ) → lv_has ls 4 [(0, .ref (ad 0)), (1, .int (nI n)), (2, .int (nI j))] → W p l ev R s m args below meth c H locs cells slots Q (F0 m 71 ls [])) → W p l ev R s m args below meth c H locs cells slots Q (F0 m 47 ls []) := by
  intro k
  induction k with
  | zero =>
    intro i τ H locs ls hc h hl K
    have h22 := hJ.1 _ _ hc.2
    refine lv_iload_n hx hb dX3_run_47 rfl (lv_at hl 3 rfl) ?_
    refine lv_aload_n hx hb dX3_run_48 rfl (lv_at hl 0 rfl) ?_
    refine t_gM hx hb hU hown h 6 (by decide) ufX3_81 (v := .int (nI (τ.1 22 0))) rfl dX3_run_49 ?_
    refine n_icmp_ge (tgt := 71) hx hb (by omega) (by omega) dX3_run_52 (by decide) (fun c_52 => ?_) (fun c_52 => absurd c_52 (by omega))
    exact K _ _ _ h (lv_sub hl [0, 1, 2] rfl)
  | succ k ih =>
    intro i τ H locs ls hc h hl K
    have h22 := hJ.1 _ _ hc.2
    refine lv_iload_n hx hb dX3_run_47 rfl (lv_at hl 3 rfl) ?_
    refine lv_aload_n hx hb dX3_run_48 rfl (lv_at hl 0 rfl) ?_
    refine t_gM hx hb hU hown h 6 (by decide) ufX3_81 (v := .int (nI (τ.1 22 0))) rfl dX3_run_49 ?_
    refine n_icmp_ge (tgt := 71) hx hb (by omega) (by omega) dX3_run_52 (by decide) (fun c_52 => absurd c_52 (by omega)) (fun c_52 => ?_)
    refine lv_aload_n hx hb dX3_run_55 rfl (lv_at hl 0 rfl) ?_
    refine lv_aload_n hx hb dX3_run_56 rfl (lv_at hl 0 rfl) ?_
    refine t_gM hx hb hU hown h 2 (by decide) ufX3_23 (v := .ref (ad 3)) rfl dX3_run_57 ?_
    refine lv_iload_n hx hb dX3_run_60 rfl (lv_at hl 3 rfl) ?_
    refine t_iF hx hb h (by omega) dX3_run_61 ?_
    refine y_callv hx hb hml hU hown hR hcs h (c_X3_fire l D cy ad τ _ (n := τ.1 23 i) (hJ.2.1 i τ (by omega) hc.2).1) umX3_145 ui_X3_fire us_X3_fire unX3 uc_X3_fire hd_X3_fire (by decide) (by decide) (t_recvM h) hl.1 rfl (Nat.le_of_ble_eq_true rfl) dX3_run_62 (fun u H locs hw h => ?_)
    have hu := hw
    have h : XT D cy ad s A H locs (T_fire τ (τ.1 23 i)) := by rw [← hu]; exact h
    clear hu
    refine lv_iinc (v := nI (i + 1)) (lv' := [(3, .int (nI (i + 1))), (0, .ref (ad 0)), (1, .int (nI n)), (2, .int (nI j))]) hx hb dX3_run_65 hl (k := 3) rfl (by rw [← nI_add]; rfl) (by decide) rfl (fun ls hl => ?_)
    refine lv_goto (tgt := 47) hx hb dX3_run_68 (by decide) ?_
    exact ih (i + 1) (T_fire τ (τ.1 23 i)) _ _ _ ⟨by omega, (hJ.2.1 i τ (by omega) hc.2).2⟩ h (lv_sub hl [1, 2, 3, 0] rfl) K
theorem RunJ.round {J : Nat → TS → Prop} {P : Nat} (h : RunJ J P) : ∀ (k i : Nat) (τ : TS), i + k = P → J i τ → J P (itr T_run_s k i τ) := by
  intro k
  induction k with
  | zero => intro i τ hk hj; rw [show i = P by omega] at hj; exact hj
  | succ k ih => intro i τ hk hj; exact ih (i + 1) _ (by omega) (h.2.1 i τ (by omega) hj).2
set_option maxRecDepth 100000 in
set_option maxHeartbeats 4000000 in
theorem lp_X3_run2 {p : Program} {l : Launch} {ev : Env} {R : Room} {s : State} {m : MethodId} {args : Array Value} {below : List Frame} {meth : Method} {c : Code} {cells slots : Nat} {Q : State → Prop} {D : va_G} {cy : Nat → ClassId} {ad : Nat → Nat} {A : Nat → Prop} (hx : p.tables.exec = Jvm.exec) (hb : c.code = cX3_run) (hml : c.maxLocals = 4) (hU : ∀ w ∈ UW, w.before args s = true) (hown : s.vm.findClass RX3 = some m.cls) (hR : 6 ≤ R.frames ∧ 32 * 6 ≤ R.locals) (hcs : cells ≤ R.cells ∧ slots ≤ R.slots) {J : Nat → TS → Prop} {P n : Nat} (hP : P ≤ 200) (hn : n ≤ 20) (hJ : RunJ J P) :
    ∀ (k i : Nat) (τ : TS) (H : Heap) (locs : List Loc) (ls : Array Slot), (i + k = n ∧ J 0 τ) → XT D cy ad s A H locs τ → lv_has ls 4 [(0, .ref (ad 0)), (1, .int (nI n)), (2, .int (nI i))] → (∀ (H : Heap) (locs : List Loc) (ls : Array Slot), XT D cy ad s A H locs (itr (T_run1 P) k i τ) → lv_has ls 4 [(0, .ref (ad 0)), (1, .int (nI n))] → W p l ev R s m args below meth c H locs cells slots Q (F0 m 77 ls [])) → W p l ev R s m args below meth c H locs cells slots Q (F0 m 40 ls []) := by
  intro k
  induction k with
  | zero =>
    intro i τ H locs ls hc h hl K
    refine lv_iload_n hx hb dX3_run_40 rfl (lv_at hl 2 rfl) ?_
    refine lv_iload_n hx hb dX3_run_41 rfl (lv_at hl 1 rfl) ?_
    refine n_icmp_ge (tgt := 77) hx hb (by omega) (by omega) dX3_run_42 (by decide) (fun c_42 => ?_) (fun c_42 => absurd c_42 (by omega))
    exact K _ _ _ h (lv_sub hl [0, 1] rfl)
  | succ k ih =>
    intro i τ H locs ls hc h hl K
    refine lv_iload_n hx hb dX3_run_40 rfl (lv_at hl 2 rfl) ?_
    refine lv_iload_n hx hb dX3_run_41 rfl (lv_at hl 1 rfl) ?_
    refine n_icmp_ge (tgt := 77) hx hb (by omega) (by omega) dX3_run_42 (by decide) (fun c_42 => absurd c_42 (by omega)) (fun c_42 => ?_)
    refine lv_iconst (v := nI 0) hx hb dX3_run_45 (by decide +kernel) ?_
    refine lv_istore_n (lv' := [(3, .int (nI 0)), (0, .ref (ad 0)), (1, .int (nI n)), (2, .int (nI i))]) hx hb dX3_run_46 rfl hl (by decide) rfl (fun ls hl => ?_)
    refine lp_X3_run1 hx hb hml hU hown hR hcs hP hn hJ (P) 0 τ _ _ _ ⟨Nat.zero_add _, hc.2⟩ h (lv_sub hl [1, 2, 3, 0] rfl) (fun H locs ls h hl => ?_)
    refine lv_iinc (v := nI (i + 1)) (lv' := [(2, .int (nI (i + 1))), (0, .ref (ad 0)), (1, .int (nI n))]) hx hb dX3_run_71 hl (k := 2) rfl (by rw [← nI_add]; rfl) (by decide) rfl (fun ls hl => ?_)
    refine lv_goto (tgt := 40) hx hb dX3_run_74 (by decide) ?_
    exact ih (i + 1) (T_run1 P i τ) _ _ _ ⟨by omega, hJ.2.2 _ (hJ.round P 0 τ (Nat.zero_add _) hc.2)⟩ h (lv_sub hl [1, 2, 0] rfl) K
def RunQ (σ : TS) (x : Int32) (r : Int32) (u : TS) : Prop := 0 < σ.1 22 0 ∧ wi x 1 20 = true ∧ r = nI (tn x * σ.1 22 0) ∧ u = T_run σ (tn x)
def RunX (σ : TS) (x : Int32) (e : String × TS) : Prop := (σ.1 22 0 = 0 ∧ e = (xISE, σ)) ∨ (0 < σ.1 22 0 ∧ wi x 1 20 = false ∧ e = (xIAE, σ))
theorem RunJ.rounds {J : Nat → TS → Prop} {P : Nat} (h : RunJ J P) : ∀ (k i : Nat) (τ : TS), J 0 τ → J 0 (itr (T_run1 P) k i τ) := by
  intro k
  induction k with
  | zero => intro i τ hj; exact hj
  | succ k ih => intro i τ hj; exact ih (i + 1) _ (h.2.2 _ (h.round P 0 τ (Nat.zero_add _) hj))
set_option maxRecDepth 100000 in
set_option maxHeartbeats 4000000 in
theorem c_X3_run (l : Launch) (D : va_G) (cy : Nat → ClassId) (ad : Nat → Nat) (σ : TS) (sz : Nat) {x : Int32} (hst : l.stackTraces = false) (hP : σ.1 22 0 ≤ 200) {J : Nat → TS → Prop} (hJ0 : 0 < σ.1 22 0 → RunJ J (σ.1 22 0) ∧ J 0 σ) : MTx l D cy ad yX3_run cX3_run 4 .int (rmx 6 1 6) [.ref (ad 0), .int x] σ sz (RunQ σ x) (RunX σ x) := by
  refine vx_ofW (cc := cX3_run) (maxL := 4) (ret := (some .int)) (by decide) rfl ?_
  intro p ev s m args below meth c s₁ B hml ht hv
  obtain ⟨rfl, hw, hT⟩ := hv
  have hx := B.exec
  have hb := B.bytes
  have hr := B.returns
  have hlk := B.notSynchronized
  have hU : ∀ w ∈ UW, w.before _ s = true := fun w hw => atoms_spec (ws := Cond.code yX3_run cX3_run 4 (some .int) :: UW) B.pre w (List.mem_cons_of_mem _ hw)
  have hown : s.vm.findClass RX3 = some m.cls := findClass_of_methodNamed B.named
  have hR : 6 ≤ (headSpec (Cond.code yX3_run cX3_run 4 (some .int) :: UW) (rmx 6 1 6)).room.frames ∧ 32 * 6 ≤ (headSpec (Cond.code yX3_run cX3_run 4 (some .int) :: UW) (rmx 6 1 6)).room.locals := ⟨Nat.le_refl _, Nat.le_refl _⟩
  have hcs : 0 ≤ (headSpec (Cond.code yX3_run cX3_run 4 (some .int) :: UW) (rmx 6 1 6)).room.cells ∧ 0 ≤ (headSpec (Cond.code yX3_run cX3_run 4 (some .int) :: UW) (rmx 6 1 6)).room.slots := ⟨Nat.zero_le _, Nat.zero_le _⟩
  have h := WX.start hw
  clear hw
  generalize va_A (wv _ _ _) _ = A at h hT ⊢
  have hl := lv_entry ([.ref (ad 0), .int x]) (n := 4) (Nat.le_of_ble_eq_true rfl)
  rw [lg_entry_eq]
  generalize (lg_sl ([.ref (ad 0), .int x]) ++ List.replicate (4 - (lg_sl ([.ref (ad 0), .int x])).length) Slot.unset).toArray = ls at hl ⊢
  have hl : lv_has ls 4 [(0, .ref (ad 0)), (1, .int x)] := hl
  refine lv_aload_n hx hb dX3_run_0 rfl (lv_at hl 0 rfl) ?_
  refine t_gM hx hb hU hown h 6 (by decide) ufX3_81 (v := .int (nI (σ.1 22 0))) rfl dX3_run_1 ?_
  refine n_if_ne (tgt := 17) hx hb (by omega) dX3_run_4 (by decide) (fun c_4 => ?_) (fun c_4 => ?_)
  · refine lv_iload_n hx hb dX3_run_17 rfl (lv_at hl 1 rfl) ?_
    refine lv_iconst (v := nI 1) hx hb dX3_run_18 (by decide +kernel) ?_
    refine lv_icmp_lt (tgt := 28) hx hb dX3_run_19 (by decide) (fun c_19 => ?_) (fun c_19 => ?_)
    · obtain ⟨sa, hsa⟩ := hT.2.2.2 (142, "a plan is run 1 to 20 times") (by simp [TXT])
      exact vx_throwS (own := RX3) (cls := xIAE) (names := nm2) (ik := 140) (is := 142) (ic := 144) (A := A) hx hb hst hown ft_all.2.2.2.2.1 ft_all.2.2.2.2.2 (hU _ ulX3_140) (hU _ unIllegalArgumentException) hsa (vx_hat (fun w hw => hU w (at_IAE w hw)) nb_IAE hT.words) og_IAE hT.1 hT.2.1 h.2.2.2.2 (hl.1.trans hml.symm) dX3_run_28 dX3_run_31 dX3_run_32 dX3_run_34 dX3_run_37 (fun x hx => (ht x hx).elim) (Nat.lt_of_lt_of_le (by decide) hR.1) (Nat.le_trans (by decide) hR.2) (by show 0 + 1 ≤ 1; decide) (by show 0 + 6 ≤ 6; decide) hlk (fun t ha hz hq => ⟨(xIAE, σ), Or.inr ⟨c_4, by first | exact wi_lo c_19 | exact wi_hi (Int32.not_le.mp c_25), rfl⟩, ⟨rfl, (h.thrown ha hz hq).1⟩, (h.thrown ha hz hq).2⟩) h.2.2.2.2.2.2 (by show 0 + 1 ≤ 1; decide) (by show 0 + 6 ≤ 6; decide)
    · refine lv_iload_n hx hb dX3_run_22 rfl (lv_at hl 1 rfl) ?_
      refine lv_bipush (v := nI 20) hx hb dX3_run_23 (by decide +kernel) ?_
      refine lv_icmp_le (tgt := 38) hx hb dX3_run_25 (by decide) (fun c_25 => ?_) (fun c_25 => ?_)
      · have c25 : wi x 1 20 = true := wi_ok c_19 (Int32.not_lt.mpr c_25)
        obtain ⟨n, hn1, hn, rfl⟩ := wi_of (by decide) (by decide) c25
        have hJ := (hJ0 c_4).1
        refine lv_iconst (v := nI 0) hx hb dX3_run_38 (by decide +kernel) ?_
        refine lv_istore_n (lv' := [(2, .int (nI 0)), (0, .ref (ad 0)), (1, .int (nI n))]) hx hb dX3_run_39 rfl hl (by decide) rfl (fun ls hl => ?_)
        refine lp_X3_run2 hx hb hml hU hown hR hcs hP hn hJ (n) 0 σ _ _ _ ⟨Nat.zero_add _, (hJ0 c_4).2⟩ h (lv_sub hl [1, 2, 0] rfl) (fun H locs ls h hl => ?_)
        have e22 : (T_run σ n).1 22 0 = σ.1 22 0 := hJ.1 _ _ (hJ.rounds n 0 σ (hJ0 c_4).2)
        refine lv_iload_n hx hb dX3_run_77 rfl (lv_at hl 1 rfl) ?_
        refine lv_aload_n hx hb dX3_run_78 rfl (lv_at hl 0 rfl) ?_
        refine t_gM hx hb hU hown h 6 (by decide) ufX3_81 (v := .int (nI ((T_run σ n).1 22 0))) rfl dX3_run_79 ?_
        refine n_imul hx hb dX3_run_82 ?_
        refine W.widen (k := 1) (n := 6) (by decide) (by decide) ?_
        exact vx_ret (W.iret (v := nI (n * ((T_run σ n).1 22 0))) hx hb hr (fun t ht hW => ⟨⟨_, _, rfl, ⟨c_4, c25, by simp only [tn]; rw [nI_clamp (by omega), e22], by simp only [tn]; rw [nI_clamp (by omega)]; rfl⟩, h.at ht hW⟩, h.2.2.2.2.F ht⟩) h.2.2.2.2.2.2 dX3_run_83)
      · obtain ⟨sa, hsa⟩ := hT.2.2.2 (142, "a plan is run 1 to 20 times") (by simp [TXT])
        exact vx_throwS (own := RX3) (cls := xIAE) (names := nm2) (ik := 140) (is := 142) (ic := 144) (A := A) hx hb hst hown ft_all.2.2.2.2.1 ft_all.2.2.2.2.2 (hU _ ulX3_140) (hU _ unIllegalArgumentException) hsa (vx_hat (fun w hw => hU w (at_IAE w hw)) nb_IAE hT.words) og_IAE hT.1 hT.2.1 h.2.2.2.2 (hl.1.trans hml.symm) dX3_run_28 dX3_run_31 dX3_run_32 dX3_run_34 dX3_run_37 (fun x hx => (ht x hx).elim) (Nat.lt_of_lt_of_le (by decide) hR.1) (Nat.le_trans (by decide) hR.2) (by show 0 + 1 ≤ 1; decide) (by show 0 + 6 ≤ 6; decide) hlk (fun t ha hz hq => ⟨(xIAE, σ), Or.inr ⟨c_4, by first | exact wi_lo c_19 | exact wi_hi (Int32.not_le.mp c_25), rfl⟩, ⟨rfl, (h.thrown ha hz hq).1⟩, (h.thrown ha hz hq).2⟩) h.2.2.2.2.2.2 (by show 0 + 1 ≤ 1; decide) (by show 0 + 6 ≤ 6; decide)
  · obtain ⟨sa, hsa⟩ := hT.2.2.2 (138, "there is no plan") (by simp [TXT])
    exact vx_throwS (own := RX3) (cls := xISE) (names := nm2) (ik := 91) (is := 138) (ic := 95) (A := A) hx hb hst hown ft_all.1 ft_all.2.2.2.2.2 (hU _ ulX3_91) (hU _ unIllegalStateException) hsa (vx_hat (fun w hw => hU w (at_ISE w hw)) nb_ISE hT.words) og_ISE hT.1 hT.2.1 h.2.2.2.2 (hl.1.trans hml.symm) dX3_run_7 dX3_run_10 dX3_run_11 dX3_run_13 dX3_run_16 (fun x hx => (ht x hx).elim) (Nat.lt_of_lt_of_le (by decide) hR.1) (Nat.le_trans (by decide) hR.2) (by show 0 + 1 ≤ 1; decide) (by show 0 + 6 ≤ 6; decide) hlk (fun t ha hz hq => ⟨(xISE, σ), Or.inl ⟨c_4, rfl⟩, ⟨rfl, (h.thrown ha hz hq).1⟩, (h.thrown ha hz hq).2⟩) h.2.2.2.2.2.2 (by show 0 + 1 ≤ 1; decide) (by show 0 + 6 ≤ 6; decide)
