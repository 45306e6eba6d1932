/-! ===== TokenFlow: a firing ===== -/
def T_fire_h (n : Nat) : Nat → TS → TS := fun q τ => if τ.1 11 q = n then T_hand τ q else τ
def T_fire_r (n : Nat) : Nat → TS → TS := fun q τ => if τ.1 10 q = n then T_recv τ q (τ.2.1 3 n) else τ
def T_fire (σ : TS) (n : Nat) : TS := itr (T_fire_r n) (σ.1 21 0) 0 (T_work (itr (T_fire_h n) (σ.1 21 0) 0 (T_forget σ)) n)
theorem T_hand_s_N (q i : Nat) (τ : TS) (f j : Nat) : (T_hand_s q i τ).1 f j = if f = 19 ∧ j = q then τ.1 19 q - 1 else if f = 18 ∧ j = q then T_place τ q 1 else if f = 30 ∧ j = 0 then τ.1 30 0 + 1 else τ.1 f j := by
  show up2 (up2 (T_add τ _).1 18 q (T_place (T_add τ _) q 1)) 19 q ((T_add τ _).1 19 q - 1) f j = _
  rw [T_place_add]
  unfold up2
  rw [T_add_N, T_add_N]
  by_cases e1 : f = 19 ∧ j = q
  · rw [if_pos e1, if_pos e1, if_neg (by omega)]
  · rw [if_neg e1, if_neg e1]
theorem T_hand_i_N (q : Nat) : ∀ (k i : Nat) (τ : TS) (f j : Nat), ¬ (f = 30 ∧ j = 0) → ¬ ((f = 18 ∨ f = 19) ∧ j = q) → (itr (T_hand_s q) k i τ).1 f j = τ.1 f j := by
  intro k
  induction k with
  | zero => intro i τ f j _ _; rfl
  | succ k ih =>
    intro i τ f j h1 h2
    show (itr (T_hand_s q) k (i + 1) (T_hand_s q i τ)).1 f j = _
    rw [ih (i + 1) _ f j h1 h2, T_hand_s_N, if_neg (by omega), if_neg (by omega), if_neg h1]
theorem T_hand_i_19 (q : Nat) : ∀ (k i : Nat) (τ : TS), (itr (T_hand_s q) k i τ).1 19 q = τ.1 19 q - k ∧ (itr (T_hand_s q) k i τ).1 30 0 = τ.1 30 0 + k := by
  intro k
  induction k with
  | zero => intro i τ; exact ⟨rfl, rfl⟩
  | succ k ih =>
    intro i τ
    show (itr (T_hand_s q) k (i + 1) (T_hand_s q i τ)).1 19 q = _ ∧ (itr (T_hand_s q) k (i + 1) (T_hand_s q i τ)).1 30 0 = _
    rw [(ih (i + 1) _).1, (ih (i + 1) _).2, T_hand_s_N, if_pos (by omega), T_hand_s_N, if_neg (by omega), if_neg (by omega), if_pos (by omega)]
    omega
theorem T_hand_i_18 (q : Nat) : ∀ (k i : Nat) (τ : TS), τ.1 18 q < τ.1 17 q → (itr (T_hand_s q) k i τ).1 18 q < τ.1 17 q := by
  intro k
  induction k with
  | zero => intro i τ h; exact h
  | succ k ih =>
    intro i τ h
    have h2 := ih (i + 1) (T_hand_s q i τ) (by rw [T_hand_s_N, if_neg (by omega), if_pos (by omega), T_hand_s_N, if_neg (by omega), if_neg (by omega), if_neg (by omega)]; exact T_place_lt h (by omega))
    rw [T_hand_s_N q i τ 17, if_neg (by omega), if_neg (by omega), if_neg (by omega)] at h2
    exact h2
theorem T_recv_i_N (q : Nat) (v : Int32) : ∀ (k i : Nat) (τ : TS) (f j : Nat), (itr (T_recv_s q v) k i τ).1 f j = if f = 19 ∧ j = q then τ.1 19 q + k else τ.1 f j := by
  intro k
  induction k with
  | zero =>
    intro i τ f j
    show τ.1 f j = _
    split
    · rename_i h; rw [h.1, h.2]; rfl
    · rfl
  | succ k ih =>
    intro i τ f j
    show (itr (T_recv_s q v) k (i + 1) (T_recv_s q v i τ)).1 f j = _
    rw [ih]
    show (if f = 19 ∧ j = q then up2 τ.1 19 q (τ.1 19 q + 1) 19 q + k else up2 τ.1 19 q (τ.1 19 q + 1) f j) = _
    rw [up2_eq]
    by_cases e : f = 19 ∧ j = q
    · rw [if_pos e, if_pos e]; omega
    · rw [if_neg e, if_neg e]; unfold up2; rw [if_neg e]
theorem T_work_N (τ : TS) (n : Nat) : (T_work τ n).1 = τ.1 := by
  unfold T_work
  repeat' split
  all_goals rfl
/-- what a firing of n asks of edge q -/
def HandOK (τ : TS) (n q : Nat) : Prop := τ.1 11 q = n → τ.1 13 q ≤ 9 ∧ τ.1 13 q ≤ τ.1 19 q ∧ τ.1 19 q ≤ τ.1 17 q ∧ τ.1 18 q < τ.1 17 q ∧ τ.1 17 q < 2 ^ 20
def RecvOK (τ : TS) (n q : Nat) : Prop := τ.1 10 q = n → τ.1 12 q ≤ 9 ∧ τ.1 19 q + τ.1 12 q ≤ τ.1 17 q ∧ τ.1 18 q < τ.1 17 q ∧ τ.1 17 q < 2 ^ 20
def FireC (τ : TS) (n : Nat) : Prop := n < 8 ∧ τ.1 21 0 ≤ 12 ∧ (∀ q, q < τ.1 21 0 → τ.1 10 q < 2 ^ 20 ∧ τ.1 11 q < 2 ^ 20 ∧ HandOK τ n q) ∧ ∀ q, q < τ.1 21 0 → τ.1 10 q = n → τ.1 12 q ≤ 9 ∧ (if τ.1 11 q = n then τ.1 19 q - τ.1 13 q else τ.1 19 q) + τ.1 12 q ≤ τ.1 17 q ∧ τ.1 18 q < τ.1 17 q ∧ τ.1 17 q < 2 ^ 20
theorem T_fire_h_N (n i : Nat) (τ : TS) (f j : Nat) (h1 : ¬ (f = 30 ∧ j = 0)) (h2 : ¬ ((f = 18 ∨ f = 19) ∧ j = i)) : (T_fire_h n i τ).1 f j = τ.1 f j := by
  unfold T_fire_h
  split
  · exact T_hand_i_N i _ _ _ f j h1 h2
  · rfl
theorem T_fire_r_N (n i : Nat) (τ : TS) (f j : Nat) (h2 : ¬ (f = 19 ∧ j = i)) : (T_fire_r n i τ).1 f j = τ.1 f j := by
  unfold T_fire_r
  split
  · unfold T_recv; rw [T_recv_i_N, if_neg h2]
  · rfl
def FireH (n i : Nat) (τ : TS) : Prop := τ.1 30 0 ≤ 9 * i ∧ ∀ q, i ≤ q → q < τ.1 21 0 → τ.1 10 q < 2 ^ 20 ∧ τ.1 11 q < 2 ^ 20 ∧ HandOK τ n q
theorem FireH_s {n i : Nat} {τ : TS} (hi : i < τ.1 21 0) (h : FireH n i τ) : FireH n (i + 1) (T_fire_h n i τ) := by
  obtain ⟨h1, h2⟩ := h
  refine ⟨?_, ?_⟩
  · unfold T_fire_h
    split
    · rename_i e
      have := (h2 i (Nat.le_refl _) hi).2.2 e
      unfold T_hand
      rw [(T_hand_i_19 i _ _ _).2]
      omega
    · omega
  · rw [T_fire_h_N n i τ 21 0 (by omega) (by omega)]
    intro q hq1 hq2
    unfold HandOK
    rw [T_fire_h_N n i τ 10 q (by omega) (by omega), T_fire_h_N n i τ 11 q (by omega) (by omega), T_fire_h_N n i τ 13 q (by omega) (by omega), T_fire_h_N n i τ 19 q (by omega) (by omega), T_fire_h_N n i τ 17 q (by omega) (by omega), T_fire_h_N n i τ 18 q (by omega) (by omega)]
    exact h2 q (by omega) hq2
def FireR (n i : Nat) (τ : TS) : Prop := ∀ q, i ≤ q → q < τ.1 21 0 → τ.1 10 q < 2 ^ 20 ∧ RecvOK τ n q
theorem FireR_s {n i : Nat} {τ : TS} (h : FireR n i τ) : FireR n (i + 1) (T_fire_r n i τ) := by
  unfold FireR
  rw [T_fire_r_N n i τ 21 0 (by omega)]
  intro q h1 h2
  unfold RecvOK
  rw [T_fire_r_N n i τ 10 q (by omega), T_fire_r_N n i τ 12 q (by omega), T_fire_r_N n i τ 19 q (by omega), T_fire_r_N n i τ 17 q (by omega), T_fire_r_N n i τ 18 q (by omega)]
  exact h q (by omega) h2
theorem T_fire_h_iN (n : Nat) : ∀ (k i : Nat) (τ : TS) (f j : Nat), ¬ (f = 30 ∧ j = 0) → f ≠ 18 → f ≠ 19 → (itr (T_fire_h n) k i τ).1 f j = τ.1 f j := by
  intro k
  induction k with
  | zero => intro i τ f j _ _ _; rfl
  | succ k ih => intro i τ f j h1 h2 h3; exact (ih (i + 1) _ f j h1 h2 h3).trans (T_fire_h_N n i τ f j h1 (by omega))
theorem T_fire_h_i18 (n : Nat) : ∀ (k i : Nat) (τ : TS) (q : Nat), (τ.1 11 q = n → τ.1 18 q < τ.1 17 q) → ((itr (T_fire_h n) k i τ).1 19 q = if τ.1 11 q = n ∧ i ≤ q ∧ q < i + k then τ.1 19 q - τ.1 13 q else τ.1 19 q) ∧ (τ.1 18 q < τ.1 17 q → (itr (T_fire_h n) k i τ).1 18 q < τ.1 17 q) := by
  intro k
  induction k with
  | zero => intro i τ q _; exact ⟨by rw [if_neg (by omega)]; rfl, fun h => h⟩
  | succ k ih =>
    intro i τ q hq
    have e : ∀ f, f ≠ 18 → f ≠ 19 → f ≠ 30 → (T_fire_h n i τ).1 f q = τ.1 f q := fun f h1 h2 h3 => T_fire_h_N n i τ f q (by omega) (by omega)
    have h18 : τ.1 18 q < τ.1 17 q → (T_fire_h n i τ).1 18 q < τ.1 17 q := fun h => by
      by_cases e1 : q = i
      · subst e1
        unfold T_fire_h
        split
        · exact T_hand_i_18 q _ _ _ h
        · exact h
      · rw [T_fire_h_N n i τ 18 q (by omega) (by omega)]; exact h
    have h2 := ih (i + 1) (T_fire_h n i τ) q (by rw [e 11 (by decide) (by decide) (by decide), e 17 (by decide) (by decide) (by decide)]; exact fun h => h18 (hq h))
    rw [e 11 (by decide) (by decide) (by decide), e 17 (by decide) (by decide) (by decide), e 13 (by decide) (by decide) (by decide)] at h2
    refine ⟨?_, fun h => h2.2 (h18 h)⟩
    show (itr (T_fire_h n) k (i + 1) (T_fire_h n i τ)).1 19 q = _
    rw [h2.1]
    by_cases e1 : q = i
    · subst e1
      rw [if_neg (by omega)]
      unfold T_fire_h
      by_cases e2 : τ.1 11 q = n
      · rw [if_pos e2, if_pos (by omega)]; exact (T_hand_i_19 q _ _ _).1
      · rw [if_neg e2, if_neg (by omega)]
    · rw [T_fire_h_N n i τ 19 q (by omega) (by omega)]
      by_cases e2 : τ.1 11 q = n ∧ i + 1 ≤ q ∧ q < i + 1 + k
      · rw [if_pos e2, if_pos (by omega)]
      · rw [if_neg e2, if_neg (by omega)]
theorem T_forget_N (σ : TS) (f j : Nat) : (T_forget σ).1 f j = if f = 30 ∧ j = 0 then 0 else σ.1 f j := rfl
theorem FireC.H {σ : TS} {n : Nat} (h : FireC σ n) : FireH n 0 (T_forget σ) := by
  refine ⟨Nat.le_refl _, fun q _ hq => ?_⟩
  rw [T_forget_N, if_neg (by omega)] at hq
  unfold HandOK
  rw [T_forget_N, if_neg (by omega), T_forget_N, if_neg (by omega), T_forget_N, if_neg (by omega), T_forget_N, if_neg (by omega), T_forget_N, if_neg (by omega), T_forget_N, if_neg (by omega)]
  exact h.2.2.1 q hq
theorem FireC.R {σ : TS} {n : Nat} (h : FireC σ n) : FireR n 0 (T_work (itr (T_fire_h n) (σ.1 21 0) 0 (T_forget σ)) n) := by
  unfold FireR RecvOK
  rw [T_work_N]
  have e : ∀ f j, f ≠ 30 → f ≠ 18 → f ≠ 19 → (itr (T_fire_h n) (σ.1 21 0) 0 (T_forget σ)).1 f j = σ.1 f j := fun f j h1 h2 h3 => by
    rw [T_fire_h_iN n _ _ _ f j (by omega) h2 h3, T_forget_N, if_neg (by omega)]
  rw [e 21 0 (by decide) (by decide) (by decide)]
  intro q _ hq
  rw [e 10 q (by decide) (by decide) (by decide), e 12 q (by decide) (by decide) (by decide), e 17 q (by decide) (by decide) (by decide)]
  refine ⟨(h.2.2.1 q hq).1, fun hf => ?_⟩
  obtain ⟨a1, a2, a3, a4⟩ := h.2.2.2 q hq hf
  have b := T_fire_h_i18 n (σ.1 21 0) 0 (T_forget σ) q (fun _ => by rw [T_forget_N, if_neg (by omega), T_forget_N, if_neg (by omega)]; exact a3)
  have ef : ∀ f, f ≠ 30 → (T_forget σ).1 f q = σ.1 f q := fun f h1 => by rw [T_forget_N, if_neg (by omega)]
  rw [ef 11 (by decide), ef 13 (by decide), ef 17 (by decide), ef 18 (by decide), ef 19 (by decide)] at b
  refine ⟨a1, ?_, b.2 a3, a4⟩
  rw [b.1]
  by_cases e2 : σ.1 11 q = n
  · rw [if_pos (by omega)]; rw [if_pos e2] at a2; exact a2
  · rw [if_neg (by omega)]; rw [if_neg e2] at a2; exact a2
set_option maxRecDepth 100000 in
set_option maxHeartbeats 4000000 in
theorem lp_X3_fire1 {p : Program} {l : Launch} {ev : Env} {R : Room} {s : State} {m : MethodId} {args : Array Value} {below : List Frame} {meth : Method} {c : Code} {cells slots : Nat} {Q : State → Prop} {D : va_G} {cy : Nat → ClassId} {ad : Nat → Nat} {A : Nat → Prop} (hx : p.tables.exec = Jvm.exec) (hb : c.code = cX3_fire) (hml : c.maxLocals = 4) (hU : ∀ w ∈ UW, w.before args s = true) (hown : s.vm.findClass RX3 = some m.cls) (hR : 3 ≤ R.frames ∧ 32 * 3 ≤ R.locals) (hcs : cells ≤ R.cells ∧ slots ≤ R.slots) {n : Nat} (hn : n < 8) :
    ∀ (k i : Nat) (τ : TS) (H : Heap) (locs : List Loc) (ls : Array Slot), ((i + k = τ.1 21 0 ∧ τ.1 21 0 ≤ 12) ∧ FireH n i τ) → XT D cy ad s A H locs τ → lv_has ls 4 [(0, .ref (ad 0)), (1, .int (nI n)), (2, .int (nI i))] → (∀ (H : Heap) (locs : List Loc) (ls : Array Slot), XT D cy ad s A H locs (itr (T_fire_h n) k i τ) → lv_has ls 4 [(0, .ref (ad 0)), (1, .int (nI n))] → W p l ev R s m args below meth c H locs cells slots Q (F0 m 49 ls [])) → W p l ev R s m args below meth c H locs cells slots Q (F0 m 9 ls []) := by
  intro k
  induction k with
  | zero =>
    intro i τ H locs ls hc h hl K
    refine lv_iload_n hx hb dX3_fire_9 rfl (lv_at hl 2 rfl) ?_
    refine lv_aload_n hx hb dX3_fire_10 rfl (lv_at hl 0 rfl) ?_
    refine t_gM hx hb hU hown h 5 (by decide) ufX3_57 (v := .int (nI (τ.1 21 0))) rfl dX3_fire_11 ?_
    refine n_icmp_ge (tgt := 49) hx hb (by omega) (by omega) dX3_fire_14 (by decide) (fun c_14 => ?_) (fun c_14 => absurd c_14 (by omega))
    exact K _ _ _ h (lv_sub hl [0, 1] rfl)
  | succ k ih =>
    intro i τ H locs ls hc h hl K
    have h9 := hc.2.2 i (Nat.le_refl _) (by omega)
    have h30 := hc.2.1
    have hs := FireH_s (by omega) hc.2
    have e21 := T_fire_h_N n i τ 21 0 (by omega) (by omega)
    refine lv_iload_n hx hb dX3_fire_9 rfl (lv_at hl 2 rfl) ?_
    refine lv_aload_n hx hb dX3_fire_10 rfl (lv_at hl 0 rfl) ?_
    refine t_gM hx hb hU hown h 5 (by decide) ufX3_57 (v := .int (nI (τ.1 21 0))) rfl dX3_fire_11 ?_
    refine n_icmp_ge (tgt := 49) hx hb (by omega) (by omega) dX3_fire_14 (by decide) (fun c_14 => absurd c_14 (by omega)) (fun c_14 => ?_)
    refine lv_aload_n hx hb dX3_fire_17 rfl (lv_at hl 0 rfl) ?_
    refine t_gM hx hb hU hown h 1 (by decide) ufX3_18 (v := .ref (ad 2)) rfl dX3_fire_18 ?_
    refine lv_iload_n hx hb dX3_fire_21 rfl (lv_at hl 2 rfl) ?_
    refine t_aE hx hb h (by omega) dX3_fire_22 ?_
    refine t_gE hx hb hU hown h (by omega) 1 (by decide) ufX3_63 (v := .int (nI (τ.1 11 i))) rfl dX3_fire_23 ?_
    refine lv_iload_n hx hb dX3_fire_26 rfl (lv_at hl 1 rfl) ?_
    refine n_icmp_ne (tgt := 43) hx hb (by omega) (by omega) dX3_fire_27 (by decide) (fun c_27 => ?_) (fun c_27 => ?_)
    · refine lv_iinc (v := nI (i + 1)) (lv' := [(2, .int (nI (i + 1))), (0, .ref (ad 0)), (1, .int (nI n))]) hx hb dX3_fire_43 hl (k := 2) rfl (by rw [← nI_add]; rfl) (by decide) rfl (fun ls hl => ?_)
      refine lv_goto (tgt := 9) hx hb dX3_fire_46 (by decide) ?_
      have ex : T_fire_h n i τ = τ := if_neg c_27
      rw [ex] at hs e21
      exact ih (i + 1) τ _ _ _ ⟨⟨by omega, hc.1.2⟩, hs⟩ h (lv_sub hl [1, 2, 0] rfl) (by unfold itr at K; rw [ex] at K; exact K)
    · refine lv_aload_n hx hb dX3_fire_30 rfl (lv_at hl 0 rfl) ?_
      refine t_gM hx hb hU hown h 1 (by decide) ufX3_18 (v := .ref (ad 2)) rfl dX3_fire_31 ?_
      refine lv_iload_n hx hb dX3_fire_34 rfl (lv_at hl 2 rfl) ?_
      refine t_aE hx hb h (by omega) dX3_fire_35 ?_
      refine lv_aload_n hx hb dX3_fire_36 rfl (lv_at hl 0 rfl) ?_
      refine t_gM hx hb hU hown h 3 (by decide) ufX3_30 (v := .ref (ad 4)) rfl dX3_fire_37 ?_
      refine y_callv hx hb hml hU hown hR hcs h (c_X1_handOver l D cy ad τ _ (q := i) (by omega) ⟨Nat.zero_add _, (h9.2.2 c_27).2.1, (h9.2.2 c_27).2.2.1, (h9.2.2 c_27).2.2.2.1, (h9.2.2 c_27).2.2.2.2, by have := (h9.2.2 c_27).1; omega, by have := (h9.2.2 c_27).1; omega⟩) umX3_202 ui_X1_handOver us_X1_handOver unX1 uc_X1_handOver hd_X1_handOver (by decide) (by decide) (t_recvE h (by omega)) hl.1 rfl (Nat.le_of_ble_eq_true rfl) dX3_fire_40 (fun u H locs hw h => ?_)
      have hu := hw
      have h : XT D cy ad s A H locs (T_hand τ i) := by rw [← hu]; exact h
      clear hu
      refine lv_iinc (v := nI (i + 1)) (lv' := [(2, .int (nI (i + 1))), (0, .ref (ad 0)), (1, .int (nI n))]) hx hb dX3_fire_43 hl (k := 2) rfl (by rw [← nI_add]; rfl) (by decide) rfl (fun ls hl => ?_)
      refine lv_goto (tgt := 9) hx hb dX3_fire_46 (by decide) ?_
      have ex : T_fire_h n i τ = T_hand τ i := if_pos c_27
      rw [ex] at hs e21
      exact ih (i + 1) (T_hand τ i) _ _ _ ⟨⟨by rw [e21]; omega, by rw [e21]; exact hc.1.2⟩, hs⟩ h (lv_sub hl [1, 2, 0] rfl) (by unfold itr at K; rw [ex] at K; exact K)
set_option maxRecDepth 100000 in
set_option maxHeartbeats 4000000 in
theorem lp_X3_fire2 {p : Program} {l : Launch} {ev : Env} {R : Room} {s : State} {m : MethodId} {args : Array Value} {below : List Frame} {meth : Method} {c : Code} {cells slots : Nat} {Q : State → Prop} {D : va_G} {cy : Nat → ClassId} {ad : Nat → Nat} {A : Nat → Prop} (hx : p.tables.exec = Jvm.exec) (hb : c.code = cX3_fire) (hml : c.maxLocals = 4) (hU : ∀ w ∈ UW, w.before args s = true) (hown : s.vm.findClass RX3 = some m.cls) (hR : 3 ≤ R.frames ∧ 32 * 3 ≤ R.locals) (hcs : cells ≤ R.cells ∧ slots ≤ R.slots) {n : Nat} (hn : n < 8) :
    ∀ (k i : Nat) (τ : TS) (H : Heap) (locs : List Loc) (ls : Array Slot), ((i + k = τ.1 21 0 ∧ τ.1 21 0 ≤ 12) ∧ FireR n i τ) → XT D cy ad s A H locs τ → lv_has ls 4 [(0, .ref (ad 0)), (1, .int (nI n)), (2, .ref (ad (5 + n))), (3, .int (nI i))] → (∀ (H : Heap) (locs : List Loc) (ls : Array Slot), XT D cy ad s A H locs (itr (T_fire_r n) k i τ) → lv_has ls 4 [(0, .ref (ad 0)), (1, .int (nI n))] → W p l ev R s m args below meth c H locs cells slots Q (F0 m 106 ls [])) → W p l ev R s m args below meth c H locs cells slots Q (F0 m 66 ls []) := by
  intro k
  induction k with
  | zero =>
    intro i τ H locs ls hc h hl K
    refine lv_iload_n hx hb dX3_fire_66 rfl (lv_at hl 3 rfl) ?_
    refine lv_aload_n hx hb dX3_fire_67 rfl (lv_at hl 0 rfl) ?_
    refine t_gM hx hb hU hown h 5 (by decide) ufX3_57 (v := .int (nI (τ.1 21 0))) rfl dX3_fire_68 ?_
    refine n_icmp_ge (tgt := 106) hx hb (by omega) (by omega) dX3_fire_71 (by decide) (fun c_71 => ?_) (fun c_71 => absurd c_71 (by omega))
    exact K _ _ _ h (lv_sub hl [0, 1] rfl)
  | succ k ih =>
    intro i τ H locs ls hc h hl K
    have h9 := hc.2 i (Nat.le_refl _) (by omega)
    have hs := FireR_s hc.2
    have e21 := T_fire_r_N n i τ 21 0 (by omega)
    refine lv_iload_n hx hb dX3_fire_66 rfl (lv_at hl 3 rfl) ?_
    refine lv_aload_n hx hb dX3_fire_67 rfl (lv_at hl 0 rfl) ?_
    refine t_gM hx hb hU hown h 5 (by decide) ufX3_57 (v := .int (nI (τ.1 21 0))) rfl dX3_fire_68 ?_
    refine n_icmp_ge (tgt := 106) hx hb (by omega) (by omega) dX3_fire_71 (by decide) (fun c_71 => absurd c_71 (by omega)) (fun c_71 => ?_)
    refine lv_aload_n hx hb dX3_fire_74 rfl (lv_at hl 0 rfl) ?_
    refine t_gM hx hb hU hown h 1 (by decide) ufX3_18 (v := .ref (ad 2)) rfl dX3_fire_75 ?_
    refine lv_iload_n hx hb dX3_fire_78 rfl (lv_at hl 3 rfl) ?_
    refine t_aE hx hb h (by omega) dX3_fire_79 ?_
    refine t_gE hx hb hU hown h (by omega) 0 (by decide) ufX3_60 (v := .int (nI (τ.1 10 i))) rfl dX3_fire_80 ?_
    refine lv_iload_n hx hb dX3_fire_83 rfl (lv_at hl 1 rfl) ?_
    refine n_icmp_ne (tgt := 100) hx hb (by omega) (by omega) dX3_fire_84 (by decide) (fun c_84 => ?_) (fun c_84 => ?_)
    · refine lv_iinc (v := nI (i + 1)) (lv' := [(3, .int (nI (i + 1))), (0, .ref (ad 0)), (1, .int (nI n)), (2, .ref (ad (5 + n)))]) hx hb dX3_fire_100 hl (k := 3) rfl (by rw [← nI_add]; rfl) (by decide) rfl (fun ls hl => ?_)
      refine lv_goto (tgt := 66) hx hb dX3_fire_103 (by decide) ?_
      have ex : T_fire_r n i τ = τ := if_neg c_84
      rw [ex] at hs e21
      exact ih (i + 1) τ _ _ _ ⟨⟨by omega, hc.1.2⟩, hs⟩ h (lv_sub hl [1, 2, 3, 0] rfl) (by unfold itr at K; rw [ex] at K; exact K)
    · refine lv_aload_n hx hb dX3_fire_87 rfl (lv_at hl 0 rfl) ?_
      refine t_gM hx hb hU hown h 1 (by decide) ufX3_18 (v := .ref (ad 2)) rfl dX3_fire_88 ?_
      refine lv_iload_n hx hb dX3_fire_91 rfl (lv_at hl 3 rfl) ?_
      refine t_aE hx hb h (by omega) dX3_fire_92 ?_
      refine lv_aload_n hx hb dX3_fire_93 rfl (lv_at hl 2 rfl) ?_
      refine t_gA hx hb hU hown h hn 3 (by decide) ufX3_156 (v := .int (τ.2.1 3 n)) rfl dX3_fire_94 ?_
      refine y_callv hx hb hml hU hown hR hcs h (c_X1_receive l D cy ad τ _ (q := i) (by omega) ⟨Nat.zero_add _, (h9.2 c_84).2.1, (h9.2 c_84).2.2.1, (h9.2 c_84).2.2.2, by have := (h9.2 c_84).1; omega⟩) umX3_209 ui_X1_receive us_X1_receive unX1 uc_X1_receive hd_X1_receive (by decide) (by decide) (t_recvE h (by omega)) hl.1 rfl (Nat.le_of_ble_eq_true rfl) dX3_fire_97 (fun u H locs hw h => ?_)
      have hu := hw
      have h : XT D cy ad s A H locs (T_recv τ i (τ.2.1 3 n)) := by rw [← hu]; exact h
      clear hu
      refine lv_iinc (v := nI (i + 1)) (lv' := [(3, .int (nI (i + 1))), (0, .ref (ad 0)), (1, .int (nI n)), (2, .ref (ad (5 + n)))]) hx hb dX3_fire_100 hl (k := 3) rfl (by rw [← nI_add]; rfl) (by decide) rfl (fun ls hl => ?_)
      refine lv_goto (tgt := 66) hx hb dX3_fire_103 (by decide) ?_
      have ex : T_fire_r n i τ = T_recv τ i (τ.2.1 3 n) := if_pos c_84
      rw [ex] at hs e21
      exact ih (i + 1) (T_recv τ i (τ.2.1 3 n)) _ _ _ ⟨⟨by rw [e21]; omega, by rw [e21]; exact hc.1.2⟩, hs⟩ h (lv_sub hl [1, 2, 3, 0] rfl) (by unfold itr at K; rw [ex] at K; exact K)
theorem FireH_i {n : Nat} : ∀ (k i : Nat) (τ : TS), i + k = τ.1 21 0 → FireH n i τ → FireH n (i + k) (itr (T_fire_h n) k i τ) := by
  intro k
  induction k with
  | zero => intro i τ _ h; exact h
  | succ k ih =>
    intro i τ hk h
    have := ih (i + 1) (T_fire_h n i τ) (by rw [T_fire_h_N n i τ 21 0 (by omega) (by omega)]; omega) (FireH_s (by omega) h)
    rw [show i + 1 + k = i + (k + 1) by omega] at this
    exact this
theorem fire30 {σ : TS} {n : Nat} (h : FireC σ n) : (itr (T_fire_h n) (σ.1 21 0) 0 (T_forget σ)).1 30 0 < 2 ^ 20 := by
  have h1 := (FireH_i (n := n) (σ.1 21 0) 0 (T_forget σ) (Nat.zero_add _) h.H).1
  have := h.2.1
  omega
set_option maxRecDepth 100000 in
set_option maxHeartbeats 4000000 in
theorem c_X3_fire (l : Launch) (D : va_G) (cy : Nat → ClassId) (ad : Nat → Nat) (σ : TS) (sz : Nat) {n : Nat} (hF : FireC σ n) : MTv l D cy ad yX3_fire cX3_fire 4 (rmd 3) [.ref (ad 0), .int (nI n)] σ sz (fun u => u = T_fire σ n) := by
  refine Met.ofW (cc := cX3_fire) (maxL := 4) (ret := none) (by decide) rfl ?_
  intro p ev s m args below meth c s₁ B hml hv
  obtain ⟨rfl, hw⟩ := hv
  have hx := B.exec
  have hb := B.bytes
  have hr := B.returns
  have hlk := B.notSynchronized
  have hU : ∀ w ∈ UW, w.before _ s = true := fun w hw => atoms_spec (ws := Cond.code yX3_fire cX3_fire 4 none :: UW) B.pre w (List.mem_cons_of_mem _ hw)
  have hown : s.vm.findClass RX3 = some m.cls := findClass_of_methodNamed B.named
  have hR : 3 ≤ (headSpec (Cond.code yX3_fire cX3_fire 4 none :: UW) (rmd 3)).room.frames ∧ 32 * 3 ≤ (headSpec (Cond.code yX3_fire cX3_fire 4 none :: UW) (rmd 3)).room.locals := ⟨Nat.le_refl _, Nat.le_refl _⟩
  have hcs : 0 ≤ (headSpec (Cond.code yX3_fire cX3_fire 4 none :: UW) (rmd 3)).room.cells ∧ 0 ≤ (headSpec (Cond.code yX3_fire cX3_fire 4 none :: UW) (rmd 3)).room.slots := ⟨Nat.zero_le _, Nat.zero_le _⟩
  have h := WX.start hw
  clear hw
  generalize va_A (wv _ _ _) _ = A at h ⊢
  have hl := lv_entry ([.ref (ad 0), .int (nI n)]) (n := 4) (Nat.le_of_ble_eq_true rfl)
  rw [lg_entry_eq]
  generalize (lg_sl ([.ref (ad 0), .int (nI n)]) ++ List.replicate (4 - (lg_sl ([.ref (ad 0), .int (nI n)])).length) Slot.unset).toArray = ls at hl ⊢
  have hl : lv_has ls 4 [(0, .ref (ad 0)), (1, .int (nI n))] := hl
  have hn := hF.1
  refine lv_aload_n hx hb dX3_fire_0 rfl (lv_at hl 0 rfl) ?_
  refine t_gM hx hb hU hown h 3 (by decide) ufX3_30 (v := .ref (ad 4)) rfl dX3_fire_1 ?_
  refine y_callv hx hb hml hU hown hR hcs h (c_X2_forget l D cy ad σ _ ) umX3_199 ui_X2_forget us_X2_forget unX2 uc_X2_forget hd_X2_forget (by decide) (by decide) (t_recvK h) hl.1 rfl (Nat.le_of_ble_eq_true rfl) dX3_fire_4 (fun u H locs hw h => ?_)
  have hu := hw
  have h : XT D cy ad s A H locs (T_forget σ) := by rw [← hu]; exact h
  clear hu
  refine lv_iconst (v := nI 0) hx hb dX3_fire_7 (by decide +kernel) ?_
  refine lv_istore_n (lv' := [(2, .int (nI 0)), (0, .ref (ad 0)), (1, .int (nI n))]) hx hb dX3_fire_8 rfl hl (by decide) rfl (fun ls hl => ?_)
  refine lp_X3_fire1 hx hb hml hU hown hR hcs hn (σ.1 21 0) 0 (T_forget σ) _ _ _ ⟨⟨Nat.zero_add _, hF.2.1⟩, hF.H⟩ h (lv_sub hl [1, 2, 0] rfl) (fun H locs ls h hl => ?_)
  have h30 : (itr (T_fire_h n) (σ.1 21 0) 0 (T_forget σ)).1 30 0 < 2 ^ 20 := fire30 hF
  refine lv_aload_n hx hb dX3_fire_49 rfl (lv_at hl 0 rfl) ?_
  refine t_gM hx hb hU hown h 0 (by decide) ufX3_11 (v := .ref (ad 1)) rfl dX3_fire_50 ?_
  refine lv_iload_n hx hb dX3_fire_53 rfl (lv_at hl 1 rfl) ?_
  refine t_aA hx hb h hn dX3_fire_54 ?_
  refine lv_astore_n (lv' := [(2, .ref (ad (5 + n))), (0, .ref (ad 0)), (1, .int (nI n))]) hx hb dX3_fire_55 rfl hl (by decide) rfl (fun ls hl => ?_)
  refine lv_aload_n hx hb dX3_fire_56 rfl (lv_at hl 0 rfl) ?_
  refine lv_aload_n hx hb dX3_fire_57 rfl (lv_at hl 1 rfl) ?_
  refine t_gM hx hb hU hown h 3 (by decide) ufX3_30 (v := .ref (ad 4)) rfl dX3_fire_58 ?_
  refine y_callv hx hb hml hU hown hR hcs h (c_X0_work l D cy ad (itr (T_fire_h n) (σ.1 21 0) 0 (T_forget σ)) _ (n := n) hn h30) umX3_206 ui_X0_work us_X0_work unX0 uc_X0_work hd_X0_work (by decide) (by decide) (t_recvA h hn) hl.1 rfl (Nat.le_of_ble_eq_true rfl) dX3_fire_61 (fun u H locs hw h => ?_)
  have hu := hw
  have h : XT D cy ad s A H locs (T_work (itr (T_fire_h n) (σ.1 21 0) 0 (T_forget σ)) n) := by rw [← hu]; exact h
  clear hu
  refine lv_iconst (v := nI 0) hx hb dX3_fire_64 (by decide +kernel) ?_
  refine lv_istore_n (lv' := [(3, .int (nI 0)), (2, .ref (ad (5 + n))), (0, .ref (ad 0)), (1, .int (nI n))]) hx hb dX3_fire_65 rfl hl (by decide) rfl (fun ls hl => ?_)
  refine lp_X3_fire2 hx hb hml hU hown hR hcs hn (σ.1 21 0) 0 (T_work (itr (T_fire_h n) (σ.1 21 0) 0 (T_forget σ)) n) _ _ _ ⟨⟨by rw [T_work_N, T_fire_h_iN n _ _ _ 21 0 (by omega) (by decide) (by decide)]; exact Nat.zero_add _, by rw [T_work_N, T_fire_h_iN n _ _ _ 21 0 (by omega) (by decide) (by decide)]; exact hF.2.1⟩, hF.R⟩ h (lv_sub hl [2, 3, 1, 0] rfl) (fun H locs ls h hl => ?_)
  exact W.vret hx hb hr (fun t ht hW => ⟨⟨_, rfl, rfl, h.at ht hW⟩, h.2.2.2.2.F ht⟩) h.2.2.2.2.2.2 dX3_fire_106
