/-! ===== the reference: attempt ===== -/
theorem mN_self (μ : MS) (k n : Nat) : mN μ k n (μ.1 k n) = μ := by
  unfold mN; rw [up2_self]
theorem mN_mN (μ : MS) (k n v w : Nat) : mN (mN μ k n v) k n w = mN μ k n w := by
  unfold mN; dsimp only; rw [up2_up2]
def M_next (τ : MS) : Nat := findB (fun n => M_may τ n) (τ.1 0 0) 0
def M_ly (τ : MS) (q n : Nat) : Nat := (if τ.1 8 q = n then τ.1 21 q - τ.1 10 q else τ.1 21 q) + (if τ.1 7 q = n then τ.1 9 q else 0)
def M_cnt (n : Nat) : Nat → MS → MS := fun q τ => if τ.1 22 q < M_ly τ q n then mN (mN τ 21 q (M_ly τ q n)) 22 q (M_ly τ q n) else mN τ 21 q (M_ly τ q n)
theorem M_cnt_a {n q ly : Nat} {τ : MS} (h : M_ly τ q n = ly) (h1 : τ.1 22 q < ly) : M_cnt n q τ = mN (mN τ 21 q ly) 22 q ly := by
  subst h; exact if_pos h1
theorem M_cnt_b {n q ly : Nat} {τ : MS} (h : M_ly τ q n = ly) (h1 : ly ≤ τ.1 22 q) : M_cnt n q τ = mN τ 21 q ly := by
  subst h; exact if_neg (Nat.not_lt.mpr h1)
theorem M_cnt_N (τ : MS) (q n f j : Nat) : (M_cnt n q τ).1 f j = if f = 21 ∧ j = q then M_ly τ q n else if f = 22 ∧ j = q then max (τ.1 22 q) (M_ly τ q n) else τ.1 f j := by
  unfold M_cnt
  split
  · show up2 (up2 τ.1 21 q (M_ly τ q n)) 22 q _ f j = _
    unfold up2
    by_cases h1 : f = 22 ∧ j = q
    · rw [if_pos h1, if_neg (by omega), if_pos h1]; omega
    · rw [if_neg h1, if_neg h1]
  · show up2 τ.1 21 q (M_ly τ q n) f j = _
    unfold up2
    by_cases h1 : f = 22 ∧ j = q
    · rw [if_neg (by omega), if_neg (by omega), if_pos h1, h1.1, h1.2]; omega
    · rw [if_neg h1]
theorem M_ly_same {σ τ : MS} {q n : Nat} (h : ∀ f, f ≠ 20 → f ≠ 23 → σ.1 f q = τ.1 f q) : M_ly σ q n = M_ly τ q n := by
  unfold M_ly
  rw [h 8 (by decide) (by decide), h 21 (by decide) (by decide), h 10 (by decide) (by decide), h 7 (by decide) (by decide), h 9 (by decide) (by decide)]
theorem itr_cnt_N (n : Nat) : ∀ (k i : Nat) (τ : MS) (f j : Nat), (itr (M_cnt n) k i τ).1 f j = if f = 21 ∧ i ≤ j ∧ j < i + k then M_ly τ j n else if f = 22 ∧ i ≤ j ∧ j < i + k then max (τ.1 22 j) (M_ly τ j n) else τ.1 f j := by
  intro k
  induction k with
  | zero => intro i τ f j; rw [if_neg (by omega), if_neg (by omega)]; rfl
  | succ k ih =>
    intro i τ f j
    show (itr (M_cnt n) k (i + 1) (M_cnt n i τ)).1 f j = _
    rw [ih]
    by_cases e : j = i
    · subst e
      rw [if_neg (by omega), if_neg (by omega), M_cnt_N]
      by_cases e1 : f = 21
      · rw [if_pos (by omega), if_pos (by omega)]
      · rw [if_neg (by omega), if_neg (show ¬ (f = 21 ∧ _) by omega)]
        by_cases e2 : f = 22
        · rw [if_pos (by omega), if_pos (by omega)]
        · rw [if_neg (by omega), if_neg (by omega)]
    · have e3 : ∀ f, (M_cnt n i τ).1 f j = τ.1 f j := fun f => by rw [M_cnt_N, if_neg (by omega), if_neg (by omega)]
      rw [M_ly_same (σ := M_cnt n i τ) (τ := τ) (fun f _ _ => e3 f), e3, e3]
      by_cases e1 : f = 21 ∧ i + 1 ≤ j ∧ j < i + 1 + k
      · rw [if_pos e1, if_pos (show f = 21 ∧ i ≤ j ∧ j < i + (k + 1) by omega)]
      · rw [if_neg e1, if_neg (show ¬ (f = 21 ∧ i ≤ j ∧ j < i + (k + 1)) by omega)]
        by_cases e2 : f = 22 ∧ i + 1 ≤ j ∧ j < i + 1 + k
        · rw [if_pos e2, if_pos (show f = 22 ∧ i ≤ j ∧ j < i + (k + 1) by omega)]
        · rw [if_neg e2, if_neg (show ¬ (f = 22 ∧ i ≤ j ∧ j < i + (k + 1)) by omega)]
def EFm (τ : MS) (n q : Nat) : Prop := τ.1 7 q < 2 ^ 20 ∧ τ.1 8 q < 2 ^ 20 ∧ τ.1 9 q < 2 ^ 20 ∧ τ.1 10 q < 2 ^ 20 ∧ τ.1 21 q < 2 ^ 20 ∧ τ.1 22 q < 2 ^ 20 ∧ (τ.1 8 q = n → τ.1 10 q ≤ τ.1 21 q)
def CntC (n k i : Nat) (τ : MS) : Prop := (i + k = τ.1 1 0 ∧ τ.1 1 0 ≤ 12) ∧ ∀ q, i ≤ q → q < τ.1 1 0 → EFm τ n q
theorem CntC_s {n k i : Nat} {τ : MS} (h : CntC n (k + 1) i τ) : CntC n k (i + 1) (M_cnt n i τ) := by
  have e : ∀ f j, f ≠ 21 → f ≠ 22 → (M_cnt n i τ).1 f j = τ.1 f j := fun f j h1 h2 => (by rw [M_cnt_N, if_neg (by omega), if_neg (by omega)])
  have e3 : ∀ f j, j ≠ i → (M_cnt n i τ).1 f j = τ.1 f j := fun f j h1 => (by rw [M_cnt_N, if_neg (by omega), if_neg (by omega)])
  obtain ⟨⟨a1, a2⟩, a3⟩ := h
  unfold CntC
  rw [e 1 0 (by decide) (by decide)]
  refine ⟨⟨by omega, a2⟩, fun q h1 h2 => ?_⟩
  unfold EFm
  rw [e3 7 q (by omega), e3 8 q (by omega), e3 9 q (by omega), e3 10 q (by omega), e3 21 q (by omega), e3 22 q (by omega)]
  exact a3 q (by omega) h2
def M_step (τ : MS) (i : Nat) : MS := itr (M_cnt (M_next τ)) (τ.1 1 0) 0 (mN (mN τ 20 (M_next τ) (τ.1 20 (M_next τ) + 1)) 23 i (M_next τ))
theorem M_step_N (τ : MS) (i f j : Nat) : (M_step τ i).1 f j = if f = 21 ∧ j < τ.1 1 0 then M_ly τ j (M_next τ) else if f = 22 ∧ j < τ.1 1 0 then max (τ.1 22 j) (M_ly τ j (M_next τ)) else if f = 20 ∧ j = M_next τ then τ.1 20 (M_next τ) + 1 else if f = 23 ∧ j = i then M_next τ else τ.1 f j := by
  unfold M_step
  generalize M_next τ = n
  have e : ∀ f j, f ≠ 20 → f ≠ 23 → (mN (mN τ 20 n (τ.1 20 n + 1)) 23 i n).1 f j = τ.1 f j := fun f j h1 h2 => by
    rw [mN_k _ _ _ _ h2, mN_k _ _ _ _ h1]
  rw [itr_cnt_N, M_ly_same (σ := mN (mN τ 20 n (τ.1 20 n + 1)) 23 i n) (τ := τ) (fun f h1 h2 => e f j h1 h2), e 22 j (by decide) (by decide)]
  by_cases e1 : f = 21 ∧ j < τ.1 1 0
  · rw [if_pos (by omega), if_pos e1]
  · rw [if_neg (by omega), if_neg e1]
    by_cases e2 : f = 22 ∧ j < τ.1 1 0
    · rw [if_pos (by omega), if_pos e2]
    · rw [if_neg (by omega), if_neg e2]
      show up2 (up2 τ.1 20 n (τ.1 20 n + 1)) 23 i n f j = _
      unfold up2
      by_cases e3 : f = 20 ∧ j = n
      · rw [if_neg (by omega), if_pos e3]
        rw [if_pos e3]
      · rw [if_neg e3]
        rw [if_neg e3]
def M_lay : Nat → Nat → MS → Bool × MS
  | 0, _, τ => (true, τ)
  | k + 1, i, τ => if M_next τ < τ.1 0 0 then M_lay k (i + 1) (M_step τ i) else (false, τ)
/-- while the plan is attempted: i firings are written down -/
def LayM (i : Nat) (τ : MS) : Prop := MNet τ ∧ (∀ n, n < τ.1 0 0 → τ.1 20 n ≤ i ∧ τ.1 19 n < 2 ^ 50) ∧ ∀ q, q < τ.1 1 0 → τ.1 21 q ≤ 9 + 9 * i ∧ τ.1 22 q ≤ 9 + 9 * i
theorem LayM.B {i : Nat} {τ : MS} (h : LayM i τ) (hi : i ≤ 200) : MayB τ := by
  obtain ⟨a, b, d⟩ := h
  refine ⟨a, fun n hn => ?_, fun q hq => ?_⟩
  · have := b n hn; omega
  · have := d q hq; omega
theorem M_next_spec {τ : MS} (h : M_next τ < τ.1 0 0) : τ.1 20 (M_next τ) ≠ τ.1 19 (M_next τ) ∧ ∀ q, q < τ.1 1 0 → τ.1 8 q = M_next τ → τ.1 10 q ≤ τ.1 21 q := by
  have h1 := findB_spec (p := fun n => M_may τ n) (τ.1 0 0) 0 (by rw [Nat.zero_add]; exact h)
  have h1 : M_may τ (M_next τ) = true := h1
  unfold M_may at h1
  rw [Bool.and_eq_true] at h1
  refine ⟨of_decide_eq_true h1.1, fun q hq he => ?_⟩
  have h2 := (allB_iff _ _).mp h1.2 q (Nat.zero_le _) (by omega)
  exact of_decide_eq_true h2 he
theorem LayM_next {i : Nat} {τ : MS} (h : LayM i τ) (hn : M_next τ < τ.1 0 0) : LayM (i + 1) (M_step τ i) := by
  obtain ⟨a, b, d⟩ := h
  obtain ⟨s1, s2⟩ := M_next_spec hn
  have e : ∀ f j, f ≠ 21 → f ≠ 22 → f ≠ 20 → f ≠ 23 → (M_step τ i).1 f j = τ.1 f j := fun f j h1 h2 h3 h4 => by
    rw [M_step_N, if_neg (by omega), if_neg (by omega), if_neg (by omega), if_neg (by omega)]
  refine ⟨?_, ?_, ?_⟩
  · unfold MNet
    rw [e 0 0 (by decide) (by decide) (by decide) (by decide), e 1 0 (by decide) (by decide) (by decide) (by decide)]
    refine ⟨a.1, a.2.1, fun q hq => ?_⟩
    rw [e 7 q (by decide) (by decide) (by decide) (by decide), e 8 q (by decide) (by decide) (by decide) (by decide), e 9 q (by decide) (by decide) (by decide) (by decide), e 10 q (by decide) (by decide) (by decide) (by decide), e 11 q (by decide) (by decide) (by decide) (by decide)]
    exact a.2.2 q hq
  · rw [e 0 0 (by decide) (by decide) (by decide) (by decide)]
    intro n hn'
    rw [e 19 n (by decide) (by decide) (by decide) (by decide), M_step_N, if_neg (by omega), if_neg (by omega)]
    have := b n hn'
    have := b _ hn
    split
    · omega
    · rw [if_neg (by omega)]; omega
  · rw [e 1 0 (by decide) (by decide) (by decide) (by decide)]
    intro q hq
    have := d q hq
    have := a.2.2 q hq
    have hl : M_ly τ q (M_next τ) ≤ τ.1 21 q + 9 := by unfold M_ly; split <;> split <;> omega
    rw [M_step_N, M_step_N, if_pos (by omega), if_neg (by omega), if_pos (by omega)]
    omega
def M_lay_f : Nat → MS → MS := fun n τ => mN τ 20 n 0
def M_lay_e : Nat → MS → MS := fun q τ => mN (mN τ 21 q (τ.1 11 q)) 22 q (τ.1 11 q)
def M_lay0 (σ : MS) : MS := itr M_lay_e (σ.1 1 0) 0 (itr M_lay_f (σ.1 0 0) 0 σ)
def M_att (σ : MS) : Bool × MS := M_lay (sF (σ.1 19) (σ.1 0 0) 0 0) 0 (M_lay0 σ)
theorem itr_mlay_f_N : ∀ (k i : Nat) (τ : MS) (f j : Nat), (itr M_lay_f k i τ).1 f j = if f = 20 ∧ i ≤ j ∧ j < i + k then 0 else τ.1 f j := by
  intro k
  induction k with
  | zero => intro i τ f j; rw [if_neg (by omega)]; rfl
  | succ k ih =>
    intro i τ f j
    show (itr M_lay_f k (i + 1) (mN τ 20 i 0)).1 f j = _
    rw [ih]
    by_cases e : f = 20 ∧ j = i
    · rw [if_neg (by omega), if_pos (by omega), e.1, e.2]; exact up2_eq _ _ _ _
    · rw [show (mN τ 20 i 0).1 f j = τ.1 f j from by show up2 τ.1 20 i 0 f j = _; unfold up2; rw [if_neg e]]
      by_cases e1 : f = 20 ∧ i + 1 ≤ j ∧ j < i + 1 + k
      · rw [if_pos e1, if_pos (show f = 20 ∧ i ≤ j ∧ j < i + (k + 1) by omega)]
      · rw [if_neg e1, if_neg (show ¬ (f = 20 ∧ i ≤ j ∧ j < i + (k + 1)) by omega)]
theorem M_lay_e_N (τ : MS) (q f j : Nat) : (M_lay_e q τ).1 f j = if (f = 21 ∨ f = 22) ∧ j = q then τ.1 11 q else τ.1 f j := by
  show up2 (up2 τ.1 21 q (τ.1 11 q)) 22 q (τ.1 11 q) f j = _
  unfold up2
  by_cases e1 : f = 22 ∧ j = q
  · rw [if_pos e1, if_pos (by omega)]
  · rw [if_neg e1]
    by_cases e2 : f = 21 ∧ j = q
    · rw [if_pos e2, if_pos (by omega)]
    · rw [if_neg e2, if_neg (by omega)]
theorem itr_mlay_e_N : ∀ (k i : Nat) (τ : MS) (f j : Nat), (itr M_lay_e k i τ).1 f j = if (f = 21 ∨ f = 22) ∧ i ≤ j ∧ j < i + k then τ.1 11 j else τ.1 f j := by
  intro k
  induction k with
  | zero => intro i τ f j; rw [if_neg (by omega)]; rfl
  | succ k ih =>
    intro i τ f j
    show (itr M_lay_e k (i + 1) (M_lay_e i τ)).1 f j = _
    rw [ih, M_lay_e_N, M_lay_e_N, if_neg (show ¬ ((11 = 21 ∨ 11 = 22) ∧ j = i) by omega)]
    by_cases e : (f = 21 ∨ f = 22) ∧ j = i
    · rw [if_neg (by omega), if_pos e, if_pos (by omega), e.2]
    · rw [if_neg e]
      by_cases e1 : (f = 21 ∨ f = 22) ∧ i + 1 ≤ j ∧ j < i + 1 + k
      · rw [if_pos e1, if_pos (show (f = 21 ∨ f = 22) ∧ i ≤ j ∧ j < i + (k + 1) by omega)]
      · rw [if_neg e1, if_neg (show ¬ ((f = 21 ∨ f = 22) ∧ i ≤ j ∧ j < i + (k + 1)) by omega)]
theorem M_lay0_N (σ : MS) (f j : Nat) : (M_lay0 σ).1 f j = if (f = 21 ∨ f = 22) ∧ j < σ.1 1 0 then σ.1 11 j else if f = 20 ∧ j < σ.1 0 0 then 0 else σ.1 f j := by
  unfold M_lay0
  rw [itr_mlay_e_N, itr_mlay_f_N, itr_mlay_f_N, if_neg (show ¬ (11 = 20 ∧ _) by omega)]
  by_cases e1 : (f = 21 ∨ f = 22) ∧ j < σ.1 1 0
  · rw [if_pos (by omega), if_pos e1]
  · rw [if_neg (by omega), if_neg e1]
    by_cases e2 : f = 20 ∧ j < σ.1 0 0
    · rw [if_pos (by omega), if_pos e2]
    · rw [if_neg (by omega), if_neg e2]
theorem LayM_start {σ : MS} (h : MNet σ) (hr : ∀ n, n < σ.1 0 0 → σ.1 19 n < 2 ^ 50) : LayM 0 (M_lay0 σ) := by
  have e : ∀ f j, f ≠ 21 → f ≠ 22 → f ≠ 20 → (M_lay0 σ).1 f j = σ.1 f j := fun f j h1 h2 h3 => by
    rw [M_lay0_N, if_neg (by omega), if_neg (by omega)]
  refine ⟨?_, ?_, ?_⟩
  · unfold MNet
    rw [e 0 0 (by decide) (by decide) (by decide), e 1 0 (by decide) (by decide) (by decide)]
    refine ⟨h.1, h.2.1, fun q hq => ?_⟩
    rw [e 7 q (by decide) (by decide) (by decide), e 8 q (by decide) (by decide) (by decide), e 9 q (by decide) (by decide) (by decide), e 10 q (by decide) (by decide) (by decide), e 11 q (by decide) (by decide) (by decide)]
    exact h.2.2 q hq
  · rw [e 0 0 (by decide) (by decide) (by decide)]
    intro n hn
    rw [e 19 n (by decide) (by decide) (by decide), M_lay0_N, if_neg (by omega), if_pos (by omega)]
    exact ⟨Nat.le_refl _, hr n hn⟩
  · rw [e 1 0 (by decide) (by decide) (by decide)]
    intro q hq
    rw [M_lay0_N, if_pos (by omega), M_lay0_N, if_pos (by omega)]
    have := h.2.2 q hq
    omega
set_option maxRecDepth 100000 in
set_option maxHeartbeats 4000000 in
theorem lp_X4_att1 {p : Program} {l : Launch} {ev : Env} {R : Room} {s : State} {m : MethodId} {args : Array Value} {below : List Frame} {meth : Method} {c : Code} {cells slots : Nat} {Q : State → Prop} {D : va_G} {cy : Nat → ClassId} {bd : Nat → Nat} {A : Nat → Prop} (hx : p.tables.exec = Jvm.exec) (hb : c.code = cX4_attempt) (hml : c.maxLocals = 6) (hU : ∀ w ∈ UW, w.before args s = true) (hown : s.vm.findClass RX4 = some m.cls) (hR : 1 ≤ R.frames ∧ 32 * 1 ≤ R.locals) (hcs : cells ≤ R.cells ∧ slots ≤ R.slots)  :
    ∀ (k i x : Nat) (τ : MS) (H : Heap) (locs : List Loc) (ls : Array Slot), (i + k = τ.1 0 0 ∧ τ.1 0 0 ≤ 8) → XM D cy bd s A H locs τ → lv_has ls 6 [(0, .ref (bd 0)), (1, .int (nI x)), (2, .int (nI 0)), (3, .int (nI i))] → (∀ (H : Heap) (locs : List Loc) (ls : Array Slot), XM D cy bd s A H locs (itr M_lay_f k i τ) → lv_has ls 6 [(0, .ref (bd 0)), (1, .int (nI (sF (τ.1 19) k i x))), (2, .int (nI 0))] → W p l ev R s m args below meth c H locs cells slots Q (F0 m 37 ls [])) → W p l ev R s m args below meth c H locs cells slots Q (F0 m 6 ls []) := by
  intro k
  induction k with
  | zero =>
    intro i x τ H locs ls hc h hl K
    refine lv_iload_n hx hb dX4_attempt_6 rfl (lv_at hl 3 rfl) ?_
    refine lv_aload_n hx hb dX4_attempt_7 rfl (lv_at hl 0 rfl) ?_
    refine m_g hx hb hU hown h 0 (by decide) ufX4_75 (v := .int (nI (τ.1 0 0))) rfl dX4_attempt_8 ?_
    refine n_icmp_ge (tgt := 37) hx hb (by omega) (by omega) dX4_attempt_11 (by decide) (fun c_11 => ?_) (fun c_11 => absurd c_11 (by omega))
    exact K _ _ _ h (lv_sub hl [0, 1, 2] rfl)
  | succ k ih =>
    intro i x τ H locs ls hc h hl K
    refine lv_iload_n hx hb dX4_attempt_6 rfl (lv_at hl 3 rfl) ?_
    refine lv_aload_n hx hb dX4_attempt_7 rfl (lv_at hl 0 rfl) ?_
    refine m_g hx hb hU hown h 0 (by decide) ufX4_75 (v := .int (nI (τ.1 0 0))) rfl dX4_attempt_8 ?_
    refine n_icmp_ge (tgt := 37) hx hb (by omega) (by omega) dX4_attempt_11 (by decide) (fun c_11 => absurd c_11 (by omega)) (fun c_11 => ?_)
    refine lv_aload_n hx hb dX4_attempt_14 rfl (lv_at hl 0 rfl) ?_
    refine m_g hx hb hU hown h 20 (by decide) ufX4_59 (v := .ref (bd 17)) rfl dX4_attempt_15 ?_
    refine lv_iload_n hx hb dX4_attempt_18 rfl (lv_at hl 3 rfl) ?_
    refine lv_iconst (v := nI 0) hx hb dX4_attempt_19 (by decide +kernel) ?_
    refine m_sN hx hb h 20 8 ⟨rfl, by unfold mA; omega⟩ rfl (by omega) dX4_attempt_20 (fun H locs h => ?_)
    refine lv_iload_n hx hb dX4_attempt_21 rfl (lv_at hl 1 rfl) ?_
    refine lv_aload_n hx hb dX4_attempt_22 rfl (lv_at hl 0 rfl) ?_
    refine m_g hx hb hU hown h 19 (by decide) ufX4_55 (v := .ref (bd 16)) (by first | rfl | (simp [mO, mN, mI, up2]; done)) dX4_attempt_23 ?_
    refine lv_iload_n hx hb dX4_attempt_26 rfl (lv_at hl 3 rfl) ?_
    refine m_iL hx hb h (by omega) (v := τ.1 19 i) (by simp [mN, mI, up2]) dX4_attempt_27 ?_
    refine n_l2i hx hb dX4_attempt_28 ?_
    refine n_iadd hx hb dX4_attempt_29 ?_
    refine lv_istore_n (lv' := [(1, .int (nI (x + (τ.1 19 i)))), (0, .ref (bd 0)), (2, .int (nI 0)), (3, .int (nI i))]) hx hb dX4_attempt_30 rfl hl (by decide) rfl (fun ls hl => ?_)
    refine lv_iinc (v := nI (i + 1)) (lv' := [(3, .int (nI (i + 1))), (1, .int (nI (x + (τ.1 19 i)))), (0, .ref (bd 0)), (2, .int (nI 0))]) hx hb dX4_attempt_31 hl (k := 3) rfl (by rw [← nI_add]; rfl) (by decide) rfl (fun ls hl => ?_)
    refine lv_goto (tgt := 6) hx hb dX4_attempt_34 (by decide) ?_
    have e2 : (mN τ 20 i 0).1 19 = τ.1 19 := funext (fun j => mN_k _ _ _ _ (by decide))
    refine ih (i + 1) (x + (τ.1 19 i)) (mN τ 20 i 0) _ _ _ ⟨by rw [mN_k _ _ _ _ (by decide)]; omega, by rw [mN_k _ _ _ _ (by decide)]; exact hc.2⟩ h (lv_sub hl [2, 1, 3, 0] rfl) ?_
    rw [e2]
    exact K
set_option maxRecDepth 100000 in
set_option maxHeartbeats 4000000 in
theorem lp_X4_att2 {p : Program} {l : Launch} {ev : Env} {R : Room} {s : State} {m : MethodId} {args : Array Value} {below : List Frame} {meth : Method} {c : Code} {cells slots : Nat} {Q : State → Prop} {D : va_G} {cy : Nat → ClassId} {bd : Nat → Nat} {A : Nat → Prop} (hx : p.tables.exec = Jvm.exec) (hb : c.code = cX4_attempt) (hml : c.maxLocals = 6) (hU : ∀ w ∈ UW, w.before args s = true) (hown : s.vm.findClass RX4 = some m.cls) (hR : 1 ≤ R.frames ∧ 32 * 1 ≤ R.locals) (hcs : cells ≤ R.cells ∧ slots ≤ R.slots) {F : Nat} :
    ∀ (k i : Nat) (τ : MS) (H : Heap) (locs : List Loc) (ls : Array Slot), (i + k = τ.1 1 0 ∧ τ.1 1 0 ≤ 12) → XM D cy bd s A H locs τ → lv_has ls 6 [(0, .ref (bd 0)), (1, .int (nI F)), (2, .int (nI 0)), (3, .int (nI i))] → (∀ (H : Heap) (locs : List Loc) (ls : Array Slot), XM D cy bd s A H locs (itr M_lay_e k i τ) → lv_has ls 6 [(0, .ref (bd 0)), (1, .int (nI F)), (2, .int (nI 0))] → W p l ev R s m args below meth c H locs cells slots Q (F0 m 77 ls [])) → W p l ev R s m args below meth c H locs cells slots Q (F0 m 39 ls []) := by
  intro k
  induction k with
  | zero =>
    intro i τ H locs ls hc h hl K
    refine lv_iload_n hx hb dX4_attempt_39 rfl (lv_at hl 3 rfl) ?_
    refine lv_aload_n hx hb dX4_attempt_40 rfl (lv_at hl 0 rfl) ?_
    refine m_g hx hb hU hown h 1 (by decide) ufX4_78 (v := .int (nI (τ.1 1 0))) rfl dX4_attempt_41 ?_
    refine n_icmp_ge (tgt := 77) hx hb (by omega) (by omega) dX4_attempt_44 (by decide) (fun c_44 => ?_) (fun c_44 => absurd c_44 (by omega))
    exact K _ _ _ h (lv_sub hl [0, 1, 2] rfl)
  | succ k ih =>
    intro i τ H locs ls hc h hl K
    refine lv_iload_n hx hb dX4_attempt_39 rfl (lv_at hl 3 rfl) ?_
    refine lv_aload_n hx hb dX4_attempt_40 rfl (lv_at hl 0 rfl) ?_
    refine m_g hx hb hU hown h 1 (by decide) ufX4_78 (v := .int (nI (τ.1 1 0))) rfl dX4_attempt_41 ?_
    refine n_icmp_ge (tgt := 77) hx hb (by omega) (by omega) dX4_attempt_44 (by decide) (fun c_44 => absurd c_44 (by omega)) (fun c_44 => ?_)
    refine lv_aload_n hx hb dX4_attempt_47 rfl (lv_at hl 0 rfl) ?_
    refine m_g hx hb hU hown h 21 (by decide) ufX4_62 (v := .ref (bd 18)) rfl dX4_attempt_48 ?_
    refine lv_iload_n hx hb dX4_attempt_51 rfl (lv_at hl 3 rfl) ?_
    refine lv_aload_n hx hb dX4_attempt_52 rfl (lv_at hl 0 rfl) ?_
    refine m_g hx hb hU hown h 11 (by decide) ufX4_34 (v := .ref (bd 9)) rfl dX4_attempt_53 ?_
    refine lv_iload_n hx hb dX4_attempt_56 rfl (lv_at hl 3 rfl) ?_
    refine m_iN hx hb h 11 12 ⟨rfl, by unfold mA; omega⟩ rfl (by omega) (v := τ.1 11 i) rfl dX4_attempt_57 ?_
    refine m_sN hx hb h 21 12 ⟨rfl, by unfold mA; omega⟩ rfl (by omega) dX4_attempt_58 (fun H locs h => ?_)
    refine lv_aload_n hx hb dX4_attempt_59 rfl (lv_at hl 0 rfl) ?_
    refine m_g hx hb hU hown h 22 (by decide) ufX4_65 (v := .ref (bd 19)) (by first | rfl | (simp [mO, mN, mI, up2]; done)) dX4_attempt_60 ?_
    refine lv_iload_n hx hb dX4_attempt_63 rfl (lv_at hl 3 rfl) ?_
    refine lv_aload_n hx hb dX4_attempt_64 rfl (lv_at hl 0 rfl) ?_
    refine m_g hx hb hU hown h 11 (by decide) ufX4_34 (v := .ref (bd 9)) (by first | rfl | (simp [mO, mN, mI, up2]; done)) dX4_attempt_65 ?_
    refine lv_iload_n hx hb dX4_attempt_68 rfl (lv_at hl 3 rfl) ?_
    refine m_iN hx hb h 11 12 ⟨rfl, by unfold mA; omega⟩ rfl (by omega) (v := τ.1 11 i) (by simp [mN, mI, up2]) dX4_attempt_69 ?_
    refine m_sN hx hb h 22 12 ⟨rfl, by unfold mA; omega⟩ rfl (by omega) dX4_attempt_70 (fun H locs h => ?_)
    refine lv_iinc (v := nI (i + 1)) (lv' := [(3, .int (nI (i + 1))), (0, .ref (bd 0)), (1, .int (nI F)), (2, .int (nI 0))]) hx hb dX4_attempt_71 hl (k := 3) rfl (by rw [← nI_add]; rfl) (by decide) rfl (fun ls hl => ?_)
    refine lv_goto (tgt := 39) hx hb dX4_attempt_74 (by decide) ?_
    exact ih (i + 1) (mN (mN τ 21 i (τ.1 11 i)) 22 i (τ.1 11 i)) _ _ _ ⟨by rw [mN_k _ _ _ _ (by decide), mN_k _ _ _ _ (by decide)]; omega, by rw [mN_k _ _ _ _ (by decide), mN_k _ _ _ _ (by decide)]; exact hc.2⟩ h (lv_sub hl [1, 2, 3, 0] rfl) K
set_option maxRecDepth 100000 in
set_option maxHeartbeats 4000000 in
theorem lp_X4_att3 {p : Program} {l : Launch} {ev : Env} {R : Room} {s : State} {m : MethodId} {args : Array Value} {below : List Frame} {meth : Method} {c : Code} {cells slots : Nat} {Q : State → Prop} {D : va_G} {cy : Nat → ClassId} {bd : Nat → Nat} {A : Nat → Prop} (hx : p.tables.exec = Jvm.exec) (hb : c.code = cX4_attempt) (hml : c.maxLocals = 6) (hU : ∀ w ∈ UW, w.before args s = true) (hown : s.vm.findClass RX4 = some m.cls) (hR : 1 ≤ R.frames ∧ 32 * 1 ≤ R.locals) (hcs : cells ≤ R.cells ∧ slots ≤ R.slots) {F q : Nat} {τ : MS} (hB : MayB τ) :
    ∀ (k i : Nat) (H : Heap) (locs : List Loc) (ls : Array Slot), i + k = τ.1 0 0 → XM D cy bd s A H locs τ → lv_has ls 6 [(0, .ref (bd 0)), (1, .int (nI F)), (2, .int (nI q)), (3, .int (nI q)), (4, .int (nI i))] → (∀ (H : Heap) (locs : List Loc) (ls : Array Slot), XM D cy bd s A H locs τ → lv_has ls 6 [(0, .ref (bd 0)), (1, .int (nI F)), (2, .int (nI q)), (3, .int (nI q)), (4, .int (nI (findB (fun n => M_may τ n) k i)))] → W p l ev R s m args below meth c H locs cells slots Q (F0 m 111 ls [])) → W p l ev R s m args below meth c H locs cells slots Q (F0 m 87 ls []) := by
  intro k
  induction k with
  | zero =>
    intro i H locs ls hc h hl K
    have h8 := hB.1.1
    refine lv_iload hx hb dX4_attempt_87 (lv_at hl 4 rfl) ?_
    refine lv_aload_n hx hb dX4_attempt_89 rfl (lv_at hl 0 rfl) ?_
    refine m_g hx hb hU hown h 0 (by decide) ufX4_75 (v := .int (nI (τ.1 0 0))) rfl dX4_attempt_90 ?_
    refine n_icmp_ge (tgt := 111) hx hb (by omega) (by omega) dX4_attempt_93 (by decide) (fun c_93 => ?_) (fun c_93 => absurd c_93 (by omega))
    exact K _ _ _ h (lv_sub hl [0, 1, 2, 3, 4] rfl)
  | succ k ih =>
    intro i H locs ls hc h hl K
    have h8 := hB.1.1
    refine lv_iload hx hb dX4_attempt_87 (lv_at hl 4 rfl) ?_
    refine lv_aload_n hx hb dX4_attempt_89 rfl (lv_at hl 0 rfl) ?_
    refine m_g hx hb hU hown h 0 (by decide) ufX4_75 (v := .int (nI (τ.1 0 0))) rfl dX4_attempt_90 ?_
    refine n_icmp_ge (tgt := 111) hx hb (by omega) (by omega) dX4_attempt_93 (by decide) (fun c_93 => absurd c_93 (by omega)) (fun c_93 => ?_)
    refine lv_aload_n hx hb dX4_attempt_96 rfl (lv_at hl 0 rfl) ?_
    refine lv_iload hx hb dX4_attempt_97 (lv_at hl 4 rfl) ?_
    refine y_calli hx hb hml hU hown hR hcs h (c_X4_mayFire l D cy bd τ _ (n := i) (by omega) hB) umX4_117 ui_X4_mayFire us_X4_mayFire unX4 uc_X4_mayFire hd_X4_mayFire (by decide) (by decide) (m_recv h) hl.1 rfl (Nat.le_of_ble_eq_true rfl) dX4_attempt_99 (fun r u H locs hw h => ?_)
    obtain ⟨rfl, hu⟩ := hw
    have h : XM D cy bd s A H locs τ := by rw [← hu]; exact h
    clear hu
    refine z_if_ne (tgt := 111) hx hb dX4_attempt_102 (by decide) (fun c_102 => ?_) (fun c_102 => ?_)
    · rw [findB_yes (p := fun n => M_may τ n) c_102] at K
      exact K _ _ _ h (lv_sub hl [0, 1, 2, 3, 4] rfl)
    · refine lv_iinc (v := nI (i + 1)) (lv' := [(4, .int (nI (i + 1))), (0, .ref (bd 0)), (1, .int (nI F)), (2, .int (nI q)), (3, .int (nI q))]) hx hb dX4_attempt_105 hl (k := 4) rfl (by rw [← nI_add]; rfl) (by decide) rfl (fun ls hl => ?_)
      refine lv_goto (tgt := 87) hx hb dX4_attempt_108 (by decide) ?_
      rw [findB_go (p := fun n => M_may τ n) c_102] at K
      exact ih (i + 1) _ _ _ (by omega) h (lv_sub hl [1, 2, 3, 4, 0] rfl) K
set_option maxRecDepth 100000 in
set_option maxHeartbeats 4000000 in
theorem lp_X4_att4 {p : Program} {l : Launch} {ev : Env} {R : Room} {s : State} {m : MethodId} {args : Array Value} {below : List Frame} {meth : Method} {c : Code} {cells slots : Nat} {Q : State → Prop} {D : va_G} {cy : Nat → ClassId} {bd : Nat → Nat} {A : Nat → Prop} (hx : p.tables.exec = Jvm.exec) (hb : c.code = cX4_attempt) (hml : c.maxLocals = 6) (hU : ∀ w ∈ UW, w.before args s = true) (hown : s.vm.findClass RX4 = some m.cls) (hR : 1 ≤ R.frames ∧ 32 * 1 ≤ R.locals) (hcs : cells ≤ R.cells ∧ slots ≤ R.slots) {F z q n : Nat} (hn : n < 8) :
    ∀ (k i : Nat) (τ : MS) (H : Heap) (locs : List Loc) (ls : Array Slot), CntC n k i τ → XM D cy bd s A H locs τ → lv_has ls 6 [(0, .ref (bd 0)), (1, .int (nI F)), (2, .int (nI z)), (3, .int (nI q)), (4, .int (nI n)), (5, .int (nI i))] → (∀ (H : Heap) (locs : List Loc) (ls : Array Slot), XM D cy bd s A H locs (itr (M_cnt n) k i τ) → lv_has ls 6 [(0, .ref (bd 0)), (1, .int (nI F)), (2, .int (nI z)), (3, .int (nI q))] → W p l ev R s m args below meth c H locs cells slots Q (F0 m 251 ls [])) → W p l ev R s m args below meth c H locs cells slots Q (F0 m 147 ls []) := by
  intro k
  induction k with
  | zero =>
    intro i τ H locs ls hc h hl K
    have h8 := hc.1
    refine lv_iload hx hb dX4_attempt_147 (lv_at hl 5 rfl) ?_
    refine lv_aload_n hx hb dX4_attempt_149 rfl (lv_at hl 0 rfl) ?_
    refine m_g hx hb hU hown h 1 (by decide) ufX4_78 (v := .int (nI (τ.1 1 0))) rfl dX4_attempt_150 ?_
    refine n_icmp_ge (tgt := 251) hx hb (by omega) (by omega) dX4_attempt_153 (by decide) (fun c_153 => ?_) (fun c_153 => absurd c_153 (by omega))
    exact K _ _ _ h (lv_sub hl [0, 1, 2, 3] rfl)
  | succ k ih =>
    intro i τ H locs ls hc h hl K
    have h8 := hc.1
    obtain ⟨e7, e8, e9, e10, e21, e22, h10⟩ := hc.2 i (Nat.le_refl _) (by omega)
    refine lv_iload hx hb dX4_attempt_147 (lv_at hl 5 rfl) ?_
    refine lv_aload_n hx hb dX4_attempt_149 rfl (lv_at hl 0 rfl) ?_
    refine m_g hx hb hU hown h 1 (by decide) ufX4_78 (v := .int (nI (τ.1 1 0))) rfl dX4_attempt_150 ?_
    refine n_icmp_ge (tgt := 251) hx hb (by omega) (by omega) dX4_attempt_153 (by decide) (fun c_153 => absurd c_153 (by omega)) (fun c_153 => ?_)
    refine lv_aload_n hx hb dX4_attempt_156 rfl (lv_at hl 0 rfl) ?_
    refine m_g hx hb hU hown h 8 (by decide) ufX4_25 (v := .ref (bd 6)) rfl dX4_attempt_157 ?_
    refine lv_iload hx hb dX4_attempt_160 (lv_at hl 5 rfl) ?_
    refine m_iN hx hb h 8 12 ⟨rfl, by unfold mA; omega⟩ rfl (by omega) (v := τ.1 8 i) rfl dX4_attempt_162 ?_
    refine lv_iload hx hb dX4_attempt_163 (lv_at hl 4 rfl) ?_
    refine n_icmp_ne (tgt := 185) hx hb (by omega) (by omega) dX4_attempt_165 (by decide) (fun c_165 => ?_) (fun c_165 => ?_)
    · refine lv_aload_n hx hb dX4_attempt_185 rfl (lv_at hl 0 rfl) ?_
      refine m_g hx hb hU hown h 7 (by decide) ufX4_22 (v := .ref (bd 5)) rfl dX4_attempt_186 ?_
      refine lv_iload hx hb dX4_attempt_189 (lv_at hl 5 rfl) ?_
      refine m_iN hx hb h 7 12 ⟨rfl, by unfold mA; omega⟩ rfl (by omega) (v := τ.1 7 i) rfl dX4_attempt_191 ?_
      refine lv_iload hx hb dX4_attempt_192 (lv_at hl 4 rfl) ?_
      refine n_icmp_ne (tgt := 214) hx hb (by omega) (by omega) dX4_attempt_194 (by decide) (fun c_194 => ?_) (fun c_194 => ?_)
      · refine lv_aload_n hx hb dX4_attempt_214 rfl (lv_at hl 0 rfl) ?_
        refine m_g hx hb hU hown h 21 (by decide) ufX4_62 (v := .ref (bd 18)) rfl dX4_attempt_215 ?_
        refine lv_iload hx hb dX4_attempt_218 (lv_at hl 5 rfl) ?_
        refine m_iN hx hb h 21 12 ⟨rfl, by unfold mA; omega⟩ rfl (by omega) (v := τ.1 21 i) rfl dX4_attempt_220 ?_
        refine lv_aload_n hx hb dX4_attempt_221 rfl (lv_at hl 0 rfl) ?_
        refine m_g hx hb hU hown h 22 (by decide) ufX4_65 (v := .ref (bd 19)) rfl dX4_attempt_222 ?_
        refine lv_iload hx hb dX4_attempt_225 (lv_at hl 5 rfl) ?_
        refine m_iN hx hb h 22 12 ⟨rfl, by unfold mA; omega⟩ rfl (by omega) (v := τ.1 22 i) rfl dX4_attempt_227 ?_
        refine n_icmp_le (tgt := 245) hx hb (by omega) (by omega) dX4_attempt_228 (by decide) (fun c_228 => ?_) (fun c_228 => ?_)
        · refine lv_iinc (v := nI (i + 1)) (lv' := [(5, .int (nI (i + 1))), (0, .ref (bd 0)), (1, .int (nI F)), (2, .int (nI z)), (3, .int (nI q)), (4, .int (nI n))]) hx hb dX4_attempt_245 hl (k := 5) rfl (by rw [← nI_add]; rfl) (by decide) rfl (fun ls hl => ?_)
          refine lv_goto (tgt := 147) hx hb dX4_attempt_248 (by decide) ?_
          have ex : M_cnt n i τ = τ := by rw [M_cnt_b (ly := τ.1 21 i) (by unfold M_ly; rw [if_neg c_165, if_neg c_194]; rfl) c_228]; rw [mN_self]
          have hs := CntC_s hc
          rw [ex] at hs
          exact ih (i + 1) τ _ _ _ hs h (lv_sub hl [1, 2, 3, 4, 5, 0] rfl) (by unfold itr at K; rw [ex] at K; exact K)
        · refine lv_aload_n hx hb dX4_attempt_231 rfl (lv_at hl 0 rfl) ?_
          refine m_g hx hb hU hown h 22 (by decide) ufX4_65 (v := .ref (bd 19)) rfl dX4_attempt_232 ?_
          refine lv_iload hx hb dX4_attempt_235 (lv_at hl 5 rfl) ?_
          refine lv_aload_n hx hb dX4_attempt_237 rfl (lv_at hl 0 rfl) ?_
          refine m_g hx hb hU hown h 21 (by decide) ufX4_62 (v := .ref (bd 18)) rfl dX4_attempt_238 ?_
          refine lv_iload hx hb dX4_attempt_241 (lv_at hl 5 rfl) ?_
          refine m_iN hx hb h 21 12 ⟨rfl, by unfold mA; omega⟩ rfl (by omega) (v := τ.1 21 i) rfl dX4_attempt_243 ?_
          refine m_sN hx hb h 22 12 ⟨rfl, by unfold mA; omega⟩ rfl (by omega) dX4_attempt_244 (fun H locs h => ?_)
          refine lv_iinc (v := nI (i + 1)) (lv' := [(5, .int (nI (i + 1))), (0, .ref (bd 0)), (1, .int (nI F)), (2, .int (nI z)), (3, .int (nI q)), (4, .int (nI n))]) hx hb dX4_attempt_245 hl (k := 5) rfl (by rw [← nI_add]; rfl) (by decide) rfl (fun ls hl => ?_)
          refine lv_goto (tgt := 147) hx hb dX4_attempt_248 (by decide) ?_
          have ex : M_cnt n i τ = (mN τ 22 i (τ.1 21 i)) := by rw [M_cnt_a (ly := τ.1 21 i) (by unfold M_ly; rw [if_neg c_165, if_neg c_194]; rfl) c_228]; rw [mN_self]
          have hs := CntC_s hc
          rw [ex] at hs
          exact ih (i + 1) (mN τ 22 i (τ.1 21 i)) _ _ _ hs h (lv_sub hl [1, 2, 3, 4, 5, 0] rfl) (by unfold itr at K; rw [ex] at K; exact K)
      · refine lv_aload_n hx hb dX4_attempt_197 rfl (lv_at hl 0 rfl) ?_
        refine m_g hx hb hU hown h 21 (by decide) ufX4_62 (v := .ref (bd 18)) rfl dX4_attempt_198 ?_
        refine lv_iload hx hb dX4_attempt_201 (lv_at hl 5 rfl) ?_
        refine lv_dup2_11 hx hb dX4_attempt_203 rfl rfl ?_
        refine m_iN hx hb h 21 12 ⟨rfl, by unfold mA; omega⟩ rfl (by omega) (v := τ.1 21 i) rfl dX4_attempt_204 ?_
        refine lv_aload_n hx hb dX4_attempt_205 rfl (lv_at hl 0 rfl) ?_
        refine m_g hx hb hU hown h 9 (by decide) ufX4_28 (v := .ref (bd 7)) rfl dX4_attempt_206 ?_
        refine lv_iload hx hb dX4_attempt_209 (lv_at hl 5 rfl) ?_
        refine m_iN hx hb h 9 12 ⟨rfl, by unfold mA; omega⟩ rfl (by omega) (v := τ.1 9 i) rfl dX4_attempt_211 ?_
        refine n_iadd hx hb dX4_attempt_212 ?_
        refine m_sN hx hb h 21 12 ⟨rfl, by unfold mA; omega⟩ rfl (by omega) dX4_attempt_213 (fun H locs h => ?_)
        refine lv_aload_n hx hb dX4_attempt_214 rfl (lv_at hl 0 rfl) ?_
        refine m_g hx hb hU hown h 21 (by decide) ufX4_62 (v := .ref (bd 18)) (by first | rfl | (simp [mO, mN, mI, up2]; done)) dX4_attempt_215 ?_
        refine lv_iload hx hb dX4_attempt_218 (lv_at hl 5 rfl) ?_
        refine m_iN hx hb h 21 12 ⟨rfl, by unfold mA; omega⟩ rfl (by omega) (v := (τ.1 21 i) + (τ.1 9 i)) (by simp [mN, mI, up2]) dX4_attempt_220 ?_
        refine lv_aload_n hx hb dX4_attempt_221 rfl (lv_at hl 0 rfl) ?_
        refine m_g hx hb hU hown h 22 (by decide) ufX4_65 (v := .ref (bd 19)) (by first | rfl | (simp [mO, mN, mI, up2]; done)) dX4_attempt_222 ?_
        refine lv_iload hx hb dX4_attempt_225 (lv_at hl 5 rfl) ?_
        refine m_iN hx hb h 22 12 ⟨rfl, by unfold mA; omega⟩ rfl (by omega) (v := τ.1 22 i) (by simp [mN, mI, up2]) dX4_attempt_227 ?_
        refine n_icmp_le (tgt := 245) hx hb (by omega) (by omega) dX4_attempt_228 (by decide) (fun c_228 => ?_) (fun c_228 => ?_)
        · refine lv_iinc (v := nI (i + 1)) (lv' := [(5, .int (nI (i + 1))), (0, .ref (bd 0)), (1, .int (nI F)), (2, .int (nI z)), (3, .int (nI q)), (4, .int (nI n))]) hx hb dX4_attempt_245 hl (k := 5) rfl (by rw [← nI_add]; rfl) (by decide) rfl (fun ls hl => ?_)
          refine lv_goto (tgt := 147) hx hb dX4_attempt_248 (by decide) ?_
          have ex : M_cnt n i τ = (mN τ 21 i ((τ.1 21 i) + (τ.1 9 i))) := by rw [M_cnt_b (ly := (τ.1 21 i) + (τ.1 9 i)) (by unfold M_ly; rw [if_neg c_165, if_pos c_194]) c_228]
          have hs := CntC_s hc
          rw [ex] at hs
          exact ih (i + 1) (mN τ 21 i ((τ.1 21 i) + (τ.1 9 i))) _ _ _ hs h (lv_sub hl [1, 2, 3, 4, 5, 0] rfl) (by unfold itr at K; rw [ex] at K; exact K)
        · refine lv_aload_n hx hb dX4_attempt_231 rfl (lv_at hl 0 rfl) ?_
          refine m_g hx hb hU hown h 22 (by decide) ufX4_65 (v := .ref (bd 19)) (by first | rfl | (simp [mO, mN, mI, up2]; done)) dX4_attempt_232 ?_
          refine lv_iload hx hb dX4_attempt_235 (lv_at hl 5 rfl) ?_
          refine lv_aload_n hx hb dX4_attempt_237 rfl (lv_at hl 0 rfl) ?_
          refine m_g hx hb hU hown h 21 (by decide) ufX4_62 (v := .ref (bd 18)) (by first | rfl | (simp [mO, mN, mI, up2]; done)) dX4_attempt_238 ?_
          refine lv_iload hx hb dX4_attempt_241 (lv_at hl 5 rfl) ?_
          refine m_iN hx hb h 21 12 ⟨rfl, by unfold mA; omega⟩ rfl (by omega) (v := (τ.1 21 i) + (τ.1 9 i)) (by simp [mN, mI, up2]) dX4_attempt_243 ?_
          refine m_sN hx hb h 22 12 ⟨rfl, by unfold mA; omega⟩ rfl (by omega) dX4_attempt_244 (fun H locs h => ?_)
          refine lv_iinc (v := nI (i + 1)) (lv' := [(5, .int (nI (i + 1))), (0, .ref (bd 0)), (1, .int (nI F)), (2, .int (nI z)), (3, .int (nI q)), (4, .int (nI n))]) hx hb dX4_attempt_245 hl (k := 5) rfl (by rw [← nI_add]; rfl) (by decide) rfl (fun ls hl => ?_)
          refine lv_goto (tgt := 147) hx hb dX4_attempt_248 (by decide) ?_
          have ex : M_cnt n i τ = (mN (mN τ 21 i ((τ.1 21 i) + (τ.1 9 i))) 22 i ((τ.1 21 i) + (τ.1 9 i))) := by rw [M_cnt_a (ly := (τ.1 21 i) + (τ.1 9 i)) (by unfold M_ly; rw [if_neg c_165, if_pos c_194]) c_228]
          have hs := CntC_s hc
          rw [ex] at hs
          exact ih (i + 1) (mN (mN τ 21 i ((τ.1 21 i) + (τ.1 9 i))) 22 i ((τ.1 21 i) + (τ.1 9 i))) _ _ _ hs h (lv_sub hl [1, 2, 3, 4, 5, 0] rfl) (by unfold itr at K; rw [ex] at K; exact K)
    · refine lv_aload_n hx hb dX4_attempt_168 rfl (lv_at hl 0 rfl) ?_
      refine m_g hx hb hU hown h 21 (by decide) ufX4_62 (v := .ref (bd 18)) rfl dX4_attempt_169 ?_
      refine lv_iload hx hb dX4_attempt_172 (lv_at hl 5 rfl) ?_
      refine lv_dup2_11 hx hb dX4_attempt_174 rfl rfl ?_
      refine m_iN hx hb h 21 12 ⟨rfl, by unfold mA; omega⟩ rfl (by omega) (v := τ.1 21 i) rfl dX4_attempt_175 ?_
      refine lv_aload_n hx hb dX4_attempt_176 rfl (lv_at hl 0 rfl) ?_
      refine m_g hx hb hU hown h 10 (by decide) ufX4_31 (v := .ref (bd 8)) rfl dX4_attempt_177 ?_
      refine lv_iload hx hb dX4_attempt_180 (lv_at hl 5 rfl) ?_
      refine m_iN hx hb h 10 12 ⟨rfl, by unfold mA; omega⟩ rfl (by omega) (v := τ.1 10 i) rfl dX4_attempt_182 ?_
      refine n_isub hx hb (h10 c_165) dX4_attempt_183 ?_
      refine m_sN hx hb h 21 12 ⟨rfl, by unfold mA; omega⟩ rfl (by omega) dX4_attempt_184 (fun H locs h => ?_)
      refine lv_aload_n hx hb dX4_attempt_185 rfl (lv_at hl 0 rfl) ?_
      refine m_g hx hb hU hown h 7 (by decide) ufX4_22 (v := .ref (bd 5)) (by first | rfl | (simp [mO, mN, mI, up2]; done)) dX4_attempt_186 ?_
      refine lv_iload hx hb dX4_attempt_189 (lv_at hl 5 rfl) ?_
      refine m_iN hx hb h 7 12 ⟨rfl, by unfold mA; omega⟩ rfl (by omega) (v := τ.1 7 i) (by simp [mN, mI, up2]) dX4_attempt_191 ?_
      refine lv_iload hx hb dX4_attempt_192 (lv_at hl 4 rfl) ?_
      refine n_icmp_ne (tgt := 214) hx hb (by omega) (by omega) dX4_attempt_194 (by decide) (fun c_194 => ?_) (fun c_194 => ?_)
      · refine lv_aload_n hx hb dX4_attempt_214 rfl (lv_at hl 0 rfl) ?_
        refine m_g hx hb hU hown h 21 (by decide) ufX4_62 (v := .ref (bd 18)) (by first | rfl | (simp [mO, mN, mI, up2]; done)) dX4_attempt_215 ?_
        refine lv_iload hx hb dX4_attempt_218 (lv_at hl 5 rfl) ?_
        refine m_iN hx hb h 21 12 ⟨rfl, by unfold mA; omega⟩ rfl (by omega) (v := (τ.1 21 i) - (τ.1 10 i)) (by simp [mN, mI, up2]) dX4_attempt_220 ?_
        refine lv_aload_n hx hb dX4_attempt_221 rfl (lv_at hl 0 rfl) ?_
        refine m_g hx hb hU hown h 22 (by decide) ufX4_65 (v := .ref (bd 19)) (by first | rfl | (simp [mO, mN, mI, up2]; done)) dX4_attempt_222 ?_
        refine lv_iload hx hb dX4_attempt_225 (lv_at hl 5 rfl) ?_
        refine m_iN hx hb h 22 12 ⟨rfl, by unfold mA; omega⟩ rfl (by omega) (v := τ.1 22 i) (by simp [mN, mI, up2]) dX4_attempt_227 ?_
        refine n_icmp_le (tgt := 245) hx hb (by omega) (by omega) dX4_attempt_228 (by decide) (fun c_228 => ?_) (fun c_228 => ?_)
        · refine lv_iinc (v := nI (i + 1)) (lv' := [(5, .int (nI (i + 1))), (0, .ref (bd 0)), (1, .int (nI F)), (2, .int (nI z)), (3, .int (nI q)), (4, .int (nI n))]) hx hb dX4_attempt_245 hl (k := 5) rfl (by rw [← nI_add]; rfl) (by decide) rfl (fun ls hl => ?_)
          refine lv_goto (tgt := 147) hx hb dX4_attempt_248 (by decide) ?_
          have ex : M_cnt n i τ = (mN τ 21 i ((τ.1 21 i) - (τ.1 10 i))) := by rw [M_cnt_b (ly := (τ.1 21 i) - (τ.1 10 i)) (by unfold M_ly; rw [if_pos c_165, if_neg c_194]; rfl) c_228]
          have hs := CntC_s hc
          rw [ex] at hs
          exact ih (i + 1) (mN τ 21 i ((τ.1 21 i) - (τ.1 10 i))) _ _ _ hs h (lv_sub hl [1, 2, 3, 4, 5, 0] rfl) (by unfold itr at K; rw [ex] at K; exact K)
        · refine lv_aload_n hx hb dX4_attempt_231 rfl (lv_at hl 0 rfl) ?_
          refine m_g hx hb hU hown h 22 (by decide) ufX4_65 (v := .ref (bd 19)) (by first | rfl | (simp [mO, mN, mI, up2]; done)) dX4_attempt_232 ?_
          refine lv_iload hx hb dX4_attempt_235 (lv_at hl 5 rfl) ?_
          refine lv_aload_n hx hb dX4_attempt_237 rfl (lv_at hl 0 rfl) ?_
          refine m_g hx hb hU hown h 21 (by decide) ufX4_62 (v := .ref (bd 18)) (by first | rfl | (simp [mO, mN, mI, up2]; done)) dX4_attempt_238 ?_
          refine lv_iload hx hb dX4_attempt_241 (lv_at hl 5 rfl) ?_
          refine m_iN hx hb h 21 12 ⟨rfl, by unfold mA; omega⟩ rfl (by omega) (v := (τ.1 21 i) - (τ.1 10 i)) (by simp [mN, mI, up2]) dX4_attempt_243 ?_
          refine m_sN hx hb h 22 12 ⟨rfl, by unfold mA; omega⟩ rfl (by omega) dX4_attempt_244 (fun H locs h => ?_)
          refine lv_iinc (v := nI (i + 1)) (lv' := [(5, .int (nI (i + 1))), (0, .ref (bd 0)), (1, .int (nI F)), (2, .int (nI z)), (3, .int (nI q)), (4, .int (nI n))]) hx hb dX4_attempt_245 hl (k := 5) rfl (by rw [← nI_add]; rfl) (by decide) rfl (fun ls hl => ?_)
          refine lv_goto (tgt := 147) hx hb dX4_attempt_248 (by decide) ?_
          have ex : M_cnt n i τ = (mN (mN τ 21 i ((τ.1 21 i) - (τ.1 10 i))) 22 i ((τ.1 21 i) - (τ.1 10 i))) := by rw [M_cnt_a (ly := (τ.1 21 i) - (τ.1 10 i)) (by unfold M_ly; rw [if_pos c_165, if_neg c_194]; rfl) c_228]
          have hs := CntC_s hc
          rw [ex] at hs
          exact ih (i + 1) (mN (mN τ 21 i ((τ.1 21 i) - (τ.1 10 i))) 22 i ((τ.1 21 i) - (τ.1 10 i))) _ _ _ hs h (lv_sub hl [1, 2, 3, 4, 5, 0] rfl) (by unfold itr at K; rw [ex] at K; exact K)
      · refine lv_aload_n hx hb dX4_attempt_197 rfl (lv_at hl 0 rfl) ?_
        refine m_g hx hb hU hown h 21 (by decide) ufX4_62 (v := .ref (bd 18)) (by first | rfl | (simp [mO, mN, mI, up2]; done)) dX4_attempt_198 ?_
        refine lv_iload hx hb dX4_attempt_201 (lv_at hl 5 rfl) ?_
        refine lv_dup2_11 hx hb dX4_attempt_203 rfl rfl ?_
        refine m_iN hx hb h 21 12 ⟨rfl, by unfold mA; omega⟩ rfl (by omega) (v := (τ.1 21 i) - (τ.1 10 i)) (by simp [mN, mI, up2]) dX4_attempt_204 ?_
        refine lv_aload_n hx hb dX4_attempt_205 rfl (lv_at hl 0 rfl) ?_
        refine m_g hx hb hU hown h 9 (by decide) ufX4_28 (v := .ref (bd 7)) (by first | rfl | (simp [mO, mN, mI, up2]; done)) dX4_attempt_206 ?_
        refine lv_iload hx hb dX4_attempt_209 (lv_at hl 5 rfl) ?_
        refine m_iN hx hb h 9 12 ⟨rfl, by unfold mA; omega⟩ rfl (by omega) (v := τ.1 9 i) (by simp [mN, mI, up2]) dX4_attempt_211 ?_
        refine n_iadd hx hb dX4_attempt_212 ?_
        refine m_sN hx hb h 21 12 ⟨rfl, by unfold mA; omega⟩ rfl (by omega) dX4_attempt_213 (fun H locs h => ?_)
        refine lv_aload_n hx hb dX4_attempt_214 rfl (lv_at hl 0 rfl) ?_
        refine m_g hx hb hU hown h 21 (by decide) ufX4_62 (v := .ref (bd 18)) (by first | rfl | (simp [mO, mN, mI, up2]; done)) dX4_attempt_215 ?_
        refine lv_iload hx hb dX4_attempt_218 (lv_at hl 5 rfl) ?_
        refine m_iN hx hb h 21 12 ⟨rfl, by unfold mA; omega⟩ rfl (by omega) (v := ((τ.1 21 i) - (τ.1 10 i)) + (τ.1 9 i)) (by simp [mN, mI, up2]) dX4_attempt_220 ?_
        refine lv_aload_n hx hb dX4_attempt_221 rfl (lv_at hl 0 rfl) ?_
        refine m_g hx hb hU hown h 22 (by decide) ufX4_65 (v := .ref (bd 19)) (by first | rfl | (simp [mO, mN, mI, up2]; done)) dX4_attempt_222 ?_
        refine lv_iload hx hb dX4_attempt_225 (lv_at hl 5 rfl) ?_
        refine m_iN hx hb h 22 12 ⟨rfl, by unfold mA; omega⟩ rfl (by omega) (v := τ.1 22 i) (by simp [mN, mI, up2]) dX4_attempt_227 ?_
        refine n_icmp_le (tgt := 245) hx hb (by omega) (by omega) dX4_attempt_228 (by decide) (fun c_228 => ?_) (fun c_228 => ?_)
        · refine lv_iinc (v := nI (i + 1)) (lv' := [(5, .int (nI (i + 1))), (0, .ref (bd 0)), (1, .int (nI F)), (2, .int (nI z)), (3, .int (nI q)), (4, .int (nI n))]) hx hb dX4_attempt_245 hl (k := 5) rfl (by rw [← nI_add]; rfl) (by decide) rfl (fun ls hl => ?_)
          refine lv_goto (tgt := 147) hx hb dX4_attempt_248 (by decide) ?_
          have ex : M_cnt n i τ = (mN (mN τ 21 i ((τ.1 21 i) - (τ.1 10 i))) 21 i (((τ.1 21 i) - (τ.1 10 i)) + (τ.1 9 i))) := by rw [M_cnt_b (ly := ((τ.1 21 i) - (τ.1 10 i)) + (τ.1 9 i)) (by unfold M_ly; rw [if_pos c_165, if_pos c_194]) c_228]; rw [mN_mN]
          have hs := CntC_s hc
          rw [ex] at hs
          exact ih (i + 1) (mN (mN τ 21 i ((τ.1 21 i) - (τ.1 10 i))) 21 i (((τ.1 21 i) - (τ.1 10 i)) + (τ.1 9 i))) _ _ _ hs h (lv_sub hl [1, 2, 3, 4, 5, 0] rfl) (by unfold itr at K; rw [ex] at K; exact K)
        · refine lv_aload_n hx hb dX4_attempt_231 rfl (lv_at hl 0 rfl) ?_
          refine m_g hx hb hU hown h 22 (by decide) ufX4_65 (v := .ref (bd 19)) (by first | rfl | (simp [mO, mN, mI, up2]; done)) dX4_attempt_232 ?_
          refine lv_iload hx hb dX4_attempt_235 (lv_at hl 5 rfl) ?_
          refine lv_aload_n hx hb dX4_attempt_237 rfl (lv_at hl 0 rfl) ?_
          refine m_g hx hb hU hown h 21 (by decide) ufX4_62 (v := .ref (bd 18)) (by first | rfl | (simp [mO, mN, mI, up2]; done)) dX4_attempt_238 ?_
          refine lv_iload hx hb dX4_attempt_241 (lv_at hl 5 rfl) ?_
          refine m_iN hx hb h 21 12 ⟨rfl, by unfold mA; omega⟩ rfl (by omega) (v := ((τ.1 21 i) - (τ.1 10 i)) + (τ.1 9 i)) (by simp [mN, mI, up2]) dX4_attempt_243 ?_
          refine m_sN hx hb h 22 12 ⟨rfl, by unfold mA; omega⟩ rfl (by omega) dX4_attempt_244 (fun H locs h => ?_)
          refine lv_iinc (v := nI (i + 1)) (lv' := [(5, .int (nI (i + 1))), (0, .ref (bd 0)), (1, .int (nI F)), (2, .int (nI z)), (3, .int (nI q)), (4, .int (nI n))]) hx hb dX4_attempt_245 hl (k := 5) rfl (by rw [← nI_add]; rfl) (by decide) rfl (fun ls hl => ?_)
          refine lv_goto (tgt := 147) hx hb dX4_attempt_248 (by decide) ?_
          have ex : M_cnt n i τ = (mN (mN (mN τ 21 i ((τ.1 21 i) - (τ.1 10 i))) 21 i (((τ.1 21 i) - (τ.1 10 i)) + (τ.1 9 i))) 22 i (((τ.1 21 i) - (τ.1 10 i)) + (τ.1 9 i))) := by rw [M_cnt_a (ly := ((τ.1 21 i) - (τ.1 10 i)) + (τ.1 9 i)) (by unfold M_ly; rw [if_pos c_165, if_pos c_194]) c_228]; rw [mN_mN]
          have hs := CntC_s hc
          rw [ex] at hs
          exact ih (i + 1) (mN (mN (mN τ 21 i ((τ.1 21 i) - (τ.1 10 i))) 21 i (((τ.1 21 i) - (τ.1 10 i)) + (τ.1 9 i))) 22 i (((τ.1 21 i) - (τ.1 10 i)) + (τ.1 9 i))) _ _ _ hs h (lv_sub hl [1, 2, 3, 4, 5, 0] rfl) (by unfold itr at K; rw [ex] at K; exact K)
theorem M_stepC {i : Nat} {τ : MS} (hI : LayM i τ) (hi : i ≤ 200) (hn : M_next τ < τ.1 0 0) : CntC (M_next τ) (τ.1 1 0) 0 (mN (mN τ 20 (M_next τ) (τ.1 20 (M_next τ) + 1)) 23 i (M_next τ)) := by
  have hs := M_next_spec hn
  obtain ⟨a, b, d⟩ := hI
  generalize M_next τ = n at hs ⊢
  have e : ∀ f j, f ≠ 20 → f ≠ 23 → (mN (mN τ 20 n (τ.1 20 n + 1)) 23 i n).1 f j = τ.1 f j := fun f j h1 h2 => by
    rw [mN_k _ _ _ _ h2, mN_k _ _ _ _ h1]
  unfold CntC
  rw [e 1 0 (by decide) (by decide)]
  refine ⟨⟨Nat.zero_add _, a.2.1⟩, fun q _ hq => ?_⟩
  unfold EFm
  rw [e 7 q (by decide) (by decide), e 8 q (by decide) (by decide), e 9 q (by decide) (by decide), e 10 q (by decide) (by decide), e 21 q (by decide) (by decide), e 22 q (by decide) (by decide)]
  have h1 := a.2.2 q hq
  have h2 := d q hq
  have h3 := a.1
  refine ⟨by omega, by omega, by omega, by omega, by omega, by omega, hs.2 q hq⟩
set_option maxRecDepth 100000 in
set_option maxHeartbeats 4000000 in
theorem lp_X4_att5 {p : Program} {l : Launch} {ev : Env} {R : Room} {s : State} {m : MethodId} {args : Array Value} {below : List Frame} {meth : Method} {c : Code} {cells slots : Nat} {Q : State → Prop} {D : va_G} {cy : Nat → ClassId} {bd : Nat → Nat} {A : Nat → Prop} (hx : p.tables.exec = Jvm.exec) (hb : c.code = cX4_attempt) (hml : c.maxLocals = 6) (hU : ∀ w ∈ UW, w.before args s = true) (hown : s.vm.findClass RX4 = some m.cls) (hR : 1 ≤ R.frames ∧ 32 * 1 ≤ R.locals) (hcs : cells ≤ R.cells ∧ slots ≤ R.slots) {F : Nat} :
    ∀ (k i : Nat) (τ : MS) (H : Heap) (locs : List Loc) (ls : Array Slot), (i + k = F ∧ F ≤ 200) → LayM i τ → XM D cy bd s A H locs τ → lv_has ls 6 [(0, .ref (bd 0)), (1, .int (nI F)), (2, .int (nI i)), (3, .int (nI i))] → ((M_lay k i τ).1 = true → ∀ (H : Heap) (locs : List Loc) (ls : Array Slot), XM D cy bd s A H locs (M_lay k i τ).2 → lv_has ls 6 [(0, .ref (bd 0)), (2, .int (nI F))] → W p l ev R s m args below meth c H locs cells slots Q (F0 m 257 ls [])) → ((M_lay k i τ).1 = false → ∀ (H : Heap) (locs : List Loc) (ls : Array Slot), XM D cy bd s A H locs (M_lay k i τ).2 → lv_has ls 6 [(0, .ref (bd 0))] → W p l ev R s m args below meth c H locs cells slots Q (F0 m 120 ls [])) → W p l ev R s m args below meth c H locs cells slots Q (F0 m 79 ls []) := by
  intro k
  induction k with
  | zero =>
    intro i τ H locs ls hc hI h hl K1 K2
    refine lv_iload_n hx hb dX4_attempt_79 rfl (lv_at hl 3 rfl) ?_
    refine lv_iload_n hx hb dX4_attempt_80 rfl (lv_at hl 1 rfl) ?_
    refine n_icmp_ge (tgt := 257) hx hb (by omega) (by omega) dX4_attempt_81 (by decide) (fun c_81 => ?_) (fun c_81 => absurd c_81 (by omega))
    have e9 : i = F := by omega
    subst e9
    exact K1 rfl _ _ _ h (lv_sub hl [0, 2] rfl)
  | succ k ih =>
    intro i τ H locs ls hc hI h hl K1 K2
    refine lv_iload_n hx hb dX4_attempt_79 rfl (lv_at hl 3 rfl) ?_
    refine lv_iload_n hx hb dX4_attempt_80 rfl (lv_at hl 1 rfl) ?_
    refine n_icmp_ge (tgt := 257) hx hb (by omega) (by omega) dX4_attempt_81 (by decide) (fun c_81 => absurd c_81 (by omega)) (fun c_81 => ?_)
    refine lv_iconst (v := nI 0) hx hb dX4_attempt_84 (by decide +kernel) ?_
    refine lv_istore (lv' := [(4, .int (nI 0)), (0, .ref (bd 0)), (1, .int (nI F)), (2, .int (nI i)), (3, .int (nI i))]) hx hb dX4_attempt_85 hl (by decide) rfl (fun ls hl => ?_)
    refine lp_X4_att3 hx hb hml hU hown hR hcs (hI.B (by omega)) (τ.1 0 0) 0 _ _ _ (Nat.zero_add _) h (lv_sub hl [1, 2, 3, 4, 0] rfl) (fun H locs ls h hl => ?_)
    have hle : M_next τ ≤ 0 + τ.1 0 0 := findB_le _ _
    have h8 := hI.1
    have h8a := hI.1.1
    rw [show findB (fun n => M_may τ n) (τ.1 0 0) 0 = M_next τ from rfl] at hl
    refine lv_iload hx hb dX4_attempt_111 (lv_at hl 4 rfl) ?_
    refine lv_aload_n hx hb dX4_attempt_113 rfl (lv_at hl 0 rfl) ?_
    refine m_g hx hb hU hown h 0 (by decide) ufX4_75 (v := .int (nI (τ.1 0 0))) rfl dX4_attempt_114 ?_
    refine n_icmp_ne (tgt := 122) hx hb (by omega) (by omega) dX4_attempt_117 (by decide) (fun c_117 => ?_) (fun c_117 => ?_)
    · have hn : M_next τ < τ.1 0 0 := by omega
      have hi : i ≤ 200 := by omega
      refine lv_aload_n hx hb dX4_attempt_122 rfl (lv_at hl 0 rfl) ?_
      refine m_g hx hb hU hown h 20 (by decide) ufX4_59 (v := .ref (bd 17)) rfl dX4_attempt_123 ?_
      refine lv_iload hx hb dX4_attempt_126 (lv_at hl 4 rfl) ?_
      refine lv_dup2_11 hx hb dX4_attempt_128 rfl rfl ?_
      refine m_iN hx hb h 20 8 ⟨rfl, by unfold mA; omega⟩ rfl (by omega) (v := τ.1 20 (M_next τ)) rfl dX4_attempt_129 ?_
      refine lv_iconst (v := nI 1) hx hb dX4_attempt_130 (by decide +kernel) ?_
      refine n_iadd hx hb dX4_attempt_131 ?_
      refine m_sN hx hb h 20 8 ⟨rfl, by unfold mA; omega⟩ rfl (by omega) dX4_attempt_132 (fun H locs h => ?_)
      refine lv_aload_n hx hb dX4_attempt_133 rfl (lv_at hl 0 rfl) ?_
      refine m_g hx hb hU hown h 23 (by decide) ufX4_68 (v := .ref (bd 20)) (by first | rfl | (simp [mO, mN, mI, up2]; done)) dX4_attempt_134 ?_
      refine lv_iload_n hx hb dX4_attempt_137 rfl (lv_at hl 3 rfl) ?_
      refine lv_iload hx hb dX4_attempt_138 (lv_at hl 4 rfl) ?_
      refine m_sN hx hb h 23 200 ⟨rfl, by unfold mA; omega⟩ rfl (by omega) dX4_attempt_140 (fun H locs h => ?_)
      refine lv_iinc (v := nI (i + 1)) (lv' := [(2, .int (nI (i + 1))), (0, .ref (bd 0)), (1, .int (nI F)), (3, .int (nI i)), (4, .int (nI (M_next τ)))]) hx hb dX4_attempt_141 hl (k := 2) rfl (by rw [← nI_add]; rfl) (by decide) rfl (fun ls hl => ?_)
      refine lv_iconst (v := nI 0) hx hb dX4_attempt_144 (by decide +kernel) ?_
      refine lv_istore (lv' := [(5, .int (nI 0)), (2, .int (nI (i + 1))), (0, .ref (bd 0)), (1, .int (nI F)), (3, .int (nI i)), (4, .int (nI (M_next τ)))]) hx hb dX4_attempt_145 hl (by decide) rfl (fun ls hl => ?_)
      refine lp_X4_att4 (n := M_next τ) hx hb hml hU hown hR hcs (by omega) (τ.1 1 0) 0 (mN (mN τ 20 (M_next τ) ((τ.1 20 (M_next τ)) + 1)) 23 i (M_next τ)) _ _ _ (M_stepC hI hi hn) h (lv_sub hl [2, 3, 1, 4, 5, 0] rfl) (fun H locs ls h hl => ?_)
      have h : XM D cy bd s A H locs (M_step τ i) := h
      refine lv_iinc (v := nI (i + 1)) (lv' := [(3, .int (nI (i + 1))), (0, .ref (bd 0)), (1, .int (nI F)), (2, .int (nI (i + 1)))]) hx hb dX4_attempt_251 hl (k := 3) rfl (by rw [← nI_add]; rfl) (by decide) rfl (fun ls hl => ?_)
      refine lv_goto (tgt := 79) hx hb dX4_attempt_254 (by decide) ?_
      rw [show M_lay (k + 1) i τ = M_lay k (i + 1) (M_step τ i) from if_pos hn] at K1 K2
      exact ih (i + 1) (M_step τ i) _ _ _ ⟨by omega, hc.2⟩ (LayM_next hI hn) h (lv_sub hl [1, 2, 3, 0] rfl) K1 K2
    · rw [show M_lay (k + 1) i τ = (false, τ) from if_neg (by omega)] at K2
      exact K2 rfl _ _ _ h (lv_sub hl [0] rfl)
set_option maxRecDepth 100000 in
set_option maxHeartbeats 4000000 in
theorem c_X4_attempt (l : Launch) (D : va_G) (cy : Nat → ClassId) (bd : Nat → Nat) (μ : MS) (sz : Nat) (hF : sF (μ.1 19) (μ.1 0 0) 0 0 ≤ 200) (hn : MNet μ) (hr9 : ∀ n, n < μ.1 0 0 → μ.1 19 n < 2 ^ 50) : MMi l D cy bd yX4_attempt cX4_attempt 6 .int (rmd 1) [.ref (bd 0)] μ sz (fun r u => r = (if (M_att μ).1 = true then nI (sF (μ.1 19) (μ.1 0 0) 0 0) else (-1)) ∧ u = (M_att μ).2) := by
  refine Met.ofW (cc := cX4_attempt) (maxL := 6) (ret := (some .int)) (by decide) rfl ?_
  intro p ev s m args below meth c s₁ B hml hv
  obtain ⟨rfl, hw⟩ := hv
  have hx := B.exec
  have hb := B.bytes
  have hr := B.returns
  have hlk := B.notSynchronized
  have hU : ∀ w ∈ UW, w.before _ s = true := fun w hw => atoms_spec (ws := Cond.code yX4_attempt cX4_attempt 6 (some .int) :: UW) B.pre w (List.mem_cons_of_mem _ hw)
  have hown : s.vm.findClass RX4 = some m.cls := findClass_of_methodNamed B.named
  have hR : 1 ≤ (headSpec (Cond.code yX4_attempt cX4_attempt 6 (some .int) :: UW) (rmd 1)).room.frames ∧ 32 * 1 ≤ (headSpec (Cond.code yX4_attempt cX4_attempt 6 (some .int) :: UW) (rmd 1)).room.locals := ⟨Nat.le_refl _, Nat.le_refl _⟩
  have hcs : 0 ≤ (headSpec (Cond.code yX4_attempt cX4_attempt 6 (some .int) :: UW) (rmd 1)).room.cells ∧ 0 ≤ (headSpec (Cond.code yX4_attempt cX4_attempt 6 (some .int) :: UW) (rmd 1)).room.slots := ⟨Nat.zero_le _, Nat.zero_le _⟩
  have h := WX.start hw
  clear hw
  generalize va_A (wv _ _ _) _ = A at h ⊢
  have hl := lv_entry ([.ref (bd 0)]) (n := 6) (Nat.le_of_ble_eq_true rfl)
  rw [lg_entry_eq]
  generalize (lg_sl ([.ref (bd 0)]) ++ List.replicate (6 - (lg_sl ([.ref (bd 0)])).length) Slot.unset).toArray = ls at hl ⊢
  have hl : lv_has ls 6 [(0, .ref (bd 0))] := hl
  refine lv_iconst (v := nI 0) hx hb dX4_attempt_0 (by decide +kernel) ?_
  refine lv_istore_n (lv' := [(1, .int (nI 0)), (0, .ref (bd 0))]) hx hb dX4_attempt_1 rfl hl (by decide) rfl (fun ls hl => ?_)
  refine lv_iconst (v := nI 0) hx hb dX4_attempt_2 (by decide +kernel) ?_
  refine lv_istore_n (lv' := [(2, .int (nI 0)), (1, .int (nI 0)), (0, .ref (bd 0))]) hx hb dX4_attempt_3 rfl hl (by decide) rfl (fun ls hl => ?_)
  refine lv_iconst (v := nI 0) hx hb dX4_attempt_4 (by decide +kernel) ?_
  refine lv_istore_n (lv' := [(3, .int (nI 0)), (2, .int (nI 0)), (1, .int (nI 0)), (0, .ref (bd 0))]) hx hb dX4_attempt_5 rfl hl (by decide) rfl (fun ls hl => ?_)
  refine lp_X4_att1 hx hb hml hU hown hR hcs (μ.1 0 0) 0 0 μ _ _ _ ⟨Nat.zero_add _, hn.1⟩ h (lv_sub hl [3, 2, 1, 0] rfl) (fun H locs ls h hl => ?_)
  refine lv_iconst (v := nI 0) hx hb dX4_attempt_37 (by decide +kernel) ?_
  refine lv_istore_n (lv' := [(3, .int (nI 0)), (0, .ref (bd 0)), (1, .int (nI (sF (μ.1 19) (μ.1 0 0) 0 0))), (2, .int (nI 0))]) hx hb dX4_attempt_38 rfl hl (by decide) rfl (fun ls hl => ?_)
  refine lp_X4_att2 hx hb hml hU hown hR hcs  (μ.1 1 0) 0 (itr M_lay_f (μ.1 0 0) 0 μ) _ _ _ ⟨by rw [itr_mlay_f_N, if_neg (by omega)]; omega, by rw [itr_mlay_f_N, if_neg (by omega)]; exact hn.2.1⟩ h (lv_sub hl [1, 2, 3, 0] rfl) (fun H locs ls h hl => ?_)
  refine lv_iconst (v := nI 0) hx hb dX4_attempt_77 (by decide +kernel) ?_
  refine lv_istore_n (lv' := [(3, .int (nI 0)), (0, .ref (bd 0)), (1, .int (nI (sF (μ.1 19) (μ.1 0 0) 0 0))), (2, .int (nI 0))]) hx hb dX4_attempt_78 rfl hl (by decide) rfl (fun ls hl => ?_)
  have h : XM D cy bd s A H locs (M_lay0 μ) := h
  refine lp_X4_att5 (F := sF (μ.1 19) (μ.1 0 0) 0 0) hx hb hml hU hown hR hcs (sF (μ.1 19) (μ.1 0 0) 0 0) 0 (M_lay0 μ) _ _ _ ⟨Nat.zero_add _, hF⟩ (LayM_start hn hr9) h (lv_sub hl [1, 2, 3, 0] rfl) (fun hq H locs ls h hl => ?_) (fun hq H locs ls h hl => ?_)
  · refine lv_iload_n hx hb dX4_attempt_257 rfl (lv_at hl 1 rfl) ?_
    exact W.iret (v := nI (sF (μ.1 19) (μ.1 0 0) 0 0)) hx hb hr (fun t ht hW => ⟨⟨_, _, rfl, ⟨(by rw [show (M_att μ).1 = _ from hq]; rfl), rfl⟩, h.at ht hW⟩, h.2.2.2.2.F ht⟩) h.2.2.2.2.2.2 dX4_attempt_258
  · refine lv_iconst (v := (-1)) hx hb dX4_attempt_120 (by decide +kernel) ?_
    exact W.iret (v := (-1)) hx hb hr (fun t ht hW => ⟨⟨_, _, rfl, ⟨(by rw [show (M_att μ).1 = _ from hq]; rfl), rfl⟩, h.at ht hW⟩, h.2.2.2.2.F ht⟩) h.2.2.2.2.2.2 dX4_attempt_121
