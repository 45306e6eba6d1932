/-! ===== the reference: a firing ===== -/
abbrev MA : Type := Int32 × Int32 × Int32 × Nat
def M_tk (v : Int32) (c : MA) : MA := (c.1 + v, nI 31 * c.2.1 + v, if c.2.2.2 = 0 ∨ c.2.2.1 < v then v else c.2.2.1, 1)
def M_tks (τ : MS) (e : Nat) : Nat → MA → MA := fun k c => M_tk (τ.2 12 (M_at τ e k)) c
theorem M_tk_a {v : Int32} {c : MA} (h : c.2.2.2 = 0) : M_tk v c = (c.1 + v, nI 31 * c.2.1 + v, v, 1) := by
  unfold M_tk; rw [if_pos (Or.inl h)]
theorem M_tk_b {v : Int32} {c : MA} (h : ¬ v ≤ c.2.2.1) : M_tk v c = (c.1 + v, nI 31 * c.2.1 + v, v, 1) := by
  unfold M_tk; rw [if_pos (Or.inr (Int32.not_le.mp h))]
theorem M_tk_c {v : Int32} {c : MA} (h0 : 0 < c.2.2.2) (h : v ≤ c.2.2.1) : M_tk v c = (c.1 + v, nI 31 * c.2.1 + v, c.2.2.1, 1) := by
  unfold M_tk; rw [if_neg]
  intro q
  rcases q with q | q
  · omega
  · exact Int32.not_le.mpr q h
def M_fh (n : Nat) : Nat → (MS × MA) → (MS × MA) := fun e x =>
  if x.1.1 8 e = n then (mN (mN x.1 13 e ((x.1.1 13 e + x.1.1 10 e) % 910)) 14 e (x.1.1 14 e - x.1.1 10 e), itr (M_tks x.1 e) (x.1.1 10 e) 0 x.2) else x
def M_frk (e : Nat) (v : Int32) : Nat → MS → MS := fun k ν => mI ν 12 (M_at ν e (ν.1 14 e + k)) (v + nI k)
def M_fr2 (ν : MS) (e : Nat) : MS := mN ν 14 e (ν.1 14 e + ν.1 9 e)
def M_fr (n : Nat) (v : Int32) : Nat → MS → MS := fun e ν => if ν.1 7 e = n then M_fr2 (itr (M_frk e v) (ν.1 9 e) 0 ν) e else ν
def M_val (μ : MS) (n : Nat) (c : MA) : Int32 × MS :=
  if μ.2 3 n = 0 then (μ.2 5 n, mI μ 5 n (μ.2 5 n + nI 1)) else
  if μ.2 3 n = 1 then (c.1 + μ.2 4 n, μ) else
  if μ.2 3 n = 2 then (c.1 * μ.2 4 n, μ) else
  if μ.2 3 n = 3 then (μ.2 5 n + c.1, mI μ 5 n (μ.2 5 n + c.1)) else
  if μ.2 3 n = 4 then (c.2.2.1, μ) else (c.2.1 + μ.2 4 n, μ)
theorem M_val_0 {μ : MS} {n : Nat} {c : MA} (h : μ.2 3 n = 0) : M_val μ n c = (μ.2 5 n, mI μ 5 n (μ.2 5 n + nI 1)) := if_pos h
theorem M_val_1 {μ : MS} {n : Nat} {c : MA} (h : μ.2 3 n = 1) : M_val μ n c = (c.1 + μ.2 4 n, μ) := by
  unfold M_val; rw [h, if_neg (by decide), if_pos rfl]
theorem M_val_2 {μ : MS} {n : Nat} {c : MA} (h : μ.2 3 n = 2) : M_val μ n c = (c.1 * μ.2 4 n, μ) := by
  unfold M_val; rw [h, if_neg (by decide), if_neg (by decide), if_pos rfl]
theorem M_val_3 {μ : MS} {n : Nat} {c : MA} (h : μ.2 3 n = 3) : M_val μ n c = (μ.2 5 n + c.1, mI μ 5 n (μ.2 5 n + c.1)) := by
  unfold M_val; rw [h, if_neg (by decide), if_neg (by decide), if_neg (by decide), if_pos rfl]
theorem M_val_4 {μ : MS} {n : Nat} {c : MA} (h : μ.2 3 n = 4) : M_val μ n c = (c.2.2.1, μ) := by
  unfold M_val; rw [h, if_neg (by decide), if_neg (by decide), if_neg (by decide), if_neg (by decide), if_pos rfl]
theorem M_val_5 {μ : MS} {n : Nat} {c : MA} (hk : ¬ (μ.2 3 n = 0 ∨ μ.2 3 n = 1 ∨ μ.2 3 n = 2 ∨ μ.2 3 n = 3 ∨ μ.2 3 n = 4)) : M_val μ n c = (c.2.1 + μ.2 4 n, μ) := by
  unfold M_val
  rw [if_neg (fun q => hk (Or.inl q)), if_neg (fun q => hk (Or.inr (Or.inl q))), if_neg (fun q => hk (Or.inr (Or.inr (Or.inl q)))), if_neg (fun q => hk (Or.inr (Or.inr (Or.inr (Or.inl q))))), if_neg (fun q => hk (Or.inr (Or.inr (Or.inr (Or.inr q)))))]
def M_fire2 (n E : Nat) (y : Int32 × MS) : MS := itr (M_fr n y.1) E 0 (mI y.2 6 n y.1)
def M_fire1 (n : Nat) (x : MS × MA) : MS := M_fire2 n (x.1.1 1 0) (M_val x.1 n x.2)
def M_fire (μ : MS) (n : Nat) : MS := M_fire1 n (itr (M_fh n) (μ.1 1 0) 0 (μ, (nI 0, nI 0, μ.2 4 n, 0)))
/-- what a firing asks of edge q -/
def QR (τ : MS) (q : Nat) : Prop := τ.1 7 q < 8 ∧ τ.1 8 q < 8 ∧ τ.1 9 q ≤ 9 ∧ τ.1 10 q ≤ 9 ∧ τ.1 13 q < 910 ∧ τ.1 14 q < 2 ^ 19
def FI (n i : Nat) (τ : MS) : Prop := τ.1 1 0 ≤ 12 ∧ ∀ q, q < τ.1 1 0 → QR τ q ∧ (i ≤ q → τ.1 8 q = n → τ.1 10 q ≤ τ.1 14 q)
def FJ (i : Nat) (τ : MS) : Prop := τ.1 1 0 ≤ 12 ∧ ∀ q, i ≤ q → q < τ.1 1 0 → QR τ q
theorem M_fh_N (n e : Nat) (x : MS × MA) (f j : Nat) : (M_fh n e x).1.1 f j = if x.1.1 8 e = n ∧ f = 13 ∧ j = e then (x.1.1 13 e + x.1.1 10 e) % 910 else if x.1.1 8 e = n ∧ f = 14 ∧ j = e then x.1.1 14 e - x.1.1 10 e else x.1.1 f j := by
  unfold M_fh
  by_cases h : x.1.1 8 e = n
  · rw [if_pos h]
    show up2 (up2 x.1.1 13 e _) 14 e _ f j = _
    unfold up2
    by_cases h1 : f = 14 ∧ j = e
    · rw [if_pos h1, if_neg (by omega), if_pos (by omega)]
    · rw [if_neg h1]
      by_cases h2 : f = 13 ∧ j = e
      · rw [if_pos h2, if_pos (by omega)]
      · rw [if_neg h2, if_neg (by omega), if_neg (by omega)]
  · rw [if_neg h, if_neg (by omega), if_neg (by omega)]
theorem M_fh_I (n e : Nat) (x : MS × MA) : (M_fh n e x).1.2 = x.1.2 := by
  unfold M_fh
  split <;> rfl
theorem FI_s {n i : Nat} {x : MS × MA} (hi : i < x.1.1 1 0) (h : FI n i x.1) : FI n (i + 1) (M_fh n i x).1 := by
  have e : ∀ f j, f ≠ 13 → f ≠ 14 → (M_fh n i x).1.1 f j = x.1.1 f j := fun f j h1 h2 => by rw [M_fh_N, if_neg (by omega), if_neg (by omega)]
  obtain ⟨a, b⟩ := h
  unfold FI
  rw [e 1 0 (by decide) (by decide)]
  refine ⟨a, fun q hq => ?_⟩
  obtain ⟨⟨c1, c2, c3, c4, c5, c6⟩, d⟩ := b q hq
  unfold QR
  rw [e 7 q (by decide) (by decide), e 8 q (by decide) (by decide), e 9 q (by decide) (by decide), e 10 q (by decide) (by decide), M_fh_N, M_fh_N]
  by_cases hqi : x.1.1 8 i = n ∧ q = i
  · obtain ⟨h1, rfl⟩ := hqi
    rw [if_pos ⟨h1, rfl, rfl⟩, if_neg (by omega), if_pos ⟨h1, rfl, rfl⟩]
    exact ⟨⟨c1, c2, c3, c4, Nat.mod_lt _ (by decide), by omega⟩, fun h2 _ => absurd h2 (by omega)⟩
  · rw [if_neg (by omega), if_neg (by omega), if_neg (by omega), if_neg (by omega)]
    exact ⟨⟨c1, c2, c3, c4, c5, c6⟩, fun h2 h3 => d (by omega) h3⟩
theorem itr_frk_N (e : Nat) (v : Int32) : ∀ (k i : Nat) (ν : MS), (itr (M_frk e v) k i ν).1 = ν.1 := by
  intro k
  induction k with
  | zero => intro i ν; rfl
  | succ k ih => intro i ν; exact (ih (i + 1) _).trans rfl
theorem M_fr_N (n : Nat) (v : Int32) (e : Nat) (ν : MS) (f j : Nat) : (M_fr n v e ν).1 f j = if ν.1 7 e = n ∧ f = 14 ∧ j = e then ν.1 14 e + ν.1 9 e else ν.1 f j := by
  unfold M_fr
  by_cases h : ν.1 7 e = n
  · rw [if_pos h]
    show up2 (itr (M_frk e v) (ν.1 9 e) 0 ν).1 14 e _ f j = _
    rw [itr_frk_N]
    unfold up2
    by_cases h1 : f = 14 ∧ j = e
    · rw [if_pos h1, if_pos (by omega)]
    · rw [if_neg h1, if_neg (by omega)]
  · rw [if_neg h, if_neg (by omega)]
theorem FJ_s {n i : Nat} {v : Int32} {τ : MS} (h : FJ i τ) : FJ (i + 1) (M_fr n v i τ) := by
  have e : ∀ f j, f ≠ 14 → (M_fr n v i τ).1 f j = τ.1 f j := fun f j h1 => by rw [M_fr_N, if_neg (by omega)]
  obtain ⟨a, b⟩ := h
  unfold FJ
  rw [e 1 0 (by decide)]
  refine ⟨a, fun q h1 hq => ?_⟩
  unfold QR
  rw [e 7 q (by decide), e 8 q (by decide), e 9 q (by decide), e 10 q (by decide), e 13 q (by decide), M_fr_N, if_neg (by omega)]
  exact b q (by omega) hq
theorem FI_i {n : Nat} : ∀ (k i : Nat) (x : MS × MA), i + k = x.1.1 1 0 → FI n i x.1 → FI n (i + k) (itr (M_fh n) k i x).1 ∧ (itr (M_fh n) k i x).1.1 1 0 = x.1.1 1 0 := by
  intro k
  induction k with
  | zero => intro i x _ h; exact ⟨h, rfl⟩
  | succ k ih =>
    intro i x hk h
    have e : (M_fh n i x).1.1 1 0 = x.1.1 1 0 := by rw [M_fh_N, if_neg (by omega), if_neg (by omega)]
    have := ih (i + 1) (M_fh n i x) (by rw [e]; omega) (FI_s (by omega) h)
    rw [show i + 1 + k = i + (k + 1) by omega, e] at this
    exact this
theorem M_val_N (μ : MS) (n : Nat) (c : MA) : (M_val μ n c).2.1 = μ.1 := by
  unfold M_val
  repeat' split
  all_goals rfl
set_option maxRecDepth 100000 in
set_option maxHeartbeats 4000000 in
theorem lp_X4_fire1 {p : Program} {l : Launch} {ev : Env} {R : Room} {s : State} {m : MethodId} {args : Array Value} {below : List Frame} {meth : Method} {c : Code} {cells slots : Nat} {Q : State → Prop} {D : va_G} {cy : Nat → ClassId} {bd : Nat → Nat} {A : Nat → Prop} (hx : p.tables.exec = Jvm.exec) (hb : c.code = cX4_fire) (hml : c.maxLocals = 9) (hU : ∀ w ∈ UW, w.before args s = true) (hown : s.vm.findClass RX4 = some m.cls) (hR : 1 ≤ R.frames ∧ 32 * 1 ≤ R.locals) (hcs : cells ≤ R.cells ∧ slots ≤ R.slots) {n e : Nat} {τ : MS} (he : e < 12) (hq : QR τ e) :
    ∀ (k i : Nat) (c9 : MA) (H : Heap) (locs : List Loc) (ls : Array Slot), i + k = τ.1 10 e → c9.2.2.2 < 2 → XM D cy bd s A H locs τ → lv_has ls 9 [(0, .ref (bd 0)), (1, .int (nI n)), (2, .int c9.1), (3, .int c9.2.1), (4, .int c9.2.2.1), (5, .int (nI c9.2.2.2)), (6, .int (nI e)), (7, .int (nI i))] → (∀ (H : Heap) (locs : List Loc) (ls : Array Slot), XM D cy bd s A H locs τ → lv_has ls 9 [(0, .ref (bd 0)), (1, .int (nI n)), (2, .int ((itr (M_tks τ e) k i c9).1)), (3, .int ((itr (M_tks τ e) k i c9).2.1)), (4, .int ((itr (M_tks τ e) k i c9).2.2.1)), (5, .int (nI ((itr (M_tks τ e) k i c9).2.2.2))), (6, .int (nI e))] → W p l ev R s m args below meth c H locs cells slots Q (F0 m 109 ls [])) → W p l ev R s m args below meth c H locs cells slots Q (F0 m 44 ls []) := by
  intro k
  induction k with
  | zero =>
    intro i c9 H locs ls hc h2 h hl K
    obtain ⟨q7, q8, q9, q10, q13, q14⟩ := hq
    refine lv_iload hx hb dX4_fire_44 (lv_at hl 7 rfl) ?_
    refine lv_aload_n hx hb dX4_fire_46 rfl (lv_at hl 0 rfl) ?_
    refine m_g hx hb hU hown h 10 (by decide) ufX4_31 (v := .ref (bd 8)) rfl dX4_fire_47 ?_
    refine lv_iload hx hb dX4_fire_50 (lv_at hl 6 rfl) ?_
    refine m_iN hx hb h 10 12 ⟨rfl, by unfold mA; omega⟩ rfl (by omega) (v := τ.1 10 e) rfl dX4_fire_52 ?_
    refine n_icmp_ge (tgt := 109) hx hb (by omega) (by omega) dX4_fire_53 (by decide) (fun c_53 => ?_) (fun c_53 => absurd c_53 (by omega))
    exact K _ _ _ h (lv_sub hl [0, 1, 2, 3, 4, 5, 6] rfl)
  | succ k ih =>
    intro i c9 H locs ls hc h2 h hl K
    obtain ⟨q7, q8, q9, q10, q13, q14⟩ := hq
    refine lv_iload hx hb dX4_fire_44 (lv_at hl 7 rfl) ?_
    refine lv_aload_n hx hb dX4_fire_46 rfl (lv_at hl 0 rfl) ?_
    refine m_g hx hb hU hown h 10 (by decide) ufX4_31 (v := .ref (bd 8)) rfl dX4_fire_47 ?_
    refine lv_iload hx hb dX4_fire_50 (lv_at hl 6 rfl) ?_
    refine m_iN hx hb h 10 12 ⟨rfl, by unfold mA; omega⟩ rfl (by omega) (v := τ.1 10 e) rfl dX4_fire_52 ?_
    refine n_icmp_ge (tgt := 109) hx hb (by omega) (by omega) dX4_fire_53 (by decide) (fun c_53 => absurd c_53 (by omega)) (fun c_53 => ?_)
    refine lv_aload_n hx hb dX4_fire_56 rfl (lv_at hl 0 rfl) ?_
    refine m_g hx hb hU hown h 12 (by decide) ufX4_37 (v := .ref (bd 10)) rfl dX4_fire_57 ?_
    refine lv_aload_n hx hb dX4_fire_60 rfl (lv_at hl 0 rfl) ?_
    refine lv_iload hx hb dX4_fire_61 (lv_at hl 6 rfl) ?_
    refine lv_iload hx hb dX4_fire_63 (lv_at hl 7 rfl) ?_
    refine y_calli hx hb hml hU hown hR hcs h (c_X4_at l D cy bd τ _ (e := e) (k := i) he (by omega) (by omega)) umX4_127 ui_X4_at us_X4_at unX4 uc_X4_at hd_X4_at (by decide) (by decide) (m_recv h) hl.1 rfl (Nat.le_of_ble_eq_true rfl) dX4_fire_65 (fun r u H locs hw h => ?_)
    obtain ⟨rfl, hu⟩ := hw
    have h : XM D cy bd s A H locs τ := by rw [← hu]; exact h
    clear hu
    refine m_iI hx hb h 12 10920 rfl rfl (M_at_lt _ _ he) (v := τ.2 12 (M_at τ e i)) rfl dX4_fire_68 ?_
    refine lv_istore (lv' := [(8, .int (τ.2 12 (M_at τ e i))), (0, .ref (bd 0)), (1, .int (nI n)), (2, .int c9.1), (3, .int c9.2.1), (4, .int c9.2.2.1), (5, .int (nI c9.2.2.2)), (6, .int (nI e)), (7, .int (nI i))]) hx hb dX4_fire_69 hl (by decide) rfl (fun ls hl => ?_)
    refine lv_iload_n hx hb dX4_fire_71 rfl (lv_at hl 3 rfl) ?_
    refine lv_iload hx hb dX4_fire_72 (lv_at hl 0 rfl) ?_
    refine lv_iadd hx hb dX4_fire_74 ?_
    refine lv_istore_n (lv' := [(2, .int ((c9.1 + (τ.2 12 (M_at τ e i))))), (8, .int (τ.2 12 (M_at τ e i))), (0, .ref (bd 0)), (1, .int (nI n)), (3, .int c9.2.1), (4, .int c9.2.2.1), (5, .int (nI c9.2.2.2)), (6, .int (nI e)), (7, .int (nI i))]) hx hb dX4_fire_75 rfl hl (by decide) rfl (fun ls hl => ?_)
    refine lv_bipush (v := nI 31) hx hb dX4_fire_76 (by decide +kernel) ?_
    refine lv_iload_n hx hb dX4_fire_78 rfl (lv_at hl 4 rfl) ?_
    refine lv_imul hx hb dX4_fire_79 ?_
    refine lv_iload hx hb dX4_fire_80 (lv_at hl 1 rfl) ?_
    refine lv_iadd hx hb dX4_fire_82 ?_
    refine lv_istore_n (lv' := [(3, .int (((((nI 31) * c9.2.1)) + (τ.2 12 (M_at τ e i))))), (2, .int ((c9.1 + (τ.2 12 (M_at τ e i))))), (8, .int (τ.2 12 (M_at τ e i))), (0, .ref (bd 0)), (1, .int (nI n)), (4, .int c9.2.2.1), (5, .int (nI c9.2.2.2)), (6, .int (nI e)), (7, .int (nI i))]) hx hb dX4_fire_83 rfl hl (by decide) rfl (fun ls hl => ?_)
    refine lv_iload hx hb dX4_fire_84 (lv_at hl 6 rfl) ?_
    refine n_if_eq (tgt := 96) hx hb (by omega) dX4_fire_86 (by decide) (fun c_86 => ?_) (fun c_86 => ?_)
    · refine lv_iload hx hb dX4_fire_96 (lv_at hl 2 rfl) ?_
      refine lv_istore (lv' := [(4, .int (τ.2 12 (M_at τ e i))), (3, .int (((((nI 31) * c9.2.1)) + (τ.2 12 (M_at τ e i))))), (2, .int ((c9.1 + (τ.2 12 (M_at τ e i))))), (8, .int (τ.2 12 (M_at τ e i))), (0, .ref (bd 0)), (1, .int (nI n)), (5, .int (nI c9.2.2.2)), (6, .int (nI e)), (7, .int (nI i))]) hx hb dX4_fire_98 hl (by decide) rfl (fun ls hl => ?_)
      refine lv_iconst (v := nI 1) hx hb dX4_fire_100 (by decide +kernel) ?_
      refine lv_istore (lv' := [(5, .int (nI 1)), (4, .int (τ.2 12 (M_at τ e i))), (3, .int (((((nI 31) * c9.2.1)) + (τ.2 12 (M_at τ e i))))), (2, .int ((c9.1 + (τ.2 12 (M_at τ e i))))), (8, .int (τ.2 12 (M_at τ e i))), (0, .ref (bd 0)), (1, .int (nI n)), (6, .int (nI e)), (7, .int (nI i))]) hx hb dX4_fire_101 hl (by decide) rfl (fun ls hl => ?_)
      refine lv_iinc (v := nI (i + 1)) (lv' := [(7, .int (nI (i + 1))), (5, .int (nI 1)), (4, .int (τ.2 12 (M_at τ e i))), (3, .int (((((nI 31) * c9.2.1)) + (τ.2 12 (M_at τ e i))))), (2, .int ((c9.1 + (τ.2 12 (M_at τ e i))))), (8, .int (τ.2 12 (M_at τ e i))), (0, .ref (bd 0)), (1, .int (nI n)), (6, .int (nI e))]) hx hb dX4_fire_103 hl (k := 8) rfl (by rw [← nI_add]; rfl) (by decide) rfl (fun ls hl => ?_)
      refine lv_goto (tgt := 44) hx hb dX4_fire_106 (by decide) ?_
      have ex : M_tk (τ.2 12 (M_at τ e i)) c9 = ((c9.1 + (τ.2 12 (M_at τ e i))), ((((nI 31) * c9.2.1)) + (τ.2 12 (M_at τ e i))), τ.2 12 (M_at τ e i), 1) := by first | exact M_tk_a c_86 | exact M_tk_b c_93 | exact M_tk_c c_86 c_93
      have hl : lv_has ls 9 [(0, .ref (bd 0)), (1, .int (nI n)), (2, .int ((M_tk (τ.2 12 (M_at τ e i)) c9).1)), (3, .int ((M_tk (τ.2 12 (M_at τ e i)) c9).2.1)), (4, .int ((M_tk (τ.2 12 (M_at τ e i)) c9).2.2.1)), (5, .int (nI ((M_tk (τ.2 12 (M_at τ e i)) c9).2.2.2))), (6, .int (nI e)), (7, .int (nI (i + 1)))] := by rw [ex]; exact lv_sub hl [6, 7, 4, 3, 2, 1, 8, 0] rfl
      exact ih (i + 1) (M_tk (τ.2 12 (M_at τ e i)) c9) _ _ _ (by omega) (by rw [ex]; show 1 < 2; omega) h hl K
    · refine lv_iload hx hb dX4_fire_89 (lv_at hl 2 rfl) ?_
      refine lv_iload hx hb dX4_fire_91 (lv_at hl 5 rfl) ?_
      refine lv_icmp_le (tgt := 100) hx hb dX4_fire_93 (by decide) (fun c_93 => ?_) (fun c_93 => ?_)
      · refine lv_iconst (v := nI 1) hx hb dX4_fire_100 (by decide +kernel) ?_
        refine lv_istore (lv' := [(5, .int (nI 1)), (3, .int (((((nI 31) * c9.2.1)) + (τ.2 12 (M_at τ e i))))), (2, .int ((c9.1 + (τ.2 12 (M_at τ e i))))), (8, .int (τ.2 12 (M_at τ e i))), (0, .ref (bd 0)), (1, .int (nI n)), (4, .int c9.2.2.1), (6, .int (nI e)), (7, .int (nI i))]) hx hb dX4_fire_101 hl (by decide) rfl (fun ls hl => ?_)
        refine lv_iinc (v := nI (i + 1)) (lv' := [(7, .int (nI (i + 1))), (5, .int (nI 1)), (3, .int (((((nI 31) * c9.2.1)) + (τ.2 12 (M_at τ e i))))), (2, .int ((c9.1 + (τ.2 12 (M_at τ e i))))), (8, .int (τ.2 12 (M_at τ e i))), (0, .ref (bd 0)), (1, .int (nI n)), (4, .int c9.2.2.1), (6, .int (nI e))]) hx hb dX4_fire_103 hl (k := 8) rfl (by rw [← nI_add]; rfl) (by decide) rfl (fun ls hl => ?_)
        refine lv_goto (tgt := 44) hx hb dX4_fire_106 (by decide) ?_
        have ex : M_tk (τ.2 12 (M_at τ e i)) c9 = ((c9.1 + (τ.2 12 (M_at τ e i))), ((((nI 31) * c9.2.1)) + (τ.2 12 (M_at τ e i))), c9.2.2.1, 1) := by first | exact M_tk_a c_86 | exact M_tk_b c_93 | exact M_tk_c c_86 c_93
        have hl : lv_has ls 9 [(0, .ref (bd 0)), (1, .int (nI n)), (2, .int ((M_tk (τ.2 12 (M_at τ e i)) c9).1)), (3, .int ((M_tk (τ.2 12 (M_at τ e i)) c9).2.1)), (4, .int ((M_tk (τ.2 12 (M_at τ e i)) c9).2.2.1)), (5, .int (nI ((M_tk (τ.2 12 (M_at τ e i)) c9).2.2.2))), (6, .int (nI e)), (7, .int (nI (i + 1)))] := by rw [ex]; exact lv_sub hl [5, 6, 3, 2, 7, 1, 8, 0] rfl
        exact ih (i + 1) (M_tk (τ.2 12 (M_at τ e i)) c9) _ _ _ (by omega) (by rw [ex]; show 1 < 2; omega) h hl K
      · refine lv_iload hx hb dX4_fire_96 (lv_at hl 2 rfl) ?_
        refine lv_istore (lv' := [(4, .int (τ.2 12 (M_at τ e i))), (3, .int (((((nI 31) * c9.2.1)) + (τ.2 12 (M_at τ e i))))), (2, .int ((c9.1 + (τ.2 12 (M_at τ e i))))), (8, .int (τ.2 12 (M_at τ e i))), (0, .ref (bd 0)), (1, .int (nI n)), (5, .int (nI c9.2.2.2)), (6, .int (nI e)), (7, .int (nI i))]) hx hb dX4_fire_98 hl (by decide) rfl (fun ls hl => ?_)
        refine lv_iconst (v := nI 1) hx hb dX4_fire_100 (by decide +kernel) ?_
        refine lv_istore (lv' := [(5, .int (nI 1)), (4, .int (τ.2 12 (M_at τ e i))), (3, .int (((((nI 31) * c9.2.1)) + (τ.2 12 (M_at τ e i))))), (2, .int ((c9.1 + (τ.2 12 (M_at τ e i))))), (8, .int (τ.2 12 (M_at τ e i))), (0, .ref (bd 0)), (1, .int (nI n)), (6, .int (nI e)), (7, .int (nI i))]) hx hb dX4_fire_101 hl (by decide) rfl (fun ls hl => ?_)
        refine lv_iinc (v := nI (i + 1)) (lv' := [(7, .int (nI (i + 1))), (5, .int (nI 1)), (4, .int (τ.2 12 (M_at τ e i))), (3, .int (((((nI 31) * c9.2.1)) + (τ.2 12 (M_at τ e i))))), (2, .int ((c9.1 + (τ.2 12 (M_at τ e i))))), (8, .int (τ.2 12 (M_at τ e i))), (0, .ref (bd 0)), (1, .int (nI n)), (6, .int (nI e))]) hx hb dX4_fire_103 hl (k := 8) rfl (by rw [← nI_add]; rfl) (by decide) rfl (fun ls hl => ?_)
        refine lv_goto (tgt := 44) hx hb dX4_fire_106 (by decide) ?_
        have ex : M_tk (τ.2 12 (M_at τ e i)) c9 = ((c9.1 + (τ.2 12 (M_at τ e i))), ((((nI 31) * c9.2.1)) + (τ.2 12 (M_at τ e i))), τ.2 12 (M_at τ e i), 1) := by first | exact M_tk_a c_86 | exact M_tk_b c_93 | exact M_tk_c c_86 c_93
        have hl : lv_has ls 9 [(0, .ref (bd 0)), (1, .int (nI n)), (2, .int ((M_tk (τ.2 12 (M_at τ e i)) c9).1)), (3, .int ((M_tk (τ.2 12 (M_at τ e i)) c9).2.1)), (4, .int ((M_tk (τ.2 12 (M_at τ e i)) c9).2.2.1)), (5, .int (nI ((M_tk (τ.2 12 (M_at τ e i)) c9).2.2.2))), (6, .int (nI e)), (7, .int (nI (i + 1)))] := by rw [ex]; exact lv_sub hl [6, 7, 4, 3, 2, 1, 8, 0] rfl
        exact ih (i + 1) (M_tk (τ.2 12 (M_at τ e i)) c9) _ _ _ (by omega) (by rw [ex]; show 1 < 2; omega) h hl K
theorem itr_tks_lt (τ : MS) (e : Nat) : ∀ (k i : Nat) (c9 : MA), c9.2.2.2 < 2 → (itr (M_tks τ e) k i c9).2.2.2 < 2 := by
  intro k
  induction k with
  | zero => intro i c9 h; exact h
  | succ k ih => intro i c9 h; exact ih (i + 1) _ (show 1 < 2 by omega)
set_option maxRecDepth 100000 in
set_option maxHeartbeats 4000000 in
theorem lp_X4_fire2 {p : Program} {l : Launch} {ev : Env} {R : Room} {s : State} {m : MethodId} {args : Array Value} {below : List Frame} {meth : Method} {c : Code} {cells slots : Nat} {Q : State → Prop} {D : va_G} {cy : Nat → ClassId} {bd : Nat → Nat} {A : Nat → Prop} (hx : p.tables.exec = Jvm.exec) (hb : c.code = cX4_fire) (hml : c.maxLocals = 9) (hU : ∀ w ∈ UW, w.before args s = true) (hown : s.vm.findClass RX4 = some m.cls) (hR : 1 ≤ R.frames ∧ 32 * 1 ≤ R.locals) (hcs : cells ≤ R.cells ∧ slots ≤ R.slots) {n : Nat} (hn : n < 8) :
    ∀ (k i : Nat) (x : MS × MA) (H : Heap) (locs : List Loc) (ls : Array Slot), (i + k = x.1.1 1 0 ∧ x.2.2.2.2 < 2 ∧ FI n i x.1) → XM D cy bd s A H locs x.1 → lv_has ls 9 [(0, .ref (bd 0)), (1, .int (nI n)), (2, .int x.2.1), (3, .int x.2.2.1), (4, .int x.2.2.2.1), (5, .int (nI x.2.2.2.2)), (6, .int (nI i))] → (∀ (H : Heap) (locs : List Loc) (ls : Array Slot), XM D cy bd s A H locs (itr (M_fh n) k i x).1 → lv_has ls 9 [(0, .ref (bd 0)), (1, .int (nI n)), (2, .int ((itr (M_fh n) k i x).2.1)), (3, .int ((itr (M_fh n) k i x).2.2.1)), (4, .int ((itr (M_fh n) k i x).2.2.2.1)), (5, .int (nI ((itr (M_fh n) k i x).2.2.2.2)))] → W p l ev R s m args below meth c H locs cells slots Q (F0 m 158 ls [])) → W p l ev R s m args below meth c H locs cells slots Q (F0 m 18 ls []) := by
  intro k
  induction k with
  | zero =>
    intro i x H locs ls hc h hl K
    have h12 := hc.2.2.1
    refine lv_iload hx hb dX4_fire_18 (lv_at hl 6 rfl) ?_
    refine lv_aload_n hx hb dX4_fire_20 rfl (lv_at hl 0 rfl) ?_
    refine m_g hx hb hU hown h 1 (by decide) ufX4_78 (v := .int (nI (x.1.1 1 0))) rfl dX4_fire_21 ?_
    refine n_icmp_ge (tgt := 158) hx hb (by omega) (by omega) dX4_fire_24 (by decide) (fun c_24 => ?_) (fun c_24 => absurd c_24 (by omega))
    exact K _ _ _ h (lv_sub hl [0, 1, 2, 3, 4, 5] rfl)
  | succ k ih =>
    intro i x H locs ls hc h hl K
    have h12 := hc.2.2.1
    have h9 := (hc.2.2.2 i (by omega)).1
    have h10 := (hc.2.2.2 i (by omega)).2 (Nat.le_refl _)
    obtain ⟨q7, q8, q9, q10, q13, q14⟩ := (hc.2.2.2 i (by omega)).1
    refine lv_iload hx hb dX4_fire_18 (lv_at hl 6 rfl) ?_
    refine lv_aload_n hx hb dX4_fire_20 rfl (lv_at hl 0 rfl) ?_
    refine m_g hx hb hU hown h 1 (by decide) ufX4_78 (v := .int (nI (x.1.1 1 0))) rfl dX4_fire_21 ?_
    refine n_icmp_ge (tgt := 158) hx hb (by omega) (by omega) dX4_fire_24 (by decide) (fun c_24 => absurd c_24 (by omega)) (fun c_24 => ?_)
    refine lv_aload_n hx hb dX4_fire_27 rfl (lv_at hl 0 rfl) ?_
    refine m_g hx hb hU hown h 8 (by decide) ufX4_25 (v := .ref (bd 6)) rfl dX4_fire_28 ?_
    refine lv_iload hx hb dX4_fire_31 (lv_at hl 6 rfl) ?_
    refine m_iN hx hb h 8 12 ⟨rfl, by unfold mA; omega⟩ rfl (by omega) (v := x.1.1 8 i) rfl dX4_fire_33 ?_
    refine lv_iload_n hx hb dX4_fire_34 rfl (lv_at hl 1 rfl) ?_
    refine n_icmp_eq (tgt := 41) hx hb (by omega) (by omega) dX4_fire_35 (by decide) (fun c_35 => ?_) (fun c_35 => ?_)
    · refine lv_iconst (v := nI 0) hx hb dX4_fire_41 (by decide +kernel) ?_
      refine lv_istore (lv' := [(7, .int (nI 0)), (0, .ref (bd 0)), (1, .int (nI n)), (2, .int x.2.1), (3, .int x.2.2.1), (4, .int x.2.2.2.1), (5, .int (nI x.2.2.2.2)), (6, .int (nI i))]) hx hb dX4_fire_42 hl (by decide) rfl (fun ls hl => ?_)
      refine lp_X4_fire1 hx hb hml hU hown hR hcs (by omega) h9 (x.1.1 10 i) 0 x.2 _ _ _ (Nat.zero_add _) hc.2.1 h (lv_sub hl [1, 2, 3, 4, 5, 6, 7, 0] rfl) (fun H locs ls h hl => ?_)
      refine lv_aload_n hx hb dX4_fire_109 rfl (lv_at hl 0 rfl) ?_
      refine m_g hx hb hU hown h 13 (by decide) ufX4_40 (v := .ref (bd 11)) rfl dX4_fire_110 ?_
      refine lv_iload hx hb dX4_fire_113 (lv_at hl 6 rfl) ?_
      refine lv_aload_n hx hb dX4_fire_115 rfl (lv_at hl 0 rfl) ?_
      refine m_g hx hb hU hown h 13 (by decide) ufX4_40 (v := .ref (bd 11)) rfl dX4_fire_116 ?_
      refine lv_iload hx hb dX4_fire_119 (lv_at hl 6 rfl) ?_
      refine m_iN hx hb h 13 12 ⟨rfl, by unfold mA; omega⟩ rfl (by omega) (v := x.1.1 13 i) rfl dX4_fire_121 ?_
      refine lv_aload_n hx hb dX4_fire_122 rfl (lv_at hl 0 rfl) ?_
      refine m_g hx hb hU hown h 10 (by decide) ufX4_31 (v := .ref (bd 8)) rfl dX4_fire_123 ?_
      refine lv_iload hx hb dX4_fire_126 (lv_at hl 6 rfl) ?_
      refine m_iN hx hb h 10 12 ⟨rfl, by unfold mA; omega⟩ rfl (by omega) (v := x.1.1 10 i) rfl dX4_fire_128 ?_
      refine n_iadd hx hb dX4_fire_129 ?_
      refine lv_sipush (v := nI 910) hx hb dX4_fire_130 (by decide +kernel) ?_
      refine n_irem hx hb (by omega) (by omega) (by omega) dX4_fire_133 ?_
      refine m_sN hx hb h 13 12 ⟨rfl, by unfold mA; omega⟩ rfl (by omega) dX4_fire_134 (fun H locs h => ?_)
      refine lv_aload_n hx hb dX4_fire_135 rfl (lv_at hl 0 rfl) ?_
      refine m_g hx hb hU hown h 14 (by decide) ufX4_43 (v := .ref (bd 12)) (by first | rfl | (simp [mO, mN, mI, up2]; done)) dX4_fire_136 ?_
      refine lv_iload hx hb dX4_fire_139 (lv_at hl 6 rfl) ?_
      refine lv_dup2_11 hx hb dX4_fire_141 rfl rfl ?_
      refine m_iN hx hb h 14 12 ⟨rfl, by unfold mA; omega⟩ rfl (by omega) (v := x.1.1 14 i) (by simp [mN, mI, up2]) dX4_fire_142 ?_
      refine lv_aload_n hx hb dX4_fire_143 rfl (lv_at hl 0 rfl) ?_
      refine m_g hx hb hU hown h 10 (by decide) ufX4_31 (v := .ref (bd 8)) (by first | rfl | (simp [mO, mN, mI, up2]; done)) dX4_fire_144 ?_
      refine lv_iload hx hb dX4_fire_147 (lv_at hl 6 rfl) ?_
      refine m_iN hx hb h 10 12 ⟨rfl, by unfold mA; omega⟩ rfl (by omega) (v := x.1.1 10 i) (by simp [mN, mI, up2]) dX4_fire_149 ?_
      refine n_isub hx hb (h10 c_35) dX4_fire_150 ?_
      refine m_sN hx hb h 14 12 ⟨rfl, by unfold mA; omega⟩ rfl (by omega) dX4_fire_151 (fun H locs h => ?_)
      refine lv_iinc (v := nI (i + 1)) (lv' := [(6, .int (nI (i + 1))), (0, .ref (bd 0)), (1, .int (nI n)), (2, .int ((itr (M_tks x.1 i) (x.1.1 10 i) 0 x.2).1)), (3, .int ((itr (M_tks x.1 i) (x.1.1 10 i) 0 x.2).2.1)), (4, .int ((itr (M_tks x.1 i) (x.1.1 10 i) 0 x.2).2.2.1)), (5, .int (nI ((itr (M_tks x.1 i) (x.1.1 10 i) 0 x.2).2.2.2)))]) hx hb dX4_fire_152 hl (k := 6) rfl (by rw [← nI_add]; rfl) (by decide) rfl (fun ls hl => ?_)
      refine lv_goto (tgt := 18) hx hb dX4_fire_155 (by decide) ?_
      have ex : M_fh n i x = ((mN (mN x.1 13 i (((x.1.1 13 i) + (x.1.1 10 i)) % 910)) 14 i ((x.1.1 14 i) - (x.1.1 10 i))), itr (M_tks x.1 i) (x.1.1 10 i) 0 x.2) := if_pos c_35
      have hs := FI_s (by omega) hc.2.2
      have e21 : (M_fh n i x).1.1 1 0 = x.1.1 1 0 := by rw [M_fh_N, if_neg (by omega), if_neg (by omega)]
      have hl : lv_has ls 9 [(0, .ref (bd 0)), (1, .int (nI n)), (2, .int ((M_fh n i x).2.1)), (3, .int ((M_fh n i x).2.2.1)), (4, .int ((M_fh n i x).2.2.2.1)), (5, .int (nI ((M_fh n i x).2.2.2.2))), (6, .int (nI (i + 1)))] := by rw [ex]; exact lv_sub hl [1, 2, 3, 4, 5, 6, 0] rfl
      have h : XM D cy bd s A H locs (M_fh n i x).1 := by rw [ex]; exact h
      exact ih (i + 1) (M_fh n i x) _ _ _ ⟨by rw [e21]; omega, by rw [ex]; exact itr_tks_lt _ _ _ _ _ hc.2.1, hs⟩ h hl K
    · refine lv_goto (tgt := 152) hx hb dX4_fire_38 (by decide) ?_
      refine lv_iinc (v := nI (i + 1)) (lv' := [(6, .int (nI (i + 1))), (0, .ref (bd 0)), (1, .int (nI n)), (2, .int x.2.1), (3, .int x.2.2.1), (4, .int x.2.2.2.1), (5, .int (nI x.2.2.2.2))]) hx hb dX4_fire_152 hl (k := 6) rfl (by rw [← nI_add]; rfl) (by decide) rfl (fun ls hl => ?_)
      refine lv_goto (tgt := 18) hx hb dX4_fire_155 (by decide) ?_
      have ex : M_fh n i x = x := if_neg c_35
      have hs := FI_s (by omega) hc.2.2
      have e21 : (M_fh n i x).1.1 1 0 = x.1.1 1 0 := by rw [M_fh_N, if_neg (by omega), if_neg (by omega)]
      have hl : lv_has ls 9 [(0, .ref (bd 0)), (1, .int (nI n)), (2, .int ((M_fh n i x).2.1)), (3, .int ((M_fh n i x).2.2.1)), (4, .int ((M_fh n i x).2.2.2.1)), (5, .int (nI ((M_fh n i x).2.2.2.2))), (6, .int (nI (i + 1)))] := by rw [ex]; exact lv_sub hl [1, 2, 3, 4, 5, 6, 0] rfl
      have h : XM D cy bd s A H locs (M_fh n i x).1 := by rw [ex]; exact h
      exact ih (i + 1) (M_fh n i x) _ _ _ ⟨by rw [e21]; omega, by rw [ex]; exact hc.2.1, hs⟩ h hl K
set_option maxRecDepth 100000 in
set_option maxHeartbeats 4000000 in
theorem lp_X4_fire3 {p : Program} {l : Launch} {ev : Env} {R : Room} {s : State} {m : MethodId} {args : Array Value} {below : List Frame} {meth : Method} {c : Code} {cells slots : Nat} {Q : State → Prop} {D : va_G} {cy : Nat → ClassId} {bd : Nat → Nat} {A : Nat → Prop} (hx : p.tables.exec = Jvm.exec) (hb : c.code = cX4_fire) (hml : c.maxLocals = 9) (hU : ∀ w ∈ UW, w.before args s = true) (hown : s.vm.findClass RX4 = some m.cls) (hR : 1 ≤ R.frames ∧ 32 * 1 ≤ R.locals) (hcs : cells ≤ R.cells ∧ slots ≤ R.slots) {n e : Nat} {v : Int32} (he : e < 12) :
    ∀ (k i : Nat) (τ : MS) (H : Heap) (locs : List Loc) (ls : Array Slot), (i + k = τ.1 9 e ∧ QR τ e) → XM D cy bd s A H locs τ → lv_has ls 9 [(0, .ref (bd 0)), (1, .int (nI n)), (6, .int v), (7, .int (nI e)), (8, .int (nI i))] → (∀ (H : Heap) (locs : List Loc) (ls : Array Slot), XM D cy bd s A H locs (itr (M_frk e v) k i τ) → lv_has ls 9 [(0, .ref (bd 0)), (1, .int (nI n)), (6, .int v), (7, .int (nI e))] → W p l ev R s m args below meth c H locs cells slots Q (F0 m 366 ls [])) → W p l ev R s m args below meth c H locs cells slots Q (F0 m 322 ls []) := by
  intro k
  induction k with
  | zero =>
    intro i τ H locs ls hc h hl K
    obtain ⟨q7, q8, q9, q10, q13, q14⟩ := hc.2
    refine lv_iload hx hb dX4_fire_322 (lv_at hl 4 rfl) ?_
    refine lv_aload_n hx hb dX4_fire_324 rfl (lv_at hl 0 rfl) ?_
    refine m_g hx hb hU hown h 9 (by decide) ufX4_28 (v := .ref (bd 7)) rfl dX4_fire_325 ?_
    refine lv_iload hx hb dX4_fire_328 (lv_at hl 3 rfl) ?_
    refine m_iN hx hb h 9 12 ⟨rfl, by unfold mA; omega⟩ rfl (by omega) (v := τ.1 9 e) rfl dX4_fire_330 ?_
    refine n_icmp_ge (tgt := 366) hx hb (by omega) (by omega) dX4_fire_331 (by decide) (fun c_331 => ?_) (fun c_331 => absurd c_331 (by omega))
    exact K _ _ _ h (lv_sub hl [0, 1, 2, 3] rfl)
  | succ k ih =>
    intro i τ H locs ls hc h hl K
    obtain ⟨q7, q8, q9, q10, q13, q14⟩ := hc.2
    refine lv_iload hx hb dX4_fire_322 (lv_at hl 4 rfl) ?_
    refine lv_aload_n hx hb dX4_fire_324 rfl (lv_at hl 0 rfl) ?_
    refine m_g hx hb hU hown h 9 (by decide) ufX4_28 (v := .ref (bd 7)) rfl dX4_fire_325 ?_
    refine lv_iload hx hb dX4_fire_328 (lv_at hl 3 rfl) ?_
    refine m_iN hx hb h 9 12 ⟨rfl, by unfold mA; omega⟩ rfl (by omega) (v := τ.1 9 e) rfl dX4_fire_330 ?_
    refine n_icmp_ge (tgt := 366) hx hb (by omega) (by omega) dX4_fire_331 (by decide) (fun c_331 => absurd c_331 (by omega)) (fun c_331 => ?_)
    refine lv_aload_n hx hb dX4_fire_334 rfl (lv_at hl 0 rfl) ?_
    refine m_g hx hb hU hown h 12 (by decide) ufX4_37 (v := .ref (bd 10)) rfl dX4_fire_335 ?_
    refine lv_aload_n hx hb dX4_fire_338 rfl (lv_at hl 0 rfl) ?_
    refine lv_iload hx hb dX4_fire_339 (lv_at hl 3 rfl) ?_
    refine lv_aload_n hx hb dX4_fire_341 rfl (lv_at hl 0 rfl) ?_
    refine m_g hx hb hU hown h 14 (by decide) ufX4_43 (v := .ref (bd 12)) rfl dX4_fire_342 ?_
    refine lv_iload hx hb dX4_fire_345 (lv_at hl 3 rfl) ?_
    refine m_iN hx hb h 14 12 ⟨rfl, by unfold mA; omega⟩ rfl (by omega) (v := τ.1 14 e) rfl dX4_fire_347 ?_
    refine lv_iload hx hb dX4_fire_348 (lv_at hl 4 rfl) ?_
    refine n_iadd hx hb dX4_fire_350 ?_
    refine y_calli hx hb hml hU hown hR hcs h (c_X4_at l D cy bd τ _ (e := e) (k := (τ.1 14 e) + i) he (by omega) (by omega)) umX4_127 ui_X4_at us_X4_at unX4 uc_X4_at hd_X4_at (by decide) (by decide) (m_recv h) hl.1 rfl (Nat.le_of_ble_eq_true rfl) dX4_fire_351 (fun r u H locs hw h => ?_)
    obtain ⟨rfl, hu⟩ := hw
    have h : XM D cy bd s A H locs τ := by rw [← hu]; exact h
    clear hu
    refine lv_iload hx hb dX4_fire_354 (lv_at hl 2 rfl) ?_
    refine lv_iload hx hb dX4_fire_356 (lv_at hl 4 rfl) ?_
    refine lv_iadd hx hb dX4_fire_358 ?_
    refine m_sI hx hb h 12 10920 rfl rfl (v := (v + (nI i))) (M_at_lt _ _ he) dX4_fire_359 (fun H locs h => ?_)
    refine lv_iinc (v := nI (i + 1)) (lv' := [(8, .int (nI (i + 1))), (0, .ref (bd 0)), (1, .int (nI n)), (6, .int v), (7, .int (nI e))]) hx hb dX4_fire_360 hl (k := 4) rfl (by rw [← nI_add]; rfl) (by decide) rfl (fun ls hl => ?_)
    refine lv_goto (tgt := 322) hx hb dX4_fire_363 (by decide) ?_
    exact ih (i + 1) (mI τ 12 (M_at τ e ((τ.1 14 e) + i)) ((v + (nI i)))) _ _ _ ⟨by show _ = τ.1 9 e; omega, hc.2⟩ h (lv_sub hl [1, 2, 3, 4, 0] rfl) K
set_option maxRecDepth 100000 in
set_option maxHeartbeats 4000000 in
theorem lp_X4_fire4 {p : Program} {l : Launch} {ev : Env} {R : Room} {s : State} {m : MethodId} {args : Array Value} {below : List Frame} {meth : Method} {c : Code} {cells slots : Nat} {Q : State → Prop} {D : va_G} {cy : Nat → ClassId} {bd : Nat → Nat} {A : Nat → Prop} (hx : p.tables.exec = Jvm.exec) (hb : c.code = cX4_fire) (hml : c.maxLocals = 9) (hU : ∀ w ∈ UW, w.before args s = true) (hown : s.vm.findClass RX4 = some m.cls) (hR : 1 ≤ R.frames ∧ 32 * 1 ≤ R.locals) (hcs : cells ≤ R.cells ∧ slots ≤ R.slots) {n : Nat} {v : Int32} (hn : n < 8) :
    ∀ (k i : Nat) (τ : MS) (H : Heap) (locs : List Loc) (ls : Array Slot), (i + k = τ.1 1 0 ∧ FJ i τ) → XM D cy bd s A H locs τ → lv_has ls 9 [(0, .ref (bd 0)), (1, .int (nI n)), (6, .int v), (7, .int (nI i))] → (∀ (H : Heap) (locs : List Loc) (ls : Array Slot), XM D cy bd s A H locs (itr (M_fr n v) k i τ) → lv_has ls 9 [(0, .ref (bd 0))] → W p l ev R s m args below meth c H locs cells slots Q (F0 m 389 ls [])) → W p l ev R s m args below meth c H locs cells slots Q (F0 m 296 ls []) := by
  intro k
  induction k with
  | zero =>
    intro i τ H locs ls hc h hl K
    have h12 := hc.2.1
    refine lv_iload hx hb dX4_fire_296 (lv_at hl 3 rfl) ?_
    refine lv_aload_n hx hb dX4_fire_298 rfl (lv_at hl 0 rfl) ?_
    refine m_g hx hb hU hown h 1 (by decide) ufX4_78 (v := .int (nI (τ.1 1 0))) rfl dX4_fire_299 ?_
    refine n_icmp_ge (tgt := 389) hx hb (by omega) (by omega) dX4_fire_302 (by decide) (fun c_302 => ?_) (fun c_302 => absurd c_302 (by omega))
    exact K _ _ _ h (lv_sub hl [0] rfl)
  | succ k ih =>
    intro i τ H locs ls hc h hl K
    have h12 := hc.2.1
    have h9 := hc.2.2 i (Nat.le_refl _) (by omega)
    obtain ⟨q7, q8, q9, q10, q13, q14⟩ := hc.2.2 i (Nat.le_refl _) (by omega)
    refine lv_iload hx hb dX4_fire_296 (lv_at hl 3 rfl) ?_
    refine lv_aload_n hx hb dX4_fire_298 rfl (lv_at hl 0 rfl) ?_
    refine m_g hx hb hU hown h 1 (by decide) ufX4_78 (v := .int (nI (τ.1 1 0))) rfl dX4_fire_299 ?_
    refine n_icmp_ge (tgt := 389) hx hb (by omega) (by omega) dX4_fire_302 (by decide) (fun c_302 => absurd c_302 (by omega)) (fun c_302 => ?_)
    refine lv_aload_n hx hb dX4_fire_305 rfl (lv_at hl 0 rfl) ?_
    refine m_g hx hb hU hown h 7 (by decide) ufX4_22 (v := .ref (bd 5)) rfl dX4_fire_306 ?_
    refine lv_iload hx hb dX4_fire_309 (lv_at hl 3 rfl) ?_
    refine m_iN hx hb h 7 12 ⟨rfl, by unfold mA; omega⟩ rfl (by omega) (v := τ.1 7 i) rfl dX4_fire_311 ?_
    refine lv_iload_n hx hb dX4_fire_312 rfl (lv_at hl 1 rfl) ?_
    refine n_icmp_eq (tgt := 319) hx hb (by omega) (by omega) dX4_fire_313 (by decide) (fun c_313 => ?_) (fun c_313 => ?_)
    · refine lv_iconst (v := nI 0) hx hb dX4_fire_319 (by decide +kernel) ?_
      refine lv_istore (lv' := [(8, .int (nI 0)), (0, .ref (bd 0)), (1, .int (nI n)), (6, .int v), (7, .int (nI i))]) hx hb dX4_fire_320 hl (by decide) rfl (fun ls hl => ?_)
      refine lp_X4_fire3 hx hb hml hU hown hR hcs (by omega) (τ.1 9 i) 0 τ _ _ _ ⟨Nat.zero_add _, h9⟩ h (lv_sub hl [1, 2, 3, 4, 0] rfl) (fun H locs ls h hl => ?_)
      refine lv_aload_n hx hb dX4_fire_366 rfl (lv_at hl 0 rfl) ?_
      refine m_g hx hb hU hown h 14 (by decide) ufX4_43 (v := .ref (bd 12)) rfl dX4_fire_367 ?_
      refine lv_iload hx hb dX4_fire_370 (lv_at hl 3 rfl) ?_
      refine lv_dup2_11 hx hb dX4_fire_372 rfl rfl ?_
      refine m_iN hx hb h 14 12 ⟨rfl, by unfold mA; omega⟩ rfl (by omega) (v := (itr (M_frk i v) (τ.1 9 i) 0 τ).1 14 i) rfl dX4_fire_373 ?_
      refine lv_aload_n hx hb dX4_fire_374 rfl (lv_at hl 0 rfl) ?_
      refine m_g hx hb hU hown h 9 (by decide) ufX4_28 (v := .ref (bd 7)) rfl dX4_fire_375 ?_
      refine lv_iload hx hb dX4_fire_378 (lv_at hl 3 rfl) ?_
      refine m_iN hx hb h 9 12 ⟨rfl, by unfold mA; omega⟩ rfl (by omega) (v := (itr (M_frk i v) (τ.1 9 i) 0 τ).1 9 i) rfl dX4_fire_380 ?_
      refine n_iadd hx hb dX4_fire_381 ?_
      refine m_sN hx hb h 14 12 ⟨rfl, by unfold mA; omega⟩ rfl (by omega) dX4_fire_382 (fun H locs h => ?_)
      refine lv_iinc (v := nI (i + 1)) (lv' := [(7, .int (nI (i + 1))), (0, .ref (bd 0)), (1, .int (nI n)), (6, .int v)]) hx hb dX4_fire_383 hl (k := 3) rfl (by rw [← nI_add]; rfl) (by decide) rfl (fun ls hl => ?_)
      refine lv_goto (tgt := 296) hx hb dX4_fire_386 (by decide) ?_
      have ex : M_fr n v i τ = (mN (itr (M_frk i v) (τ.1 9 i) 0 τ) 14 i (((itr (M_frk i v) (τ.1 9 i) 0 τ).1 14 i) + ((itr (M_frk i v) (τ.1 9 i) 0 τ).1 9 i))) := if_pos c_313
      have hs := FJ_s (n := n) (v := v) hc.2
      have e21 : (M_fr n v i τ).1 1 0 = τ.1 1 0 := by rw [M_fr_N, if_neg (by omega)]
      have h : XM D cy bd s A H locs (M_fr n v i τ) := by rw [ex]; exact h
      exact ih (i + 1) (M_fr n v i τ) _ _ _ ⟨by rw [e21]; omega, hs⟩ h (lv_sub hl [1, 2, 3, 0] rfl) K
    · refine lv_goto (tgt := 383) hx hb dX4_fire_316 (by decide) ?_
      refine lv_iinc (v := nI (i + 1)) (lv' := [(7, .int (nI (i + 1))), (0, .ref (bd 0)), (1, .int (nI n)), (6, .int v)]) hx hb dX4_fire_383 hl (k := 3) rfl (by rw [← nI_add]; rfl) (by decide) rfl (fun ls hl => ?_)
      refine lv_goto (tgt := 296) hx hb dX4_fire_386 (by decide) ?_
      have ex : M_fr n v i τ = τ := if_neg c_313
      have hs := FJ_s (n := n) (v := v) hc.2
      have e21 : (M_fr n v i τ).1 1 0 = τ.1 1 0 := by rw [M_fr_N, if_neg (by omega)]
      have h : XM D cy bd s A H locs (M_fr n v i τ) := by rw [ex]; exact h
      exact ih (i + 1) (M_fr n v i τ) _ _ _ ⟨by rw [e21]; omega, hs⟩ h (lv_sub hl [1, 2, 3, 0] rfl) K
set_option maxRecDepth 100000 in
set_option maxHeartbeats 4000000 in
theorem c_X4_fire (l : Launch) (D : va_G) (cy : Nat → ClassId) (bd : Nat → Nat) (μ : MS) (sz : Nat) {n : Nat} (hn : n < 8) (hF : FI n 0 μ) : MMv l D cy bd yX4_fire cX4_fire 9 (rmd 1) [.ref (bd 0), .int (nI n)] μ sz (fun u => u = M_fire μ n) := by
  refine Met.ofW (cc := cX4_fire) (maxL := 9) (ret := none) (by decide) rfl ?_
  intro p ev s m args below meth c s₁ B hml hv
  obtain ⟨rfl, hw⟩ := hv
  have hx := B.exec
  have hb := B.bytes
  have hr := B.returns
  have hlk := B.notSynchronized
  have hU : ∀ w ∈ UW, w.before _ s = true := fun w hw => atoms_spec (ws := Cond.code yX4_fire cX4_fire 9 none :: UW) B.pre w (List.mem_cons_of_mem _ hw)
  have hown : s.vm.findClass RX4 = some m.cls := findClass_of_methodNamed B.named
  have hR : 1 ≤ (headSpec (Cond.code yX4_fire cX4_fire 9 none :: UW) (rmd 1)).room.frames ∧ 32 * 1 ≤ (headSpec (Cond.code yX4_fire cX4_fire 9 none :: UW) (rmd 1)).room.locals := ⟨Nat.le_refl _, Nat.le_refl _⟩
  have hcs : 0 ≤ (headSpec (Cond.code yX4_fire cX4_fire 9 none :: UW) (rmd 1)).room.cells ∧ 0 ≤ (headSpec (Cond.code yX4_fire cX4_fire 9 none :: UW) (rmd 1)).room.slots := ⟨Nat.zero_le _, Nat.zero_le _⟩
  have h := WX.start hw
  clear hw
  generalize va_A (wv _ _ _) _ = A at h ⊢
  have hl := lv_entry ([.ref (bd 0), .int (nI n)]) (n := 9) (Nat.le_of_ble_eq_true rfl)
  rw [lg_entry_eq]
  generalize (lg_sl ([.ref (bd 0), .int (nI n)]) ++ List.replicate (9 - (lg_sl ([.ref (bd 0), .int (nI n)])).length) Slot.unset).toArray = ls at hl ⊢
  have hl : lv_has ls 9 [(0, .ref (bd 0)), (1, .int (nI n))] := hl
  refine lv_iconst (v := nI 0) hx hb dX4_fire_0 (by decide +kernel) ?_
  refine lv_istore_n (lv' := [(2, .int (nI 0)), (0, .ref (bd 0)), (1, .int (nI n))]) hx hb dX4_fire_1 rfl hl (by decide) rfl (fun ls hl => ?_)
  refine lv_iconst (v := nI 0) hx hb dX4_fire_2 (by decide +kernel) ?_
  refine lv_istore_n (lv' := [(3, .int (nI 0)), (2, .int (nI 0)), (0, .ref (bd 0)), (1, .int (nI n))]) hx hb dX4_fire_3 rfl hl (by decide) rfl (fun ls hl => ?_)
  refine lv_aload_n hx hb dX4_fire_4 rfl (lv_at hl 2 rfl) ?_
  refine m_g hx hb hU hown h 4 (by decide) ufX4_13 (v := .ref (bd 2)) rfl dX4_fire_5 ?_
  refine lv_iload_n hx hb dX4_fire_8 rfl (lv_at hl 3 rfl) ?_
  refine m_iI hx hb h 4 8 rfl rfl (by omega) (v := μ.2 4 n) rfl dX4_fire_9 ?_
  refine lv_istore (lv' := [(4, .int (μ.2 4 n)), (3, .int (nI 0)), (2, .int (nI 0)), (0, .ref (bd 0)), (1, .int (nI n))]) hx hb dX4_fire_10 hl (by decide) rfl (fun ls hl => ?_)
  refine lv_iconst (v := nI 0) hx hb dX4_fire_12 (by decide +kernel) ?_
  refine lv_istore (lv' := [(5, .int (nI 0)), (4, .int (μ.2 4 n)), (3, .int (nI 0)), (2, .int (nI 0)), (0, .ref (bd 0)), (1, .int (nI n))]) hx hb dX4_fire_13 hl (by decide) rfl (fun ls hl => ?_)
  refine lv_iconst (v := nI 0) hx hb dX4_fire_15 (by decide +kernel) ?_
  refine lv_istore (lv' := [(6, .int (nI 0)), (5, .int (nI 0)), (4, .int (μ.2 4 n)), (3, .int (nI 0)), (2, .int (nI 0)), (0, .ref (bd 0)), (1, .int (nI n))]) hx hb dX4_fire_16 hl (by decide) rfl (fun ls hl => ?_)
  refine lp_X4_fire2 hx hb hml hU hown hR hcs hn (μ.1 1 0) 0 (μ, (nI 0, nI 0, μ.2 4 n, 0)) _ _ _ ⟨Nat.zero_add _, by show 0 < 2; omega, hF⟩ h (lv_sub hl [5, 6, 4, 3, 2, 1, 0] rfl) (fun H locs ls h hl => ?_)
  have hG := FI_i (n := n) (μ.1 1 0) 0 (μ, (nI 0, nI 0, μ.2 4 n, 0)) (Nat.zero_add _) hF
  have eF : M_fire μ n = M_fire1 n (itr (M_fh n) (μ.1 1 0) 0 (μ, (nI 0, nI 0, μ.2 4 n, 0))) := rfl
  generalize itr (M_fh n) (μ.1 1 0) 0 (μ, (nI 0, nI 0, μ.2 4 n, 0)) = x at h hl eF hG
  refine lv_iconst (v := nI 0) hx hb dX4_fire_158 (by decide +kernel) ?_
  refine lv_istore (lv' := [(6, .int (nI 0)), (0, .ref (bd 0)), (1, .int (nI n)), (2, .int x.2.1), (3, .int x.2.2.1), (4, .int x.2.2.2.1), (5, .int (nI x.2.2.2.2))]) hx hb dX4_fire_159 hl (by decide) rfl (fun ls hl => ?_)
  refine lv_aload_n hx hb dX4_fire_161 rfl (lv_at hl 1 rfl) ?_
  refine m_g hx hb hU hown h 3 (by decide) ufX4_7 (v := .ref (bd 1)) rfl dX4_fire_162 ?_
  refine lv_iload_n hx hb dX4_fire_165 rfl (lv_at hl 2 rfl) ?_
  refine m_iI hx hb h 3 8 rfl rfl (by omega) (v := x.1.2 3 n) rfl dX4_fire_166 ?_
  by_cases hk : x.1.2 3 n = 0 ∨ x.1.2 3 n = 1 ∨ x.1.2 3 n = 2 ∨ x.1.2 3 n = 3 ∨ x.1.2 3 n = 4
  · rcases hk with hk | hk | hk | hk | hk
    · refine lv_tableIn (off := 33) (tgt := 200) hx hb dX4_fire_167 (by rw [hk]; decide +kernel) (by rw [hk]; decide +kernel) (by rw [hk]; decide +kernel) (by decide) ?_
      refine lv_aload_n hx hb dX4_fire_200 rfl (lv_at hl 1 rfl) ?_
      refine m_g hx hb hU hown h 5 (by decide) ufX4_16 (v := .ref (bd 3)) rfl dX4_fire_201 ?_
      refine lv_iload_n hx hb dX4_fire_204 rfl (lv_at hl 2 rfl) ?_
      refine m_iI hx hb h 5 8 rfl rfl (by omega) (v := x.1.2 5 n) rfl dX4_fire_205 ?_
      refine lv_istore (lv' := [(6, .int (x.1.2 5 n)), (0, .ref (bd 0)), (1, .int (nI n)), (2, .int x.2.1), (3, .int x.2.2.1), (4, .int x.2.2.2.1), (5, .int (nI x.2.2.2.2))]) hx hb dX4_fire_206 hl (by decide) rfl (fun ls hl => ?_)
      refine lv_aload_n hx hb dX4_fire_208 rfl (lv_at hl 1 rfl) ?_
      refine m_g hx hb hU hown h 5 (by decide) ufX4_16 (v := .ref (bd 3)) rfl dX4_fire_209 ?_
      refine lv_iload_n hx hb dX4_fire_212 rfl (lv_at hl 2 rfl) ?_
      refine lv_iload hx hb dX4_fire_213 (lv_at hl 0 rfl) ?_
      refine lv_iconst (v := nI 1) hx hb dX4_fire_215 (by decide +kernel) ?_
      refine lv_iadd hx hb dX4_fire_216 ?_
      refine m_sI hx hb h 5 8 rfl rfl (v := ((x.1.2 5 n) + (nI 1))) (by omega) dX4_fire_217 (fun H locs h => ?_)
      refine lv_goto (tgt := 285) hx hb dX4_fire_218 (by decide) ?_
      refine lv_aload_n hx hb dX4_fire_285 rfl (lv_at hl 1 rfl) ?_
      refine m_g hx hb hU hown h 6 (by decide) ufX4_19 (v := .ref (bd 4)) (by first | rfl | (simp [mO, mN, mI, up2]; done)) dX4_fire_286 ?_
      refine lv_iload_n hx hb dX4_fire_289 rfl (lv_at hl 2 rfl) ?_
      refine lv_iload hx hb dX4_fire_290 (lv_at hl 0 rfl) ?_
      refine m_sI hx hb h 6 8 rfl rfl (v := x.1.2 5 n) (by omega) dX4_fire_292 (fun H locs h => ?_)
      refine lv_iconst (v := nI 0) hx hb dX4_fire_293 (by decide +kernel) ?_
      refine lv_istore (lv' := [(7, .int (nI 0)), (6, .int (x.1.2 5 n)), (0, .ref (bd 0)), (1, .int (nI n)), (2, .int x.2.1), (3, .int x.2.2.1), (4, .int x.2.2.2.1), (5, .int (nI x.2.2.2.2))]) hx hb dX4_fire_294 hl (by decide) rfl (fun ls hl => ?_)
      have ev9 : M_val x.1 n x.2 = (x.1.2 5 n, (mI x.1 5 n (((x.1.2 5 n) + (nI 1))))) := M_val_0 hk
      have eF2 : M_fire μ n = itr (M_fr n (x.1.2 5 n)) (x.1.1 1 0) 0 (mI (mI x.1 5 n (((x.1.2 5 n) + (nI 1)))) 6 n (x.1.2 5 n)) := by rw [eF, M_fire1, ev9]; rfl
      have hFJ : FJ 0 (mI (mI x.1 5 n (((x.1.2 5 n) + (nI 1)))) 6 n (x.1.2 5 n)) := ⟨hG.1.1, fun q _ hq => (hG.1.2 q hq).1⟩
      refine lp_X4_fire4 (v := x.1.2 5 n) hx hb hml hU hown hR hcs hn (x.1.1 1 0) 0 (mI (mI x.1 5 n (((x.1.2 5 n) + (nI 1)))) 6 n (x.1.2 5 n)) _ _ _ ⟨Nat.zero_add _, hFJ⟩ h (lv_sub hl [2, 3, 1, 0] rfl) (fun H locs ls h hl => ?_)
      exact W.vret hx hb hr (fun t ht hW => ⟨⟨_, rfl, eF2.symm, h.at ht hW⟩, h.2.2.2.2.F ht⟩) h.2.2.2.2.2.2 dX4_fire_389
    · refine lv_tableIn (off := 54) (tgt := 221) hx hb dX4_fire_167 (by rw [hk]; decide +kernel) (by rw [hk]; decide +kernel) (by rw [hk]; decide +kernel) (by decide) ?_
      refine lv_iload_n hx hb dX4_fire_221 rfl (lv_at hl 3 rfl) ?_
      refine lv_aload_n hx hb dX4_fire_222 rfl (lv_at hl 1 rfl) ?_
      refine m_g hx hb hU hown h 4 (by decide) ufX4_13 (v := .ref (bd 2)) rfl dX4_fire_223 ?_
      refine lv_iload_n hx hb dX4_fire_226 rfl (lv_at hl 2 rfl) ?_
      refine m_iI hx hb h 4 8 rfl rfl (by omega) (v := x.1.2 4 n) rfl dX4_fire_227 ?_
      refine lv_iadd hx hb dX4_fire_228 ?_
      refine lv_istore (lv' := [(6, .int ((x.2.1 + (x.1.2 4 n)))), (0, .ref (bd 0)), (1, .int (nI n)), (2, .int x.2.1), (3, .int x.2.2.1), (4, .int x.2.2.2.1), (5, .int (nI x.2.2.2.2))]) hx hb dX4_fire_229 hl (by decide) rfl (fun ls hl => ?_)
      refine lv_goto (tgt := 285) hx hb dX4_fire_231 (by decide) ?_
      refine lv_aload_n hx hb dX4_fire_285 rfl (lv_at hl 1 rfl) ?_
      refine m_g hx hb hU hown h 6 (by decide) ufX4_19 (v := .ref (bd 4)) rfl dX4_fire_286 ?_
      refine lv_iload_n hx hb dX4_fire_289 rfl (lv_at hl 2 rfl) ?_
      refine lv_iload hx hb dX4_fire_290 (lv_at hl 0 rfl) ?_
      refine m_sI hx hb h 6 8 rfl rfl (v := (x.2.1 + (x.1.2 4 n))) (by omega) dX4_fire_292 (fun H locs h => ?_)
      refine lv_iconst (v := nI 0) hx hb dX4_fire_293 (by decide +kernel) ?_
      refine lv_istore (lv' := [(7, .int (nI 0)), (6, .int ((x.2.1 + (x.1.2 4 n)))), (0, .ref (bd 0)), (1, .int (nI n)), (2, .int x.2.1), (3, .int x.2.2.1), (4, .int x.2.2.2.1), (5, .int (nI x.2.2.2.2))]) hx hb dX4_fire_294 hl (by decide) rfl (fun ls hl => ?_)
      have ev9 : M_val x.1 n x.2 = ((x.2.1 + (x.1.2 4 n)), x.1) := M_val_1 hk
      have eF2 : M_fire μ n = itr (M_fr n ((x.2.1 + (x.1.2 4 n)))) (x.1.1 1 0) 0 (mI x.1 6 n ((x.2.1 + (x.1.2 4 n)))) := by rw [eF, M_fire1, ev9]; rfl
      have hFJ : FJ 0 (mI x.1 6 n ((x.2.1 + (x.1.2 4 n)))) := ⟨hG.1.1, fun q _ hq => (hG.1.2 q hq).1⟩
      refine lp_X4_fire4 (v := (x.2.1 + (x.1.2 4 n))) hx hb hml hU hown hR hcs hn (x.1.1 1 0) 0 (mI x.1 6 n ((x.2.1 + (x.1.2 4 n)))) _ _ _ ⟨Nat.zero_add _, hFJ⟩ h (lv_sub hl [2, 3, 1, 0] rfl) (fun H locs ls h hl => ?_)
      exact W.vret hx hb hr (fun t ht hW => ⟨⟨_, rfl, eF2.symm, h.at ht hW⟩, h.2.2.2.2.F ht⟩) h.2.2.2.2.2.2 dX4_fire_389
    · refine lv_tableIn (off := 67) (tgt := 234) hx hb dX4_fire_167 (by rw [hk]; decide +kernel) (by rw [hk]; decide +kernel) (by rw [hk]; decide +kernel) (by decide) ?_
      refine lv_iload_n hx hb dX4_fire_234 rfl (lv_at hl 3 rfl) ?_
      refine lv_aload_n hx hb dX4_fire_235 rfl (lv_at hl 1 rfl) ?_
      refine m_g hx hb hU hown h 4 (by decide) ufX4_13 (v := .ref (bd 2)) rfl dX4_fire_236 ?_
      refine lv_iload_n hx hb dX4_fire_239 rfl (lv_at hl 2 rfl) ?_
      refine m_iI hx hb h 4 8 rfl rfl (by omega) (v := x.1.2 4 n) rfl dX4_fire_240 ?_
      refine lv_imul hx hb dX4_fire_241 ?_
      refine lv_istore (lv' := [(6, .int ((x.2.1 * (x.1.2 4 n)))), (0, .ref (bd 0)), (1, .int (nI n)), (2, .int x.2.1), (3, .int x.2.2.1), (4, .int x.2.2.2.1), (5, .int (nI x.2.2.2.2))]) hx hb dX4_fire_242 hl (by decide) rfl (fun ls hl => ?_)
      refine lv_goto (tgt := 285) hx hb dX4_fire_244 (by decide) ?_
      refine lv_aload_n hx hb dX4_fire_285 rfl (lv_at hl 1 rfl) ?_
      refine m_g hx hb hU hown h 6 (by decide) ufX4_19 (v := .ref (bd 4)) rfl dX4_fire_286 ?_
      refine lv_iload_n hx hb dX4_fire_289 rfl (lv_at hl 2 rfl) ?_
      refine lv_iload hx hb dX4_fire_290 (lv_at hl 0 rfl) ?_
      refine m_sI hx hb h 6 8 rfl rfl (v := (x.2.1 * (x.1.2 4 n))) (by omega) dX4_fire_292 (fun H locs h => ?_)
      refine lv_iconst (v := nI 0) hx hb dX4_fire_293 (by decide +kernel) ?_
      refine lv_istore (lv' := [(7, .int (nI 0)), (6, .int ((x.2.1 * (x.1.2 4 n)))), (0, .ref (bd 0)), (1, .int (nI n)), (2, .int x.2.1), (3, .int x.2.2.1), (4, .int x.2.2.2.1), (5, .int (nI x.2.2.2.2))]) hx hb dX4_fire_294 hl (by decide) rfl (fun ls hl => ?_)
      have ev9 : M_val x.1 n x.2 = ((x.2.1 * (x.1.2 4 n)), x.1) := M_val_2 hk
      have eF2 : M_fire μ n = itr (M_fr n ((x.2.1 * (x.1.2 4 n)))) (x.1.1 1 0) 0 (mI x.1 6 n ((x.2.1 * (x.1.2 4 n)))) := by rw [eF, M_fire1, ev9]; rfl
      have hFJ : FJ 0 (mI x.1 6 n ((x.2.1 * (x.1.2 4 n)))) := ⟨hG.1.1, fun q _ hq => (hG.1.2 q hq).1⟩
      refine lp_X4_fire4 (v := (x.2.1 * (x.1.2 4 n))) hx hb hml hU hown hR hcs hn (x.1.1 1 0) 0 (mI x.1 6 n ((x.2.1 * (x.1.2 4 n)))) _ _ _ ⟨Nat.zero_add _, hFJ⟩ h (lv_sub hl [2, 3, 1, 0] rfl) (fun H locs ls h hl => ?_)
      exact W.vret hx hb hr (fun t ht hW => ⟨⟨_, rfl, eF2.symm, h.at ht hW⟩, h.2.2.2.2.F ht⟩) h.2.2.2.2.2.2 dX4_fire_389
    · refine lv_tableIn (off := 80) (tgt := 247) hx hb dX4_fire_167 (by rw [hk]; decide +kernel) (by rw [hk]; decide +kernel) (by rw [hk]; decide +kernel) (by decide) ?_
      refine lv_aload_n hx hb dX4_fire_247 rfl (lv_at hl 1 rfl) ?_
      refine m_g hx hb hU hown h 5 (by decide) ufX4_16 (v := .ref (bd 3)) rfl dX4_fire_248 ?_
      refine lv_iload_n hx hb dX4_fire_251 rfl (lv_at hl 2 rfl) ?_
      refine m_iI hx hb h 5 8 rfl rfl (by omega) (v := x.1.2 5 n) rfl dX4_fire_252 ?_
      refine lv_iload_n hx hb dX4_fire_253 rfl (lv_at hl 3 rfl) ?_
      refine lv_iadd hx hb dX4_fire_254 ?_
      refine lv_istore (lv' := [(6, .int (((x.1.2 5 n) + x.2.1))), (0, .ref (bd 0)), (1, .int (nI n)), (2, .int x.2.1), (3, .int x.2.2.1), (4, .int x.2.2.2.1), (5, .int (nI x.2.2.2.2))]) hx hb dX4_fire_255 hl (by decide) rfl (fun ls hl => ?_)
      refine lv_aload_n hx hb dX4_fire_257 rfl (lv_at hl 1 rfl) ?_
      refine m_g hx hb hU hown h 5 (by decide) ufX4_16 (v := .ref (bd 3)) rfl dX4_fire_258 ?_
      refine lv_iload_n hx hb dX4_fire_261 rfl (lv_at hl 2 rfl) ?_
      refine lv_iload hx hb dX4_fire_262 (lv_at hl 0 rfl) ?_
      refine m_sI hx hb h 5 8 rfl rfl (v := ((x.1.2 5 n) + x.2.1)) (by omega) dX4_fire_264 (fun H locs h => ?_)
      refine lv_goto (tgt := 285) hx hb dX4_fire_265 (by decide) ?_
      refine lv_aload_n hx hb dX4_fire_285 rfl (lv_at hl 1 rfl) ?_
      refine m_g hx hb hU hown h 6 (by decide) ufX4_19 (v := .ref (bd 4)) (by first | rfl | (simp [mO, mN, mI, up2]; done)) dX4_fire_286 ?_
      refine lv_iload_n hx hb dX4_fire_289 rfl (lv_at hl 2 rfl) ?_
      refine lv_iload hx hb dX4_fire_290 (lv_at hl 0 rfl) ?_
      refine m_sI hx hb h 6 8 rfl rfl (v := ((x.1.2 5 n) + x.2.1)) (by omega) dX4_fire_292 (fun H locs h => ?_)
      refine lv_iconst (v := nI 0) hx hb dX4_fire_293 (by decide +kernel) ?_
      refine lv_istore (lv' := [(7, .int (nI 0)), (6, .int (((x.1.2 5 n) + x.2.1))), (0, .ref (bd 0)), (1, .int (nI n)), (2, .int x.2.1), (3, .int x.2.2.1), (4, .int x.2.2.2.1), (5, .int (nI x.2.2.2.2))]) hx hb dX4_fire_294 hl (by decide) rfl (fun ls hl => ?_)
      have ev9 : M_val x.1 n x.2 = (((x.1.2 5 n) + x.2.1), (mI x.1 5 n (((x.1.2 5 n) + x.2.1)))) := M_val_3 hk
      have eF2 : M_fire μ n = itr (M_fr n (((x.1.2 5 n) + x.2.1))) (x.1.1 1 0) 0 (mI (mI x.1 5 n (((x.1.2 5 n) + x.2.1))) 6 n (((x.1.2 5 n) + x.2.1))) := by rw [eF, M_fire1, ev9]; rfl
      have hFJ : FJ 0 (mI (mI x.1 5 n (((x.1.2 5 n) + x.2.1))) 6 n (((x.1.2 5 n) + x.2.1))) := ⟨hG.1.1, fun q _ hq => (hG.1.2 q hq).1⟩
      refine lp_X4_fire4 (v := ((x.1.2 5 n) + x.2.1)) hx hb hml hU hown hR hcs hn (x.1.1 1 0) 0 (mI (mI x.1 5 n (((x.1.2 5 n) + x.2.1))) 6 n (((x.1.2 5 n) + x.2.1))) _ _ _ ⟨Nat.zero_add _, hFJ⟩ h (lv_sub hl [2, 3, 1, 0] rfl) (fun H locs ls h hl => ?_)
      exact W.vret hx hb hr (fun t ht hW => ⟨⟨_, rfl, eF2.symm, h.at ht hW⟩, h.2.2.2.2.F ht⟩) h.2.2.2.2.2.2 dX4_fire_389
    · refine lv_tableIn (off := 101) (tgt := 268) hx hb dX4_fire_167 (by rw [hk]; decide +kernel) (by rw [hk]; decide +kernel) (by rw [hk]; decide +kernel) (by decide) ?_
      refine lv_iload hx hb dX4_fire_268 (lv_at hl 5 rfl) ?_
      refine lv_istore (lv' := [(6, .int x.2.2.2.1), (0, .ref (bd 0)), (1, .int (nI n)), (2, .int x.2.1), (3, .int x.2.2.1), (4, .int x.2.2.2.1), (5, .int (nI x.2.2.2.2))]) hx hb dX4_fire_270 hl (by decide) rfl (fun ls hl => ?_)
      refine lv_goto (tgt := 285) hx hb dX4_fire_272 (by decide) ?_
      refine lv_aload_n hx hb dX4_fire_285 rfl (lv_at hl 1 rfl) ?_
      refine m_g hx hb hU hown h 6 (by decide) ufX4_19 (v := .ref (bd 4)) rfl dX4_fire_286 ?_
      refine lv_iload_n hx hb dX4_fire_289 rfl (lv_at hl 2 rfl) ?_
      refine lv_iload hx hb dX4_fire_290 (lv_at hl 0 rfl) ?_
      refine m_sI hx hb h 6 8 rfl rfl (v := x.2.2.2.1) (by omega) dX4_fire_292 (fun H locs h => ?_)
      refine lv_iconst (v := nI 0) hx hb dX4_fire_293 (by decide +kernel) ?_
      refine lv_istore (lv' := [(7, .int (nI 0)), (6, .int x.2.2.2.1), (0, .ref (bd 0)), (1, .int (nI n)), (2, .int x.2.1), (3, .int x.2.2.1), (4, .int x.2.2.2.1), (5, .int (nI x.2.2.2.2))]) hx hb dX4_fire_294 hl (by decide) rfl (fun ls hl => ?_)
      have ev9 : M_val x.1 n x.2 = (x.2.2.2.1, x.1) := M_val_4 hk
      have eF2 : M_fire μ n = itr (M_fr n (x.2.2.2.1)) (x.1.1 1 0) 0 (mI x.1 6 n x.2.2.2.1) := by rw [eF, M_fire1, ev9]; rfl
      have hFJ : FJ 0 (mI x.1 6 n x.2.2.2.1) := ⟨hG.1.1, fun q _ hq => (hG.1.2 q hq).1⟩
      refine lp_X4_fire4 (v := x.2.2.2.1) hx hb hml hU hown hR hcs hn (x.1.1 1 0) 0 (mI x.1 6 n x.2.2.2.1) _ _ _ ⟨Nat.zero_add _, hFJ⟩ h (lv_sub hl [2, 3, 1, 0] rfl) (fun H locs ls h hl => ?_)
      exact W.vret hx hb hr (fun t ht hW => ⟨⟨_, rfl, eF2.symm, h.at ht hW⟩, h.2.2.2.2.F ht⟩) h.2.2.2.2.2.2 dX4_fire_389
  · refine lv_tableOut (tgt := 275) hx hb dX4_fire_167 (t_kout (fun q => hk (Or.inl q)) (fun q => hk (Or.inr (Or.inl q))) (fun q => hk (Or.inr (Or.inr (Or.inl q)))) (fun q => hk (Or.inr (Or.inr (Or.inr (Or.inl q))))) (fun q => hk (Or.inr (Or.inr (Or.inr (Or.inr q)))))) (by decide) ?_
    refine lv_iload_n hx hb dX4_fire_275 rfl (lv_at hl 4 rfl) ?_
    refine lv_aload_n hx hb dX4_fire_276 rfl (lv_at hl 1 rfl) ?_
    refine m_g hx hb hU hown h 4 (by decide) ufX4_13 (v := .ref (bd 2)) rfl dX4_fire_277 ?_
    refine lv_iload_n hx hb dX4_fire_280 rfl (lv_at hl 2 rfl) ?_
    refine m_iI hx hb h 4 8 rfl rfl (by omega) (v := x.1.2 4 n) rfl dX4_fire_281 ?_
    refine lv_iadd hx hb dX4_fire_282 ?_
    refine lv_istore (lv' := [(6, .int ((x.2.2.1 + (x.1.2 4 n)))), (0, .ref (bd 0)), (1, .int (nI n)), (2, .int x.2.1), (3, .int x.2.2.1), (4, .int x.2.2.2.1), (5, .int (nI x.2.2.2.2))]) hx hb dX4_fire_283 hl (by decide) rfl (fun ls hl => ?_)
    refine lv_aload_n hx hb dX4_fire_285 rfl (lv_at hl 1 rfl) ?_
    refine m_g hx hb hU hown h 6 (by decide) ufX4_19 (v := .ref (bd 4)) rfl dX4_fire_286 ?_
    refine lv_iload_n hx hb dX4_fire_289 rfl (lv_at hl 2 rfl) ?_
    refine lv_iload hx hb dX4_fire_290 (lv_at hl 0 rfl) ?_
    refine m_sI hx hb h 6 8 rfl rfl (v := (x.2.2.1 + (x.1.2 4 n))) (by omega) dX4_fire_292 (fun H locs h => ?_)
    refine lv_iconst (v := nI 0) hx hb dX4_fire_293 (by decide +kernel) ?_
    refine lv_istore (lv' := [(7, .int (nI 0)), (6, .int ((x.2.2.1 + (x.1.2 4 n)))), (0, .ref (bd 0)), (1, .int (nI n)), (2, .int x.2.1), (3, .int x.2.2.1), (4, .int x.2.2.2.1), (5, .int (nI x.2.2.2.2))]) hx hb dX4_fire_294 hl (by decide) rfl (fun ls hl => ?_)
    have ev9 : M_val x.1 n x.2 = ((x.2.2.1 + (x.1.2 4 n)), x.1) := M_val_5 hk
    have eF2 : M_fire μ n = itr (M_fr n ((x.2.2.1 + (x.1.2 4 n)))) (x.1.1 1 0) 0 (mI x.1 6 n ((x.2.2.1 + (x.1.2 4 n)))) := by rw [eF, M_fire1, ev9]; rfl
    have hFJ : FJ 0 (mI x.1 6 n ((x.2.2.1 + (x.1.2 4 n)))) := ⟨hG.1.1, fun q _ hq => (hG.1.2 q hq).1⟩
    refine lp_X4_fire4 (v := (x.2.2.1 + (x.1.2 4 n))) hx hb hml hU hown hR hcs hn (x.1.1 1 0) 0 (mI x.1 6 n ((x.2.2.1 + (x.1.2 4 n)))) _ _ _ ⟨Nat.zero_add _, hFJ⟩ h (lv_sub hl [2, 3, 1, 0] rfl) (fun H locs ls h hl => ?_)
    exact W.vret hx hb hr (fun t ht hW => ⟨⟨_, rfl, eF2.symm, h.at ht hW⟩, h.2.2.2.2.F ht⟩) h.2.2.2.2.2.2 dX4_fire_389
