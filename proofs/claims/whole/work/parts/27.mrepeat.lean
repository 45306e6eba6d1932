/-! ===== the reference: divisor, repeat, mayFire ===== -/
def MNet (μ : MS) : Prop := μ.1 0 0 ≤ 8 ∧ μ.1 1 0 ≤ 12 ∧ ∀ q, q < μ.1 1 0 → μ.1 7 q < μ.1 0 0 ∧ μ.1 8 q < μ.1 0 0 ∧ 1 ≤ μ.1 9 q ∧ μ.1 9 q ≤ 9 ∧ 1 ≤ μ.1 10 q ∧ μ.1 10 q ≤ 9 ∧ μ.1 11 q ≤ 9
def gG (f : Nat → Nat) : Nat → Nat → Nat → Nat
  | 0, _, c => c
  | k + 1, i, c => gG f k (i + 1) (gcdS 200 c (f i))
theorem gG_lt {f : Nat → Nat} {B : Nat} : ∀ (k i c : Nat), c < B → (∀ j, i ≤ j → j < i + k → f j < B) → gG f k i c < B := by
  intro k
  induction k with
  | zero => intro i c h _; exact h
  | succ k ih => intro i c hc h; exact ih (i + 1) _ (gcdS_lt _ _ _ hc (h i (by omega) (by omega))) (fun j h1 h2 => h j (by omega) (by omega))
theorem sF_congr {f g : Nat → Nat} : ∀ (k i c : Nat), (∀ j, i ≤ j → j < i + k → f j = g j) → sF f k i c = sF g k i c := by
  intro k
  induction k with
  | zero => intro i c _; rfl
  | succ k ih =>
    intro i c h
    show sF f k (i + 1) (c + f i) = sF g k (i + 1) (c + g i)
    rw [h i (Nat.le_refl _) (by omega), ih (i + 1) _ (fun j h1 h2 => h j (by omega) (by omega))]
def M_bal (μ : MS) : Bool := allB (fun q => decide (μ.1 19 (μ.1 7 q) * μ.1 9 q = μ.1 19 (μ.1 8 q) * μ.1 10 q)) (μ.1 1 0) 0
def M_rdiv (d : Nat) : Nat → MS → MS := fun n ν => mN ν 19 n (ν.1 19 n / d)
def M_sp1 (μ : MS) : MR := M_spread μ 4782969
def M_sp2 (x : MR) : MS := (M_spread x.1 (x.1.1 24 0)).1
def M_d (ν : MS) : Nat := gG (ν.1 19) (ν.1 0 0) 0 0
def M_red (ν : MS) : MS := itr (M_rdiv (M_d ν)) (ν.1 0 0) 0 ν
def M_sum (ν : MS) : Nat := sF (fun j => ν.1 19 j / M_d ν) (ν.1 0 0) 0 0
def M_rep2 (ν : MS) : Nat × MS := if M_bal ν = true then (if 200 < M_sum ν then 3 else 0, M_red ν) else (2, ν)
def M_rep1 (x : MR) : Nat × MS := if x.2 = x.1.1 0 0 then M_rep2 (M_sp2 x) else (1, x.1)
def M_rep (μ : MS) : Nat × MS := if μ.1 0 0 = 0 then (1, μ) else M_rep1 (M_sp1 μ)
theorem M_rep_z {μ : MS} (h : μ.1 0 0 = 0) : M_rep μ = (1, μ) := if_pos h
theorem M_rep_n {μ : MS} {x : MR} (h : 0 < μ.1 0 0) (hg : M_sp1 μ = x) (h1 : ¬ x.2 = x.1.1 0 0) : M_rep μ = (1, x.1) := by
  rw [M_rep, if_neg (by omega), hg, M_rep1, if_neg h1]
theorem M_rep_u {μ ν : MS} {x : MR} (h : 0 < μ.1 0 0) (hg : M_sp1 μ = x) (h1 : x.2 = x.1.1 0 0) (hg2 : M_sp2 x = ν) (hb : M_bal ν = false) : M_rep μ = (2, ν) := by
  rw [M_rep, if_neg (by omega), hg, M_rep1, if_pos h1, hg2, M_rep2, if_neg (by rw [hb]; decide)]
theorem M_rep_s {μ ν : MS} {x : MR} (h : 0 < μ.1 0 0) (hg : M_sp1 μ = x) (h1 : x.2 = x.1.1 0 0) (hg2 : M_sp2 x = ν) (hb : M_bal ν = true) (hs : M_sum ν ≤ 200) : M_rep μ = (0, M_red ν) := by
  rw [M_rep, if_neg (by omega), hg, M_rep1, if_pos h1, hg2, M_rep2, if_pos hb, if_neg (by omega)]
theorem M_rep_o {μ ν : MS} {x : MR} (h : 0 < μ.1 0 0) (hg : M_sp1 μ = x) (h1 : x.2 = x.1.1 0 0) (hg2 : M_sp2 x = ν) (hb : M_bal ν = true) (hs : 200 < M_sum ν) : M_rep μ = (3, M_red ν) := by
  rw [M_rep, if_neg (by omega), hg, M_rep1, if_pos h1, hg2, M_rep2, if_pos hb, if_pos hs]
def RepC2 (ν : MS) : Prop := MNet ν ∧ (∀ n, n < ν.1 0 0 → ν.1 19 n < 2 ^ 50) ∧ (M_bal ν = true → 0 < M_d ν)
def RepC1 (x : MR) : Prop := x.2 = x.1.1 0 0 → (∃ J, SpC J ∧ J (M_spr0 x.1 (x.1.1 24 0))) ∧ RepC2 (M_sp2 x)
def RepC (μ : MS) : Prop := MNet μ ∧ (∃ J, SpC J ∧ J (M_spr0 μ 4782969)) ∧ RepC1 (M_sp1 μ)
set_option maxRecDepth 100000 in
set_option maxHeartbeats 4000000 in
theorem lp_X4_gcd {p : Program} {l : Launch} {ev : Env} {R : Room} {s : State} {m : MethodId} {args : Array Value} {below : List Frame} {meth : Method} {c : Code} {cells slots : Nat} {Q : State → Prop} {D : va_G} {cy : Nat → ClassId} {bd : Nat → Nat} {A : Nat → Prop} (hx : p.tables.exec = Jvm.exec) (hb : c.code = cX4_divisor) (hml : c.maxLocals = 11) (hU : ∀ w ∈ UW, w.before args s = true) (hown : s.vm.findClass RX4 = some m.cls) (hR : 0 ≤ R.frames ∧ 32 * 0 ≤ R.locals) (hcs : cells ≤ R.cells ∧ slots ≤ R.slots) {μ : MS} {a b : Nat} :
    ∀ (k i x y : Nat) (H : Heap) (locs : List Loc) (ls : Array Slot), i + k = 200 → x < 2 ^ 63 → y < 2 ^ 63 → XM D cy bd s A H locs μ → lv_has ls 11 [(0, .long (lN a)), (2, .long (lN b)), (4, .long (lN x)), (6, .long (lN y)), (8, .int (nI i))] → (∀ (H : Heap) (locs : List Loc) (ls : Array Slot), XM D cy bd s A H locs μ → lv_has ls 11 [(4, .long (lN (gcdS k x y)))] → W p l ev R s m args below meth c H locs cells slots Q (F0 m 45 ls [])) → W p l ev R s m args below meth c H locs cells slots Q (F0 m 9 ls []) := by
  intro k
  induction k with
  | zero =>
    intro i x y H locs ls hc hx0 hy h hl K
    refine lv_iload hx hb dX4_divisor_9 (lv_at hl 4 rfl) ?_
    refine lv_sipush (v := nI 200) hx hb dX4_divisor_11 (by decide +kernel) ?_
    refine n_icmp_ge (tgt := 45) hx hb (by omega) (by omega) dX4_divisor_14 (by decide) (fun c_14 => ?_) (fun c_14 => absurd c_14 (by omega))
    exact K _ _ _ h (lv_sub hl [2] rfl)
  | succ k ih =>
    intro i x y H locs ls hc hx0 hy h hl K
    refine lv_iload hx hb dX4_divisor_9 (lv_at hl 4 rfl) ?_
    refine lv_sipush (v := nI 200) hx hb dX4_divisor_11 (by decide +kernel) ?_
    refine n_icmp_ge (tgt := 45) hx hb (by omega) (by omega) dX4_divisor_14 (by decide) (fun c_14 => absurd c_14 (by omega)) (fun c_14 => ?_)
    refine lv_lload hx hb dX4_divisor_17 (lv_at hl 3 rfl) ?_
    refine lv_lconst (v := lN 0) hx hb dX4_divisor_19 (by decide +kernel) ?_
    refine W.lcmp hx hb dX4_divisor_20 ?_
    refine n_lif_eq (tgt := 45) hx hb hy (by decide) dX4_divisor_21 (by decide) (fun c_21 => ?_) (fun c_21 => ?_)
    · rw [show gcdS (k + 1) x y = x from by show (if y = 0 then x else _) = x; rw [if_pos c_21]] at K
      exact K _ _ _ h (lv_sub hl [2] rfl)
    · refine lv_lload hx hb dX4_divisor_24 (lv_at hl 2 rfl) ?_
      refine lv_lload hx hb dX4_divisor_26 (lv_at hl 3 rfl) ?_
      refine n_lrem hx hb hx0 (Nat.pos_of_ne_zero c_21) hy dX4_divisor_28 ?_
      refine lv_lstore (lv' := [(9, .long (lN (x % y))), (0, .long (lN a)), (2, .long (lN b)), (4, .long (lN x)), (6, .long (lN y)), (8, .int (nI i))]) hx hb dX4_divisor_29 hl (by decide) rfl (fun ls hl => ?_)
      refine lv_lload hx hb dX4_divisor_31 (lv_at hl 4 rfl) ?_
      refine lv_lstore (lv' := [(4, .long (lN y)), (9, .long (lN (x % y))), (0, .long (lN a)), (2, .long (lN b)), (6, .long (lN y)), (8, .int (nI i))]) hx hb dX4_divisor_33 hl (by decide) rfl (fun ls hl => ?_)
      refine lv_lload hx hb dX4_divisor_35 (lv_at hl 1 rfl) ?_
      refine lv_lstore (lv' := [(6, .long (lN (x % y))), (4, .long (lN y)), (9, .long (lN (x % y))), (0, .long (lN a)), (2, .long (lN b)), (8, .int (nI i))]) hx hb dX4_divisor_37 hl (by decide) rfl (fun ls hl => ?_)
      refine lv_iinc (v := nI (i + 1)) (lv' := [(8, .int (nI (i + 1))), (6, .long (lN (x % y))), (4, .long (lN y)), (9, .long (lN (x % y))), (0, .long (lN a)), (2, .long (lN b))]) hx hb dX4_divisor_39 hl (k := 5) rfl (by rw [← nI_add]; rfl) (by decide) rfl (fun ls hl => ?_)
      refine lv_goto (tgt := 9) hx hb dX4_divisor_42 (by decide) ?_
      rw [show gcdS (k + 1) x y = gcdS k y (x % y) from by show (if y = 0 then x else _) = _; rw [if_neg c_21]] at K
      exact ih (i + 1) y (x % y) _ _ _ (by omega) hy (Nat.lt_trans (Nat.mod_lt _ (Nat.pos_of_ne_zero c_21)) hy) h (lv_sub hl [4, 5, 2, 1, 0] rfl) K
set_option maxRecDepth 100000 in
set_option maxHeartbeats 4000000 in
theorem c_X4_divisor (l : Launch) (D : va_G) (cy : Nat → ClassId) (bd : Nat → Nat) (μ : MS) (sz : Nat) {a b : Nat} (ha : a < 2 ^ 63) (hb : b < 2 ^ 63) : MMl l D cy bd yX4_divisor cX4_divisor 11 (rmd 0) [.long (lN a), .long (lN b)] μ sz (fun r u => r = lN (gcdS 200 a b) ∧ u = μ) := by
  refine Met.ofW (cc := cX4_divisor) (maxL := 11) (ret := (some .long)) (by decide) rfl ?_
  intro p ev s m args below meth c s₁ B hml hv
  obtain ⟨rfl, hw⟩ := hv
  have hx := B.exec
  have hb := B.bytes
  have hr := B.returns
  have hlk := B.notSynchronized
  have hU : ∀ w ∈ UW, w.before _ s = true := fun w hw => atoms_spec (ws := Cond.code yX4_divisor cX4_divisor 11 (some .long) :: UW) B.pre w (List.mem_cons_of_mem _ hw)
  have hown : s.vm.findClass RX4 = some m.cls := findClass_of_methodNamed B.named
  have hR : 0 ≤ (headSpec (Cond.code yX4_divisor cX4_divisor 11 (some .long) :: UW) (rmd 0)).room.frames ∧ 32 * 0 ≤ (headSpec (Cond.code yX4_divisor cX4_divisor 11 (some .long) :: UW) (rmd 0)).room.locals := ⟨Nat.le_refl _, Nat.le_refl _⟩
  have hcs : 0 ≤ (headSpec (Cond.code yX4_divisor cX4_divisor 11 (some .long) :: UW) (rmd 0)).room.cells ∧ 0 ≤ (headSpec (Cond.code yX4_divisor cX4_divisor 11 (some .long) :: UW) (rmd 0)).room.slots := ⟨Nat.zero_le _, Nat.zero_le _⟩
  have h := WX.start hw
  clear hw
  generalize va_A (wv _ _ _) _ = A at h ⊢
  have hl := lv_entry ([.long (lN a), .long (lN b)]) (n := 11) (Nat.le_of_ble_eq_true rfl)
  rw [lg_entry_eq]
  generalize (lg_sl ([.long (lN a), .long (lN b)]) ++ List.replicate (11 - (lg_sl ([.long (lN a), .long (lN b)])).length) Slot.unset).toArray = ls at hl ⊢
  have hl : lv_has ls 11 [(0, .long (lN a)), (2, .long (lN b))] := hl
  have hb9 : b < 2 ^ 63 := by assumption
  have hb := B.bytes
  refine lv_lload_n hx hb dX4_divisor_0 rfl (lv_at hl 0 rfl) ?_
  refine lv_lstore (lv' := [(4, .long (lN a)), (0, .long (lN a)), (2, .long (lN b))]) hx hb dX4_divisor_1 hl (by decide) rfl (fun ls hl => ?_)
  refine lv_lload_n hx hb dX4_divisor_3 rfl (lv_at hl 2 rfl) ?_
  refine lv_lstore (lv' := [(6, .long (lN b)), (4, .long (lN a)), (0, .long (lN a)), (2, .long (lN b))]) hx hb dX4_divisor_4 hl (by decide) rfl (fun ls hl => ?_)
  refine lv_iconst (v := nI 0) hx hb dX4_divisor_6 (by decide +kernel) ?_
  refine lv_istore (lv' := [(8, .int (nI 0)), (6, .long (lN b)), (4, .long (lN a)), (0, .long (lN a)), (2, .long (lN b))]) hx hb dX4_divisor_7 hl (by decide) rfl (fun ls hl => ?_)
  refine lp_X4_gcd hx hb hml hU hown hR hcs 200 0 a b _ _ _ (by omega) ha hb9 h (lv_sub hl [3, 4, 2, 1, 0] rfl) (fun H locs ls h hl => ?_)
  refine lv_lload hx hb dX4_divisor_45 (lv_at hl 0 rfl) ?_
  exact W.lret (v := lN (gcdS 200 a b)) hx hb hr (fun t ht hW => ⟨⟨_, _, rfl, ⟨rfl, rfl⟩, h.at ht hW⟩, h.2.2.2.2.F ht⟩) h.2.2.2.2.2.2 dX4_divisor_47
set_option maxRecDepth 100000 in
set_option maxHeartbeats 4000000 in
theorem lp_X4_rep1 {p : Program} {l : Launch} {ev : Env} {R : Room} {s : State} {m : MethodId} {args : Array Value} {below : List Frame} {meth : Method} {c : Code} {cells slots : Nat} {Q : State → Prop} {D : va_G} {cy : Nat → ClassId} {bd : Nat → Nat} {A : Nat → Prop} (hx : p.tables.exec = Jvm.exec) (hb : c.code = cX4_repeat) (hml : c.maxLocals = 7) (hU : ∀ w ∈ UW, w.before args s = true) (hown : s.vm.findClass RX4 = some m.cls) (hR : 1 ≤ R.frames ∧ 32 * 1 ≤ R.locals) (hcs : cells ≤ R.cells ∧ slots ≤ R.slots) {τ : MS} (hn : MNet τ) (hr : ∀ n, n < τ.1 0 0 → τ.1 19 n < 2 ^ 50) :
    ∀ (k i : Nat) (H : Heap) (locs : List Loc) (ls : Array Slot), (i + k = τ.1 1 0) → XM D cy bd s A H locs τ → lv_has ls 7 [(0, .ref (bd 0)), (2, .long (lN 0)), (4, .long (lN 0)), (6, .int (nI i))] → (allB (fun q => decide (τ.1 19 (τ.1 7 q) * τ.1 9 q = τ.1 19 (τ.1 8 q) * τ.1 10 q)) k i = true → (∀ (H : Heap) (locs : List Loc) (ls : Array Slot), XM D cy bd s A H locs τ → lv_has ls 7 [(0, .ref (bd 0)), (2, .long (lN 0)), (4, .long (lN 0))] → W p l ev R s m args below meth c H locs cells slots Q (F0 m 99 ls []))) → (allB (fun q => decide (τ.1 19 (τ.1 7 q) * τ.1 9 q = τ.1 19 (τ.1 8 q) * τ.1 10 q)) k i = false → (∀ (H : Heap) (locs : List Loc) (ls : Array Slot), XM D cy bd s A H locs τ → lv_has ls 7 [(0, .ref (bd 0)), (2, .long (lN 0)), (4, .long (lN 0))] → W p l ev R s m args below meth c H locs cells slots Q (F0 m 91 ls []))) → W p l ev R s m args below meth c H locs cells slots Q (F0 m 36 ls []) := by
  intro k
  induction k with
  | zero =>
    intro i H locs ls hc h hl K1 K2
    have h8 := hn.2.1
    refine lv_iload hx hb dX4_repeat_36 (lv_at hl 3 rfl) ?_
    refine lv_aload_n hx hb dX4_repeat_38 rfl (lv_at hl 0 rfl) ?_
    refine m_g hx hb hU hown h 1 (by decide) ufX4_78 (v := .int (nI (τ.1 1 0))) rfl dX4_repeat_39 ?_
    refine n_icmp_ge (tgt := 99) hx hb (by omega) (by omega) dX4_repeat_42 (by decide) (fun c_42 => ?_) (fun c_42 => absurd c_42 (by omega))
    exact K1 rfl _ _ _ h (lv_sub hl [0, 1, 2] rfl)
  | succ k ih =>
    intro i H locs ls hc h hl K1 K2
    have h8 := hn.1
    have h12 := hn.2.1
    have h9 := hn.2.2 i (by omega)
    have h3 : τ.1 19 (τ.1 7 i) * τ.1 9 i < 2 ^ 63 := Nat.lt_of_le_of_lt (Nat.mul_le_mul_left _ h9.2.2.2.1) (by have := hr (τ.1 7 i) h9.1; omega)
    have h4 : τ.1 19 (τ.1 8 i) * τ.1 10 i < 2 ^ 63 := Nat.lt_of_le_of_lt (Nat.mul_le_mul_left _ h9.2.2.2.2.2.1) (by have := hr (τ.1 8 i) h9.2.1; omega)
    refine lv_iload hx hb dX4_repeat_36 (lv_at hl 3 rfl) ?_
    refine lv_aload_n hx hb dX4_repeat_38 rfl (lv_at hl 0 rfl) ?_
    refine m_g hx hb hU hown h 1 (by decide) ufX4_78 (v := .int (nI (τ.1 1 0))) rfl dX4_repeat_39 ?_
    refine n_icmp_ge (tgt := 99) hx hb (by omega) (by omega) dX4_repeat_42 (by decide) (fun c_42 => absurd c_42 (by omega)) (fun c_42 => ?_)
    refine lv_aload_n hx hb dX4_repeat_45 rfl (lv_at hl 0 rfl) ?_
    refine m_g hx hb hU hown h 19 (by decide) ufX4_55 (v := .ref (bd 16)) rfl dX4_repeat_46 ?_
    refine lv_aload_n hx hb dX4_repeat_49 rfl (lv_at hl 0 rfl) ?_
    refine m_g hx hb hU hown h 7 (by decide) ufX4_22 (v := .ref (bd 5)) rfl dX4_repeat_50 ?_
    refine lv_iload hx hb dX4_repeat_53 (lv_at hl 3 rfl) ?_
    refine m_iN hx hb h 7 12 ⟨rfl, by unfold mA; omega⟩ rfl (by omega) (v := τ.1 7 i) rfl dX4_repeat_55 ?_
    refine m_iL hx hb h (by omega) (v := τ.1 19 (τ.1 7 i)) rfl dX4_repeat_56 ?_
    refine lv_aload_n hx hb dX4_repeat_57 rfl (lv_at hl 0 rfl) ?_
    refine m_g hx hb hU hown h 9 (by decide) ufX4_28 (v := .ref (bd 7)) rfl dX4_repeat_58 ?_
    refine lv_iload hx hb dX4_repeat_61 (lv_at hl 3 rfl) ?_
    refine m_iN hx hb h 9 12 ⟨rfl, by unfold mA; omega⟩ rfl (by omega) (v := τ.1 9 i) rfl dX4_repeat_63 ?_
    refine n_i2l hx hb (by omega) dX4_repeat_64 ?_
    refine n_lmul hx hb dX4_repeat_65 ?_
    refine lv_aload_n hx hb dX4_repeat_66 rfl (lv_at hl 0 rfl) ?_
    refine m_g hx hb hU hown h 19 (by decide) ufX4_55 (v := .ref (bd 16)) rfl dX4_repeat_67 ?_
    refine lv_aload_n hx hb dX4_repeat_70 rfl (lv_at hl 0 rfl) ?_
    refine m_g hx hb hU hown h 8 (by decide) ufX4_25 (v := .ref (bd 6)) rfl dX4_repeat_71 ?_
    refine lv_iload hx hb dX4_repeat_74 (lv_at hl 3 rfl) ?_
    refine m_iN hx hb h 8 12 ⟨rfl, by unfold mA; omega⟩ rfl (by omega) (v := τ.1 8 i) rfl dX4_repeat_76 ?_
    refine m_iL hx hb h (by omega) (v := τ.1 19 (τ.1 8 i)) rfl dX4_repeat_77 ?_
    refine lv_aload_n hx hb dX4_repeat_78 rfl (lv_at hl 0 rfl) ?_
    refine m_g hx hb hU hown h 10 (by decide) ufX4_31 (v := .ref (bd 8)) rfl dX4_repeat_79 ?_
    refine lv_iload hx hb dX4_repeat_82 (lv_at hl 3 rfl) ?_
    refine m_iN hx hb h 10 12 ⟨rfl, by unfold mA; omega⟩ rfl (by omega) (v := τ.1 10 i) rfl dX4_repeat_84 ?_
    refine n_i2l hx hb (by omega) dX4_repeat_85 ?_
    refine n_lmul hx hb dX4_repeat_86 ?_
    refine W.lcmp hx hb dX4_repeat_87 ?_
    refine n_lif_eq (tgt := 93) hx hb h3 h4 dX4_repeat_88 (by decide) (fun c_88 => ?_) (fun c_88 => ?_)
    · refine lv_iinc (v := nI (i + 1)) (lv' := [(6, .int (nI (i + 1))), (0, .ref (bd 0)), (2, .long (lN 0)), (4, .long (lN 0))]) hx hb dX4_repeat_93 hl (k := 3) rfl (by rw [← nI_add]; rfl) (by decide) rfl (fun ls hl => ?_)
      refine lv_goto (tgt := 36) hx hb dX4_repeat_96 (by decide) ?_
      exact ih (i + 1) _ _ _ (by omega) h (lv_sub hl [1, 2, 3, 0] rfl) (fun q => K1 (by rw [allB_go (decide_eq_true c_88)]; exact q)) (fun q => K2 (by rw [allB_go (decide_eq_true c_88)]; exact q))
    · exact K2 (allB_no (decide_eq_false c_88)) _ _ _ h (lv_sub hl [0, 1, 2] rfl)
set_option maxRecDepth 100000 in
set_option maxHeartbeats 4000000 in
theorem lp_X4_rep2 {p : Program} {l : Launch} {ev : Env} {R : Room} {s : State} {m : MethodId} {args : Array Value} {below : List Frame} {meth : Method} {c : Code} {cells slots : Nat} {Q : State → Prop} {D : va_G} {cy : Nat → ClassId} {bd : Nat → Nat} {A : Nat → Prop} (hx : p.tables.exec = Jvm.exec) (hb : c.code = cX4_repeat) (hml : c.maxLocals = 7) (hU : ∀ w ∈ UW, w.before args s = true) (hown : s.vm.findClass RX4 = some m.cls) (hR : 1 ≤ R.frames ∧ 32 * 1 ≤ R.locals) (hcs : cells ≤ R.cells ∧ slots ≤ R.slots) {μ : MS} (h8 : μ.1 0 0 ≤ 8) (hr : ∀ n, n < μ.1 0 0 → μ.1 19 n < 2 ^ 50) :
    ∀ (k i x : Nat) (H : Heap) (locs : List Loc) (ls : Array Slot), i + k = μ.1 0 0 → x < 2 ^ 50 → XM D cy bd s A H locs μ → lv_has ls 7 [(0, .ref (bd 0)), (2, .long (lN x)), (4, .long (lN 0)), (6, .int (nI i))] → (∀ (H : Heap) (locs : List Loc) (ls : Array Slot), XM D cy bd s A H locs μ → lv_has ls 7 [(0, .ref (bd 0)), (2, .long (lN (gG (μ.1 19) k i x))), (4, .long (lN 0))] → W p l ev R s m args below meth c H locs cells slots Q (F0 m 129 ls [])) → W p l ev R s m args below meth c H locs cells slots Q (F0 m 102 ls []) := by
  intro k
  induction k with
  | zero =>
    intro i x H locs ls hc hx0 h hl K
    refine lv_iload hx hb dX4_repeat_102 (lv_at hl 3 rfl) ?_
    refine lv_aload_n hx hb dX4_repeat_104 rfl (lv_at hl 0 rfl) ?_
    refine m_g hx hb hU hown h 0 (by decide) ufX4_75 (v := .int (nI (μ.1 0 0))) rfl dX4_repeat_105 ?_
    refine n_icmp_ge (tgt := 129) hx hb (by omega) (by omega) dX4_repeat_108 (by decide) (fun c_108 => ?_) (fun c_108 => absurd c_108 (by omega))
    exact K _ _ _ h (lv_sub hl [0, 1, 2] rfl)
  | succ k ih =>
    intro i x H locs ls hc hx0 h hl K
    refine lv_iload hx hb dX4_repeat_102 (lv_at hl 3 rfl) ?_
    refine lv_aload_n hx hb dX4_repeat_104 rfl (lv_at hl 0 rfl) ?_
    refine m_g hx hb hU hown h 0 (by decide) ufX4_75 (v := .int (nI (μ.1 0 0))) rfl dX4_repeat_105 ?_
    refine n_icmp_ge (tgt := 129) hx hb (by omega) (by omega) dX4_repeat_108 (by decide) (fun c_108 => absurd c_108 (by omega)) (fun c_108 => ?_)
    refine lv_lload_n hx hb dX4_repeat_111 rfl (lv_at hl 1 rfl) ?_
    refine lv_aload_n hx hb dX4_repeat_112 rfl (lv_at hl 0 rfl) ?_
    refine m_g hx hb hU hown h 19 (by decide) ufX4_55 (v := .ref (bd 16)) rfl dX4_repeat_113 ?_
    refine lv_iload hx hb dX4_repeat_116 (lv_at hl 3 rfl) ?_
    refine m_iL hx hb h (by omega) (v := μ.1 19 i) rfl dX4_repeat_118 ?_
    refine y_callSl hx hb hml hU hown hR hcs h (c_X4_divisor l D cy bd μ _ (a := x) (b := μ.1 19 i) (by omega) (by have := hr i (by omega); omega)) umX4_111 uz_X4_divisor unX4 uc_X4_divisor hd_X4_divisor.2 (by decide) (by decide) hl.1 rfl (Nat.le_of_ble_eq_true rfl) dX4_repeat_119 (fun r u H locs hw h => ?_)
    obtain ⟨rfl, hu⟩ := hw
    have h : XM D cy bd s A H locs μ := by rw [← hu]; exact h
    clear hu
    refine lv_lstore_n (lv' := [(2, .long (lN (gcdS 200 x (μ.1 19 i)))), (0, .ref (bd 0)), (4, .long (lN 0)), (6, .int (nI i))]) hx hb dX4_repeat_122 rfl hl (by decide) rfl (fun ls hl => ?_)
    refine lv_iinc (v := nI (i + 1)) (lv' := [(6, .int (nI (i + 1))), (2, .long (lN (gcdS 200 x (μ.1 19 i)))), (0, .ref (bd 0)), (4, .long (lN 0))]) hx hb dX4_repeat_123 hl (k := 3) rfl (by rw [← nI_add]; rfl) (by decide) rfl (fun ls hl => ?_)
    refine lv_goto (tgt := 102) hx hb dX4_repeat_126 (by decide) ?_
    exact ih (i + 1) (gcdS 200 x (μ.1 19 i)) _ _ _ (by omega) (gcdS_lt _ _ _ hx0 (hr i (by omega))) h (lv_sub hl [2, 1, 3, 0] rfl) K
set_option maxRecDepth 100000 in
set_option maxHeartbeats 4000000 in
theorem lp_X4_rep3 {p : Program} {l : Launch} {ev : Env} {R : Room} {s : State} {m : MethodId} {args : Array Value} {below : List Frame} {meth : Method} {c : Code} {cells slots : Nat} {Q : State → Prop} {D : va_G} {cy : Nat → ClassId} {bd : Nat → Nat} {A : Nat → Prop} (hx : p.tables.exec = Jvm.exec) (hb : c.code = cX4_repeat) (hml : c.maxLocals = 7) (hU : ∀ w ∈ UW, w.before args s = true) (hown : s.vm.findClass RX4 = some m.cls) (hR : 1 ≤ R.frames ∧ 32 * 1 ≤ R.locals) (hcs : cells ≤ R.cells ∧ slots ≤ R.slots) {d : Nat} (h0 : 0 < d) (hd : d < 2 ^ 63) :
    ∀ (k i x : Nat) (τ : MS) (H : Heap) (locs : List Loc) (ls : Array Slot), (i + k = τ.1 0 0 ∧ τ.1 0 0 ≤ 8 ∧ ∀ n, i ≤ n → n < τ.1 0 0 → τ.1 19 n < 2 ^ 50) → XM D cy bd s A H locs τ → lv_has ls 7 [(0, .ref (bd 0)), (2, .long (lN d)), (4, .long (lN x)), (6, .int (nI i))] → (∀ (H : Heap) (locs : List Loc) (ls : Array Slot), XM D cy bd s A H locs (itr (M_rdiv d) k i τ) → lv_has ls 7 [(0, .ref (bd 0)), (4, .long (lN (sF (fun j => τ.1 19 j / d) k i x)))] → W p l ev R s m args below meth c H locs cells slots Q (F0 m 175 ls [])) → W p l ev R s m args below meth c H locs cells slots Q (F0 m 132 ls []) := by
  intro k
  induction k with
  | zero =>
    intro i x τ H locs ls hc h hl K
    refine lv_iload hx hb dX4_repeat_132 (lv_at hl 3 rfl) ?_
    refine lv_aload_n hx hb dX4_repeat_134 rfl (lv_at hl 0 rfl) ?_
    refine m_g hx hb hU hown h 0 (by decide) ufX4_75 (v := .int (nI (τ.1 0 0))) rfl dX4_repeat_135 ?_
    refine n_icmp_ge (tgt := 175) hx hb (by omega) (by omega) dX4_repeat_138 (by decide) (fun c_138 => ?_) (fun c_138 => absurd c_138 (by omega))
    exact K _ _ _ h (lv_sub hl [0, 2] rfl)
  | succ k ih =>
    intro i x τ H locs ls hc h hl K
    refine lv_iload hx hb dX4_repeat_132 (lv_at hl 3 rfl) ?_
    refine lv_aload_n hx hb dX4_repeat_134 rfl (lv_at hl 0 rfl) ?_
    refine m_g hx hb hU hown h 0 (by decide) ufX4_75 (v := .int (nI (τ.1 0 0))) rfl dX4_repeat_135 ?_
    refine n_icmp_ge (tgt := 175) hx hb (by omega) (by omega) dX4_repeat_138 (by decide) (fun c_138 => absurd c_138 (by omega)) (fun c_138 => ?_)
    refine lv_aload_n hx hb dX4_repeat_141 rfl (lv_at hl 0 rfl) ?_
    refine m_g hx hb hU hown h 19 (by decide) ufX4_55 (v := .ref (bd 16)) rfl dX4_repeat_142 ?_
    refine lv_iload hx hb dX4_repeat_145 (lv_at hl 3 rfl) ?_
    refine lv_aload_n hx hb dX4_repeat_147 rfl (lv_at hl 0 rfl) ?_
    refine m_g hx hb hU hown h 19 (by decide) ufX4_55 (v := .ref (bd 16)) rfl dX4_repeat_148 ?_
    refine lv_iload hx hb dX4_repeat_151 (lv_at hl 3 rfl) ?_
    refine m_iL hx hb h (by omega) (v := τ.1 19 i) rfl dX4_repeat_153 ?_
    refine lv_lload_n hx hb dX4_repeat_154 rfl (lv_at hl 1 rfl) ?_
    refine n_ldiv hx hb (by have := hc.2.2 i (Nat.le_refl _) (by omega); omega) h0 hd dX4_repeat_155 ?_
    refine m_sL hx hb h (by omega) dX4_repeat_156 (fun H locs h => ?_)
    refine lv_lload hx hb dX4_repeat_157 (lv_at hl 2 rfl) ?_
    refine lv_aload_n hx hb dX4_repeat_159 rfl (lv_at hl 0 rfl) ?_
    refine m_g hx hb hU hown h 19 (by decide) ufX4_55 (v := .ref (bd 16)) (by first | rfl | (simp [mO, mN, mI, up2]; done)) dX4_repeat_160 ?_
    refine lv_iload hx hb dX4_repeat_163 (lv_at hl 3 rfl) ?_
    refine m_iL hx hb h (by omega) (v := (τ.1 19 i) / d) (by simp [mN, mI, up2]) dX4_repeat_165 ?_
    refine n_ladd hx hb dX4_repeat_166 ?_
    refine lv_lstore (lv' := [(4, .long (lN (x + ((τ.1 19 i) / d)))), (0, .ref (bd 0)), (2, .long (lN d)), (6, .int (nI i))]) hx hb dX4_repeat_167 hl (by decide) rfl (fun ls hl => ?_)
    refine lv_iinc (v := nI (i + 1)) (lv' := [(6, .int (nI (i + 1))), (4, .long (lN (x + ((τ.1 19 i) / d)))), (0, .ref (bd 0)), (2, .long (lN d))]) hx hb dX4_repeat_169 hl (k := 3) rfl (by rw [← nI_add]; rfl) (by decide) rfl (fun ls hl => ?_)
    refine lv_goto (tgt := 132) hx hb dX4_repeat_172 (by decide) ?_
    have e2 : sF (fun j => (mN τ 19 i (τ.1 19 i / d)).1 19 j / d) k (i + 1) (x + τ.1 19 i / d) = sF (fun j => τ.1 19 j / d) k (i + 1) (x + τ.1 19 i / d) := sF_congr _ _ _ (fun j h1 h2 => by show (up2 τ.1 19 i _ 19 j) / d = _; rw [up2_n _ _ _ _ (by omega)])
    refine ih (i + 1) (x + τ.1 19 i / d) (mN τ 19 i (τ.1 19 i / d)) _ _ _ ⟨by rw [mN_k _ _ _ _ (by decide)]; omega, by rw [mN_k _ _ _ _ (by decide)]; exact hc.2.1, fun n h1 h2 => by rw [mN_k _ _ _ _ (by decide)] at h2; show up2 τ.1 19 i _ 19 n < _; rw [up2_n _ _ _ _ (by omega)]; exact hc.2.2 n (by omega) h2⟩ h (lv_sub hl [2, 3, 1, 0] rfl) ?_
    rw [e2]
    exact K
set_option maxRecDepth 100000 in
set_option maxHeartbeats 4000000 in
theorem c_X4_repeat (l : Launch) (D : va_G) (cy : Nat → ClassId) (bd : Nat → Nat) (μ : MS) (sz : Nat) (hC : RepC μ) : MMi l D cy bd yX4_repeat cX4_repeat 7 .int (rmd 1) [.ref (bd 0)] μ sz (fun r u => r = nI (M_rep μ).1 ∧ u = (M_rep μ).2) := by
  refine Met.ofW (cc := cX4_repeat) (maxL := 7) (ret := (some .int)) (by decide) rfl ?_
  intro p ev s m args below meth c s₁ B hml hv
  obtain ⟨rfl, hw⟩ := hv
  have hx := B.exec
  have hb := B.bytes
  have hr := B.returns
  have hlk := B.notSynchronized
  have hU : ∀ w ∈ UW, w.before _ s = true := fun w hw => atoms_spec (ws := Cond.code yX4_repeat cX4_repeat 7 (some .int) :: UW) B.pre w (List.mem_cons_of_mem _ hw)
  have hown : s.vm.findClass RX4 = some m.cls := findClass_of_methodNamed B.named
  have hR : 1 ≤ (headSpec (Cond.code yX4_repeat cX4_repeat 7 (some .int) :: UW) (rmd 1)).room.frames ∧ 32 * 1 ≤ (headSpec (Cond.code yX4_repeat cX4_repeat 7 (some .int) :: UW) (rmd 1)).room.locals := ⟨Nat.le_refl _, Nat.le_refl _⟩
  have hcs : 0 ≤ (headSpec (Cond.code yX4_repeat cX4_repeat 7 (some .int) :: UW) (rmd 1)).room.cells ∧ 0 ≤ (headSpec (Cond.code yX4_repeat cX4_repeat 7 (some .int) :: UW) (rmd 1)).room.slots := ⟨Nat.zero_le _, Nat.zero_le _⟩
  have h := WX.start hw
  clear hw
  generalize va_A (wv _ _ _) _ = A at h ⊢
  have hl := lv_entry ([.ref (bd 0)]) (n := 7) (Nat.le_of_ble_eq_true rfl)
  rw [lg_entry_eq]
  generalize (lg_sl ([.ref (bd 0)]) ++ List.replicate (7 - (lg_sl ([.ref (bd 0)])).length) Slot.unset).toArray = ls at hl ⊢
  have hl : lv_has ls 7 [(0, .ref (bd 0))] := hl
  have h8 := hC.1.1
  obtain ⟨J, hJ, hJ0⟩ := hC.2.1
  refine lv_aload_n hx hb dX4_repeat_0 rfl (lv_at hl 0 rfl) ?_
  refine m_g hx hb hU hown h 0 (by decide) ufX4_75 (v := .int (nI (μ.1 0 0))) rfl dX4_repeat_1 ?_
  refine n_if_eq (tgt := 17) hx hb (by omega) dX4_repeat_4 (by decide) (fun c_4 => ?_) (fun c_4 => ?_)
  · refine lv_iconst (v := nI 1) hx hb dX4_repeat_17 (by decide +kernel) ?_
    exact W.iret (v := nI 1) hx hb hr (fun t ht hW => ⟨⟨_, _, rfl, (by first | (show nI 1 = nI (M_rep μ).1 ∧ _ = (M_rep μ).2; rw [M_rep_z c_4]; exact ⟨rfl, rfl⟩) | (show nI 1 = nI (M_rep μ).1 ∧ _ = (M_rep μ).2; rw [M_rep_n c_4 hg1 (of_decide_eq_false c_14)]; exact ⟨rfl, rfl⟩)), h.at ht hW⟩, h.2.2.2.2.F ht⟩) h.2.2.2.2.2.2 dX4_repeat_18
  · refine lv_aload_n hx hb dX4_repeat_7 rfl (lv_at hl 0 rfl) ?_
    refine lv_ldc2l (v := lN 4782969) hx hb hown (hU _ ukX4_105) dX4_repeat_8 ?_
    refine y_calli hx hb hml hU hown hR hcs h (c_X4_spread l D cy bd μ _ (v := 4782969) hJ hJ0) umX4_107 ui_X4_spread us_X4_spread unX4 uc_X4_spread hd_X4_spread (by decide) (by decide) (m_recv h) hl.1 rfl (Nat.le_of_ble_eq_true rfl) dX4_repeat_11 (fun r u H locs hw h => ?_)
    obtain ⟨rfl, hu⟩ := hw
    have h : XM D cy bd s A H locs (M_spread μ 4782969).1 := by rw [← hu]; exact h
    clear hu
    have hC2 := hC.2.2
    rw [show M_spread μ 4782969 = M_sp1 μ from rfl] at h ⊢
    generalize hg1 : M_sp1 μ = x1 at h hC2 ⊢
    refine z_if_ne (tgt := 19) hx hb dX4_repeat_14 (by decide) (fun c_14 => ?_) (fun c_14 => ?_)
    · have hq1 : x1.2 = x1.1.1 0 0 := of_decide_eq_true c_14
      have hC3 := hC2 hq1
      obtain ⟨J2, hJ2, hJ20⟩ := hC3.1
      refine lv_aload_n hx hb dX4_repeat_19 rfl (lv_at hl 0 rfl) ?_
      refine lv_aload_n hx hb dX4_repeat_20 rfl (lv_at hl 0 rfl) ?_
      refine m_g hx hb hU hown h 24 (by decide) ufX4_101 (v := .long (lN (x1.1.1 24 0))) rfl dX4_repeat_21 ?_
      refine y_calli hx hb hml hU hown hR hcs h (c_X4_spread l D cy bd x1.1 _ (v := x1.1.1 24 0) hJ2 hJ20) umX4_107 ui_X4_spread us_X4_spread unX4 uc_X4_spread hd_X4_spread (by decide) (by decide) (m_recv h) hl.1 rfl (Nat.le_of_ble_eq_true rfl) dX4_repeat_24 (fun r u H locs hw h => ?_)
      obtain ⟨rfl, hu⟩ := hw
      have h : XM D cy bd s A H locs (M_spread x1.1 (x1.1.1 24 0)).1 := by rw [← hu]; exact h
      clear hu
      have h : XM D cy bd s A H locs (M_sp2 x1) := h
      generalize decide ((M_spread x1.1 (x1.1.1 24 0)).2 = (M_spread x1.1 (x1.1.1 24 0)).1.1 0 0) = bq
      generalize hg2 : M_sp2 x1 = ν at h hC3
      have h2 := hC3.2
      refine lv_istore_n (lv' := [(1, .int (bI bq)), (0, .ref (bd 0))]) hx hb dX4_repeat_27 rfl hl (by decide) rfl (fun ls hl => ?_)
      refine lv_lconst (v := lN 0) hx hb dX4_repeat_28 (by decide +kernel) ?_
      refine lv_lstore_n (lv' := [(2, .long (lN 0)), (1, .int (bI bq)), (0, .ref (bd 0))]) hx hb dX4_repeat_29 rfl hl (by decide) rfl (fun ls hl => ?_)
      refine lv_lconst (v := lN 0) hx hb dX4_repeat_30 (by decide +kernel) ?_
      refine lv_lstore (lv' := [(4, .long (lN 0)), (2, .long (lN 0)), (1, .int (bI bq)), (0, .ref (bd 0))]) hx hb dX4_repeat_31 hl (by decide) rfl (fun ls hl => ?_)
      refine lv_iconst (v := nI 0) hx hb dX4_repeat_33 (by decide +kernel) ?_
      refine lv_istore (lv' := [(6, .int (nI 0)), (4, .long (lN 0)), (2, .long (lN 0)), (1, .int (bI bq)), (0, .ref (bd 0))]) hx hb dX4_repeat_34 hl (by decide) rfl (fun ls hl => ?_)
      refine lp_X4_rep1 hx hb hml hU hown hR hcs h2.1 h2.2.1 (ν.1 1 0) 0 _ _ _ (Nat.zero_add _) h (lv_sub hl [4, 2, 1, 0] rfl) (fun hq H locs ls h hl => ?_) (fun hq H locs ls h hl => ?_)
      · refine lv_iconst (v := nI 0) hx hb dX4_repeat_99 (by decide +kernel) ?_
        refine lv_istore (lv' := [(6, .int (nI 0)), (0, .ref (bd 0)), (2, .long (lN 0)), (4, .long (lN 0))]) hx hb dX4_repeat_100 hl (by decide) rfl (fun ls hl => ?_)
        refine lp_X4_rep2 hx hb hml hU hown hR hcs h2.1.1 h2.2.1 (ν.1 0 0) 0 0 _ _ _ (Nat.zero_add _) (by decide) h (lv_sub hl [1, 2, 3, 0] rfl) (fun H locs ls h hl => ?_)
        have h0 := h2.2.2 hq
        have hd : M_d ν < 2 ^ 50 := gG_lt _ _ _ (by decide) (fun j _ hj => h2.2.1 j (by omega))
        refine lv_iconst (v := nI 0) hx hb dX4_repeat_129 (by decide +kernel) ?_
        refine lv_istore (lv' := [(6, .int (nI 0)), (0, .ref (bd 0)), (2, .long (lN (M_d ν))), (4, .long (lN 0))]) hx hb dX4_repeat_130 hl (by decide) rfl (fun ls hl => ?_)
        refine lp_X4_rep3 hx hb hml hU hown hR hcs h0 (by omega) (ν.1 0 0) 0 0 ν _ _ _ ⟨Nat.zero_add _, h2.1.1, fun n _ hn => h2.2.1 n hn⟩ h (lv_sub hl [1, 2, 3, 0] rfl) (fun H locs ls h hl => ?_)
        have hs : M_sum ν < 2 ^ 63 := Nat.lt_of_le_of_lt (sF_le (B := 2 ^ 50) _ _ _ (fun j _ hj => Nat.le_of_lt (Nat.lt_of_le_of_lt (Nat.div_le_self _ _) (h2.2.1 j (by omega))))) (by have := h2.1.1; omega)
        refine lv_lload hx hb dX4_repeat_175 (lv_at hl 1 rfl) ?_
        refine lv_ldc2l (v := lN 200) hx hb hown (hU _ ukX4_115) dX4_repeat_177 ?_
        refine W.lcmp hx hb dX4_repeat_180 ?_
        refine n_lif_le (tgt := 188) hx hb hs (by decide) dX4_repeat_181 (by decide) (fun c_181 => ?_) (fun c_181 => ?_)
        · refine lv_iconst (v := nI 0) hx hb dX4_repeat_188 (by decide +kernel) ?_
          exact W.iret (v := nI 0) hx hb hr (fun t ht hW => ⟨⟨_, _, rfl, (by show nI 0 = nI (M_rep μ).1 ∧ _ = (M_rep μ).2; rw [M_rep_s c_4 hg1 hq1 hg2 hq c_181]; exact ⟨rfl, rfl⟩), h.at ht hW⟩, h.2.2.2.2.F ht⟩) h.2.2.2.2.2.2 dX4_repeat_189
        · refine lv_iconst (v := nI 3) hx hb dX4_repeat_184 (by decide +kernel) ?_
          refine lv_goto (tgt := 189) hx hb dX4_repeat_185 (by decide) ?_
          exact W.iret (v := nI 3) hx hb hr (fun t ht hW => ⟨⟨_, _, rfl, (by show nI 3 = nI (M_rep μ).1 ∧ _ = (M_rep μ).2; rw [M_rep_o c_4 hg1 hq1 hg2 hq c_181]; exact ⟨rfl, rfl⟩), h.at ht hW⟩, h.2.2.2.2.F ht⟩) h.2.2.2.2.2.2 dX4_repeat_189
      · refine lv_iconst (v := nI 2) hx hb dX4_repeat_91 (by decide +kernel) ?_
        exact W.iret (v := nI 2) hx hb hr (fun t ht hW => ⟨⟨_, _, rfl, (by show nI 2 = nI (M_rep μ).1 ∧ _ = (M_rep μ).2; rw [M_rep_u c_4 hg1 hq1 hg2 hq]; exact ⟨rfl, rfl⟩), h.at ht hW⟩, h.2.2.2.2.F ht⟩) h.2.2.2.2.2.2 dX4_repeat_92
    · refine lv_iconst (v := nI 1) hx hb dX4_repeat_17 (by decide +kernel) ?_
      exact W.iret (v := nI 1) hx hb hr (fun t ht hW => ⟨⟨_, _, rfl, (by first | (show nI 1 = nI (M_rep μ).1 ∧ _ = (M_rep μ).2; rw [M_rep_z c_4]; exact ⟨rfl, rfl⟩) | (show nI 1 = nI (M_rep μ).1 ∧ _ = (M_rep μ).2; rw [M_rep_n c_4 hg1 (of_decide_eq_false c_14)]; exact ⟨rfl, rfl⟩)), h.at ht hW⟩, h.2.2.2.2.F ht⟩) h.2.2.2.2.2.2 dX4_repeat_18
def M_may (μ : MS) (n : Nat) : Bool := decide (μ.1 20 n ≠ μ.1 19 n) && allB (fun q => decide (μ.1 8 q = n → μ.1 10 q ≤ μ.1 21 q)) (μ.1 1 0) 0
def MayB (τ : MS) : Prop := MNet τ ∧ (∀ n, n < τ.1 0 0 → τ.1 20 n < 2 ^ 20 ∧ τ.1 19 n < 2 ^ 50) ∧ ∀ q, q < τ.1 1 0 → τ.1 21 q < 2 ^ 20 ∧ τ.1 22 q < 2 ^ 20
set_option maxRecDepth 100000 in
set_option maxHeartbeats 4000000 in
theorem lp_X4_mayFire {p : Program} {l : Launch} {ev : Env} {R : Room} {s : State} {m : MethodId} {args : Array Value} {below : List Frame} {meth : Method} {c : Code} {cells slots : Nat} {Q : State → Prop} {D : va_G} {cy : Nat → ClassId} {bd : Nat → Nat} {A : Nat → Prop} (hx : p.tables.exec = Jvm.exec) (hb : c.code = cX4_mayFire) (hml : c.maxLocals = 3) (hU : ∀ w ∈ UW, w.before args s = true) (hown : s.vm.findClass RX4 = some m.cls) (hR : 0 ≤ R.frames ∧ 32 * 0 ≤ R.locals) (hcs : cells ≤ R.cells ∧ slots ≤ R.slots) {τ : MS} {n : Nat} (hn : n < 2 ^ 20) (hB : MayB τ) :
    ∀ (k i : Nat) (H : Heap) (locs : List Loc) (ls : Array Slot), (i + k = τ.1 1 0) → XM D cy bd s A H locs τ → lv_has ls 3 [(0, .ref (bd 0)), (1, .int (nI n)), (2, .int (nI i))] → (allB (fun q => decide (τ.1 8 q = n → τ.1 10 q ≤ τ.1 21 q)) k i = true → (∀ (H : Heap) (locs : List Loc) (ls : Array Slot), XM D cy bd s A H locs τ → lv_has ls 3 [(0, .ref (bd 0))] → W p l ev R s m args below meth c H locs cells slots Q (F0 m 62 ls []))) → (allB (fun q => decide (τ.1 8 q = n → τ.1 10 q ≤ τ.1 21 q)) k i = false → (∀ (H : Heap) (locs : List Loc) (ls : Array Slot), XM D cy bd s A H locs τ → lv_has ls 3 [(0, .ref (bd 0))] → W p l ev R s m args below meth c H locs cells slots Q (F0 m 54 ls []))) → W p l ev R s m args below meth c H locs cells slots Q (F0 m 21 ls []) := by
  intro k
  induction k with
  | zero =>
    intro i H locs ls hc h hl K1 K2
    have h12 := hB.1.2.1
    refine lv_iload_n hx hb dX4_mayFire_21 rfl (lv_at hl 2 rfl) ?_
    refine lv_aload_n hx hb dX4_mayFire_22 rfl (lv_at hl 0 rfl) ?_
    refine m_g hx hb hU hown h 1 (by decide) ufX4_78 (v := .int (nI (τ.1 1 0))) rfl dX4_mayFire_23 ?_
    refine n_icmp_ge (tgt := 62) hx hb (by omega) (by omega) dX4_mayFire_26 (by decide) (fun c_26 => ?_) (fun c_26 => absurd c_26 (by omega))
    exact K1 rfl _ _ _ h (lv_sub hl [0] rfl)
  | succ k ih =>
    intro i H locs ls hc h hl K1 K2
    have h8 := hB.1.1
    have h12 := hB.1.2.1
    have h9 := hB.1.2.2 i (by omega)
    have h10 := hB.2.2 i (by omega)
    refine lv_iload_n hx hb dX4_mayFire_21 rfl (lv_at hl 2 rfl) ?_
    refine lv_aload_n hx hb dX4_mayFire_22 rfl (lv_at hl 0 rfl) ?_
    refine m_g hx hb hU hown h 1 (by decide) ufX4_78 (v := .int (nI (τ.1 1 0))) rfl dX4_mayFire_23 ?_
    refine n_icmp_ge (tgt := 62) hx hb (by omega) (by omega) dX4_mayFire_26 (by decide) (fun c_26 => absurd c_26 (by omega)) (fun c_26 => ?_)
    refine lv_aload_n hx hb dX4_mayFire_29 rfl (lv_at hl 0 rfl) ?_
    refine m_g hx hb hU hown h 8 (by decide) ufX4_25 (v := .ref (bd 6)) rfl dX4_mayFire_30 ?_
    refine lv_iload_n hx hb dX4_mayFire_33 rfl (lv_at hl 2 rfl) ?_
    refine m_iN hx hb h 8 12 ⟨rfl, by unfold mA; omega⟩ rfl (by omega) (v := τ.1 8 i) rfl dX4_mayFire_34 ?_
    refine lv_iload_n hx hb dX4_mayFire_35 rfl (lv_at hl 1 rfl) ?_
    refine n_icmp_ne (tgt := 56) hx hb (by omega) (by omega) dX4_mayFire_36 (by decide) (fun c_36 => ?_) (fun c_36 => ?_)
    · refine lv_iinc (v := nI (i + 1)) (lv' := [(2, .int (nI (i + 1))), (0, .ref (bd 0)), (1, .int (nI n))]) hx hb dX4_mayFire_56 hl (k := 2) rfl (by rw [← nI_add]; rfl) (by decide) rfl (fun ls hl => ?_)
      refine lv_goto (tgt := 21) hx hb dX4_mayFire_59 (by decide) ?_
      exact ih (i + 1) _ _ _ (by omega) h (lv_sub hl [1, 2, 0] rfl) (fun q => K1 (by rw [allB_go (decide_eq_true (by first | exact fun q => absurd q c_36 | exact fun _ => c_51))]; exact q)) (fun q => K2 (by rw [allB_go (decide_eq_true (by first | exact fun q => absurd q c_36 | exact fun _ => c_51))]; exact q))
    · refine lv_aload_n hx hb dX4_mayFire_39 rfl (lv_at hl 0 rfl) ?_
      refine m_g hx hb hU hown h 21 (by decide) ufX4_62 (v := .ref (bd 18)) rfl dX4_mayFire_40 ?_
      refine lv_iload_n hx hb dX4_mayFire_43 rfl (lv_at hl 2 rfl) ?_
      refine m_iN hx hb h 21 12 ⟨rfl, by unfold mA; omega⟩ rfl (by omega) (v := τ.1 21 i) rfl dX4_mayFire_44 ?_
      refine lv_aload_n hx hb dX4_mayFire_45 rfl (lv_at hl 0 rfl) ?_
      refine m_g hx hb hU hown h 10 (by decide) ufX4_31 (v := .ref (bd 8)) rfl dX4_mayFire_46 ?_
      refine lv_iload_n hx hb dX4_mayFire_49 rfl (lv_at hl 2 rfl) ?_
      refine m_iN hx hb h 10 12 ⟨rfl, by unfold mA; omega⟩ rfl (by omega) (v := τ.1 10 i) rfl dX4_mayFire_50 ?_
      refine n_icmp_ge (tgt := 56) hx hb (by omega) (by omega) dX4_mayFire_51 (by decide) (fun c_51 => ?_) (fun c_51 => ?_)
      · refine lv_iinc (v := nI (i + 1)) (lv' := [(2, .int (nI (i + 1))), (0, .ref (bd 0)), (1, .int (nI n))]) hx hb dX4_mayFire_56 hl (k := 2) rfl (by rw [← nI_add]; rfl) (by decide) rfl (fun ls hl => ?_)
        refine lv_goto (tgt := 21) hx hb dX4_mayFire_59 (by decide) ?_
        exact ih (i + 1) _ _ _ (by omega) h (lv_sub hl [1, 2, 0] rfl) (fun q => K1 (by rw [allB_go (decide_eq_true (by first | exact fun q => absurd q c_36 | exact fun _ => c_51))]; exact q)) (fun q => K2 (by rw [allB_go (decide_eq_true (by first | exact fun q => absurd q c_36 | exact fun _ => c_51))]; exact q))
      · exact K2 (allB_no (decide_eq_false (fun q => absurd (q c_36) (by omega)))) _ _ _ h (lv_sub hl [0] rfl)
set_option maxRecDepth 100000 in
set_option maxHeartbeats 4000000 in
theorem c_X4_mayFire (l : Launch) (D : va_G) (cy : Nat → ClassId) (bd : Nat → Nat) (μ : MS) (sz : Nat) {n : Nat} (hn : n < μ.1 0 0) (hB : MayB μ) : MMi l D cy bd yX4_mayFire cX4_mayFire 3 .boolean (rmd 0) [.ref (bd 0), .int (nI n)] μ sz (fun r u => r = bI (M_may μ n) ∧ u = μ) := by
  refine Met.ofW (cc := cX4_mayFire) (maxL := 3) (ret := (some .boolean)) (by decide) rfl ?_
  intro p ev s m args below meth c s₁ B hml hv
  obtain ⟨rfl, hw⟩ := hv
  have hx := B.exec
  have hb := B.bytes
  have hr := B.returns
  have hlk := B.notSynchronized
  have hU : ∀ w ∈ UW, w.before _ s = true := fun w hw => atoms_spec (ws := Cond.code yX4_mayFire cX4_mayFire 3 (some .boolean) :: UW) B.pre w (List.mem_cons_of_mem _ hw)
  have hown : s.vm.findClass RX4 = some m.cls := findClass_of_methodNamed B.named
  have hR : 0 ≤ (headSpec (Cond.code yX4_mayFire cX4_mayFire 3 (some .boolean) :: UW) (rmd 0)).room.frames ∧ 32 * 0 ≤ (headSpec (Cond.code yX4_mayFire cX4_mayFire 3 (some .boolean) :: UW) (rmd 0)).room.locals := ⟨Nat.le_refl _, Nat.le_refl _⟩
  have hcs : 0 ≤ (headSpec (Cond.code yX4_mayFire cX4_mayFire 3 (some .boolean) :: UW) (rmd 0)).room.cells ∧ 0 ≤ (headSpec (Cond.code yX4_mayFire cX4_mayFire 3 (some .boolean) :: UW) (rmd 0)).room.slots := ⟨Nat.zero_le _, Nat.zero_le _⟩
  have h := WX.start hw
  clear hw
  generalize va_A (wv _ _ _) _ = A at h ⊢
  have hl := lv_entry ([.ref (bd 0), .int (nI n)]) (n := 3) (Nat.le_of_ble_eq_true rfl)
  rw [lg_entry_eq]
  generalize (lg_sl ([.ref (bd 0), .int (nI n)]) ++ List.replicate (3 - (lg_sl ([.ref (bd 0), .int (nI n)])).length) Slot.unset).toArray = ls at hl ⊢
  have hl : lv_has ls 3 [(0, .ref (bd 0)), (1, .int (nI n))] := hl
  have h8 := hB.1.1
  have h9 := hB.2.1 n hn
  refine lv_aload_n hx hb dX4_mayFire_0 rfl (lv_at hl 0 rfl) ?_
  refine m_g hx hb hU hown h 20 (by decide) ufX4_59 (v := .ref (bd 17)) rfl dX4_mayFire_1 ?_
  refine lv_iload_n hx hb dX4_mayFire_4 rfl (lv_at hl 1 rfl) ?_
  refine m_iN hx hb h 20 8 ⟨rfl, by unfold mA; omega⟩ rfl (by omega) (v := μ.1 20 n) rfl dX4_mayFire_5 ?_
  refine n_i2l hx hb (by omega) dX4_mayFire_6 ?_
  refine lv_aload_n hx hb dX4_mayFire_7 rfl (lv_at hl 0 rfl) ?_
  refine m_g hx hb hU hown h 19 (by decide) ufX4_55 (v := .ref (bd 16)) rfl dX4_mayFire_8 ?_
  refine lv_iload_n hx hb dX4_mayFire_11 rfl (lv_at hl 1 rfl) ?_
  refine m_iL hx hb h (by omega) (v := μ.1 19 n) rfl dX4_mayFire_12 ?_
  refine W.lcmp hx hb dX4_mayFire_13 ?_
  refine n_lif_ne (tgt := 19) hx hb (by omega) (by omega) dX4_mayFire_14 (by decide) (fun c_14 => ?_) (fun c_14 => ?_)
  · refine lv_iconst (v := nI 0) hx hb dX4_mayFire_19 (by decide +kernel) ?_
    refine lv_istore_n (lv' := [(2, .int (nI 0)), (0, .ref (bd 0)), (1, .int (nI n))]) hx hb dX4_mayFire_20 rfl hl (by decide) rfl (fun ls hl => ?_)
    refine lp_X4_mayFire hx hb hml hU hown hR hcs (by omega) hB (μ.1 1 0) 0 _ _ _ (Nat.zero_add _) h (lv_sub hl [1, 2, 0] rfl) (fun hq H locs ls h hl => ?_) (fun hq H locs ls h hl => ?_)
    · refine lv_iconst (v := nI 1) hx hb dX4_mayFire_62 (by decide +kernel) ?_
      exact W.zret (v := nI 1) hx hb hr (by decide +kernel) (fun t ht hW => ⟨⟨_, _, rfl, ⟨(by unfold M_may; first | (rw [hq, decide_eq_true c_14]; rfl) | (rw [decide_eq_false (fun q => q c_14)]; rfl)), rfl⟩, h.at ht hW⟩, h.2.2.2.2.F ht⟩) h.2.2.2.2.2.2 dX4_mayFire_63
    · refine lv_iconst (v := nI 0) hx hb dX4_mayFire_54 (by decide +kernel) ?_
      exact W.zret (v := nI 0) hx hb hr (by decide +kernel) (fun t ht hW => ⟨⟨_, _, rfl, ⟨(by unfold M_may; first | (rw [hq, decide_eq_true c_14]; rfl) | (rw [decide_eq_false (fun q => q c_14)]; rfl)), rfl⟩, h.at ht hW⟩, h.2.2.2.2.F ht⟩) h.2.2.2.2.2.2 dX4_mayFire_55
  · refine lv_iconst (v := nI 0) hx hb dX4_mayFire_17 (by decide +kernel) ?_
    exact W.zret (v := nI 0) hx hb hr (by decide +kernel) (fun t ht hW => ⟨⟨_, _, rfl, ⟨(by unfold M_may; first | (rw [hq, decide_eq_true c_14]; rfl) | (rw [decide_eq_false (fun q => q c_14)]; rfl)), rfl⟩, h.at ht hW⟩, h.2.2.2.2.F ht⟩) h.2.2.2.2.2.2 dX4_mayFire_18
