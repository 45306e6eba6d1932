/-! ===== the reference: plan ===== -/
def M_pl1 : Nat → MS → MS := fun k ν => mN ν 16 k (ν.1 23 k)
def M_pl2 : Nat → MS → MS := fun k ν => mN ν 17 k (ν.1 19 k)
def M_pl3 : Nat → MS → MS := fun k ν => mN ν 18 k (ν.1 22 k)
def M_F (ν : MS) : Nat := sF (ν.1 19) (ν.1 0 0) 0 0
def M_cp1 (F : Nat) (ν : MS) : MS := itr M_pl1 F 0 (mN ν 15 0 F)
def M_cp2 (F : Nat) (ν : MS) : MS := itr M_pl2 (ν.1 0 0) 0 (M_cp1 F ν)
def M_cp (F : Nat) (ν : MS) : MS := itr M_pl3 (ν.1 1 0) 0 (M_cp2 F ν)
def M_plan2 (F : Nat) (y : Bool × MS) : Nat × MS := if y.1 = true then (F, M_start (M_cp F y.2)) else (0, mN y.2 2 0 4)
def M_plan1 (x : Nat × MS) : Nat × MS := if 0 < x.1 then (0, mN x.2 2 0 x.1) else M_plan2 (M_F (mN x.2 2 0 0)) (M_att (mN x.2 2 0 0))
def M_plan (μ : MS) : Nat × MS := M_plan1 (M_rep (mN μ 15 0 0))
theorem itr_pl_N (a b : Nat) : ∀ (k i : Nat) (τ : MS) (f j : Nat), a ≠ b → (itr (fun k ν => mN ν a k (ν.1 b k)) k i τ).1 f j = if f = a ∧ i ≤ j ∧ j < i + k then τ.1 b j else τ.1 f j := by
  intro k
  induction k with
  | zero => intro i τ f j _; rw [if_neg (by omega)]; rfl
  | succ k ih =>
    intro i τ f j hab
    show (itr (fun k ν => mN ν a k (ν.1 b k)) k (i + 1) (mN τ a i (τ.1 b i))).1 f j = _
    rw [ih _ _ _ _ hab, mN_k _ _ _ _ hab.symm]
    by_cases e : f = a ∧ j = i
    · rw [if_neg (by omega), if_pos (by omega), e.1, e.2]; exact up2_eq _ _ _ _
    · rw [show (mN τ a i (τ.1 b i)).1 f j = τ.1 f j from by show up2 τ.1 a i _ f j = _; unfold up2; rw [if_neg e]]
      by_cases e1 : f = a ∧ i + 1 ≤ j ∧ j < i + 1 + k
      · rw [if_pos e1, if_pos (show f = a ∧ i ≤ j ∧ j < i + (k + 1) by omega)]
      · rw [if_neg e1, if_neg (show ¬ (f = a ∧ i ≤ j ∧ j < i + (k + 1)) by omega)]
theorem M_cp1_N (F : Nat) (ν : MS) (f j : Nat) : (M_cp1 F ν).1 f j = if f = 16 ∧ j < F then ν.1 23 j else if f = 15 ∧ j = 0 then F else ν.1 f j := by
  have := itr_pl_N 16 23 F 0 (mN ν 15 0 F) f j (by decide)
  rw [show (M_cp1 F ν).1 f j = _ from this, mN_k _ _ _ _ (by decide)]
  by_cases e : f = 16 ∧ j < F
  · rw [if_pos (by omega), if_pos e]
  · rw [if_neg (by omega), if_neg e]; rfl
theorem M_cp2_N (F : Nat) (ν : MS) (f j : Nat) : (M_cp2 F ν).1 f j = if f = 17 ∧ j < ν.1 0 0 then ν.1 19 j else (M_cp1 F ν).1 f j := by
  have := itr_pl_N 17 19 (ν.1 0 0) 0 (M_cp1 F ν) f j (by decide)
  rw [show (M_cp2 F ν).1 f j = _ from this]
  by_cases e : f = 17 ∧ j < ν.1 0 0
  · rw [if_pos (by omega), if_pos e, M_cp1_N, if_neg (by omega), if_neg (by omega)]
  · rw [if_neg (by omega), if_neg e]
theorem M_cp_N (F : Nat) (ν : MS) (f j : Nat) : (M_cp F ν).1 f j = if f = 18 ∧ j < ν.1 1 0 then ν.1 22 j else if f = 17 ∧ j < ν.1 0 0 then ν.1 19 j else if f = 16 ∧ j < F then ν.1 23 j else if f = 15 ∧ j = 0 then F else ν.1 f j := by
  have := itr_pl_N 18 22 (ν.1 1 0) 0 (M_cp2 F ν) f j (by decide)
  rw [show (M_cp F ν).1 f j = _ from this]
  by_cases e : f = 18 ∧ j < ν.1 1 0
  · rw [if_pos (by omega), if_pos e, M_cp2_N, if_neg (by omega), M_cp1_N, if_neg (by omega), if_neg (by omega)]
  · rw [if_neg (by omega), if_neg e, M_cp2_N]
    by_cases e2 : f = 17 ∧ j < ν.1 0 0
    · rw [if_pos e2, if_pos e2]
    · rw [if_neg e2, if_neg e2, M_cp1_N]
def AttC (ν : MS) : Prop := M_F ν ≤ 200 ∧ MNet ν ∧ ∀ n, n < ν.1 0 0 → ν.1 19 n < 2 ^ 50
theorem M_lay_N : ∀ (k i : Nat) (τ : MS) {f : Nat} (j : Nat), f ≠ 20 → f ≠ 21 → f ≠ 22 → f ≠ 23 → (M_lay k i τ).2.1 f j = τ.1 f j := by
  intro k
  induction k with
  | zero => intro i τ f j _ _ _ _; rfl
  | succ k ih =>
    intro i τ f j h1 h2 h3 h4
    unfold M_lay
    split
    · rw [ih (i + 1) _ j h1 h2 h3 h4, M_step_N, if_neg (by omega), if_neg (by omega), if_neg (by omega), if_neg (by omega)]
    · rfl
theorem M_att_N (σ : MS) {f : Nat} (j : Nat) (h1 : f ≠ 20) (h2 : f ≠ 21) (h3 : f ≠ 22) (h4 : f ≠ 23) : (M_att σ).2.1 f j = σ.1 f j := by
  unfold M_att
  rw [M_lay_N _ _ _ j h1 h2 h3 h4, M_lay0_N, if_neg (by omega), if_neg (by omega)]
theorem M_rep2_le (ν : MS) : (M_rep2 ν).1 ≤ 3 := by
  unfold M_rep2
  generalize M_sum ν = a
  split
  · show (if 200 < a then 3 else 0) ≤ 3
    split <;> omega
  · show 2 ≤ 3
    omega
theorem M_rep1_le (x : MR) : (M_rep1 x).1 ≤ 3 := by
  have h := M_rep2_le (M_sp2 x)
  unfold M_rep1
  generalize M_rep2 (M_sp2 x) = y at h ⊢
  split
  · exact h
  · show 1 ≤ 3
    omega
theorem M_rep_le (μ : MS) : (M_rep μ).1 ≤ 3 := by
  have h := M_rep1_le (M_sp1 μ)
  unfold M_rep
  generalize M_rep1 (M_sp1 μ) = y at h ⊢
  split
  · show 1 ≤ 3
    omega
  · exact h
def PlanM (μ : MS) : Prop := RepC (mN μ 15 0 0) ∧ ((M_rep (mN μ 15 0 0)).1 = 0 → AttC (mN (M_rep (mN μ 15 0 0)).2 2 0 0))
set_option maxRecDepth 100000 in
set_option maxHeartbeats 4000000 in
theorem lp_X4_plan1 {p : Program} {l : Launch} {ev : Env} {R : Room} {s : State} {m : MethodId} {args : Array Value} {below : List Frame} {meth : Method} {c : Code} {cells slots : Nat} {Q : State → Prop} {D : va_G} {cy : Nat → ClassId} {bd : Nat → Nat} {A : Nat → Prop} (hx : p.tables.exec = Jvm.exec) (hb : c.code = cX4_plan) (hml : c.maxLocals = 3) (hU : ∀ w ∈ UW, w.before args s = true) (hown : s.vm.findClass RX4 = some m.cls) (hR : 2 ≤ R.frames ∧ 32 * 2 ≤ R.locals) (hcs : cells ≤ R.cells ∧ slots ≤ R.slots) {F : Nat} :
    ∀ (k i : Nat) (τ : MS) (H : Heap) (locs : List Loc) (ls : Array Slot), (i + k = F ∧ F ≤ 200) → XM D cy bd s A H locs τ → lv_has ls 3 [(0, .ref (bd 0)), (1, .int (nI F)), (2, .int (nI i))] → (∀ (H : Heap) (locs : List Loc) (ls : Array Slot), XM D cy bd s A H locs (itr M_pl1 k i τ) → lv_has ls 3 [(0, .ref (bd 0)), (1, .int (nI F))] → W p l ev R s m args below meth c H locs cells slots Q (F0 m 68 ls [])) → W p l ev R s m args below meth c H locs cells slots Q (F0 m 45 ls []) := by
  intro k
  induction k with
  | zero =>
    intro i τ H locs ls hc h hl K
    refine lv_iload_n hx hb dX4_plan_45 rfl (lv_at hl 2 rfl) ?_
    refine lv_iload_n hx hb dX4_plan_46 rfl (lv_at hl 1 rfl) ?_
    refine n_icmp_ge (tgt := 68) hx hb (by omega) (by omega) dX4_plan_47 (by decide) (fun c_47 => ?_) (fun c_47 => absurd c_47 (by omega))
    exact K _ _ _ h (lv_sub hl [0, 1] rfl)
  | succ k ih =>
    intro i τ H locs ls hc h hl K
    refine lv_iload_n hx hb dX4_plan_45 rfl (lv_at hl 2 rfl) ?_
    refine lv_iload_n hx hb dX4_plan_46 rfl (lv_at hl 1 rfl) ?_
    refine n_icmp_ge (tgt := 68) hx hb (by omega) (by omega) dX4_plan_47 (by decide) (fun c_47 => absurd c_47 (by omega)) (fun c_47 => ?_)
    refine lv_aload_n hx hb dX4_plan_50 rfl (lv_at hl 0 rfl) ?_
    refine m_g hx hb hU hown h 16 (by decide) ufX4_46 (v := .ref (bd 13)) rfl dX4_plan_51 ?_
    refine lv_iload_n hx hb dX4_plan_54 rfl (lv_at hl 2 rfl) ?_
    refine lv_aload_n hx hb dX4_plan_55 rfl (lv_at hl 0 rfl) ?_
    refine m_g hx hb hU hown h 23 (by decide) ufX4_68 (v := .ref (bd 20)) rfl dX4_plan_56 ?_
    refine lv_iload_n hx hb dX4_plan_59 rfl (lv_at hl 2 rfl) ?_
    refine m_iN hx hb h 23 200 ⟨rfl, by unfold mA; omega⟩ rfl (by omega) (v := τ.1 23 i) rfl dX4_plan_60 ?_
    refine m_sN hx hb h 16 200 ⟨rfl, by unfold mA; omega⟩ rfl (by omega) dX4_plan_61 (fun H locs h => ?_)
    refine lv_iinc (v := nI (i + 1)) (lv' := [(2, .int (nI (i + 1))), (0, .ref (bd 0)), (1, .int (nI F))]) hx hb dX4_plan_62 hl (k := 2) rfl (by rw [← nI_add]; rfl) (by decide) rfl (fun ls hl => ?_)
    refine lv_goto (tgt := 45) hx hb dX4_plan_65 (by decide) ?_
    exact ih (i + 1) (mN τ 16 i (τ.1 23 i)) _ _ _ ⟨by omega, hc.2⟩ h (lv_sub hl [1, 2, 0] rfl) K
set_option maxRecDepth 100000 in
set_option maxHeartbeats 4000000 in
theorem lp_X4_plan2 {p : Program} {l : Launch} {ev : Env} {R : Room} {s : State} {m : MethodId} {args : Array Value} {below : List Frame} {meth : Method} {c : Code} {cells slots : Nat} {Q : State → Prop} {D : va_G} {cy : Nat → ClassId} {bd : Nat → Nat} {A : Nat → Prop} (hx : p.tables.exec = Jvm.exec) (hb : c.code = cX4_plan) (hml : c.maxLocals = 3) (hU : ∀ w ∈ UW, w.before args s = true) (hown : s.vm.findClass RX4 = some m.cls) (hR : 2 ≤ R.frames ∧ 32 * 2 ≤ R.locals) (hcs : cells ≤ R.cells ∧ slots ≤ R.slots) {F : Nat} :
    ∀ (k i : Nat) (τ : MS) (H : Heap) (locs : List Loc) (ls : Array Slot), (i + k = τ.1 0 0 ∧ τ.1 0 0 ≤ 8) → XM D cy bd s A H locs τ → lv_has ls 3 [(0, .ref (bd 0)), (1, .int (nI F)), (2, .int (nI i))] → (∀ (H : Heap) (locs : List Loc) (ls : Array Slot), XM D cy bd s A H locs (itr M_pl2 k i τ) → lv_has ls 3 [(0, .ref (bd 0)), (1, .int (nI F))] → W p l ev R s m args below meth c H locs cells slots Q (F0 m 97 ls [])) → W p l ev R s m args below meth c H locs cells slots Q (F0 m 70 ls []) := by
  intro k
  induction k with
  | zero =>
    intro i τ H locs ls hc h hl K
    refine lv_iload_n hx hb dX4_plan_70 rfl (lv_at hl 2 rfl) ?_
    refine lv_aload_n hx hb dX4_plan_71 rfl (lv_at hl 0 rfl) ?_
    refine m_g hx hb hU hown h 0 (by decide) ufX4_75 (v := .int (nI (τ.1 0 0))) rfl dX4_plan_72 ?_
    refine n_icmp_ge (tgt := 97) hx hb (by omega) (by omega) dX4_plan_75 (by decide) (fun c_75 => ?_) (fun c_75 => absurd c_75 (by omega))
    exact K _ _ _ h (lv_sub hl [0, 1] rfl)
  | succ k ih =>
    intro i τ H locs ls hc h hl K
    refine lv_iload_n hx hb dX4_plan_70 rfl (lv_at hl 2 rfl) ?_
    refine lv_aload_n hx hb dX4_plan_71 rfl (lv_at hl 0 rfl) ?_
    refine m_g hx hb hU hown h 0 (by decide) ufX4_75 (v := .int (nI (τ.1 0 0))) rfl dX4_plan_72 ?_
    refine n_icmp_ge (tgt := 97) hx hb (by omega) (by omega) dX4_plan_75 (by decide) (fun c_75 => absurd c_75 (by omega)) (fun c_75 => ?_)
    refine lv_aload_n hx hb dX4_plan_78 rfl (lv_at hl 0 rfl) ?_
    refine m_g hx hb hU hown h 17 (by decide) ufX4_49 (v := .ref (bd 14)) rfl dX4_plan_79 ?_
    refine lv_iload_n hx hb dX4_plan_82 rfl (lv_at hl 2 rfl) ?_
    refine lv_aload_n hx hb dX4_plan_83 rfl (lv_at hl 0 rfl) ?_
    refine m_g hx hb hU hown h 19 (by decide) ufX4_55 (v := .ref (bd 16)) rfl dX4_plan_84 ?_
    refine lv_iload_n hx hb dX4_plan_87 rfl (lv_at hl 2 rfl) ?_
    refine m_iL hx hb h (by omega) (v := τ.1 19 i) rfl dX4_plan_88 ?_
    refine n_l2i hx hb dX4_plan_89 ?_
    refine m_sN hx hb h 17 8 ⟨rfl, by unfold mA; omega⟩ rfl (by omega) dX4_plan_90 (fun H locs h => ?_)
    refine lv_iinc (v := nI (i + 1)) (lv' := [(2, .int (nI (i + 1))), (0, .ref (bd 0)), (1, .int (nI F))]) hx hb dX4_plan_91 hl (k := 2) rfl (by rw [← nI_add]; rfl) (by decide) rfl (fun ls hl => ?_)
    refine lv_goto (tgt := 70) hx hb dX4_plan_94 (by decide) ?_
    exact ih (i + 1) (mN τ 17 i (τ.1 19 i)) _ _ _ ⟨by rw [mN_k _ _ _ _ (by decide)]; omega, by rw [mN_k _ _ _ _ (by decide)]; exact hc.2⟩ h (lv_sub hl [1, 2, 0] rfl) K
set_option maxRecDepth 100000 in
set_option maxHeartbeats 4000000 in
theorem lp_X4_plan3 {p : Program} {l : Launch} {ev : Env} {R : Room} {s : State} {m : MethodId} {args : Array Value} {below : List Frame} {meth : Method} {c : Code} {cells slots : Nat} {Q : State → Prop} {D : va_G} {cy : Nat → ClassId} {bd : Nat → Nat} {A : Nat → Prop} (hx : p.tables.exec = Jvm.exec) (hb : c.code = cX4_plan) (hml : c.maxLocals = 3) (hU : ∀ w ∈ UW, w.before args s = true) (hown : s.vm.findClass RX4 = some m.cls) (hR : 2 ≤ R.frames ∧ 32 * 2 ≤ R.locals) (hcs : cells ≤ R.cells ∧ slots ≤ R.slots) {F : Nat} :
    ∀ (k i : Nat) (τ : MS) (H : Heap) (locs : List Loc) (ls : Array Slot), (i + k = τ.1 1 0 ∧ τ.1 1 0 ≤ 12) → XM D cy bd s A H locs τ → lv_has ls 3 [(0, .ref (bd 0)), (1, .int (nI F)), (2, .int (nI i))] → (∀ (H : Heap) (locs : List Loc) (ls : Array Slot), XM D cy bd s A H locs (itr M_pl3 k i τ) → lv_has ls 3 [(0, .ref (bd 0)), (1, .int (nI F))] → W p l ev R s m args below meth c H locs cells slots Q (F0 m 125 ls [])) → W p l ev R s m args below meth c H locs cells slots Q (F0 m 99 ls []) := by
  intro k
  induction k with
  | zero =>
    intro i τ H locs ls hc h hl K
    refine lv_iload_n hx hb dX4_plan_99 rfl (lv_at hl 2 rfl) ?_
    refine lv_aload_n hx hb dX4_plan_100 rfl (lv_at hl 0 rfl) ?_
    refine m_g hx hb hU hown h 1 (by decide) ufX4_78 (v := .int (nI (τ.1 1 0))) rfl dX4_plan_101 ?_
    refine n_icmp_ge (tgt := 125) hx hb (by omega) (by omega) dX4_plan_104 (by decide) (fun c_104 => ?_) (fun c_104 => absurd c_104 (by omega))
    exact K _ _ _ h (lv_sub hl [0, 1] rfl)
  | succ k ih =>
    intro i τ H locs ls hc h hl K
    refine lv_iload_n hx hb dX4_plan_99 rfl (lv_at hl 2 rfl) ?_
    refine lv_aload_n hx hb dX4_plan_100 rfl (lv_at hl 0 rfl) ?_
    refine m_g hx hb hU hown h 1 (by decide) ufX4_78 (v := .int (nI (τ.1 1 0))) rfl dX4_plan_101 ?_
    refine n_icmp_ge (tgt := 125) hx hb (by omega) (by omega) dX4_plan_104 (by decide) (fun c_104 => absurd c_104 (by omega)) (fun c_104 => ?_)
    refine lv_aload_n hx hb dX4_plan_107 rfl (lv_at hl 0 rfl) ?_
    refine m_g hx hb hU hown h 18 (by decide) ufX4_52 (v := .ref (bd 15)) rfl dX4_plan_108 ?_
    refine lv_iload_n hx hb dX4_plan_111 rfl (lv_at hl 2 rfl) ?_
    refine lv_aload_n hx hb dX4_plan_112 rfl (lv_at hl 0 rfl) ?_
    refine m_g hx hb hU hown h 22 (by decide) ufX4_65 (v := .ref (bd 19)) rfl dX4_plan_113 ?_
    refine lv_iload_n hx hb dX4_plan_116 rfl (lv_at hl 2 rfl) ?_
    refine m_iN hx hb h 22 12 ⟨rfl, by unfold mA; omega⟩ rfl (by omega) (v := τ.1 22 i) rfl dX4_plan_117 ?_
    refine m_sN hx hb h 18 12 ⟨rfl, by unfold mA; omega⟩ rfl (by omega) dX4_plan_118 (fun H locs h => ?_)
    refine lv_iinc (v := nI (i + 1)) (lv' := [(2, .int (nI (i + 1))), (0, .ref (bd 0)), (1, .int (nI F))]) hx hb dX4_plan_119 hl (k := 2) rfl (by rw [← nI_add]; rfl) (by decide) rfl (fun ls hl => ?_)
    refine lv_goto (tgt := 99) hx hb dX4_plan_122 (by decide) ?_
    exact ih (i + 1) (mN τ 18 i (τ.1 22 i)) _ _ _ ⟨by rw [mN_k _ _ _ _ (by decide)]; omega, by rw [mN_k _ _ _ _ (by decide)]; exact hc.2⟩ h (lv_sub hl [1, 2, 0] rfl) K
set_option maxRecDepth 100000 in
set_option maxHeartbeats 4000000 in
theorem c_X4_plan (l : Launch) (D : va_G) (cy : Nat → ClassId) (bd : Nat → Nat) (μ : MS) (sz : Nat) (hP : PlanM μ) : MMi l D cy bd yX4_plan cX4_plan 3 .int (rmd 2) [.ref (bd 0)] μ sz (fun r u => r = nI (M_plan μ).1 ∧ u = (M_plan μ).2) := by
  refine Met.ofW (cc := cX4_plan) (maxL := 3) (ret := (some .int)) (by decide) rfl ?_
  intro p ev s m args below meth c s₁ B hml hv
  obtain ⟨rfl, hw⟩ := hv
  have hx := B.exec
  have hb := B.bytes
  have hr := B.returns
  have hlk := B.notSynchronized
  have hU : ∀ w ∈ UW, w.before _ s = true := fun w hw => atoms_spec (ws := Cond.code yX4_plan cX4_plan 3 (some .int) :: UW) B.pre w (List.mem_cons_of_mem _ hw)
  have hown : s.vm.findClass RX4 = some m.cls := findClass_of_methodNamed B.named
  have hR : 2 ≤ (headSpec (Cond.code yX4_plan cX4_plan 3 (some .int) :: UW) (rmd 2)).room.frames ∧ 32 * 2 ≤ (headSpec (Cond.code yX4_plan cX4_plan 3 (some .int) :: UW) (rmd 2)).room.locals := ⟨Nat.le_refl _, Nat.le_refl _⟩
  have hcs : 0 ≤ (headSpec (Cond.code yX4_plan cX4_plan 3 (some .int) :: UW) (rmd 2)).room.cells ∧ 0 ≤ (headSpec (Cond.code yX4_plan cX4_plan 3 (some .int) :: UW) (rmd 2)).room.slots := ⟨Nat.zero_le _, Nat.zero_le _⟩
  have h := WX.start hw
  clear hw
  generalize va_A (wv _ _ _) _ = A at h ⊢
  have hl := lv_entry ([.ref (bd 0)]) (n := 3) (Nat.le_of_ble_eq_true rfl)
  rw [lg_entry_eq]
  generalize (lg_sl ([.ref (bd 0)]) ++ List.replicate (3 - (lg_sl ([.ref (bd 0)])).length) Slot.unset).toArray = ls at hl ⊢
  have hl : lv_has ls 3 [(0, .ref (bd 0))] := hl
  refine lv_aload_n hx hb dX4_plan_0 rfl (lv_at hl 0 rfl) ?_
  refine lv_iconst (v := nI 0) hx hb dX4_plan_1 (by decide +kernel) ?_
  refine m_p hx hb hU hown h 15 (by decide) ufX4_81 dX4_plan_2 (fun H locs h => ?_)
  refine lv_aload_n hx hb dX4_plan_5 rfl (lv_at hl 0 rfl) ?_
  refine lv_aload_n hx hb dX4_plan_6 rfl (lv_at hl 0 rfl) ?_
  refine y_calli hx hb hml hU hown hR hcs h (c_X4_repeat l D cy bd (mN μ 15 0 0) _ hP.1) umX4_120 ui_X4_repeat us_X4_repeat unX4 uc_X4_repeat hd_X4_repeat (by decide) (by decide) (m_recv h) hl.1 rfl (Nat.le_of_ble_eq_true rfl) dX4_plan_7 (fun r u H locs hw h => ?_)
  obtain ⟨rfl, hu⟩ := hw
  have h : XM D cy bd s A H locs (M_rep (mN μ 15 0 0)).2 := by rw [← hu]; exact h
  clear hu
  have hle := M_rep_le (mN μ 15 0 0)
  have hA := hP.2
  have eP : M_plan μ = M_plan1 (M_rep (mN μ 15 0 0)) := rfl
  generalize M_rep (mN μ 15 0 0) = x at h hle hA eP ⊢
  refine m_p hx hb hU hown h 2 (by decide) ufX4_71 dX4_plan_10 (fun H locs h => ?_)
  refine lv_aload_n hx hb dX4_plan_13 rfl (lv_at hl 0 rfl) ?_
  refine m_g hx hb hU hown h 2 (by decide) ufX4_71 (v := .int (nI x.1)) (by first | rfl | (simp [mO, mN, mI, up2]; done)) dX4_plan_14 ?_
  refine n_if_le (tgt := 22) hx hb (by omega) dX4_plan_17 (by decide) (fun c_17 => ?_) (fun c_17 => ?_)
  · have x0 : x.1 = 0 := by omega
    have hA0 := hA x0
    rw [M_plan1, if_neg (by omega)] at eP
    obtain ⟨xa, xb⟩ := x
    obtain rfl : xa = 0 := x0
    have h : XM D cy bd s A H locs (mN xb 2 0 0) := h
    have hA0 : AttC (mN xb 2 0 0) := hA0
    have eP : M_plan μ = M_plan2 (M_F (mN xb 2 0 0)) (M_att (mN xb 2 0 0)) := eP
    refine lv_aload_n hx hb dX4_plan_22 rfl (lv_at hl 0 rfl) ?_
    refine y_calli hx hb hml hU hown hR hcs h (c_X4_attempt l D cy bd (mN xb 2 0 0) _ hA0.1 hA0.2.1 hA0.2.2) umX4_124 ui_X4_attempt us_X4_attempt unX4 uc_X4_attempt hd_X4_attempt (by decide) (by decide) (m_recv h) hl.1 rfl (Nat.le_of_ble_eq_true rfl) dX4_plan_23 (fun r u H locs hw h => ?_)
    obtain ⟨rfl, hu⟩ := hw
    have h : XM D cy bd s A H locs (M_att (mN xb 2 0 0)).2 := by rw [← hu]; exact h
    clear hu
    have eN : ∀ (f j : Nat), f ≠ 20 → f ≠ 21 → f ≠ 22 → f ≠ 23 → (M_att (mN xb 2 0 0)).2.1 f j = (mN xb 2 0 0).1 f j := fun f j => M_att_N _ j
    have hF : M_F (mN xb 2 0 0) ≤ 200 := hA0.1
    have hn := hA0.2.1
    clear hA0
    rw [show sF ((mN xb 2 0 0).1 19) ((mN xb 2 0 0).1 0 0) 0 0 = M_F (mN xb 2 0 0) from rfl] at ⊢
    generalize M_F (mN xb 2 0 0) = F at hF eP ⊢
    generalize M_att (mN xb 2 0 0) = y at h eN eP ⊢
    by_cases hq : y.1 = true
    · rw [if_pos hq]
      refine lv_istore_n (lv' := [(1, .int (nI F)), (0, .ref (bd 0))]) hx hb dX4_plan_26 rfl hl (by decide) rfl (fun ls hl => ?_)
      refine lv_iload_n hx hb dX4_plan_27 rfl (lv_at hl 0 rfl) ?_
      refine n_if_ge (tgt := 38) hx hb (by omega) dX4_plan_28 (by decide) ?_
      refine lv_aload_n hx hb dX4_plan_38 rfl (lv_at hl 1 rfl) ?_
      refine lv_iload_n hx hb dX4_plan_39 rfl (lv_at hl 0 rfl) ?_
      refine m_p hx hb hU hown h 15 (by decide) ufX4_81 dX4_plan_40 (fun H locs h => ?_)
      refine lv_iconst (v := nI 0) hx hb dX4_plan_43 (by decide +kernel) ?_
      refine lv_istore_n (lv' := [(2, .int (nI 0)), (1, .int (nI F)), (0, .ref (bd 0))]) hx hb dX4_plan_44 rfl hl (by decide) rfl (fun ls hl => ?_)
      refine lp_X4_plan1 hx hb hml hU hown hR hcs F 0 (mN y.2 15 0 F) _ _ _ ⟨Nat.zero_add _, hF⟩ h (lv_sub hl [2, 1, 0] rfl) (fun H locs ls h hl => ?_)
      have h : XM D cy bd s A H locs (M_cp1 F y.2) := h
      have e0 := eN 0 0 (by decide) (by decide) (by decide) (by decide)
      have e1 := eN 1 0 (by decide) (by decide) (by decide) (by decide)
      have a0 : (M_cp1 F y.2).1 0 0 = y.2.1 0 0 := by rw [M_cp1_N, if_neg (by omega), if_neg (by omega)]
      have a1 : (M_cp2 F y.2).1 1 0 = y.2.1 1 0 := by rw [M_cp2_N, if_neg (by omega), M_cp1_N, if_neg (by omega), if_neg (by omega)]
      refine lv_iconst (v := nI 0) hx hb dX4_plan_68 (by decide +kernel) ?_
      refine lv_istore_n (lv' := [(2, .int (nI 0)), (0, .ref (bd 0)), (1, .int (nI F))]) hx hb dX4_plan_69 rfl hl (by decide) rfl (fun ls hl => ?_)
      refine lp_X4_plan2 hx hb hml hU hown hR hcs (y.2.1 0 0) 0 (M_cp1 F y.2) _ _ _ ⟨by rw [a0]; exact Nat.zero_add _, by rw [a0, e0]; exact hn.1⟩ h (lv_sub hl [1, 2, 0] rfl) (fun H locs ls h hl => ?_)
      have h : XM D cy bd s A H locs (M_cp2 F y.2) := h
      refine lv_iconst (v := nI 0) hx hb dX4_plan_97 (by decide +kernel) ?_
      refine lv_istore_n (lv' := [(2, .int (nI 0)), (0, .ref (bd 0)), (1, .int (nI F))]) hx hb dX4_plan_98 rfl hl (by decide) rfl (fun ls hl => ?_)
      refine lp_X4_plan3 hx hb hml hU hown hR hcs (y.2.1 1 0) 0 (M_cp2 F y.2) _ _ _ ⟨by rw [a1]; exact Nat.zero_add _, by rw [a1, e1]; exact hn.2.1⟩ h (lv_sub hl [1, 2, 0] rfl) (fun H locs ls h hl => ?_)
      have h : XM D cy bd s A H locs (M_cp F y.2) := h
      have hC : M_C (M_cp F y.2) := by
        unfold M_C
        rw [M_cp_N, if_neg (by omega), if_neg (by omega), if_neg (by omega), if_neg (by omega), M_cp_N, if_neg (by omega), if_neg (by omega), if_neg (by omega), if_neg (by omega), e0, e1]
        exact ⟨hn.1, hn.2.1⟩
      refine lv_aload_n hx hb dX4_plan_125 rfl (lv_at hl 0 rfl) ?_
      refine y_callv hx hb hml hU hown hR hcs h (c_X4_start l D cy bd (M_cp F y.2) _ hC) umX4_84 ui_X4_start us_X4_start unX4 uc_X4_start hd_X4_start (by decide) (by decide) (m_recv h) hl.1 rfl (Nat.le_of_ble_eq_true rfl) dX4_plan_126 (fun u H locs hw h => ?_)
      have hu := hw
      have h : XM D cy bd s A H locs (M_start (M_cp F y.2)) := by rw [← hu]; exact h
      clear hu
      refine lv_iload_n hx hb dX4_plan_129 rfl (lv_at hl 1 rfl) ?_
      exact W.iret (v := nI F) hx hb hr (fun t ht hW => ⟨⟨_, _, rfl, (by show nI F = nI (M_plan μ).1 ∧ _ = (M_plan μ).2; rw [eP, M_plan2, if_pos hq]; exact ⟨rfl, rfl⟩), h.at ht hW⟩, h.2.2.2.2.F ht⟩) h.2.2.2.2.2.2 dX4_plan_130
    · rw [if_neg hq]
      refine lv_istore_n (lv' := [(1, .int ((-1))), (0, .ref (bd 0))]) hx hb dX4_plan_26 rfl hl (by decide) rfl (fun ls hl => ?_)
      refine lv_iload_n hx hb dX4_plan_27 rfl (lv_at hl 0 rfl) ?_
      refine lv_if_ge (tgt := 38) hx hb dX4_plan_28 (by decide) (fun c_28 => absurd c_28 (by decide)) (fun c_28 => ?_)
      refine lv_aload_n hx hb dX4_plan_31 rfl (lv_at hl 1 rfl) ?_
      refine lv_iconst (v := nI 4) hx hb dX4_plan_32 (by decide +kernel) ?_
      refine m_p hx hb hU hown h 2 (by decide) ufX4_71 dX4_plan_33 (fun H locs h => ?_)
      refine lv_iconst (v := nI 0) hx hb dX4_plan_36 (by decide +kernel) ?_
      exact W.iret (v := nI 0) hx hb hr (fun t ht hW => ⟨⟨_, _, rfl, (by show nI 0 = nI (M_plan μ).1 ∧ _ = (M_plan μ).2; rw [eP, M_plan2, if_neg hq]; exact ⟨rfl, rfl⟩), h.at ht hW⟩, h.2.2.2.2.F ht⟩) h.2.2.2.2.2.2 dX4_plan_37
  · refine lv_iconst (v := nI 0) hx hb dX4_plan_20 (by decide +kernel) ?_
    exact W.iret (v := nI 0) hx hb hr (fun t ht hW => ⟨⟨_, _, rfl, (by show nI 0 = nI (M_plan μ).1 ∧ _ = (M_plan μ).2; rw [eP, M_plan1, if_pos c_17]; exact ⟨rfl, rfl⟩), h.at ht hW⟩, h.2.2.2.2.F ht⟩) h.2.2.2.2.2.2 dX4_plan_21
