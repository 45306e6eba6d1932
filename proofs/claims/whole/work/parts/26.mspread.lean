/-! ===== the reference: spread, divisor, repeat ===== -/
def M_sp0 : Nat → MS → MS := fun n ν => mN ν 19 n 0
abbrev MR : Type := MS × Nat
def M_al : Nat → MR → MR := fun e x =>
  if 0 < x.1.1 19 (x.1.1 7 e) ∧ x.1.1 19 (x.1.1 8 e) = 0 then (mN (mN x.1 19 (x.1.1 8 e) (x.1.1 19 (x.1.1 7 e) * x.1.1 9 e / x.1.1 10 e)) 24 0 (x.1.1 24 0 * x.1.1 10 e), x.2 + 1) else
  if 0 < x.1.1 19 (x.1.1 8 e) ∧ x.1.1 19 (x.1.1 7 e) = 0 then (mN (mN x.1 19 (x.1.1 7 e) (x.1.1 19 (x.1.1 8 e) * x.1.1 10 e / x.1.1 9 e)) 24 0 (x.1.1 24 0 * x.1.1 9 e), x.2 + 1) else x
def M_rnd : Nat → MR → MR := fun _ x => itr M_al (x.1.1 1 0) 0 x
def M_spr0 (μ : MS) (v : Nat) : MR := (mN (mN (itr M_sp0 8 0 μ) 19 0 v) 24 0 1, 1)
def M_spread (μ : MS) (v : Nat) : MR := itr M_rnd 8 0 (M_spr0 μ v)
theorem M_spread_eq (μ : MS) (v : Nat) : M_spread μ v = itr M_rnd 8 0 (M_spr0 μ v) := rfl
theorem M_rnd_eq (i : Nat) (x : MR) : M_rnd i x = itr M_al (x.1.1 1 0) 0 x := rfl
/-- what keeps spread in its bounds -/
def SpC (J : MR → Prop) : Prop := ∀ x, J x → (x.1.1 0 0 ≤ 8 ∧ x.1.1 1 0 ≤ 12) ∧ ∀ e, e < x.1.1 1 0 → (x.1.1 7 e < 8 ∧ x.1.1 8 e < 8 ∧ 0 < x.1.1 9 e ∧ x.1.1 9 e ≤ 9 ∧ 0 < x.1.1 10 e ∧ x.1.1 10 e ≤ 9) ∧ (x.1.1 19 (x.1.1 7 e) < 2 ^ 50 ∧ x.1.1 19 (x.1.1 8 e) < 2 ^ 50) ∧ J (M_al e x)
theorem M_al_N (e : Nat) (x : MR) {f : Nat} (n : Nat) (h1 : f ≠ 19) (h2 : f ≠ 24) : (M_al e x).1.1 f n = x.1.1 f n := by
  unfold M_al
  split
  · show (mN (mN _ _ _ _) _ _ _).1 f n = _; rw [mN_k _ _ _ _ h2, mN_k _ _ _ _ h1]
  · split
    · show (mN (mN _ _ _ _) _ _ _).1 f n = _; rw [mN_k _ _ _ _ h2, mN_k _ _ _ _ h1]
    · rfl
theorem M_al_iN : ∀ (k i : Nat) (x : MR) {f : Nat} (n : Nat), f ≠ 19 → f ≠ 24 → (itr M_al k i x).1.1 f n = x.1.1 f n := by
  intro k
  induction k with
  | zero => intro i x f n _ _; rfl
  | succ k ih => intro i x f n h1 h2; exact (ih (i + 1) _ n h1 h2).trans (M_al_N i x n h1 h2)
theorem SpC.step {J : MR → Prop} (h : SpC J) : ∀ (k i : Nat) (x : MR), i + k ≤ x.1.1 1 0 → J x → J (itr M_al k i x) := by
  intro k
  induction k with
  | zero => intro i x _ hj; exact hj
  | succ k ih => intro i x hk hj; exact ih (i + 1) _ (by rw [M_al_N i x 0 (by decide) (by decide)]; omega) ((h x hj).2 i (by omega)).2.2
theorem SpC.rnd {J : MR → Prop} (h : SpC J) : ∀ (k i : Nat) (x : MR), J x → J (itr M_rnd k i x) := by
  intro k
  induction k with
  | zero => intro i x hj; exact hj
  | succ k ih => intro i x hj; exact ih (i + 1) _ (h.step _ _ _ (by omega) hj)
theorem M_al_2 (e : Nat) (x : MR) : (M_al e x).2 ≤ x.2 + 1 := by
  unfold M_al
  split
  · exact Nat.le_refl _
  · split
    · exact Nat.le_refl _
    · exact Nat.le_succ _
theorem M_al_i2 : ∀ (k i : Nat) (x : MR), (itr M_al k i x).2 ≤ x.2 + k := by
  intro k
  induction k with
  | zero => intro i x; exact Nat.le_refl _
  | succ k ih =>
    intro i x
    have h1 := ih (i + 1) (M_al i x)
    have h2 := M_al_2 i x
    show (itr M_al k (i + 1) (M_al i x)).2 ≤ _
    omega
theorem M_rnd_i2 : ∀ (k i : Nat) (x : MR), x.1.1 1 0 ≤ 12 → (itr M_rnd k i x).2 ≤ x.2 + 12 * k := by
  intro k
  induction k with
  | zero => intro i x _; exact Nat.le_refl _
  | succ k ih =>
    intro i x hx
    have h1 := ih (i + 1) (M_rnd i x) (by rw [M_rnd_eq, M_al_iN _ _ _ 0 (by decide) (by decide)]; exact hx)
    have h2 := M_al_i2 (x.1.1 1 0) 0 x
    rw [← M_rnd_eq i x] at h2
    show (itr M_rnd k (i + 1) (M_rnd i x)).2 ≤ _
    omega
set_option maxRecDepth 100000 in
set_option maxHeartbeats 4000000 in
theorem lp_X4_spread1 {p : Program} {l : Launch} {ev : Env} {R : Room} {s : State} {m : MethodId} {args : Array Value} {below : List Frame} {meth : Method} {c : Code} {cells slots : Nat} {Q : State → Prop} {D : va_G} {cy : Nat → ClassId} {bd : Nat → Nat} {A : Nat → Prop} (hx : p.tables.exec = Jvm.exec) (hb : c.code = cX4_spread) (hml : c.maxLocals = 8) (hU : ∀ w ∈ UW, w.before args s = true) (hown : s.vm.findClass RX4 = some m.cls) (hR : 0 ≤ R.frames ∧ 32 * 0 ≤ R.locals) (hcs : cells ≤ R.cells ∧ slots ≤ R.slots) {v : Nat} :
    ∀ (k i : Nat) (τ : MS) (H : Heap) (locs : List Loc) (ls : Array Slot), (i + k = 8) → XM D cy bd s A H locs τ → lv_has ls 8 [(0, .ref (bd 0)), (1, .long (lN v)), (3, .int (nI i))] → (∀ (H : Heap) (locs : List Loc) (ls : Array Slot), XM D cy bd s A H locs (itr M_sp0 k i τ) → lv_has ls 8 [(0, .ref (bd 0)), (1, .long (lN v))] → W p l ev R s m args below meth c H locs cells slots Q (F0 m 21 ls [])) → W p l ev R s m args below meth c H locs cells slots Q (F0 m 2 ls []) := by
  intro k
  induction k with
  | zero =>
    intro i τ H locs ls hc h hl K
    refine lv_iload_n hx hb dX4_spread_2 rfl (lv_at hl 2 rfl) ?_
    refine lv_bipush (v := nI 8) hx hb dX4_spread_3 (by decide +kernel) ?_
    refine n_icmp_ge (tgt := 21) hx hb (by omega) (by omega) dX4_spread_5 (by decide) (fun c_5 => ?_) (fun c_5 => absurd c_5 (by omega))
    exact K _ _ _ h (lv_sub hl [0, 1] rfl)
  | succ k ih =>
    intro i τ H locs ls hc h hl K
    refine lv_iload_n hx hb dX4_spread_2 rfl (lv_at hl 2 rfl) ?_
    refine lv_bipush (v := nI 8) hx hb dX4_spread_3 (by decide +kernel) ?_
    refine n_icmp_ge (tgt := 21) hx hb (by omega) (by omega) dX4_spread_5 (by decide) (fun c_5 => absurd c_5 (by omega)) (fun c_5 => ?_)
    refine lv_aload_n hx hb dX4_spread_8 rfl (lv_at hl 0 rfl) ?_
    refine m_g hx hb hU hown h 19 (by decide) ufX4_55 (v := .ref (bd 16)) rfl dX4_spread_9 ?_
    refine lv_iload_n hx hb dX4_spread_12 rfl (lv_at hl 2 rfl) ?_
    refine lv_lconst (v := lN 0) hx hb dX4_spread_13 (by decide +kernel) ?_
    refine m_sL hx hb h (by omega) dX4_spread_14 (fun H locs h => ?_)
    refine lv_iinc (v := nI (i + 1)) (lv' := [(3, .int (nI (i + 1))), (0, .ref (bd 0)), (1, .long (lN v))]) hx hb dX4_spread_15 hl (k := 2) rfl (by rw [← nI_add]; rfl) (by decide) rfl (fun ls hl => ?_)
    refine lv_goto (tgt := 2) hx hb dX4_spread_18 (by decide) ?_
    exact ih (i + 1) (mN τ 19 i 0) _ _ _ (by omega) h (lv_sub hl [1, 2, 0] rfl) K
set_option maxRecDepth 100000 in
set_option maxHeartbeats 4000000 in
theorem lp_X4_spread2 {p : Program} {l : Launch} {ev : Env} {R : Room} {s : State} {m : MethodId} {args : Array Value} {below : List Frame} {meth : Method} {c : Code} {cells slots : Nat} {Q : State → Prop} {D : va_G} {cy : Nat → ClassId} {bd : Nat → Nat} {A : Nat → Prop} (hx : p.tables.exec = Jvm.exec) (hb : c.code = cX4_spread) (hml : c.maxLocals = 8) (hU : ∀ w ∈ UW, w.before args s = true) (hown : s.vm.findClass RX4 = some m.cls) (hR : 0 ≤ R.frames ∧ 32 * 0 ≤ R.locals) (hcs : cells ≤ R.cells ∧ slots ≤ R.slots) {v j : Nat} {J : MR → Prop} (hJ : SpC J) :
    ∀ (k i : Nat) (x : MR) (H : Heap) (locs : List Loc) (ls : Array Slot), (i + k = x.1.1 1 0 ∧ J x) → XM D cy bd s A H locs x.1 → lv_has ls 8 [(0, .ref (bd 0)), (1, .long (lN v)), (3, .int (nI x.2)), (4, .int (nI j)), (5, .int (nI i))] → (∀ (H : Heap) (locs : List Loc) (ls : Array Slot), XM D cy bd s A H locs (itr M_al k i x).1 → lv_has ls 8 [(0, .ref (bd 0)), (1, .long (lN v)), (3, .int (nI ((itr M_al k i x).2))), (4, .int (nI j))] → W p l ev R s m args below meth c H locs cells slots Q (F0 m 236 ls [])) → W p l ev R s m args below meth c H locs cells slots Q (F0 m 48 ls []) := by
  intro k
  induction k with
  | zero =>
    intro i x H locs ls hc h hl K
    have h8 := (hJ x hc.2).1
    refine lv_iload hx hb dX4_spread_48 (lv_at hl 4 rfl) ?_
    refine lv_aload_n hx hb dX4_spread_50 rfl (lv_at hl 0 rfl) ?_
    refine m_g hx hb hU hown h 1 (by decide) ufX4_78 (v := .int (nI (x.1.1 1 0))) rfl dX4_spread_51 ?_
    refine n_icmp_ge (tgt := 236) hx hb (by omega) (by omega) dX4_spread_54 (by decide) (fun c_54 => ?_) (fun c_54 => absurd c_54 (by omega))
    exact K _ _ _ h (lv_sub hl [0, 1, 2, 3] rfl)
  | succ k ih =>
    intro i x H locs ls hc h hl K
    have h8 := (hJ x hc.2).1
    have h9 := (hJ x hc.2).2 i (by omega)
    refine lv_iload hx hb dX4_spread_48 (lv_at hl 4 rfl) ?_
    refine lv_aload_n hx hb dX4_spread_50 rfl (lv_at hl 0 rfl) ?_
    refine m_g hx hb hU hown h 1 (by decide) ufX4_78 (v := .int (nI (x.1.1 1 0))) rfl dX4_spread_51 ?_
    refine n_icmp_ge (tgt := 236) hx hb (by omega) (by omega) dX4_spread_54 (by decide) (fun c_54 => absurd c_54 (by omega)) (fun c_54 => ?_)
    refine lv_aload_n hx hb dX4_spread_57 rfl (lv_at hl 0 rfl) ?_
    refine m_g hx hb hU hown h 7 (by decide) ufX4_22 (v := .ref (bd 5)) rfl dX4_spread_58 ?_
    refine lv_iload hx hb dX4_spread_61 (lv_at hl 4 rfl) ?_
    refine m_iN hx hb h 7 12 ⟨rfl, by unfold mA; omega⟩ rfl (by omega) (v := x.1.1 7 i) rfl dX4_spread_63 ?_
    refine lv_istore (lv' := [(6, .int (nI (x.1.1 7 i))), (0, .ref (bd 0)), (1, .long (lN v)), (3, .int (nI x.2)), (4, .int (nI j)), (5, .int (nI i))]) hx hb dX4_spread_64 hl (by decide) rfl (fun ls hl => ?_)
    refine lv_aload_n hx hb dX4_spread_66 rfl (lv_at hl 1 rfl) ?_
    refine m_g hx hb hU hown h 8 (by decide) ufX4_25 (v := .ref (bd 6)) rfl dX4_spread_67 ?_
    refine lv_iload hx hb dX4_spread_70 (lv_at hl 5 rfl) ?_
    refine m_iN hx hb h 8 12 ⟨rfl, by unfold mA; omega⟩ rfl (by omega) (v := x.1.1 8 i) rfl dX4_spread_72 ?_
    refine lv_istore (lv' := [(7, .int (nI (x.1.1 8 i))), (6, .int (nI (x.1.1 7 i))), (0, .ref (bd 0)), (1, .long (lN v)), (3, .int (nI x.2)), (4, .int (nI j)), (5, .int (nI i))]) hx hb dX4_spread_73 hl (by decide) rfl (fun ls hl => ?_)
    refine lv_aload_n hx hb dX4_spread_75 rfl (lv_at hl 2 rfl) ?_
    refine m_g hx hb hU hown h 19 (by decide) ufX4_55 (v := .ref (bd 16)) rfl dX4_spread_76 ?_
    refine lv_iload hx hb dX4_spread_79 (lv_at hl 1 rfl) ?_
    refine m_iL hx hb h (by omega) (v := x.1.1 19 (x.1.1 7 i)) rfl dX4_spread_81 ?_
    refine lv_lconst (v := lN 0) hx hb dX4_spread_82 (by decide +kernel) ?_
    refine W.lcmp hx hb dX4_spread_83 ?_
    refine n_lif_le (tgt := 154) hx hb (by omega) (by decide) dX4_spread_84 (by decide) (fun c_84 => ?_) (fun c_84 => ?_)
    · refine lv_aload_n hx hb dX4_spread_154 rfl (lv_at hl 2 rfl) ?_
      refine m_g hx hb hU hown h 19 (by decide) ufX4_55 (v := .ref (bd 16)) rfl dX4_spread_155 ?_
      refine lv_iload hx hb dX4_spread_158 (lv_at hl 0 rfl) ?_
      refine m_iL hx hb h (by omega) (v := x.1.1 19 (x.1.1 8 i)) rfl dX4_spread_160 ?_
      refine lv_lconst (v := lN 0) hx hb dX4_spread_161 (by decide +kernel) ?_
      refine W.lcmp hx hb dX4_spread_162 ?_
      refine n_lif_le (tgt := 230) hx hb (by omega) (by decide) dX4_spread_163 (by decide) (fun c_163 => ?_) (fun c_163 => ?_)
      · refine lv_iinc (v := nI (i + 1)) (lv' := [(5, .int (nI (i + 1))), (7, .int (nI (x.1.1 8 i))), (6, .int (nI (x.1.1 7 i))), (0, .ref (bd 0)), (1, .long (lN v)), (3, .int (nI x.2)), (4, .int (nI j))]) hx hb dX4_spread_230 hl (k := 6) rfl (by rw [← nI_add]; rfl) (by decide) rfl (fun ls hl => ?_)
        refine lv_goto (tgt := 48) hx hb dX4_spread_233 (by decide) ?_
        have ex : M_al i x = (x.1, x.2) := by
          first
          | (exfalso; omega)
          | (exact if_pos ⟨c_84, c_96⟩)
          | (unfold M_al; rw [if_neg (by omega), if_pos (by omega)]; done)
          | (unfold M_al; rw [if_neg (by omega), if_neg (by omega)]; done)
        have h : XM D cy bd s A H locs (M_al i x).1 := by rw [ex]; exact h
        have hl : lv_has ls 8 [(0, .ref (bd 0)), (1, .long (lN v)), (3, .int (nI ((M_al i x).2))), (4, .int (nI j)), (5, .int (nI (i + 1)))] := by rw [ex]; exact lv_sub hl [3, 4, 5, 6, 0] rfl
        exact ih (i + 1) (M_al i x) _ _ _ ⟨by rw [M_al_N i x 0 (by decide) (by decide)]; omega, h9.2.2⟩ h hl K
      · refine lv_aload_n hx hb dX4_spread_166 rfl (lv_at hl 2 rfl) ?_
        refine m_g hx hb hU hown h 19 (by decide) ufX4_55 (v := .ref (bd 16)) rfl dX4_spread_167 ?_
        refine lv_iload hx hb dX4_spread_170 (lv_at hl 1 rfl) ?_
        refine m_iL hx hb h (by omega) (v := x.1.1 19 (x.1.1 7 i)) rfl dX4_spread_172 ?_
        refine lv_lconst (v := lN 0) hx hb dX4_spread_173 (by decide +kernel) ?_
        refine W.lcmp hx hb dX4_spread_174 ?_
        refine n_lif_ne (tgt := 230) hx hb (by omega) (by decide) dX4_spread_175 (by decide) (fun c_175 => ?_) (fun c_175 => ?_)
        · refine lv_iinc (v := nI (i + 1)) (lv' := [(5, .int (nI (i + 1))), (7, .int (nI (x.1.1 8 i))), (6, .int (nI (x.1.1 7 i))), (0, .ref (bd 0)), (1, .long (lN v)), (3, .int (nI x.2)), (4, .int (nI j))]) hx hb dX4_spread_230 hl (k := 6) rfl (by rw [← nI_add]; rfl) (by decide) rfl (fun ls hl => ?_)
          refine lv_goto (tgt := 48) hx hb dX4_spread_233 (by decide) ?_
          have ex : M_al i x = (x.1, x.2) := by
            first
            | (exfalso; omega)
            | (exact if_pos ⟨c_84, c_96⟩)
            | (unfold M_al; rw [if_neg (by omega), if_pos (by omega)]; done)
            | (unfold M_al; rw [if_neg (by omega), if_neg (by omega)]; done)
          have h : XM D cy bd s A H locs (M_al i x).1 := by rw [ex]; exact h
          have hl : lv_has ls 8 [(0, .ref (bd 0)), (1, .long (lN v)), (3, .int (nI ((M_al i x).2))), (4, .int (nI j)), (5, .int (nI (i + 1)))] := by rw [ex]; exact lv_sub hl [3, 4, 5, 6, 0] rfl
          exact ih (i + 1) (M_al i x) _ _ _ ⟨by rw [M_al_N i x 0 (by decide) (by decide)]; omega, h9.2.2⟩ h hl K
        · refine lv_aload_n hx hb dX4_spread_178 rfl (lv_at hl 2 rfl) ?_
          refine m_g hx hb hU hown h 19 (by decide) ufX4_55 (v := .ref (bd 16)) rfl dX4_spread_179 ?_
          refine lv_iload hx hb dX4_spread_182 (lv_at hl 1 rfl) ?_
          refine lv_aload_n hx hb dX4_spread_184 rfl (lv_at hl 2 rfl) ?_
          refine m_g hx hb hU hown h 19 (by decide) ufX4_55 (v := .ref (bd 16)) rfl dX4_spread_185 ?_
          refine lv_iload hx hb dX4_spread_188 (lv_at hl 0 rfl) ?_
          refine m_iL hx hb h (by omega) (v := x.1.1 19 (x.1.1 8 i)) rfl dX4_spread_190 ?_
          refine lv_aload_n hx hb dX4_spread_191 rfl (lv_at hl 2 rfl) ?_
          refine m_g hx hb hU hown h 10 (by decide) ufX4_31 (v := .ref (bd 8)) rfl dX4_spread_192 ?_
          refine lv_iload hx hb dX4_spread_195 (lv_at hl 6 rfl) ?_
          refine m_iN hx hb h 10 12 ⟨rfl, by unfold mA; omega⟩ rfl (by omega) (v := x.1.1 10 i) rfl dX4_spread_197 ?_
          refine n_i2l hx hb (by omega) dX4_spread_198 ?_
          refine n_lmul hx hb dX4_spread_199 ?_
          refine lv_aload_n hx hb dX4_spread_200 rfl (lv_at hl 2 rfl) ?_
          refine m_g hx hb hU hown h 9 (by decide) ufX4_28 (v := .ref (bd 7)) rfl dX4_spread_201 ?_
          refine lv_iload hx hb dX4_spread_204 (lv_at hl 6 rfl) ?_
          refine m_iN hx hb h 9 12 ⟨rfl, by unfold mA; omega⟩ rfl (by omega) (v := x.1.1 9 i) rfl dX4_spread_206 ?_
          refine n_i2l hx hb (by omega) dX4_spread_207 ?_
          refine n_ldiv hx hb (Nat.lt_of_le_of_lt (Nat.mul_le_mul_left _ h9.1.2.2.2.2.2) (by omega)) h9.1.2.2.1 (by omega) dX4_spread_208 ?_
          refine m_sL hx hb h (by omega) dX4_spread_209 (fun H locs h => ?_)
          refine lv_aload_n hx hb dX4_spread_210 rfl (lv_at hl 2 rfl) ?_
          refine lv_aload_n hx hb dX4_spread_211 rfl (lv_at hl 2 rfl) ?_
          refine m_g hx hb hU hown h 24 (by decide) ufX4_101 (v := .long (lN (x.1.1 24 0))) (by first | rfl | (simp [mO, mN, mI, up2]; done)) dX4_spread_212 ?_
          refine lv_aload_n hx hb dX4_spread_215 rfl (lv_at hl 2 rfl) ?_
          refine m_g hx hb hU hown h 9 (by decide) ufX4_28 (v := .ref (bd 7)) (by first | rfl | (simp [mO, mN, mI, up2]; done)) dX4_spread_216 ?_
          refine lv_iload hx hb dX4_spread_219 (lv_at hl 6 rfl) ?_
          refine m_iN hx hb h 9 12 ⟨rfl, by unfold mA; omega⟩ rfl (by omega) (v := x.1.1 9 i) (by simp [mN, mI, up2]) dX4_spread_221 ?_
          refine n_i2l hx hb (by omega) dX4_spread_222 ?_
          refine n_lmul hx hb dX4_spread_223 ?_
          refine m_pL hx hb hU hown h ufX4_101 dX4_spread_224 (fun H locs h => ?_)
          refine lv_iinc (v := nI (x.2 + 1)) (lv' := [(3, .int (nI (x.2 + 1))), (7, .int (nI (x.1.1 8 i))), (6, .int (nI (x.1.1 7 i))), (0, .ref (bd 0)), (1, .long (lN v)), (4, .int (nI j)), (5, .int (nI i))]) hx hb dX4_spread_227 hl (k := 4) rfl (by rw [← nI_add]; rfl) (by decide) rfl (fun ls hl => ?_)
          refine lv_iinc (v := nI (i + 1)) (lv' := [(5, .int (nI (i + 1))), (3, .int (nI (x.2 + 1))), (7, .int (nI (x.1.1 8 i))), (6, .int (nI (x.1.1 7 i))), (0, .ref (bd 0)), (1, .long (lN v)), (4, .int (nI j))]) hx hb dX4_spread_230 hl (k := 6) rfl (by rw [← nI_add]; rfl) (by decide) rfl (fun ls hl => ?_)
          refine lv_goto (tgt := 48) hx hb dX4_spread_233 (by decide) ?_
          have ex : M_al i x = ((mN (mN x.1 19 (x.1.1 7 i) (((x.1.1 19 (x.1.1 8 i)) * (x.1.1 10 i)) / (x.1.1 9 i))) 24 0 ((x.1.1 24 0) * (x.1.1 9 i))), x.2 + 1) := by
            first
            | (exfalso; omega)
            | (exact if_pos ⟨c_84, c_96⟩)
            | (unfold M_al; rw [if_neg (by omega), if_pos (by omega)]; done)
            | (unfold M_al; rw [if_neg (by omega), if_neg (by omega)]; done)
          have h : XM D cy bd s A H locs (M_al i x).1 := by rw [ex]; exact h
          have hl : lv_has ls 8 [(0, .ref (bd 0)), (1, .long (lN v)), (3, .int (nI ((M_al i x).2))), (4, .int (nI j)), (5, .int (nI (i + 1)))] := by rw [ex]; exact lv_sub hl [4, 5, 1, 6, 0] rfl
          exact ih (i + 1) (M_al i x) _ _ _ ⟨by rw [M_al_N i x 0 (by decide) (by decide)]; omega, h9.2.2⟩ h hl K
    · refine lv_aload_n hx hb dX4_spread_87 rfl (lv_at hl 2 rfl) ?_
      refine m_g hx hb hU hown h 19 (by decide) ufX4_55 (v := .ref (bd 16)) rfl dX4_spread_88 ?_
      refine lv_iload hx hb dX4_spread_91 (lv_at hl 0 rfl) ?_
      refine m_iL hx hb h (by omega) (v := x.1.1 19 (x.1.1 8 i)) rfl dX4_spread_93 ?_
      refine lv_lconst (v := lN 0) hx hb dX4_spread_94 (by decide +kernel) ?_
      refine W.lcmp hx hb dX4_spread_95 ?_
      refine n_lif_ne (tgt := 154) hx hb (by omega) (by decide) dX4_spread_96 (by decide) (fun c_96 => ?_) (fun c_96 => ?_)
      · refine lv_aload_n hx hb dX4_spread_154 rfl (lv_at hl 2 rfl) ?_
        refine m_g hx hb hU hown h 19 (by decide) ufX4_55 (v := .ref (bd 16)) rfl dX4_spread_155 ?_
        refine lv_iload hx hb dX4_spread_158 (lv_at hl 0 rfl) ?_
        refine m_iL hx hb h (by omega) (v := x.1.1 19 (x.1.1 8 i)) rfl dX4_spread_160 ?_
        refine lv_lconst (v := lN 0) hx hb dX4_spread_161 (by decide +kernel) ?_
        refine W.lcmp hx hb dX4_spread_162 ?_
        refine n_lif_le (tgt := 230) hx hb (by omega) (by decide) dX4_spread_163 (by decide) (fun c_163 => ?_) (fun c_163 => ?_)
        · refine lv_iinc (v := nI (i + 1)) (lv' := [(5, .int (nI (i + 1))), (7, .int (nI (x.1.1 8 i))), (6, .int (nI (x.1.1 7 i))), (0, .ref (bd 0)), (1, .long (lN v)), (3, .int (nI x.2)), (4, .int (nI j))]) hx hb dX4_spread_230 hl (k := 6) rfl (by rw [← nI_add]; rfl) (by decide) rfl (fun ls hl => ?_)
          refine lv_goto (tgt := 48) hx hb dX4_spread_233 (by decide) ?_
          have ex : M_al i x = (x.1, x.2) := by
            first
            | (exfalso; omega)
            | (exact if_pos ⟨c_84, c_96⟩)
            | (unfold M_al; rw [if_neg (by omega), if_pos (by omega)]; done)
            | (unfold M_al; rw [if_neg (by omega), if_neg (by omega)]; done)
          have h : XM D cy bd s A H locs (M_al i x).1 := by rw [ex]; exact h
          have hl : lv_has ls 8 [(0, .ref (bd 0)), (1, .long (lN v)), (3, .int (nI ((M_al i x).2))), (4, .int (nI j)), (5, .int (nI (i + 1)))] := by rw [ex]; exact lv_sub hl [3, 4, 5, 6, 0] rfl
          exact ih (i + 1) (M_al i x) _ _ _ ⟨by rw [M_al_N i x 0 (by decide) (by decide)]; omega, h9.2.2⟩ h hl K
        · refine lv_aload_n hx hb dX4_spread_166 rfl (lv_at hl 2 rfl) ?_
          refine m_g hx hb hU hown h 19 (by decide) ufX4_55 (v := .ref (bd 16)) rfl dX4_spread_167 ?_
          refine lv_iload hx hb dX4_spread_170 (lv_at hl 1 rfl) ?_
          refine m_iL hx hb h (by omega) (v := x.1.1 19 (x.1.1 7 i)) rfl dX4_spread_172 ?_
          refine lv_lconst (v := lN 0) hx hb dX4_spread_173 (by decide +kernel) ?_
          refine W.lcmp hx hb dX4_spread_174 ?_
          refine n_lif_ne (tgt := 230) hx hb (by omega) (by decide) dX4_spread_175 (by decide) (fun c_175 => ?_) (fun c_175 => ?_)
          · refine lv_iinc (v := nI (i + 1)) (lv' := [(5, .int (nI (i + 1))), (7, .int (nI (x.1.1 8 i))), (6, .int (nI (x.1.1 7 i))), (0, .ref (bd 0)), (1, .long (lN v)), (3, .int (nI x.2)), (4, .int (nI j))]) hx hb dX4_spread_230 hl (k := 6) rfl (by rw [← nI_add]; rfl) (by decide) rfl (fun ls hl => ?_)
            refine lv_goto (tgt := 48) hx hb dX4_spread_233 (by decide) ?_
            have ex : M_al i x = (x.1, x.2) := by
              first
              | (exfalso; omega)
              | (exact if_pos ⟨c_84, c_96⟩)
              | (unfold M_al; rw [if_neg (by omega), if_pos (by omega)]; done)
              | (unfold M_al; rw [if_neg (by omega), if_neg (by omega)]; done)
            have h : XM D cy bd s A H locs (M_al i x).1 := by rw [ex]; exact h
            have hl : lv_has ls 8 [(0, .ref (bd 0)), (1, .long (lN v)), (3, .int (nI ((M_al i x).2))), (4, .int (nI j)), (5, .int (nI (i + 1)))] := by rw [ex]; exact lv_sub hl [3, 4, 5, 6, 0] rfl
            exact ih (i + 1) (M_al i x) _ _ _ ⟨by rw [M_al_N i x 0 (by decide) (by decide)]; omega, h9.2.2⟩ h hl K
          · refine lv_aload_n hx hb dX4_spread_178 rfl (lv_at hl 2 rfl) ?_
            refine m_g hx hb hU hown h 19 (by decide) ufX4_55 (v := .ref (bd 16)) rfl dX4_spread_179 ?_
            refine lv_iload hx hb dX4_spread_182 (lv_at hl 1 rfl) ?_
            refine lv_aload_n hx hb dX4_spread_184 rfl (lv_at hl 2 rfl) ?_
            refine m_g hx hb hU hown h 19 (by decide) ufX4_55 (v := .ref (bd 16)) rfl dX4_spread_185 ?_
            refine lv_iload hx hb dX4_spread_188 (lv_at hl 0 rfl) ?_
            refine m_iL hx hb h (by omega) (v := x.1.1 19 (x.1.1 8 i)) rfl dX4_spread_190 ?_
            refine lv_aload_n hx hb dX4_spread_191 rfl (lv_at hl 2 rfl) ?_
            refine m_g hx hb hU hown h 10 (by decide) ufX4_31 (v := .ref (bd 8)) rfl dX4_spread_192 ?_
            refine lv_iload hx hb dX4_spread_195 (lv_at hl 6 rfl) ?_
            refine m_iN hx hb h 10 12 ⟨rfl, by unfold mA; omega⟩ rfl (by omega) (v := x.1.1 10 i) rfl dX4_spread_197 ?_
            refine n_i2l hx hb (by omega) dX4_spread_198 ?_
            refine n_lmul hx hb dX4_spread_199 ?_
            refine lv_aload_n hx hb dX4_spread_200 rfl (lv_at hl 2 rfl) ?_
            refine m_g hx hb hU hown h 9 (by decide) ufX4_28 (v := .ref (bd 7)) rfl dX4_spread_201 ?_
            refine lv_iload hx hb dX4_spread_204 (lv_at hl 6 rfl) ?_
            refine m_iN hx hb h 9 12 ⟨rfl, by unfold mA; omega⟩ rfl (by omega) (v := x.1.1 9 i) rfl dX4_spread_206 ?_
            refine n_i2l hx hb (by omega) dX4_spread_207 ?_
            refine n_ldiv hx hb (Nat.lt_of_le_of_lt (Nat.mul_le_mul_left _ h9.1.2.2.2.2.2) (by omega)) h9.1.2.2.1 (by omega) dX4_spread_208 ?_
            refine m_sL hx hb h (by omega) dX4_spread_209 (fun H locs h => ?_)
            refine lv_aload_n hx hb dX4_spread_210 rfl (lv_at hl 2 rfl) ?_
            refine lv_aload_n hx hb dX4_spread_211 rfl (lv_at hl 2 rfl) ?_
            refine m_g hx hb hU hown h 24 (by decide) ufX4_101 (v := .long (lN (x.1.1 24 0))) (by first | rfl | (simp [mO, mN, mI, up2]; done)) dX4_spread_212 ?_
            refine lv_aload_n hx hb dX4_spread_215 rfl (lv_at hl 2 rfl) ?_
            refine m_g hx hb hU hown h 9 (by decide) ufX4_28 (v := .ref (bd 7)) (by first | rfl | (simp [mO, mN, mI, up2]; done)) dX4_spread_216 ?_
            refine lv_iload hx hb dX4_spread_219 (lv_at hl 6 rfl) ?_
            refine m_iN hx hb h 9 12 ⟨rfl, by unfold mA; omega⟩ rfl (by omega) (v := x.1.1 9 i) (by simp [mN, mI, up2]) dX4_spread_221 ?_
            refine n_i2l hx hb (by omega) dX4_spread_222 ?_
            refine n_lmul hx hb dX4_spread_223 ?_
            refine m_pL hx hb hU hown h ufX4_101 dX4_spread_224 (fun H locs h => ?_)
            refine lv_iinc (v := nI (x.2 + 1)) (lv' := [(3, .int (nI (x.2 + 1))), (7, .int (nI (x.1.1 8 i))), (6, .int (nI (x.1.1 7 i))), (0, .ref (bd 0)), (1, .long (lN v)), (4, .int (nI j)), (5, .int (nI i))]) hx hb dX4_spread_227 hl (k := 4) rfl (by rw [← nI_add]; rfl) (by decide) rfl (fun ls hl => ?_)
            refine lv_iinc (v := nI (i + 1)) (lv' := [(5, .int (nI (i + 1))), (3, .int (nI (x.2 + 1))), (7, .int (nI (x.1.1 8 i))), (6, .int (nI (x.1.1 7 i))), (0, .ref (bd 0)), (1, .long (lN v)), (4, .int (nI j))]) hx hb dX4_spread_230 hl (k := 6) rfl (by rw [← nI_add]; rfl) (by decide) rfl (fun ls hl => ?_)
            refine lv_goto (tgt := 48) hx hb dX4_spread_233 (by decide) ?_
            have ex : M_al i x = ((mN (mN x.1 19 (x.1.1 7 i) (((x.1.1 19 (x.1.1 8 i)) * (x.1.1 10 i)) / (x.1.1 9 i))) 24 0 ((x.1.1 24 0) * (x.1.1 9 i))), x.2 + 1) := by
              first
              | (exfalso; omega)
              | (exact if_pos ⟨c_84, c_96⟩)
              | (unfold M_al; rw [if_neg (by omega), if_pos (by omega)]; done)
              | (unfold M_al; rw [if_neg (by omega), if_neg (by omega)]; done)
            have h : XM D cy bd s A H locs (M_al i x).1 := by rw [ex]; exact h
            have hl : lv_has ls 8 [(0, .ref (bd 0)), (1, .long (lN v)), (3, .int (nI ((M_al i x).2))), (4, .int (nI j)), (5, .int (nI (i + 1)))] := by rw [ex]; exact lv_sub hl [4, 5, 1, 6, 0] rfl
            exact ih (i + 1) (M_al i x) _ _ _ ⟨by rw [M_al_N i x 0 (by decide) (by decide)]; omega, h9.2.2⟩ h hl K
      · refine lv_aload_n hx hb dX4_spread_99 rfl (lv_at hl 2 rfl) ?_
        refine m_g hx hb hU hown h 19 (by decide) ufX4_55 (v := .ref (bd 16)) rfl dX4_spread_100 ?_
        refine lv_iload hx hb dX4_spread_103 (lv_at hl 0 rfl) ?_
        refine lv_aload_n hx hb dX4_spread_105 rfl (lv_at hl 2 rfl) ?_
        refine m_g hx hb hU hown h 19 (by decide) ufX4_55 (v := .ref (bd 16)) rfl dX4_spread_106 ?_
        refine lv_iload hx hb dX4_spread_109 (lv_at hl 1 rfl) ?_
        refine m_iL hx hb h (by omega) (v := x.1.1 19 (x.1.1 7 i)) rfl dX4_spread_111 ?_
        refine lv_aload_n hx hb dX4_spread_112 rfl (lv_at hl 2 rfl) ?_
        refine m_g hx hb hU hown h 9 (by decide) ufX4_28 (v := .ref (bd 7)) rfl dX4_spread_113 ?_
        refine lv_iload hx hb dX4_spread_116 (lv_at hl 6 rfl) ?_
        refine m_iN hx hb h 9 12 ⟨rfl, by unfold mA; omega⟩ rfl (by omega) (v := x.1.1 9 i) rfl dX4_spread_118 ?_
        refine n_i2l hx hb (by omega) dX4_spread_119 ?_
        refine n_lmul hx hb dX4_spread_120 ?_
        refine lv_aload_n hx hb dX4_spread_121 rfl (lv_at hl 2 rfl) ?_
        refine m_g hx hb hU hown h 10 (by decide) ufX4_31 (v := .ref (bd 8)) rfl dX4_spread_122 ?_
        refine lv_iload hx hb dX4_spread_125 (lv_at hl 6 rfl) ?_
        refine m_iN hx hb h 10 12 ⟨rfl, by unfold mA; omega⟩ rfl (by omega) (v := x.1.1 10 i) rfl dX4_spread_127 ?_
        refine n_i2l hx hb (by omega) dX4_spread_128 ?_
        refine n_ldiv hx hb (Nat.lt_of_le_of_lt (Nat.mul_le_mul_left _ h9.1.2.2.2.1) (by omega)) h9.1.2.2.2.2.1 (by omega) dX4_spread_129 ?_
        refine m_sL hx hb h (by omega) dX4_spread_130 (fun H locs h => ?_)
        refine lv_aload_n hx hb dX4_spread_131 rfl (lv_at hl 2 rfl) ?_
        refine lv_aload_n hx hb dX4_spread_132 rfl (lv_at hl 2 rfl) ?_
        refine m_g hx hb hU hown h 24 (by decide) ufX4_101 (v := .long (lN (x.1.1 24 0))) (by first | rfl | (simp [mO, mN, mI, up2]; done)) dX4_spread_133 ?_
        refine lv_aload_n hx hb dX4_spread_136 rfl (lv_at hl 2 rfl) ?_
        refine m_g hx hb hU hown h 10 (by decide) ufX4_31 (v := .ref (bd 8)) (by first | rfl | (simp [mO, mN, mI, up2]; done)) dX4_spread_137 ?_
        refine lv_iload hx hb dX4_spread_140 (lv_at hl 6 rfl) ?_
        refine m_iN hx hb h 10 12 ⟨rfl, by unfold mA; omega⟩ rfl (by omega) (v := x.1.1 10 i) (by simp [mN, mI, up2]) dX4_spread_142 ?_
        refine n_i2l hx hb (by omega) dX4_spread_143 ?_
        refine n_lmul hx hb dX4_spread_144 ?_
        refine m_pL hx hb hU hown h ufX4_101 dX4_spread_145 (fun H locs h => ?_)
        refine lv_iinc (v := nI (x.2 + 1)) (lv' := [(3, .int (nI (x.2 + 1))), (7, .int (nI (x.1.1 8 i))), (6, .int (nI (x.1.1 7 i))), (0, .ref (bd 0)), (1, .long (lN v)), (4, .int (nI j)), (5, .int (nI i))]) hx hb dX4_spread_148 hl (k := 4) rfl (by rw [← nI_add]; rfl) (by decide) rfl (fun ls hl => ?_)
        refine lv_goto (tgt := 230) hx hb dX4_spread_151 (by decide) ?_
        refine lv_iinc (v := nI (i + 1)) (lv' := [(5, .int (nI (i + 1))), (3, .int (nI (x.2 + 1))), (7, .int (nI (x.1.1 8 i))), (6, .int (nI (x.1.1 7 i))), (0, .ref (bd 0)), (1, .long (lN v)), (4, .int (nI j))]) hx hb dX4_spread_230 hl (k := 6) rfl (by rw [← nI_add]; rfl) (by decide) rfl (fun ls hl => ?_)
        refine lv_goto (tgt := 48) hx hb dX4_spread_233 (by decide) ?_
        have ex : M_al i x = ((mN (mN x.1 19 (x.1.1 8 i) (((x.1.1 19 (x.1.1 7 i)) * (x.1.1 9 i)) / (x.1.1 10 i))) 24 0 ((x.1.1 24 0) * (x.1.1 10 i))), x.2 + 1) := by
          first
          | (exfalso; omega)
          | (exact if_pos ⟨c_84, c_96⟩)
          | (unfold M_al; rw [if_neg (by omega), if_pos (by omega)]; done)
          | (unfold M_al; rw [if_neg (by omega), if_neg (by omega)]; done)
        have h : XM D cy bd s A H locs (M_al i x).1 := by rw [ex]; exact h
        have hl : lv_has ls 8 [(0, .ref (bd 0)), (1, .long (lN v)), (3, .int (nI ((M_al i x).2))), (4, .int (nI j)), (5, .int (nI (i + 1)))] := by rw [ex]; exact lv_sub hl [4, 5, 1, 6, 0] rfl
        exact ih (i + 1) (M_al i x) _ _ _ ⟨by rw [M_al_N i x 0 (by decide) (by decide)]; omega, h9.2.2⟩ h hl K
set_option maxRecDepth 100000 in
set_option maxHeartbeats 4000000 in
theorem lp_X4_spread3 {p : Program} {l : Launch} {ev : Env} {R : Room} {s : State} {m : MethodId} {args : Array Value} {below : List Frame} {meth : Method} {c : Code} {cells slots : Nat} {Q : State → Prop} {D : va_G} {cy : Nat → ClassId} {bd : Nat → Nat} {A : Nat → Prop} (hx : p.tables.exec = Jvm.exec) (hb : c.code = cX4_spread) (hml : c.maxLocals = 8) (hU : ∀ w ∈ UW, w.before args s = true) (hown : s.vm.findClass RX4 = some m.cls) (hR : 0 ≤ R.frames ∧ 32 * 0 ≤ R.locals) (hcs : cells ≤ R.cells ∧ slots ≤ R.slots) {v : Nat} {J : MR → Prop} (hJ : SpC J) :
    ∀ (k i : Nat) (x : MR) (H : Heap) (locs : List Loc) (ls : Array Slot), (i + k = 8 ∧ J x) → XM D cy bd s A H locs x.1 → lv_has ls 8 [(0, .ref (bd 0)), (1, .long (lN v)), (3, .int (nI x.2)), (4, .int (nI i))] → (∀ (H : Heap) (locs : List Loc) (ls : Array Slot), XM D cy bd s A H locs (itr M_rnd k i x).1 → lv_has ls 8 [(0, .ref (bd 0)), (3, .int (nI ((itr M_rnd k i x).2)))] → W p l ev R s m args below meth c H locs cells slots Q (F0 m 242 ls [])) → W p l ev R s m args below meth c H locs cells slots Q (F0 m 38 ls []) := by
  intro k
  induction k with
  | zero =>
    intro i x H locs ls hc h hl K
    have h8 := (hJ x hc.2).1
    refine lv_iload hx hb dX4_spread_38 (lv_at hl 3 rfl) ?_
    refine lv_bipush (v := nI 8) hx hb dX4_spread_40 (by decide +kernel) ?_
    refine n_icmp_ge (tgt := 242) hx hb (by omega) (by omega) dX4_spread_42 (by decide) (fun c_42 => ?_) (fun c_42 => absurd c_42 (by omega))
    exact K _ _ _ h (lv_sub hl [0, 2] rfl)
  | succ k ih =>
    intro i x H locs ls hc h hl K
    have h8 := (hJ x hc.2).1
    refine lv_iload hx hb dX4_spread_38 (lv_at hl 3 rfl) ?_
    refine lv_bipush (v := nI 8) hx hb dX4_spread_40 (by decide +kernel) ?_
    refine n_icmp_ge (tgt := 242) hx hb (by omega) (by omega) dX4_spread_42 (by decide) (fun c_42 => absurd c_42 (by omega)) (fun c_42 => ?_)
    refine lv_iconst (v := nI 0) hx hb dX4_spread_45 (by decide +kernel) ?_
    refine lv_istore (lv' := [(5, .int (nI 0)), (0, .ref (bd 0)), (1, .long (lN v)), (3, .int (nI x.2)), (4, .int (nI i))]) hx hb dX4_spread_46 hl (by decide) rfl (fun ls hl => ?_)
    refine lp_X4_spread2 hx hb hml hU hown hR hcs hJ (x.1.1 1 0) 0 x _ _ _ ⟨Nat.zero_add _, hc.2⟩ h (lv_sub hl [1, 2, 3, 4, 0] rfl) (fun H locs ls h hl => ?_)
    rw [← M_rnd_eq i] at h hl
    refine lv_iinc (v := nI (i + 1)) (lv' := [(4, .int (nI (i + 1))), (0, .ref (bd 0)), (1, .long (lN v)), (3, .int (nI ((M_rnd i x).2)))]) hx hb dX4_spread_236 hl (k := 3) rfl (by rw [← nI_add]; rfl) (by decide) rfl (fun ls hl => ?_)
    refine lv_goto (tgt := 38) hx hb dX4_spread_239 (by decide) ?_
    exact ih (i + 1) (M_rnd i x) _ _ _ ⟨by omega, hJ.step _ _ _ (by omega) hc.2⟩ h (lv_sub hl [1, 2, 3, 0] rfl) K
set_option maxRecDepth 100000 in
set_option maxHeartbeats 4000000 in
theorem c_X4_spread (l : Launch) (D : va_G) (cy : Nat → ClassId) (bd : Nat → Nat) (μ : MS) (sz : Nat) {v : Nat} {J : MR → Prop} (hJ : SpC J) (h0 : J (M_spr0 μ v)) : MMi l D cy bd yX4_spread cX4_spread 8 .boolean (rmd 0) [.ref (bd 0), .long (lN v)] μ sz (fun r u => r = bI (decide ((M_spread μ v).2 = (M_spread μ v).1.1 0 0)) ∧ u = (M_spread μ v).1) := by
  refine Met.ofW (cc := cX4_spread) (maxL := 8) (ret := (some .boolean)) (by decide) rfl ?_
  intro p ev s m args below meth c s₁ B hml hv
  obtain ⟨rfl, hw⟩ := hv
  have hx := B.exec
  have hb := B.bytes
  have hr := B.returns
  have hlk := B.notSynchronized
  have hU : ∀ w ∈ UW, w.before _ s = true := fun w hw => atoms_spec (ws := Cond.code yX4_spread cX4_spread 8 (some .boolean) :: UW) B.pre w (List.mem_cons_of_mem _ hw)
  have hown : s.vm.findClass RX4 = some m.cls := findClass_of_methodNamed B.named
  have hR : 0 ≤ (headSpec (Cond.code yX4_spread cX4_spread 8 (some .boolean) :: UW) (rmd 0)).room.frames ∧ 32 * 0 ≤ (headSpec (Cond.code yX4_spread cX4_spread 8 (some .boolean) :: UW) (rmd 0)).room.locals := ⟨Nat.le_refl _, Nat.le_refl _⟩
  have hcs : 0 ≤ (headSpec (Cond.code yX4_spread cX4_spread 8 (some .boolean) :: UW) (rmd 0)).room.cells ∧ 0 ≤ (headSpec (Cond.code yX4_spread cX4_spread 8 (some .boolean) :: UW) (rmd 0)).room.slots := ⟨Nat.zero_le _, Nat.zero_le _⟩
  have h := WX.start hw
  clear hw
  generalize va_A (wv _ _ _) _ = A at h ⊢
  have hl := lv_entry ([.ref (bd 0), .long (lN v)]) (n := 8) (Nat.le_of_ble_eq_true rfl)
  rw [lg_entry_eq]
  generalize (lg_sl ([.ref (bd 0), .long (lN v)]) ++ List.replicate (8 - (lg_sl ([.ref (bd 0), .long (lN v)])).length) Slot.unset).toArray = ls at hl ⊢
  have hl : lv_has ls 8 [(0, .ref (bd 0)), (1, .long (lN v))] := hl
  refine lv_iconst (v := nI 0) hx hb dX4_spread_0 (by decide +kernel) ?_
  refine lv_istore_n (lv' := [(3, .int (nI 0)), (0, .ref (bd 0)), (1, .long (lN v))]) hx hb dX4_spread_1 rfl hl (by decide) rfl (fun ls hl => ?_)
  refine lp_X4_spread1 hx hb hml hU hown hR hcs  (8) 0 μ _ _ _ (by omega) h (lv_sub hl [1, 2, 0] rfl) (fun H locs ls h hl => ?_)
  refine lv_aload_n hx hb dX4_spread_21 rfl (lv_at hl 0 rfl) ?_
  refine m_g hx hb hU hown h 19 (by decide) ufX4_55 (v := .ref (bd 16)) rfl dX4_spread_22 ?_
  refine lv_iconst (v := nI 0) hx hb dX4_spread_25 (by decide +kernel) ?_
  refine lv_lload_n hx hb dX4_spread_26 rfl (lv_at hl 1 rfl) ?_
  refine m_sL hx hb h (by omega) dX4_spread_27 (fun H locs h => ?_)
  refine lv_aload_n hx hb dX4_spread_28 rfl (lv_at hl 0 rfl) ?_
  refine lv_lconst (v := lN 1) hx hb dX4_spread_29 (by decide +kernel) ?_
  refine m_pL hx hb hU hown h ufX4_101 dX4_spread_30 (fun H locs h => ?_)
  refine lv_iconst (v := nI 1) hx hb dX4_spread_33 (by decide +kernel) ?_
  refine lv_istore_n (lv' := [(3, .int (nI 1)), (0, .ref (bd 0)), (1, .long (lN v))]) hx hb dX4_spread_34 rfl hl (by decide) rfl (fun ls hl => ?_)
  refine lv_iconst (v := nI 0) hx hb dX4_spread_35 (by decide +kernel) ?_
  refine lv_istore (lv' := [(4, .int (nI 0)), (3, .int (nI 1)), (0, .ref (bd 0)), (1, .long (lN v))]) hx hb dX4_spread_36 hl (by decide) rfl (fun ls hl => ?_)
  refine lp_X4_spread3 hx hb hml hU hown hR hcs hJ 8 0 (M_spr0 μ v) _ _ _ ⟨by omega, h0⟩ h (lv_sub hl [2, 3, 1, 0] rfl) (fun H locs ls h hl => ?_)
  have h8 := (hJ _ (hJ.rnd 8 0 _ h0)).1
  have h97 := M_rnd_i2 8 0 (M_spr0 μ v) (hJ _ h0).1.2
  rw [show (M_spr0 μ v).2 = 1 from rfl] at h97
  rw [← M_spread_eq] at h hl h8 h97
  refine lv_iload_n hx hb dX4_spread_242 rfl (lv_at hl 1 rfl) ?_
  refine lv_aload_n hx hb dX4_spread_243 rfl (lv_at hl 0 rfl) ?_
  refine m_g hx hb hU hown h 0 (by decide) ufX4_75 (v := .int (nI ((M_spread μ v).1.1 0 0))) rfl dX4_spread_244 ?_
  refine n_icmp_ne (tgt := 254) hx hb (by omega) (by omega) dX4_spread_247 (by decide) (fun c_247 => ?_) (fun c_247 => ?_)
  · refine lv_iconst (v := nI 0) hx hb dX4_spread_254 (by decide +kernel) ?_
    exact W.zret (v := nI 0) hx hb hr (by decide +kernel) (fun t ht hW => ⟨⟨_, _, rfl, ⟨by first | (rw [decide_eq_true c_247]; rfl) | (rw [decide_eq_false c_247]; rfl), rfl⟩, h.at ht hW⟩, h.2.2.2.2.F ht⟩) h.2.2.2.2.2.2 dX4_spread_255
  · refine lv_iconst (v := nI 1) hx hb dX4_spread_250 (by decide +kernel) ?_
    refine lv_goto (tgt := 255) hx hb dX4_spread_251 (by decide) ?_
    exact W.zret (v := nI 1) hx hb hr (by decide +kernel) (fun t ht hW => ⟨⟨_, _, rfl, ⟨by first | (rw [decide_eq_true c_247]; rfl) | (rw [decide_eq_false c_247]; rfl), rfl⟩, h.at ht hW⟩, h.2.2.2.2.F ht⟩) h.2.2.2.2.2.2 dX4_spread_255
