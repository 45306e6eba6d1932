/-! ===== plan in both ===== -/
theorem itr_keep2 {α β : Type} {f : Nat → α × β → α × β} (h : ∀ i x, (f i x).2 = x.2) : ∀ (k i : Nat) (x : α × β), (itr f k i x).2 = x.2 := by
  intro k
  induction k with
  | zero => intro i x; rfl
  | succ k ih => intro i x; exact (ih (i + 1) _).trans (h i x)
theorem T_reach_2 (σ : TS) (n v e : Nat) : (T_reach σ n v e).2 = σ.2 := itr_keep2 (f := T_mul e) (fun i x => rfl) (σ.1 20 0) 0 σ
theorem T_along_2 (σ : TS) (q : Nat) : (T_along σ q).2 = σ.2 := by
  rcases T_along_cases σ q with ⟨_, h⟩ | ⟨_, _, h⟩ | ⟨_, _, h⟩
  · rw [h]
  · rw [h]; exact T_reach_2 _ _ _ _
  · rw [h]; exact T_reach_2 _ _ _ _
theorem T_spread_2 (σ : TS) : (T_spread σ).2 = σ.2 :=
  (itr_keep2 (f := T_round) (fun i x => itr_keep2 (f := T_along_s) (fun j y => T_along_2 y j) _ _ x) _ _ _).trans (itr_keep2 (f := T_sp0) (fun _ _ => rfl) _ _ _)
theorem T_reduce_2 (σ : TS) : (T_reduce σ).2 = σ.2 := by
  unfold T_reduce
  split
  · exact itr_keep2 (f := T_div _) (fun _ _ => rfl) _ _ _
  · rfl
theorem T_count_2 (σ : TS) (n : Nat) : (T_count σ n).2 = σ.2 := itr_keep2 (f := T_eFire_s n) (fun _ _ => rfl) _ _ _
theorem T_lay_2 : ∀ (k i : Nat) (τ : TS), (T_lay k i τ).2.2 = τ.2 := by
  intro k
  induction k with
  | zero => intro i τ; rfl
  | succ k ih =>
    intro i τ
    unfold T_lay
    split
    · exact (ih (i + 1) _).trans (T_count_2 _ _)
    · rfl
theorem T_layOut_2 (σ : TS) (F : Nat) : (T_layOut σ F).2.2 = σ.2 := (T_lay_2 _ _ _).trans ((itr_keep2 (f := T_lay_e) (fun _ _ => rfl) _ _ _).trans (itr_keep2 (f := T_lay_f) (fun _ _ => rfl) _ _ _))
theorem M_lay_2 : ∀ (k i : Nat) (τ : MS), (M_lay k i τ).2.2 = τ.2 := by
  have hc : ∀ (n i : Nat) (τ : MS), (M_cnt n i τ).2 = τ.2 := fun n i τ => by unfold M_cnt; split <;> rfl
  intro k
  induction k with
  | zero => intro i τ; rfl
  | succ k ih =>
    intro i τ
    unfold M_lay
    split
    · exact (ih (i + 1) _).trans (itr_keep2 (f := M_cnt (M_next τ)) (fun i x => hc _ i x) _ _ _)
    · rfl
theorem M_att_2 (ν : MS) : (M_att ν).2.2 = ν.2 := (M_lay_2 _ _ _).trans ((itr_keep2 (f := M_lay_e) (fun _ _ => rfl) _ _ _).trans (itr_keep2 (f := M_lay_f) (fun _ _ => rfl) _ _ _))
theorem M_cp_2 (F : Nat) (ν : MS) : (M_cp F ν).2 = ν.2 := (itr_keep2 (f := M_pl3) (fun _ _ => rfl) _ _ _).trans ((itr_keep2 (f := M_pl2) (fun _ _ => rfl) _ _ _).trans (itr_keep2 (f := M_pl1) (fun _ _ => rfl) _ _ _))
/-- the bounds stay small -/
def LayD (τ : TS) : Prop := ∀ q, q < τ.1 21 0 → τ.1 16 q ≤ (if τ.1 10 q = τ.1 11 q ∧ τ.1 12 q = τ.1 13 q then τ.1 14 q else τ.1 14 q + τ.1 12 q * τ.1 4 (τ.1 10 q))
theorem LayD_step {i : Nat} {τ : TS} (hC : LayC i τ) (hD : LayD τ) (hn : T_next τ < τ.1 20 0) : LayD (T_count (sN τ 23 i (T_next τ)) (T_next τ)) := by
  have hC2 := LayC_step hC hn
  generalize T_next τ = n at hC2 ⊢
  have tk : ∀ f j, f ≠ 15 → f ≠ 16 → f ≠ 5 → f ≠ 23 → (T_count (sN τ 23 i n) n).1 f j = τ.1 f j := fun f j h1 h2 h3 h4 => by
    rw [T_step_N, if_neg (by omega), if_neg (by omega), if_neg (by omega), if_neg (by omega)]
  have t16 : ∀ q, q < τ.1 21 0 → (T_count (sN τ 23 i n) n).1 16 q = max (τ.1 16 q) ((T_count (sN τ 23 i n) n).1 15 q) := fun q hq => by
    rw [T_step_N, if_neg (by omega), if_pos ⟨rfl, hq⟩, T_step_N τ i n 15, if_pos ⟨rfl, hq⟩]
  unfold LayD
  rw [tk 21 0 (by decide) (by decide) (by decide) (by decide)]
  intro q hq
  have c3 := hC2.2.2.1 q (by rw [tk 21 0 (by decide) (by decide) (by decide) (by decide)]; exact hq)
  have d := hD q hq
  have a1 := (hC.1.2.2 q hq).1
  have c2 := (hC2.2.1 (τ.1 10 q) (by rw [tk 20 0 (by decide) (by decide) (by decide) (by decide)]; exact a1)).2
  rw [t16 q hq]
  rw [tk 10 q (by decide) (by decide) (by decide) (by decide), tk 11 q (by decide) (by decide) (by decide) (by decide), tk 12 q (by decide) (by decide) (by decide) (by decide), tk 13 q (by decide) (by decide) (by decide) (by decide), tk 14 q (by decide) (by decide) (by decide) (by decide)] at c3 ⊢
  rw [tk 4 _ (by decide) (by decide) (by decide) (by decide)] at c2 ⊢
  by_cases e : τ.1 10 q = τ.1 11 q ∧ τ.1 12 q = τ.1 13 q
  · rw [if_pos e] at d ⊢
    rw [e.1, e.2] at c3
    omega
  · rw [if_neg e] at d ⊢
    have := Nat.mul_le_mul_left (τ.1 12 q) c2
    omega
theorem lay_D : ∀ (k i : Nat) (τ : TS), LayC i τ → LayD τ → LayD (T_lay k i τ).2 := by
  intro k
  induction k with
  | zero => intro i τ _ h; exact h
  | succ k ih =>
    intro i τ hC hD
    unfold T_lay
    by_cases h : T_next τ < τ.1 20 0
    · rw [if_pos h]; exact ih (i + 1) _ (LayC_step hC h) (LayD_step hC hD h)
    · rw [if_neg h]; exact hD
/-- where both begin to lay out -/
theorem lay_start {σ : TS} {ν : MS} (hn : TNet σ) (h : RR σ ν) : LayR 0 (itr T_lay_e (σ.1 21 0) 0 (itr T_lay_f (σ.1 20 0) 0 σ)) (M_lay0 ν) ∧ LayC 0 (itr T_lay_e (σ.1 21 0) 0 (itr T_lay_f (σ.1 20 0) 0 σ)) ∧ LayD (itr T_lay_e (σ.1 21 0) 0 (itr T_lay_f (σ.1 20 0) 0 σ)) := by
  have tk : ∀ f j, f ≠ 15 → f ≠ 16 → f ≠ 5 → (itr T_lay_e (σ.1 21 0) 0 (itr T_lay_f (σ.1 20 0) 0 σ)).1 f j = σ.1 f j := fun f j h1 h2 h3 => by
    rw [itr_lay_e_N, if_neg (by omega), itr_lay_f_N, if_neg (by omega)]
  have t5 : ∀ n, n < σ.1 20 0 → (itr T_lay_e (σ.1 21 0) 0 (itr T_lay_f (σ.1 20 0) 0 σ)).1 5 n = 0 := fun n hn => by
    rw [itr_lay_e_N, if_neg (by omega), itr_lay_f_N, if_pos (by omega)]
  have t15 : ∀ f q, f = 15 ∨ f = 16 → q < σ.1 21 0 → (itr T_lay_e (σ.1 21 0) 0 (itr T_lay_f (σ.1 20 0) 0 σ)).1 f q = σ.1 14 q := fun f q hf hq => by
    rw [itr_lay_e_N, if_pos (by omega), itr_lay_f_N, if_neg (by omega)]
  generalize itr T_lay_e (σ.1 21 0) 0 (itr T_lay_f (σ.1 20 0) 0 σ) = τ at tk t5 t15 ⊢
  have e20 := tk 20 0 (by decide) (by decide) (by decide)
  have e21 := tk 21 0 (by decide) (by decide) (by decide)
  have hN : TNet τ := by
    unfold TNet
    rw [e20, e21]
    refine ⟨hn.1, hn.2.1, fun q hq => ?_⟩
    rw [tk 10 q (by decide) (by decide) (by decide), tk 11 q (by decide) (by decide) (by decide), tk 12 q (by decide) (by decide) (by decide), tk 13 q (by decide) (by decide) (by decide), tk 14 q (by decide) (by decide) (by decide)]
    exact hn.2.2 q hq
  have mk : ∀ f j, f ≠ 21 → f ≠ 22 → f ≠ 20 → (M_lay0 ν).1 f j = ν.1 f j := fun f j h1 h2 h3 => by rw [M_lay0_N, if_neg (by omega), if_neg (by omega)]
  refine ⟨⟨h.1.same (fun f j hf => tk f j (by omega) (by omega) (by omega)) (fun f j hf => mk f j (by omega) (by omega) (by omega)), ?_, ?_, fun j hj => by omega⟩, ⟨hN, ?_, ?_, ?_, fun j hj => by omega, ?_⟩, ?_⟩
  · rw [e20]
    intro n hn'
    rw [mk 19 n (by decide) (by decide) (by decide), tk 4 n (by decide) (by decide) (by decide), t5 n hn', M_lay0_N, if_neg (by omega), if_pos ⟨rfl, by rw [← h.1.1]; exact hn'⟩]
    exact ⟨h.2 n hn', rfl⟩
  · rw [e21]
    intro q hq
    have hq2 : q < ν.1 1 0 := by rw [← h.1.2.1]; exact hq
    rw [M_lay0_N, if_pos ⟨Or.inl rfl, hq2⟩, M_lay0_N, if_pos ⟨Or.inr rfl, hq2⟩, t15 15 q (Or.inl rfl) hq, t15 16 q (Or.inr rfl) hq, (h.1.2.2 q hq).2.2.2.2]
    exact ⟨rfl, rfl⟩
  · rw [e20]
    intro n hn'
    rw [t5 n hn']
    exact ⟨rfl, Nat.zero_le _⟩
  · rw [e21]
    intro q hq
    obtain ⟨a1, a2, _⟩ := hn.2.2 q hq
    rw [tk 10 q (by decide) (by decide) (by decide), tk 11 q (by decide) (by decide) (by decide), tk 12 q (by decide) (by decide) (by decide), tk 13 q (by decide) (by decide) (by decide), tk 14 q (by decide) (by decide) (by decide), t5 _ a1, t5 _ a2, t15 15 q (Or.inl rfl) hq]
    omega
  · rw [e20]; exact sF_zero _ _ (fun j _ hj => t5 j (by omega))
  · rw [e21]
    intro j hj q hq
    obtain rfl : j = 0 := by omega
    rw [tk 14 q (by decide) (by decide) (by decide), t15 16 q (Or.inr rfl) hq]
    show _ * 0 ≤ σ.1 14 q + _ * 0 ∧ σ.1 14 q + _ * 0 ≤ _ * 0 + σ.1 14 q
    omega
  · unfold LayD
    rw [e21]
    intro q hq
    rw [tk 14 q (by decide) (by decide) (by decide), t15 16 q (Or.inr rfl) hq]
    split <;> omega
def lsum (σ : TS) : Nat := sF (σ.1 17) 12 0 0
theorem sF_split {f : Nat → Nat} : ∀ (a b i : Nat), sF f (a + b) i 0 = sF f a i 0 + sF f b (i + a) 0 := by
  intro a
  induction a with
  | zero => intro b i; rw [Nat.zero_add]; show _ = 0 + _; rw [Nat.zero_add, Nat.add_zero]
  | succ a ih =>
    intro b i
    rw [show a + 1 + b = (a + b) + 1 by omega]
    show sF f (a + b) (i + 1) (0 + f i) = sF f a (i + 1) (0 + f i) + _
    rw [sF_shift (a + b), sF_shift a, ih b (i + 1), show i + 1 + a = i + (a + 1) by omega]
    omega
theorem rsum_le {τ v : TS} : ∀ (k i : Nat), (∀ j, i ≤ j → j < i + k → v.1 17 j = if τ.1 17 j < τ.1 16 j then roomL (τ.1 17 j) (τ.1 16 j) else τ.1 17 j) → rsum τ k i + 2 * sF (τ.1 17) k i 0 ≤ 2 * sF (v.1 17) k i 0 := by
  intro k
  induction k with
  | zero => intro i _; exact Nat.le_refl _
  | succ k ih =>
    intro i h
    have h1 := ih (i + 1) (fun j a b => h j (by omega) (by omega))
    have h2 := h i (Nat.le_refl _) (by omega)
    show roomN (τ.1 17 i) (τ.1 16 i) + rsum τ k (i + 1) + 2 * sF (τ.1 17) k (i + 1) (0 + τ.1 17 i) ≤ 2 * sF (v.1 17) k (i + 1) (0 + v.1 17 i)
    rw [sF_shift k (i + 1) (0 + τ.1 17 i), sF_shift k (i + 1) (0 + v.1 17 i)]
    unfold roomN
    by_cases e : τ.1 17 i < τ.1 16 i
    · rw [if_pos e] at h2 ⊢
      have : 2 * τ.1 17 i ≤ roomL (τ.1 17 i) (τ.1 16 i) := by unfold roomL; omega
      omega
    · rw [if_neg e] at h2 ⊢
      omega
theorem lsum_same {σ τ : TS} (h : ∀ q, τ.1 17 q = σ.1 17 q) : lsum τ = lsum σ := sF_congr _ _ _ (fun j _ _ => h j)
/-- a state where the plan is void: nothing else that shows has changed -/
theorem Rel.void {σ τ : TS} {μ ν : MS} (h : Rel 0 σ μ) (e : ∀ f j, f ≠ 4 → f ≠ 5 → f ≠ 15 → f ≠ 16 → f ≠ 22 → f ≠ 23 → τ.1 f j = σ.1 f j) (e2 : τ.2 = σ.2) (e0 : τ.1 22 0 = 0) (g : ∀ f j, f ≠ 2 → f ≠ 15 → f ≠ 19 → f ≠ 20 → f ≠ 21 → f ≠ 22 → f ≠ 23 → f ≠ 24 → ν.1 f j = μ.1 f j) (g2 : ν.2 = μ.2) (g0 : ν.1 15 0 = 0) : Rel 0 τ ν := by
  obtain ⟨⟨p1, p2, p3, p4, p5, p6⟩, r2, r3, r4⟩ := h
  have e20 := e 20 0 (by decide) (by decide) (by decide) (by decide) (by decide) (by decide)
  have e21 := e 21 0 (by decide) (by decide) (by decide) (by decide) (by decide) (by decide)
  have hN : TNet τ := by
    unfold TNet
    rw [e20, e21]
    refine ⟨p1.1, p1.2.1, fun q hq => ?_⟩
    rw [e 10 q (by decide) (by decide) (by decide) (by decide) (by decide) (by decide), e 11 q (by decide) (by decide) (by decide) (by decide) (by decide) (by decide), e 12 q (by decide) (by decide) (by decide) (by decide) (by decide) (by decide), e 13 q (by decide) (by decide) (by decide) (by decide) (by decide) (by decide), e 14 q (by decide) (by decide) (by decide) (by decide) (by decide) (by decide)]
    exact p1.2.2 q hq
  have hl : ∀ q, q < 12 → 9 ≤ τ.1 17 q ∧ τ.1 17 q ≤ 1818 := fun q hq => by rw [e 17 q (by decide) (by decide) (by decide) (by decide) (by decide) (by decide)]; exact p4 q hq
  refine ⟨⟨hN, p2.same (fun f j hf => e f j (by omega) (by omega) (by omega) (by omega) (by omega) (by omega)) (fun f j hf => g f j (by omega) (by omega) (by omega) (by omega) (by omega) (by omega) (by omega) (by omega)), ?_, hl, ⟨by rw [g0, e0], fun j hj => by omega, fun hp => by omega⟩, POK.void hN e0 (fun q hq => (hl q hq).1)⟩, ?_, ?_, ?_⟩
  · rw [e20, e2, g2]; exact p3
  · unfold ActR; rw [e20, e2, g2]; exact r2
  · unfold TokR
    rw [e21]
    intro q hq
    obtain ⟨a1, a2, a3, a4, a5, a6, a7⟩ := r3 q hq
    have k17 := e 17 q (by decide) (by decide) (by decide) (by decide) (by decide) (by decide)
    have k18 := e 18 q (by decide) (by decide) (by decide) (by decide) (by decide) (by decide)
    have j13 := g 13 q (by decide) (by decide) (by decide) (by decide) (by decide) (by decide) (by decide) (by decide)
    rw [k17, k18, e 19 q (by decide) (by decide) (by decide) (by decide) (by decide) (by decide), j13, g 14 q (by decide) (by decide) (by decide) (by decide) (by decide) (by decide) (by decide) (by decide)]
    refine ⟨a1, a2, a3, a4, a5, a6, fun k hk => ?_⟩
    have h6 := a7 k hk
    unfold tokT tokM M_at at h6 ⊢
    rw [place_same (σ := σ) k k17 k18, e2, g2, j13]
    exact h6
  · rw [e21]
    intro q hq
    have := r4 q hq
    rw [e 19 q (by decide) (by decide) (by decide) (by decide) (by decide) (by decide), e 14 q (by decide) (by decide) (by decide) (by decide) (by decide) (by decide)]
    have h0 : σ.1 19 q + σ.1 13 q * 0 = σ.1 14 q + σ.1 12 q * 0 := this
    show σ.1 19 q + _ * 0 = σ.1 14 q + _ * 0
    omega
