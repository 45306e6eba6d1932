/-! ===== repeat answers as the class does ===== -/
theorem mrdiv_N (c : Nat) : ∀ (k i : Nat) (τ : MS) (f n : Nat), (itr (M_rdiv c) k i τ).1 f n = if f = 19 ∧ i ≤ n ∧ n < i + k then τ.1 19 n / c else τ.1 f n := by
  intro k
  induction k with
  | zero => intro i τ f n; rw [if_neg (by omega)]; rfl
  | succ k ih =>
    intro i τ f n
    show (itr (M_rdiv c) k (i + 1) (mN τ 19 i (τ.1 19 i / c))).1 f n = _
    rw [ih]
    show (if f = 19 ∧ i + 1 ≤ n ∧ n < i + 1 + k then up2 τ.1 19 i (τ.1 19 i / c) 19 n / c else up2 τ.1 19 i (τ.1 19 i / c) f n) = _
    by_cases e : n = i
    · subst e
      rw [if_neg (by omega)]
      by_cases ef : f = 19
      · subst ef; rw [up2_eq, if_pos (by omega)]
      · rw [up2_k _ _ _ _ ef, if_neg (by omega)]
    · rw [up2_n _ _ _ _ e, up2_n _ _ _ _ e]
      by_cases q : f = 19 ∧ i + 1 ≤ n ∧ n < i + 1 + k
      · rw [if_pos q, if_pos (by omega)]
      · rw [if_neg q, if_neg (by omega)]
theorem mrdiv_I (c : Nat) : ∀ (k i : Nat) (τ : MS), (itr (M_rdiv c) k i τ).2 = τ.2 := by
  intro k
  induction k with
  | zero => intro i τ; rfl
  | succ k ih => intro i τ; exact (ih (i + 1) _).trans rfl
theorem conn_iff (σ : TS) : T_conn σ = true ↔ (zc (σ.1 4) (σ.1 20 0) = 0 ∧ 0 < σ.1 20 0) := by
  unfold T_conn
  rw [Bool.and_eq_true, decide_eq_true_iff, allB_iff]
  constructor
  · intro h
    exact ⟨zc_none _ (fun j hj => of_decide_eq_true (h.1 j (Nat.zero_le _) (by omega))), h.2⟩
  · intro h
    exact ⟨fun j _ hj => decide_eq_true (zc_zero _ h.1 j (by omega)), h.2⟩
theorem allB_congr {p q : Nat → Bool} : ∀ (k i : Nat), (∀ j, i ≤ j → j < i + k → p j = q j) → allB p k i = allB q k i := by
  intro k
  induction k with
  | zero => intro i _; rfl
  | succ k ih =>
    intro i h
    show (p i && allB p k (i + 1)) = (q i && allB q k (i + 1))
    rw [h i (Nat.le_refl _) (by omega), ih (i + 1) (fun j h1 h2 => h j (by omega) (by omega))]
theorem findB_congr {p q : Nat → Bool} : ∀ (k i : Nat), (∀ j, i ≤ j → j < i + k → p j = q j) → findB p k i = findB q k i := by
  intro k
  induction k with
  | zero => intro i _; rfl
  | succ k ih =>
    intro i h
    show (if p i = true then i else findB p k (i + 1)) = (if q i = true then i else findB q k (i + 1))
    rw [h i (Nat.le_refl _) (by omega), ih (i + 1) (fun j h1 h2 => h j (by omega) (by omega))]
/-- repetitions and rates agree -/
def RR (σ : TS) (ν : MS) : Prop := NR σ ν ∧ ∀ n, n < σ.1 20 0 → ν.1 19 n = σ.1 4 n
theorem RR.bal {σ : TS} {ν : MS} (h : RR σ ν) (hn : TNet σ) : M_bal ν = T_bal σ := by
  unfold M_bal T_bal
  rw [← h.1.2.1]
  refine allB_congr _ _ (fun q _ hq => ?_)
  obtain ⟨e1, e2, e3, e4, _⟩ := h.1.2.2 q (by omega)
  obtain ⟨a1, a2, _⟩ := hn.2.2 q (by omega)
  rw [e1, e2, e3, e4, h.2 _ a1, h.2 _ a2]
theorem RR.d {σ : TS} {ν : MS} (h : RR σ ν) (hs : ∀ n, n < σ.1 20 0 → σ.1 4 n < 2 ^ 45) : M_d ν = gF (σ.1 4) (σ.1 20 0) 0 0 := by
  unfold M_d
  rw [← h.1.1, gFG _ _ _ (by decide) (fun j _ hj => hs j (by omega))]
  exact gG_congr _ _ _ (fun j _ hj => h.2 j (by omega))
theorem reduce_val {σ : TS} (hp : 0 < gF (σ.1 4) (σ.1 20 0) 0 0) {n : Nat} (hn : n < σ.1 20 0) : (T_reduce σ).1 4 n = σ.1 4 n / gF (σ.1 4) (σ.1 20 0) 0 0 := by
  unfold T_reduce
  split
  · rw [itr_div_N, if_pos ⟨rfl, Nat.zero_le _, by omega⟩]
  · rw [show gF (σ.1 4) (σ.1 20 0) 0 0 = 1 by omega, Nat.div_one]
theorem RR.red {σ : TS} {ν : MS} (h : RR σ ν) (hs : ∀ n, n < σ.1 20 0 → σ.1 4 n < 2 ^ 45) (hp : 0 < gF (σ.1 4) (σ.1 20 0) 0 0) : RR (T_reduce σ) (M_red ν) ∧ M_sum ν = T_sum (T_reduce σ) := by
  have hd := h.d hs
  have e20 : (T_reduce σ).1 20 0 = σ.1 20 0 := T_reduce_N σ 0 (by decide)
  refine ⟨⟨h.1.same (fun f n hf => T_reduce_N σ n (by omega)) (fun f n hf => ?_), ?_⟩, ?_⟩
  · unfold M_red; rw [mrdiv_N, if_neg (by omega)]
  · rw [e20]
    intro n hn
    unfold M_red
    rw [mrdiv_N, if_pos ⟨rfl, Nat.zero_le _, by rw [← h.1.1]; omega⟩, hd, h.2 n hn, reduce_val hp hn]
  · unfold M_sum T_sum
    rw [e20, ← h.1.1]
    refine sF_congr _ _ _ (fun j _ hj => ?_)
    show ν.1 19 j / M_d ν = _
    rw [hd, h.2 j (by omega), reduce_val hp (by omega)]
theorem rep_eq {σ : TS} {μ : MS} (hn : TNet σ) (h : NR σ μ) : RepC μ ∧ ((M_rep μ).2.2 = μ.2 ∧ ∀ f n, f ≠ 19 → f ≠ 24 → (M_rep μ).2.1 f n = μ.1 f n) ∧ (T_conn (T_spread σ) = false → (M_rep μ).1 = 1) ∧ (T_conn (T_spread σ) = true → T_bal (T_spread σ) = false → (M_rep μ).1 = 2) ∧ (T_conn (T_spread σ) = true → T_bal (T_spread σ) = true → 200 < T_sum (T_reduce (T_spread σ)) → (M_rep μ).1 = 3) ∧ (T_conn (T_spread σ) = true → T_bal (T_spread σ) = true → T_sum (T_reduce (T_spread σ)) ≤ 200 → (M_rep μ).1 = 0 ∧ RR (T_reduce (T_spread σ)) (M_rep μ).2) := by
  have hM := h.M hn
  have hJ1 : ∃ J, SpC J ∧ J (M_spr0 μ 4782969) := ⟨JS, JS_C, JS_0 hM (by decide)⟩
  have e20 : (T_spread σ).1 20 0 = σ.1 20 0 := T_spread_N σ 0 (by decide)
  have k1 := M_spread_keep μ 4782969
  rw [show M_spread μ 4782969 = M_sp1 μ from rfl] at k1
  by_cases h0 : μ.1 0 0 = 0
  · have hrep := M_rep_z h0
    have hc : T_conn (T_spread σ) = false := by
      refine Bool.eq_false_iff.mpr (fun q => ?_)
      have := ((conn_iff _).mp q).2
      have := h.1
      omega
    rw [hrep]
    refine ⟨⟨hM, hJ1, fun q => ?_⟩, ⟨rfl, fun _ _ _ _ => rfl⟩, fun _ => rfl, fun q => ?_, fun q => ?_, fun q => ?_⟩
    · exfalso
      have hr : 1 ≤ (M_sp1 μ).2 := by
        have mono : ∀ (k i : Nat) (x : MR), x.2 ≤ (itr M_al k i x).2 := by
          intro k
          induction k with
          | zero => intro i x; exact Nat.le_refl _
          | succ k ih =>
            intro i x
            refine Nat.le_trans ?_ (ih (i + 1) (M_al i x))
            rcases M_al_cases i x with ⟨_, e⟩ | ⟨_, _, e⟩ | ⟨_, _, e⟩ <;> rw [e]
            · exact Nat.le_refl _
            · exact Nat.le_succ _
            · exact Nat.le_succ _
        have mono2 : ∀ (k i : Nat) (x : MR), x.2 ≤ (itr M_rnd k i x).2 := by
          intro k
          induction k with
          | zero => intro i x; exact Nat.le_refl _
          | succ k ih => intro i x; exact Nat.le_trans (mono _ 0 x) (ih (i + 1) (M_rnd i x))
        exact mono2 8 0 (M_spr0 μ 4782969)
      rw [k1.2 0 0 (by decide) (by decide)] at q
      omega
    · rw [hc] at q; exact absurd q (by decide)
    · rw [hc] at q; exact absurd q (by decide)
    · rw [hc] at q; exact absurd q (by decide)
  · have hp : 0 < σ.1 20 0 := by have := h.1; omega
    have hp2 : 0 < μ.1 0 0 := by omega
    have s1 := spread1 hn hp h
    have hB := spread_B0 hn hp
    have hI := T_spread_I hn
    have hcn : (M_sp1 μ).2 = (M_sp1 μ).1.1 0 0 ↔ T_conn (T_spread σ) = true := by
      rw [conn_iff, ← s1.1.1]
      have := s1.2.2.2.1
      omega
    have hDv : (M_sp1 μ).1.1 24 0 = (T_spread σ).1 4 0 := s1.2.2.1
    have hN1 : NR σ (M_sp1 μ).1 := h.same (fun f n _ => rfl) (fun f n hf => k1.2 f n (by omega) (by omega))
    obtain ⟨n2, r2⟩ := spread2 hn hp hN1 hDv
    have k2 := M_spread_keep (M_sp1 μ).1 ((M_sp1 μ).1.1 24 0)
    rw [show (M_spread (M_sp1 μ).1 ((M_sp1 μ).1.1 24 0)).1 = M_sp2 (M_sp1 μ) from rfl] at n2 r2 k2
    have hRR : RR (T_spread σ) (M_sp2 (M_sp1 μ)) := ⟨n2, by rw [e20]; exact r2⟩
    have hlt : ∀ n, n < (T_spread σ).1 20 0 → (T_spread σ).1 4 n < 2 ^ 45 := fun n hn' => by have := hI.lt hn'; omega
    have hbal := hRR.bal hB.1
    have hd := hRR.d hlt
    have hgp : 0 < gF ((T_spread σ).1 4) ((T_spread σ).1 20 0) 0 0 := by
      rw [gFG _ _ _ (by decide) (fun j _ hj => hlt j (by omega))]
      exact gG_pos _ _ _ (fun j _ hj => hlt j (by omega)) (Or.inr ⟨0, Nat.le_refl _, by have := hB.2.1; omega, hB.2.2⟩)
    have hred := hRR.red hlt hgp
    have hC : RepC μ := by
      refine ⟨hM, hJ1, fun _ => ⟨⟨JS, JS_C, JS_0 (hN1.M hn) ?_⟩, n2.M hB.1, fun n hn' => ?_, fun _ => by rw [hd]; exact hgp⟩⟩
      · rw [hDv]
        have q := hI.2 0 hB.2.1
        have q2 : 1 ≤ 9 ^ zc ((T_spread σ).1 4) ((T_spread σ).1 20 0) := Nat.pow_pos (by decide)
        have q3 := Nat.mul_le_mul_left ((T_spread σ).1 4 0) q2
        omega
      · rw [← n2.1] at hn'
        rw [hRR.2 n hn']
        have := hlt n hn'
        omega
    generalize hx : M_sp1 μ = x at hcn k1 hDv k2 hRR hbal hd hred
    generalize hv : M_sp2 x = ν at k2 hRR hbal hd hred
    have kk : ν.2 = μ.2 ∧ ∀ f n, f ≠ 19 → f ≠ 24 → ν.1 f n = μ.1 f n := ⟨k2.1.trans k1.1, fun f n h1 h2 => (k2.2 f n h1 h2).trans (k1.2 f n h1 h2)⟩
    have kr : (M_red ν).2 = μ.2 ∧ ∀ f n, f ≠ 19 → f ≠ 24 → (M_red ν).1 f n = μ.1 f n := ⟨(mrdiv_I _ _ _ _).trans kk.1, fun f n h1 h2 => by unfold M_red; rw [mrdiv_N, if_neg (fun q => h1 q.1)]; exact kk.2 f n h1 h2⟩
    refine ⟨hC, ?_, ?_, ?_, ?_, ?_⟩
    · by_cases c1 : x.2 = x.1.1 0 0
      · by_cases c2 : M_bal ν = true
        · by_cases c3 : M_sum ν ≤ 200
          · rw [M_rep_s hp2 hx c1 hv c2 c3]; exact kr
          · rw [M_rep_o hp2 hx c1 hv c2 (by omega)]; exact kr
        · rw [M_rep_u hp2 hx c1 hv (Bool.eq_false_iff.mpr c2)]; exact kk
      · rw [M_rep_n hp2 hx c1]; exact k1
    · intro q
      rw [M_rep_n hp2 hx (fun z => by rw [hcn.mp z] at q; exact absurd q (by decide))]
    · intro q1 q2
      rw [M_rep_u hp2 hx (hcn.mpr q1) hv (by rw [hbal]; exact q2)]
    · intro q1 q2 q3
      rw [M_rep_o hp2 hx (hcn.mpr q1) hv (by rw [hbal]; exact q2) (by rw [hred.2]; exact q3)]
    · intro q1 q2 q3
      rw [M_rep_s hp2 hx (hcn.mpr q1) hv (by rw [hbal]; exact q2) (by rw [hred.2]; exact q3)]
      exact ⟨rfl, hred.1⟩
