/-! ===== laying out: both in step; what a plan holds ===== -/
def occ (f : Nat → Nat) : Nat → Nat → Nat
  | 0, _ => 0
  | j + 1, m => occ f j m + if f j = m then 1 else 0
theorem occ_congr {f g : Nat → Nat} (m : Nat) : ∀ i, (∀ j, j < i → f j = g j) → occ f i m = occ g i m := by
  intro i
  induction i with
  | zero => intro _; rfl
  | succ i ih =>
    intro h
    show occ f i m + _ = occ g i m + _
    rw [ih (fun j hj => h j (by omega)), h i (by omega)]
theorem occ_mono {f : Nat → Nat} (m : Nat) : ∀ i j, i ≤ j → occ f i m ≤ occ f j m := by
  intro i j
  induction j with
  | zero => intro h; rw [show i = 0 by omega]; exact Nat.le_refl _
  | succ j ih =>
    intro h
    by_cases e : i = j + 1
    · rw [e]; exact Nat.le_refl _
    · have := ih (by omega)
      show _ ≤ occ f j m + _
      omega
theorem sF_shift {f : Nat → Nat} : ∀ (k i c : Nat), sF f k i c = c + sF f k i 0 := by
  intro k
  induction k with
  | zero => intro i c; rfl
  | succ k ih =>
    intro i c
    show sF f k (i + 1) (c + f i) = c + sF f k (i + 1) (0 + f i)
    rw [ih (i + 1) (c + f i), ih (i + 1) (0 + f i)]
    omega
theorem sF_mono {f g : Nat → Nat} : ∀ (k i : Nat), (∀ j, i ≤ j → j < i + k → f j ≤ g j) → sF f k i 0 ≤ sF g k i 0 := by
  intro k
  induction k with
  | zero => intro i _; exact Nat.le_refl _
  | succ k ih =>
    intro i h
    have h1 := ih (i + 1) (fun j h1 h2 => h j (by omega) (by omega))
    have h2 := h i (Nat.le_refl _) (by omega)
    show sF f k (i + 1) (0 + f i) ≤ sF g k (i + 1) (0 + g i)
    rw [sF_shift k (i + 1) (0 + f i), sF_shift k (i + 1) (0 + g i)]
    omega
theorem sF_same {f g : Nat → Nat} : ∀ (k i : Nat), (∀ j, i ≤ j → j < i + k → f j ≤ g j) → sF f k i 0 = sF g k i 0 → ∀ j, i ≤ j → j < i + k → f j = g j := by
  intro k
  induction k with
  | zero => intro i _ _ j h1 h2; omega
  | succ k ih =>
    intro i h he j h1 h2
    have m := sF_mono (f := f) (g := g) k (i + 1) (fun j h1 h2 => h j (by omega) (by omega))
    have l := h i (Nat.le_refl _) (by omega)
    have he : sF f k (i + 1) (0 + f i) = sF g k (i + 1) (0 + g i) := he
    rw [sF_shift k (i + 1) (0 + f i), sF_shift k (i + 1) (0 + g i)] at he
    by_cases e : j = i
    · subst e; omega
    · exact ih (i + 1) (fun j h1 h2 => h j (by omega) (by omega)) (by omega) j (by omega) (by omega)
theorem sF_upd {f g : Nat → Nat} {n : Nat} : ∀ (k i : Nat), i ≤ n → n < i + k → g n = f n + 1 → (∀ j, j ≠ n → g j = f j) → sF g k i 0 = sF f k i 0 + 1 := by
  intro k
  induction k with
  | zero => intro i h1 h2; omega
  | succ k ih =>
    intro i h1 h2 h3 h4
    show sF g k (i + 1) (0 + g i) = sF f k (i + 1) (0 + f i) + 1
    rw [sF_shift k (i + 1) (0 + g i), sF_shift k (i + 1) (0 + f i)]
    by_cases e : i = n
    · subst e
      rw [h3, sF_congr (f := g) (g := f) k (i + 1) 0 (fun j h1 h2 => h4 j (by omega))]
      omega
    · rw [h4 i e, ih (i + 1) (by omega) (by omega) h3 h4]
      omega
theorem sF_zero {f : Nat → Nat} : ∀ (k i : Nat), (∀ j, i ≤ j → j < i + k → f j = 0) → sF f k i 0 = 0 := by
  intro k
  induction k with
  | zero => intro i _; rfl
  | succ k ih =>
    intro i h
    show sF f k (i + 1) (0 + f i) = 0
    rw [h i (Nat.le_refl _) (by omega)]
    exact ih (i + 1) (fun j h1 h2 => h j (by omega) (by omega))
theorem sF_one {f : Nat → Nat} : ∀ (k i a : Nat), i ≤ a → a < i + k → f a ≤ sF f k i 0 := by
  intro k
  induction k with
  | zero => intro i a h1 h2; omega
  | succ k ih =>
    intro i a h1 h2
    show _ ≤ sF f k (i + 1) (0 + f i)
    rw [sF_shift k (i + 1) (0 + f i)]
    by_cases e : a = i
    · subst e; omega
    · have := ih (i + 1) a (by omega) (by omega); omega
theorem sF_two {f : Nat → Nat} : ∀ (k i a b : Nat), i ≤ a → a < i + k → i ≤ b → b < i + k → a ≠ b → f a + f b ≤ sF f k i 0 := by
  intro k
  induction k with
  | zero => intro i a b h1 h2; omega
  | succ k ih =>
    intro i a b h1 h2 h3 h4 h5
    show _ ≤ sF f k (i + 1) (0 + f i)
    rw [sF_shift k (i + 1) (0 + f i)]
    by_cases ea : a = i
    · have := sF_one (f := f) k (i + 1) b (by omega) (by omega)
      rw [ea]; omega
    · by_cases eb : b = i
      · have := sF_one (f := f) k (i + 1) a (by omega) (by omega)
        rw [eb]; omega
      · have := ih (i + 1) a b (by omega) (by omega) (by omega) (by omega) h5
        omega
theorem gG_dvd {f : Nat → Nat} : ∀ (k i c : Nat), (∀ j, i ≤ j → j < i + k → f j < 2 ^ 45) → gG f k i c ∣ c ∧ ∀ j, i ≤ j → j < i + k → gG f k i c ∣ f j := by
  intro k
  induction k with
  | zero => intro i c _; exact ⟨Nat.dvd_refl _, fun j h1 h2 => by omega⟩
  | succ k ih =>
    intro i c hf
    have e : gcdS 200 c (f i) = Nat.gcd c (f i) := gcdS_eq 45 200 c (f i) (hf i (Nat.le_refl _) (by omega)) (by omega)
    have h := ih (i + 1) (gcdS 200 c (f i)) (fun j h1 h2 => hf j (by omega) (by omega))
    have h1 : gG f (k + 1) i c = gG f k (i + 1) (gcdS 200 c (f i)) := rfl
    rw [h1]
    have h2 := h.1
    rw [e] at h2
    rw [e] at h ⊢
    refine ⟨Nat.dvd_trans h2 (Nat.gcd_dvd_left _ _), fun j h3 h4 => ?_⟩
    by_cases ej : j = i
    · subst ej; exact Nat.dvd_trans h2 (Nat.gcd_dvd_right _ _)
    · exact h.2 j (by omega) (by omega)
theorem red_bal {σ : TS} (hn : TNet σ) (hs : ∀ n, n < σ.1 20 0 → σ.1 4 n < 2 ^ 45) (hp : 0 < gF (σ.1 4) (σ.1 20 0) 0 0) (hb : T_bal σ = true) : ∀ q, q < σ.1 21 0 → (T_reduce σ).1 4 (σ.1 10 q) * σ.1 12 q = (T_reduce σ).1 4 (σ.1 11 q) * σ.1 13 q := by
  intro q hq
  obtain ⟨a1, a2, _⟩ := hn.2.2 q hq
  have h1 := of_decide_eq_true ((allB_iff _ _).mp hb q (Nat.zero_le _) (by omega))
  have hd := (gG_dvd (f := σ.1 4) (σ.1 20 0) 0 0 (fun j _ hj => hs j (by omega))).2
  rw [reduce_val hp a1, reduce_val hp a2]
  rw [← gFG _ _ _ (by decide) (fun j _ hj => hs j (by omega))] at hd
  obtain ⟨x, hx⟩ := hd _ (Nat.zero_le _) (by omega : σ.1 10 q < 0 + σ.1 20 0)
  obtain ⟨y, hy⟩ := hd _ (Nat.zero_le _) (by omega : σ.1 11 q < 0 + σ.1 20 0)
  generalize gF (σ.1 4) (σ.1 20 0) 0 0 = d at hp hx hy ⊢
  rw [hx, hy] at h1 ⊢
  rw [Nat.mul_div_cancel_left _ hp, Nat.mul_div_cancel_left _ hp]
  refine Nat.eq_of_mul_eq_mul_left hp ?_
  rw [← Nat.mul_assoc, ← Nat.mul_assoc]
  exact h1
theorem red_pos {σ : TS} (hs : ∀ n, n < σ.1 20 0 → σ.1 4 n < 2 ^ 45) (hp : 0 < gF (σ.1 4) (σ.1 20 0) 0 0) {n : Nat} (hn : n < σ.1 20 0) (h0 : 0 < σ.1 4 n) : 0 < (T_reduce σ).1 4 n := by
  have hd := (gG_dvd (f := σ.1 4) (σ.1 20 0) 0 0 (fun j _ hj => hs j (by omega))).2 n (Nat.zero_le _) (by omega)
  rw [← gFG _ _ _ (by decide) (fun j _ hj => hs j (by omega))] at hd
  rw [reduce_val hp hn]
  exact Nat.div_pos (Nat.le_of_dvd h0 hd) hp
/-- both while they lay out -/
def LayR (i : Nat) (τ : TS) (ν : MS) : Prop := NR τ ν ∧ (∀ n, n < τ.1 20 0 → ν.1 19 n = τ.1 4 n ∧ ν.1 20 n = τ.1 5 n) ∧ (∀ q, q < τ.1 21 0 → ν.1 21 q = τ.1 15 q ∧ ν.1 22 q = τ.1 16 q) ∧ ∀ j, j < i → ν.1 23 j = τ.1 23 j
/-- what the class's own counting keeps -/
def LayC (i : Nat) (τ : TS) : Prop := TNet τ ∧ (∀ n, n < τ.1 20 0 → τ.1 5 n = occ (τ.1 23) i n ∧ τ.1 5 n ≤ τ.1 4 n) ∧ (∀ q, q < τ.1 21 0 → τ.1 15 q + τ.1 13 q * τ.1 5 (τ.1 11 q) = τ.1 14 q + τ.1 12 q * τ.1 5 (τ.1 10 q)) ∧ sF (τ.1 5) (τ.1 20 0) 0 0 = i ∧
  (∀ j, j < i → τ.1 23 j < τ.1 20 0 ∧ ∀ q, q < τ.1 21 0 → τ.1 11 q = τ.1 23 j → τ.1 13 q * (occ (τ.1 23) j (τ.1 11 q) + 1) ≤ τ.1 14 q + τ.1 12 q * occ (τ.1 23) j (τ.1 10 q)) ∧
  ∀ j, j ≤ i → ∀ q, q < τ.1 21 0 → τ.1 13 q * occ (τ.1 23) j (τ.1 11 q) ≤ τ.1 14 q + τ.1 12 q * occ (τ.1 23) j (τ.1 10 q) ∧ τ.1 14 q + τ.1 12 q * occ (τ.1 23) j (τ.1 10 q) ≤ τ.1 13 q * occ (τ.1 23) j (τ.1 11 q) + τ.1 16 q
theorem next_eq {i : Nat} {τ : TS} {ν : MS} (hR : LayR i τ ν) (hC : LayC i τ) : M_next ν = T_next τ := by
  unfold M_next T_next
  rw [← hR.1.1]
  refine findB_congr _ _ (fun n _ hn => ?_)
  have hn : n < τ.1 20 0 := by omega
  obtain ⟨e1, e2⟩ := hR.2.1 n hn
  have hle := (hC.2.1 n hn).2
  unfold M_may T_enough
  rw [e1, e2, ← hR.1.2.1]
  congr 1
  · apply decide_eq_decide.mpr
    omega
  · refine allB_congr _ _ (fun q _ hq => ?_)
    obtain ⟨n1, n2, n3, n4, n5⟩ := hR.1.2.2 q (by omega)
    rw [n2, n4, (hR.2.2.1 q (by omega)).1]
theorem T_step_N (τ : TS) (i n f j : Nat) : (T_count (sN τ 23 i n) n).1 f j = if f = 15 ∧ j < τ.1 21 0 then T_eLy τ j n else if f = 16 ∧ j < τ.1 21 0 then max (τ.1 16 j) (T_eLy τ j n) else if f = 5 ∧ j = n then τ.1 5 n + 1 else if f = 23 ∧ j = i then n else τ.1 f j := by
  rw [T_count_N, sN_k _ _ _ _ (by decide), sN_k _ _ _ _ (by decide), sN_k _ _ _ _ (by decide), T_eLy_same (σ := sN τ 23 i n) (τ := τ) (fun f h1 h2 => sN_k _ _ _ _ (by omega))]
  rfl
theorem LayR_step {i : Nat} {τ : TS} {ν : MS} (hR : LayR i τ ν) (hC : LayC i τ) : LayR (i + 1) (T_count (sN τ 23 i (T_next τ)) (T_next τ)) (M_step ν i) := by
  have hnx := next_eq hR hC
  have hm : ∀ f j, (M_step ν i).1 f j = if f = 21 ∧ j < τ.1 21 0 then M_ly ν j (T_next τ) else if f = 22 ∧ j < τ.1 21 0 then max (ν.1 22 j) (M_ly ν j (T_next τ)) else if f = 20 ∧ j = T_next τ then ν.1 20 (T_next τ) + 1 else if f = 23 ∧ j = i then T_next τ else ν.1 f j := fun f j => by
    rw [M_step_N, hnx, hR.1.2.1]
  generalize T_next τ = n at hm ⊢
  have ely : ∀ q, q < τ.1 21 0 → M_ly ν q n = T_eLy τ q n := fun q hq => by
    obtain ⟨n1, n2, n3, n4, n5⟩ := hR.1.2.2 q hq
    unfold M_ly T_eLy
    rw [n1, n2, n3, n4, (hR.2.2.1 q hq).1]
  have tk : ∀ f j, f ≠ 15 → f ≠ 16 → f ≠ 5 → f ≠ 23 → (T_count (sN τ 23 i n) n).1 f j = τ.1 f j := fun f j h1 h2 h3 h4 => by
    rw [T_step_N, if_neg (by omega), if_neg (by omega), if_neg (by omega), if_neg (by omega)]
  have mk : ∀ f j, f ≠ 21 → f ≠ 22 → f ≠ 20 → f ≠ 23 → (M_step ν i).1 f j = ν.1 f j := fun f j h1 h2 h3 h4 => by
    rw [hm, if_neg (by omega), if_neg (by omega), if_neg (by omega), if_neg (by omega)]
  have m20 : ∀ m, (M_step ν i).1 20 m = if m = n then ν.1 20 n + 1 else ν.1 20 m := fun m => by
    rw [hm, if_neg (by omega), if_neg (by omega)]
    by_cases e : m = n
    · rw [if_pos ⟨rfl, e⟩, if_pos e]
    · rw [if_neg (by omega), if_neg (by omega), if_neg e]
  have t5 : ∀ m, (T_count (sN τ 23 i n) n).1 5 m = if m = n then τ.1 5 n + 1 else τ.1 5 m := fun m => by
    rw [T_step_N, if_neg (by omega), if_neg (by omega)]
    by_cases e : m = n
    · rw [if_pos ⟨rfl, e⟩, if_pos e]
    · rw [if_neg (by omega), if_neg (by omega), if_neg e]
  have m23 : ∀ j, (M_step ν i).1 23 j = if j = i then n else ν.1 23 j := fun j => by
    rw [hm, if_neg (by omega), if_neg (by omega), if_neg (by omega)]
    by_cases e : j = i
    · rw [if_pos ⟨rfl, e⟩, if_pos e]
    · rw [if_neg (by omega), if_neg e]
  have t23 : ∀ j, (T_count (sN τ 23 i n) n).1 23 j = if j = i then n else τ.1 23 j := fun j => by
    rw [T_step_N, if_neg (by omega), if_neg (by omega), if_neg (by omega)]
    by_cases e : j = i
    · rw [if_pos ⟨rfl, e⟩, if_pos e]
    · rw [if_neg (by omega), if_neg e]
  refine ⟨hR.1.same (fun f j hf => tk f j (by omega) (by omega) (by omega) (by omega)) (fun f j hf => mk f j (by omega) (by omega) (by omega) (by omega)), ?_, ?_, ?_⟩
  · rw [tk 20 0 (by decide) (by decide) (by decide) (by decide)]
    intro m hmn
    obtain ⟨e1, e2⟩ := hR.2.1 m hmn
    rw [mk 19 m (by decide) (by decide) (by decide) (by decide), tk 4 m (by decide) (by decide) (by decide) (by decide)]
    refine ⟨e1, ?_⟩
    rw [m20, t5]
    by_cases e : m = n
    · subst e; rw [if_pos rfl, if_pos rfl, e2]
    · rw [if_neg e, if_neg e]; exact e2
  · rw [tk 21 0 (by decide) (by decide) (by decide) (by decide)]
    intro q hq
    rw [hm, if_pos ⟨rfl, hq⟩, hm, if_neg (by omega), if_pos ⟨rfl, hq⟩, T_step_N, if_pos ⟨rfl, hq⟩, T_step_N, if_neg (by omega), if_pos ⟨rfl, hq⟩, ely q hq, (hR.2.2.1 q hq).2]
    exact ⟨rfl, rfl⟩
  · intro j hj
    rw [m23, t23]
    by_cases e : j = i
    · rw [if_pos e, if_pos e]
    · rw [if_neg e, if_neg e]; exact hR.2.2.2 j (by omega)
theorem LayC_step {i : Nat} {τ : TS} (hC : LayC i τ) (hn : T_next τ < τ.1 20 0) : LayC (i + 1) (T_count (sN τ 23 i (T_next τ)) (T_next τ)) := by
  obtain ⟨s1, s2⟩ := T_next_spec hn
  obtain ⟨c1, c2, c3, c4, c5, c6⟩ := hC
  generalize T_next τ = n at hn s1 s2 ⊢
  have tk : ∀ f j, f ≠ 15 → f ≠ 16 → f ≠ 5 → f ≠ 23 → (T_count (sN τ 23 i n) n).1 f j = τ.1 f j := fun f j h1 h2 h3 h4 => by
    rw [T_step_N, if_neg (by omega), if_neg (by omega), if_neg (by omega), if_neg (by omega)]
  have t5 : ∀ m, (T_count (sN τ 23 i n) n).1 5 m = τ.1 5 m + if m = n then 1 else 0 := fun m => by
    rw [T_step_N, if_neg (by omega), if_neg (by omega)]
    by_cases e : m = n
    · subst e; rw [if_pos ⟨rfl, rfl⟩, if_pos rfl]
    · rw [if_neg (by omega), if_neg (by omega), if_neg e]; rfl
  have t23 : ∀ j, (T_count (sN τ 23 i n) n).1 23 j = if j = i then n else τ.1 23 j := fun j => by
    rw [T_step_N, if_neg (by omega), if_neg (by omega), if_neg (by omega)]
    by_cases e : j = i
    · rw [if_pos ⟨rfl, e⟩, if_pos e]
    · rw [if_neg (by omega), if_neg e]
  have o1 : ∀ j m, j ≤ i → occ ((T_count (sN τ 23 i n) n).1 23) j m = occ (τ.1 23) j m := fun j m hj => occ_congr m j (fun k hk => by rw [t23, if_neg (by omega)])
  have o2 : ∀ m, occ ((T_count (sN τ 23 i n) n).1 23) (i + 1) m = occ (τ.1 23) i m + if m = n then 1 else 0 := fun m => by
    show occ _ i m + (if (T_count (sN τ 23 i n) n).1 23 i = m then 1 else 0) = _
    rw [o1 i m (Nat.le_refl _), t23, if_pos rfl]
    by_cases e : n = m
    · rw [if_pos e, if_pos e.symm]
    · rw [if_neg e, if_neg (fun q => e q.symm)]
  have t15 : ∀ q, q < τ.1 21 0 → (T_count (sN τ 23 i n) n).1 15 q = T_eLy τ q n := fun q hq => by rw [T_step_N, if_pos ⟨rfl, hq⟩]
  have t16 : ∀ q, q < τ.1 21 0 → (T_count (sN τ 23 i n) n).1 16 q = max (τ.1 16 q) (T_eLy τ q n) := fun q hq => by rw [T_step_N, if_neg (by omega), if_pos ⟨rfl, hq⟩]
  have e20 := tk 20 0 (by decide) (by decide) (by decide) (by decide)
  have e21 := tk 21 0 (by decide) (by decide) (by decide) (by decide)
  have net : ∀ q, (T_count (sN τ 23 i n) n).1 10 q = τ.1 10 q ∧ (T_count (sN τ 23 i n) n).1 11 q = τ.1 11 q ∧ (T_count (sN τ 23 i n) n).1 12 q = τ.1 12 q ∧ (T_count (sN τ 23 i n) n).1 13 q = τ.1 13 q ∧ (T_count (sN τ 23 i n) n).1 14 q = τ.1 14 q := fun q => ⟨tk 10 q (by decide) (by decide) (by decide) (by decide), tk 11 q (by decide) (by decide) (by decide) (by decide), tk 12 q (by decide) (by decide) (by decide) (by decide), tk 13 q (by decide) (by decide) (by decide) (by decide), tk 14 q (by decide) (by decide) (by decide) (by decide)⟩
  have main : ∀ q, q < τ.1 21 0 → T_eLy τ q n + τ.1 13 q * (τ.1 5 (τ.1 11 q) + if τ.1 11 q = n then 1 else 0) = τ.1 14 q + τ.1 12 q * (τ.1 5 (τ.1 10 q) + if τ.1 10 q = n then 1 else 0) := fun q hq => by
    have h1 := c3 q hq
    have h2 := s2 q hq
    unfold T_eLy
    rw [Nat.mul_add, Nat.mul_add]
    by_cases e1 : τ.1 11 q = n <;> by_cases e2 : τ.1 10 q = n
    · rw [if_pos e1, if_pos e1, if_pos e2, if_pos e2]; have := h2 e1; omega
    · rw [if_pos e1, if_pos e1, if_neg e2, if_neg e2]; have := h2 e1; omega
    · rw [if_neg e1, if_neg e1, if_pos e2, if_pos e2]; omega
    · rw [if_neg e1, if_neg e1, if_neg e2, if_neg e2]; omega
  generalize T_count (sN τ 23 i n) n = ω at *
  refine ⟨?_, ?_, ?_, ?_, ?_, ?_⟩
  · unfold TNet
    rw [e20, e21]
    refine ⟨c1.1, c1.2.1, fun q hq => ?_⟩
    obtain ⟨x1, x2, x3, x4, x5⟩ := net q
    rw [x1, x2, x3, x4, x5]
    exact c1.2.2 q hq
  · rw [e20]
    intro m hm
    rw [t5, o2, tk 4 m (by decide) (by decide) (by decide) (by decide), (c2 m hm).1]
    refine ⟨rfl, ?_⟩
    rw [← (c2 m hm).1]
    have := (c2 m hm).2
    split
    · rename_i e; subst e; omega
    · omega
  · rw [e21]
    intro q hq
    obtain ⟨x1, x2, x3, x4, x5⟩ := net q
    rw [x1, x2, x3, x4, x5, t15 q hq, t5, t5]
    exact main q hq
  · rw [e20]
    have := sF_upd (f := τ.1 5) (g := ω.1 5) (n := n) (τ.1 20 0) 0 (Nat.zero_le _) (by omega) (by rw [t5, if_pos rfl]) (fun j hj => by rw [t5, if_neg hj]; rfl)
    omega
  · rw [e20, e21]
    intro j hj
    rw [t23]
    by_cases e : j = i
    · rw [if_pos e]
      refine ⟨hn, fun q hq hq2 => ?_⟩
      obtain ⟨x1, x2, x3, x4, x5⟩ := net q
      obtain ⟨a1, a2, _⟩ := c1.2.2 q hq
      rw [x2] at hq2
      rw [x1, x2, x3, x4, x5, e, o1 i _ (Nat.le_refl _), o1 i _ (Nat.le_refl _), ← (c2 _ a1).1, ← (c2 _ a2).1]
      have h1 := c3 q hq
      have h2 := s2 q hq hq2
      rw [Nat.mul_add]
      omega
    · rw [if_neg e]
      obtain ⟨d1, d2⟩ := c5 j (by omega)
      refine ⟨d1, fun q hq hq2 => ?_⟩
      obtain ⟨x1, x2, x3, x4, x5⟩ := net q
      rw [x2] at hq2
      rw [x1, x2, x3, x4, x5, o1 j _ (by omega), o1 j _ (by omega)]
      exact d2 q hq hq2
  · rw [e21]
    intro j hj q hq
    obtain ⟨x1, x2, x3, x4, x5⟩ := net q
    obtain ⟨a1, a2, _⟩ := c1.2.2 q hq
    rw [x1, x2, x3, x4, x5, t16 q hq]
    by_cases e : j = i + 1
    · rw [e, o2, o2, ← (c2 _ a1).1, ← (c2 _ a2).1]
      have := main q hq
      omega
    · rw [o1 j _ (by omega), o1 j _ (by omega)]
      have := c6 j (by omega) q hq
      omega
theorem lay_sim : ∀ (k i : Nat) (τ : TS) (ν : MS), LayR i τ ν → LayC i τ → (M_lay k i ν).1 = (T_lay k i τ).1 ∧ ((T_lay k i τ).1 = true → LayR (i + k) (T_lay k i τ).2 (M_lay k i ν).2 ∧ LayC (i + k) (T_lay k i τ).2) := by
  intro k
  induction k with
  | zero => intro i τ ν hR hC; exact ⟨rfl, fun _ => ⟨hR, hC⟩⟩
  | succ k ih =>
    intro i τ ν hR hC
    have hnx := next_eq hR hC
    unfold T_lay M_lay
    rw [hnx, ← hR.1.1]
    by_cases h : T_next τ < τ.1 20 0
    · rw [if_pos h, if_pos h]
      have := ih (i + 1) _ _ (LayR_step hR hC) (LayC_step hC h)
      rw [show i + 1 + k = i + (k + 1) by omega] at this
      exact this
    · rw [if_neg h, if_neg h]
      exact ⟨rfl, fun q => absurd q Bool.false_ne_true⟩
