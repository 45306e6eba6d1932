/-! ===== the two ways of finding the repetitions agree ===== -/
theorem gcdS_eq : ∀ (b k x y : Nat), y < 2 ^ b → 2 * b + 1 ≤ k → gcdS k x y = Nat.gcd x y := by
  intro b
  induction b with
  | zero =>
    intro k x y hy hk
    have h0 : y = 0 := by simpa using hy
    subst h0
    obtain ⟨k, rfl⟩ : ∃ j, k = j + 1 := ⟨k - 1, by omega⟩
    rw [Nat.gcd_zero_right]
    show (if (0 : Nat) = 0 then x else _) = x
    rw [if_pos rfl]
  | succ b ih =>
    intro k x y hy hk
    obtain ⟨k, rfl⟩ : ∃ j, k = j + 2 := ⟨k - 2, by omega⟩
    show (if y = 0 then x else gcdS (k + 1) y (x % y)) = _
    by_cases hy0 : y = 0
    · rw [if_pos hy0, hy0, Nat.gcd_zero_right]
    · rw [if_neg hy0]
      have hy1 : 0 < y := Nat.pos_of_ne_zero hy0
      rw [Nat.gcd_comm x y, Nat.gcd_rec y x]
      show (if x % y = 0 then y else gcdS k (x % y) (y % (x % y))) = _
      by_cases hr0 : x % y = 0
      · rw [if_pos hr0, hr0, Nat.gcd_zero_left]
      · rw [if_neg hr0]
        have hr1 : 0 < x % y := Nat.pos_of_ne_zero hr0
        have hry : x % y < y := Nat.mod_lt _ hy1
        generalize x % y = r at hr0 hr1 hry ⊢
        have h1 : y % r < r := Nat.mod_lt _ hr1
        have h2 : r * (y / r) + y % r = y := Nat.div_add_mod y r
        have h3 : 1 ≤ y / r := (Nat.le_div_iff_mul_le hr1).mpr (by omega)
        have h4 : r * 1 ≤ r * (y / r) := Nat.mul_le_mul_left r h3
        rw [ih k r (y % r) (by rw [Nat.pow_succ] at hy; omega) (by omega), Nat.gcd_rec r y, Nat.gcd_comm]
theorem gFG {f : Nat → Nat} : ∀ (k i c : Nat), c < 2 ^ 45 → (∀ j, i ≤ j → j < i + k → f j < 2 ^ 45) → gF f k i c = gG f k i c := by
  intro k
  induction k with
  | zero => intro i c _ _; rfl
  | succ k ih =>
    intro i c hc hf
    have h1 := hf i (Nat.le_refl _) (by omega)
    have e : gcdS 100 (f i) c = gcdS 200 c (f i) := by
      rw [gcdS_eq 45 100 (f i) c hc (by omega), gcdS_eq 45 200 c (f i) h1 (by omega), Nat.gcd_comm]
    show gF f k (i + 1) (gcdS 100 (f i) c) = gG f k (i + 1) (gcdS 200 c (f i))
    rw [← e]
    exact ih (i + 1) _ (gcdS_lt _ _ _ h1 hc) (fun j h2 h3 => hf j (by omega) (by omega))
theorem gG_congr {f g : Nat → Nat} : ∀ (k i c : Nat), (∀ j, i ≤ j → j < i + k → f j = g j) → gG f k i c = gG g k i c := by
  intro k
  induction k with
  | zero => intro i c _; rfl
  | succ k ih =>
    intro i c h
    show gG f k (i + 1) (gcdS 200 c (f i)) = gG g k (i + 1) (gcdS 200 c (g i))
    rw [h i (Nat.le_refl _) (by omega), ih (i + 1) _ (fun j h1 h2 => h j (by omega) (by omega))]
theorem gG_pos {f : Nat → Nat} : ∀ (k i c : Nat), (∀ j, i ≤ j → j < i + k → f j < 2 ^ 45) → (0 < c ∨ ∃ j, i ≤ j ∧ j < i + k ∧ 0 < f j) → 0 < gG f k i c := by
  intro k
  induction k with
  | zero =>
    intro i c _ h
    rcases h with h | ⟨j, h1, h2, _⟩
    · exact h
    · omega
  | succ k ih =>
    intro i c hf h
    have e : gcdS 200 c (f i) = Nat.gcd c (f i) := gcdS_eq 45 200 c (f i) (hf i (Nat.le_refl _) (by omega)) (by omega)
    show 0 < gG f k (i + 1) (gcdS 200 c (f i))
    rw [e]
    refine ih (i + 1) _ (fun j h2 h3 => hf j (by omega) (by omega)) ?_
    rcases h with h | ⟨j, h1, h2, h3⟩
    · exact Or.inl (Nat.gcd_pos_of_pos_left _ h)
    · by_cases ej : j = i
      · subst ej; exact Or.inl (Nat.gcd_pos_of_pos_right _ h3)
      · exact Or.inr ⟨j, by omega, by omega, h3⟩
/-- the same network -/
def NR (σ : TS) (μ : MS) : Prop := σ.1 20 0 = μ.1 0 0 ∧ σ.1 21 0 = μ.1 1 0 ∧ ∀ q, q < σ.1 21 0 → μ.1 7 q = σ.1 10 q ∧ μ.1 8 q = σ.1 11 q ∧ μ.1 9 q = σ.1 12 q ∧ μ.1 10 q = σ.1 13 q ∧ μ.1 11 q = σ.1 14 q
theorem NR.M {σ : TS} {μ : MS} (h : NR σ μ) (t : TNet σ) : MNet μ := by
  obtain ⟨a, b, d⟩ := h
  obtain ⟨t1, t2, t3⟩ := t
  refine ⟨by omega, by omega, fun q hq => ?_⟩
  obtain ⟨e1, e2, e3, e4, e5⟩ := d q (by omega)
  rw [e1, e2, e3, e4, e5, ← a]
  exact t3 q (by omega)
theorem NR.same {σ τ : TS} {μ ν : MS} (h : NR σ μ) (e : ∀ f n, f = 10 ∨ f = 11 ∨ f = 12 ∨ f = 13 ∨ f = 14 ∨ f = 20 ∨ f = 21 → τ.1 f n = σ.1 f n) (e2 : ∀ f n, f = 0 ∨ f = 1 ∨ f = 7 ∨ f = 8 ∨ f = 9 ∨ f = 10 ∨ f = 11 → ν.1 f n = μ.1 f n) : NR τ ν := by
  unfold NR
  rw [e 20 0 (by omega), e 21 0 (by omega), e2 0 0 (by omega), e2 1 0 (by omega)]
  refine ⟨h.1, h.2.1, fun q hq => ?_⟩
  rw [e 10 q (by omega), e 11 q (by omega), e 12 q (by omega), e 13 q (by omega), e 14 q (by omega), e2 7 q (by omega), e2 8 q (by omega), e2 9 q (by omega), e2 10 q (by omega), e2 11 q (by omega)]
  exact h.2.2 q hq
/-- the base: a network with an actor, whose first has repetitions -/
def B0 (σ : TS) : Prop := TNet σ ∧ 0 < σ.1 20 0 ∧ 0 < σ.1 4 0
/-- what an edge does, either way -/
theorem T_along_cases (σ : TS) (e : Nat) : ((σ.1 4 (σ.1 10 e) = 0 ↔ σ.1 4 (σ.1 11 e) = 0) ∧ T_along σ e = σ) ∨ (0 < σ.1 4 (σ.1 10 e) ∧ σ.1 4 (σ.1 11 e) = 0 ∧ T_along σ e = T_reach σ (σ.1 11 e) (σ.1 4 (σ.1 10 e) * σ.1 12 e) (σ.1 13 e)) ∨ (0 < σ.1 4 (σ.1 11 e) ∧ σ.1 4 (σ.1 10 e) = 0 ∧ T_along σ e = T_reach σ (σ.1 10 e) (σ.1 4 (σ.1 11 e) * σ.1 13 e) (σ.1 12 e)) := by
  unfold T_along
  by_cases h1 : 0 < σ.1 4 (σ.1 10 e) ∧ σ.1 4 (σ.1 11 e) = 0
  · rw [if_pos h1]; exact Or.inr (Or.inl ⟨h1.1, h1.2, rfl⟩)
  · rw [if_neg h1]
    by_cases h2 : 0 < σ.1 4 (σ.1 11 e) ∧ σ.1 4 (σ.1 10 e) = 0
    · rw [if_pos h2]; exact Or.inr (Or.inr ⟨h2.1, h2.2, rfl⟩)
    · rw [if_neg h2]; exact Or.inl ⟨by omega, rfl⟩
theorem reach_0 {σ : TS} (h : B0 σ) {b v w : Nat} (hb : σ.1 4 b = 0) : (T_reach σ b v w).1 4 0 = σ.1 4 0 * w := by
  obtain ⟨_, h1, h2⟩ := h
  rw [T_reach_N, if_neg (fun q => by rw [← q.2] at hb; omega), if_pos ⟨rfl, h1⟩]
theorem reach_B0 {σ : TS} (h : B0 σ) {b v w : Nat} (hb : σ.1 4 b = 0) (hw : 0 < w) : B0 (T_reach σ b v w) := by
  have e : ∀ f j, f ≠ 4 → (T_reach σ b v w).1 f j = σ.1 f j := fun f j hf => by rw [T_reach_N, if_neg (by omega), if_neg (by omega)]
  refine ⟨h.1.same e, by rw [e 20 0 (by decide)]; exact h.2.1, ?_⟩
  rw [reach_0 h hb]
  exact Nat.mul_pos h.2.2 hw
theorem reach_z {σ : TS} {b v w : Nat} (hb : σ.1 4 b = 0) (hbn : b < σ.1 20 0) (hv : 0 < v) (hw : 0 < w) : zc (σ.1 4) (σ.1 20 0) = zc ((T_reach σ b v w).1 4) (σ.1 20 0) + 1 := by
  refine zc_less _ hbn hb ?_ (fun j hj hji => ?_)
  · rw [T_reach_N, if_pos ⟨rfl, rfl⟩]; omega
  · rw [T_reach_N, if_neg (by omega), if_pos (by omega)]
    constructor
    · intro q; rw [q, Nat.zero_mul]
    · intro q
      rcases Nat.mul_eq_zero.mp q with q | q
      · exact q
      · omega
theorem along_B0 {σ : TS} (h : B0 σ) {e : Nat} (he : e < σ.1 21 0) : B0 (T_along σ e) ∧ σ.1 4 0 ∣ (T_along σ e).1 4 0 := by
  obtain ⟨a1, a2, a3, a4, a5, a6, a7⟩ := h.1.2.2 e he
  rcases T_along_cases σ e with ⟨_, h3⟩ | ⟨h1, h2, h3⟩ | ⟨h1, h2, h3⟩
  · rw [h3]; exact ⟨h, Nat.dvd_refl _⟩
  · rw [h3]; exact ⟨reach_B0 h h2 (by omega), by rw [reach_0 h h2]; exact Nat.dvd_mul_right _ _⟩
  · rw [h3]; exact ⟨reach_B0 h h2 (by omega), by rw [reach_0 h h2]; exact Nat.dvd_mul_right _ _⟩
theorem along_21 (σ : TS) (e : Nat) : (T_along σ e).1 21 0 = σ.1 21 0 := T_along_N σ e 0 (by decide)
theorem along_20 (σ : TS) (e : Nat) : (T_along σ e).1 20 0 = σ.1 20 0 := T_along_N σ e 0 (by decide)
theorem along_i {σ : TS} : ∀ (k i : Nat) (σ : TS), i + k ≤ σ.1 21 0 → B0 σ → B0 (itr T_along_s k i σ) ∧ σ.1 4 0 ∣ (itr T_along_s k i σ).1 4 0 ∧ ∀ f n, f ≠ 4 → (itr T_along_s k i σ).1 f n = σ.1 f n := by
  intro k
  induction k with
  | zero => intro i σ _ h; exact ⟨h, Nat.dvd_refl _, fun _ _ _ => rfl⟩
  | succ k ih =>
    intro i σ hk h
    have h1 := along_B0 h (e := i) (by omega)
    have h2 := ih (i + 1) (T_along σ i) (by rw [along_21]; omega) h1.1
    exact ⟨h2.1, Nat.dvd_trans h1.2 h2.2.1, fun f n hf => (h2.2.2 f n hf).trans (T_along_N σ i n hf)⟩
theorem round_i : ∀ (k i : Nat) (σ : TS), B0 σ → B0 (itr T_round k i σ) ∧ σ.1 4 0 ∣ (itr T_round k i σ).1 4 0 := by
  intro k
  induction k with
  | zero => intro i σ h; exact ⟨h, Nat.dvd_refl _⟩
  | succ k ih =>
    intro i σ h
    have h1 := along_i (σ := σ) (σ.1 21 0) 0 σ (by omega) h
    have h2 := ih (i + 1) (T_round i σ) h1.1
    exact ⟨h2.1, Nat.dvd_trans h1.2.1 h2.2⟩
/-- in step: each edge, each round -/
theorem sync_al {S : TS → MR → Prop} {Dv : Nat} (hS : ∀ σ x e, B0 σ → e < σ.1 21 0 → S σ x → (T_along σ e).1 4 0 ∣ Dv → S (T_along σ e) (M_al e x)) : ∀ (k i : Nat) (σ : TS) (x : MR), i + k ≤ σ.1 21 0 → B0 σ → S σ x → (itr T_along_s k i σ).1 4 0 ∣ Dv → S (itr T_along_s k i σ) (itr M_al k i x) := by
  intro k
  induction k with
  | zero => intro i σ x _ _ h _; exact h
  | succ k ih =>
    intro i σ x hk hb h hd
    have h1 := along_B0 hb (e := i) (by omega)
    have h2 := along_i (σ := σ) k (i + 1) (T_along σ i) (by rw [along_21]; omega) h1.1
    exact ih (i + 1) (T_along σ i) (M_al i x) (by rw [along_21]; omega) h1.1 (hS σ x i hb (by omega) h (Nat.dvd_trans h2.2.1 hd)) hd
theorem sync_rnd {S : TS → MR → Prop} {Dv : Nat} (hS : ∀ σ x e, B0 σ → e < σ.1 21 0 → S σ x → (T_along σ e).1 4 0 ∣ Dv → S (T_along σ e) (M_al e x)) (hN : ∀ σ x, S σ x → σ.1 21 0 = x.1.1 1 0) : ∀ (k i j : Nat) (σ : TS) (x : MR), B0 σ → S σ x → (itr T_round k i σ).1 4 0 ∣ Dv → S (itr T_round k i σ) (itr M_rnd k j x) := by
  intro k
  induction k with
  | zero => intro i j σ x _ h _; exact h
  | succ k ih =>
    intro i j σ x hb h hd
    have h1 := along_i (σ := σ) (σ.1 21 0) 0 σ (by omega) hb
    have h2 := round_i k (i + 1) (T_round i σ) h1.1
    refine ih (i + 1) (j + 1) (T_round i σ) (M_rnd j x) h1.1 ?_ hd
    rw [M_rnd_eq, ← hN σ x h]
    exact sync_al hS (σ.1 21 0) 0 σ x (by omega) hb h (Nat.dvd_trans h2.2 hd)
/-- nothing more to reach -/
def FixT (σ : TS) : Prop := ∀ e, e < σ.1 21 0 → (σ.1 4 (σ.1 10 e) = 0 ↔ σ.1 4 (σ.1 11 e) = 0)
theorem along_fix : ∀ (k i : Nat) (σ : TS), i + k ≤ σ.1 21 0 → TNet σ → (itr T_along_s k i σ = σ ∧ ∀ e, i ≤ e → e < i + k → (σ.1 4 (σ.1 10 e) = 0 ↔ σ.1 4 (σ.1 11 e) = 0)) ∨ zc ((itr T_along_s k i σ).1 4) (σ.1 20 0) < zc (σ.1 4) (σ.1 20 0) := by
  intro k
  induction k with
  | zero => intro i σ _ _; exact Or.inl ⟨rfl, fun e h1 h2 => by omega⟩
  | succ k ih =>
    intro i σ hk hn
    obtain ⟨a1, a2, a3, a4, a5, a6, a7⟩ := hn.2.2 i (by omega)
    have less : ∀ τ : TS, T_along σ i = τ → TNet τ → τ.1 20 0 = σ.1 20 0 → zc (σ.1 4) (σ.1 20 0) = zc (τ.1 4) (σ.1 20 0) + 1 → zc ((itr T_along_s (k + 1) i σ).1 4) (σ.1 20 0) < zc (σ.1 4) (σ.1 20 0) := by
      intro τ h1 h2 h3 h4
      have h5 := ih (i + 1) τ (by rw [← h1, along_21]; omega) h2
      rw [h3] at h5
      have e : itr T_along_s (k + 1) i σ = itr T_along_s k (i + 1) τ := by rw [← h1]; rfl
      rw [e]
      rcases h5 with ⟨h5, _⟩ | h5
      · rw [h5]; omega
      · omega
    have keep : ∀ f n, f ≠ 4 → (T_along σ i).1 f n = σ.1 f n := fun f n hf => T_along_N σ i n hf
    rcases T_along_cases σ i with ⟨h1, h3⟩ | ⟨h1, h2, h3⟩ | ⟨h1, h2, h3⟩
    · have e : itr T_along_s (k + 1) i σ = itr T_along_s k (i + 1) σ := by
        show itr T_along_s k (i + 1) (T_along σ i) = _
        rw [h3]
      rw [e]
      rcases ih (i + 1) σ (by omega) hn with ⟨h4, h5⟩ | h4
      · refine Or.inl ⟨h4, fun e he1 he2 => ?_⟩
        by_cases ei : e = i
        · subst ei; exact h1
        · exact h5 e (by omega) (by omega)
      · exact Or.inr h4
    · exact Or.inr (less _ rfl (hn.same keep) (along_20 σ i) (by rw [h3]; exact reach_z h2 a2 (Nat.mul_pos h1 (by omega)) (by omega)))
    · exact Or.inr (less _ rfl (hn.same keep) (along_20 σ i) (by rw [h3]; exact reach_z h2 a1 (Nat.mul_pos h1 (by omega)) (by omega)))
theorem round_keep (i : Nat) (σ : TS) {f : Nat} (n : Nat) (hf : f ≠ 4) : (T_round i σ).1 f n = σ.1 f n := itr_round_N 1 i σ n hf
theorem round_fix : ∀ (k i : Nat) (σ : TS), TNet σ → (FixT (itr T_round k i σ) ∨ zc ((itr T_round k i σ).1 4) (σ.1 20 0) + k ≤ zc (σ.1 4) (σ.1 20 0)) := by
  intro k
  induction k with
  | zero => intro i σ _; exact Or.inr (Nat.le_refl _)
  | succ k ih =>
    intro i σ hn
    have hn2 : TNet (T_round i σ) := hn.same (fun f n hf => round_keep i σ n hf)
    show FixT (itr T_round k (i + 1) (T_round i σ)) ∨ zc ((itr T_round k (i + 1) (T_round i σ)).1 4) (σ.1 20 0) + (k + 1) ≤ _
    rcases along_fix (σ.1 21 0) 0 σ (by omega) hn with ⟨h1, h2⟩ | h1
    · have e : T_round i σ = σ := h1
      have hfix : FixT σ := fun e he => h2 e (Nat.zero_le _) (by omega)
      have stay : ∀ (k i : Nat), itr T_round k i σ = σ := by
        intro k
        induction k with
        | zero => intro i; rfl
        | succ k ih2 =>
          intro i
          show itr T_round k (i + 1) (T_round i σ) = σ
          rw [show T_round i σ = σ from h1]
          exact ih2 (i + 1)
      rw [e, stay]
      exact Or.inl hfix
    · have h3 := ih (i + 1) (T_round i σ) hn2
      rw [round_keep i σ 0 (by decide)] at h3
      have h4 : zc ((T_round i σ).1 4) (σ.1 20 0) < zc (σ.1 4) (σ.1 20 0) := h1
      rcases h3 with h3 | h3
      · exact Or.inl h3
      · exact Or.inr (by omega)
theorem zc_start {f : Nat → Nat} (h0 : f 0 ≠ 0) : ∀ n, 0 < n → (∀ j, 0 < j → j < n → f j = 0) → zc f n + 1 = n := by
  intro n
  induction n with
  | zero => intro h; omega
  | succ n ih =>
    intro _ h
    show zc f n + (if f n = 0 then 1 else 0) + 1 = n + 1
    by_cases e : n = 0
    · subst e; rw [if_neg h0]; rfl
    · rw [if_pos (h n (by omega) (by omega))]
      have := ih (by omega) (fun j h1 h2 => h j h1 (by omega))
      omega
theorem zc_zero {f : Nat → Nat} : ∀ n, zc f n = 0 → ∀ j, j < n → f j ≠ 0 := by
  intro n
  induction n with
  | zero => intro _ j h; omega
  | succ n ih =>
    intro h j hj
    have h : zc f n + (if f n = 0 then 1 else 0) = 0 := h
    by_cases e : f n = 0
    · rw [if_pos e] at h; omega
    · by_cases ej : j = n
      · subst ej; exact e
      · exact ih (by omega) j (by omega)
theorem zc_none {f : Nat → Nat} : ∀ n, (∀ j, j < n → f j ≠ 0) → zc f n = 0 := by
  intro n
  induction n with
  | zero => intro _; rfl
  | succ n ih =>
    intro h
    show zc f n + (if f n = 0 then 1 else 0) = 0
    rw [if_neg (h n (by omega)), ih (fun j hj => h j (by omega))]
theorem sp0_N : ∀ (k i : Nat) (τ : TS) (f j : Nat), (itr T_sp0 k i τ).1 f j = if f = 4 ∧ i ≤ j ∧ j < i + k then (if j = 0 then 1 else 0) else τ.1 f j := by
  intro k
  induction k with
  | zero => intro i τ f j; rw [if_neg (by omega)]; rfl
  | succ k ih =>
    intro i τ f j
    show (itr T_sp0 k (i + 1) (sN τ 4 i (if i = 0 then 1 else 0))).1 f j = _
    rw [ih]
    by_cases e : f = 4 ∧ j = i
    · obtain ⟨rfl, rfl⟩ := e
      rw [if_neg (show ¬ (4 = 4 ∧ j + 1 ≤ j ∧ j < j + 1 + k) by omega), if_pos (show 4 = 4 ∧ j ≤ j ∧ j < j + (k + 1) by omega)]; exact up2_eq _ _ _ _
    · rw [show (sN τ 4 i (if i = 0 then 1 else 0)).1 f j = τ.1 f j from by show up2 τ.1 4 i _ f j = _; unfold up2; rw [if_neg e]]
      by_cases e1 : f = 4 ∧ i + 1 ≤ j ∧ j < i + 1 + k
      · rw [if_pos e1, if_pos (show f = 4 ∧ i ≤ j ∧ j < i + (k + 1) by omega)]
      · rw [if_neg e1, if_neg (show ¬ (f = 4 ∧ i ≤ j ∧ j < i + (k + 1)) by omega)]
