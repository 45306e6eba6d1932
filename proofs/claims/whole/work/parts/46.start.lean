/-! ===== the start in both ===== -/
theorem start_a_I : ∀ (k i : Nat) (τ : TS) (f m : Nat), (itr T_start_a k i τ).2.1 f m = if f = 3 ∧ i ≤ m ∧ m < i + k then nI 0 else if f = 2 ∧ i ≤ m ∧ m < i + k then τ.2.1 1 m else τ.2.1 f m := by
  intro k
  induction k with
  | zero => intro i τ f m; rw [if_neg (by omega), if_neg (by omega)]; rfl
  | succ k ih =>
    intro i τ f m
    show (itr T_start_a k (i + 1) (T_aStart τ i)).2.1 f m = _
    have es : ∀ f m, (T_aStart τ i).2.1 f m = if f = 3 ∧ m = i then nI 0 else if f = 2 ∧ m = i then τ.2.1 1 i else τ.2.1 f m := fun f m => rfl
    have e1 : (T_aStart τ i).2.1 1 m = τ.2.1 1 m := by rw [es, if_neg (by omega), if_neg (by omega)]
    rw [ih, e1, es f m]
    by_cases em : m = i
    · subst em
      rw [if_neg (show ¬ (f = 3 ∧ m + 1 ≤ m ∧ m < m + 1 + k) by omega), if_neg (show ¬ (f = 2 ∧ m + 1 ≤ m ∧ m < m + 1 + k) by omega)]
      by_cases e3 : f = 3
      · rw [if_pos ⟨e3, rfl⟩, if_pos (by omega)]
      · rw [if_neg (show ¬ (f = 3 ∧ m = m) by omega), if_neg (show ¬ (f = 3 ∧ m ≤ m ∧ m < m + (k + 1)) by omega)]
        by_cases e2 : f = 2
        · rw [if_pos ⟨e2, rfl⟩, if_pos (by omega)]
        · rw [if_neg (show ¬ (f = 2 ∧ m = m) by omega), if_neg (show ¬ (f = 2 ∧ m ≤ m ∧ m < m + (k + 1)) by omega)]
    · rw [if_neg (show ¬ (f = 3 ∧ m = i) by omega), if_neg (show ¬ (f = 2 ∧ m = i) by omega)]
      by_cases e3 : f = 3 ∧ i + 1 ≤ m ∧ m < i + 1 + k
      · rw [if_pos e3, if_pos (show f = 3 ∧ i ≤ m ∧ m < i + (k + 1) by omega)]
      · rw [if_neg e3, if_neg (show ¬ (f = 3 ∧ i ≤ m ∧ m < i + (k + 1)) by omega)]
        by_cases e2 : f = 2 ∧ i + 1 ≤ m ∧ m < i + 1 + k
        · rw [if_pos e2, if_pos (show f = 2 ∧ i ≤ m ∧ m < i + (k + 1) by omega)]
        · rw [if_neg e2, if_neg (show ¬ (f = 2 ∧ i ≤ m ∧ m < i + (k + 1)) by omega)]
theorem eStart_s_I (q : Nat) : ∀ (k i : Nat) (τ : TS) (f m : Nat), (itr (T_eStart_s q) k i τ).2.1 f m = if f = 100 + q ∧ i ≤ m ∧ m < i + k then nI 0 else τ.2.1 f m := by
  intro k
  induction k with
  | zero => intro i τ f m; rw [if_neg (by omega)]; rfl
  | succ k ih =>
    intro i τ f m
    show (itr (T_eStart_s q) k (i + 1) (sI τ (100 + q) i (nI 0))).2.1 f m = _
    rw [ih, sI_I]
    by_cases e1 : f = 100 + q ∧ i + 1 ≤ m ∧ m < i + 1 + k
    · rw [if_pos e1, if_pos (show f = 100 + q ∧ i ≤ m ∧ m < i + (k + 1) by omega)]
    · rw [if_neg e1]
      by_cases e2 : f = 100 + q ∧ m = i
      · rw [if_pos e2, if_pos (by omega)]
      · rw [if_neg e2, if_neg (by omega)]
theorem start_e_all : ∀ (k i : Nat) (τ : TS), (∀ f m, f < 100 → (itr T_start_e k i τ).2.1 f m = τ.2.1 f m) ∧ (∀ f j, (itr T_start_e k i τ).1 f j = if f = 18 ∧ i ≤ j ∧ j < i + k then 0 else if f = 19 ∧ i ≤ j ∧ j < i + k then τ.1 14 j else τ.1 f j) ∧ (∀ q m, (q < i ∨ i + k ≤ q) → (itr T_start_e k i τ).2.1 (100 + q) m = τ.2.1 (100 + q) m) ∧ ∀ q, i ≤ q → q < i + k → ∀ m, m < τ.1 14 q → (itr T_start_e k i τ).2.1 (100 + q) m = nI 0 := by
  intro k
  induction k with
  | zero => intro i τ; exact ⟨fun _ _ _ => rfl, fun f j => by rw [if_neg (by omega), if_neg (by omega)]; rfl, fun _ _ _ => rfl, fun q h1 h2 => by omega⟩
  | succ k ih =>
    intro i τ
    have eN : ∀ f j, (T_eStart τ i).1 f j = if f = 19 ∧ j = i then τ.1 14 i else if f = 18 ∧ j = i then 0 else τ.1 f j := fun f j => by rw [T_eStart_N]; rfl
    have eI : ∀ f m, (T_eStart τ i).2.1 f m = if f = 100 + i ∧ 0 ≤ m ∧ m < 0 + τ.1 14 i then nI 0 else τ.2.1 f m := fun f m => eStart_s_I i _ _ _ f m
    have e14 : ∀ j, (T_eStart τ i).1 14 j = τ.1 14 j := fun j => by rw [eN, if_neg (by omega), if_neg (by omega)]
    obtain ⟨g1, g2, g3, g4⟩ := ih (i + 1) (T_eStart τ i)
    refine ⟨fun f m hf => (g1 f m hf).trans (by rw [eI, if_neg (by omega)]), fun f j => ?_, fun q m hq => (g3 q m (by omega)).trans (by rw [eI, if_neg (by omega)]), fun q h1 h2 m hm => ?_⟩
    · show (itr T_start_e k (i + 1) (T_eStart τ i)).1 f j = _
      rw [g2, e14, eN]
      by_cases ej : j = i
      · subst ej
        rw [if_neg (show ¬ (f = 18 ∧ j + 1 ≤ j ∧ j < j + 1 + k) by omega), if_neg (show ¬ (f = 19 ∧ j + 1 ≤ j ∧ j < j + 1 + k) by omega)]
        by_cases e1 : f = 19
        · rw [if_pos ⟨e1, rfl⟩, if_neg (by omega), if_pos (by omega)]
        · rw [if_neg (by omega)]
          by_cases e2 : f = 18
          · rw [if_pos ⟨e2, rfl⟩, if_pos (by omega)]
          · rw [if_neg (by omega), if_neg (by omega), if_neg (by omega)]
      · rw [if_neg (show ¬ (f = 19 ∧ j = i) by omega), if_neg (show ¬ (f = 18 ∧ j = i) by omega)]
        by_cases e1 : f = 18 ∧ i + 1 ≤ j ∧ j < i + 1 + k
        · rw [if_pos e1, if_pos (show f = 18 ∧ i ≤ j ∧ j < i + (k + 1) by omega)]
        · rw [if_neg e1, if_neg (show ¬ (f = 18 ∧ i ≤ j ∧ j < i + (k + 1)) by omega)]
          by_cases e2 : f = 19 ∧ i + 1 ≤ j ∧ j < i + 1 + k
          · rw [if_pos e2, if_pos (show f = 19 ∧ i ≤ j ∧ j < i + (k + 1) by omega)]
          · rw [if_neg e2, if_neg (show ¬ (f = 19 ∧ i ≤ j ∧ j < i + (k + 1)) by omega)]
    · by_cases eq : q = i
      · subst eq
        exact (g3 q m (by omega)).trans (by rw [eI, if_pos (by omega)])
      · exact g4 q (by omega) (by omega) m (by rw [e14]; exact hm)
theorem T_start_all (σ : TS) : (∀ f j, (T_start σ).1 f j = if f = 18 ∧ j < σ.1 21 0 then 0 else if f = 19 ∧ j < σ.1 21 0 then σ.1 14 j else σ.1 f j) ∧ (∀ f m, f < 100 → (T_start σ).2.1 f m = if f = 3 ∧ m < σ.1 20 0 then nI 0 else if f = 2 ∧ m < σ.1 20 0 then σ.2.1 1 m else σ.2.1 f m) ∧ ∀ q, q < σ.1 21 0 → ∀ m, m < σ.1 14 q → (T_start σ).2.1 (100 + q) m = nI 0 := by
  have a1 := itr_start_a_N (σ.1 20 0) 0 σ
  obtain ⟨g1, g2, g3, g4⟩ := start_e_all (σ.1 21 0) 0 (itr T_start_a (σ.1 20 0) 0 σ)
  refine ⟨fun f j => ?_, fun f m hf => ?_, fun q hq m hm => g4 q (Nat.zero_le _) (by omega) m (by rw [a1]; exact hm)⟩
  · show (itr T_start_e (σ.1 21 0) 0 (itr T_start_a (σ.1 20 0) 0 σ)).1 f j = _
    rw [g2, a1, Nat.zero_add]
    by_cases e1 : f = 18 ∧ j < σ.1 21 0
    · rw [if_pos (by omega), if_pos e1]
    · rw [if_neg (by omega), if_neg e1]
      by_cases e2 : f = 19 ∧ j < σ.1 21 0
      · rw [if_pos (by omega), if_pos e2]
      · rw [if_neg (by omega), if_neg e2]
  · show (itr T_start_e (σ.1 21 0) 0 (itr T_start_a (σ.1 20 0) 0 σ)).2.1 f m = _
    rw [g1 f m hf, start_a_I, Nat.zero_add]
    by_cases e1 : f = 3 ∧ m < σ.1 20 0
    · rw [if_pos (by omega), if_pos e1]
    · rw [if_neg (by omega), if_neg e1]
      by_cases e2 : f = 2 ∧ m < σ.1 20 0
      · rw [if_pos (by omega), if_pos e2]
      · rw [if_neg (by omega), if_neg e2]
theorem mI_I (τ : MS) (k n : Nat) (v : Int32) (f m : Nat) : (mI τ k n v).2 f m = if f = k ∧ m = n then v else τ.2 f m := rfl
theorem mst_a_I : ∀ (k i : Nat) (τ : MS) (f m : Nat), (itr M_st_a k i τ).2 f m = if f = 6 ∧ i ≤ m ∧ m < i + k then nI 0 else if f = 5 ∧ i ≤ m ∧ m < i + k then τ.2 4 m else τ.2 f m := by
  intro k
  induction k with
  | zero => intro i τ f m; rw [if_neg (by omega), if_neg (by omega)]; rfl
  | succ k ih =>
    intro i τ f m
    show (itr M_st_a k (i + 1) (M_st_a i τ)).2 f m = _
    have es : ∀ f m, (M_st_a i τ).2 f m = if f = 6 ∧ m = i then nI 0 else if f = 5 ∧ m = i then τ.2 4 i else τ.2 f m := fun f m => rfl
    have e1 : (M_st_a i τ).2 4 m = τ.2 4 m := by rw [es, if_neg (by omega), if_neg (by omega)]
    rw [ih, e1, es f m]
    by_cases em : m = i
    · subst em
      rw [if_neg (show ¬ (f = 6 ∧ m + 1 ≤ m ∧ m < m + 1 + k) by omega), if_neg (show ¬ (f = 5 ∧ m + 1 ≤ m ∧ m < m + 1 + k) by omega)]
      by_cases e3 : f = 6
      · rw [if_pos ⟨e3, rfl⟩, if_pos (by omega)]
      · rw [if_neg (show ¬ (f = 6 ∧ m = m) by omega), if_neg (show ¬ (f = 6 ∧ m ≤ m ∧ m < m + (k + 1)) by omega)]
        by_cases e2 : f = 5
        · rw [if_pos ⟨e2, rfl⟩, if_pos (by omega)]
        · rw [if_neg (show ¬ (f = 5 ∧ m = m) by omega), if_neg (show ¬ (f = 5 ∧ m ≤ m ∧ m < m + (k + 1)) by omega)]
    · rw [if_neg (show ¬ (f = 6 ∧ m = i) by omega), if_neg (show ¬ (f = 5 ∧ m = i) by omega)]
      by_cases e3 : f = 6 ∧ i + 1 ≤ m ∧ m < i + 1 + k
      · rw [if_pos e3, if_pos (show f = 6 ∧ i ≤ m ∧ m < i + (k + 1) by omega)]
      · rw [if_neg e3, if_neg (show ¬ (f = 6 ∧ i ≤ m ∧ m < i + (k + 1)) by omega)]
        by_cases e2 : f = 5 ∧ i + 1 ≤ m ∧ m < i + 1 + k
        · rw [if_pos e2, if_pos (show f = 5 ∧ i ≤ m ∧ m < i + (k + 1) by omega)]
        · rw [if_neg e2, if_neg (show ¬ (f = 5 ∧ i ≤ m ∧ m < i + (k + 1)) by omega)]
theorem mst_k_I (e : Nat) : ∀ (k i : Nat) (τ : MS) (f m : Nat), (itr (M_st_k e) k i τ).2 f m = if f = 12 ∧ 910 * e + i ≤ m ∧ m < 910 * e + i + k then nI 0 else τ.2 f m := by
  intro k
  induction k with
  | zero => intro i τ f m; rw [if_neg (by omega)]; rfl
  | succ k ih =>
    intro i τ f m
    show (itr (M_st_k e) k (i + 1) (mI τ 12 (910 * e + i) (nI 0))).2 f m = _
    rw [ih, mI_I]
    by_cases e1 : f = 12 ∧ 910 * e + (i + 1) ≤ m ∧ m < 910 * e + (i + 1) + k
    · rw [if_pos e1, if_pos (by omega)]
    · rw [if_neg e1]
      by_cases e2 : f = 12 ∧ m = 910 * e + i
      · rw [if_pos e2, if_pos (by omega)]
      · rw [if_neg e2, if_neg (by omega)]
theorem mst_e_all : ∀ (k i : Nat) (ν : MS), (∀ f m, f ≠ 12 → (itr M_st_e k i ν).2 f m = ν.2 f m) ∧ (∀ f j, (itr M_st_e k i ν).1 f j = if f = 13 ∧ i ≤ j ∧ j < i + k then 0 else if f = 14 ∧ i ≤ j ∧ j < i + k then ν.1 11 j else ν.1 f j) ∧ (∀ m, ν.2 12 m = nI 0 → (itr M_st_e k i ν).2 12 m = nI 0) ∧ ∀ q, i ≤ q → q < i + k → ∀ m, m < 9 → (itr M_st_e k i ν).2 12 (910 * q + m) = nI 0 := by
  intro k
  induction k with
  | zero => intro i ν; exact ⟨fun _ _ _ => rfl, fun f j => by rw [if_neg (by omega), if_neg (by omega)]; rfl, fun _ h => h, fun q h1 h2 => by omega⟩
  | succ k ih =>
    intro i ν
    have eN : ∀ f j, (M_st_e i ν).1 f j = if f = 14 ∧ j = i then ν.1 11 i else if f = 13 ∧ j = i then 0 else ν.1 f j := fun f j => by rw [M_st_e_N]; rfl
    have eI : ∀ f m, (M_st_e i ν).2 f m = if f = 12 ∧ 910 * i + 0 ≤ m ∧ m < 910 * i + 0 + 9 then nI 0 else ν.2 f m := fun f m => mst_k_I i _ _ _ f m
    have e11 : ∀ j, (M_st_e i ν).1 11 j = ν.1 11 j := fun j => by rw [eN, if_neg (by omega), if_neg (by omega)]
    obtain ⟨g1, g2, g3, g4⟩ := ih (i + 1) (M_st_e i ν)
    refine ⟨fun f m hf => (g1 f m hf).trans (by rw [eI, if_neg (by omega)]), fun f j => ?_, fun m hm => g3 m (by rw [eI]; split <;> first | rfl | exact hm), fun q h1 h2 m hm => ?_⟩
    · show (itr M_st_e k (i + 1) (M_st_e i ν)).1 f j = _
      rw [g2, e11, eN]
      by_cases ej : j = i
      · subst ej
        rw [if_neg (show ¬ (f = 13 ∧ j + 1 ≤ j ∧ j < j + 1 + k) by omega), if_neg (show ¬ (f = 14 ∧ j + 1 ≤ j ∧ j < j + 1 + k) by omega)]
        by_cases e1 : f = 14
        · rw [if_pos ⟨e1, rfl⟩, if_neg (by omega), if_pos (by omega)]
        · rw [if_neg (by omega)]
          by_cases e2 : f = 13
          · rw [if_pos ⟨e2, rfl⟩, if_pos (by omega)]
          · rw [if_neg (by omega), if_neg (by omega), if_neg (by omega)]
      · rw [if_neg (show ¬ (f = 14 ∧ j = i) by omega), if_neg (show ¬ (f = 13 ∧ j = i) by omega)]
        by_cases e1 : f = 13 ∧ i + 1 ≤ j ∧ j < i + 1 + k
        · rw [if_pos e1, if_pos (show f = 13 ∧ i ≤ j ∧ j < i + (k + 1) by omega)]
        · rw [if_neg e1, if_neg (show ¬ (f = 13 ∧ i ≤ j ∧ j < i + (k + 1)) by omega)]
          by_cases e2 : f = 14 ∧ i + 1 ≤ j ∧ j < i + 1 + k
          · rw [if_pos e2, if_pos (show f = 14 ∧ i ≤ j ∧ j < i + (k + 1) by omega)]
          · rw [if_neg e2, if_neg (show ¬ (f = 14 ∧ i ≤ j ∧ j < i + (k + 1)) by omega)]
    · by_cases eq : q = i
      · subst eq
        exact g3 _ (by rw [eI, if_pos (by omega)])
      · exact g4 q (by omega) (by omega) m hm
theorem M_start_all (μ : MS) : (∀ f j, (M_start μ).1 f j = if f = 13 ∧ j < μ.1 1 0 then 0 else if f = 14 ∧ j < μ.1 1 0 then μ.1 11 j else μ.1 f j) ∧ (∀ f m, f ≠ 12 → (M_start μ).2 f m = if f = 6 ∧ m < μ.1 0 0 then nI 0 else if f = 5 ∧ m < μ.1 0 0 then μ.2 4 m else μ.2 f m) ∧ ∀ q, q < μ.1 1 0 → ∀ m, m < 9 → (M_start μ).2 12 (910 * q + m) = nI 0 := by
  have a1 := itr_st_a_N (μ.1 0 0) 0 μ
  obtain ⟨g1, g2, g3, g4⟩ := mst_e_all (μ.1 1 0) 0 (itr M_st_a (μ.1 0 0) 0 μ)
  refine ⟨fun f j => ?_, fun f m hf => ?_, fun q hq m hm => g4 q (Nat.zero_le _) (by omega) m hm⟩
  · show (itr M_st_e (μ.1 1 0) 0 (itr M_st_a (μ.1 0 0) 0 μ)).1 f j = _
    rw [g2, a1, Nat.zero_add]
    by_cases e1 : f = 13 ∧ j < μ.1 1 0
    · rw [if_pos (by omega), if_pos e1]
    · rw [if_neg (by omega), if_neg e1]
      by_cases e2 : f = 14 ∧ j < μ.1 1 0
      · rw [if_pos (by omega), if_pos e2]
      · rw [if_neg (by omega), if_neg e2]
  · show (itr M_st_e (μ.1 1 0) 0 (itr M_st_a (μ.1 0 0) 0 μ)).2 f m = _
    rw [g1 f m hf, mst_a_I, Nat.zero_add]
    by_cases e1 : f = 6 ∧ m < μ.1 0 0
    · rw [if_pos (by omega), if_pos e1]
    · rw [if_neg (by omega), if_neg e1]
      by_cases e2 : f = 5 ∧ m < μ.1 0 0
      · rw [if_pos (by omega), if_pos e2]
      · rw [if_neg (by omega), if_neg e2]
/-- a plan that can be run -/
def POK (σ : TS) : Prop := σ.1 22 0 ≤ 200 ∧ (∀ j, j < σ.1 22 0 → σ.1 23 j < σ.1 20 0 ∧ ∀ q, q < σ.1 21 0 → σ.1 11 q = σ.1 23 j → σ.1 13 q * (occ (σ.1 23) j (σ.1 11 q) + 1) ≤ σ.1 14 q + σ.1 12 q * occ (σ.1 23) j (σ.1 10 q)) ∧
  (∀ j, j ≤ σ.1 22 0 → ∀ q, q < σ.1 21 0 → σ.1 13 q * occ (σ.1 23) j (σ.1 11 q) ≤ σ.1 14 q + σ.1 12 q * occ (σ.1 23) j (σ.1 10 q) ∧ σ.1 14 q + σ.1 12 q * occ (σ.1 23) j (σ.1 10 q) ≤ σ.1 13 q * occ (σ.1 23) j (σ.1 11 q) + 909 ∧ σ.1 14 q + σ.1 12 q * occ (σ.1 23) j (σ.1 10 q) ≤ σ.1 13 q * occ (σ.1 23) j (σ.1 11 q) + σ.1 17 q) ∧
  ∀ q, q < σ.1 21 0 → σ.1 13 q * occ (σ.1 23) (σ.1 22 0) (σ.1 11 q) = σ.1 12 q * occ (σ.1 23) (σ.1 22 0) (σ.1 10 q)
theorem POK.same {σ τ : TS} (h : POK σ) (e : ∀ f n, f = 10 ∨ f = 11 ∨ f = 12 ∨ f = 13 ∨ f = 14 ∨ f = 17 ∨ f = 20 ∨ f = 21 ∨ f = 22 ∨ f = 23 → τ.1 f n = σ.1 f n) : POK τ := by
  have e23 : τ.1 23 = σ.1 23 := funext (fun n => e 23 n (by omega))
  unfold POK
  rw [e 20 0 (by omega), e 21 0 (by omega), e 22 0 (by omega), e23]
  obtain ⟨a, b, c, d⟩ := h
  refine ⟨a, fun j hj => ⟨(b j hj).1, fun q hq => ?_⟩, fun j hj q hq => ?_, fun q hq => ?_⟩
  · rw [e 10 q (by omega), e 11 q (by omega), e 12 q (by omega), e 13 q (by omega), e 14 q (by omega)]; exact (b j hj).2 q hq
  · rw [e 10 q (by omega), e 11 q (by omega), e 12 q (by omega), e 13 q (by omega), e 14 q (by omega), e 17 q (by omega)]; exact c j hj q hq
  · rw [e 10 q (by omega), e 11 q (by omega), e 12 q (by omega), e 13 q (by omega)]; exact d q hq
theorem POK.void {σ : TS} (hn : TNet σ) (h0 : σ.1 22 0 = 0) (hl : ∀ q, q < 12 → 9 ≤ σ.1 17 q) : POK σ := by
  refine ⟨by omega, fun j hj => by omega, fun j hj q hq => ?_, fun q hq => ?_⟩
  · obtain rfl : j = 0 := by omega
    have := (hn.2.2 q hq).2.2.2.2.2.2
    have := hl q (by have := hn.2.1; omega)
    show σ.1 13 q * 0 ≤ σ.1 14 q + σ.1 12 q * 0 ∧ σ.1 14 q + σ.1 12 q * 0 ≤ σ.1 13 q * 0 + 909 ∧ σ.1 14 q + σ.1 12 q * 0 ≤ σ.1 13 q * 0 + σ.1 17 q
    omega
  · rw [h0]
    show σ.1 13 q * 0 = σ.1 12 q * 0
    omega
def PlanR (σ : TS) (μ : MS) : Prop := μ.1 15 0 = σ.1 22 0 ∧ (∀ j, j < σ.1 22 0 → μ.1 16 j = σ.1 23 j) ∧ (0 < σ.1 22 0 → (∀ n, n < σ.1 20 0 → μ.1 17 n = σ.1 4 n) ∧ ∀ q, q < σ.1 21 0 → μ.1 18 q = σ.1 16 q)
/-- what does not change while tokens move -/
def PreR (σ : TS) (μ : MS) : Prop := TNet σ ∧ NR σ μ ∧ (∀ n, n < σ.1 20 0 → σ.2.1 0 n = μ.2 3 n ∧ σ.2.1 1 n = μ.2 4 n) ∧ (∀ q, q < 12 → 9 ≤ σ.1 17 q ∧ σ.1 17 q ≤ 1818) ∧ PlanR σ μ ∧ POK σ
def Rel (i : Nat) (σ : TS) (μ : MS) : Prop := PreR σ μ ∧ ActR σ μ ∧ TokR σ μ ∧ ∀ q, q < σ.1 21 0 → σ.1 19 q + σ.1 13 q * occ (σ.1 23) i (σ.1 11 q) = σ.1 14 q + σ.1 12 q * occ (σ.1 23) i (σ.1 10 q)
theorem PlanR.same {σ τ : TS} {μ ν : MS} (h : PlanR σ μ) (e : ∀ f n, f = 4 ∨ f = 16 ∨ f = 20 ∨ f = 21 ∨ f = 22 ∨ f = 23 → τ.1 f n = σ.1 f n) (e2 : ∀ f n, f = 15 ∨ f = 16 ∨ f = 17 ∨ f = 18 → ν.1 f n = μ.1 f n) : PlanR τ ν := by
  unfold PlanR
  rw [e 20 0 (by omega), e 21 0 (by omega), e 22 0 (by omega), e2 15 0 (by omega)]
  obtain ⟨a, b, c⟩ := h
  refine ⟨a, fun j hj => by rw [e 23 j (by omega), e2 16 j (by omega)]; exact b j hj, fun hp => ⟨fun n hn => by rw [e 4 n (by omega), e2 17 n (by omega)]; exact (c hp).1 n hn, fun q hq => by rw [e 16 q (by omega), e2 18 q (by omega)]; exact (c hp).2 q hq⟩⟩
theorem start_rel {σ : TS} {μ : MS} (h : PreR σ μ) : Rel 0 (T_start σ) (M_start μ) := by
  obtain ⟨h1, h2, h3, h4, h5, h6⟩ := h
  obtain ⟨t1, t2, t3⟩ := T_start_all σ
  obtain ⟨m1, m2, m3⟩ := M_start_all μ
  have tk : ∀ f j, f ≠ 18 → f ≠ 19 → (T_start σ).1 f j = σ.1 f j := fun f j a b => by rw [t1, if_neg (by omega), if_neg (by omega)]
  have mk : ∀ f j, f ≠ 13 → f ≠ 14 → (M_start μ).1 f j = μ.1 f j := fun f j a b => by rw [m1, if_neg (by omega), if_neg (by omega)]
  have hN : TNet (T_start σ) := by
    unfold TNet
    rw [tk 20 0 (by decide) (by decide), tk 21 0 (by decide) (by decide)]
    refine ⟨h1.1, h1.2.1, fun q hq => ?_⟩
    rw [tk 10 q (by decide) (by decide), tk 11 q (by decide) (by decide), tk 12 q (by decide) (by decide), tk 13 q (by decide) (by decide), tk 14 q (by decide) (by decide)]
    exact h1.2.2 q hq
  refine ⟨⟨hN, h2.same (fun f j hf => tk f j (by omega) (by omega)) (fun f j hf => mk f j (by omega) (by omega)), ?_, ?_, h5.same (fun f j hf => tk f j (by omega) (by omega)) (fun f j hf => mk f j (by omega) (by omega)), h6.same (fun f j hf => tk f j (by omega) (by omega))⟩, ?_, ?_, ?_⟩
  · rw [tk 20 0 (by decide) (by decide)]
    intro n hn
    rw [t2 0 n (by decide), if_neg (by omega), if_neg (by omega), t2 1 n (by decide), if_neg (by omega), if_neg (by omega), m2 3 n (by decide), if_neg (by omega), if_neg (by omega), m2 4 n (by decide), if_neg (by omega), if_neg (by omega)]
    exact h3 n hn
  · intro q hq
    rw [tk 17 q (by decide) (by decide)]
    exact h4 q hq
  · unfold ActR
    rw [tk 20 0 (by decide) (by decide)]
    intro n hn
    have hn2 : n < μ.1 0 0 := by rw [← h2.1]; exact hn
    have s0 : (T_start σ).2.1 0 n = σ.2.1 0 n := by rw [t2 0 n (by decide), if_neg (by omega), if_neg (by omega)]
    have s1 : (T_start σ).2.1 1 n = σ.2.1 1 n := by rw [t2 1 n (by decide), if_neg (by omega), if_neg (by omega)]
    have s2 : (T_start σ).2.1 2 n = σ.2.1 1 n := by rw [t2 2 n (by decide), if_neg (by omega), if_pos ⟨rfl, hn⟩]
    have s3 : (T_start σ).2.1 3 n = nI 0 := by rw [t2 3 n (by decide), if_pos ⟨rfl, hn⟩]
    have u3 : (M_start μ).2 3 n = μ.2 3 n := by rw [m2 3 n (by decide), if_neg (by omega), if_neg (by omega)]
    have u4 : (M_start μ).2 4 n = μ.2 4 n := by rw [m2 4 n (by decide), if_neg (by omega), if_neg (by omega)]
    have u5 : (M_start μ).2 5 n = μ.2 4 n := by rw [m2 5 n (by decide), if_neg (by omega), if_pos ⟨rfl, hn2⟩]
    have u6 : (M_start μ).2 6 n = nI 0 := by rw [m2 6 n (by decide), if_pos ⟨rfl, hn2⟩]
    rw [s0, s1, s2, s3, u3, u4, u5, u6]
    exact ⟨(h3 n hn).1, (h3 n hn).2, (h3 n hn).2, rfl⟩
  · unfold TokR
    rw [tk 21 0 (by decide) (by decide)]
    intro q hq
    have hq2 : q < μ.1 1 0 := by rw [← h2.2.1]; exact hq
    have k17 := tk 17 q (by decide) (by decide)
    have k18 : (T_start σ).1 18 q = 0 := by rw [t1, if_pos ⟨rfl, hq⟩]
    have k19 : (T_start σ).1 19 q = σ.1 14 q := by rw [t1, if_neg (by omega), if_pos ⟨rfl, hq⟩]
    have j13 : (M_start μ).1 13 q = 0 := by rw [m1, if_pos ⟨rfl, hq2⟩]
    have j14 : (M_start μ).1 14 q = σ.1 14 q := by rw [m1, if_neg (by omega), if_pos ⟨rfl, hq2⟩, (h2.2.2 q hq).2.2.2.2]
    have hw := (h1.2.2 q hq).2.2.2.2.2.2
    have hl := h4 q (by have := h1.2.1; omega)
    rw [k17, k18, k19, j13, j14]
    refine ⟨rfl, by omega, by omega, by omega, by decide, by omega, fun k hk => ?_⟩
    unfold tokT tokM M_at
    have hp : T_place (T_start σ) q k = k := by unfold T_place; rw [k17, k18, if_pos (by omega), Nat.zero_add]
    rw [hp, t3 q hq k hk, j13, Nat.zero_add, Nat.mod_eq_of_lt (by omega), m3 q hq2 k (by omega)]
  · rw [tk 21 0 (by decide) (by decide)]
    intro q hq
    rw [tk 13 q (by decide) (by decide), tk 14 q (by decide) (by decide), tk 12 q (by decide) (by decide), t1 19 q, if_neg (by omega), if_pos ⟨rfl, hq⟩]
    show σ.1 14 q + σ.1 13 q * 0 = σ.1 14 q + σ.1 12 q * 0
    omega
