/-! ===== tokens: a firing in both ===== -/
def tokT (σ : TS) (q k : Nat) : Int32 := σ.2.1 (100 + q) (T_place σ q k)
def tokM (μ : MS) (q k : Nat) : Int32 := μ.2 12 (M_at μ q k)
theorem place_mod {σ : TS} {q k : Nat} (h1 : σ.1 18 q < σ.1 17 q) (h2 : k ≤ σ.1 17 q) : T_place σ q k = (σ.1 18 q + k) % σ.1 17 q := by
  unfold T_place
  split
  · rename_i h; rw [Nat.mod_eq_of_lt h]
  · rename_i h
    rw [Nat.mod_eq_sub_mod (by omega), Nat.mod_eq_of_lt (by omega)]
theorem place_inj {σ : TS} {q a b : Nat} (h1 : σ.1 18 q < σ.1 17 q) (ha : a < σ.1 17 q) (hb : b < σ.1 17 q) (h : T_place σ q a = T_place σ q b) : a = b := by
  unfold T_place at h
  repeat' split at h
  all_goals omega
theorem place_same {σ τ : TS} {q : Nat} (k : Nat) (h1 : τ.1 17 q = σ.1 17 q) (h2 : τ.1 18 q = σ.1 18 q) : T_place τ q k = T_place σ q k := by
  unfold T_place; rw [h1, h2]
/-- what a firing gathers -/
def AccR (τ : TS) (c : MA) (num : Int32) : Prop := τ.2.1 31 0 = c.1 ∧ τ.2.1 33 0 = c.2.1 ∧ (τ.1 30 0 = 0 ↔ c.2.2.2 = 0) ∧ (0 < τ.1 30 0 → τ.2.1 32 0 = c.2.2.1) ∧ (τ.1 30 0 = 0 → c.2.2.1 = num)
theorem T_add_I (σ : TS) (v : Int32) (f n : Nat) (h : f ≠ 31) (h2 : f ≠ 32) (h3 : f ≠ 33) : (T_add σ v).2.1 f n = σ.2.1 f n := by
  show up2 (up2 (up2 σ.2.1 32 0 _) 31 0 _) 33 0 _ f n = _
  rw [up2_k _ _ _ _ h3, up2_k _ _ _ _ h, up2_k _ _ _ _ h2]
theorem T_add_31 (σ : TS) (v : Int32) : (T_add σ v).2.1 31 0 = σ.2.1 31 0 + v ∧ (T_add σ v).2.1 33 0 = nI 31 * σ.2.1 33 0 + v ∧ (T_add σ v).2.1 32 0 = (if σ.1 30 0 = 0 then v else if σ.2.1 32 0 < v then v else σ.2.1 32 0) ∧ (T_add σ v).1 30 0 = σ.1 30 0 + 1 := by
  refine ⟨?_, ?_, ?_, ?_⟩
  · simp [T_add, sI, sN, up2]
  · simp [T_add, sI, sN, up2]
  · simp [T_add, sI, sN, up2]
  · rw [T_add_N, if_pos ⟨rfl, rfl⟩]
theorem acc_step {τ : TS} {c : MA} {num : Int32} (h : AccR τ c num) (v : Int32) : AccR (T_add τ v) (M_tk v c) num := by
  obtain ⟨h1, h2, h3, h4, h5⟩ := h
  obtain ⟨a1, a2, a3, a4⟩ := T_add_31 τ v
  unfold AccR
  rw [a1, a2, a3, a4, h1, h2]
  refine ⟨rfl, rfl, ⟨fun q => by omega, fun q => absurd q (show ¬ (1 : Nat) = 0 by omega)⟩, fun _ => ?_, fun q => by omega⟩
  show _ = if c.2.2.2 = 0 ∨ c.2.2.1 < v then v else c.2.2.1
  by_cases e : τ.1 30 0 = 0
  · rw [if_pos e, if_pos (Or.inl (h3.mp e))]
  · rw [if_neg e, h4 (by omega)]
    have e2 : ¬ c.2.2.2 = 0 := fun q => e (h3.mpr q)
    by_cases e3 : c.2.2.1 < v
    · rw [if_pos e3, if_pos (Or.inr e3)]
    · rw [if_neg e3, if_neg (fun q => q.elim e2 e3)]
theorem T_hand_s_I (q i : Nat) (τ : TS) (f n : Nat) (h : f ≠ 31) (h2 : f ≠ 32) (h3 : f ≠ 33) : (T_hand_s q i τ).2.1 f n = τ.2.1 f n := T_add_I τ _ f n h h2 h3
theorem look_0 {τ : TS} {q : Nat} (h : 0 < τ.1 19 q) (h2 : τ.1 19 q < 2 ^ 31) : T_look τ q (nI 0) = tokT τ q 0 := by
  unfold T_look tokT
  rw [inR_nI (by decide) h2, if_pos (decide_eq_true h)]
  simp only [tn]
  rw [nI_clamp (by decide)]
theorem tokT_hand_s {τ : TS} {q : Nat} (i : Nat) (h1 : τ.1 18 q < τ.1 17 q) {k : Nat} (hk : k + 1 ≤ τ.1 17 q) : tokT (T_hand_s q i τ) q k = tokT τ q (k + 1) := by
  unfold tokT
  rw [T_hand_s_I q i τ _ _ (by omega) (by omega) (by omega)]
  have e17 : (T_hand_s q i τ).1 17 q = τ.1 17 q := by rw [T_hand_s_N, if_neg (by omega), if_neg (by omega), if_neg (by omega)]
  have e18 : (T_hand_s q i τ).1 18 q = T_place τ q 1 := by rw [T_hand_s_N, if_neg (by omega), if_pos ⟨rfl, rfl⟩]
  have hl := T_place_lt h1 (show 1 ≤ τ.1 17 q by omega)
  rw [place_mod (by rw [e18, e17]; exact hl) (by rw [e17]; omega), place_mod h1 hk, e17, e18, place_mod h1 (by omega), Nat.mod_add_mod, show τ.1 18 q + 1 + k = τ.1 18 q + (k + 1) by omega]
theorem hand_sim {μ : MS} {num : Int32} {q : Nat} : ∀ (k i : Nat) (τ : TS) (c : MA), τ.1 18 q < τ.1 17 q → k ≤ τ.1 19 q → τ.1 19 q ≤ τ.1 17 q → τ.1 17 q < 2 ^ 20 → (∀ m, m < k → tokT τ q m = tokM μ q (i + m)) → AccR τ c num → AccR (itr (T_hand_s q) k i τ) (itr (M_tks μ q) k i c) num ∧ (∀ f n, f ≠ 31 → f ≠ 32 → f ≠ 33 → (itr (T_hand_s q) k i τ).2.1 f n = τ.2.1 f n) ∧ ∀ m, m + k ≤ τ.1 17 q → tokT (itr (T_hand_s q) k i τ) q m = tokT τ q (m + k) := by
  intro k
  induction k with
  | zero => intro i τ c _ _ _ _ _ h; exact ⟨h, fun _ _ _ _ _ => rfl, fun _ _ => rfl⟩
  | succ k ih =>
    intro i τ c h1 h2 h3 h4 h5 h6
    have e17 : (T_hand_s q i τ).1 17 q = τ.1 17 q := by rw [T_hand_s_N, if_neg (by omega), if_neg (by omega), if_neg (by omega)]
    have e18 : (T_hand_s q i τ).1 18 q = T_place τ q 1 := by rw [T_hand_s_N, if_neg (by omega), if_pos ⟨rfl, rfl⟩]
    have e19 : (T_hand_s q i τ).1 19 q = τ.1 19 q - 1 := by rw [T_hand_s_N, if_pos ⟨rfl, rfl⟩]
    have hl := T_place_lt h1 (show 1 ≤ τ.1 17 q by omega)
    have hv : T_look τ q (nI 0) = τ.2.1 (100 + q) (T_place τ q 0) := look_0 (by omega) (by omega)
    have hA : AccR (T_hand_s q i τ) (M_tks μ q i c) num := by
      have h7 := acc_step h6 (T_look τ q (nI 0))
      have h8 : T_look τ q (nI 0) = μ.2 12 (M_at μ q i) := by rw [hv]; exact (h5 0 (by omega))
      unfold M_tks
      rw [← h8]
      obtain ⟨b1, b2, b3, b4, b5⟩ := h7
      have e30 : (T_hand_s q i τ).1 30 0 = (T_add τ (T_look τ q (nI 0))).1 30 0 := by rw [T_hand_s_N, if_neg (by omega), if_neg (by omega), if_pos ⟨rfl, rfl⟩, T_add_N, if_pos ⟨rfl, rfl⟩]
      unfold AccR
      rw [e30]
      exact ⟨b1, b2, b3, b4, b5⟩
    have h9 := ih (i + 1) (T_hand_s q i τ) (M_tks μ q i c) (by rw [e18, e17]; exact hl) (by rw [e19]; omega) (by rw [e19, e17]; omega) (by rw [e17]; exact h4) (fun m hm => by rw [tokT_hand_s i h1 (by omega), h5 (m + 1) (by omega), show i + 1 + m = i + (m + 1) by omega]) hA
    refine ⟨h9.1, fun f n a b d => (h9.2.1 f n a b d).trans (T_hand_s_I q i τ f n a b d), fun m hm => ?_⟩
    have h10 := h9.2.2 m (by rw [e17]; omega)
    show tokT (itr (T_hand_s q) k (i + 1) (T_hand_s q i τ)) q m = _
    rw [h10, tokT_hand_s i h1 (by omega), show m + k + 1 = m + (k + 1) by omega]
/-- edges' tokens agree -/
def TokR (τ : TS) (ν : MS) : Prop := ∀ q, q < τ.1 21 0 → ν.1 14 q = τ.1 19 q ∧ τ.1 18 q < τ.1 17 q ∧ τ.1 19 q ≤ τ.1 17 q ∧ τ.1 17 q < 2 ^ 20 ∧ ν.1 13 q < 910 ∧ τ.1 19 q ≤ 910 ∧ ∀ k, k < τ.1 19 q → tokT τ q k = tokM ν q k
def ActR (τ : TS) (ν : MS) : Prop := ∀ n, n < τ.1 20 0 → τ.2.1 0 n = ν.2 3 n ∧ τ.2.1 1 n = ν.2 4 n ∧ τ.2.1 2 n = ν.2 5 n ∧ τ.2.1 3 n = ν.2 6 n
def HS (n i : Nat) (num : Int32) (τ : TS) (x : MS × MA) : Prop := NR τ x.1 ∧ ActR τ x.1 ∧ TokR τ x.1 ∧ AccR τ x.2 num ∧ ∀ q, i ≤ q → q < τ.1 21 0 → τ.1 11 q = n → τ.1 13 q ≤ τ.1 19 q
theorem HS_step {n i : Nat} {num : Int32} {τ : TS} {x : MS × MA} (hi : i < τ.1 21 0) (h : HS n i num τ x) : HS n (i + 1) num (T_fire_h n i τ) (M_fh n i x) := by
  obtain ⟨h1, h2, h3, h4, h5⟩ := h
  obtain ⟨n1, n2, n3, n4, n5⟩ := h1.2.2 i hi
  unfold T_fire_h
  by_cases e : τ.1 11 i = n
  · rw [if_pos e]
    have ex : M_fh n i x = (mN (mN x.1 13 i ((x.1.1 13 i + x.1.1 10 i) % 910)) 14 i (x.1.1 14 i - x.1.1 10 i), itr (M_tks x.1 i) (x.1.1 10 i) 0 x.2) := if_pos (by rw [n2]; exact e)
    obtain ⟨t1, t2, t3, t4, t5, t6, t7⟩ := h3 i hi
    have hk := h5 i (Nat.le_refl _) hi e
    have hs := hand_sim (μ := x.1) (num := num) (q := i) (τ.1 13 i) 0 τ x.2 t2 hk t3 t4 (fun m hm => by rw [Nat.zero_add]; exact t7 m (by omega)) h4
    rw [ex, n4]
    have k1 : ∀ f j, ¬ (f = 30 ∧ j = 0) → ¬ ((f = 18 ∨ f = 19) ∧ j = i) → (T_hand τ i).1 f j = τ.1 f j := fun f j a b => T_hand_i_N i _ _ _ f j a b
    have k19 : (T_hand τ i).1 19 i = τ.1 19 i - τ.1 13 i := (T_hand_i_19 i _ _ _).1
    have k18 : (T_hand τ i).1 18 i < τ.1 17 i := T_hand_i_18 i _ _ _ t2
    have kI : ∀ f m, f ≠ 31 → f ≠ 32 → f ≠ 33 → (T_hand τ i).2.1 f m = τ.2.1 f m := hs.2.1
    have m1 : ∀ f j, ¬ ((f = 13 ∨ f = 14) ∧ j = i) → (mN (mN x.1 13 i ((x.1.1 13 i + τ.1 13 i) % 910)) 14 i (x.1.1 14 i - τ.1 13 i)).1 f j = x.1.1 f j := fun f j a => by
      show up2 (up2 x.1.1 13 i _) 14 i _ f j = _
      unfold up2
      rw [if_neg (by omega), if_neg (by omega)]
    have m13 : (mN (mN x.1 13 i ((x.1.1 13 i + τ.1 13 i) % 910)) 14 i (x.1.1 14 i - τ.1 13 i)).1 13 i = (x.1.1 13 i + τ.1 13 i) % 910 := by simp [mN, up2]
    have m14 : (mN (mN x.1 13 i ((x.1.1 13 i + τ.1 13 i) % 910)) 14 i (x.1.1 14 i - τ.1 13 i)).1 14 i = x.1.1 14 i - τ.1 13 i := up2_eq _ _ _ _
    refine ⟨h1.same (fun f j hf => k1 f j (by omega) (by omega)) (fun f j hf => m1 f j (by omega)), ?_, ?_, hs.1, ?_⟩
    · unfold ActR
      rw [k1 20 0 (by omega) (by omega)]
      intro a ha
      rw [kI 0 a (by decide) (by decide) (by decide), kI 1 a (by decide) (by decide) (by decide), kI 2 a (by decide) (by decide) (by decide), kI 3 a (by decide) (by decide) (by decide)]
      exact h2 a ha
    · unfold TokR
      rw [k1 21 0 (by omega) (by omega)]
      intro q hq
      by_cases eq : q = i
      · subst eq
        rw [k1 17 q (by omega) (by omega), k19, m14, m13]
        refine ⟨by rw [t1], k18, by omega, t4, Nat.mod_lt _ (by decide), by omega, fun k hk2 => ?_⟩
        show tokT (T_hand τ q) q k = _
        have h6 : tokT (T_hand τ q) q k = tokT τ q (k + τ.1 13 q) := hs.2.2 k (by omega)
        rw [h6, t7 (k + τ.1 13 q) (by omega)]
        have e9 : ((x.1.1 13 q + τ.1 13 q) % 910 + k) % 910 = (x.1.1 13 q + (k + τ.1 13 q)) % 910 := by omega
        refine Eq.trans ?_ (congrArg (fun z => x.1.2 12 (910 * q + (z + k) % 910)) m13.symm)
        show _ = x.1.2 12 (910 * q + ((x.1.1 13 q + τ.1 13 q) % 910 + k) % 910)
        rw [e9]
        rfl
      · obtain ⟨a1, a2, a3, a4, a5, a6, a7⟩ := h3 q hq
        have hp : ∀ k, T_place (T_hand τ i) q k = T_place τ q k := fun k => place_same k (k1 17 q (by omega) (by omega)) (k1 18 q (by omega) (by omega))
        rw [k1 17 q (by omega) (by omega), k1 18 q (by omega) (by omega), k1 19 q (by omega) (by omega), m1 14 q (by omega), m1 13 q (by omega)]
        refine ⟨a1, a2, a3, a4, a5, a6, fun k hk2 => ?_⟩
        unfold tokT
        rw [hp, kI (100 + q) _ (by omega) (by omega) (by omega)]
        have h6 := a7 k hk2
        unfold tokT at h6
        rw [h6]
        unfold tokM M_at
        rw [m1 13 q (by omega)]
        rfl
    · rw [k1 21 0 (by omega) (by omega)]
      intro q h6 h7
      rw [k1 11 q (by omega) (by omega), k1 13 q (by omega) (by omega), k1 19 q (by omega) (by omega)]
      exact h5 q (by omega) h7
  · rw [if_neg e]
    have ex : M_fh n i x = x := if_neg (by rw [n2]; exact e)
    rw [ex]
    exact ⟨h1, h2, h3, h4, fun q a b => h5 q (by omega) b⟩
theorem HS_i {n : Nat} {num : Int32} : ∀ (k i : Nat) (τ : TS) (x : MS × MA), i + k = τ.1 21 0 → HS n i num τ x → HS n (i + k) num (itr (T_fire_h n) k i τ) (itr (M_fh n) k i x) := by
  intro k
  induction k with
  | zero => intro i τ x _ h; exact h
  | succ k ih =>
    intro i τ x hk h
    have := ih (i + 1) (T_fire_h n i τ) (M_fh n i x) (by rw [T_fire_h_N n i τ 21 0 (by omega) (by omega)]; omega) (HS_step (by omega) h)
    rw [show i + 1 + k = i + (k + 1) by omega] at this
    exact this
