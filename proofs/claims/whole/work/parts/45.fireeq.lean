/-! ===== a firing: work, receive, the whole ===== -/
def wVT (τ : TS) (n : Nat) : Int32 := if τ.2.1 0 n = 0 then τ.2.1 2 n else if τ.2.1 0 n = 1 then τ.2.1 31 0 + τ.2.1 1 n else if τ.2.1 0 n = 2 then τ.2.1 31 0 * τ.2.1 1 n else if τ.2.1 0 n = 3 then τ.2.1 2 n + τ.2.1 31 0 else if τ.2.1 0 n = 4 then (if τ.1 30 0 = 0 then τ.2.1 1 n else τ.2.1 32 0) else τ.2.1 33 0 + τ.2.1 1 n
def wST (τ : TS) (n : Nat) : Int32 := if τ.2.1 0 n = 0 then τ.2.1 2 n + nI 1 else if τ.2.1 0 n = 3 then τ.2.1 2 n + τ.2.1 31 0 else τ.2.1 2 n
theorem sI_I (τ : TS) (k n : Nat) (v : Int32) (f m : Nat) : (sI τ k n v).2.1 f m = if f = k ∧ m = n then v else τ.2.1 f m := rfl
theorem T_work_I (τ : TS) (n f m : Nat) : (T_work τ n).2.1 f m = if f = 3 ∧ m = n then wVT τ n else if f = 2 ∧ m = n then wST τ n else τ.2.1 f m := by
  have one : ∀ v, (sI τ 3 n v).2.1 f m = if f = 3 ∧ m = n then v else if f = 2 ∧ m = n then τ.2.1 2 n else τ.2.1 f m := fun v => by
    rw [sI_I]
    by_cases e1 : f = 3 ∧ m = n
    · rw [if_pos e1, if_pos e1]
    · rw [if_neg e1, if_neg e1]
      by_cases e2 : f = 2 ∧ m = n
      · rw [if_pos e2, e2.1, e2.2]
      · rw [if_neg e2]
  unfold T_work wVT wST
  by_cases h0 : τ.2.1 0 n = 0
  · rw [if_pos h0, if_pos h0, if_pos h0, sI_I, sI_I]
    by_cases e1 : f = 3 ∧ m = n
    · rw [if_pos e1, if_pos e1, if_neg (by omega)]
    · rw [if_neg e1, if_neg e1]
  · rw [if_neg h0, if_neg h0, if_neg h0]
    by_cases h1 : τ.2.1 0 n = 1
    · rw [if_pos h1, if_pos h1, h1, if_neg (show ¬ (1 : Int32) = 3 by decide)]; exact one _
    · rw [if_neg h1, if_neg h1]
      by_cases h2 : τ.2.1 0 n = 2
      · rw [if_pos h2, if_pos h2, h2, if_neg (show ¬ (2 : Int32) = 3 by decide)]; exact one _
      · rw [if_neg h2, if_neg h2]
        by_cases h3 : τ.2.1 0 n = 3
        · rw [if_pos h3, if_pos h3, if_pos h3, sI_I, sI_I]
        · rw [if_neg h3, if_neg h3, if_neg h3]
          by_cases h4 : τ.2.1 0 n = 4
          · rw [if_pos h4, if_pos h4]; exact one _
          · rw [if_neg h4, if_neg h4]; exact one _
theorem M_val_I (μ : MS) (n : Nat) (c : MA) (f m : Nat) : (M_val μ n c).2.2 f m = if f = 5 ∧ m = n then (if μ.2 3 n = 0 then μ.2 5 n + nI 1 else if μ.2 3 n = 3 then μ.2 5 n + c.1 else μ.2 5 n) else μ.2 f m := by
  have none9 : μ.2 f m = if f = 5 ∧ m = n then μ.2 5 n else μ.2 f m := by
    by_cases e : f = 5 ∧ m = n
    · rw [if_pos e, e.1, e.2]
    · rw [if_neg e]
  unfold M_val
  by_cases h0 : μ.2 3 n = 0
  · rw [if_pos h0, if_pos h0]; rfl
  · rw [if_neg h0, if_neg h0]
    by_cases h1 : μ.2 3 n = 1
    · rw [if_pos h1, h1, if_neg (show ¬ (1 : Int32) = 3 by decide)]; exact none9
    · rw [if_neg h1]
      by_cases h2 : μ.2 3 n = 2
      · rw [if_pos h2, h2, if_neg (show ¬ (2 : Int32) = 3 by decide)]; exact none9
      · rw [if_neg h2]
        by_cases h3 : μ.2 3 n = 3
        · rw [if_pos h3, if_pos h3]; rfl
        · rw [if_neg h3, if_neg h3]
          by_cases h4 : μ.2 3 n = 4
          · rw [if_pos h4]; exact none9
          · rw [if_neg h4]; exact none9
theorem work_val {τ : TS} {μ : MS} {c : MA} {n : Nat} (hn : n < τ.1 20 0) (hA : ActR τ μ) (hc : AccR τ c (μ.2 4 n)) : (M_val μ n c).1 = wVT τ n ∧ (if μ.2 3 n = 0 then μ.2 5 n + nI 1 else if μ.2 3 n = 3 then μ.2 5 n + c.1 else μ.2 5 n) = wST τ n := by
  obtain ⟨a0, a1, a2, a3⟩ := hA n hn
  obtain ⟨c1, c2, c3, c4, c5⟩ := hc
  unfold wVT wST M_val
  rw [a0, a1, a2, c1, c2]
  refine ⟨?_, rfl⟩
  by_cases h0 : μ.2 3 n = 0
  · rw [if_pos h0, if_pos h0]
  · rw [if_neg h0, if_neg h0]
    by_cases h1 : μ.2 3 n = 1
    · rw [if_pos h1, if_pos h1]
    · rw [if_neg h1, if_neg h1]
      by_cases h2 : μ.2 3 n = 2
      · rw [if_pos h2, if_pos h2]
      · rw [if_neg h2, if_neg h2]
        by_cases h3 : μ.2 3 n = 3
        · rw [if_pos h3, if_pos h3]
        · rw [if_neg h3, if_neg h3]
          by_cases h4 : μ.2 3 n = 4
          · rw [if_pos h4, if_pos h4]
            by_cases e : τ.1 30 0 = 0
            · rw [if_pos e]; exact c5 e
            · rw [if_neg e]; exact (c4 (by omega)).symm
          · rw [if_neg h4, if_neg h4]
/-- before the edges receive -/
def RS (n i : Nat) (v : Int32) (τ : TS) (ν : MS) : Prop := NR τ ν ∧ ActR τ ν ∧ TokR τ ν ∧ τ.2.1 3 n = v ∧ ∀ q, i ≤ q → q < τ.1 21 0 → τ.1 10 q = n → τ.1 19 q + τ.1 12 q ≤ τ.1 17 q ∧ τ.1 19 q + τ.1 12 q ≤ 910
theorem T_recv_s_I (q : Nat) (v : Int32) (i : Nat) (τ : TS) (f m : Nat) : (T_recv_s q v i τ).2.1 f m = if f = 100 + q ∧ m = T_place τ q (τ.1 19 q) then v + nI i else τ.2.1 f m := rfl
theorem recvT {q : Nat} {v : Int32} : ∀ (k i : Nat) (τ : TS), τ.1 18 q < τ.1 17 q → τ.1 19 q + k ≤ τ.1 17 q → (∀ f m, f ≠ 100 + q → (itr (T_recv_s q v) k i τ).2.1 f m = τ.2.1 f m) ∧ ∀ m, m < τ.1 19 q + k → (itr (T_recv_s q v) k i τ).2.1 (100 + q) (T_place τ q m) = if m < τ.1 19 q then τ.2.1 (100 + q) (T_place τ q m) else v + nI (i + (m - τ.1 19 q)) := by
  intro k
  induction k with
  | zero => intro i τ h1 h2; exact ⟨fun _ _ _ => rfl, fun m hm => by rw [if_pos (by omega)]; rfl⟩
  | succ k ih =>
    intro i τ h1 h2
    have eN : ∀ f j, (T_recv_s q v i τ).1 f j = if f = 19 ∧ j = q then τ.1 19 q + 1 else τ.1 f j := fun f j => rfl
    have e17 : (T_recv_s q v i τ).1 17 q = τ.1 17 q := by rw [eN, if_neg (by omega)]
    have e18 : (T_recv_s q v i τ).1 18 q = τ.1 18 q := by rw [eN, if_neg (by omega)]
    have e19 : (T_recv_s q v i τ).1 19 q = τ.1 19 q + 1 := by rw [eN, if_pos ⟨rfl, rfl⟩]
    have hp : ∀ m, T_place (T_recv_s q v i τ) q m = T_place τ q m := fun m => place_same m e17 e18
    obtain ⟨g1, g2⟩ := ih (i + 1) (T_recv_s q v i τ) (by rw [e17, e18]; exact h1) (by rw [e17, e19]; omega)
    refine ⟨fun f m hf => (g1 f m hf).trans (by rw [T_recv_s_I, if_neg (by omega)]), fun m hm => ?_⟩
    have g3 := g2 m (by rw [e19]; omega)
    rw [hp, e19, T_recv_s_I] at g3
    show (itr (T_recv_s q v) k (i + 1) (T_recv_s q v i τ)).2.1 _ _ = _
    rw [g3]
    by_cases a : m < τ.1 19 q
    · rw [if_pos (by omega), if_pos a, if_neg (fun z => by have := place_inj h1 (by omega) (by omega) z.2; omega)]
    · rw [if_neg a]
      by_cases b : m = τ.1 19 q
      · rw [if_pos (by omega), if_pos ⟨rfl, by rw [b]⟩, b, Nat.sub_self, Nat.add_zero]
      · rw [if_neg (by omega), show i + 1 + (m - (τ.1 19 q + 1)) = i + (m - τ.1 19 q) by omega]
theorem M_frk_I (e : Nat) (v : Int32) (k : Nat) (ν : MS) (f m : Nat) : (M_frk e v k ν).2 f m = if f = 12 ∧ m = M_at ν e (ν.1 14 e + k) then v + nI k else ν.2 f m := rfl
theorem recvM {e : Nat} {v : Int32} : ∀ (k i : Nat) (ν : MS), ν.1 14 e + i + k ≤ 910 → (∀ f m, f ≠ 12 → (itr (M_frk e v) k i ν).2 f m = ν.2 f m) ∧ ∀ q m, m < 910 → (itr (M_frk e v) k i ν).2 12 (M_at ν q m) = if q = e ∧ ν.1 14 e + i ≤ m ∧ m < ν.1 14 e + i + k then v + nI (m - ν.1 14 e) else ν.2 12 (M_at ν q m) := by
  intro k
  induction k with
  | zero => intro i ν _; exact ⟨fun _ _ _ => rfl, fun q m _ => by rw [if_neg (by omega)]; rfl⟩
  | succ k ih =>
    intro i ν h1
    have eN : (M_frk e v i ν).1 = ν.1 := rfl
    have ha : ∀ q m, M_at (M_frk e v i ν) q m = M_at ν q m := fun q m => rfl
    obtain ⟨g1, g2⟩ := ih (i + 1) (M_frk e v i ν) (by rw [eN]; omega)
    refine ⟨fun f m hf => (g1 f m hf).trans (by rw [M_frk_I, if_neg (by omega)]), fun q m hm => ?_⟩
    have g3 := g2 q m hm
    rw [ha, eN, M_frk_I] at g3
    show (itr (M_frk e v) k (i + 1) (M_frk e v i ν)).2 _ _ = _
    rw [g3]
    have hat : M_at ν q m = M_at ν e (ν.1 14 e + i) ↔ q = e ∧ m = ν.1 14 e + i := by
      unfold M_at
      constructor
      · intro z
        have z1 := Nat.mod_lt (ν.1 13 q + m) (show 0 < 910 by decide)
        have z2 := Nat.mod_lt (ν.1 13 e + (ν.1 14 e + i)) (show 0 < 910 by decide)
        have hqe : q = e := by omega
        subst hqe
        refine ⟨rfl, ?_⟩
        omega
      · intro z; rw [z.1, z.2]
    by_cases a : q = e ∧ ν.1 14 e + (i + 1) ≤ m ∧ m < ν.1 14 e + (i + 1) + k
    · rw [if_pos a, if_pos (by omega)]
    · rw [if_neg a]
      by_cases b : q = e ∧ m = ν.1 14 e + i
      · rw [if_pos ⟨rfl, hat.mpr b⟩, if_pos (by omega), b.2, show ν.1 14 e + i - ν.1 14 e = i by omega]
      · rw [if_neg (fun z => b (hat.mp z.2)), if_neg (by omega)]
theorem RS_step {n i : Nat} {v : Int32} {τ : TS} {ν : MS} (hi : i < τ.1 21 0) (h : RS n i v τ ν) : RS n (i + 1) v (T_fire_r n i τ) (M_fr n v i ν) := by
  obtain ⟨h1, h2, h3, h4, h5⟩ := h
  obtain ⟨n1, n2, n3, n4, n5⟩ := h1.2.2 i hi
  unfold T_fire_r
  by_cases e : τ.1 10 i = n
  · rw [if_pos e, h4]
    have ex : M_fr n v i ν = M_fr2 (itr (M_frk i v) (ν.1 9 i) 0 ν) i := if_pos (by rw [n1]; exact e)
    obtain ⟨t1, t2, t3, t4, t5, t6, t7⟩ := h3 i hi
    obtain ⟨r1, r2⟩ := h5 i (Nat.le_refl _) hi e
    obtain ⟨gT1, gT2⟩ := recvT (q := i) (v := v) (τ.1 12 i) 0 τ t2 r1
    obtain ⟨gM1, gM2⟩ := recvM (e := i) (v := v) (τ.1 12 i) 0 ν (by rw [t1]; omega)
    rw [ex, n3]
    have kN : ∀ f j, (T_recv τ i v).1 f j = if f = 19 ∧ j = i then τ.1 19 i + τ.1 12 i else τ.1 f j := fun f j => T_recv_i_N i v _ _ _ f j
    have mN9 : ∀ f j, (M_fr2 (itr (M_frk i v) (τ.1 12 i) 0 ν) i).1 f j = if f = 14 ∧ j = i then ν.1 14 i + ν.1 9 i else ν.1 f j := fun f j => by
      show up2 (itr (M_frk i v) (τ.1 12 i) 0 ν).1 14 i _ f j = _
      rw [itr_frk_N]; rfl
    have mI9 : (M_fr2 (itr (M_frk i v) (τ.1 12 i) 0 ν) i).2 = (itr (M_frk i v) (τ.1 12 i) 0 ν).2 := rfl
    have hat : ∀ q m, M_at (M_fr2 (itr (M_frk i v) (τ.1 12 i) 0 ν) i) q m = M_at ν q m := fun q m => by unfold M_at; rw [mN9, if_neg (by omega)]
    have hpl : ∀ q m, T_place (T_recv τ i v) q m = T_place τ q m := fun q m => place_same m (by rw [kN, if_neg (by omega)]) (by rw [kN, if_neg (by omega)])
    have kI : ∀ f m, f ≠ 100 + i → (T_recv τ i v).2.1 f m = τ.2.1 f m := gT1
    refine ⟨h1.same (fun f j hf => by rw [kN, if_neg (by omega)]) (fun f j hf => by rw [mN9, if_neg (by omega)]), ?_, ?_, ?_, ?_⟩
    · unfold ActR
      rw [kN, if_neg (by omega), mI9]
      intro a ha
      rw [kI 0 a (by omega), kI 1 a (by omega), kI 2 a (by omega), kI 3 a (by omega), gM1 3 a (by decide), gM1 4 a (by decide), gM1 5 a (by decide), gM1 6 a (by decide)]
      exact h2 a ha
    · unfold TokR
      rw [kN, if_neg (by omega)]
      intro q hq
      by_cases eq : q = i
      · subst eq
        have k17 : (T_recv τ q v).1 17 q = τ.1 17 q := by rw [kN, if_neg (by omega)]
        have k18 : (T_recv τ q v).1 18 q = τ.1 18 q := by rw [kN, if_neg (by omega)]
        have k19 : (T_recv τ q v).1 19 q = τ.1 19 q + τ.1 12 q := by rw [kN, if_pos ⟨rfl, rfl⟩]
        have m14 : (M_fr2 (itr (M_frk q v) (τ.1 12 q) 0 ν) q).1 14 q = τ.1 19 q + τ.1 12 q := by rw [mN9, if_pos ⟨rfl, rfl⟩, t1, n3]
        have m13 : (M_fr2 (itr (M_frk q v) (τ.1 12 q) 0 ν) q).1 13 q = ν.1 13 q := by rw [mN9, if_neg (by omega)]
        rw [k17, k18, k19, m14, m13]
        refine ⟨rfl, t2, r1, t4, t5, r2, fun k hk => ?_⟩
        unfold tokT tokM
        rw [hpl, hat, mI9]
        have g3 : (T_recv τ q v).2.1 (100 + q) (T_place τ q k) = if k < τ.1 19 q then τ.2.1 (100 + q) (T_place τ q k) else v + nI (0 + (k - τ.1 19 q)) := gT2 k hk
        rw [g3, gM2 q k (by omega), t1]
        by_cases a : k < τ.1 19 q
        · rw [if_pos a, if_neg (by omega)]; exact t7 k a
        · rw [if_neg a, if_pos (by omega), Nat.zero_add]
      · obtain ⟨a1, a2, a3, a4, a5, a6, a7⟩ := h3 q hq
        have k17 : (T_recv τ i v).1 17 q = τ.1 17 q := by rw [kN, if_neg (by omega)]
        have k18 : (T_recv τ i v).1 18 q = τ.1 18 q := by rw [kN, if_neg (by omega)]
        have k19 : (T_recv τ i v).1 19 q = τ.1 19 q := by rw [kN, if_neg (by omega)]
        have m14 : (M_fr2 (itr (M_frk i v) (τ.1 12 i) 0 ν) i).1 14 q = ν.1 14 q := by rw [mN9, if_neg (by omega)]
        have m13 : (M_fr2 (itr (M_frk i v) (τ.1 12 i) 0 ν) i).1 13 q = ν.1 13 q := by rw [mN9, if_neg (by omega)]
        rw [k17, k18, k19, m14, m13]
        refine ⟨a1, a2, a3, a4, a5, a6, fun k hk => ?_⟩
        unfold tokT tokM
        rw [hpl, hat, mI9, kI (100 + q) _ (by omega), gM2 q k (by omega), if_neg (by omega)]
        exact a7 k hk
    · rw [kI 3 n (by omega)]; exact h4
    · rw [kN, if_neg (by omega)]
      intro q h6 h7
      have k17 : (T_recv τ i v).1 17 q = τ.1 17 q := by rw [kN, if_neg (by omega)]
      have k10 : (T_recv τ i v).1 10 q = τ.1 10 q := by rw [kN, if_neg (by omega)]
      have k12 : (T_recv τ i v).1 12 q = τ.1 12 q := by rw [kN, if_neg (by omega)]
      have k19 : (T_recv τ i v).1 19 q = τ.1 19 q := by rw [kN, if_neg (by omega)]
      rw [k17, k10, k12, k19]
      exact h5 q (by omega) h7
  · rw [if_neg e]
    have ex : M_fr n v i ν = ν := if_neg (by rw [n1]; exact e)
    rw [ex]
    exact ⟨h1, h2, h3, h4, fun q a b => h5 q (by omega) b⟩
theorem RS_i {n : Nat} {v : Int32} : ∀ (k i : Nat) (τ : TS) (ν : MS), i + k = τ.1 21 0 → RS n i v τ ν → RS n (i + k) v (itr (T_fire_r n) k i τ) (itr (M_fr n v) k i ν) := by
  intro k
  induction k with
  | zero => intro i τ ν _ h; exact h
  | succ k ih =>
    intro i τ ν hk h
    have := ih (i + 1) (T_fire_r n i τ) (M_fr n v i ν) (by rw [T_fire_r_N n i τ 21 0 (by omega)]; omega) (RS_step (by omega) h)
    rw [show i + 1 + k = i + (k + 1) by omega] at this
    exact this
theorem fire_r_i (n : Nat) : ∀ (k i : Nat) (τ : TS) (f j : Nat), (itr (T_fire_r n) k i τ).1 f j = if f = 19 ∧ τ.1 10 j = n ∧ i ≤ j ∧ j < i + k then τ.1 19 j + τ.1 12 j else τ.1 f j := by
  intro k
  induction k with
  | zero => intro i τ f j; rw [if_neg (by omega)]; rfl
  | succ k ih =>
    intro i τ f j
    show (itr (T_fire_r n) k (i + 1) (T_fire_r n i τ)).1 f j = _
    have es : ∀ f j, (T_fire_r n i τ).1 f j = if f = 19 ∧ τ.1 10 i = n ∧ j = i then τ.1 19 i + τ.1 12 i else τ.1 f j := fun f j => by
      unfold T_fire_r
      by_cases e : τ.1 10 i = n
      · rw [if_pos e]; unfold T_recv; rw [T_recv_i_N]
        by_cases e2 : f = 19 ∧ j = i
        · rw [if_pos e2, if_pos (by omega)]
        · rw [if_neg e2, if_neg (by omega)]
      · rw [if_neg e, if_neg (by omega)]
    have e10 : (T_fire_r n i τ).1 10 j = τ.1 10 j := by rw [es, if_neg (by omega)]
    have e12 : (T_fire_r n i τ).1 12 j = τ.1 12 j := by rw [es, if_neg (by omega)]
    rw [ih, e10, e12, es 19 j, es f j]
    by_cases ej : j = i
    · subst ej
      rw [if_neg (show ¬ (f = 19 ∧ _ ∧ _ ∧ _) by omega)]
      by_cases e : f = 19 ∧ τ.1 10 j = n
      · rw [if_pos (by omega), if_pos (by omega)]
      · rw [if_neg (by omega), if_neg (by omega)]
    · rw [if_neg (show ¬ (19 = 19 ∧ τ.1 10 i = n ∧ j = i) by omega), if_neg (show ¬ (f = 19 ∧ τ.1 10 i = n ∧ j = i) by omega)]
      by_cases e : f = 19 ∧ τ.1 10 j = n ∧ i + 1 ≤ j ∧ j < i + 1 + k
      · rw [if_pos e, if_pos (show f = 19 ∧ τ.1 10 j = n ∧ i ≤ j ∧ j < i + (k + 1) by omega)]
      · rw [if_neg e, if_neg (show ¬ (f = 19 ∧ τ.1 10 j = n ∧ i ≤ j ∧ j < i + (k + 1)) by omega)]
theorem FI_keep (n : Nat) : ∀ (k i : Nat) (x : MS × MA), (∀ f j, f ≠ 13 → f ≠ 14 → (itr (M_fh n) k i x).1.1 f j = x.1.1 f j) ∧ (itr (M_fh n) k i x).1.2 = x.1.2 := by
  intro k
  induction k with
  | zero => intro i x; exact ⟨fun _ _ _ _ => rfl, rfl⟩
  | succ k ih =>
    intro i x
    have h := ih (i + 1) (M_fh n i x)
    exact ⟨fun f j a b => (h.1 f j a b).trans (by rw [M_fh_N, if_neg (by omega), if_neg (by omega)]), h.2.trans (M_fh_I n i x)⟩
/-- a firing in both, where the tokens suffice -/
theorem fire_sim {σ : TS} {μ : MS} {n : Nat} (hn : n < σ.1 20 0) (h1 : NR σ μ) (h2 : ActR σ μ) (h3 : TokR σ μ) (h4 : ∀ q, q < σ.1 21 0 → σ.1 11 q = n → σ.1 13 q ≤ σ.1 19 q) (h5 : ∀ q, q < σ.1 21 0 → σ.1 10 q = n → (if σ.1 11 q = n then σ.1 19 q - σ.1 13 q else σ.1 19 q) + σ.1 12 q ≤ σ.1 17 q ∧ (if σ.1 11 q = n then σ.1 19 q - σ.1 13 q else σ.1 19 q) + σ.1 12 q ≤ 910) :
    NR (T_fire σ n) (M_fire μ n) ∧ ActR (T_fire σ n) (M_fire μ n) ∧ TokR (T_fire σ n) (M_fire μ n) ∧ (∀ f j, f ≠ 18 → f ≠ 19 → f ≠ 30 → (T_fire σ n).1 f j = σ.1 f j) ∧ (∀ q, q < σ.1 21 0 → (T_fire σ n).1 19 q = (if σ.1 11 q = n then σ.1 19 q - σ.1 13 q else σ.1 19 q) + (if σ.1 10 q = n then σ.1 12 q else 0)) ∧ (∀ f j, f ≠ 13 → f ≠ 14 → (M_fire μ n).1 f j = μ.1 f j) := by
  have kf : ∀ f j, f ≠ 30 → (T_forget σ).1 f j = σ.1 f j := fun f j hf => by rw [T_forget_N, if_neg (by omega)]
  have kfI : ∀ f j, f ≠ 31 → f ≠ 32 → f ≠ 33 → (T_forget σ).2.1 f j = σ.2.1 f j := fun f j a b c => by
    show up2 (up2 (up2 σ.2.1 31 0 _) 32 0 _) 33 0 _ f j = _
    rw [up2_k _ _ _ _ c, up2_k _ _ _ _ b, up2_k _ _ _ _ a]
  have s0 : HS n 0 (μ.2 4 n) (T_forget σ) (μ, (nI 0, nI 0, μ.2 4 n, 0)) := by
    refine ⟨h1.same (fun f j hf => kf f j (by omega)) (fun _ _ _ => rfl), ?_, ?_, ?_, ?_⟩
    · unfold ActR
      rw [kf 20 0 (by decide)]
      intro a ha
      rw [kfI 0 a (by decide) (by decide) (by decide), kfI 1 a (by decide) (by decide) (by decide), kfI 2 a (by decide) (by decide) (by decide), kfI 3 a (by decide) (by decide) (by decide)]
      exact h2 a ha
    · unfold TokR
      rw [kf 21 0 (by decide)]
      intro q hq
      obtain ⟨a1, a2, a3, a4, a5, a6, a7⟩ := h3 q hq
      rw [kf 17 q (by decide), kf 18 q (by decide), kf 19 q (by decide)]
      refine ⟨a1, a2, a3, a4, a5, a6, fun k hk => ?_⟩
      unfold tokT
      rw [place_same (σ := σ) k (kf 17 q (by decide)) (kf 18 q (by decide)), kfI (100 + q) _ (by omega) (by omega) (by omega)]
      exact a7 k hk
    · refine ⟨?_, ?_, ⟨fun _ => rfl, fun _ => by rw [T_forget_N, if_pos ⟨rfl, rfl⟩]⟩, fun q => ?_, fun _ => rfl⟩
      · simp [T_forget, sI, sN, up2]
      · simp [T_forget, sI, sN, up2]
      · rw [T_forget_N, if_pos ⟨rfl, rfl⟩] at q; omega
    · rw [kf 21 0 (by decide)]
      intro q _ hq
      rw [kf 11 q (by decide), kf 13 q (by decide), kf 19 q (by decide)]
      exact h4 q hq
  have sH := HS_i (n := n) (σ.1 21 0) 0 (T_forget σ) _ (by rw [kf 21 0 (by decide)]; omega) s0
  have kh : ∀ f j, f ≠ 30 → f ≠ 18 → f ≠ 19 → (itr (T_fire_h n) (σ.1 21 0) 0 (T_forget σ)).1 f j = σ.1 f j := fun f j a b c => by
    rw [T_fire_h_iN n _ _ _ f j (by omega) b c, kf f j a]
  have k19 : ∀ q, q < σ.1 21 0 → (itr (T_fire_h n) (σ.1 21 0) 0 (T_forget σ)).1 19 q = if σ.1 11 q = n then σ.1 19 q - σ.1 13 q else σ.1 19 q := fun q hq => by
    have b := (T_fire_h_i18 n (σ.1 21 0) 0 (T_forget σ) q (fun _ => by rw [kf 17 q (by decide), kf 18 q (by decide)]; exact (h3 q hq).2.1)).1
    rw [kf 11 q (by decide), kf 13 q (by decide), kf 19 q (by decide)] at b
    rw [b]
    by_cases e : σ.1 11 q = n
    · rw [if_pos (by omega), if_pos e]
    · rw [if_neg (by omega), if_neg e]
  have km := FI_keep n (σ.1 21 0) 0 (μ, (nI 0, nI 0, μ.2 4 n, 0))
  have e1 : M_fire μ n = M_fire1 n (itr (M_fh n) (σ.1 21 0) 0 (μ, (nI 0, nI 0, μ.2 4 n, 0))) := by unfold M_fire; rw [h1.2.1]
  have e2 : T_fire σ n = itr (T_fire_r n) (σ.1 21 0) 0 (T_work (itr (T_fire_h n) (σ.1 21 0) 0 (T_forget σ)) n) := rfl
  rw [e1, e2]
  generalize itr (M_fh n) (σ.1 21 0) 0 (μ, (nI 0, nI 0, μ.2 4 n, 0)) = x at sH km ⊢
  generalize itr (T_fire_h n) (σ.1 21 0) 0 (T_forget σ) = τ at sH kh k19 ⊢
  obtain ⟨q1, q2, q3, q4, -⟩ := sH
  have km4 : x.1.2 4 n = μ.2 4 n := by rw [km.2]
  rw [← km4] at q4
  have hnτ : n < τ.1 20 0 := by rw [kh 20 0 (by decide) (by decide) (by decide)]; exact hn
  obtain ⟨w1, w2⟩ := work_val hnτ q2 q4
  unfold M_fire1 M_fire2
  have eE : x.1.1 1 0 = σ.1 21 0 := by rw [← q1.2.1, kh 21 0 (by decide) (by decide) (by decide)]
  rw [eE, w1]
  have mv1 : (M_val x.1 n x.2).2.1 = x.1.1 := M_val_N _ _ _
  have mvI := M_val_I x.1 n x.2
  rw [w2] at mvI
  generalize (M_val x.1 n x.2).2 = ν at mv1 mvI ⊢
  have r0 : RS n 0 (wVT τ n) (T_work τ n) (mI ν 6 n (wVT τ n)) := by
    have tN : (T_work τ n).1 = τ.1 := T_work_N τ n
    have mI6 : ∀ f m, (mI ν 6 n (wVT τ n)).2 f m = if f = 6 ∧ m = n then wVT τ n else ν.2 f m := fun f m => rfl
    have mN6 : (mI ν 6 n (wVT τ n)).1 = x.1.1 := mv1
    refine ⟨q1.same (fun f j _ => by rw [tN]) (fun f j _ => by rw [mN6]), ?_, ?_, ?_, ?_⟩
    · unfold ActR
      rw [tN]
      intro a ha
      obtain ⟨b0, b1, b2, b3⟩ := q2 a ha
      have s0 : (T_work τ n).2.1 0 a = τ.2.1 0 a := by rw [T_work_I, if_neg (by omega), if_neg (by omega)]
      have s1 : (T_work τ n).2.1 1 a = τ.2.1 1 a := by rw [T_work_I, if_neg (by omega), if_neg (by omega)]
      have s2 : (T_work τ n).2.1 2 a = if a = n then wST τ n else τ.2.1 2 a := by
        rw [T_work_I, if_neg (by omega)]
        by_cases e : a = n
        · rw [if_pos ⟨rfl, e⟩, if_pos e]
        · rw [if_neg (by omega), if_neg e]
      have s3 : (T_work τ n).2.1 3 a = if a = n then wVT τ n else τ.2.1 3 a := by
        rw [T_work_I]
        by_cases e : a = n
        · rw [if_pos ⟨rfl, e⟩, if_pos e]
        · rw [if_neg (by omega), if_neg (by omega), if_neg e]
      have u3 : (mI ν 6 n (wVT τ n)).2 3 a = x.1.2 3 a := by rw [mI6, if_neg (by omega), mvI, if_neg (by omega)]
      have u4 : (mI ν 6 n (wVT τ n)).2 4 a = x.1.2 4 a := by rw [mI6, if_neg (by omega), mvI, if_neg (by omega)]
      have u5 : (mI ν 6 n (wVT τ n)).2 5 a = if a = n then wST τ n else x.1.2 5 a := by
        rw [mI6, if_neg (by omega), mvI]
        by_cases e : a = n
        · rw [if_pos ⟨rfl, e⟩, if_pos e]
        · rw [if_neg (by omega), if_neg e]
      have u6 : (mI ν 6 n (wVT τ n)).2 6 a = if a = n then wVT τ n else x.1.2 6 a := by
        rw [mI6]
        by_cases e : a = n
        · rw [if_pos ⟨rfl, e⟩, if_pos e]
        · rw [if_neg (by omega), if_neg e, mvI, if_neg (by omega)]
      rw [s0, s1, s2, s3, u3, u4, u5, u6]
      refine ⟨b0, b1, ?_, ?_⟩
      · rw [b2]
      · rw [b3]
    · unfold TokR
      rw [tN, mN6]
      intro q hq
      obtain ⟨a1, a2, a3, a4, a5, a6, a7⟩ := q3 q hq
      refine ⟨a1, a2, a3, a4, a5, a6, fun k hk => ?_⟩
      unfold tokT tokM
      rw [T_work_I, if_neg (by omega), if_neg (by omega), place_same (σ := τ) k (by rw [tN]) (by rw [tN]), mI6, if_neg (by omega), mvI, if_neg (by omega)]
      have h6 := a7 k hk
      unfold tokT tokM M_at at h6
      unfold M_at
      rw [mN6]
      exact h6
    · rw [T_work_I, if_pos ⟨rfl, rfl⟩]
    · rw [tN, kh 21 0 (by decide) (by decide) (by decide)]
      intro q _ hq
      rw [kh 10 q (by decide) (by decide) (by decide), kh 12 q (by decide) (by decide) (by decide), kh 17 q (by decide) (by decide) (by decide), k19 q hq]
      exact h5 q hq
  have rE := RS_i (n := n) (v := wVT τ n) (σ.1 21 0) 0 (T_work τ n) _ (by rw [T_work_N, kh 21 0 (by decide) (by decide) (by decide)]; omega) r0
  refine ⟨rE.1, rE.2.1, rE.2.2.1, fun f j a b c => ?_, fun q hq => ?_, fun f j a b => ?_⟩
  · rw [fire_r_i, if_neg (by omega), T_work_N, kh f j c a b]
  · rw [fire_r_i, T_work_N, kh 10 q (by decide) (by decide) (by decide), kh 12 q (by decide) (by decide) (by decide), k19 q hq]
    by_cases e : σ.1 10 q = n
    · rw [if_pos (by omega), if_pos e]
    · rw [if_neg (by omega), if_neg e, Nat.add_zero]
  · have fr : ∀ (k i : Nat) (ν : MS), (itr (M_fr n (wVT τ n)) k i ν).1 f j = ν.1 f j := by
      intro k
      induction k with
      | zero => intro i ν; rfl
      | succ k ih => intro i ν; exact (ih (i + 1) _).trans (by rw [M_fr_N, if_neg (by omega)])
    rw [fr]
    show ν.1 f j = _
    rw [mv1, km.1 f j a b]
