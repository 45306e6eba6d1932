/-! ===== the calls that change the network; the questions ===== -/
theorem change_rel {σ : TS} {μ : MS} (hN : TNet σ) (hR : NR σ μ) (hk : ∀ n, n < σ.1 20 0 → σ.2.1 0 n = μ.2 3 n ∧ σ.2.1 1 n = μ.2 4 n) (hl : ∀ q, q < 12 → 9 ≤ σ.1 17 q ∧ σ.1 17 q ≤ 1818) : Rel 0 (T_change σ) (M_changed μ) ∧ ∀ q, (T_change σ).1 17 q = σ.1 17 q := by
  have e22 : (sN σ 22 0 0).1 22 0 = 0 := by simp [sN, up2]
  have e15 : (mN μ 15 0 0).1 15 0 = 0 := by simp [mN, up2]
  have kt : ∀ f j, f ≠ 22 → (sN σ 22 0 0).1 f j = σ.1 f j := fun f j hf => sN_k _ _ _ _ hf
  have hN2 := hN.s22 0
  have hl2 : ∀ q, q < 12 → 9 ≤ (sN σ 22 0 0).1 17 q ∧ (sN σ 22 0 0).1 17 q ≤ 1818 := fun q hq => by rw [kt 17 q (by decide)]; exact hl q hq
  refine ⟨start_rel ⟨hN2, hR.same (fun f j hf => kt f j (by omega)) (fun f j hf => mN_k _ _ _ _ (by omega)), ?_, hl2, ⟨by rw [e15, e22], fun j hj => by omega, fun hp => by omega⟩, POK.void hN2 e22 (fun q hq => (hl2 q hq).1)⟩, fun q => ?_⟩
  · rw [kt 20 0 (by decide)]; exact hk
  · unfold T_change
    rw [(T_start_all _).1, if_neg (by omega), if_neg (by omega), kt 17 q (by decide)]
theorem tn_in {x : Int32} {n : Nat} (hn : n ≤ 200) (h : inR x n = true) : tn x < n := by
  obtain ⟨j, hj, rfl⟩ := inR_of (by omega) h
  simp only [tn]
  rw [nI_clamp (by omega)]
  exact hj
theorem tn_wi {x : Int32} {a b : Nat} (ha : a ≤ 200) (hb : b ≤ 200) (h : wi x a b = true) : a ≤ tn x ∧ tn x ≤ b := by
  obtain ⟨j, h1, h2, rfl⟩ := wi_of (by omega) (by omega) h
  simp only [tn]
  rw [nI_clamp (by omega)]
  exact ⟨h1, h2⟩
theorem not_f {b : Bool} (h : ¬ b = false) : b = true := by
  cases b
  · exact absurd rfl h
  · rfl
theorem actor_sim {σ : TS} {μ : MS} {x y : Int32} (h : Rel 0 σ μ) : (T_actor σ x y).1 = (M_actor μ x y).1 ∧ Rel 0 (T_actor σ x y).2 (M_actor μ x y).2 ∧ ∀ q, (T_actor σ x y).2.1 17 q = σ.1 17 q := by
  have h0 := h
  obtain ⟨⟨p1, p2, p3, p4, p5, p6⟩, r2, r3, r4⟩ := h
  unfold T_actor M_actor
  by_cases e1 : wi x 0 5 = false
  · rw [if_pos e1, if_pos e1]; exact ⟨rfl, h0.m2 0, fun _ => rfl⟩
  · rw [if_neg e1, if_neg e1]
    have h8 := p1.1
    have e := p2.1
    by_cases e2 : 8 ≤ σ.1 20 0
    · rw [if_pos e2, if_pos (by omega)]; exact ⟨rfl, h0.m2 0, fun _ => rfl⟩
    · rw [if_neg e2, if_neg (by omega), ← e]
      refine ⟨rfl, ?_⟩
      have tk : ∀ f j, f ≠ 20 → (sN (sI (sI σ 0 (σ.1 20 0) x) 1 (σ.1 20 0) y) 20 0 (σ.1 20 0 + 1)).1 f j = σ.1 f j := fun f j hf => up2_k _ _ _ _ hf
      have t20 : (sN (sI (sI σ 0 (σ.1 20 0) x) 1 (σ.1 20 0) y) 20 0 (σ.1 20 0 + 1)).1 20 0 = σ.1 20 0 + 1 := by simp [sN, sI, up2]
      have m0 : (mN (mI (mI (mN μ 2 0 0) 3 (σ.1 20 0) x) 4 (σ.1 20 0) y) 0 0 (σ.1 20 0 + 1)).1 0 0 = σ.1 20 0 + 1 := by simp [mN, mI, up2]
      have mk : ∀ f j, f ≠ 0 → f ≠ 2 → (mN (mI (mI (mN μ 2 0 0) 3 (σ.1 20 0) x) 4 (σ.1 20 0) y) 0 0 (σ.1 20 0 + 1)).1 f j = μ.1 f j := fun f j a b => by
        show up2 (up2 μ.1 2 0 0) 0 0 _ f j = _
        rw [up2_k _ _ _ _ a, up2_k _ _ _ _ b]
      have hr := change_rel (σ := sN (sI (sI σ 0 (σ.1 20 0) x) 1 (σ.1 20 0) y) 20 0 (σ.1 20 0 + 1)) (μ := mN (mI (mI (mN μ 2 0 0) 3 (σ.1 20 0) x) 4 (σ.1 20 0) y) 0 0 (σ.1 20 0 + 1)) ?_ ?_ ?_ ?_
      · exact ⟨hr.1, fun q => (hr.2 q).trans (tk 17 q (by decide))⟩
      · unfold TNet
        rw [t20, tk 21 0 (by decide)]
        refine ⟨by omega, p1.2.1, fun q hq => ?_⟩
        rw [tk 10 q (by decide), tk 11 q (by decide), tk 12 q (by decide), tk 13 q (by decide), tk 14 q (by decide)]
        have := p1.2.2 q hq
        omega
      · unfold NR
        rw [t20, m0, tk 21 0 (by decide), mk 1 0 (by decide) (by decide)]
        refine ⟨rfl, p2.2.1, fun q hq => ?_⟩
        rw [tk 10 q (by decide), tk 11 q (by decide), tk 12 q (by decide), tk 13 q (by decide), tk 14 q (by decide), mk 7 q (by decide) (by decide), mk 8 q (by decide) (by decide), mk 9 q (by decide) (by decide), mk 10 q (by decide) (by decide), mk 11 q (by decide) (by decide)]
        exact p2.2.2 q hq
      · rw [t20]
        intro n hn
        show (if 0 = 1 ∧ n = σ.1 20 0 then y else if 0 = 0 ∧ n = σ.1 20 0 then x else σ.2.1 0 n) = (if 3 = 4 ∧ n = σ.1 20 0 then y else if 3 = 3 ∧ n = σ.1 20 0 then x else μ.2 3 n) ∧ (if 1 = 1 ∧ n = σ.1 20 0 then y else if 1 = 0 ∧ n = σ.1 20 0 then x else σ.2.1 1 n) = (if 4 = 4 ∧ n = σ.1 20 0 then y else if 4 = 3 ∧ n = σ.1 20 0 then x else μ.2 4 n)
        by_cases en : n = σ.1 20 0
        · simp [en]
        · simp [en]
          exact p3 n (by omega)
      · intro q hq
        rw [tk 17 q (by decide)]; exact p4 q hq
theorem delay_sim {σ : TS} {μ : MS} {x y : Int32} (h : Rel 0 σ μ) : (T_delay σ x y).1 = (M_delay μ x y).1 ∧ Rel 0 (T_delay σ x y).2 (M_delay μ x y).2 ∧ ∀ q, (T_delay σ x y).2.1 17 q = σ.1 17 q := by
  have h0 := h
  obtain ⟨⟨p1, p2, p3, p4, p5, p6⟩, r2, r3, r4⟩ := h
  unfold T_delay M_delay
  rw [← p2.2.1]
  by_cases e1 : (inR x (σ.1 21 0) && wi y 0 9) = false
  · rw [if_pos e1, if_pos e1]; exact ⟨rfl, h0.m2 0, fun _ => rfl⟩
  · rw [if_neg e1, if_neg e1]
    refine ⟨rfl, ?_⟩
    have e2 := not_f e1
    rw [Bool.and_eq_true] at e2
    have hy := (tn_wi (by decide) (by decide) e2.2).2
    have tk : ∀ f j, f ≠ 14 → (sN σ 14 (tn x) (tn y)).1 f j = σ.1 f j := fun f j hf => sN_k _ _ _ _ hf
    have t14 : ∀ j, (sN σ 14 (tn x) (tn y)).1 14 j = if j = tn x then tn y else σ.1 14 j := fun j => by
      show (if 14 = 14 ∧ j = tn x then tn y else σ.1 14 j) = _
      by_cases q : j = tn x
      · rw [if_pos ⟨rfl, q⟩, if_pos q]
      · rw [if_neg (fun z => q z.2), if_neg q]
    have mk : ∀ f j, f ≠ 11 → f ≠ 2 → (mN (mN μ 2 0 0) 11 (tn x) (tn y)).1 f j = μ.1 f j := fun f j a b => by rw [mN_k _ _ _ _ a, mN_k _ _ _ _ b]
    have m11 : ∀ j, (mN (mN μ 2 0 0) 11 (tn x) (tn y)).1 11 j = if j = tn x then tn y else μ.1 11 j := fun j => by
      show (if 11 = 11 ∧ j = tn x then tn y else (mN μ 2 0 0).1 11 j) = _
      by_cases q : j = tn x
      · rw [if_pos ⟨rfl, q⟩, if_pos q]
      · rw [if_neg (fun z => q z.2), if_neg q, mN_k _ _ _ _ (by decide)]
    have hr := change_rel (σ := sN σ 14 (tn x) (tn y)) (μ := mN (mN μ 2 0 0) 11 (tn x) (tn y)) ?_ ?_ ?_ ?_
    · exact ⟨hr.1, fun q => (hr.2 q).trans (tk 17 q (by decide))⟩
    · unfold TNet
      rw [tk 20 0 (by decide), tk 21 0 (by decide)]
      refine ⟨p1.1, p1.2.1, fun q hq => ?_⟩
      rw [tk 10 q (by decide), tk 11 q (by decide), tk 12 q (by decide), tk 13 q (by decide), t14]
      have := p1.2.2 q hq
      split <;> omega
    · unfold NR
      rw [tk 20 0 (by decide), tk 21 0 (by decide), mk 0 0 (by decide) (by decide), mk 1 0 (by decide) (by decide)]
      refine ⟨p2.1, p2.2.1, fun q hq => ?_⟩
      rw [tk 10 q (by decide), tk 11 q (by decide), tk 12 q (by decide), tk 13 q (by decide), t14, mk 7 q (by decide) (by decide), mk 8 q (by decide) (by decide), mk 9 q (by decide) (by decide), mk 10 q (by decide) (by decide), m11]
      have z := p2.2.2 q hq
      rw [z.2.2.2.2]
      exact ⟨z.1, z.2.1, z.2.2.1, z.2.2.2.1, rfl⟩
    · rw [tk 20 0 (by decide)]; exact p3
    · intro q hq
      rw [tk 17 q (by decide)]; exact p4 q hq
theorem edge_sim {σ : TS} {μ : MS} {x1 x2 x3 x4 x5 : Int32} (h : Rel 0 σ μ) : (T_edge σ x1 x2 x3 x4 x5).1 = (M_edge μ x1 x2 x3 x4 x5).1 ∧ Rel 0 (T_edge σ x1 x2 x3 x4 x5).2 (M_edge μ x1 x2 x3 x4 x5).2 ∧ ∀ q, (T_edge σ x1 x2 x3 x4 x5).2.1 17 q = σ.1 17 q := by
  have h0 := h
  obtain ⟨⟨p1, p2, p3, p4, p5, p6⟩, r2, r3, r4⟩ := h
  unfold T_edge M_edge
  rw [← p2.2.1, ← p2.1]
  by_cases e1 : (inR x1 (σ.1 20 0) && inR x2 (σ.1 20 0)) = false
  · rw [if_pos e1, if_pos e1]; exact ⟨rfl, h0.m2 0, fun _ => rfl⟩
  · rw [if_neg e1, if_neg e1]
    by_cases e2 : (wi x3 1 9 && (wi x4 1 9 && wi x5 0 9)) = false
    · rw [if_pos e2, if_pos e2]; exact ⟨rfl, h0.m2 0, fun _ => rfl⟩
    · rw [if_neg e2, if_neg e2]
      have h12 := p1.2.1
      by_cases e3 : 12 ≤ σ.1 21 0
      · rw [if_pos e3, if_pos (by omega)]; exact ⟨rfl, h0.m2 0, fun _ => rfl⟩
      · rw [if_neg e3, if_neg (by omega)]
        refine ⟨rfl, ?_⟩
        have f1 := not_f e1
        have f2 := not_f e2
        rw [Bool.and_eq_true] at f1
        rw [Bool.and_eq_true, Bool.and_eq_true] at f2
        have h8 := p1.1
        have a1 := tn_in (by omega) f1.1
        have a2 := tn_in (by omega) f1.2
        have a3 := tn_wi (by decide) (by decide) f2.1
        have a4 := tn_wi (by decide) (by decide) f2.2.1
        have a5 := tn_wi (by decide) (by decide) f2.2.2
        generalize tn x1 = y1 at a1 ⊢
        generalize tn x2 = y2 at a2 ⊢
        generalize tn x3 = y3 at a3 ⊢
        generalize tn x4 = y4 at a4 ⊢
        generalize tn x5 = y5 at a5 ⊢
        generalize hE : σ.1 21 0 = E at e3 ⊢
        have tN : ∀ f j, (sN (sN (sN (sN (sN (sN σ 10 E y1) 11 E y2) 12 E y3) 13 E y4) 14 E y5) 21 0 (E + 1)).1 f j = if f = 21 ∧ j = 0 then E + 1 else if f = 14 ∧ j = E then y5 else if f = 13 ∧ j = E then y4 else if f = 12 ∧ j = E then y3 else if f = 11 ∧ j = E then y2 else if f = 10 ∧ j = E then y1 else σ.1 f j := fun f j => rfl
        have mN9 : ∀ f j, (mN (mN (mN (mN (mN (mN (mN μ 2 0 0) 7 E y1) 8 E y2) 9 E y3) 10 E y4) 11 E y5) 1 0 (E + 1)).1 f j = if f = 1 ∧ j = 0 then E + 1 else if f = 11 ∧ j = E then y5 else if f = 10 ∧ j = E then y4 else if f = 9 ∧ j = E then y3 else if f = 8 ∧ j = E then y2 else if f = 7 ∧ j = E then y1 else if f = 2 ∧ j = 0 then 0 else μ.1 f j := fun f j => rfl
        have tI : (sN (sN (sN (sN (sN (sN σ 10 E y1) 11 E y2) 12 E y3) 13 E y4) 14 E y5) 21 0 (E + 1)).2 = σ.2 := rfl
        have mI9 : (mN (mN (mN (mN (mN (mN (mN μ 2 0 0) 7 E y1) 8 E y2) 9 E y3) 10 E y4) 11 E y5) 1 0 (E + 1)).2 = μ.2 := rfl
        generalize sN (sN (sN (sN (sN (sN σ 10 E y1) 11 E y2) 12 E y3) 13 E y4) 14 E y5) 21 0 (E + 1) = τ at tN tI ⊢
        generalize mN (mN (mN (mN (mN (mN (mN μ 2 0 0) 7 E y1) 8 E y2) 9 E y3) 10 E y4) 11 E y5) 1 0 (E + 1) = ν at mN9 mI9 ⊢
        have t21 : τ.1 21 0 = E + 1 := by rw [tN, if_pos ⟨rfl, rfl⟩]
        have t20 : τ.1 20 0 = σ.1 20 0 := by rw [tN]; simp
        have t17 : ∀ q, τ.1 17 q = σ.1 17 q := fun q => by rw [tN]; simp
        have m1 : ν.1 1 0 = E + 1 := by rw [mN9, if_pos ⟨rfl, rfl⟩]
        have m0 : ν.1 0 0 = μ.1 0 0 := by rw [mN9]; simp
        have tE : τ.1 10 E = y1 ∧ τ.1 11 E = y2 ∧ τ.1 12 E = y3 ∧ τ.1 13 E = y4 ∧ τ.1 14 E = y5 := by
          refine ⟨?_, ?_, ?_, ?_, ?_⟩ <;> rw [tN] <;> simp
        have mE9 : ν.1 7 E = y1 ∧ ν.1 8 E = y2 ∧ ν.1 9 E = y3 ∧ ν.1 10 E = y4 ∧ ν.1 11 E = y5 := by
          refine ⟨?_, ?_, ?_, ?_, ?_⟩ <;> rw [mN9] <;> simp
        have tq : ∀ q, q ≠ E → τ.1 10 q = σ.1 10 q ∧ τ.1 11 q = σ.1 11 q ∧ τ.1 12 q = σ.1 12 q ∧ τ.1 13 q = σ.1 13 q ∧ τ.1 14 q = σ.1 14 q := fun q hq => by
          refine ⟨?_, ?_, ?_, ?_, ?_⟩ <;> rw [tN] <;> simp [hq]
        have mq : ∀ q, q ≠ E → ν.1 7 q = μ.1 7 q ∧ ν.1 8 q = μ.1 8 q ∧ ν.1 9 q = μ.1 9 q ∧ ν.1 10 q = μ.1 10 q ∧ ν.1 11 q = μ.1 11 q := fun q hq => by
          refine ⟨?_, ?_, ?_, ?_, ?_⟩ <;> rw [mN9] <;> simp [hq]
        have hr := change_rel (σ := τ) (μ := ν) ?_ ?_ ?_ ?_
        · exact ⟨hr.1, fun q => (hr.2 q).trans (t17 q)⟩
        · unfold TNet
          rw [t20, t21]
          refine ⟨p1.1, by omega, fun q hq => ?_⟩
          by_cases eq : q = E
          · subst eq
            obtain ⟨z1, z2, z3, z4, z5⟩ := tE
            rw [z1, z2, z3, z4, z5]
            exact ⟨a1, a2, a3.1, a3.2, a4.1, a4.2, a5.2⟩
          · obtain ⟨z1, z2, z3, z4, z5⟩ := tq q eq
            rw [z1, z2, z3, z4, z5]
            exact p1.2.2 q (by omega)
        · unfold NR
          rw [t20, t21, m0, m1]
          refine ⟨p2.1, rfl, fun q hq => ?_⟩
          by_cases eq : q = E
          · subst eq
            obtain ⟨z1, z2, z3, z4, z5⟩ := tE
            obtain ⟨w1, w2, w3, w4, w5⟩ := mE9
            rw [z1, z2, z3, z4, z5, w1, w2, w3, w4, w5]
            exact ⟨rfl, rfl, rfl, rfl, rfl⟩
          · obtain ⟨z1, z2, z3, z4, z5⟩ := tq q eq
            obtain ⟨w1, w2, w3, w4, w5⟩ := mq q eq
            rw [z1, z2, z3, z4, z5, w1, w2, w3, w4, w5]
            exact p2.2.2 q (by omega)
        · rw [t20, tI, mI9]; exact p3
        · intro q hq
          rw [t17]; exact p4 q hq
theorem reset_sim {σ : TS} {μ : MS} (h : Rel 0 σ μ) : Rel 0 (T_start σ) (M_start (mN μ 2 0 0)) ∧ ∀ q, (T_start σ).1 17 q = σ.1 17 q :=
  ⟨start_rel (h.m2 0).1, fun q => by rw [(T_start_all σ).1, if_neg (by omega), if_neg (by omega)]⟩
theorem clear_sim {σ : TS} {μ : MS} (h : Rel 0 σ μ) : Rel 0 (T_change (sN (sN σ 20 0 0) 21 0 0)) (mN (mN (mN (mN μ 2 0 0) 0 0 0) 1 0 0) 15 0 0) ∧ ∀ q, (T_change (sN (sN σ 20 0 0) 21 0 0)).1 17 q = σ.1 17 q := by
  have e : T_change (sN (sN σ 20 0 0) 21 0 0) = sN (sN (sN σ 20 0 0) 21 0 0) 22 0 0 := by
    unfold T_change T_start
    rw [show (sN (sN (sN σ 20 0 0) 21 0 0) 22 0 0).1 21 0 = 0 by simp [sN, up2], show (sN (sN (sN σ 20 0 0) 21 0 0) 22 0 0).1 20 0 = 0 by simp [sN, up2]]
    rfl
  rw [e]
  have t20 : (sN (sN (sN σ 20 0 0) 21 0 0) 22 0 0).1 20 0 = 0 := by simp [sN, up2]
  have t21 : (sN (sN (sN σ 20 0 0) 21 0 0) 22 0 0).1 21 0 = 0 := by simp [sN, up2]
  have t22 : (sN (sN (sN σ 20 0 0) 21 0 0) 22 0 0).1 22 0 = 0 := by simp [sN, up2]
  have t17 : ∀ q, (sN (sN (sN σ 20 0 0) 21 0 0) 22 0 0).1 17 q = σ.1 17 q := fun q => by simp [sN, up2]
  have m0 : (mN (mN (mN (mN μ 2 0 0) 0 0 0) 1 0 0) 15 0 0).1 0 0 = 0 := by simp [mN, up2]
  have m1 : (mN (mN (mN (mN μ 2 0 0) 0 0 0) 1 0 0) 15 0 0).1 1 0 = 0 := by simp [mN, up2]
  have m15 : (mN (mN (mN (mN μ 2 0 0) 0 0 0) 1 0 0) 15 0 0).1 15 0 = 0 := by simp [mN, up2]
  generalize sN (sN (sN σ 20 0 0) 21 0 0) 22 0 0 = τ at t20 t21 t22 t17 ⊢
  generalize mN (mN (mN (mN μ 2 0 0) 0 0 0) 1 0 0) 15 0 0 = ν at m0 m1 m15 ⊢
  have hN : TNet τ := ⟨by omega, by omega, fun q hq => by omega⟩
  have hl : ∀ q, q < 12 → 9 ≤ τ.1 17 q ∧ τ.1 17 q ≤ 1818 := fun q hq => by rw [t17]; exact h.1.2.2.2.1 q hq
  exact ⟨⟨⟨hN, ⟨by omega, by omega, fun q hq => by omega⟩, fun n hn => by omega, hl, ⟨by omega, fun j hj => by omega, fun hp => by omega⟩, POK.void hN t22 (fun q hq => (hl q hq).1)⟩, fun n hn => by omega, fun q hq => by omega, fun q hq => by omega⟩, t17⟩
/-- the questions -/
theorem ask_sim {σ : TS} {μ : MS} (h : Rel 0 σ μ) : nI (σ.1 20 0) = nI (μ.1 0 0) ∧ nI (σ.1 21 0) = nI (μ.1 1 0) ∧ nI (σ.1 22 0) = nI (μ.1 15 0) ∧ (∀ x, (if inR x (σ.1 20 0) = true then σ.2.1 3 (tn x) else nI 0) = (if inR x (μ.1 0 0) = true then μ.2 6 (tn x) else nI 0)) ∧ (∀ x, (if inR x (σ.1 20 0) = true then σ.2.1 2 (tn x) else nI 0) = (if inR x (μ.1 0 0) = true then μ.2 5 (tn x) else nI 0)) ∧ (∀ x, (if inR x (σ.1 21 0) = true then nI (σ.1 19 (tn x)) else (-1)) = (if inR x (μ.1 1 0) = true then nI (μ.1 14 (tn x)) else (-1))) ∧ (∀ x, (if inR x (σ.1 22 0) = true then nI (σ.1 23 (tn x)) else (-1)) = (if inR x (μ.1 15 0) = true then nI (μ.1 16 (tn x)) else (-1))) ∧ (∀ x, (if 0 < σ.1 22 0 ∧ inR x (σ.1 20 0) = true then nI (σ.1 4 (tn x)) else nI 0) = (if 0 < μ.1 15 0 ∧ inR x (μ.1 0 0) = true then nI (μ.1 17 (tn x)) else nI 0)) ∧ (∀ x, (if 0 < σ.1 22 0 ∧ inR x (σ.1 21 0) = true then nI (σ.1 16 (tn x)) else (-1)) = (if 0 < μ.1 15 0 ∧ inR x (μ.1 1 0) = true then nI (μ.1 18 (tn x)) else (-1))) ∧ ∀ x y, (if inR x (σ.1 21 0) = true then T_look σ (tn x) y else nI 0) = (if inR x (μ.1 1 0) = true then M_look μ (tn x) y else nI 0) := by
  obtain ⟨⟨p1, p2, p3, p4, p5, p6⟩, r2, r3, r4⟩ := h
  rw [← p2.1, ← p2.2.1, p5.1]
  have h8 := p1.1
  have h12 := p1.2.1
  have h200 := p6.1
  refine ⟨rfl, rfl, rfl, fun x => ?_, fun x => ?_, fun x => ?_, fun x => ?_, fun x => ?_, fun x => ?_, fun x y => ?_⟩
  · by_cases e : inR x (σ.1 20 0) = true
    · rw [if_pos e, if_pos e]; exact (r2 _ (tn_in (by omega) e)).2.2.2
    · rw [if_neg e, if_neg e]
  · by_cases e : inR x (σ.1 20 0) = true
    · rw [if_pos e, if_pos e]; exact (r2 _ (tn_in (by omega) e)).2.2.1
    · rw [if_neg e, if_neg e]
  · by_cases e : inR x (σ.1 21 0) = true
    · rw [if_pos e, if_pos e, (r3 _ (tn_in (by omega) e)).1]
    · rw [if_neg e, if_neg e]
  · by_cases e : inR x (σ.1 22 0) = true
    · rw [if_pos e, if_pos e, p5.2.1 _ (tn_in (by omega) e)]
    · rw [if_neg e, if_neg e]
  · by_cases e : 0 < σ.1 22 0 ∧ inR x (σ.1 20 0) = true
    · rw [if_pos e, if_pos e, (p5.2.2 e.1).1 _ (tn_in (by omega) e.2)]
    · rw [if_neg e, if_neg e]
  · by_cases e : 0 < σ.1 22 0 ∧ inR x (σ.1 21 0) = true
    · rw [if_pos e, if_pos e, (p5.2.2 e.1).2 _ (tn_in (by omega) e.2)]
    · rw [if_neg e, if_neg e]
  · by_cases e : inR x (σ.1 21 0) = true
    · rw [if_pos e, if_pos e]
      have hq := tn_in (by omega) e
      obtain ⟨a1, a2, a3, a4, a5, a6, a7⟩ := r3 _ hq
      unfold T_look M_look
      rw [a1]
      by_cases e2 : inR y (σ.1 19 (tn x)) = true
      · rw [if_pos e2, if_pos e2]
        obtain ⟨j, hj, rfl⟩ := inR_of (by omega) e2
        simp only [tn]
        rw [nI_clamp (by omega)]
        exact a7 j hj
      · rw [if_neg e2, if_neg e2]
    · rw [if_neg e, if_neg e]
/-- what the contracts ask -/
theorem Rel.wf {σ : TS} {μ : MS} (h : Rel 0 σ μ) : TWF σ ∧ T_startC σ ∧ M_C μ ∧ (∀ q, q < σ.1 21 0 → σ.1 18 q < σ.1 17 q ∧ σ.1 19 q ≤ σ.1 17 q ∧ σ.1 17 q < 2 ^ 20) ∧ (∀ e, e < μ.1 1 0 → μ.1 14 e < 2 ^ 18 ∧ μ.1 13 e < 2 ^ 18) ∧ μ.1 15 0 ≤ 200 := by
  obtain ⟨⟨p1, p2, p3, p4, p5, p6⟩, r2, r3, r4⟩ := h
  have hw : TWF σ := ⟨p1.1, p1.2.1, p6.1, fun q hq => by have := p4 q hq; omega, fun q hq => (p1.2.2 q hq).2.2.2.2.2.2⟩
  refine ⟨hw, hw.startC, ⟨by rw [← p2.1]; exact p1.1, by rw [← p2.2.1]; exact p1.2.1⟩, fun q hq => ?_, fun e he => ?_, by rw [p5.1]; exact p6.1⟩
  · obtain ⟨a1, a2, a3, a4, a5, a6, a7⟩ := r3 q hq
    exact ⟨a2, a3, a4⟩
  · rw [← p2.2.1] at he
    obtain ⟨a1, a2, a3, a4, a5, a6, a7⟩ := r3 e he
    omega
theorem Rel.lsum_le {σ : TS} {μ : MS} (h : Rel 0 σ μ) : lsum σ ≤ 21816 := by
  have := sF_le (f := σ.1 17) (B := 1818) 12 0 0 (fun j _ hj => (h.1.2.2.2.1 j (by omega)).2)
  unfold lsum
  omega
theorem rel_0 (a : Nat → Nat) : Rel 0 (sC a) μ0 := by
  have hN : TNet (sC a) := ⟨by show 0 ≤ 8; omega, by show 0 ≤ 12; omega, fun q hq => absurd hq (by show ¬ q < 0; omega)⟩
  have hl : ∀ q, q < 12 → 9 ≤ (sC a).1 17 q ∧ (sC a).1 17 q ≤ 1818 := fun q _ => by show 9 ≤ 9 ∧ 9 ≤ 1818; omega
  exact ⟨⟨hN, ⟨rfl, rfl, fun q hq => absurd hq (by show ¬ q < 0; omega)⟩, fun n hn => absurd hn (by show ¬ n < 0; omega), hl, ⟨rfl, fun j hj => absurd hj (by show ¬ j < 0; omega), fun hp => absurd hp (by show ¬ 0 < 0; omega)⟩, POK.void hN rfl (fun q hq => (hl q hq).1)⟩, fun n hn => absurd hn (by show ¬ n < 0; omega), fun q hq => absurd hq (by show ¬ q < 0; omega), fun q hq => absurd hq (by show ¬ q < 0; omega)⟩
