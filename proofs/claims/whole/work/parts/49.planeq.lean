/-! ===== plan answers alike ===== -/
theorem PF_pos {σ : TS} (hn : TNet σ) (hs : ∀ n, n < σ.1 20 0 → σ.1 4 n < 2 ^ 45) : True := trivial
/-- a plan that was laid out to its end -/
theorem lay_done {σ : TS} (hn : TNet σ) (hb : ∀ q, q < σ.1 21 0 → σ.1 4 (σ.1 10 q) * σ.1 12 q = σ.1 4 (σ.1 11 q) * σ.1 13 q) (hp : ∀ n, n < σ.1 20 0 → 0 < σ.1 4 n) (hF : T_sum σ ≤ 200) {τ : TS} (hk : ∀ f j, f ≠ 5 → f ≠ 15 → f ≠ 16 → f ≠ 23 → τ.1 f j = σ.1 f j) (hC : LayC (T_sum σ) τ) (hD : LayD τ) : (∀ q, q < σ.1 21 0 → τ.1 16 q ≤ 909) ∧ ∀ q, q < σ.1 21 0 → τ.1 13 q * occ (τ.1 23) (T_sum σ) (τ.1 11 q) = τ.1 12 q * occ (τ.1 23) (T_sum σ) (τ.1 10 q) := by
  have e20 := hk 20 0 (by decide) (by decide) (by decide) (by decide)
  have e21 := hk 21 0 (by decide) (by decide) (by decide) (by decide)
  obtain ⟨c1, c2, c3, c4, c5, c6⟩ := hC
  rw [e20] at c2 c4
  have e4 : ∀ n, τ.1 4 n = σ.1 4 n := fun n => hk 4 n (by decide) (by decide) (by decide) (by decide)
  have hfr : ∀ n, n < σ.1 20 0 → τ.1 5 n = σ.1 4 n := fun n hn' => by
    refine sF_same (f := τ.1 5) (g := σ.1 4) (σ.1 20 0) 0 (fun j _ hj => ?_) ?_ n (Nat.zero_le _) (by omega)
    · have := (c2 j (by omega)).2; rw [e4] at this; exact this
    · rw [c4]; rfl
  refine ⟨fun q hq => ?_, fun q hq => ?_⟩
  · obtain ⟨a1, a2, a3, a4, a5, a6, a7⟩ := hn.2.2 q hq
    have d := hD q (by rw [e21]; exact hq)
    rw [hk 10 q (by decide) (by decide) (by decide) (by decide), hk 11 q (by decide) (by decide) (by decide) (by decide), hk 12 q (by decide) (by decide) (by decide) (by decide), hk 13 q (by decide) (by decide) (by decide) (by decide), hk 14 q (by decide) (by decide) (by decide) (by decide), e4] at d
    have b := hb q hq
    by_cases e : σ.1 10 q = σ.1 11 q
    · have e2 : σ.1 12 q = σ.1 13 q := by
        rw [e] at b
        exact Nat.eq_of_mul_eq_mul_left (hp _ a2) b
      rw [if_pos ⟨e, e2⟩] at d
      omega
    · rw [if_neg (fun z => e z.1)] at d
      have h2 := sF_two (f := σ.1 4) (σ.1 20 0) 0 (σ.1 10 q) (σ.1 11 q) (Nat.zero_le _) (by omega) (Nat.zero_le _) (by omega) e
      have h3 : σ.1 4 (σ.1 10 q) * σ.1 12 q ≤ σ.1 4 (σ.1 10 q) * 9 := Nat.mul_le_mul_left _ a4
      have h4 : σ.1 4 (σ.1 11 q) * σ.1 13 q ≤ σ.1 4 (σ.1 11 q) * 9 := Nat.mul_le_mul_left _ a6
      have h5 : T_sum σ = sF (σ.1 4) (σ.1 20 0) 0 0 := rfl
      rw [Nat.mul_comm (σ.1 12 q)] at d
      omega
  · obtain ⟨a1, a2, _⟩ := hn.2.2 q hq
    rw [hk 10 q (by decide) (by decide) (by decide) (by decide), hk 11 q (by decide) (by decide) (by decide) (by decide), hk 12 q (by decide) (by decide) (by decide) (by decide), hk 13 q (by decide) (by decide) (by decide) (by decide), ← (c2 _ a1).1, ← (c2 _ a2).1, hfr _ a1, hfr _ a2, Nat.mul_comm, Nat.mul_comm (σ.1 12 q)]
    exact (hb q hq).symm
set_option maxHeartbeats 1000000 in
theorem plan_sim {σ : TS} {μ : MS} (h : Rel 0 σ μ) : PlanC σ ∧ PlanM μ ∧ (∀ u, PlanQ σ (nI (PF σ)) u → (M_plan μ).1 = PF σ ∧ PF σ ≤ 200 ∧ (M_plan μ).2.1 2 0 = 0 ∧ Rel 0 u (M_plan μ).2 ∧ PS σ + 2 * lsum σ ≤ 6 + 2 * lsum u) ∧ ∀ E u, PlanX σ (E, u) → (M_plan μ).2.1 2 0 = PE E ∧ Rel 0 u (M_plan μ).2 ∧ PS σ + 2 * lsum σ ≤ 6 + 2 * lsum u := by
  have h0 := h
  obtain ⟨⟨p1, p2, p3, p4, p5, p6⟩, r2, r3, r4⟩ := h
  have hn1 : TNet (sN σ 22 0 0) := p1.s22 0
  have hN1 : NR (sN σ 22 0 0) (mN μ 15 0 0) := p2.same (fun f j hf => sN_k _ _ _ _ (by omega)) (fun f j hf => mN_k _ _ _ _ (by omega))
  obtain ⟨q1, q2, q3, q4, q5, q6⟩ := rep_eq hn1 hN1
  rw [show T_spread (sN σ 22 0 0) = P0 σ from rfl] at q3 q4 q5 q6
  rw [show T_reduce (P0 σ) = P1 σ from rfl, show T_sum (P1 σ) = PF σ from rfl] at q5 q6
  have k0 : ∀ f j, f ≠ 4 → f ≠ 22 → (P0 σ).1 f j = σ.1 f j := fun f j a b => P0_N σ j a b
  have k1 : ∀ f j, f ≠ 4 → f ≠ 22 → (P1 σ).1 f j = σ.1 f j := fun f j a b => P1_N σ j a b
  have k022 : (P0 σ).1 22 0 = 0 := (T_spread_N _ 0 (by decide)).trans (by simp [sN, up2])
  have k122 : (P1 σ).1 22 0 = 0 := (T_reduce_N _ 0 (by decide)).trans k022
  have z0 : (P0 σ).2 = σ.2 := T_spread_2 _
  have z1 : (P1 σ).2 = σ.2 := (T_reduce_2 _).trans z0
  obtain ⟨hT1, hT1b⟩ := P1_T p1
  have hI0 := P0_I p1
  have mk : ∀ f n, f ≠ 19 → f ≠ 24 → f ≠ 15 → (M_rep (mN μ 15 0 0)).2.1 f n = μ.1 f n := fun f n a b c => (q2.2 f n a b).trans (mN_k _ _ _ _ c)
  have mk15 : (M_rep (mN μ 15 0 0)).2.1 15 0 = 0 := (q2.2 15 0 (by decide) (by decide)).trans (mN_e μ 15 0 0)
  have mk2 : (M_rep (mN μ 15 0 0)).2.2 = μ.2 := q2.1
  have hPC : PlanC σ := ⟨p1, fun q hq => by have := p4 q hq; omega⟩
  have voidT : ∀ {τ : TS}, (∀ f j, f ≠ 4 → f ≠ 5 → f ≠ 15 → f ≠ 16 → f ≠ 22 → f ≠ 23 → τ.1 f j = σ.1 f j) → lsum τ = lsum σ := fun e => lsum_same (fun q => e 17 q (by decide) (by decide) (by decide) (by decide) (by decide) (by decide))
  -- the reference's own conditions
  have hatt : T_conn (P0 σ) = true → T_bal (P0 σ) = true → PF σ ≤ 200 → RR (P1 σ) (mN (M_rep (mN μ 15 0 0)).2 2 0 0) ∧ AttC (mN (M_rep (mN μ 15 0 0)).2 2 0 0) ∧ M_F (mN (M_rep (mN μ 15 0 0)).2 2 0 0) = PF σ := fun a b c => by
    have rr := (q6 a b c).2
    have rr2 : RR (P1 σ) (mN (M_rep (mN μ 15 0 0)).2 2 0 0) := ⟨rr.1.same (fun _ _ _ => rfl) (fun f j hf => mN_k _ _ _ _ (by omega)), fun n hn' => by rw [mN_k _ _ _ _ (by decide)]; exact rr.2 n hn'⟩
    generalize mN (M_rep (mN μ 15 0 0)).2 2 0 0 = ν at rr2 ⊢
    have hF : M_F ν = PF σ := by
      unfold M_F
      rw [← rr2.1.1]
      exact sF_congr _ _ _ (fun j _ hj => rr2.2 j (by omega))
    refine ⟨rr2, ⟨by rw [hF]; exact c, rr2.1.M hT1, fun n hn' => ?_⟩, hF⟩
    rw [← rr2.1.1] at hn'
    rw [rr2.2 n hn']
    have := hT1b n hn'
    omega
  have hPM : PlanM μ := by
    refine ⟨q1, fun e => ?_⟩
    have a : T_conn (P0 σ) = true := by
      by_cases z : T_conn (P0 σ) = true
      · exact z
      · have := q3 (Bool.eq_false_iff.mpr z); omega
    have b : T_bal (P0 σ) = true := by
      by_cases z : T_bal (P0 σ) = true
      · exact z
      · have := q4 a (Bool.eq_false_iff.mpr z); omega
    have c : PF σ ≤ 200 := by
      by_cases z : PF σ ≤ 200
      · exact z
      · have := q5 a b (by omega); omega
    exact (hatt a b c).2.1
  refine ⟨hPC, hPM, fun u hu => ?_, fun E u hu => ?_⟩
  · obtain ⟨a, b, c, d, -, v, hv, rfl⟩ := hu
    obtain ⟨x1, x2, x3⟩ := hatt a b c
    have hr0 := (q6 a b c).1
    obtain ⟨l1, l2, l3⟩ := lay_start hT1 x1
    have sim := lay_sim (PF σ) 0 _ _ l1 l2
    rw [Nat.zero_add] at sim
    have lD := lay_D (PF σ) 0 _ l2 l3
    rw [show T_lay (PF σ) 0 (itr T_lay_e ((P1 σ).1 21 0) 0 (itr T_lay_f ((P1 σ).1 20 0) 0 (P1 σ))) = T_layOut (P1 σ) (PF σ) from rfl] at sim lD
    have eatt : M_lay (PF σ) 0 (M_lay0 (mN (M_rep (mN μ 15 0 0)).2 2 0 0)) = M_att (mN (M_rep (mN μ 15 0 0)).2 2 0 0) := by
      unfold M_att
      rw [show sF ((mN (M_rep (mN μ 15 0 0)).2 2 0 0).1 19) ((mN (M_rep (mN μ 15 0 0)).2 2 0 0).1 0 0) 0 0 = PF σ from x3]
    rw [eatt] at sim
    have hplan : M_plan μ = M_plan2 (PF σ) (M_att (mN (M_rep (mN μ 15 0 0)).2 2 0 0)) := by
      unfold M_plan M_plan1
      rw [if_neg (by omega), x3]
    have hkM := fun (f j : Nat) (e1 : f ≠ 20) (e2 : f ≠ 21) (e3 : f ≠ 22) (e4 : f ≠ 23) => M_att_N (mN (M_rep (mN μ 15 0 0)).2 2 0 0) (f := f) j e1 e2 e3 e4
    have h2M := M_att_2 (mN (M_rep (mN μ 15 0 0)).2 2 0 0)
    rw [hplan]
    have kM : ∀ f n, f ≠ 19 → f ≠ 24 → f ≠ 15 → f ≠ 2 → (mN (M_rep (mN μ 15 0 0)).2 2 0 0).1 f n = μ.1 f n := fun f n e1 e2 e3 e4 => by rw [mN_k _ _ _ _ e4]; exact mk f n e1 e2 e3
    have kM2 : (mN (M_rep (mN μ 15 0 0)).2 2 0 0).1 2 0 = 0 := mN_e _ _ _ _
    have kMI : (mN (M_rep (mN μ 15 0 0)).2 2 0 0).2 = μ.2 := mk2
    generalize mN (M_rep (mN μ 15 0 0)).2 2 0 0 = ν at x1 hkM h2M kM kM2 kMI sim ⊢
    have hs1 : (M_att ν).1 = true := by rw [sim.1]; exact d
    obtain ⟨sR, sC⟩ := sim.2 d
    generalize hyy : M_att ν = y at hs1 sR hkM h2M ⊢
    have tk := fun (f j : Nat) (e1 : f ≠ 5) (e2 : f ≠ 15) (e3 : f ≠ 16) (e4 : f ≠ 23) => T_layOut_N (P1 σ) (PF σ) (f := f) j e1 e2 e3 e4
    have t2 := T_layOut_2 (P1 σ) (PF σ)
    have hP3 : P3 σ = sN (T_layOut (P1 σ) (PF σ)).2 22 0 (PF σ) := rfl
    generalize (T_layOut (P1 σ) (PF σ)).2 = τ at sR sC lD tk t2 hP3
    have hlt : ∀ n, n < (P0 σ).1 20 0 → (P0 σ).1 4 n < 2 ^ 45 := fun n hn' => by have := hI0.lt hn'; omega
    have hcn := (conn_iff _).mp a
    have hgp : 0 < gF ((P0 σ).1 4) ((P0 σ).1 20 0) 0 0 := by
      rw [gFG _ _ _ (by decide) (fun j _ hj => hlt j (by omega))]
      have z := zc_zero _ hcn.1 0 hcn.2
      exact gG_pos _ _ _ (fun j _ hj => hlt j (by omega)) (Or.inr ⟨0, Nat.le_refl _, by have := hcn.2; omega, by omega⟩)
    have e20a : (P1 σ).1 20 0 = (P0 σ).1 20 0 := T_reduce_N _ 0 (by decide)
    have hbal : ∀ q, q < (P1 σ).1 21 0 → (P1 σ).1 4 ((P1 σ).1 10 q) * (P1 σ).1 12 q = (P1 σ).1 4 ((P1 σ).1 11 q) * (P1 σ).1 13 q := fun q hq => by
      have z := red_bal hI0.1 hlt hgp b q (by rw [← T_reduce_N (P0 σ) 0 (by decide : (21 : Nat) ≠ 4)]; exact hq)
      rw [show (P1 σ).1 10 q = (P0 σ).1 10 q from T_reduce_N _ q (by decide), show (P1 σ).1 11 q = (P0 σ).1 11 q from T_reduce_N _ q (by decide), show (P1 σ).1 12 q = (P0 σ).1 12 q from T_reduce_N _ q (by decide), show (P1 σ).1 13 q = (P0 σ).1 13 q from T_reduce_N _ q (by decide)]
      exact z
    have hpos : ∀ n, n < (P1 σ).1 20 0 → 0 < (P1 σ).1 4 n := fun n hn' => by
      rw [e20a] at hn'
      have z := zc_zero _ hcn.1 n hn'
      exact red_pos hlt hgp hn' (by omega)
    obtain ⟨b9, bo⟩ := lay_done hT1 hbal hpos c tk sC lD
    have e21 : (P1 σ).1 21 0 = σ.1 21 0 := k1 21 0 (by decide) (by decide)
    have e20 : (P1 σ).1 20 0 = σ.1 20 0 := k1 20 0 (by decide) (by decide)
    rw [e21] at b9 bo
    have kt : ∀ f j, f ≠ 4 → f ≠ 5 → f ≠ 15 → f ≠ 16 → f ≠ 22 → f ≠ 23 → τ.1 f j = σ.1 f j := fun f j a1 a2 a3 a4 a5 a6 => (tk f j a2 a3 a4 a6).trans (k1 f j a1 a5)
    have t21 := kt 21 0 (by decide) (by decide) (by decide) (by decide) (by decide) (by decide)
    have t20 := kt 20 0 (by decide) (by decide) (by decide) (by decide) (by decide) (by decide)
    have h3N : ∀ f j, f ≠ 22 → (P3 σ).1 f j = τ.1 f j := fun f j e => by rw [hP3]; exact sN_k _ _ _ _ e
    have h322 : (P3 σ).1 22 0 = PF σ := P3_22 σ
    have h3I : (P3 σ).2 = σ.2 := by rw [hP3]; exact t2.trans z1
    have hE : (P3 σ).1 21 0 = σ.1 21 0 := (h3N 21 0 (by decide)).trans t21
    rw [hE] at hv
    have v17 : ∀ j, v.1 17 j = if j < σ.1 21 0 ∧ τ.1 17 j < τ.1 16 j then roomL (τ.1 17 j) (τ.1 16 j) else τ.1 17 j := fun j => by
      rw [hv.1, h3N 17 j (by decide), h3N 16 j (by decide)]
      by_cases e : j < σ.1 21 0 ∧ τ.1 17 j < τ.1 16 j
      · rw [if_pos (by omega), if_pos e]
      · rw [if_neg (by omega), if_neg e]
    have vk : ∀ f j, f ≠ 17 → f ≠ 22 → v.1 f j = τ.1 f j := fun f j e1 e2 => by rw [hv.1, if_neg (by omega), h3N f j e2]
    have v22 : v.1 22 0 = PF σ := by rw [hv.1, if_neg (by omega), h322]
    have vkk : ∀ f j, f ≠ 4 → f ≠ 5 → f ≠ 15 → f ≠ 16 → f ≠ 22 → f ≠ 23 → f ≠ 17 → v.1 f j = σ.1 f j := fun f j a1 a2 a3 a4 a5 a6 a7 => (vk f j a7 a5).trans (kt f j a1 a2 a3 a4 a5 a6)
    have v20 := vkk 20 0 (by decide) (by decide) (by decide) (by decide) (by decide) (by decide) (by decide)
    have v21 := vkk 21 0 (by decide) (by decide) (by decide) (by decide) (by decide) (by decide) (by decide)
    have hvN : TNet v := by
      unfold TNet
      rw [v20, v21]
      refine ⟨p1.1, p1.2.1, fun q hq => ?_⟩
      rw [vkk 10 q (by decide) (by decide) (by decide) (by decide) (by decide) (by decide) (by decide), vkk 11 q (by decide) (by decide) (by decide) (by decide) (by decide) (by decide) (by decide), vkk 12 q (by decide) (by decide) (by decide) (by decide) (by decide) (by decide) (by decide), vkk 13 q (by decide) (by decide) (by decide) (by decide) (by decide) (by decide) (by decide), vkk 14 q (by decide) (by decide) (by decide) (by decide) (by decide) (by decide) (by decide)]
      exact p1.2.2 q hq
    have t17 : ∀ q, τ.1 17 q = σ.1 17 q := fun q => kt 17 q (by decide) (by decide) (by decide) (by decide) (by decide) (by decide)
    have hlen : ∀ q, q < 12 → 9 ≤ v.1 17 q ∧ v.1 17 q ≤ 1818 := fun q hq => by
      rw [v17]
      have z := p4 q hq
      have z2 := t17 q
      split
      · rename_i e
        have z3 := b9 q e.1
        unfold roomL
        omega
      · omega
    have hbl : ∀ q, q < σ.1 21 0 → τ.1 16 q ≤ v.1 17 q := fun q hq => by
      rw [v17]
      split
      · unfold roomL; omega
      · rename_i e; omega
    have v23 : v.1 23 = τ.1 23 := funext (fun j => vk 23 j (by decide) (by decide))
    have cpk : ∀ f j, f ≠ 15 → f ≠ 16 → f ≠ 17 → f ≠ 18 → (M_cp (PF σ) y.2).1 f j = y.2.1 f j := fun f j e1 e2 e3 e4 => by
      rw [M_cp_N, if_neg (by omega), if_neg (by omega), if_neg (by omega), if_neg (by omega)]
    have yk : ∀ f j, f ≠ 20 → f ≠ 21 → f ≠ 22 → f ≠ 23 → y.2.1 f j = ν.1 f j := hkM
    have y0 : y.2.1 0 0 = σ.1 20 0 := (yk 0 0 (by decide) (by decide) (by decide) (by decide)).trans (x1.1.1.symm.trans e20)
    have y1 : y.2.1 1 0 = σ.1 21 0 := (yk 1 0 (by decide) (by decide) (by decide) (by decide)).trans (x1.1.2.1.symm.trans e21)
    have hpre : PreR v (M_cp (PF σ) y.2) := by
      refine ⟨hvN, p2.same (fun f j hf => vkk f j (by omega) (by omega) (by omega) (by omega) (by omega) (by omega) (by omega)) (fun f j hf => ?_), ?_, hlen, ?_, ?_⟩
      · rw [cpk f j (by omega) (by omega) (by omega) (by omega), yk f j (by omega) (by omega) (by omega) (by omega), kM f j (by omega) (by omega) (by omega) (by omega)]
      · rw [v20, M_cp_2, h2M, kMI]
        intro n hn'
        rw [hv.2 0 n (by decide), hv.2 1 n (by decide), h3I]
        exact p3 n hn'
      · refine ⟨?_, fun j hj => ?_, fun _ => ⟨fun n hn' => ?_, fun q hq => ?_⟩⟩
        · rw [v22, M_cp_N, if_neg (by omega), if_neg (by omega), if_neg (by omega), if_pos ⟨rfl, rfl⟩]
        · rw [v22] at hj
          rw [v23, M_cp_N, if_neg (by omega), if_neg (by omega), if_pos ⟨rfl, hj⟩]
          exact sR.2.2.2 j hj
        · rw [v20] at hn'
          rw [vk 4 n (by decide) (by decide), M_cp_N, if_neg (by omega), if_pos ⟨rfl, by rw [y0]; exact hn'⟩]
          exact (sR.2.1 n (by rw [t20]; exact hn')).1
        · rw [v21] at hq
          rw [vk 16 q (by decide) (by decide), M_cp_N, if_pos ⟨rfl, by rw [y1]; exact hq⟩]
          exact (sR.2.2.1 q (by rw [t21]; exact hq)).2
      · unfold POK
        rw [v22, v21, v20, v23]
        have c5 := sC.2.2.2.2.1
        have c6 := sC.2.2.2.2.2
        rw [t20, t21] at c5
        rw [t21] at c6
        refine ⟨c, fun j hj => ⟨(c5 j hj).1, fun q hq => ?_⟩, fun j hj q hq => ?_, fun q hq => ?_⟩
        · rw [vk 10 q (by decide) (by decide), vk 11 q (by decide) (by decide), vk 12 q (by decide) (by decide), vk 13 q (by decide) (by decide), vk 14 q (by decide) (by decide)]
          exact (c5 j hj).2 q hq
        · rw [vk 10 q (by decide) (by decide), vk 11 q (by decide) (by decide), vk 12 q (by decide) (by decide), vk 13 q (by decide) (by decide), vk 14 q (by decide) (by decide)]
          have z1 := c6 j hj q hq
          have z2 := b9 q hq
          have z3 := hbl q hq
          omega
        · rw [vk 10 q (by decide) (by decide), vk 11 q (by decide) (by decide), vk 12 q (by decide) (by decide), vk 13 q (by decide) (by decide)]
          exact bo q hq
    have hrel := start_rel hpre
    unfold M_plan2
    rw [if_pos hs1]
    refine ⟨rfl, c, ?_, hrel, ?_⟩
    · show (M_start (M_cp (PF σ) y.2)).1 2 0 = 0
      rw [(M_start_all _).1, if_neg (by omega), if_neg (by omega), cpk 2 0 (by decide) (by decide) (by decide) (by decide), yk 2 0 (by decide) (by decide) (by decide) (by decide), kM2]
    · have hls : lsum (T_start v) = lsum v := lsum_same (fun q => by rw [(T_start_all v).1, if_neg (by omega), if_neg (by omega)])
      rw [hls, PS_ok ⟨a, b, c, d⟩, hE]
      have z1 := rsum_le (τ := P3 σ) (v := v) (σ.1 21 0) 0 (fun j _ hj => by
        rw [v17, h3N 17 j (by decide), h3N 16 j (by decide)]
        by_cases e : τ.1 17 j < τ.1 16 j
        · rw [if_pos ⟨by omega, e⟩, if_pos e]
        · rw [if_neg (fun z => e z.2), if_neg e])
      have hE12 := p1.2.1
      have s1 := sF_split (f := (P3 σ).1 17) (σ.1 21 0) (12 - σ.1 21 0) 0
      have s2 := sF_split (f := v.1 17) (σ.1 21 0) (12 - σ.1 21 0) 0
      rw [show σ.1 21 0 + (12 - σ.1 21 0) = 12 by omega] at s1 s2
      have s3 : sF (v.1 17) (12 - σ.1 21 0) (0 + σ.1 21 0) 0 = sF ((P3 σ).1 17) (12 - σ.1 21 0) (0 + σ.1 21 0) 0 := sF_congr _ _ _ (fun j h1 h2 => by rw [v17, if_neg (by omega), h3N 17 j (by decide)])
      have s4 : sF ((P3 σ).1 17) 12 0 0 = lsum σ := sF_congr _ _ _ (fun j _ _ => by rw [h3N 17 j (by decide)]; exact t17 j)
      have s5 : sF (v.1 17) 12 0 0 = lsum v := rfl
      omega
  · have hns : ∀ (z : ¬ PlanS σ) {τ : TS}, lsum τ = lsum σ → PS σ + 2 * lsum σ ≤ 6 + 2 * lsum τ := fun z τ e => by rw [PS_no z, e]; exact Nat.le_refl _
    have gen1 : ∀ k, (M_rep (mN μ 15 0 0)).1 = k → 0 < k → M_plan μ = (0, mN (M_rep (mN μ 15 0 0)).2 2 0 k) := fun k e hk => by
      unfold M_plan M_plan1
      rw [e, if_pos hk]
    have relM : ∀ k {τ : TS}, (∀ f j, f ≠ 4 → f ≠ 5 → f ≠ 15 → f ≠ 16 → f ≠ 22 → f ≠ 23 → τ.1 f j = σ.1 f j) → τ.2 = σ.2 → τ.1 22 0 = 0 → Rel 0 τ (mN (M_rep (mN μ 15 0 0)).2 2 0 k) := fun k τ e1 e2 e3 => h0.void e1 e2 e3 (fun f j a1 a2 a3 a4 a5 a6 a7 a8 => by rw [mN_k _ _ _ _ a1]; exact mk f j a3 a8 a2) mk2 (by rw [mN_k _ _ _ _ (by decide)]; exact mk15)
    rcases hu with ⟨a, e⟩ | ⟨a, b, e⟩ | ⟨a, b, c, e⟩ | ⟨a, b, c, d, e⟩
    · obtain ⟨rfl, rfl⟩ := Prod.mk.inj e
      rw [gen1 1 (q3 a) (by decide)]
      have kk : ∀ f j, f ≠ 4 → f ≠ 5 → f ≠ 15 → f ≠ 16 → f ≠ 22 → f ≠ 23 → (P0 σ).1 f j = σ.1 f j := fun f j a1 _ _ _ a5 _ => k0 f j a1 a5
      exact ⟨(mN_e _ _ _ _).trans rfl, relM 1 kk z0 k022, hns (fun z => by rw [z.1] at a; exact absurd a (by decide)) (voidT kk)⟩
    · obtain ⟨rfl, rfl⟩ := Prod.mk.inj e
      rw [gen1 2 (q4 a b) (by decide)]
      have kk : ∀ f j, f ≠ 4 → f ≠ 5 → f ≠ 15 → f ≠ 16 → f ≠ 22 → f ≠ 23 → (P0 σ).1 f j = σ.1 f j := fun f j a1 _ _ _ a5 _ => k0 f j a1 a5
      exact ⟨(mN_e _ _ _ _).trans (by decide), relM 2 kk z0 k022, hns (fun z => by rw [z.2.1] at b; exact absurd b (by decide)) (voidT kk)⟩
    · obtain ⟨rfl, rfl⟩ := Prod.mk.inj e
      rw [gen1 3 (q5 a b c) (by decide)]
      have kk : ∀ f j, f ≠ 4 → f ≠ 5 → f ≠ 15 → f ≠ 16 → f ≠ 22 → f ≠ 23 → (P1 σ).1 f j = σ.1 f j := fun f j a1 _ _ _ a5 _ => k1 f j a1 a5
      exact ⟨(mN_e _ _ _ _).trans (by decide), relM 3 kk z1 k122, hns (fun z => by have := z.2.2.1; omega) (voidT kk)⟩
    · obtain ⟨rfl, rfl⟩ := Prod.mk.inj e
      obtain ⟨x1, x2, x3⟩ := hatt a b c
      have hr0 := (q6 a b c).1
      obtain ⟨l1, l2, l3⟩ := lay_start hT1 x1
      have sim := lay_sim (PF σ) 0 _ _ l1 l2
      rw [show T_lay (PF σ) 0 (itr T_lay_e ((P1 σ).1 21 0) 0 (itr T_lay_f ((P1 σ).1 20 0) 0 (P1 σ))) = T_layOut (P1 σ) (PF σ) from rfl] at sim
      have eatt : M_lay (PF σ) 0 (M_lay0 (mN (M_rep (mN μ 15 0 0)).2 2 0 0)) = M_att (mN (M_rep (mN μ 15 0 0)).2 2 0 0) := by
        unfold M_att
        rw [show sF ((mN (M_rep (mN μ 15 0 0)).2 2 0 0).1 19) ((mN (M_rep (mN μ 15 0 0)).2 2 0 0).1 0 0) 0 0 = PF σ from x3]
      rw [eatt, d] at sim
      have hplan : M_plan μ = (0, mN (M_att (mN (M_rep (mN μ 15 0 0)).2 2 0 0)).2 2 0 4) := by
        unfold M_plan M_plan1
        rw [if_neg (by omega), x3]
        unfold M_plan2
        rw [if_neg (by rw [sim.1]; decide)]
      rw [hplan]
      have kk : ∀ f j, f ≠ 4 → f ≠ 5 → f ≠ 15 → f ≠ 16 → f ≠ 22 → f ≠ 23 → (T_layOut (P1 σ) (PF σ)).2.1 f j = σ.1 f j := fun f j a1 a2 a3 a4 a5 a6 => (T_layOut_N _ _ j a2 a3 a4 a6).trans (k1 f j a1 a5)
      refine ⟨(mN_e _ _ _ _).trans (by decide), h0.void kk ((T_layOut_2 _ _).trans z1) ((T_layOut_N _ _ 0 (by decide) (by decide) (by decide) (by decide)).trans k122) (fun f j a1 a2 a3 a4 a5 a6 a7 a8 => ?_) ?_ ?_, hns (fun z => by rw [z.2.2.2] at d; exact absurd d (by decide)) (voidT kk)⟩
      · rw [mN_k _ _ _ _ a1, M_att_N _ j a4 a5 a6 a7, mN_k _ _ _ _ a1]; exact mk f j a3 a8 a2
      · exact (M_att_2 _).trans mk2
      · rw [mN_k _ _ _ _ (by decide), M_att_N _ 0 (by decide) (by decide) (by decide) (by decide), mN_k _ _ _ _ (by decide)]; exact mk15
