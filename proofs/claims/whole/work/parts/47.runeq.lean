/-! ===== running a plan in both ===== -/
theorem occ_s (f : Nat → Nat) (i m : Nat) : occ f (i + 1) m = occ f i m + if f i = m then 1 else 0 := rfl
theorem fire_rel {i : Nat} {σ : TS} {μ : MS} (h : Rel i σ μ) (hi : i < σ.1 22 0) : FireC σ (σ.1 23 i) ∧ μ.1 16 i = σ.1 23 i ∧ FI (σ.1 23 i) 0 μ ∧ Rel (i + 1) (T_fire σ (σ.1 23 i)) (M_fire μ (σ.1 23 i)) ∧ (T_fire σ (σ.1 23 i)).1 22 0 = σ.1 22 0 ∧ (M_fire μ (σ.1 23 i)).1 2 0 = μ.1 2 0 ∧ ∀ q, (T_fire σ (σ.1 23 i)).1 17 q = σ.1 17 q := by
  obtain ⟨⟨p1, p2, p3, p4, p5, p6⟩, r2, r3, r4⟩ := h
  have hm : μ.1 16 i = σ.1 23 i := p5.2.1 i hi
  have hn : σ.1 23 i < σ.1 20 0 := (p6.2.1 i hi).1
  have hand : ∀ q, q < σ.1 21 0 → σ.1 11 q = σ.1 23 i → σ.1 13 q ≤ σ.1 19 q := fun q hq he => by
    have a := (p6.2.1 i hi).2 q hq he
    have b := r4 q hq
    rw [Nat.mul_add] at a
    omega
  have recv : ∀ q, q < σ.1 21 0 → σ.1 10 q = σ.1 23 i → (if σ.1 11 q = σ.1 23 i then σ.1 19 q - σ.1 13 q else σ.1 19 q) + σ.1 12 q ≤ σ.1 17 q ∧ (if σ.1 11 q = σ.1 23 i then σ.1 19 q - σ.1 13 q else σ.1 19 q) + σ.1 12 q ≤ 910 := fun q hq he => by
    have a := p6.2.2.1 (i + 1) (by omega) q hq
    rw [occ_s, occ_s, if_pos he.symm, Nat.mul_add, Nat.mul_add] at a
    have b := r4 q hq
    have c := hand q hq
    by_cases e : σ.1 11 q = σ.1 23 i
    · rw [if_pos e.symm] at a
      rw [if_pos e]
      have := c e
      omega
    · rw [if_neg (fun z => e z.symm)] at a
      rw [if_neg e]
      omega
  obtain ⟨f1, f2, f3, f4, f5, f6⟩ := fire_sim hn p2 r2 r3 hand recv
  have h8 := p1.1
  refine ⟨⟨by omega, p1.2.1, fun q hq => ?_, fun q hq he => ?_⟩, hm, ⟨by rw [← p2.2.1]; exact p1.2.1, fun q hq => ?_⟩, ?_, f4 22 0 (by decide) (by decide) (by decide), f6 2 0 (by decide) (by decide), fun q => f4 17 q (by decide) (by decide) (by decide)⟩
  · have a := p1.2.2 q hq
    have b := r3 q hq
    refine ⟨by omega, by omega, fun e => ⟨by omega, hand q hq e, b.2.2.1, b.2.1, b.2.2.2.1⟩⟩
  · have a := p1.2.2 q hq
    have b := r3 q hq
    exact ⟨by omega, (recv q hq he).1, b.2.1, b.2.2.2.1⟩
  · rw [← p2.2.1] at hq
    have a := p1.2.2 q hq
    have b := r3 q hq
    obtain ⟨n1, n2, n3, n4, n5⟩ := p2.2.2 q hq
    unfold QR
    rw [n1, n2, n3, n4, b.1]
    refine ⟨⟨by omega, by omega, by omega, by omega, b.2.2.2.2.1, by have := b.2.2.2.2.2.1; omega⟩, fun _ e => hand q hq e⟩
  · have hN : TNet (T_fire σ (σ.1 23 i)) := by
      unfold TNet
      rw [f4 20 0 (by decide) (by decide) (by decide), f4 21 0 (by decide) (by decide) (by decide)]
      refine ⟨p1.1, p1.2.1, fun q hq => ?_⟩
      rw [f4 10 q (by decide) (by decide) (by decide), f4 11 q (by decide) (by decide) (by decide), f4 12 q (by decide) (by decide) (by decide), f4 13 q (by decide) (by decide) (by decide), f4 14 q (by decide) (by decide) (by decide)]
      exact p1.2.2 q hq
    have e23 : (T_fire σ (σ.1 23 i)).1 23 = σ.1 23 := funext (fun j => f4 23 j (by decide) (by decide) (by decide))
    refine ⟨⟨hN, f1, fun n hn' => ⟨(f2 n hn').1, (f2 n hn').2.1⟩, fun q hq => by rw [f4 17 q (by decide) (by decide) (by decide)]; exact p4 q hq, p5.same (fun f j hf => f4 f j (by omega) (by omega) (by omega)) (fun f j hf => f6 f j (by omega) (by omega)), p6.same (fun f j hf => f4 f j (by omega) (by omega) (by omega))⟩, f2, f3, ?_⟩
    rw [f4 21 0 (by decide) (by decide) (by decide)]
    intro q hq
    rw [f5 q hq, e23, f4 10 q (by decide) (by decide) (by decide), f4 11 q (by decide) (by decide) (by decide), f4 12 q (by decide) (by decide) (by decide), f4 13 q (by decide) (by decide) (by decide), f4 14 q (by decide) (by decide) (by decide), occ_s, occ_s, Nat.mul_add, Nat.mul_add]
    have b := r4 q hq
    have c := hand q hq
    by_cases e : σ.1 11 q = σ.1 23 i <;> by_cases e2 : σ.1 10 q = σ.1 23 i
    · rw [if_pos e, if_pos e2, if_pos e.symm, if_pos e2.symm]; have := c e; omega
    · rw [if_pos e, if_neg e2, if_pos e.symm, if_neg (fun z => e2 z.symm)]; have := c e; omega
    · rw [if_neg e, if_pos e2, if_neg (fun z => e z.symm), if_pos e2.symm]; omega
    · rw [if_neg e, if_neg e2, if_neg (fun z => e z.symm), if_neg (fun z => e2 z.symm)]; omega
theorem period {σ : TS} {μ : MS} (h : Rel (σ.1 22 0) σ μ) : Rel 0 σ μ := by
  obtain ⟨p, r2, r3, r4⟩ := h
  refine ⟨p, r2, r3, fun q hq => ?_⟩
  have a := r4 q hq
  have b := p.2.2.2.2.2.2.2.2 q hq
  show σ.1 19 q + σ.1 13 q * 0 = σ.1 14 q + σ.1 12 q * 0
  omega
/-- the class's and the reference's run, as their contracts want them -/
def JT (P : Nat) (i : Nat) (τ : TS) : Prop := τ.1 22 0 = P ∧ ∃ ν, Rel i τ ν
def JM (P : Nat) (i : Nat) (ν : MS) : Prop := ν.1 15 0 = P ∧ ∃ τ, τ.1 22 0 = P ∧ Rel i τ ν
theorem JT_run (P : Nat) : RunJ (JT P) P := by
  refine ⟨fun i τ h => h.1, fun i τ hi h => ?_, fun τ h => ?_⟩
  · obtain ⟨h1, ν, h2⟩ := h
    obtain ⟨a, b, c, d, e, -⟩ := fire_rel h2 (by omega)
    exact ⟨a, by rw [e]; exact h1, _, d⟩
  · obtain ⟨h1, ν, h2⟩ := h
    exact ⟨h1, ν, period (by rw [h1]; exact h2)⟩
theorem JM_run {P : Nat} : RunJM (JM P) P := by
  refine ⟨fun i ν h => h.1, fun i ν hi h => ?_, fun ν h => ?_⟩
  · obtain ⟨h1, τ, h2, h3⟩ := h
    obtain ⟨a, b, c, d, e, -⟩ := fire_rel h3 (by omega)
    rw [b]
    refine ⟨a.1, c, ?_, _, by rw [e]; exact h2, d⟩
    have q := d.1.2.2.2.2.1.1
    rw [e, h2] at q
    exact q
  · obtain ⟨h1, τ, h2, h3⟩ := h
    exact ⟨h1, τ, h2, period (by rw [h2]; exact h3)⟩
theorem round_rel {P b : Nat} : ∀ (k i : Nat) (τ : TS) (ν : MS), i + k ≤ P → τ.1 22 0 = P → Rel i τ ν → Rel (i + k) (itr T_run_s k i τ) (itr M_run_s k (b * P + i) ν) ∧ (itr T_run_s k i τ).1 22 0 = P ∧ (itr M_run_s k (b * P + i) ν).1 2 0 = ν.1 2 0 ∧ ∀ q, (itr T_run_s k i τ).1 17 q = τ.1 17 q := by
  intro k
  induction k with
  | zero => intro i τ ν _ h1 h2; exact ⟨h2, h1, rfl, fun _ => rfl⟩
  | succ k ih =>
    intro i τ ν hk h1 h2
    obtain ⟨a, b', c, d, e, g, l⟩ := fire_rel h2 (by omega)
    have hm : M_run_s (b * P + i) ν = M_fire ν (τ.1 23 i) := by
      unfold M_run_s
      rw [h2.1.2.2.2.2.1.1, h1, Nat.mul_add_mod', Nat.mod_eq_of_lt (by omega), b']
    have := ih (i + 1) (T_fire τ (τ.1 23 i)) (M_fire ν (τ.1 23 i)) (by omega) (by rw [e]; exact h1) d
    rw [show i + 1 + k = i + (k + 1) by omega, show b * P + (i + 1) = b * P + i + 1 by omega] at this
    show Rel (i + (k + 1)) (itr T_run_s k (i + 1) (T_run_s i τ)) (itr M_run_s k (b * P + i + 1) (M_run_s (b * P + i) ν)) ∧ (itr T_run_s k (i + 1) (T_run_s i τ)).1 22 0 = P ∧ (itr M_run_s k (b * P + i + 1) (M_run_s (b * P + i) ν)).1 2 0 = ν.1 2 0 ∧ ∀ q, (itr T_run_s k (i + 1) (T_run_s i τ)).1 17 q = τ.1 17 q
    rw [hm]
    exact ⟨this.1, this.2.1, this.2.2.1.trans g, fun q => (this.2.2.2 q).trans (l q)⟩
theorem run_rel {P : Nat} : ∀ (n b i : Nat) (τ : TS) (ν : MS), τ.1 22 0 = P → Rel 0 τ ν → Rel 0 (itr (T_run1 P) n i τ) (itr M_run_s (n * P) (b * P) ν) ∧ (itr (T_run1 P) n i τ).1 22 0 = P ∧ (itr M_run_s (n * P) (b * P) ν).1 2 0 = ν.1 2 0 ∧ ∀ q, (itr (T_run1 P) n i τ).1 17 q = τ.1 17 q := by
  intro n
  induction n with
  | zero => intro b i τ ν h1 h2; rw [Nat.zero_mul]; exact ⟨h2, h1, rfl, fun _ => rfl⟩
  | succ n ih =>
    intro b i τ ν h1 h2
    obtain ⟨a1, a2, a3, a4⟩ := round_rel (b := b) P 0 τ ν (by omega) h1 h2
    rw [Nat.zero_add] at a1
    have h3 := ih (b + 1) (i + 1) (itr T_run_s P 0 τ) (itr M_run_s P (b * P + 0) ν) a2 (period (by rw [a2]; exact a1))
    rw [Nat.add_zero] at h3
    rw [show (n + 1) * P = P + n * P by rw [Nat.succ_mul]; omega, itr_add M_run_s P (n * P) (b * P) ν, show b * P + P = (b + 1) * P by rw [Nat.succ_mul]]
    rw [Nat.add_zero] at a3
    exact ⟨h3.1, h3.2.1, h3.2.2.1.trans a3, fun q => (h3.2.2.2 q).trans (a4 q)⟩
theorem Rel.m {i : Nat} {σ : TS} {μ ν : MS} (h : Rel i σ μ) (e : ∀ f j, f ≠ 2 → ν.1 f j = μ.1 f j) (e2 : ν.2 = μ.2) : Rel i σ ν := by
  obtain ⟨⟨p1, p2, p3, p4, p5, p6⟩, r2, r3, r4⟩ := h
  refine ⟨⟨p1, p2.same (fun _ _ _ => rfl) (fun f j hf => e f j (by omega)), by rw [e2]; exact p3, p4, p5.same (fun _ _ _ => rfl) (fun f j hf => e f j (by omega)), p6⟩, by unfold ActR; rw [e2]; exact r2, fun q hq => ?_, r4⟩
  obtain ⟨a1, a2, a3, a4, a5, a6, a7⟩ := r3 q hq
  rw [e 14 q (by decide), e 13 q (by decide)]
  refine ⟨a1, a2, a3, a4, a5, a6, fun k hk => ?_⟩
  rw [a7 k hk]
  unfold tokM M_at
  rw [e2, e 13 q (by decide)]
theorem Rel.m2 {i : Nat} {σ : TS} {μ : MS} (h : Rel i σ μ) (v : Nat) : Rel i σ (mN μ 2 0 v) := h.m (fun f j hf => mN_k _ _ _ _ hf) rfl
theorem run_sim {σ : TS} {μ : MS} {x : Int32} (h : Rel 0 σ μ) : (∀ u, RunQ σ x (nI (tn x * σ.1 22 0)) u → (M_run μ x).1 = tn x * σ.1 22 0 ∧ (M_run μ x).2.1 2 0 = 0 ∧ Rel 0 u (M_run μ x).2 ∧ ∀ q, u.1 17 q = σ.1 17 q) ∧ ∀ E u, RunX σ x (E, u) → (M_run μ x).2.1 2 0 = RE E ∧ Rel 0 u (M_run μ x).2 ∧ ∀ q, u.1 17 q = σ.1 17 q := by
  have hP : μ.1 15 0 = σ.1 22 0 := h.1.2.2.2.2.1.1
  refine ⟨fun u hu => ?_, fun E u hu => ?_⟩
  · obtain ⟨h1, h2, -, rfl⟩ := hu
    unfold M_run
    rw [if_neg (by omega), if_pos h2, hP]
    have := run_rel (P := σ.1 22 0) (tn x) 0 0 σ (mN μ 2 0 0) rfl (h.m2 0)
    rw [Nat.zero_mul] at this
    exact ⟨rfl, this.2.2.1.trans (mN_e μ 2 0 0), this.1, this.2.2.2⟩
  · unfold M_run
    rcases hu with ⟨h1, h2⟩ | ⟨h1, h2, h3⟩
    · obtain ⟨rfl, rfl⟩ := Prod.mk.inj h2
      rw [if_pos (by omega)]
      exact ⟨(mN_e μ 2 0 1).trans rfl, h.m2 1, fun _ => rfl⟩
    · obtain ⟨rfl, rfl⟩ := Prod.mk.inj h3
      rw [if_neg (by omega), if_neg (by rw [h2]; decide)]
      exact ⟨(mN_e μ 2 0 2).trans rfl, h.m2 2, fun _ => rfl⟩
