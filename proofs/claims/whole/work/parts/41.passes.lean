/-! ===== both passes of the reference beside the class ===== -/
def M_reach (x : MR) (b v w : Nat) : MR := (mN (mN x.1 19 b v) 24 0 (x.1.1 24 0 * w), x.2 + 1)
theorem M_reach_N (x : MR) (b v w f j : Nat) : (M_reach x b v w).1.1 f j = if f = 24 ∧ j = 0 then x.1.1 24 0 * w else if f = 19 ∧ j = b then v else x.1.1 f j := rfl
theorem M_al_cases (e : Nat) (x : MR) : ((x.1.1 19 (x.1.1 7 e) = 0 ↔ x.1.1 19 (x.1.1 8 e) = 0) ∧ M_al e x = x) ∨ (0 < x.1.1 19 (x.1.1 7 e) ∧ x.1.1 19 (x.1.1 8 e) = 0 ∧ M_al e x = M_reach x (x.1.1 8 e) (x.1.1 19 (x.1.1 7 e) * x.1.1 9 e / x.1.1 10 e) (x.1.1 10 e)) ∨ (0 < x.1.1 19 (x.1.1 8 e) ∧ x.1.1 19 (x.1.1 7 e) = 0 ∧ M_al e x = M_reach x (x.1.1 7 e) (x.1.1 19 (x.1.1 8 e) * x.1.1 10 e / x.1.1 9 e) (x.1.1 9 e)) := by
  unfold M_al
  by_cases h1 : 0 < x.1.1 19 (x.1.1 7 e) ∧ x.1.1 19 (x.1.1 8 e) = 0
  · rw [if_pos h1]; exact Or.inr (Or.inl ⟨h1.1, h1.2, rfl⟩)
  · rw [if_neg h1]
    by_cases h2 : 0 < x.1.1 19 (x.1.1 8 e) ∧ x.1.1 19 (x.1.1 7 e) = 0
    · rw [if_pos h2]; exact Or.inr (Or.inr ⟨h2.1, h2.2, rfl⟩)
    · rw [if_neg h2]; exact Or.inl ⟨by omega, rfl⟩
theorem M_al_I (e : Nat) (x : MR) : (M_al e x).1.2 = x.1.2 := by
  rcases M_al_cases e x with ⟨_, h⟩ | ⟨_, _, h⟩ | ⟨_, _, h⟩ <;> rw [h] <;> rfl
theorem M_rnd_keep : ∀ (k i : Nat) (x : MR), (itr M_rnd k i x).1.2 = x.1.2 ∧ ∀ f n, f ≠ 19 → f ≠ 24 → (itr M_rnd k i x).1.1 f n = x.1.1 f n := by
  have al : ∀ (k i : Nat) (x : MR), (itr M_al k i x).1.2 = x.1.2 := by
    intro k
    induction k with
    | zero => intro i x; rfl
    | succ k ih => intro i x; exact (ih (i + 1) _).trans (M_al_I i x)
  intro k
  induction k with
  | zero => intro i x; exact ⟨rfl, fun _ _ _ _ => rfl⟩
  | succ k ih =>
    intro i x
    have h := ih (i + 1) (M_rnd i x)
    exact ⟨h.1.trans (al _ _ _), fun f n h1 h2 => (h.2 f n h1 h2).trans (M_al_iN _ _ _ n h1 h2)⟩
theorem msp0_N : ∀ (k i : Nat) (τ : MS) (f j : Nat), (itr M_sp0 k i τ).1 f j = if f = 19 ∧ i ≤ j ∧ j < i + k then 0 else τ.1 f j := by
  intro k
  induction k with
  | zero => intro i τ f j; rw [if_neg (by omega)]; rfl
  | succ k ih =>
    intro i τ f j
    show (itr M_sp0 k (i + 1) (mN τ 19 i 0)).1 f j = _
    rw [ih]
    by_cases e : f = 19 ∧ j = i
    · rw [if_neg (by omega), if_pos (by omega), e.1, e.2]; exact up2_eq _ _ _ _
    · rw [show (mN τ 19 i 0).1 f j = τ.1 f j from by show up2 τ.1 19 i 0 f j = _; unfold up2; rw [if_neg e]]
      by_cases e1 : f = 19 ∧ i + 1 ≤ j ∧ j < i + 1 + k
      · rw [if_pos e1, if_pos (show f = 19 ∧ i ≤ j ∧ j < i + (k + 1) by omega)]
      · rw [if_neg e1, if_neg (show ¬ (f = 19 ∧ i ≤ j ∧ j < i + (k + 1)) by omega)]
theorem msp0_I : ∀ (k i : Nat) (τ : MS), (itr M_sp0 k i τ).2 = τ.2 := by
  intro k
  induction k with
  | zero => intro i τ; rfl
  | succ k ih => intro i τ; exact (ih (i + 1) _).trans rfl
theorem M_spr0_N (μ : MS) (v f j : Nat) : (M_spr0 μ v).1.1 f j = if f = 24 ∧ j = 0 then 1 else if f = 19 ∧ j = 0 then v else if f = 19 ∧ j < 8 then 0 else μ.1 f j := by
  show up2 (up2 (itr M_sp0 8 0 μ).1 19 0 v) 24 0 1 f j = _
  unfold up2
  rw [msp0_N]
  by_cases e1 : f = 24 ∧ j = 0
  · rw [if_pos e1, if_pos e1]
  · rw [if_neg e1, if_neg e1]
    by_cases e2 : f = 19 ∧ j = 0
    · rw [if_pos e2, if_pos e2]
    · rw [if_neg e2, if_neg e2]
      by_cases e3 : f = 19 ∧ j < 8
      · rw [if_pos (by omega), if_pos e3]
      · rw [if_neg (by omega), if_neg e3]
theorem M_spr0_19 (μ : MS) (v n : Nat) (hn : n < 8) : (M_spr0 μ v).1.1 19 n = if n = 0 then v else 0 := by
  rw [M_spr0_N, if_neg (by omega)]
  by_cases n0 : n = 0
  · rw [if_pos ⟨rfl, n0⟩, if_pos n0]
  · rw [if_neg (by omega), if_neg n0, if_pos ⟨rfl, hn⟩]
theorem M_spread_keep (μ : MS) (v : Nat) : (M_spread μ v).1.2 = μ.2 ∧ ∀ f n, f ≠ 19 → f ≠ 24 → (M_spread μ v).1.1 f n = μ.1 f n := by
  rw [M_spread_eq]
  have h := M_rnd_keep 8 0 (M_spr0 μ v)
  refine ⟨h.1.trans (msp0_I 8 0 μ), fun f n h1 h2 => ?_⟩
  rw [h.2 f n h1 h2, M_spr0_N, if_neg (by omega), if_neg (by omega), if_neg (by omega)]
/-- what keeps the reference's rates small -/
def JS (x : MR) : Prop := MNet x.1 ∧ ∀ n, n < x.1.1 0 0 → x.1.1 19 n * 9 ^ zc (x.1.1 19) (x.1.1 0 0) ≤ 9 ^ 14
theorem JS_lt {x : MR} (h : JS x) {n : Nat} (hn : n < x.1.1 0 0) : x.1.1 19 n < 2 ^ 45 := by
  have h1 := h.2 n hn
  have h2 : 1 ≤ 9 ^ zc (x.1.1 19) (x.1.1 0 0) := Nat.pow_pos (by decide)
  have h3 := Nat.mul_le_mul_left (x.1.1 19 n) h2
  have h4 : (9 : Nat) ^ 14 < 2 ^ 45 := by decide
  omega
theorem MNet.same {μ ν : MS} (h : MNet μ) (e : ∀ f n, f = 0 ∨ f = 1 ∨ f = 7 ∨ f = 8 ∨ f = 9 ∨ f = 10 ∨ f = 11 → ν.1 f n = μ.1 f n) : MNet ν := by
  unfold MNet
  rw [e 0 0 (by omega), e 1 0 (by omega)]
  refine ⟨h.1, h.2.1, fun q hq => ?_⟩
  rw [e 7 q (by omega), e 8 q (by omega), e 9 q (by omega), e 10 q (by omega), e 11 q (by omega)]
  exact h.2.2 q hq
theorem JS_reach {x : MR} (h : JS x) {a b g w : Nat} (ha : a < x.1.1 0 0) (hb : b < x.1.1 0 0) (hb0 : x.1.1 19 b = 0) (hg : g ≤ 9) : JS (M_reach x b (x.1.1 19 a * g / w) w) := by
  have e : ∀ f j, f ≠ 24 → f ≠ 19 → (M_reach x b (x.1.1 19 a * g / w) w).1.1 f j = x.1.1 f j := fun f j h1 h2 => by rw [M_reach_N, if_neg (by omega), if_neg (by omega)]
  refine ⟨h.1.same (fun f n hf => e f n (by omega) (by omega)), ?_⟩
  rw [e 0 0 (by decide) (by decide)]
  generalize hv : x.1.1 19 a * g / w = v
  have hv9 : v ≤ x.1.1 19 a * 9 := by rw [← hv]; exact Nat.le_trans (Nat.div_le_self _ _) (Nat.mul_le_mul_left _ hg)
  have e19 : ∀ j, (M_reach x b v w).1.1 19 j = if j = b then v else x.1.1 19 j := fun j => by
    rw [M_reach_N, if_neg (by omega)]
    by_cases q : j = b
    · rw [if_pos ⟨rfl, q⟩, if_pos q]
    · rw [if_neg (by omega), if_neg q]
  by_cases v0 : v = 0
  · have ez : zc ((M_reach x b v w).1.1 19) (x.1.1 0 0) = zc (x.1.1 19) (x.1.1 0 0) := by
      refine zc_congr _ (fun j _ => ?_)
      rw [e19]
      split
      · rename_i q; rw [q, v0, hb0]
      · rfl
    rw [ez]
    intro n hn
    rw [e19]
    split
    · rw [v0, Nat.zero_mul]; exact Nat.zero_le _
    · exact h.2 n hn
  · have ez : zc (x.1.1 19) (x.1.1 0 0) = zc ((M_reach x b v w).1.1 19) (x.1.1 0 0) + 1 := by
      refine zc_less _ hb hb0 (by rw [e19, if_pos rfl]; exact v0) (fun j _ hj => ?_)
      rw [e19, if_neg hj]
    intro n hn
    have key : ∀ y, y < x.1.1 0 0 → x.1.1 19 y * 9 * 9 ^ zc ((M_reach x b v w).1.1 19) (x.1.1 0 0) ≤ 9 ^ 14 := fun y hy => by
      have h2 := h.2 y hy
      rw [ez, Nat.pow_succ, Nat.mul_comm (9 ^ _) 9, ← Nat.mul_assoc] at h2
      exact h2
    rw [e19]
    split
    · exact Nat.le_trans (Nat.mul_le_mul_right _ hv9) (key a ha)
    · exact Nat.le_trans (Nat.mul_le_mul_right _ (by omega)) (key n hn)
theorem JS_C : SpC JS := by
  intro x h
  refine ⟨⟨h.1.1, h.1.2.1⟩, fun e he => ?_⟩
  obtain ⟨a1, a2, a3, a4, a5, a6, a7⟩ := h.1.2.2 e he
  have h8 := h.1.1
  refine ⟨⟨by omega, by omega, by omega, by omega, by omega, by omega⟩, ⟨?_, ?_⟩, ?_⟩
  · have := JS_lt h a1; omega
  · have := JS_lt h a2; omega
  · rcases M_al_cases e x with ⟨_, h3⟩ | ⟨_, h2, h3⟩ | ⟨_, h2, h3⟩
    · rw [h3]; exact h
    · rw [h3]; exact JS_reach h a1 a2 h2 a4
    · rw [h3]; exact JS_reach h a2 a1 h2 a6
theorem JS_0 {μ : MS} (h : MNet μ) {v : Nat} (hv : v ≤ 9 ^ 7) : JS (M_spr0 μ v) := by
  have e : ∀ f j, f ≠ 24 → f ≠ 19 → (M_spr0 μ v).1.1 f j = μ.1 f j := fun f j h1 h2 => by rw [M_spr0_N, if_neg (by omega), if_neg (by omega), if_neg (by omega)]
  refine ⟨h.same (fun f n hf => e f n (by omega) (by omega)), ?_⟩
  rw [e 0 0 (by decide) (by decide)]
  have h8 := h.1
  intro n hn
  rw [M_spr0_N, if_neg (by omega)]
  by_cases n0 : n = 0
  · rw [if_pos ⟨rfl, n0⟩]
    have hz : zc ((M_spr0 μ v).1.1 19) (μ.1 0 0) ≤ 7 ∨ v = 0 := by
      by_cases v0 : v = 0
      · exact Or.inr v0
      · have := zc_start (f := (M_spr0 μ v).1.1 19) (by rw [M_spr0_N, if_neg (by omega), if_pos ⟨rfl, rfl⟩]; exact v0) (μ.1 0 0) (by omega) (fun j h1 h2 => by rw [M_spr0_N, if_neg (by omega), if_neg (by omega), if_pos (by omega)])
        exact Or.inl (by omega)
    rcases hz with hz | hz
    · have h1 : (9 : Nat) ^ zc ((M_spr0 μ v).1.1 19) (μ.1 0 0) ≤ 9 ^ 7 := Nat.pow_le_pow_right (by decide) hz
      have h2 := Nat.mul_le_mul hv h1
      have h3 : (9 : Nat) ^ 7 * 9 ^ 7 = 9 ^ 14 := by decide
      omega
    · rw [hz, Nat.zero_mul]; exact Nat.zero_le _
  · rw [if_neg (by omega), if_pos ⟨rfl, by omega⟩, Nat.zero_mul]; exact Nat.zero_le _
/-- the first pass in step -/
def S1 (σ : TS) (x : MR) : Prop := NR σ x.1 ∧ (∀ n, n < σ.1 20 0 → (σ.1 4 n = 0 ↔ x.1.1 19 n = 0)) ∧ x.1.1 24 0 = σ.1 4 0 ∧ x.2 + zc (σ.1 4) (σ.1 20 0) = σ.1 20 0 ∧ ∀ n, n < σ.1 20 0 → x.1.1 19 n ≠ 0 → 9 ^ zc (σ.1 4) (σ.1 20 0) ≤ x.1.1 19 n
theorem reach_keep (σ : TS) (b v w : Nat) : ∀ f j, f ≠ 4 → (T_reach σ b v w).1 f j = σ.1 f j := fun f j hf => by rw [T_reach_N, if_neg (by omega), if_neg (by omega)]
theorem mreach_keep (x : MR) (b v w : Nat) : ∀ f j, f ≠ 24 → f ≠ 19 → (M_reach x b v w).1.1 f j = x.1.1 f j := fun f j h1 h2 => by rw [M_reach_N, if_neg (by omega), if_neg (by omega)]
theorem mreach_19 (x : MR) (b v w j : Nat) : (M_reach x b v w).1.1 19 j = if j = b then v else x.1.1 19 j := by
  rw [M_reach_N, if_neg (by omega)]
  by_cases q : j = b
  · rw [if_pos ⟨rfl, q⟩, if_pos q]
  · rw [if_neg (by omega), if_neg q]
theorem S1_reach {σ : TS} {x : MR} (hB : B0 σ) (h : S1 σ x) {a b g w : Nat} (ha : a < σ.1 20 0) (hb : b < σ.1 20 0) (ha0 : 0 < σ.1 4 a) (hb0 : σ.1 4 b = 0) (hg : 1 ≤ g) (hw : 1 ≤ w ∧ w ≤ 9) : S1 (T_reach σ b (σ.1 4 a * g) w) (M_reach x b (x.1.1 19 a * g / w) w) := by
  obtain ⟨h1, h2, h3, h4, h5⟩ := h
  have ez := reach_z (v := σ.1 4 a * g) (w := w) hb0 hb (Nat.mul_pos ha0 (by omega)) (by omega)
  have hra : x.1.1 19 a ≠ 0 := fun q => by have := (h2 a ha).mpr q; omega
  have hlow := h5 a ha hra
  have hv : 9 ^ zc ((T_reach σ b (σ.1 4 a * g) w).1 4) (σ.1 20 0) ≤ x.1.1 19 a * g / w := by
    rw [Nat.le_div_iff_mul_le (by omega)]
    rw [ez, Nat.pow_succ] at hlow
    have q1 := Nat.mul_le_mul_left (9 ^ zc ((T_reach σ b (σ.1 4 a * g) w).1 4) (σ.1 20 0)) hw.2
    have q2 := Nat.mul_le_mul_left (x.1.1 19 a) hg
    omega
  have hvp : 0 < x.1.1 19 a * g / w := Nat.lt_of_lt_of_le (Nat.pow_pos (by decide)) hv
  refine ⟨h1.same (fun f n hf => reach_keep σ b _ w f n (by omega)) (fun f n hf => mreach_keep x b _ w f n (by omega) (by omega)), ?_, ?_, ?_, ?_⟩
  · rw [reach_keep σ b _ w 20 0 (by decide)]
    intro n hn
    rw [mreach_19, T_reach_N]
    by_cases q : n = b
    · rw [if_pos ⟨rfl, q⟩, if_pos q]
      have := Nat.mul_pos ha0 (show 0 < g by omega)
      omega
    · rw [if_neg (by omega), if_pos ⟨rfl, hn⟩, if_neg q, ← h2 n hn]
      constructor
      · intro q2
        rcases Nat.mul_eq_zero.mp q2 with q2 | q2
        · exact q2
        · omega
      · intro q2; rw [q2, Nat.zero_mul]
  · rw [reach_0 hB hb0, M_reach_N, if_pos ⟨rfl, rfl⟩, h3]
  · rw [reach_keep σ b _ w 20 0 (by decide)]
    show x.2 + 1 + _ = _
    omega
  · rw [reach_keep σ b _ w 20 0 (by decide)]
    intro n hn
    rw [mreach_19]
    by_cases q : n = b
    · rw [if_pos q]; intro _; exact hv
    · rw [if_neg q]
      intro q2
      refine Nat.le_trans ?_ (h5 n hn q2)
      exact Nat.pow_le_pow_right (by decide) (by omega)
theorem S1_step : ∀ σ x e, B0 σ → e < σ.1 21 0 → S1 σ x → (T_along σ e).1 4 0 ∣ 0 → S1 (T_along σ e) (M_al e x) := by
  intro σ x e hB he h _
  obtain ⟨a1, a2, a3, a4, a5, a6, a7⟩ := hB.1.2.2 e he
  obtain ⟨n1, n2, n3, n4, n5⟩ := h.1.2.2 e he
  have z1 := h.2.1 _ a1
  have z2 := h.2.1 _ a2
  have mc := M_al_cases e x
  rw [n1, n2, n3, n4] at mc
  rcases mc with ⟨q1, q3⟩ | ⟨q1, q2, q3⟩ | ⟨q1, q2, q3⟩ <;> rcases T_along_cases σ e with ⟨t1, t3⟩ | ⟨t1, t2, t3⟩ | ⟨t1, t2, t3⟩ <;> (try (exfalso; omega))
  · rw [q3, t3]; exact h
  · rw [q3, t3]
    exact S1_reach hB h a1 a2 t1 t2 a3 ⟨a5, a6⟩
  · rw [q3, t3]
    exact S1_reach hB h a2 a1 t1 t2 a5 ⟨a3, a4⟩
/-- the second pass in step -/
def S2 (Dv : Nat) (σ : TS) (x : MR) : Prop := NR σ x.1 ∧ ∀ n, n < σ.1 20 0 → x.1.1 19 n * σ.1 4 0 = Dv * σ.1 4 n
theorem S2_reach {Dv : Nat} {σ : TS} {x : MR} (hB : B0 σ) (h : S2 Dv σ x) {a b g w : Nat} (ha : a < σ.1 20 0) (hb : b < σ.1 20 0) (hb0 : σ.1 4 b = 0) (hw : 1 ≤ w) (hd : (T_reach σ b (σ.1 4 a * g) w).1 4 0 ∣ Dv) : S2 Dv (T_reach σ b (σ.1 4 a * g) w) (M_reach x b (x.1.1 19 a * g / w) w) := by
  obtain ⟨h1, h2⟩ := h
  rw [reach_0 hB hb0] at hd
  obtain ⟨r, hr⟩ := hd
  have hp := hB.2.2
  have er : ∀ n, n < σ.1 20 0 → x.1.1 19 n = σ.1 4 n * (w * r) := fun n hn => by
    have q := h2 n hn
    rw [hr] at q
    refine Nat.eq_of_mul_eq_mul_right hp (q.trans ?_)
    ac_rfl
  have ev : x.1.1 19 a * g / w = σ.1 4 a * g * r := by
    rw [er a ha, show σ.1 4 a * (w * r) * g = w * (σ.1 4 a * g * r) by ac_rfl]
    exact Nat.mul_div_cancel_left _ (by omega)
  refine ⟨h1.same (fun f n hf => reach_keep σ b _ w f n (by omega)) (fun f n hf => mreach_keep x b _ w f n (by omega) (by omega)), ?_⟩
  rw [reach_keep σ b _ w 20 0 (by decide), reach_0 hB hb0]
  intro n hn
  rw [mreach_19, T_reach_N, hr]
  by_cases q : n = b
  · rw [if_pos q, if_pos (show 4 = 4 ∧ n = b from ⟨rfl, q⟩), ev]; ac_rfl
  · rw [if_neg q, if_neg (show ¬ (4 = 4 ∧ n = b) from fun z => q z.2), if_pos (show 4 = 4 ∧ n < σ.1 20 0 from ⟨rfl, hn⟩), er n hn]; ac_rfl
theorem S2_zero {Dv : Nat} (hD : 0 < Dv) {σ : TS} {x : MR} (hB : B0 σ) (h : S2 Dv σ x) : ∀ n, n < σ.1 20 0 → (σ.1 4 n = 0 ↔ x.1.1 19 n = 0) := by
  intro n hn
  have q := h.2 n hn
  have hp := hB.2.2
  constructor
  · intro q2
    rw [q2, Nat.mul_zero] at q
    rcases Nat.mul_eq_zero.mp q with q | q
    · exact q
    · omega
  · intro q2
    rw [q2, Nat.zero_mul] at q
    rcases Nat.mul_eq_zero.mp q.symm with q | q
    · omega
    · exact q
theorem S2_step {Dv : Nat} (hD : 0 < Dv) : ∀ σ x e, B0 σ → e < σ.1 21 0 → S2 Dv σ x → (T_along σ e).1 4 0 ∣ Dv → S2 Dv (T_along σ e) (M_al e x) := by
  intro σ x e hB he h hd
  obtain ⟨a1, a2, a3, a4, a5, a6, a7⟩ := hB.1.2.2 e he
  obtain ⟨n1, n2, n3, n4, n5⟩ := h.1.2.2 e he
  have z1 := S2_zero hD hB h _ a1
  have z2 := S2_zero hD hB h _ a2
  have mc := M_al_cases e x
  rw [n1, n2, n3, n4] at mc
  rcases mc with ⟨q1, q3⟩ | ⟨q1, q2, q3⟩ | ⟨q1, q2, q3⟩ <;> rcases T_along_cases σ e with ⟨t1, t3⟩ | ⟨t1, t2, t3⟩ | ⟨t1, t2, t3⟩ <;> (try (exfalso; omega))
  · rw [q3, t3]; exact h
  · rw [t3] at hd
    rw [q3, t3]
    exact S2_reach hB h a1 a2 t2 (by omega) hd
  · rw [t3] at hd
    rw [q3, t3]
    exact S2_reach hB h a2 a1 t2 (by omega) hd
theorem M_fix {x : MR} (h : ∀ e, e < x.1.1 1 0 → (x.1.1 19 (x.1.1 7 e) = 0 ↔ x.1.1 19 (x.1.1 8 e) = 0)) : ∀ (k i : Nat), itr M_rnd k i x = x := by
  have al : ∀ (k i : Nat), i + k ≤ x.1.1 1 0 → itr M_al k i x = x := by
    intro k
    induction k with
    | zero => intro i _; rfl
    | succ k ih =>
      intro i hk
      show itr M_al k (i + 1) (M_al i x) = x
      have e : M_al i x = x := by
        have hi := h i (by omega)
        rcases M_al_cases i x with ⟨_, q⟩ | ⟨q1, q2, _⟩ | ⟨q1, q2, _⟩
        · exact q
        · omega
        · omega
      rw [e]
      exact ih (i + 1) (by omega)
  intro k
  induction k with
  | zero => intro i; rfl
  | succ k ih =>
    intro i
    show itr M_rnd k (i + 1) (M_rnd i x) = x
    rw [show M_rnd i x = x from al (x.1.1 1 0) 0 (by omega)]
    exact ih (i + 1)
/-- where the spreading begins -/
theorem sp_start {σ : TS} (hn : TNet σ) (hp : 0 < σ.1 20 0) : B0 (itr T_sp0 (σ.1 20 0) 0 σ) ∧ (∀ f n, f ≠ 4 → (itr T_sp0 (σ.1 20 0) 0 σ).1 f n = σ.1 f n) ∧ (∀ n, n < σ.1 20 0 → (itr T_sp0 (σ.1 20 0) 0 σ).1 4 n = if n = 0 then 1 else 0) ∧ zc ((itr T_sp0 (σ.1 20 0) 0 σ).1 4) (σ.1 20 0) + 1 = σ.1 20 0 := by
  have k : ∀ f n, f ≠ 4 → (itr T_sp0 (σ.1 20 0) 0 σ).1 f n = σ.1 f n := fun f n hf => by rw [sp0_N, if_neg (fun q => hf q.1)]
  have v : ∀ n, n < σ.1 20 0 → (itr T_sp0 (σ.1 20 0) 0 σ).1 4 n = if n = 0 then 1 else 0 := fun n hn => by rw [sp0_N, if_pos ⟨rfl, Nat.zero_le _, by omega⟩]
  refine ⟨⟨hn.same k, by rw [k 20 0 (by decide)]; exact hp, by rw [v 0 hp]; decide⟩, k, v, ?_⟩
  refine zc_start (by rw [v 0 hp]; decide) _ hp (fun j h1 h2 => ?_)
  rw [v j h2, if_neg (by omega)]
theorem spread_fix {σ : TS} (hn : TNet σ) (hp : 0 < σ.1 20 0) : FixT (T_spread σ) := by
  obtain ⟨b, k, v, z⟩ := sp_start hn hp
  unfold T_spread
  have h := round_fix (σ.1 20 0 - 1) 1 (itr T_sp0 (σ.1 20 0) 0 σ) b.1
  rw [k 20 0 (by decide)] at h
  rcases h with h | h
  · exact h
  · have hz : zc ((itr T_round (σ.1 20 0 - 1) 1 (itr T_sp0 (σ.1 20 0) 0 σ)).1 4) (σ.1 20 0) = 0 := by omega
    have hne := zc_zero _ hz
    intro e he
    rw [itr_round_N _ _ _ _ (by decide), k 21 0 (by decide)] at he
    obtain ⟨a1, a2, _⟩ := hn.2.2 e he
    rw [itr_round_N (f := 10) _ _ _ _ (by decide), itr_round_N (f := 11) _ _ _ _ (by decide), k 10 e (by decide), k 11 e (by decide)]
    have := hne _ a1
    have := hne _ a2
    omega
theorem rounds_split (x : MR) {n : Nat} (h1 : 0 < n) (h8 : n ≤ 8) : itr M_rnd 8 0 x = itr M_rnd (9 - n) (0 + (n - 1)) (itr M_rnd (n - 1) 0 x) := by
  rw [← itr_add, show n - 1 + (9 - n) = 8 by omega]
theorem spread1 {σ : TS} {μ : MS} (hn : TNet σ) (hp : 0 < σ.1 20 0) (h : NR σ μ) : S1 (T_spread σ) (M_sp1 μ) := by
  obtain ⟨b, k, v, z⟩ := sp_start hn hp
  have h0 : S1 (itr T_sp0 (σ.1 20 0) 0 σ) (M_spr0 μ 4782969) := by
    have ek : ∀ f j, f ≠ 24 → f ≠ 19 → (M_spr0 μ 4782969).1.1 f j = μ.1 f j := fun f j h1 h2 => by rw [M_spr0_N, if_neg (by omega), if_neg (by omega), if_neg (by omega)]
    have h8 := hn.1
    refine ⟨h.same (fun f n hf => k f n (by omega)) (fun f n hf => ek f n (by omega) (by omega)), ?_, ?_, ?_, ?_⟩
    · rw [k 20 0 (by decide)]
      intro n hn
      rw [v n hn, M_spr0_19 _ _ _ (by omega)]
      by_cases n0 : n = 0
      · rw [if_pos n0, if_pos n0]; omega
      · rw [if_neg n0, if_neg n0]
    · rw [M_spr0_N, if_pos ⟨rfl, rfl⟩, v 0 hp, if_pos rfl]
    · rw [k 20 0 (by decide)]
      show 1 + _ = _
      omega
    · rw [k 20 0 (by decide)]
      intro n hn
      rw [M_spr0_N, if_neg (by omega)]
      by_cases n0 : n = 0
      · rw [if_pos ⟨rfl, n0⟩]
        intro _
        have h1 : (9 : Nat) ^ zc ((itr T_sp0 (σ.1 20 0) 0 σ).1 4) (σ.1 20 0) ≤ 9 ^ 7 := Nat.pow_le_pow_right (by decide) (by omega)
        have h3 : (9 : Nat) ^ 7 = 4782969 := by decide
        omega
      · rw [if_neg (by omega), if_pos ⟨rfl, by omega⟩]
        intro q; exact absurd rfl q
  have h1 := sync_rnd S1_step (fun σ x h => h.1.2.1) (σ.1 20 0 - 1) 1 0 _ _ b h0 (Nat.dvd_zero _)
  have hf := spread_fix hn hp
  unfold M_sp1
  rw [M_spread_eq, rounds_split _ hp hn.1]
  have h2 : S1 (T_spread σ) (itr M_rnd (σ.1 20 0 - 1) 0 (M_spr0 μ 4782969)) := h1
  rw [M_fix]
  · exact h2
  · intro e he
    rw [← h2.1.2.1] at he
    have hb : B0 (T_spread σ) := (round_i (σ.1 20 0 - 1) 1 _ b).1
    obtain ⟨a1, a2, _⟩ := hb.1.2.2 e he
    obtain ⟨n1, n2, _⟩ := h2.1.2.2 e he
    rw [n1, n2, ← h2.2.1 _ a1, ← h2.2.1 _ a2]
    exact hf e he
theorem spread_B0 {σ : TS} (hn : TNet σ) (hp : 0 < σ.1 20 0) : B0 (T_spread σ) := (round_i _ _ _ (sp_start hn hp).1).1
theorem spread2 {σ : TS} {μ : MS} (hn : TNet σ) (hp : 0 < σ.1 20 0) (h : NR σ μ) {Dv : Nat} (hD : Dv = (T_spread σ).1 4 0) : NR (T_spread σ) (M_spread μ Dv).1 ∧ ∀ n, n < σ.1 20 0 → (M_spread μ Dv).1.1 19 n = (T_spread σ).1 4 n := by
  obtain ⟨b, k, v, z⟩ := sp_start hn hp
  have hB := spread_B0 hn hp
  have hDp : 0 < Dv := by rw [hD]; exact hB.2.2
  have h0 : S2 Dv (itr T_sp0 (σ.1 20 0) 0 σ) (M_spr0 μ Dv) := by
    have ek : ∀ f j, f ≠ 24 → f ≠ 19 → (M_spr0 μ Dv).1.1 f j = μ.1 f j := fun f j h1 h2 => by rw [M_spr0_N, if_neg (by omega), if_neg (by omega), if_neg (by omega)]
    have h8 := hn.1
    refine ⟨h.same (fun f n hf => k f n (by omega)) (fun f n hf => ek f n (by omega) (by omega)), ?_⟩
    rw [k 20 0 (by decide), v 0 hp, if_pos rfl]
    intro n hn
    rw [v n hn, M_spr0_19 _ _ _ (by omega)]
    by_cases n0 : n = 0
    · rw [if_pos n0, if_pos n0]
    · rw [if_neg n0, if_neg n0]; omega
  have h1 := sync_rnd (S2_step hDp) (fun σ x h => h.1.2.1) (σ.1 20 0 - 1) 1 0 _ _ b h0 (by rw [hD]; exact Nat.dvd_refl _)
  have hf := spread_fix hn hp
  have h2 : S2 Dv (T_spread σ) (itr M_rnd (σ.1 20 0 - 1) 0 (M_spr0 μ Dv)) := h1
  have e20 : (T_spread σ).1 20 0 = σ.1 20 0 := T_spread_N σ 0 (by decide)
  rw [M_spread_eq, rounds_split _ hp hn.1, M_fix]
  · refine ⟨h2.1, fun n hn' => ?_⟩
    have q := h2.2 n (by rw [e20]; exact hn')
    rw [← hD] at q
    refine Nat.eq_of_mul_eq_mul_left hDp ?_
    rw [← q, Nat.mul_comm]
  · intro e he
    rw [← h2.1.2.1] at he
    obtain ⟨a1, a2, _⟩ := hB.1.2.2 e he
    obtain ⟨n1, n2, _⟩ := h2.1.2.2 e he
    rw [n1, n2, ← S2_zero hDp hB h2 _ a1, ← S2_zero hDp hB h2 _ a2]
    exact hf e he
