/-! ===== the reference's world: 21 cells; its memory by field number =====
N: 0 actors, 1 edges, 2 thrown, 15 planned, 24 divisors (index 0); 7 from, 8 to, 9 gives, 10 takes, 11 waiting, 13 first, 14 count, 16 plan, 17 repetition, 18 bound, 19 rate, 20 fired, 21 lying, 22 most, 23 trial
I: 3 kind, 4 number, 5 state, 6 latest, 12 row -/
abbrev MS : Type := (Nat → Nat → Nat) × (Nat → Nat → Int32)
def mN (μ : MS) (k n v : Nat) : MS := (up2 μ.1 k n v, μ.2)
def mI (μ : MS) (k n : Nat) (v : Int32) : MS := (μ.1, up2 μ.2 k n v)
def mO (bd : Nat → Nat) (μ : MS) : List Value := [.int (nI (μ.1 0 0)), .int (nI (μ.1 1 0)), .int (nI (μ.1 2 0)), .ref (bd 1), .ref (bd 2), .ref (bd 3), .ref (bd 4), .ref (bd 5), .ref (bd 6), .ref (bd 7), .ref (bd 8), .ref (bd 9), .ref (bd 10), .ref (bd 11), .ref (bd 12), .int (nI (μ.1 15 0)), .ref (bd 13), .ref (bd 14), .ref (bd 15), .ref (bd 16), .ref (bd 17), .ref (bd 18), .ref (bd 19), .ref (bd 20), .long (lN (μ.1 24 0))]
/-- the array of field k lies at the place mP k; of the place i, the field's number -/
def mP (k : Nat) : Nat := if k ≤ 14 then k - 2 else k - 3
def mF (i : Nat) : Nat := if i ≤ 12 then i + 2 else i + 3
/-- how long the array of field k is; 0: ints, 1: numbers, 2: longs -/
def mL (k : Nat) : Nat := if k = 12 then 10920 else if k = 16 ∨ k = 23 then 200 else if (3 ≤ k ∧ k ≤ 6) ∨ k = 17 ∨ k = 19 ∨ k = 20 then 8 else 12
def mK (k : Nat) : Nat := if (3 ≤ k ∧ k ≤ 6) ∨ k = 12 then 0 else if k = 19 then 2 else 1
def mE (cy : Nat → ClassId) (μ : MS) (k : Nat) : va_E :=
  if mK k = 0 then .inl (cy 0, mL k, .inl (μ.2 k)) else
  if mK k = 1 then .inl (cy 0, mL k, .inl (fun j => nI (μ.1 k j))) else .inl (cy 3, mL k, .inr (.inl (fun j => lN (μ.1 k j))))
def entM (cy : Nat → ClassId) (bd : Nat → Nat) (μ : MS) : Nat → va_E := fun i => if i = 0 then .inr (4, mO bd μ) else mE cy μ (mF i)
abbrev XM (D : va_G) (cy : Nat → ClassId) (bd : Nat → Nat) (s : State) (A : Nat → Prop) (H : Heap) (locs : List Loc) (μ : MS) : Prop := WX D (tyl cy) 21 bd (entM cy bd μ) s A H locs
def mA (k : Nat) : Prop := (3 ≤ k ∧ k ≤ 14) ∨ (16 ≤ k ∧ k ≤ 23)
theorem mF_mP {k : Nat} (h : mA k) : mF (mP k) = k ∧ mP k ≠ 0 ∧ mP k < 21 := by
  unfold mA at h
  unfold mF mP
  by_cases e : k ≤ 14
  · rw [if_pos e, if_pos (by omega)]; omega
  · rw [if_neg e, if_neg (by omega)]; omega
theorem mP_mF {i k : Nat} (h0 : i ≠ 0) (h1 : i < 21) (h : mF i = k) : i = mP k ∧ mA k := by
  unfold mF at h
  unfold mP mA
  by_cases e : i ≤ 12
  · rw [if_pos e] at h; rw [if_pos (by omega)]; omega
  · rw [if_neg e] at h; rw [if_neg (by omega)]; omega
theorem entM_arr (cy : Nat → ClassId) (bd : Nat → Nat) (μ : MS) {k : Nat} (h : mA k) : entM cy bd μ (mP k) = mE cy μ k := by
  obtain ⟨h1, h2, -⟩ := mF_mP h
  unfold entM
  rw [if_neg h2, h1]
theorem mE_mI (cy : Nat → ClassId) (μ : MS) (k k' n : Nat) (v : Int32) (h : k' ≠ k) : mE cy μ k' = mE cy (mI μ k n v) k' := by
  unfold mE mI
  dsimp only
  rw [show up2 μ.2 k n v k' = μ.2 k' from funext (fun j => up2_k _ _ _ _ h)]
theorem mE_mN (cy : Nat → ClassId) (μ : MS) (k k' n v : Nat) (h : k' ≠ k) : mE cy μ k' = mE cy (mN μ k n v) k' := by
  unfold mE mN
  dsimp only
  rw [show up2 μ.1 k n v k' = μ.1 k' from funext (fun j => up2_k _ _ _ _ h)]
theorem mO_mN (bd : Nat → Nat) (μ : MS) {k : Nat} (n v : Nat) (h : mA k) : mO bd μ = mO bd (mN μ k n v) := by
  unfold mA at h
  unfold mO mN
  dsimp only
  rw [up2_k _ _ _ _ (by omega), up2_k _ _ _ _ (by omega), up2_k _ _ _ _ (by omega), up2_k _ _ _ _ (by omega), up2_k _ _ _ _ (by omega)]
section MRows
variable {p : Program} {l : Launch} {e : Env} {R : Room} {s : State} {m : MethodId} {args : Array Value} {below : List Frame} {meth : Method} {c : Code} {H : Heap} {locs : List Loc} {cells slots : Nat} {Q : State → Prop}
variable {cc : ByteArray} {pc : Nat} {ls : Array Slot} {rest : List Value} {D : va_G} {cy : Nat → ClassId} {bd : Nat → Nat} {μ : MS} {A : Nat → Prop} {own : String}
theorem m_g (hx : p.tables.exec = Jvm.exec) (hb : c.code = cc) (hU : ∀ w ∈ UW, w.before args s = true) (hown : s.vm.findClass own = some m.cls) (h : XM D cy bd s A H locs μ) (k : Nat) (hk : k < 25) {idx : Nat} (hl : Cond.fieldLink own idx RX4 (TX4 k).2.1 (TX4 k).2.2.1 ∈ UW) {v : Value} (hv : (mO bd μ)[k]? = some v) (hdg : decode cc pc = .ok (.getfield idx, 3))
    (kk : W p l e R s m args below meth c H locs cells slots Q (F0 m (pc + 3) ls (v :: rest))) : W p l e R s m args below meth c H locs cells slots Q (F0 m pc ls (.ref (bd 0) :: rest)) :=
  x_get hx hb hU hown h (i := 0) (by decide) rfl rfl iuX4 tx4_1 k hk hl hv hdg kk
theorem m_p (hx : p.tables.exec = Jvm.exec) (hb : c.code = cc) (hU : ∀ w ∈ UW, w.before args s = true) (hown : s.vm.findClass own = some m.cls) (h : XM D cy bd s A H locs μ) (k : Nat) (hk : k < 3 ∨ k = 15) {idx : Nat} (hl : Cond.fieldLink own idx RX4 (TX4 k).2.1 (TX4 k).2.2.1 ∈ UW) {v : Nat} (hdg : decode cc pc = .ok (.putfield idx, 3))
    (kk : ∀ (H : Heap) (locs : List Loc), XM D cy bd s A H locs (mN μ k 0 v) → W p l e R s m args below meth c H locs cells slots Q (F0 m (pc + 3) ls rest)) : W p l e R s m args below meth c H locs cells slots Q (F0 m pc ls (.int (nI v) :: .ref (bd 0) :: rest)) := by
  have hn : ∀ k, k < 3 ∨ k = 15 → ¬ mA k := fun k hk => by unfold mA; omega
  have e2 : ∀ k, (k < 3 ∨ k = 15) → ∀ j, j < 21 → j ≠ 0 → entM cy bd μ j = entM cy bd (mN μ k 0 v) j := fun k hk j hj h0 => by
    unfold entM
    rw [if_neg h0, if_neg h0]
    exact mE_mN cy μ k _ 0 v (fun q => hn k hk ((mP_mF h0 hj q).2))
  rcases (show k = 0 ∨ k = 1 ∨ k = 2 ∨ k = 15 by omega) with rfl | rfl | rfl | rfl
  all_goals exact x_put hx hb hU hown h (i := 0) (by decide) rfl rfl iuX4 tx4_1 tyX4 tyX4_ok nmX4 _ (by decide) hl rfl rfl rfl (by simp [mO]) (ent' := entM cy bd (mN μ _ 0 v)) (by simp [entM, mO, mN, up2]) (e2 _ hk) hdg kk
theorem m_pL (hx : p.tables.exec = Jvm.exec) (hb : c.code = cc) (hU : ∀ w ∈ UW, w.before args s = true) (hown : s.vm.findClass own = some m.cls) (h : XM D cy bd s A H locs μ) {idx : Nat} (hl : Cond.fieldLink own idx RX4 (TX4 24).2.1 (TX4 24).2.2.1 ∈ UW) {v : Nat} (hdg : decode cc pc = .ok (.putfield idx, 3))
    (kk : ∀ (H : Heap) (locs : List Loc), XM D cy bd s A H locs (mN μ 24 0 v) → W p l e R s m args below meth c H locs cells slots Q (F0 m (pc + 3) ls rest)) : W p l e R s m args below meth c H locs cells slots Q (F0 m pc ls (.long (lN v) :: .ref (bd 0) :: rest)) :=
  x_put hx hb hU hown h (i := 0) (by decide) rfl rfl iuX4 tx4_1 tyX4 tyX4_ok nmX4 24 (by decide) hl rfl rfl rfl (by simp [mO]) (ent' := entM cy bd (mN μ 24 0 v)) (by simp [entM, mO, mN, up2]) (fun j hj h0 => by
    unfold entM
    rw [if_neg h0, if_neg h0]
    exact mE_mN cy μ 24 _ 0 v (fun q => by have := (mP_mF h0 hj q).2; unfold mA at this; omega)) hdg kk
theorem m_iI (hx : p.tables.exec = Jvm.exec) (hb : c.code = cc) (h : XM D cy bd s A H locs μ) (k N : Nat) (hk : mK k = 0) (hN : mL k = N) {j : Nat} (hj : j < N) {v : Int32} (hv : μ.2 k j = v) (hdg : decode cc pc = .ok (.iaload, 1))
    (kk : W p l e R s m args below meth c H locs cells slots Q (F0 m (pc + 1) ls (.int v :: rest))) : W p l e R s m args below meth c H locs cells slots Q (F0 m pc ls (.int (nI j) :: .ref (bd (mP k)) :: rest)) := by
  have ha : mA k := by unfold mK at hk; unfold mA; split at hk <;> first | omega | (split at hk <;> omega)
  exact x_iald hx hb h (i := mP k) (t0 := 0) (N := mL k) (mF_mP ha).2.2 (by rw [entM_arr cy bd μ ha, mE, if_pos hk]) rfl (by omega) (by unfold mL; split <;> (try split) <;> (try split) <;> decide) hv hdg kk
theorem m_iN (hx : p.tables.exec = Jvm.exec) (hb : c.code = cc) (h : XM D cy bd s A H locs μ) (k N : Nat) (hk : mK k = 1 ∧ mA k) (hN : mL k = N) {j : Nat} (hj : j < N) {v : Nat} (hv : μ.1 k j = v) (hdg : decode cc pc = .ok (.iaload, 1))
    (kk : W p l e R s m args below meth c H locs cells slots Q (F0 m (pc + 1) ls (.int (nI v) :: rest))) : W p l e R s m args below meth c H locs cells slots Q (F0 m pc ls (.int (nI j) :: .ref (bd (mP k)) :: rest)) :=
  x_iald hx hb h (i := mP k) (t0 := 0) (N := mL k) (mF_mP hk.2).2.2 (by rw [entM_arr cy bd μ hk.2, mE, if_neg (by omega), if_pos hk.1]) rfl (by omega) (by unfold mL; split <;> (try split) <;> (try split) <;> decide) (by rw [hv]) hdg kk
theorem m_iL (hx : p.tables.exec = Jvm.exec) (hb : c.code = cc) (h : XM D cy bd s A H locs μ) {j : Nat} (hj : j < 8) {v : Nat} (hv : μ.1 19 j = v) (hdg : decode cc pc = .ok (.laload, 1))
    (kk : W p l e R s m args below meth c H locs cells slots Q (F0 m (pc + 1) ls (.long (lN v) :: rest))) : W p l e R s m args below meth c H locs cells slots Q (F0 m pc ls (.int (nI j) :: .ref (bd 16) :: rest)) :=
  x_lald hx hb h (i := 16) (t0 := 3) (N := 8) (by decide) rfl rfl hj (by decide) (by show lN (μ.1 19 j) = lN v; rw [hv]) hdg kk
theorem m_sI (hx : p.tables.exec = Jvm.exec) (hb : c.code = cc) (h : XM D cy bd s A H locs μ) (k N : Nat) (hk : mK k = 0) (hN : mL k = N) {j : Nat} {v : Int32} (hj : j < N) (hdg : decode cc pc = .ok (.iastore, 1))
    (kk : ∀ (H : Heap) (locs : List Loc), XM D cy bd s A H locs (mI μ k j v) → W p l e R s m args below meth c H locs cells slots Q (F0 m (pc + 1) ls rest)) : W p l e R s m args below meth c H locs cells slots Q (F0 m pc ls (.int v :: .int (nI j) :: .ref (bd (mP k)) :: rest)) := by
  have ha : mA k := by unfold mK at hk; unfold mA; split at hk <;> first | omega | (split at hk <;> omega)
  refine x_iast hx hb h (i := mP k) (t0 := 0) (N := mL k) (mF_mP ha).2.2 (by rw [entM_arr cy bd μ ha, mE, if_pos hk]) rfl (by omega) (by unfold mL; split <;> (try split) <;> (try split) <;> decide) (ent' := entM cy bd (mI μ k j v)) ?_ (fun i hi h0 => ?_) hdg kk
  · rw [entM_arr cy bd _ ha, mE, if_pos hk]
    show Sum.inl (cy 0, mL k, Sum.inl (up2 μ.2 k j v k)) = _
    congr 4; funext i; simp only [up2, upd, true_and]
  · unfold entM
    by_cases e0 : i = 0
    · rw [if_pos e0, if_pos e0]; rfl
    · rw [if_neg e0, if_neg e0]
      exact mE_mI cy μ k _ j v (fun q => h0 (mP_mF e0 hi q).1)
theorem m_sN (hx : p.tables.exec = Jvm.exec) (hb : c.code = cc) (h : XM D cy bd s A H locs μ) (k N : Nat) (hk : mK k = 1 ∧ mA k) (hN : mL k = N) {j v : Nat} (hj : j < N) (hdg : decode cc pc = .ok (.iastore, 1))
    (kk : ∀ (H : Heap) (locs : List Loc), XM D cy bd s A H locs (mN μ k j v) → W p l e R s m args below meth c H locs cells slots Q (F0 m (pc + 1) ls rest)) : W p l e R s m args below meth c H locs cells slots Q (F0 m pc ls (.int (nI v) :: .int (nI j) :: .ref (bd (mP k)) :: rest)) := by
  refine x_iast hx hb h (i := mP k) (t0 := 0) (N := mL k) (mF_mP hk.2).2.2 (by rw [entM_arr cy bd μ hk.2, mE, if_neg (by omega), if_pos hk.1]) rfl (by omega) (by unfold mL; split <;> (try split) <;> (try split) <;> decide) (ent' := entM cy bd (mN μ k j v)) ?_ (fun i hi h0 => ?_) hdg kk
  · rw [entM_arr cy bd _ hk.2, mE, if_neg (by omega), if_pos hk.1]
    show Sum.inl (cy 0, mL k, Sum.inl (fun i => nI (up2 μ.1 k j v k i))) = _
    congr 4; funext i; simp only [up2, upd, true_and]; split <;> rfl
  · unfold entM
    by_cases e0 : i = 0
    · rw [if_pos e0, if_pos e0, mO_mN bd μ j v hk.2]
    · rw [if_neg e0, if_neg e0]
      exact mE_mN cy μ k _ j v (fun q => h0 (mP_mF e0 hi q).1)
theorem m_sL (hx : p.tables.exec = Jvm.exec) (hb : c.code = cc) (h : XM D cy bd s A H locs μ) {j v : Nat} (hj : j < 8) (hdg : decode cc pc = .ok (.lastore, 1))
    (kk : ∀ (H : Heap) (locs : List Loc), XM D cy bd s A H locs (mN μ 19 j v) → W p l e R s m args below meth c H locs cells slots Q (F0 m (pc + 1) ls rest)) : W p l e R s m args below meth c H locs cells slots Q (F0 m pc ls (.long (lN v) :: .int (nI j) :: .ref (bd 16) :: rest)) := by
  refine x_last hx hb h (i := 16) (t0 := 3) (N := 8) (by decide) rfl rfl hj (by decide) (ent' := entM cy bd (mN μ 19 j v)) ?_ (fun i hi h0 => ?_) hdg kk
  · show Sum.inl (cy 3, 8, Sum.inr (Sum.inl (fun i => lN (up2 μ.1 19 j v 19 i)))) = _
    congr 5; funext i; simp only [up2, vp_updL, true_and]; split <;> rfl
  · unfold entM
    by_cases e0 : i = 0
    · rw [if_pos e0, if_pos e0, mO_mN (k := 19) bd μ j v (by unfold mA; omega)]
    · rw [if_neg e0, if_neg e0]
      exact mE_mN cy μ 19 _ j v (fun q => h0 (mP_mF e0 hi q).1)
theorem m_recv (h : XM D cy bd s A H locs μ) : ∃ cell : Cell, H[bd 0]? = some cell ∧ cell.vm.isStatics = false ∧ s.vm.findClass RX4 = some cell.cls :=
  h.recv (i := 0) (by decide) (fs := mO bd μ) rfl (q := (RX4, TX4, 25)) rfl
end MRows
abbrev MMv (l : Launch) (D : va_G) (cy : Nat → ClassId) (bd : Nat → Nat) (y : MethodName) (cc : ByteArray) (maxL : Nat) (rm : Room) (av : List Value) (μ : MS) (sz : Nat) (post : MS → Prop) : Prop :=
  Met l y (Cond.code y cc maxL none :: UW) rm (va_Pc av (preW D (tyl cy) 21 bd (entM cy bd μ) sz)) (va_Qv post (fun u => atW D (tyl cy) 21 bd (entM cy bd u) (va_A (wv 21 bd (entM cy bd μ)) sz)) (va_A (wv 21 bd (entM cy bd μ)) sz)) rm.cells rm.slots (va_A (wv 21 bd (entM cy bd μ)) sz)
abbrev MMi (l : Launch) (D : va_G) (cy : Nat → ClassId) (bd : Nat → Nat) (y : MethodName) (cc : ByteArray) (maxL : Nat) (ret : FieldType) (rm : Room) (av : List Value) (μ : MS) (sz : Nat) (post : Int32 → MS → Prop) : Prop :=
  Met l y (Cond.code y cc maxL (some ret) :: UW) rm (va_Pc av (preW D (tyl cy) 21 bd (entM cy bd μ) sz)) (va_Qi post (fun u => atW D (tyl cy) 21 bd (entM cy bd u) (va_A (wv 21 bd (entM cy bd μ)) sz)) (va_A (wv 21 bd (entM cy bd μ)) sz)) rm.cells rm.slots (va_A (wv 21 bd (entM cy bd μ)) sz)
abbrev MMl (l : Launch) (D : va_G) (cy : Nat → ClassId) (bd : Nat → Nat) (y : MethodName) (cc : ByteArray) (maxL : Nat) (rm : Room) (av : List Value) (μ : MS) (sz : Nat) (post : Int64 → MS → Prop) : Prop :=
  Met l y (Cond.code y cc maxL (some .long) :: UW) rm (va_Pc av (preW D (tyl cy) 21 bd (entM cy bd μ) sz)) (va_Ql post (fun u => atW D (tyl cy) 21 bd (entM cy bd u) (va_A (wv 21 bd (entM cy bd μ)) sz)) (va_A (wv 21 bd (entM cy bd μ)) sz)) rm.cells rm.slots (va_A (wv 21 bd (entM cy bd μ)) sz)
