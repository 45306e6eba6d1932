/-! ===== the class's rows: a field, an element, read and written ===== -/
section TRows
variable {p : Program} {l : Launch} {e : Env} {R : Room} {s : State} {m : MethodId} {args : Array Value} {below : List Frame} {meth : Method} {c : Code} {H : Heap} {locs : List Loc} {cells slots : Nat} {Q : State → Prop}
variable {cc : ByteArray} {pc : Nat} {ls : Array Slot} {rest : List Value} {D : va_G} {cy : Nat → ClassId} {ad : Nat → Nat} {σ : TS} {A : Nat → Prop} {own : String}
theorem t_gM (hx : p.tables.exec = Jvm.exec) (hb : c.code = cc) (hU : ∀ w ∈ UW, w.before args s = true) (hown : s.vm.findClass own = some m.cls) (h : XT D cy ad s A H locs σ) (k : Nat) (hk : k < 7) {idx : Nat} (hl : Cond.fieldLink own idx RX3 (TX3 k).2.1 (TX3 k).2.2.1 ∈ UW) {v : Value} (hv : (fM ad σ)[k]? = some v) (hdg : decode cc pc = .ok (.getfield idx, 3))
    (kk : W p l e R s m args below meth c H locs cells slots Q (F0 m (pc + 3) ls (v :: rest))) : W p l e R s m args below meth c H locs cells slots Q (F0 m pc ls (.ref (ad 0) :: rest)) :=
  x_get hx hb hU hown h (i := 0) (by decide) rfl rfl iuX3 tx3_1 k hk hl hv hdg kk
theorem t_gK (hx : p.tables.exec = Jvm.exec) (hb : c.code = cc) (hU : ∀ w ∈ UW, w.before args s = true) (hown : s.vm.findClass own = some m.cls) (h : XT D cy ad s A H locs σ) (k : Nat) (hk : k < 4) {idx : Nat} (hl : Cond.fieldLink own idx RX2 (TX2 k).2.1 (TX2 k).2.2.1 ∈ UW) {v : Value} (hv : (fK σ)[k]? = some v) (hdg : decode cc pc = .ok (.getfield idx, 3))
    (kk : W p l e R s m args below meth c H locs cells slots Q (F0 m (pc + 3) ls (v :: rest))) : W p l e R s m args below meth c H locs cells slots Q (F0 m pc ls (.ref (ad 4) :: rest)) :=
  x_get hx hb hU hown h (i := 4) (by decide) rfl rfl iuX2 tx2_1 k hk hl hv hdg kk
theorem t_gA (hx : p.tables.exec = Jvm.exec) (hb : c.code = cc) (hU : ∀ w ∈ UW, w.before args s = true) (hown : s.vm.findClass own = some m.cls) (h : XT D cy ad s A H locs σ) {n : Nat} (hn : n < 8) (k : Nat) (hk : k < 6) {idx : Nat} (hl : Cond.fieldLink own idx RX0 (TX0 k).2.1 (TX0 k).2.2.1 ∈ UW) {v : Value} (hv : (fA σ n)[k]? = some v) (hdg : decode cc pc = .ok (.getfield idx, 3))
    (kk : W p l e R s m args below meth c H locs cells slots Q (F0 m (pc + 3) ls (v :: rest))) : W p l e R s m args below meth c H locs cells slots Q (F0 m pc ls (.ref (ad (5 + n)) :: rest)) := by
  rw [← adrT_A ad σ hn]
  exact x_get hx hb hU hown h (i := 5 + n) (by omega) (entT_A cy ad σ hn) rfl iuX0 tx0_1 k hk hl hv hdg kk
theorem t_gE (hx : p.tables.exec = Jvm.exec) (hb : c.code = cc) (hU : ∀ w ∈ UW, w.before args s = true) (hown : s.vm.findClass own = some m.cls) (h : XT D cy ad s A H locs σ) {n : Nat} (hn : n < 12) (k : Nat) (hk : k < 10) {idx : Nat} (hl : Cond.fieldLink own idx RX1 (TX1 k).2.1 (TX1 k).2.2.1 ∈ UW) {v : Value} (hv : (fE σ n)[k]? = some v) (hdg : decode cc pc = .ok (.getfield idx, 3))
    (kk : W p l e R s m args below meth c H locs cells slots Q (F0 m (pc + 3) ls (v :: rest))) : W p l e R s m args below meth c H locs cells slots Q (F0 m pc ls (.ref (ad (13 + n)) :: rest)) := by
  rw [← adrT_E ad σ hn]
  exact x_get hx hb hU hown h (i := 13 + n) (by omega) (entT_E cy ad σ hn) rfl iuX1 tx1_1 k hk hl hv hdg kk
theorem t_pM (hx : p.tables.exec = Jvm.exec) (hb : c.code = cc) (hU : ∀ w ∈ UW, w.before args s = true) (hown : s.vm.findClass own = some m.cls) (h : XT D cy ad s A H locs σ) (k : Nat) (hk : 4 ≤ k ∧ k < 7) {idx : Nat} (hl : Cond.fieldLink own idx RX3 (TX3 k).2.1 (TX3 k).2.2.1 ∈ UW) {v : Nat} (hdg : decode cc pc = .ok (.putfield idx, 3))
    (kk : ∀ (H : Heap) (locs : List Loc), XT D cy ad s A H locs (sN σ (16 + k) 0 v) → W p l e R s m args below meth c H locs cells slots Q (F0 m (pc + 3) ls rest)) : W p l e R s m args below meth c H locs cells slots Q (F0 m pc ls (.int (nI v) :: .ref (ad 0) :: rest)) := by
  rcases (show k = 4 ∨ k = 5 ∨ k = 6 by omega) with rfl | rfl | rfl
  all_goals exact x_put hx hb hU hown h (i := 0) (by decide) rfl rfl iuX3 tx3_1 tyX3 tyX3_ok nmX3 _ (by decide) hl rfl rfl rfl (by simp [fM]) (ent' := entT cy ad (sN σ _ 0 v)) (by simp [entT, fM, sN, up2]) (fun j hj h0 => entT_sN j (fun e => absurd e h0) (by omega) (by omega) (by omega) (by omega) (by omega)) hdg kk
theorem t_pA (hx : p.tables.exec = Jvm.exec) (hb : c.code = cc) (hU : ∀ w ∈ UW, w.before args s = true) (hown : s.vm.findClass own = some m.cls) (h : XT D cy ad s A H locs σ) {n : Nat} (hn : n < 8) (k : Nat) (hk : k < 4) {idx : Nat} (hl : Cond.fieldLink own idx RX0 (TX0 k).2.1 (TX0 k).2.2.1 ∈ UW) {v : Int32} (hdg : decode cc pc = .ok (.putfield idx, 3))
    (kk : ∀ (H : Heap) (locs : List Loc), XT D cy ad s A H locs (sI σ k n v) → W p l e R s m args below meth c H locs cells slots Q (F0 m (pc + 3) ls rest)) : W p l e R s m args below meth c H locs cells slots Q (F0 m pc ls (.int v :: .ref (ad (5 + n)) :: rest)) := by
  rw [← adrT_A ad σ hn]
  rcases (show k = 0 ∨ k = 1 ∨ k = 2 ∨ k = 3 by omega) with rfl | rfl | rfl | rfl
  all_goals exact x_put hx hb hU hown h (i := 5 + n) (by omega) (entT_A cy ad σ hn) rfl iuX0 tx0_1 tyX0 tyX0_ok nmX0 _ (by decide) hl rfl rfl rfl (by simp [fA]) (ent' := entT cy ad (sI σ _ n v)) (by rw [entT_A cy ad _ hn]; simp [fA, sI, up2]) (fun j hj h0 => entT_sI j (by omega) (by omega) (by omega)) hdg kk
theorem t_pA4 (hx : p.tables.exec = Jvm.exec) (hb : c.code = cc) (hU : ∀ w ∈ UW, w.before args s = true) (hown : s.vm.findClass own = some m.cls) (h : XT D cy ad s A H locs σ) {n : Nat} (hn : n < 8) {idx : Nat} (hl : Cond.fieldLink own idx RX0 (TX0 4).2.1 (TX0 4).2.2.1 ∈ UW) {v : Nat} (hdg : decode cc pc = .ok (.putfield idx, 3))
    (kk : ∀ (H : Heap) (locs : List Loc), XT D cy ad s A H locs (sN σ 4 n v) → W p l e R s m args below meth c H locs cells slots Q (F0 m (pc + 3) ls rest)) : W p l e R s m args below meth c H locs cells slots Q (F0 m pc ls (.long (lN v) :: .ref (ad (5 + n)) :: rest)) := by
  rw [← adrT_A ad σ hn]
  exact x_put hx hb hU hown h (i := 5 + n) (by omega) (entT_A cy ad σ hn) rfl iuX0 tx0_1 tyX0 tyX0_ok nmX0 4 (by decide) hl rfl rfl rfl (by simp [fA]) (ent' := entT cy ad (sN σ 4 n v)) (by rw [entT_A cy ad _ hn]; simp [fA, sN, up2]) (fun j hj h0 => entT_sN j (by omega) (by omega) (by omega) (by omega) (by omega) (by omega)) hdg kk
theorem t_pA5 (hx : p.tables.exec = Jvm.exec) (hb : c.code = cc) (hU : ∀ w ∈ UW, w.before args s = true) (hown : s.vm.findClass own = some m.cls) (h : XT D cy ad s A H locs σ) {n : Nat} (hn : n < 8) {idx : Nat} (hl : Cond.fieldLink own idx RX0 (TX0 5).2.1 (TX0 5).2.2.1 ∈ UW) {v : Nat} (hdg : decode cc pc = .ok (.putfield idx, 3))
    (kk : ∀ (H : Heap) (locs : List Loc), XT D cy ad s A H locs (sN σ 5 n v) → W p l e R s m args below meth c H locs cells slots Q (F0 m (pc + 3) ls rest)) : W p l e R s m args below meth c H locs cells slots Q (F0 m pc ls (.int (nI v) :: .ref (ad (5 + n)) :: rest)) := by
  rw [← adrT_A ad σ hn]
  exact x_put hx hb hU hown h (i := 5 + n) (by omega) (entT_A cy ad σ hn) rfl iuX0 tx0_1 tyX0 tyX0_ok nmX0 5 (by decide) hl rfl rfl rfl (by simp [fA]) (ent' := entT cy ad (sN σ 5 n v)) (by rw [entT_A cy ad _ hn]; simp [fA, sN, up2]) (fun j hj h0 => entT_sN j (by omega) (by omega) (by omega) (by omega) (by omega) (by omega)) hdg kk
theorem t_pE (hx : p.tables.exec = Jvm.exec) (hb : c.code = cc) (hU : ∀ w ∈ UW, w.before args s = true) (hown : s.vm.findClass own = some m.cls) (h : XT D cy ad s A H locs σ) {n : Nat} (hn : n < 12) (k : Nat) (hk : k < 10 ∧ k ≠ 7) {idx : Nat} (hl : Cond.fieldLink own idx RX1 (TX1 k).2.1 (TX1 k).2.2.1 ∈ UW) {v : Nat} (hdg : decode cc pc = .ok (.putfield idx, 3))
    (kk : ∀ (H : Heap) (locs : List Loc), XT D cy ad s A H locs (sN σ (10 + k) n v) → W p l e R s m args below meth c H locs cells slots Q (F0 m (pc + 3) ls rest)) : W p l e R s m args below meth c H locs cells slots Q (F0 m pc ls (.int (nI v) :: .ref (ad (13 + n)) :: rest)) := by
  rw [← adrT_E ad σ hn]
  rcases (show k = 0 ∨ k = 1 ∨ k = 2 ∨ k = 3 ∨ k = 4 ∨ k = 5 ∨ k = 6 ∨ k = 8 ∨ k = 9 by omega) with rfl | rfl | rfl | rfl | rfl | rfl | rfl | rfl | rfl
  all_goals exact x_put hx hb hU hown h (i := 13 + n) (by omega) (entT_E cy ad σ hn) rfl iuX1 tx1_1 tyX1 tyX1_ok nmX1 _ (by decide) hl rfl rfl rfl (by simp [fE]) (ent' := entT cy ad (sN σ _ n v)) (by rw [entT_E cy ad _ hn]; simp [fE, sN, up2]) (fun j hj h0 => entT_sN j (by omega) (by omega) (by omega) (by omega) (by omega) (by omega)) hdg kk
theorem t_pK0 (hx : p.tables.exec = Jvm.exec) (hb : c.code = cc) (hU : ∀ w ∈ UW, w.before args s = true) (hown : s.vm.findClass own = some m.cls) (h : XT D cy ad s A H locs σ) {idx : Nat} (hl : Cond.fieldLink own idx RX2 (TX2 0).2.1 (TX2 0).2.2.1 ∈ UW) {v : Nat} (hdg : decode cc pc = .ok (.putfield idx, 3))
    (kk : ∀ (H : Heap) (locs : List Loc), XT D cy ad s A H locs (sN σ 30 0 v) → W p l e R s m args below meth c H locs cells slots Q (F0 m (pc + 3) ls rest)) : W p l e R s m args below meth c H locs cells slots Q (F0 m pc ls (.int (nI v) :: .ref (ad 4) :: rest)) :=
  x_put hx hb hU hown h (i := 4) (by decide) rfl rfl iuX2 tx2_1 tyX2 tyX2_ok nmX2 0 (by decide) hl rfl rfl rfl (by simp [fK]) (ent' := entT cy ad (sN σ 30 0 v)) (by simp [entT, fK, sN, up2]) (fun j hj h0 => entT_sN j (by omega) (by omega) (fun e => absurd e h0) (by omega) (by omega) (by omega)) hdg kk
theorem t_pK (hx : p.tables.exec = Jvm.exec) (hb : c.code = cc) (hU : ∀ w ∈ UW, w.before args s = true) (hown : s.vm.findClass own = some m.cls) (h : XT D cy ad s A H locs σ) (k : Nat) (hk : 1 ≤ k ∧ k < 4) {idx : Nat} (hl : Cond.fieldLink own idx RX2 (TX2 k).2.1 (TX2 k).2.2.1 ∈ UW) {v : Int32} (hdg : decode cc pc = .ok (.putfield idx, 3))
    (kk : ∀ (H : Heap) (locs : List Loc), XT D cy ad s A H locs (sI σ (30 + k) 0 v) → W p l e R s m args below meth c H locs cells slots Q (F0 m (pc + 3) ls rest)) : W p l e R s m args below meth c H locs cells slots Q (F0 m pc ls (.int v :: .ref (ad 4) :: rest)) := by
  rcases (show k = 1 ∨ k = 2 ∨ k = 3 by omega) with rfl | rfl | rfl
  all_goals exact x_put hx hb hU hown h (i := 4) (by decide) rfl rfl iuX2 tx2_1 tyX2 tyX2_ok nmX2 _ (by decide) hl rfl rfl rfl (by simp [fK]) (ent' := entT cy ad (sI σ _ 0 v)) (by simp [entT, fK, sI, up2]) (fun j hj h0 => entT_sI j (fun e => absurd e h0) (by omega) (by omega)) hdg kk
theorem t_aA (hx : p.tables.exec = Jvm.exec) (hb : c.code = cc) (h : XT D cy ad s A H locs σ) {n : Nat} (hn : n < 8) (hdg : decode cc pc = .ok (.aaload, 1))
    (kk : W p l e R s m args below meth c H locs cells slots Q (F0 m (pc + 1) ls (.ref (ad (5 + n)) :: rest))) : W p l e R s m args below meth c H locs cells slots Q (F0 m pc ls (.int (nI n) :: .ref (ad 1) :: rest)) :=
  x_aald hx hb h (i := 1) (t0 := 1) (by decide) rfl rfl hn (by decide) rfl hdg kk
theorem t_aE (hx : p.tables.exec = Jvm.exec) (hb : c.code = cc) (h : XT D cy ad s A H locs σ) {n : Nat} (hn : n < 12) (hdg : decode cc pc = .ok (.aaload, 1))
    (kk : W p l e R s m args below meth c H locs cells slots Q (F0 m (pc + 1) ls (.ref (ad (13 + n)) :: rest))) : W p l e R s m args below meth c H locs cells slots Q (F0 m pc ls (.int (nI n) :: .ref (ad 2) :: rest)) :=
  x_aald hx hb h (i := 2) (t0 := 2) (by decide) rfl rfl hn (by decide) rfl hdg kk
theorem t_iF (hx : p.tables.exec = Jvm.exec) (hb : c.code = cc) (h : XT D cy ad s A H locs σ) {j : Nat} (hj : j < 200) (hdg : decode cc pc = .ok (.iaload, 1))
    (kk : W p l e R s m args below meth c H locs cells slots Q (F0 m (pc + 1) ls (.int (nI (σ.1 23 j)) :: rest))) : W p l e R s m args below meth c H locs cells slots Q (F0 m pc ls (.int (nI j) :: .ref (ad 3) :: rest)) :=
  x_iald hx hb h (i := 3) (t0 := 0) (by decide) rfl rfl hj (by decide) rfl hdg kk
theorem t_iR (hx : p.tables.exec = Jvm.exec) (hb : c.code = cc) (h : XT D cy ad s A H locs σ) {n j : Nat} (hn : n < 12) (hj : j < σ.1 17 n) (hL : σ.1 17 n < 2 ^ 31) (hdg : decode cc pc = .ok (.iaload, 1))
    (kk : W p l e R s m args below meth c H locs cells slots Q (F0 m (pc + 1) ls (.int (σ.2.1 (100 + n) j) :: rest))) : W p l e R s m args below meth c H locs cells slots Q (F0 m pc ls (.int (nI j) :: .ref (σ.2.2 n) :: rest)) := by
  rw [← adrT_R ad σ n]
  exact x_iald hx hb h (i := 25 + n) (t0 := 0) (by omega) (entT_R cy ad σ n) rfl hj hL rfl hdg kk
theorem t_lR (hx : p.tables.exec = Jvm.exec) (hb : c.code = cc) (h : XT D cy ad s A H locs σ) {n : Nat} (hn : n < 12) (hdg : decode cc pc = .ok (.arraylength, 1))
    (kk : W p l e R s m args below meth c H locs cells slots Q (F0 m (pc + 1) ls (.int (nI (σ.1 17 n)) :: rest))) : W p l e R s m args below meth c H locs cells slots Q (F0 m pc ls (.ref (σ.2.2 n) :: rest)) := by
  rw [← adrT_R ad σ n]
  exact x_alen hx hb h (i := 25 + n) (t0 := 0) (by omega) (entT_R cy ad σ n) rfl rfl hdg kk
theorem t_sF (hx : p.tables.exec = Jvm.exec) (hb : c.code = cc) (h : XT D cy ad s A H locs σ) {j v : Nat} (hj : j < 200) (hdg : decode cc pc = .ok (.iastore, 1))
    (kk : ∀ (H : Heap) (locs : List Loc), XT D cy ad s A H locs (sN σ 23 j v) → W p l e R s m args below meth c H locs cells slots Q (F0 m (pc + 1) ls rest)) : W p l e R s m args below meth c H locs cells slots Q (F0 m pc ls (.int (nI v) :: .int (nI j) :: .ref (ad 3) :: rest)) :=
  x_iast hx hb h (i := 3) (t0 := 0) (by decide) rfl rfl hj (by decide) (ent' := entT cy ad (sN σ 23 j v)) (by
    show Sum.inl (cy 0, 200, Sum.inl (fun i => nI (up2 σ.1 23 j v 23 i))) = _
    congr 4; funext i; simp only [up2, upd, true_and]; split <;> rfl) (fun j hj h0 => entT_sN j (by omega) (fun e => absurd e h0) (by omega) (by omega) (by omega) (by omega)) hdg kk
theorem t_sR (hx : p.tables.exec = Jvm.exec) (hb : c.code = cc) (h : XT D cy ad s A H locs σ) {n j : Nat} (hn : n < 12) {v : Int32} (hj : j < σ.1 17 n) (hL : σ.1 17 n < 2 ^ 31) (hdg : decode cc pc = .ok (.iastore, 1))
    (kk : ∀ (H : Heap) (locs : List Loc), XT D cy ad s A H locs (sI σ (100 + n) j v) → W p l e R s m args below meth c H locs cells slots Q (F0 m (pc + 1) ls rest)) : W p l e R s m args below meth c H locs cells slots Q (F0 m pc ls (.int v :: .int (nI j) :: .ref (σ.2.2 n) :: rest)) := by
  rw [← adrT_R ad σ n]
  exact x_iast hx hb h (i := 25 + n) (t0 := 0) (by omega) (entT_R cy ad σ n) rfl hj hL (ent' := entT cy ad (sI σ (100 + n) j v)) (by
    rw [entT_R]
    show Sum.inl (cy 0, σ.1 17 n, Sum.inl (up2 σ.2.1 (100 + n) j v (100 + n))) = _
    congr 4; funext i; simp only [up2, upd, true_and]) (fun j hj h0 => entT_sI j (by omega) (by omega) (by omega)) hdg kk
theorem t_recvA (h : XT D cy ad s A H locs σ) {n : Nat} (hn : n < 8) : ∃ cell : Cell, H[ad (5 + n)]? = some cell ∧ cell.vm.isStatics = false ∧ s.vm.findClass RX0 = some cell.cls := by
  have := h.recv (i := 5 + n) (by omega) (entT_A cy ad σ hn) (q := (RX0, TX0, 6)) rfl
  rw [adrT_A ad σ hn] at this
  exact this
theorem t_recvE (h : XT D cy ad s A H locs σ) {n : Nat} (hn : n < 12) : ∃ cell : Cell, H[ad (13 + n)]? = some cell ∧ cell.vm.isStatics = false ∧ s.vm.findClass RX1 = some cell.cls := by
  have := h.recv (i := 13 + n) (by omega) (entT_E cy ad σ hn) (q := (RX1, TX1, 10)) rfl
  rw [adrT_E ad σ hn] at this
  exact this
theorem t_recvK (h : XT D cy ad s A H locs σ) : ∃ cell : Cell, H[ad 4]? = some cell ∧ cell.vm.isStatics = false ∧ s.vm.findClass RX2 = some cell.cls :=
  h.recv (i := 4) (by decide) (fs := fK σ) rfl (q := (RX2, TX2, 4)) rfl
theorem t_recvM (h : XT D cy ad s A H locs σ) : ∃ cell : Cell, H[ad 0]? = some cell ∧ cell.vm.isStatics = false ∧ s.vm.findClass RX3 = some cell.cls :=
  h.recv (i := 0) (by decide) (fs := fM ad σ) rfl (q := (RX3, TX3, 7)) rfl
end TRows
/-! a contract over the class's world: the arguments av, the memory before σ, the answer and the memory behind -/
def T_A (cy : Nat → ClassId) (ad : Nat → Nat) (σ : TS) (sz : Nat) : Nat → Prop := va_A (wv 37 (adrT ad σ) (entT cy ad σ)) sz
def preT (D : va_G) (cy : Nat → ClassId) (ad : Nat → Nat) (σ : TS) (sz : Nat) : State → Prop := preW D (tyl cy) 37 (adrT ad σ) (entT cy ad σ) sz
def atT (D : va_G) (cy : Nat → ClassId) (ad : Nat → Nat) (A : Nat → Prop) (u : TS) : State → Prop := atW D (tyl cy) 37 (adrT ad u) (entT cy ad u) A
abbrev MTv (l : Launch) (D : va_G) (cy : Nat → ClassId) (ad : Nat → Nat) (y : MethodName) (cc : ByteArray) (maxL : Nat) (rm : Room) (av : List Value) (σ : TS) (sz : Nat) (post : TS → Prop) : Prop :=
  Met l y (Cond.code y cc maxL none :: UW) rm (va_Pc av (preW D (tyl cy) 37 (adrT ad σ) (entT cy ad σ) sz)) (va_Qv post (fun u => atW D (tyl cy) 37 (adrT ad u) (entT cy ad u) (va_A (wv 37 (adrT ad σ) (entT cy ad σ)) sz)) (va_A (wv 37 (adrT ad σ) (entT cy ad σ)) sz)) rm.cells rm.slots (va_A (wv 37 (adrT ad σ) (entT cy ad σ)) sz)
abbrev MTi (l : Launch) (D : va_G) (cy : Nat → ClassId) (ad : Nat → Nat) (y : MethodName) (cc : ByteArray) (maxL : Nat) (ret : FieldType) (rm : Room) (av : List Value) (σ : TS) (sz : Nat) (post : Int32 → TS → Prop) : Prop :=
  Met l y (Cond.code y cc maxL (some ret) :: UW) rm (va_Pc av (preW D (tyl cy) 37 (adrT ad σ) (entT cy ad σ) sz)) (va_Qi post (fun u => atW D (tyl cy) 37 (adrT ad u) (entT cy ad u) (va_A (wv 37 (adrT ad σ) (entT cy ad σ)) sz)) (va_A (wv 37 (adrT ad σ) (entT cy ad σ)) sz)) rm.cells rm.slots (va_A (wv 37 (adrT ad σ) (entT cy ad σ)) sz)
abbrev MTl (l : Launch) (D : va_G) (cy : Nat → ClassId) (ad : Nat → Nat) (y : MethodName) (cc : ByteArray) (maxL : Nat) (rm : Room) (av : List Value) (σ : TS) (sz : Nat) (post : Int64 → TS → Prop) : Prop :=
  Met l y (Cond.code y cc maxL (some .long) :: UW) rm (va_Pc av (preW D (tyl cy) 37 (adrT ad σ) (entT cy ad σ) sz)) (va_Ql post (fun u => atW D (tyl cy) 37 (adrT ad u) (entT cy ad u) (va_A (wv 37 (adrT ad σ) (entT cy ad σ)) sz)) (va_A (wv 37 (adrT ad σ) (entT cy ad σ)) sz)) rm.cells rm.slots (va_A (wv 37 (adrT ad σ) (entT cy ad σ)) sz)
abbrev rmd (d : Nat) : Room := { frames := d, cells := 0, slots := 0, locals := 32 * d }
