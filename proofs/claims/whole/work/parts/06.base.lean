/-! ===== the world as a row of cells by number; a memory of numbers by field and object ===== -/
def up2 {α : Type} (f : Nat → Nat → α) (k n : Nat) (v : α) : Nat → Nat → α := fun a b => if a = k ∧ b = n then v else f a b
theorem up2_eq {α : Type} (f : Nat → Nat → α) (k n : Nat) (v : α) : up2 f k n v k n = v := by simp [up2]
theorem up2_k {α : Type} (f : Nat → Nat → α) {k a : Nat} (n b : Nat) (v : α) (h : a ≠ k) : up2 f k n v a b = f a b := by simp [up2, h]
theorem up2_n {α : Type} (f : Nat → Nat → α) (k a : Nat) {n b : Nat} (v : α) (h : b ≠ n) : up2 f k n v a b = f a b := by simp [up2, h]
theorem up2_up2 {α : Type} (f : Nat → Nat → α) (k n : Nat) (v w : α) : up2 (up2 f k n v) k n w = up2 f k n w := by
  funext a b; simp only [up2]; split <;> rfl
theorem up2_self {α : Type} (f : Nat → Nat → α) (k n : Nat) : up2 f k n (f k n) = f := by
  funext a b; simp only [up2]; split
  · rename_i h; rw [h.1, h.2]
  · rfl
abbrev wv (n : Nat) (adr : Nat → Nat) (ent : Nat → va_E) : va_W := (List.range n).map (fun i => (adr i, ent i))
theorem wv_get {n i : Nat} {adr : Nat → Nat} {ent : Nat → va_E} (hi : i < n) : (wv n adr ent)[i]? = some (adr i, ent i) := by
  simp [wv, hi]
theorem wv_set {n i : Nat} {adr : Nat → Nat} {ent ent' : Nat → va_E} (h : ∀ j, j < n → j ≠ i → ent j = ent' j) : (wv n adr ent).set i (adr i, ent' i) = wv n adr ent' := by
  apply List.ext_getElem?
  intro j
  rw [List.getElem?_set]
  by_cases hji : i = j
  · subst hji
    by_cases hi : i < n
    · simp [wv, hi]
    · simp [wv, hi]
  · simp only [hji, if_false]
    by_cases hj : j < n
    · simp [wv, hj, h j hj (fun e => hji e.symm)]
    · simp [wv, hj]
/-- the cells as they are numbered, at the heap H; A: what may be written; since the start s nothing else has changed -/
def WX (D : va_G) (tys : List (ClassId × FieldType)) (n : Nat) (adr : Nat → Nat) (ent : Nat → va_E) (s : State) (A : Nat → Prop) (H : Heap) (locs : List Loc) : Prop :=
  va_K D vwCl tys s ∧ (∀ q, s.heap.size ≤ q → A q) ∧ va_P D vwCl (wv n adr ent) H ∧ va_D A (wv n adr ent) ∧ va_S A s.heap H locs
/-- a method's start and end over such a world -/
def preW (D : va_G) (tys : List (ClassId × FieldType)) (n : Nat) (adr : Nat → Nat) (ent : Nat → va_E) (sz : Nat) (U : State) : Prop :=
  U.heap.size = sz ∧ va_P D vwCl (wv n adr ent) U.heap ∧ va_K D vwCl tys U ∧ va_D (fun _ => True) (wv n adr ent)
def atW (D : va_G) (tys : List (ClassId × FieldType)) (n : Nat) (adr : Nat → Nat) (ent : Nat → va_E) (A : Nat → Prop) (t : State) : Prop :=
  va_P D vwCl (wv n adr ent) t.heap ∧ va_K D vwCl tys t ∧ va_D A (wv n adr ent)
theorem WX.start {D : va_G} {tys : List (ClassId × FieldType)} {n : Nat} {adr : Nat → Nat} {ent : Nat → va_E} {sz : Nat} {s : State} (h : preW D tys n adr ent sz s) : WX D tys n adr ent s (va_A (wv n adr ent) sz) s.heap [] := by
  obtain ⟨rfl, hP, hK, hD⟩ := h
  exact ⟨hK, fun q hq => Or.inr hq, hP, hD.self, va_S.rf⟩
theorem WX.at {D : va_G} {tys : List (ClassId × FieldType)} {n : Nat} {adr : Nat → Nat} {ent : Nat → va_E} {s t : State} {A : Nat → Prop} {H : Heap} {locs : List Loc} (h : WX D tys n adr ent s A H locs) (ht : t.heap = H) (hW : s.WarmedH t.vm) : atW D tys n adr ent A t :=
  ⟨by rw [ht]; exact h.2.2.1, va_K.moved hW.alike h.1, h.2.2.2.1⟩
theorem preW.blind {D : va_G} {tys : List (ClassId × FieldType)} {n : Nat} {adr : Nat → Nat} {ent : Nat → va_E} {sz : Nat} {av : List Value} : FrameBlind (va_Pc av (preW D tys n adr ent sz)) := by
  intro a U g mk q
  obtain ⟨q0, q1, qP, qK, qD⟩ := q
  exact ⟨q0, q1, qP, va_K.moved (u := U) (U := U.calling g mk a) (Vm.Alike.refl U.vm) qK, qD⟩
theorem WX.pre {D : va_G} {tys : List (ClassId × FieldType)} {n : Nat} {adr : Nat → Nat} {ent : Nat → va_E} {s : State} {A : Nat → Prop} {H : Heap} {locs : List Loc} (h : WX D tys n adr ent s A H locs) {av : List Value} (U : State) (hU : U.heap = H) (hW : s.WarmedH U.vm) : va_Pc av (preW D tys n adr ent H.size) av.toArray U :=
  ⟨rfl, by rw [hU], by rw [hU]; exact h.2.2.1, va_K.moved hW.alike h.1, h.2.2.2.1.weaken (fun _ _ _ _ => trivial)⟩
theorem WX.fr {D : va_G} {tys : List (ClassId × FieldType)} {n : Nat} {adr : Nat → Nat} {ent : Nat → va_E} {s : State} {A : Nat → Prop} {H : Heap} {locs : List Loc} (h : WX D tys n adr ent s A H locs) : ∀ q, va_A (wv n adr ent) H.size q → A q := by
  intro q hq
  rcases hq with ⟨k, e, hk⟩ | hq
  · exact h.2.2.2.1.2 k (q, e) hk
  · exact h.2.1 q (Nat.le_trans h.2.2.2.2.1 hq)
theorem WX.recv {D : va_G} {tys : List (ClassId × FieldType)} {n : Nat} {adr : Nat → Nat} {ent : Nat → va_E} {s : State} {A : Nat → Prop} {H : Heap} {locs : List Loc} (h : WX D tys n adr ent s A H locs) {i ci : Nat} {q : vw_C} {fs : List Value} (hi : i < n) (he : ent i = .inr (ci, fs)) (hc : vwCl[ci]? = some q) : ∃ cell : Cell, H[adr i]? = some cell ∧ cell.vm.isStatics = false ∧ s.vm.findClass q.1 = some cell.cls :=
  va_recv (q0 := i) (fs := fs) h.1 h.2.2.1 hc (by rw [wv_get hi, he])
section BaseRows
variable {p : Program} {l : Launch} {e : Env} {R : Room} {s : State} {m : MethodId} {args : Array Value} {below : List Frame} {meth : Method} {c : Code} {H : Heap} {locs : List Loc} {cells slots : Nat} {Q : State → Prop}
variable {cc : ByteArray} {pc : Nat} {ls : Array Slot} {rest : List Value} {D : va_G} {tys : List (ClassId × FieldType)} {n : Nat} {adr : Nat → Nat} {ent : Nat → va_E} {A : Nat → Prop} {own : String}
theorem x_get (hx : p.tables.exec = Jvm.exec) (hb : c.code = cc) (hU : ∀ w ∈ UW, w.before args s = true) (hown : s.vm.findClass own = some m.cls) (h : WX D tys n adr ent s A H locs) {Cn : String} {T : u_T} {N ci i : Nat} {fs : List Value} (hi : i < n) (he : ent i = .inr (ci, fs)) (hc : vwCl[ci]? = some (Cn, T, N)) (hin : ∀ w ∈ u_ws Cn T N, w ∈ UW) (hT : ∀ k, k < N → (T k).1 = Cn) (k : Nat) (hk : k < N) {idx : Nat} (hl : Cond.fieldLink own idx Cn (T k).2.1 (T k).2.2.1 ∈ UW) {v : Value} (hv : fs[k]? = some v) (hdg : decode cc pc = .ok (.getfield idx, 3))
    (kk : W p l e R s m args below meth c H locs cells slots Q (F0 m (pc + 3) ls (v :: rest))) : W p l e R s m args below meth c H locs cells slots Q (F0 m pc ls (.ref (adr i) :: rest)) :=
  va_get (ref := Cn) hx hb hU hin hown h.1 h.2.2.1 i (by rw [wv_get hi, he]) hc k hk (hU _ hl) (fun x h9 => by rw [hT k hk] at h9; exact h9) hv hdg kk
theorem x_put (hx : p.tables.exec = Jvm.exec) (hb : c.code = cc) (hU : ∀ w ∈ UW, w.before args s = true) (hown : s.vm.findClass own = some m.cls) (h : WX D tys n adr ent s A H locs) {Cn : String} {T : u_T} {N ci i : Nat} {fs : List Value} (hi : i < n) (he : ent i = .inr (ci, fs)) (hc : vwCl[ci]? = some (Cn, T, N)) (hin : ∀ w ∈ u_ws Cn T N, w ∈ UW) (hT : ∀ k, k < N → (T k).1 = Cn) (ty0 : Nat → FieldType) (hty : ∀ k, k < N → parseFieldDescriptor (T k).2.2.1 = some (ty0 k)) (hnm : ∀ a, a < N → ∀ b, b < N → a ≠ b → (T a).2.1 ≠ (T b).2.1) (k : Nat) (hk : k < N) {idx : Nat} (hl : Cond.fieldLink own idx Cn (T k).2.1 (T k).2.2.1 ∈ UW) (hfin : (T k).2.2.2 = false) {v : Value} (hn : narrow (ty0 k) v = v) (hfit : fits (ty0 k) v = true) (hlen : k < fs.length) {ent' : Nat → va_E} (h1 : ent' i = .inr (ci, fs.set k v)) (h2 : ∀ j, j < n → j ≠ i → ent j = ent' j) (hdg : decode cc pc = .ok (.putfield idx, 3))
    (kk : ∀ (H : Heap) (locs : List Loc), WX D tys n adr ent' s A H locs → W p l e R s m args below meth c H locs cells slots Q (F0 m (pc + 3) ls rest)) : W p l e R s m args below meth c H locs cells slots Q (F0 m pc ls (v :: .ref (adr i) :: rest)) :=
  va_put (ref := Cn) hx hb hU hin ty0 hty hnm hown h.1 h.2.2.1 h.2.2.2.1 h.2.2.2.2 i (by rw [wv_get hi, he]) hc k hk (hU _ hl) (fun x h9 => by rw [hT k hk] at h9; exact h9) hfin (hty k hk) hn hfit hlen hdg (fun H1 locs1 hP hD hS => by
    rw [← h1, wv_set h2] at hP hD
    exact kk H1 locs1 ⟨h.1, h.2.1, hP, hD, hS⟩)
theorem x_iald (hx : p.tables.exec = Jvm.exec) (hb : c.code = cc) (h : WX D tys n adr ent s A H locs) {i j N t0 : Nat} {f : Nat → Int32} {cA : ClassId} (hi : i < n) (he : ent i = .inl (cA, N, .inl f)) (ht : tys[t0]? = some (cA, .int)) (hj : j < N) (hN : N < 2 ^ 31) {v : Int32} (hv : f j = v) (hdg : decode cc pc = .ok (.iaload, 1))
    (kk : W p l e R s m args below meth c H locs cells slots Q (F0 m (pc + 1) ls (.int v :: rest))) : W p l e R s m args below meth c H locs cells slots Q (F0 m pc ls (.int (nI j) :: .ref (adr i) :: rest)) := by
  refine va_iald hx hb h.1 h.2.2.1 i t0 (by rw [wv_get hi, he]) ht (vp_in_nI hj hN) hdg ?_
  rw [nI_clamp (by omega), hv]
  exact kk
theorem x_lald (hx : p.tables.exec = Jvm.exec) (hb : c.code = cc) (h : WX D tys n adr ent s A H locs) {i j N t0 : Nat} {f : Nat → Int64} {cA : ClassId} (hi : i < n) (he : ent i = .inl (cA, N, .inr (.inl f))) (ht : tys[t0]? = some (cA, .long)) (hj : j < N) (hN : N < 2 ^ 31) {v : Int64} (hv : f j = v) (hdg : decode cc pc = .ok (.laload, 1))
    (kk : W p l e R s m args below meth c H locs cells slots Q (F0 m (pc + 1) ls (.long v :: rest))) : W p l e R s m args below meth c H locs cells slots Q (F0 m pc ls (.int (nI j) :: .ref (adr i) :: rest)) := by
  refine va_lald hx hb h.1 h.2.2.1 i t0 (by rw [wv_get hi, he]) ht (vp_in_nI hj hN) hdg ?_
  rw [nI_clamp (by omega), hv]
  exact kk
theorem x_aald (hx : p.tables.exec = Jvm.exec) (hb : c.code = cc) (h : WX D tys n adr ent s A H locs) {i j N t0 a : Nat} {f : Nat → Option Nat} {cA : ClassId} {Cn : String} (hi : i < n) (he : ent i = .inl (cA, N, .inr (.inr (.inr (.inr f))))) (ht : tys[t0]? = some (cA, .object Cn)) (hj : j < N) (hN : N < 2 ^ 31) (hv : f j = some a) (hdg : decode cc pc = .ok (.aaload, 1))
    (kk : W p l e R s m args below meth c H locs cells slots Q (F0 m (pc + 1) ls (.ref a :: rest))) : W p l e R s m args below meth c H locs cells slots Q (F0 m pc ls (.int (nI j) :: .ref (adr i) :: rest)) := by
  refine va_aldq hx hb h.1 h.2.2.1 i t0 (by rw [wv_get hi, he]) ht (vp_in_nI hj hN) hdg ?_
  rw [nI_clamp (by omega), hv]
  exact kk
theorem x_iast (hx : p.tables.exec = Jvm.exec) (hb : c.code = cc) (h : WX D tys n adr ent s A H locs) {i j N t0 : Nat} {f : Nat → Int32} {cA : ClassId} (hi : i < n) (he : ent i = .inl (cA, N, .inl f)) (ht : tys[t0]? = some (cA, .int)) (hj : j < N) (hN : N < 2 ^ 31) {x : Int32} {ent' : Nat → va_E} (h1 : ent' i = .inl (cA, N, .inl (upd f j x))) (h2 : ∀ j, j < n → j ≠ i → ent j = ent' j) (hdg : decode cc pc = .ok (.iastore, 1))
    (kk : ∀ (H : Heap) (locs : List Loc), WX D tys n adr ent' s A H locs → W p l e R s m args below meth c H locs cells slots Q (F0 m (pc + 1) ls rest)) : W p l e R s m args below meth c H locs cells slots Q (F0 m pc ls (.int x :: .int (nI j) :: .ref (adr i) :: rest)) := by
  refine va_iast hx hb h.1 h.2.2.1 h.2.2.2.1 h.2.2.2.2 i t0 (by rw [wv_get hi, he]) ht (vp_in_nI hj hN) hdg (fun H1 locs1 hP hD hS => ?_)
  rw [nI_clamp (by omega), ← h1, wv_set h2] at hP hD
  exact kk H1 locs1 ⟨h.1, h.2.1, hP, hD, hS⟩
theorem x_last (hx : p.tables.exec = Jvm.exec) (hb : c.code = cc) (h : WX D tys n adr ent s A H locs) {i j N t0 : Nat} {f : Nat → Int64} {cA : ClassId} (hi : i < n) (he : ent i = .inl (cA, N, .inr (.inl f))) (ht : tys[t0]? = some (cA, .long)) (hj : j < N) (hN : N < 2 ^ 31) {x : Int64} {ent' : Nat → va_E} (h1 : ent' i = .inl (cA, N, .inr (.inl (vp_updL f j x)))) (h2 : ∀ j, j < n → j ≠ i → ent j = ent' j) (hdg : decode cc pc = .ok (.lastore, 1))
    (kk : ∀ (H : Heap) (locs : List Loc), WX D tys n adr ent' s A H locs → W p l e R s m args below meth c H locs cells slots Q (F0 m (pc + 1) ls rest)) : W p l e R s m args below meth c H locs cells slots Q (F0 m pc ls (.long x :: .int (nI j) :: .ref (adr i) :: rest)) := by
  refine va_last hx hb h.1 h.2.2.1 h.2.2.2.1 h.2.2.2.2 i t0 (by rw [wv_get hi, he]) ht (vp_in_nI hj hN) hdg (fun H1 locs1 hP hD hS => ?_)
  rw [nI_clamp (by omega), ← h1, wv_set h2] at hP hD
  exact kk H1 locs1 ⟨h.1, h.2.1, hP, hD, hS⟩
theorem x_alen (hx : p.tables.exec = Jvm.exec) (hb : c.code = cc) (h : WX D tys n adr ent s A H locs) {i t0 : Nat} {y : vp_A} {cA : ClassId} {ty : FieldType} (hi : i < n) (he : ent i = .inl (cA, y)) (ht : tys[t0]? = some (cA, ty)) {N : Nat} (hN : y.1 = N) (hdg : decode cc pc = .ok (.arraylength, 1))
    (kk : W p l e R s m args below meth c H locs cells slots Q (F0 m (pc + 1) ls (.int (nI N) :: rest))) : W p l e R s m args below meth c H locs cells slots Q (F0 m pc ls (.ref (adr i) :: rest)) :=
  va_alen (v := nI N) hx hb h.1 h.2.2.1 i t0 (by rw [wv_get hi, he]) ht (by rw [hN]; rfl) hdg kk
end BaseRows
