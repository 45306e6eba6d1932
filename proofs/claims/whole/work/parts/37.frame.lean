/-! ===== a world beside others: calls with a frame ===== -/
def WY (D : va_G) (tys : List (ClassId × FieldType)) (ws : va_W) (s : State) (A : Nat → Prop) (H : Heap) (locs : List Loc) : Prop :=
  va_K D vwCl tys s ∧ (∀ q, s.heap.size ≤ q → A q) ∧ va_P D vwCl ws H ∧ va_D A ws ∧ va_S A s.heap H locs
theorem va_P.left {D : va_G} {cl : List vw_C} {w1 wr : va_W} {H : Heap} (h : va_P D cl (w1 ++ wr) H) : va_P D cl w1 H := fun k q hk => h k q (by rw [List.getElem?_append_left (List.getElem?_eq_some_iff.mp hk).1]; exact hk)
theorem va_D.left {A : Nat → Prop} {w1 wr : va_W} (h : va_D A (w1 ++ wr)) : va_D A w1 := by
  have e : ∀ (k : Nat) (q : Nat × va_E), w1[k]? = some q → (w1 ++ wr)[k]? = some q := fun k q hk => by rw [List.getElem?_append_left (List.getElem?_eq_some_iff.mp hk).1]; exact hk
  exact ⟨fun i j x y hx hy => h.1 i j x y (e i x hx) (e j y hy), fun k q hk => h.2 k q (e k q hk)⟩
theorem range_get (X : va_W) : (List.range X.length).map (fun i => X[i]?) = X.map some := by
  apply List.ext_getElem?
  intro i
  by_cases hi : i < X.length
  · simp [hi]
  · rw [List.getElem?_eq_none (by simp; omega), List.getElem?_eq_none (by simp; omega)]
theorem WY.fr {D : va_G} {tys : List (ClassId × FieldType)} {w1 wr : va_W} {s : State} {A : Nat → Prop} {H : Heap} {locs : List Loc} (h : WY D tys (w1 ++ wr) s A H locs) : ∀ q, va_A w1 H.size q → A q := by
  intro q hq
  rcases hq with ⟨k, e, hk⟩ | hq
  · exact h.2.2.2.1.left.2 k (q, e) hk
  · exact h.2.1 q (Nat.le_trans h.2.2.2.2.1 hq)
theorem WY.back {D : va_G} {tys : List (ClassId × FieldType)} {w1 wr w2 : va_W} {s : State} {A : Nat → Prop} {H H1 : Heap} {locs locs1 : List Loc} (h : WY D tys (w1 ++ wr) s A H locs) (hk : ∀ q : Nat, q < H.size → ¬ va_A w1 H.size q → H1[q]? = H[q]?) (hP1 : va_P D vwCl w2 H1) (hD1 : va_D (va_A w1 H.size) w2) (hS : va_S A s.heap H1 locs1) : WY D tys (w2 ++ wr) s A H1 locs1 := by
  have hj := va_joinQ (wr := []) h.2.2.1 h.2.2.2.1 (List.range w1.length) [] (range_get w1) rfl rfl (fun i hi => absurd hi List.not_mem_nil) hk h.fr hP1 hD1
  exact ⟨h.1, h.2.1, hj.1, hj.2, hS⟩
theorem WY.pre {D : va_G} {tys : List (ClassId × FieldType)} {n : Nat} {adr : Nat → Nat} {ent : Nat → va_E} {wr : va_W} {s : State} {A : Nat → Prop} {H : Heap} {locs : List Loc} (h : WY D tys (wv n adr ent ++ wr) s A H locs) {av : List Value} (U : State) (hU : U.heap = H) (hW : s.WarmedH U.vm) : va_Pc av (preW D tys n adr ent H.size) av.toArray U :=
  ⟨rfl, by rw [hU], by rw [hU]; exact h.2.2.1.left, va_K.moved hW.alike h.1, h.2.2.2.1.left.weaken (fun _ _ _ _ => trivial)⟩
theorem WY.recv {D : va_G} {tys : List (ClassId × FieldType)} {n : Nat} {adr : Nat → Nat} {ent : Nat → va_E} {wr : va_W} {s : State} {A : Nat → Prop} {H : Heap} {locs : List Loc} (h : WY D tys (wv n adr ent ++ wr) s A H locs) {i ci : Nat} {q : vw_C} {fs : List Value} (hi : i < n) (he : ent i = .inr (ci, fs)) (hc : vwCl[ci]? = some q) : ∃ cell : Cell, H[adr i]? = some cell ∧ cell.vm.isStatics = false ∧ s.vm.findClass q.1 = some cell.cls :=
  va_recv (q0 := i) (fs := fs) h.1 h.2.2.1.left hc (by rw [wv_get hi, he])
theorem WY.swap {D : va_G} {tys : List (ClassId × FieldType)} {a b c : va_W} {s : State} {A : Nat → Prop} {H : Heap} {locs : List Loc} (h : WY D tys (a ++ (b ++ c)) s A H locs) : WY D tys (b ++ (a ++ c)) s A H locs := by
  obtain ⟨h1, h2, hP, hD, hS⟩ := h
  rw [← List.append_assoc] at hP hD
  have hP2 : va_P D vwCl ((b ++ a) ++ c) H := by
    refine hP.by (fun k => if k < b.length then a.length + k else if k < b.length + a.length then k - b.length else k) (fun k q hk => ?_)
    by_cases e1 : k < b.length
    · rw [if_pos e1]
      rw [List.getElem?_append_left (by rw [List.length_append]; omega), List.getElem?_append_left e1] at hk
      rw [List.getElem?_append_left (by rw [List.length_append]; omega), List.getElem?_append_right (by omega), Nat.add_sub_cancel_left]
      exact hk
    · rw [if_neg e1]
      by_cases e2 : k < b.length + a.length
      · rw [if_pos e2]
        rw [List.getElem?_append_left (by rw [List.length_append]; omega), List.getElem?_append_right (by omega)] at hk
        rw [List.getElem?_append_left (by rw [List.length_append]; omega), List.getElem?_append_left (by omega)]
        exact hk
      · rw [if_neg e2]
        rw [List.getElem?_append_right (by rw [List.length_append]; omega), List.length_append] at hk
        rw [List.getElem?_append_right (by rw [List.length_append]; omega), List.length_append, Nat.add_comm]
        exact hk
  have hD2 : va_D A ((b ++ a) ++ c) := by
    refine hD.by (fun k => if k < b.length then a.length + k else if k < b.length + a.length then k - b.length else k) (fun k q hk => ?_) (fun i j hi hj he => ?_)
    · by_cases e1 : k < b.length
      · rw [if_pos e1]
        rw [List.getElem?_append_left (by rw [List.length_append]; omega), List.getElem?_append_left e1] at hk
        rw [List.getElem?_append_left (by rw [List.length_append]; omega), List.getElem?_append_right (by omega), Nat.add_sub_cancel_left]
        exact hk
      · rw [if_neg e1]
        by_cases e2 : k < b.length + a.length
        · rw [if_pos e2]
          rw [List.getElem?_append_left (by rw [List.length_append]; omega), List.getElem?_append_right (by omega)] at hk
          rw [List.getElem?_append_left (by rw [List.length_append]; omega), List.getElem?_append_left (by omega)]
          exact hk
        · rw [if_neg e2]
          rw [List.getElem?_append_right (by rw [List.length_append]; omega), List.length_append] at hk
          rw [List.getElem?_append_right (by rw [List.length_append]; omega), List.length_append, Nat.add_comm]
          exact hk
    · by_cases a1 : i < b.length <;> by_cases a2 : j < b.length <;> by_cases a3 : i < b.length + a.length <;> by_cases a4 : j < b.length + a.length <;> simp only [a1, a2, a3, a4, if_true, if_false] at he <;> omega
  rw [List.append_assoc] at hP2 hD2
  exact ⟨h1, h2, hP2, hD2, hS⟩
theorem WY.push {D : va_G} {tys : List (ClassId × FieldType)} {n : Nat} {adr : Nat → Nat} {ent : Nat → va_E} {o : Nat} {e : va_E} {s : State} {A : Nat → Prop} {H : Heap} {locs : List Loc} : WY D tys (wv n adr ent ++ [(o, e)]) s A H locs ↔ WX D tys (n + 1) (adn adr n o) (adn ent n e) s A H locs := by
  unfold WY WX; rw [wv_push]
section FrameRows
variable {p : Program} {l : Launch} {e : Env} {R : Room} {s : State} {m : MethodId} {args : Array Value} {below : List Frame} {meth : Method} {c : Code} {H : Heap} {locs : List Loc} {cells slots : Nat} {Q : State → Prop}
variable {cc : ByteArray} {pc nL : Nat} {ls : Array Slot} {rest st0 : List Value} {D : va_G} {tys : List (ClassId × FieldType)} {n n' : Nat} {adr : Nat → Nat} {ent : Nat → va_E} {A : Nat → Prop} {own C : String} {wr : va_W}
variable {S SX : Type} {adr' : S → Nat → Nat} {ent' : S → Nat → va_E} {adrX : SX → Nat → Nat} {entX : SX → Nat → va_E} {ex : SX → String} {y : MethodName} {bytes : ByteArray} {maxL idx : Nat} {rm : Room} {As : List Value} {b : Nat}
theorem z_callv (hx : p.tables.exec = Jvm.exec) (hb : c.code = cc) (hml : c.maxLocals = nL) (hU : ∀ w ∈ UW, w.before args s = true) (hown : s.vm.findClass own = some m.cls) (h : WY D tys (wv n adr ent ++ wr) s A H locs) {post : S → Prop}
    (hM : Met l y (Cond.code y bytes maxL none :: UW) rm (va_Pc (.ref b :: As) (preW D tys n adr ent H.size)) (va_Qv post (fun u => atW D tys n (adr' u) (ent' u) (va_A (wv n adr ent) H.size)) (va_A (wv n adr ent) H.size)) rm.cells rm.slots (va_A (wv n adr ent) H.size))
    (h1 : Cond.methodLink own idx y ∈ UW) (h2 : Cond.instanceMethod y ∈ UW) (h3 : Cond.selects C y y ∈ UW) (h4 : Cond.initialized C ∈ UW) (h5 : Cond.code y bytes maxL none ∈ UW)
    (hd : y.cls = C ∧ y.cls ≠ "java/lang/invoke/MethodHandle" ∧ y.cls ≠ "java/lang/invoke/VarHandle" ∧ (parseMethodDescriptor y.desc).map (fun d => d.parameters.length) = some As.length) (hR : rm.frames + 1 ≤ R.frames ∧ 8 + (maxL + 11) + rm.locals ≤ R.locals)
    (hrecv : ∃ cell : Cell, H[b]? = some cell ∧ cell.vm.isStatics = false ∧ s.vm.findClass C = some cell.cls) (hls : ls.size = nL) (hst : st0 = As.reverse ++ .ref b :: rest) (hW : (rest.map fun v => v.category).sum ≤ 8) (hdg : decode cc pc = .ok (.invokevirtual idx, 3)) (hf : cells + rm.cells ≤ R.cells ∧ slots + rm.slots ≤ R.slots)
    (kk : ∀ (u : S) (H1 : Heap) (locs1 : List Loc), post u → WY D tys (wv n (adr' u) (ent' u) ++ wr) s A H1 locs1 → W p l e R s m args below meth c H1 locs1 (cells + rm.cells) (slots + rm.slots) Q (F0 m (pc + 3) ls rest)) : W p l e R s m args below meth c H locs cells slots Q (F0 m pc ls st0) :=
  va_callv (va_runV (As := As) (rest := rest) (g := F0 m pc ls st0) ⟨hx, hb, hml, hown, hU⟩ hM (cwV As.length hU (gV h1 h2 h3 h4 h5) rfl rfl rfl hd hR) ⟨preW.blind, hrecv, fun U hU hW => h.pre U hU hW⟩ rfl rfl hls hst (lv_room hW) hdg hf) h.2.2.2.2 (fun q _ hq => h.fr q hq) h.fr (fun u t H1 locs1 ht hvm hw hB hz1 hk1 hS => kk u H1 locs1 hw (h.back hk1 (by rw [← ht]; exact hB.1) hB.2.2 hS))
theorem z_calli (hx : p.tables.exec = Jvm.exec) (hb : c.code = cc) (hml : c.maxLocals = nL) (hU : ∀ w ∈ UW, w.before args s = true) (hown : s.vm.findClass own = some m.cls) (h : WY D tys (wv n adr ent ++ wr) s A H locs) {ret : Option FieldType} {post : Int32 → S → Prop}
    (hM : Met l y (Cond.code y bytes maxL ret :: UW) rm (va_Pc (.ref b :: As) (preW D tys n adr ent H.size)) (va_Qi post (fun u => atW D tys n (adr' u) (ent' u) (va_A (wv n adr ent) H.size)) (va_A (wv n adr ent) H.size)) rm.cells rm.slots (va_A (wv n adr ent) H.size))
    (h1 : Cond.methodLink own idx y ∈ UW) (h2 : Cond.instanceMethod y ∈ UW) (h3 : Cond.selects C y y ∈ UW) (h4 : Cond.initialized C ∈ UW) (h5 : Cond.code y bytes maxL ret ∈ UW)
    (hd : y.cls = C ∧ y.cls ≠ "java/lang/invoke/MethodHandle" ∧ y.cls ≠ "java/lang/invoke/VarHandle" ∧ (parseMethodDescriptor y.desc).map (fun d => d.parameters.length) = some As.length) (hR : rm.frames + 1 ≤ R.frames ∧ 8 + (maxL + 11) + rm.locals ≤ R.locals)
    (hrecv : ∃ cell : Cell, H[b]? = some cell ∧ cell.vm.isStatics = false ∧ s.vm.findClass C = some cell.cls) (hls : ls.size = nL) (hst : st0 = As.reverse ++ .ref b :: rest) (hW : (rest.map fun v => v.category).sum ≤ 8) (hdg : decode cc pc = .ok (.invokevirtual idx, 3)) (hf : cells + rm.cells ≤ R.cells ∧ slots + rm.slots ≤ R.slots)
    (kk : ∀ (r : Int32) (u : S) (H1 : Heap) (locs1 : List Loc), post r u → WY D tys (wv n (adr' u) (ent' u) ++ wr) s A H1 locs1 → W p l e R s m args below meth c H1 locs1 (cells + rm.cells) (slots + rm.slots) Q (F0 m (pc + 3) ls (.int r :: rest))) : W p l e R s m args below meth c H locs cells slots Q (F0 m pc ls st0) :=
  va_calli (va_runV (As := As) (rest := rest) (g := F0 m pc ls st0) ⟨hx, hb, hml, hown, hU⟩ hM (cwV As.length hU (gV h1 h2 h3 h4 h5) rfl rfl rfl hd hR) ⟨preW.blind, hrecv, fun U hU hW => h.pre U hU hW⟩ rfl rfl hls hst (lv_room hW) hdg hf) h.2.2.2.2 (fun q _ hq => h.fr q hq) h.fr (fun r u t H1 locs1 ht hvm hw hB hz1 hk1 hS => kk r u H1 locs1 hw (h.back hk1 (by rw [← ht]; exact hB.1) hB.2.2 hS))
theorem z_callI (hx : p.tables.exec = Jvm.exec) (hb : c.code = cc) (hml : c.maxLocals = nL) (hU : ∀ w ∈ UW, w.before args s = true) (hown : s.vm.findClass own = some m.cls) (h : WY D tys (wv n adr ent ++ wr) s A H locs) {post : S → Prop} {Pc : Array Value → State → Prop}
    (hM : Met l y (Cond.code y bytes maxL none :: UW) rm Pc (va_Qv post (fun u => atW D tys n' (adr' u) (ent' u) (va_A (wv n adr ent) H.size)) (va_A (wv n adr ent) H.size)) rm.cells rm.slots (va_A (wv n adr ent) H.size)) (hp : PreS s H Pc (.ref b :: As))
    (h1 : Cond.methodLink own idx y ∈ UW) (h2 : Cond.instanceMethod y ∈ UW) (h4 : Cond.initialized y.cls ∈ UW) (h5 : Cond.code y bytes maxL none ∈ UW) (hy : y.name = "<init>")
    (hd : y.cls ≠ "java/lang/invoke/MethodHandle" ∧ y.cls ≠ "java/lang/invoke/VarHandle" ∧ (parseMethodDescriptor y.desc).map (fun d => d.parameters.length) = some As.length) (hR : rm.frames + 1 ≤ R.frames ∧ 8 + (maxL + 11) + rm.locals ≤ R.locals)
    (hls : ls.size = nL) (hst : st0 = As.reverse ++ .ref b :: rest) (hW : (rest.map fun v => v.category).sum ≤ 8) (hdg : decode cc pc = .ok (.invokespecial idx, 3)) (hf : cells + rm.cells ≤ R.cells ∧ slots + rm.slots ≤ R.slots)
    (kk : ∀ (u : S) (H1 : Heap) (locs1 : List Loc), post u → WY D tys (wv n' (adr' u) (ent' u) ++ wr) s A H1 locs1 → W p l e R s m args below meth c H1 locs1 (cells + rm.cells) (slots + rm.slots) Q (F0 m (pc + 3) ls rest)) : W p l e R s m args below meth c H locs cells slots Q (F0 m pc ls st0) :=
  va_callv (va_runI (As := As) (rest := rest) (g := F0 m pc ls st0) ⟨hx, hb, hml, hown, hU⟩ hM (cwI As.length hU (gI h5) rfl rfl rfl (hU _ h4) (hU _ h1) (hU _ h2) hy hd hR) hp rfl rfl hls hst (lv_room hW) hdg hf) h.2.2.2.2 (fun q _ hq => h.fr q hq) h.fr (fun u t H1 locs1 ht hvm hw hB hz1 hk1 hS => kk u H1 locs1 hw (h.back hk1 (by rw [← ht]; exact hB.1) hB.2.2 hS))
/-- a static call of a method with handlers, that itself does not throw -/
theorem gSW {own : String} {idx : Nat} {y : MethodName} {bytes : ByteArray} {maxL : Nat} {ret : Option FieldType} {hh : List (Nat × Nat × Nat × Nat)} (h1 : Cond.methodLink own idx y ∈ UW) (h2 : Cond.static y ∈ UW) (h4 : Cond.initialized y.cls ∈ UW) (h5 : Cond.codeWith y bytes maxL ret hh ∈ UW) : GoodIn UW (va_wsS own idx y (Cond.codeWith y bytes maxL ret hh :: UW)) := by
  refine uw_sub (fun w hw => ?_)
  simp only [va_wsS, List.cons_append, List.nil_append, List.mem_cons] at hw
  rcases hw with rfl | rfl | rfl | rfl | hw
  · exact h1
  · exact h2
  · exact h4
  · exact h5
  · exact hw
theorem z_callSW (hx : p.tables.exec = Jvm.exec) (hb : c.code = cc) (hml : c.maxLocals = nL) (hU : ∀ w ∈ UW, w.before args s = true) (hown : s.vm.findClass own = some m.cls) (h : WY D tys (wv n adr ent ++ wr) s A H locs) {ret : Option FieldType} {hh : List (Nat × Nat × Nat × Nat)} {post : Int32 → S → Prop} {Pc : Array Value → State → Prop}
    (hM : Met l y (Cond.codeWith y bytes maxL ret hh :: UW) rm Pc (va_Qi post (fun u => atW D tys n (adr' u) (ent' u) (va_A (wv n adr ent) H.size)) (va_A (wv n adr ent) H.size)) rm.cells rm.slots (va_A (wv n adr ent) H.size)) (hp : PreS s H Pc As)
    (h1 : Cond.methodLink own idx y ∈ UW) (h2 : Cond.static y ∈ UW) (h4 : Cond.initialized y.cls ∈ UW) (h5 : Cond.codeWith y bytes maxL ret hh ∈ UW)
    (hd : y.cls ≠ "java/lang/invoke/MethodHandle" ∧ y.cls ≠ "java/lang/invoke/VarHandle" ∧ (parseMethodDescriptor y.desc).map (fun d => d.parameters.length) = some As.length) (hR : rm.frames + 1 ≤ R.frames ∧ 8 + (maxL + 11) + rm.locals ≤ R.locals)
    (hls : ls.size = nL) (hst : st0 = As.reverse ++ rest) (hW : (rest.map fun v => v.category).sum ≤ 8) (hdg : decode cc pc = .ok (.invokestatic idx, 3)) (hf : cells + rm.cells ≤ R.cells ∧ slots + rm.slots ≤ R.slots)
    (kk : ∀ (r : Int32) (u : S) (H1 : Heap) (locs1 : List Loc), post r u → WY D tys (wv n (adr' u) (ent' u) ++ wr) s A H1 locs1 → W p l e R s m args below meth c H1 locs1 (cells + rm.cells) (slots + rm.slots) Q (F0 m (pc + 3) ls (.int r :: rest))) : W p l e R s m args below meth c H locs cells slots Q (F0 m pc ls st0) :=
  va_calli (vx_runSW (As := As) (rest := rest) (g := F0 m pc ls st0) ⟨hx, hb, hml, hown, hU⟩ hM (vx_cwSW As.length hU (gSW h1 h2 h4 h5) rfl rfl rfl hd hR) hp rfl rfl hls hst (lv_room hW) hdg hf) h.2.2.2.2 (fun q _ hq => h.fr q hq) h.fr (fun r u t H1 locs1 ht hvm hw hB hz1 hk1 hS => kk r u H1 locs1 hw (h.back hk1 (by rw [← ht]; exact hB.1) hB.2.2 hS))
/-- a call of a method that may throw -/
theorem z_callx (hx : p.tables.exec = Jvm.exec) (hb : c.code = cc) (hml : c.maxLocals = nL) (hU : ∀ w ∈ UW, w.before args s = true) (hown : s.vm.findClass own = some m.cls) (h : WY D tys (wv n adr ent ++ wr) s A H locs) {ret : Option FieldType} {post : Int32 → S → Prop} {px : SX → Prop} {Pc : Array Value → State → Prop}
    (hM : vx_Met l y (Cond.code y bytes maxL ret :: UW) rm Pc (va_Qi post (fun u => atW D tys n (adr' u) (ent' u) (va_A (wv n adr ent) H.size)) (va_A (wv n adr ent) H.size)) (vx_X px (fun E u t => E = ex u ∧ atW D tys n (adrX u) (entX u) (va_A (wv n adr ent) H.size) t) (va_A (wv n adr ent) H.size)) rm.cells rm.slots (va_A (wv n adr ent) H.size)) (hp : PreV s H C b Pc As)
    (h1 : Cond.methodLink own idx y ∈ UW) (h2 : Cond.instanceMethod y ∈ UW) (h3 : Cond.selects C y y ∈ UW) (h4 : Cond.initialized C ∈ UW) (h5 : Cond.code y bytes maxL ret ∈ UW)
    (hd : y.cls = C ∧ y.cls ≠ "java/lang/invoke/MethodHandle" ∧ y.cls ≠ "java/lang/invoke/VarHandle" ∧ (parseMethodDescriptor y.desc).map (fun d => d.parameters.length) = some As.length) (hR : rm.frames + 1 ≤ R.frames ∧ 8 + (maxL + 11) + rm.locals ≤ R.locals)
    (hls : ls.size = nL) (hst : st0 = As.reverse ++ .ref b :: rest) (hW : (rest.map fun v => v.category).sum ≤ 8) (hdg : decode cc pc = .ok (.invokevirtual idx, 3)) (hf : cells + rm.cells ≤ R.cells ∧ slots + rm.slots ≤ R.slots)
    (kx : ∀ (E : String) (ce : Cell) (q9 : Addr) (u : SX) (H1 : Heap) (locs1 : List Loc), px u → E = ex u → WY D tys (wv n (adrX u) (entX u) ++ wr) s A H1 locs1 → H1[q9]? = some ce → ce.vm = .none → s.vm.findClass E = some ce.cls → vx_W p l e R s m args below meth c H1 locs1 (cells + rm.cells) (slots + rm.slots) Q (F0 m pc ls rest) q9)
    (kk : ∀ (r : Int32) (u : S) (H1 : Heap) (locs1 : List Loc), post r u → WY D tys (wv n (adr' u) (ent' u) ++ wr) s A H1 locs1 → W p l e R s m args below meth c H1 locs1 (cells + rm.cells) (slots + rm.slots) Q (F0 m (pc + 3) ls (.int r :: rest))) : W p l e R s m args below meth c H locs cells slots Q (F0 m pc ls st0) :=
  vx_calli (vx_runV (As := As) (rest := rest) (g := F0 m pc ls st0) ⟨hx, hb, hml, hown, hU⟩ hM (cwV As.length hU (gV h1 h2 h3 h4 h5) rfl rfl rfl hd hR) hp rfl rfl hls hst (lv_room hW) hdg hf) h.2.2.2.2 (fun q _ hq => h.fr q hq) h.fr (fun q _ hq => h.fr q hq)
    (fun E ce q9 u t H1 locs1 ht hvm hw hB hz1 hk1 hS hce hcv hcl => kx E ce q9 u H1 locs1 hw hB.1 (h.back hk1 (by rw [← ht]; exact hB.2.1) hB.2.2.2 hS) hce hcv hcl)
    (fun r u t H1 locs1 ht hvm hw hB hz1 hk1 hS => kk r u H1 locs1 hw (h.back hk1 (by rw [← ht]; exact hB.1) hB.2.2 hS))
end FrameRows
theorem met_ofWH {l : Launch} {y : MethodName} {ws ws' : List Cond} {rm : Room} {Pc : Array Value → State → Prop} {Qc : Array Value → State → Outcome → State → Prop} {mc ms : Nat} {free : Addr → Prop} {cc : ByteArray} {maxL : Nat} {ret : Option FieldType} {hh : List (Nat × Nat × Nat × Nat)}
    (hy : plainName y.cls = true) (hw : ws = Cond.codeWith y cc maxL ret hh :: ws')
    (body : ∀ p e s m args below meth c s₁, BodyLoose p l y (headSpec ws rm) cc maxL ret e s m args below meth c s₁ → c.maxLocals = maxL → Pc args s →
      W p l e (headSpec ws rm).room s m args below meth c s.heap [] 0 0 (MQ below Qc args s mc ms free) (entryFrame m args maxL)) : Met l y ws rm Pc Qc mc ms free := by
  refine MetFree.of_bodyS (code := cc) (maxLocals := maxL) (ret := ret) hy ?_ ?_
  · intro args s m h hn
    obtain ⟨m9, meth, c, hn9, h1, h2, h3, h4, -, h5, h6, -⟩ := Cond.codeWith_spec (atoms_spec (ws := ws) h _ (by rw [hw]; exact List.mem_cons_self))
    cases hn.symm.trans hn9
    exact ⟨meth, c, h1, h2, h3, h4, h5, h6⟩
  · intro p e s m args below meth c s₁ B hml hP _
    have hh0 : s₁.heap = s.heap := by rw [B.state]; rfl
    obtain ⟨t, a1, o, b1, b2, b3⟩ := body p e s m args below meth c s₁ B hml hP s₁ hh0 (Stand.of_body B)
    exact ⟨t, o, a1, b1, b2, ⟨b3.1, b3.2⟩⟩
