/-! ===== calls of constructors; Actor(), Taken(), Edge() ===== -/
section CtorRows
variable {p : Program} {l : Launch} {e : Env} {R : Room} {s : State} {m : MethodId} {args : Array Value} {below : List Frame} {meth : Method} {c : Code} {H : Heap} {locs : List Loc} {cells slots : Nat} {Q : State → Prop}
variable {cc : ByteArray} {pc nL : Nat} {ls : Array Slot} {rest st0 : List Value} {D : va_G} {tys : List (ClassId × FieldType)} {n n' : Nat} {adr : Nat → Nat} {ent : Nat → va_E} {A : Nat → Prop} {own host : String}
variable {S : Type} {adr' : S → Nat → Nat} {ent' : S → Nat → va_E} {y : MethodName} {bytes : ByteArray} {maxL idx : Nat} {rm : Room} {As : List Value} {b : Nat}
theorem gI {y : MethodName} {bytes : ByteArray} {maxL : Nat} {ret : Option FieldType} (h5 : Cond.code y bytes maxL ret ∈ UW) : GoodIn UW (Cond.code y bytes maxL ret :: UW) := by
  refine uw_sub (fun w hw => ?_)
  rcases List.mem_cons.mp hw with rfl | hw
  · exact h5
  · exact hw
theorem x_callI (hx : p.tables.exec = Jvm.exec) (hb : c.code = cc) (hml : c.maxLocals = nL) (hU : ∀ w ∈ UW, w.before args s = true) (hown : s.vm.findClass own = some m.cls) (h : WX D tys n adr ent s A H locs) {post : S → Prop} {Pc : Array Value → State → Prop}
    (hM : Met l y (Cond.code y bytes maxL none :: UW) rm Pc (va_Qv post (fun u => atW D tys n' (adr' u) (ent' u) (va_A (wv n adr ent) H.size)) (va_A (wv n adr ent) H.size)) rm.cells rm.slots (va_A (wv n adr ent) H.size)) (hp : PreS s H Pc (.ref b :: As))
    (h1 : Cond.methodLink own idx y ∈ UW) (h2 : Cond.instanceMethod y ∈ UW) (h4 : Cond.initialized y.cls ∈ UW) (h5 : Cond.code y bytes maxL none ∈ UW) (hy : y.name = "<init>")
    (hd : y.cls ≠ "java/lang/invoke/MethodHandle" ∧ y.cls ≠ "java/lang/invoke/VarHandle" ∧ (parseMethodDescriptor y.desc).map (fun d => d.parameters.length) = some As.length) (hR : rm.frames + 1 ≤ R.frames ∧ 8 + (maxL + 11) + rm.locals ≤ R.locals)
    (hls : ls.size = nL) (hst : st0 = As.reverse ++ .ref b :: rest) (hW : (rest.map fun v => v.category).sum ≤ 8) (hdg : decode cc pc = .ok (.invokespecial idx, 3)) (hf : cells + rm.cells ≤ R.cells ∧ slots + rm.slots ≤ R.slots)
    (kk : ∀ (u : S) (H1 : Heap) (locs1 : List Loc), post u → WX D tys n' (adr' u) (ent' u) s A H1 locs1 → W p l e R s m args below meth c H1 locs1 (cells + rm.cells) (slots + rm.slots) Q (F0 m (pc + 3) ls rest)) : W p l e R s m args below meth c H locs cells slots Q (F0 m pc ls st0) :=
  va_callv (va_runI (As := As) (rest := rest) (g := F0 m pc ls st0) ⟨hx, hb, hml, hown, hU⟩ hM (cwI As.length hU (gI h5) rfl rfl rfl (hU _ h4) (hU _ h1) (hU _ h2) hy hd hR) hp rfl rfl hls hst (lv_room hW) hdg hf) h.2.2.2.2 (fun q _ hq => h.fr q hq) h.fr (fun u t H1 locs1 ht hvm hw hB hz1 hk1 hS => kk u H1 locs1 hw ⟨h.1, h.2.1, by rw [← ht]; exact hB.1, hB.2.2.weaken (fun _ q _ hq => h.fr q.1 hq), hS⟩)
theorem x_callIN (hx : p.tables.exec = Jvm.exec) (hb : c.code = cc) (hml : c.maxLocals = nL) (hU : ∀ w ∈ UW, w.before args s = true) (hown : s.vm.findClass own = some m.cls) (h : WX D tys n adr ent s A H locs) {post : S → Prop} {Pc : Array Value → State → Prop}
    (hM : Met l y (Cond.code y bytes maxL none :: UW) rm Pc (va_Qv post (fun u => atW D tys n' (adr' u) (ent' u) (va_A (wv n adr ent) H.size)) (va_A (wv n adr ent) H.size)) rm.cells rm.slots (va_A (wv n adr ent) H.size)) (hp : PreS s H Pc (.ref b :: As))
    (h1 : va_Nw (.methodLinkNest own idx y host) s) (h2 : Cond.instanceMethod y ∈ UW) (h4 : Cond.initialized y.cls ∈ UW) (h5 : Cond.code y bytes maxL none ∈ UW) (hy : y.name = "<init>")
    (hd : y.cls ≠ "java/lang/invoke/MethodHandle" ∧ y.cls ≠ "java/lang/invoke/VarHandle" ∧ (parseMethodDescriptor y.desc).map (fun d => d.parameters.length) = some As.length) (hR : rm.frames + 1 ≤ R.frames ∧ 8 + (maxL + 11) + rm.locals ≤ R.locals)
    (hls : ls.size = nL) (hst : st0 = As.reverse ++ .ref b :: rest) (hW : (rest.map fun v => v.category).sum ≤ 8) (hdg : decode cc pc = .ok (.invokespecial idx, 3)) (hf : cells + rm.cells ≤ R.cells ∧ slots + rm.slots ≤ R.slots)
    (kk : ∀ (u : S) (H1 : Heap) (locs1 : List Loc), post u → WX D tys n' (adr' u) (ent' u) s A H1 locs1 → W p l e R s m args below meth c H1 locs1 (cells + rm.cells) (slots + rm.slots) Q (F0 m (pc + 3) ls rest)) : W p l e R s m args below meth c H locs cells slots Q (F0 m pc ls st0) :=
  va_callv (va_runIN (As := As) (rest := rest) (g := F0 m pc ls st0) ⟨hx, hb, hml, hown, hU⟩ hM ⟨va_cnB As.length hU (gI h5) rfl rfl rfl h1 (hU _ h4) hd hR, hy, hU _ h2⟩ hp rfl rfl hls hst (lv_room hW) hdg hf) h.2.2.2.2 (fun q _ hq => h.fr q hq) h.fr (fun u t H1 locs1 ht hvm hw hB hz1 hk1 hS => kk u H1 locs1 hw ⟨h.1, h.2.1, by rw [← ht]; exact hB.1, hB.2.2.weaken (fun _ q _ hq => h.fr q.1 hq), hS⟩)
end CtorRows
set_option maxRecDepth 100000 in
set_option maxHeartbeats 4000000 in
theorem c_X0_init (l : Launch) (D : va_G) (tys : List (ClassId × FieldType)) (n : Nat) (adr : Nat → Nat) (ent : Nat → va_E) (b sz : Nat) : Met l yX0_init (Cond.code yX0_init cX0_init 1 none :: UW) (rmx 1 0 0) (va_Pc [.ref b] (preW D tys n adr ent sz)) (va_Qv (fun _ : Unit => True) (fun _ => atW D tys n adr ent (va_A (wv n adr ent) sz)) (va_A (wv n adr ent) sz)) 0 0 (va_A (wv n adr ent) sz) := by
  refine Met.ofW (cc := cX0_init) (maxL := 1) (ret := none) (by decide) rfl ?_
  intro p ev s m args below meth c s₁ B hml hv
  obtain ⟨rfl, hw⟩ := hv
  have hx := B.exec
  have hb := B.bytes
  have hr := B.returns
  have hin : meth.name = "<init>" := (name_of_methodNamed B.named B.method).1
  have hU : ∀ w ∈ UW, w.before _ s = true := fun w hw => atoms_spec (ws := Cond.code yX0_init cX0_init 1 none :: UW) B.pre w (List.mem_cons_of_mem _ hw)
  have hown : s.vm.findClass RX0 = some m.cls := findClass_of_methodNamed B.named
  have h := WX.start hw
  clear hw
  generalize va_A (wv _ _ _) _ = A at h ⊢
  have hl := lv_entry ([.ref b]) (n := 1) (Nat.le_of_ble_eq_true rfl)
  rw [lg_entry_eq]
  generalize (lg_sl ([.ref b]) ++ List.replicate (1 - (lg_sl ([.ref b])).length) Slot.unset).toArray = ls at hl ⊢
  have hl : lv_has ls 1 [(0, .ref b)] := hl
  refine lv_aload_n hx hb dX0_init_0 rfl (lv_at hl 0 rfl) ?_
  refine W.objInit hx hb hown (hU _ umX0_3) (hU _ ui_objinit) (hU _ uc_objinit) rfl (by rw [hml]; exact hl.1) rfl dX0_init_1 (Nat.le_of_ble_eq_true rfl) (Nat.le_of_ble_eq_true rfl) ?_
  refine W.eq (g2 := F0 m 4 ls []) rfl ?_
  exact W.vret hx hb hr (fun t ht hW => ⟨⟨(), rfl, trivial, h.at ht hW⟩, h.2.2.2.2.F ht⟩) h.2.2.2.2.2.2 dX0_init_4
set_option maxRecDepth 100000 in
set_option maxHeartbeats 4000000 in
theorem c_X2_init (l : Launch) (D : va_G) (tys : List (ClassId × FieldType)) (n : Nat) (adr : Nat → Nat) (ent : Nat → va_E) (b sz : Nat) : Met l yX2_init (Cond.code yX2_init cX2_init 1 none :: UW) (rmx 1 0 0) (va_Pc [.ref b] (preW D tys n adr ent sz)) (va_Qv (fun _ : Unit => True) (fun _ => atW D tys n adr ent (va_A (wv n adr ent) sz)) (va_A (wv n adr ent) sz)) 0 0 (va_A (wv n adr ent) sz) := by
  refine Met.ofW (cc := cX2_init) (maxL := 1) (ret := none) (by decide) rfl ?_
  intro p ev s m args below meth c s₁ B hml hv
  obtain ⟨rfl, hw⟩ := hv
  have hx := B.exec
  have hb := B.bytes
  have hr := B.returns
  have hin : meth.name = "<init>" := (name_of_methodNamed B.named B.method).1
  have hU : ∀ w ∈ UW, w.before _ s = true := fun w hw => atoms_spec (ws := Cond.code yX2_init cX2_init 1 none :: UW) B.pre w (List.mem_cons_of_mem _ hw)
  have hown : s.vm.findClass RX2 = some m.cls := findClass_of_methodNamed B.named
  have h := WX.start hw
  clear hw
  generalize va_A (wv _ _ _) _ = A at h ⊢
  have hl := lv_entry ([.ref b]) (n := 1) (Nat.le_of_ble_eq_true rfl)
  rw [lg_entry_eq]
  generalize (lg_sl ([.ref b]) ++ List.replicate (1 - (lg_sl ([.ref b])).length) Slot.unset).toArray = ls at hl ⊢
  have hl : lv_has ls 1 [(0, .ref b)] := hl
  refine lv_aload_n hx hb dX2_init_0 rfl (lv_at hl 0 rfl) ?_
  refine W.objInit hx hb hown (hU _ umX2_1) (hU _ ui_objinit) (hU _ uc_objinit) rfl (by rw [hml]; exact hl.1) rfl dX2_init_1 (Nat.le_of_ble_eq_true rfl) (Nat.le_of_ble_eq_true rfl) ?_
  refine W.eq (g2 := F0 m 4 ls []) rfl ?_
  exact W.vret hx hb hr (fun t ht hW => ⟨⟨(), rfl, trivial, h.at ht hW⟩, h.2.2.2.2.F ht⟩) h.2.2.2.2.2.2 dX2_init_4
abbrev zE (r : Value) : List Value := [.int (nI 0), .int (nI 0), .int (nI 0), .int (nI 0), .int (nI 0), .int (nI 0), .int (nI 0), r, .int (nI 0), .int (nI 0)]
abbrev zA : List Value := [.int (nI 0), .int (nI 0), .int (nI 0), .int (nI 0), .long (lN 0), .int (nI 0)]
abbrev zK : List Value := [.int (nI 0), .int (nI 0), .int (nI 0), .int (nI 0)]
abbrev zR (cA : ClassId) (N : Nat) : va_E := .inl (cA, N, .inl (fun _ => nI 0))
set_option maxRecDepth 100000 in
set_option maxHeartbeats 4000000 in
theorem c_X1_init (l : Launch) (D : va_G) (cy : Nat → ClassId) (n : Nat) (adr : Nat → Nat) (ent : Nat → va_E) (i b sz : Nat) (hi : i < n) (hb0 : adr i = b) (he : ent i = .inr (1, zE .null)) : Met l yX1_init (Cond.code yX1_init cX1_init 1 none :: UW) (rmx 1 1 9) (va_Pc [.ref b] (preW D (tyl cy) n adr ent sz)) (va_Qv (fun _ : Nat => True) (fun q => atW D (tyl cy) (n + 1) (adn adr n q) (adn (adn ent n (zR (cy 0) 9)) i (.inr (1, zE (.ref q)))) (va_A (wv n adr ent) sz)) (va_A (wv n adr ent) sz)) 1 9 (va_A (wv n adr ent) sz) := by
  refine Met.ofW (cc := cX1_init) (maxL := 1) (ret := none) (by decide) rfl ?_
  intro p ev s m args below meth c s₁ B hml hv
  obtain ⟨rfl, hw⟩ := hv
  have hx := B.exec
  have hb := B.bytes
  have hr := B.returns
  have hin : meth.name = "<init>" := (name_of_methodNamed B.named B.method).1
  have hU : ∀ w ∈ UW, w.before _ s = true := fun w hw => atoms_spec (ws := Cond.code yX1_init cX1_init 1 none :: UW) B.pre w (List.mem_cons_of_mem _ hw)
  have hown : s.vm.findClass RX1 = some m.cls := findClass_of_methodNamed B.named
  have h := WX.start hw
  clear hw
  generalize va_A (wv _ _ _) _ = A at h ⊢
  have hl := lv_entry ([.ref b]) (n := 1) (Nat.le_of_ble_eq_true rfl)
  rw [lg_entry_eq]
  generalize (lg_sl ([.ref b]) ++ List.replicate (1 - (lg_sl ([.ref b])).length) Slot.unset).toArray = ls at hl ⊢
  have hl : lv_has ls 1 [(0, .ref b)] := hl
  refine lv_aload_n hx hb dX1_init_0 rfl (lv_at hl 0 rfl) ?_
  refine W.objInit hx hb hown (hU _ umX1_3) (hU _ ui_objinit) (hU _ uc_objinit) rfl (by rw [hml]; exact hl.1) rfl dX1_init_1 (Nat.le_of_ble_eq_true rfl) (Nat.le_of_ble_eq_true rfl) ?_
  refine W.eq (g2 := F0 m 4 ls []) rfl ?_
  refine lv_aload_n hx hb dX1_init_4 rfl (lv_at hl 0 rfl) ?_
  refine lv_bipush (v := nI 9) hx hb dX1_init_5 (by decide +kernel) ?_
  refine x_newi hx hb hU h (by decide) (Nat.le_refl _) (Nat.le_refl _) dX1_init_7 (fun q H h => ?_)
  have e1 : adn adr n q i = b := by rw [adn_ne adr q (Nat.ne_of_lt hi)]; exact hb0
  refine W.eq (g2 := F0 m 9 ls [.ref q, .ref (adn adr n q i)]) (by rw [e1]) ?_
  refine x_put hx hb hU hown h (i := i) (Nat.lt_succ_of_lt hi) (by rw [adn_ne ent _ (Nat.ne_of_lt hi)]; exact he) rfl iuX1 tx1_1 tyX1 tyX1_ok nmX1 7 (by decide) ufX1_9 rfl rfl rfl (by decide) (ent' := adn (adn ent n (zR (cy 0) 9)) i (.inr (1, zE (.ref q)))) (adn_eq _ _ _) (fun j _ hj => (adn_ne _ _ hj).symm) dX1_init_9 (fun H locs h => ?_)
  exact W.vret hx hb hr (fun t ht hW => ⟨⟨q, rfl, trivial, h.at ht hW⟩, h.2.2.2.2.F ht⟩) h.2.2.2.2.2.2 dX1_init_12
