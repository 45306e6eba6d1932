/-! ===== longs as natural numbers, booleans, calls that make nothing, iteration ===== -/
def itr {α : Type} (f : Nat → α → α) : Nat → Nat → α → α
  | 0, _, s => s
  | k + 1, i, s => itr f k (i + 1) (f i s)
theorem itr_add {α : Type} (f : Nat → α → α) : ∀ (a b i : Nat) (s : α), itr f (a + b) i s = itr f b (i + a) (itr f a i s) := by
  intro a
  induction a with
  | zero => intro b i s; rw [Nat.zero_add]; rfl
  | succ a ih =>
    intro b i s
    rw [show a + 1 + b = (a + b) + 1 by omega]
    show itr f (a + b) (i + 1) (f i s) = _
    rw [ih b (i + 1) (f i s), show i + 1 + a = i + (a + 1) by omega]
    rfl
theorem itr_succ {α : Type} (f : Nat → α → α) (k i : Nat) (s : α) : itr f (k + 1) i s = f (i + k) (itr f k i s) := by
  rw [itr_add f k 1 i s]; rfl
def bI (b : Bool) : Int32 := if b then 1 else 0
def inR (x : Int32) (n : Nat) : Bool := decide (0 ≤ x) && decide (x < nI n)
theorem inR_nI {j n : Nat} (hj : j < 2 ^ 31) (hn : n < 2 ^ 31) : inR (nI j) n = decide (j < n) := by
  unfold inR
  rw [decide_eq_true (nI_pos' hj), Bool.true_and]
  exact decide_eq_decide.mpr (nI_ltI hj hn)
theorem inR_of {x : Int32} {n : Nat} (hn : n < 2 ^ 31) (h : inR x n = true) : ∃ j, j < n ∧ x = nI j := by
  unfold inR at h
  rw [Bool.and_eq_true] at h
  have h0 : ¬ x < 0 := fun q => by
    have a := of_decide_eq_true h.1
    rw [Int32.lt_iff_toInt_lt] at q
    rw [Int32.le_iff_toInt_le] at a
    omega
  obtain ⟨j, hj, rfl⟩ := nI_of h0
  exact ⟨j, (nI_ltI hj hn).mp (of_decide_eq_true h.2), rfl⟩
theorem nI_dec {a b : Nat} (h : b ≤ a) : nI a + Int32.ofInt (-(b : Int)) = nI (a - b) := by
  have h1 := pk_sub h
  rw [← h1]
  rw [Int32.sub_eq_add_neg]
  congr 1
  apply Int32.toBitVec_inj.mp
  simp [nI]
theorem rm_ok {d' d maxL : Nat} {R : Room} (hR : d ≤ R.frames ∧ 32 * d ≤ R.locals) (h : d' < d) (hm : maxL ≤ 13) : (rmd d').frames + 1 ≤ R.frames ∧ 8 + (maxL + 11) + (rmd d').locals ≤ R.locals := by
  show d' + 1 ≤ R.frames ∧ 8 + (maxL + 11) + 32 * d' ≤ R.locals
  omega
section Rows2
variable {p : Program} {l : Launch} {e : Env} {R : Room} {s : State} {m : MethodId} {args : Array Value} {below : List Frame} {meth : Method} {c : Code} {H : Heap} {locs : List Loc} {cells slots : Nat} {Q : State → Prop}
variable {cc : ByteArray} {pc nL : Nat} {ls : Array Slot} {rest st0 : List Value} {D : va_G} {tys : List (ClassId × FieldType)} {n : Nat} {adr : Nat → Nat} {ent : Nat → va_E} {A : Nat → Prop} {own C : String}
variable {S : Type} {adr' : S → Nat → Nat} {ent' : S → Nat → va_E} {y : MethodName} {bytes : ByteArray} {maxL idx d d' : Nat} {As : List Value} {b : Nat}
theorem n_ladd (hx : p.tables.exec = Jvm.exec) (hb : c.code = cc) {x y : Nat} (hdg : decode cc pc = .ok (.ladd, 1)) (k : W p l e R s m args below meth c H locs cells slots Q (F0 m (pc + 1) ls (.long (lN (x + y)) :: rest))) : W p l e R s m args below meth c H locs cells slots Q (F0 m pc ls (.long (lN y) :: .long (lN x) :: rest)) :=
  lv_ladd hx hb hdg (by rw [lN_add]; exact k)
theorem n_lmul (hx : p.tables.exec = Jvm.exec) (hb : c.code = cc) {x y : Nat} (hdg : decode cc pc = .ok (.lmul, 1)) (k : W p l e R s m args below meth c H locs cells slots Q (F0 m (pc + 1) ls (.long (lN (x * y)) :: rest))) : W p l e R s m args below meth c H locs cells slots Q (F0 m pc ls (.long (lN y) :: .long (lN x) :: rest)) :=
  lv_lmul hx hb hdg (by rw [lN_mul]; exact k)
theorem lN_ne0 {n : Nat} (h0 : 0 < n) (h : n < 2 ^ 63) : ¬ lN n = 0 := fun q => by
  have := (pk_lEQ h (show 0 < 2 ^ 63 by decide)).mp (q.trans rfl)
  omega
theorem n_ldiv (hx : p.tables.exec = Jvm.exec) (hb : c.code = cc) {x y : Nat} (h1 : x < 2 ^ 63) (h0 : 0 < y) (h2 : y < 2 ^ 63) (hdg : decode cc pc = .ok (.ldiv, 1)) (k : W p l e R s m args below meth c H locs cells slots Q (F0 m (pc + 1) ls (.long (lN (x / y)) :: rest))) : W p l e R s m args below meth c H locs cells slots Q (F0 m pc ls (.long (lN y) :: .long (lN x) :: rest)) :=
  lv_ldiv hx hb hdg (lN_ne0 h0 h2) (by rw [pk_lDiv h1 h0 h2]; exact k)
theorem n_lrem (hx : p.tables.exec = Jvm.exec) (hb : c.code = cc) {x y : Nat} (h1 : x < 2 ^ 63) (h0 : 0 < y) (h2 : y < 2 ^ 63) (hdg : decode cc pc = .ok (.lrem, 1)) (k : W p l e R s m args below meth c H locs cells slots Q (F0 m (pc + 1) ls (.long (lN (x % y)) :: rest))) : W p l e R s m args below meth c H locs cells slots Q (F0 m pc ls (.long (lN y) :: .long (lN x) :: rest)) :=
  lv_lrem hx hb hdg (lN_ne0 h0 h2) (by rw [pk_lRem h1 h0 h2]; exact k)
theorem n_i2l (hx : p.tables.exec = Jvm.exec) (hb : c.code = cc) {x : Nat} (h1 : x < 2 ^ 31) (hdg : decode cc pc = .ok (.i2l, 1)) (k : W p l e R s m args below meth c H locs cells slots Q (F0 m (pc + 1) ls (.long (lN x) :: rest))) : W p l e R s m args below meth c H locs cells slots Q (F0 m pc ls (.int (nI x) :: rest)) :=
  lv_i2l (v := lN x) hx hb hdg (nI_l h1) k
theorem n_l2i (hx : p.tables.exec = Jvm.exec) (hb : c.code = cc) {x : Nat} (hdg : decode cc pc = .ok (.l2i, 1)) (k : W p l e R s m args below meth c H locs cells slots Q (F0 m (pc + 1) ls (.int (nI x) :: rest))) : W p l e R s m args below meth c H locs cells slots Q (F0 m pc ls (.long (lN x) :: rest)) :=
  lv_l2i (v := nI x) hx hb hdg (lN_i x) k
theorem lv_ldc2l (hx : p.tables.exec = Jvm.exec) (hb : c.code = cc) {idx : Nat} {v : Int64} (hown : s.vm.findClass own = some m.cls) (hconst : (Jvm.Cond.constantLong own idx v).before args s = true) (hdg : decode cc pc = .ok (.ldc2_w idx, 3)) (k : W p l e R s m args below meth c H locs cells slots Q (F0 m (pc + 3) ls (.long v :: rest))) : W p l e R s m args below meth c H locs cells slots Q (F0 m pc ls rest) :=
  lv_ldc2 hx hb hown hconst hdg k
theorem n_lif_eq (hx : p.tables.exec = Jvm.exec) (hb : c.code = cc) {x y : Nat} (h1 : x < 2 ^ 63) (h2 : y < 2 ^ 63) {off : Int} {tgt : Nat} (hdg : decode cc pc = .ok (.ifCond .eq off, 3)) (ht : (pc : Int) + off = (tgt : Int)) (kt : x = y → W p l e R s m args below meth c H locs cells slots Q (F0 m tgt ls rest)) (kf : x ≠ y → W p l e R s m args below meth c H locs cells slots Q (F0 m (pc + 3) ls rest)) : W p l e R s m args below meth c H locs cells slots Q (F0 m pc ls (.int (lg_cmp (lN x) (lN y)) :: rest)) :=
  lv_if_eq hx hb hdg ht (fun h => kt ((pk_lEQ h1 h2).mp ((lg_cmp_eq _ _).mp h))) (fun h => kf (fun q => h ((lg_cmp_eq _ _).mpr ((pk_lEQ h1 h2).mpr q))))
theorem n_lif_ne (hx : p.tables.exec = Jvm.exec) (hb : c.code = cc) {x y : Nat} (h1 : x < 2 ^ 63) (h2 : y < 2 ^ 63) {off : Int} {tgt : Nat} (hdg : decode cc pc = .ok (.ifCond .ne off, 3)) (ht : (pc : Int) + off = (tgt : Int)) (kt : x ≠ y → W p l e R s m args below meth c H locs cells slots Q (F0 m tgt ls rest)) (kf : x = y → W p l e R s m args below meth c H locs cells slots Q (F0 m (pc + 3) ls rest)) : W p l e R s m args below meth c H locs cells slots Q (F0 m pc ls (.int (lg_cmp (lN x) (lN y)) :: rest)) :=
  lv_if_ne hx hb hdg ht (fun h => kt (fun q => h ((lg_cmp_eq _ _).mpr ((pk_lEQ h1 h2).mpr q)))) (fun h => kf ((pk_lEQ h1 h2).mp ((lg_cmp_eq _ _).mp h)))
theorem n_lif_le (hx : p.tables.exec = Jvm.exec) (hb : c.code = cc) {x y : Nat} (h1 : x < 2 ^ 63) (h2 : y < 2 ^ 63) {off : Int} {tgt : Nat} (hdg : decode cc pc = .ok (.ifCond .le off, 3)) (ht : (pc : Int) + off = (tgt : Int)) (kt : x ≤ y → W p l e R s m args below meth c H locs cells slots Q (F0 m tgt ls rest)) (kf : y < x → W p l e R s m args below meth c H locs cells slots Q (F0 m (pc + 3) ls rest)) : W p l e R s m args below meth c H locs cells slots Q (F0 m pc ls (.int (lg_cmp (lN x) (lN y)) :: rest)) :=
  lv_if_le hx hb hdg ht (fun h => kt ((pk_lLE h1 h2).mp ((lg_cmp_le _ _).mp h))) (fun h => kf (Nat.not_le.mp (fun q => h ((lg_cmp_le _ _).mpr ((pk_lLE h1 h2).mpr q)))))
theorem n_lif_ge (hx : p.tables.exec = Jvm.exec) (hb : c.code = cc) {x y : Nat} (h1 : x < 2 ^ 63) (h2 : y < 2 ^ 63) {off : Int} {tgt : Nat} (hdg : decode cc pc = .ok (.ifCond .ge off, 3)) (ht : (pc : Int) + off = (tgt : Int)) (kt : y ≤ x → W p l e R s m args below meth c H locs cells slots Q (F0 m tgt ls rest)) (kf : x < y → W p l e R s m args below meth c H locs cells slots Q (F0 m (pc + 3) ls rest)) : W p l e R s m args below meth c H locs cells slots Q (F0 m pc ls (.int (lg_cmp (lN x) (lN y)) :: rest)) :=
  lv_if_ge hx hb hdg ht (fun h => kt ((pk_lLE h2 h1).mp ((lg_cmp_ge _ _).mp h))) (fun h => kf (Nat.not_le.mp (fun q => h ((lg_cmp_ge _ _).mpr ((pk_lLE h2 h1).mpr q)))))
theorem n_lif_gt (hx : p.tables.exec = Jvm.exec) (hb : c.code = cc) {x y : Nat} (h1 : x < 2 ^ 63) (h2 : y < 2 ^ 63) {off : Int} {tgt : Nat} (hdg : decode cc pc = .ok (.ifCond .gt off, 3)) (ht : (pc : Int) + off = (tgt : Int)) (kt : y < x → W p l e R s m args below meth c H locs cells slots Q (F0 m tgt ls rest)) (kf : x ≤ y → W p l e R s m args below meth c H locs cells slots Q (F0 m (pc + 3) ls rest)) : W p l e R s m args below meth c H locs cells slots Q (F0 m pc ls (.int (lg_cmp (lN x) (lN y)) :: rest)) :=
  lv_if_gt hx hb hdg ht (fun h => kt ((pk_lLT h2 h1).mp ((lg_cmp_gt _ _).mp h))) (fun h => kf (Nat.not_lt.mp (fun q => h ((lg_cmp_gt _ _).mpr ((pk_lLT h2 h1).mpr q)))))
theorem n_lif_lt (hx : p.tables.exec = Jvm.exec) (hb : c.code = cc) {x y : Nat} (h1 : x < 2 ^ 63) (h2 : y < 2 ^ 63) {off : Int} {tgt : Nat} (hdg : decode cc pc = .ok (.ifCond .lt off, 3)) (ht : (pc : Int) + off = (tgt : Int)) (kt : x < y → W p l e R s m args below meth c H locs cells slots Q (F0 m tgt ls rest)) (kf : y ≤ x → W p l e R s m args below meth c H locs cells slots Q (F0 m (pc + 3) ls rest)) : W p l e R s m args below meth c H locs cells slots Q (F0 m pc ls (.int (lg_cmp (lN x) (lN y)) :: rest)) :=
  lv_if_lt hx hb hdg ht (fun h => kt ((pk_lLT h1 h2).mp ((lg_cmp_lt _ _).mp h))) (fun h => kf (Nat.not_lt.mp (fun q => h ((lg_cmp_lt _ _).mpr ((pk_lLT h1 h2).mpr q)))))
theorem z_if_eq (hx : p.tables.exec = Jvm.exec) (hb : c.code = cc) {x : Bool} {off : Int} {tgt : Nat} (hdg : decode cc pc = .ok (.ifCond .eq off, 3)) (ht : (pc : Int) + off = (tgt : Int)) (kt : x = false → W p l e R s m args below meth c H locs cells slots Q (F0 m tgt ls rest)) (kf : x = true → W p l e R s m args below meth c H locs cells slots Q (F0 m (pc + 3) ls rest)) : W p l e R s m args below meth c H locs cells slots Q (F0 m pc ls (.int (bI x) :: rest)) := by
  cases x
  · exact lv_if_eq hx hb hdg ht (fun _ => kt rfl) (fun h => absurd rfl h)
  · exact lv_if_eq hx hb hdg ht (fun h => absurd h (by decide +kernel)) (fun _ => kf rfl)
theorem z_if_ne (hx : p.tables.exec = Jvm.exec) (hb : c.code = cc) {x : Bool} {off : Int} {tgt : Nat} (hdg : decode cc pc = .ok (.ifCond .ne off, 3)) (ht : (pc : Int) + off = (tgt : Int)) (kt : x = true → W p l e R s m args below meth c H locs cells slots Q (F0 m tgt ls rest)) (kf : x = false → W p l e R s m args below meth c H locs cells slots Q (F0 m (pc + 3) ls rest)) : W p l e R s m args below meth c H locs cells slots Q (F0 m pc ls (.int (bI x) :: rest)) := by
  cases x
  · exact lv_if_ne hx hb hdg ht (fun h => absurd rfl h) (fun _ => kf rfl)
  · exact lv_if_ne hx hb hdg ht (fun _ => kt rfl) (fun h => absurd h (by decide +kernel))
theorem i_mmax (hx : p.tables.exec = Jvm.exec) (hb : c.code = cc) (hml : c.maxLocals = nL) (hls : ls.size = nL) (hU : ∀ w ∈ UW, w.before args s = true) (hown : s.vm.findClass own = some m.cls) (hl : Cond.methodLink own idx Lib.Math.max.name ∈ UW) (hframes : 1 ≤ R.frames) (hlocals : (rest.map fun v => v.category).sum + 13 ≤ R.locals) (hc : cells ≤ R.cells) (hs : slots ≤ R.slots) {x y : Int32} (hdg : decode cc pc = .ok (.invokestatic idx, 3))
    (kk : W p l e R s m args below meth c H locs cells slots Q (F0 m (pc + 3) ls (.int (if x < y then y else x) :: rest))) : W p l e R s m args below meth c H locs cells slots Q (F0 m pc ls (.int y :: .int x :: rest)) :=
  va_mmax hx hb (hml.trans hls.symm) hown (hU _ hl) (hU _ uz_mmax) (hU _ unJ9) (hU _ uc_mmax) hframes hlocals hc hs hdg kk
theorem y_callv (hx : p.tables.exec = Jvm.exec) (hb : c.code = cc) (hml : c.maxLocals = nL) (hU : ∀ w ∈ UW, w.before args s = true) (hown : s.vm.findClass own = some m.cls) (hR : d ≤ R.frames ∧ 32 * d ≤ R.locals) (hcs : cells ≤ R.cells ∧ slots ≤ R.slots) (h : WX D tys n adr ent s A H locs) {post : S → Prop}
    (hM : Met l y (Cond.code y bytes maxL none :: UW) (rmd d') (va_Pc (.ref b :: As) (preW D tys n adr ent H.size)) (va_Qv post (fun u => atW D tys n (adr' u) (ent' u) (va_A (wv n adr ent) H.size)) (va_A (wv n adr ent) H.size)) 0 0 (va_A (wv n adr ent) H.size))
    (h1 : Cond.methodLink own idx y ∈ UW) (h2 : Cond.instanceMethod y ∈ UW) (h3 : Cond.selects C y y ∈ UW) (h4 : Cond.initialized C ∈ UW) (h5 : Cond.code y bytes maxL none ∈ UW)
    (hd : y.cls = C ∧ y.cls ≠ "java/lang/invoke/MethodHandle" ∧ y.cls ≠ "java/lang/invoke/VarHandle" ∧ (parseMethodDescriptor y.desc).map (fun d => d.parameters.length) = some As.length) (hdd : d' < d) (hm : maxL ≤ 13)
    (hrecv : ∃ cell : Cell, H[b]? = some cell ∧ cell.vm.isStatics = false ∧ s.vm.findClass C = some cell.cls) (hls : ls.size = nL) (hst : st0 = As.reverse ++ .ref b :: rest) (hW : (rest.map fun v => v.category).sum ≤ 8) (hdg : decode cc pc = .ok (.invokevirtual idx, 3))
    (kk : ∀ (u : S) (H1 : Heap) (locs1 : List Loc), post u → WX D tys n (adr' u) (ent' u) s A H1 locs1 → W p l e R s m args below meth c H1 locs1 cells slots Q (F0 m (pc + 3) ls rest)) : W p l e R s m args below meth c H locs cells slots Q (F0 m pc ls st0) :=
  x_callv (rm := rmd d') hx hb hml hU hown h hM h1 h2 h3 h4 h5 hd (rm_ok hR hdd hm) hrecv hls hst hW hdg ⟨hcs.1, hcs.2⟩ kk
theorem y_calli (hx : p.tables.exec = Jvm.exec) (hb : c.code = cc) (hml : c.maxLocals = nL) (hU : ∀ w ∈ UW, w.before args s = true) (hown : s.vm.findClass own = some m.cls) (hR : d ≤ R.frames ∧ 32 * d ≤ R.locals) (hcs : cells ≤ R.cells ∧ slots ≤ R.slots) (h : WX D tys n adr ent s A H locs) {ret : Option FieldType} {post : Int32 → S → Prop}
    (hM : Met l y (Cond.code y bytes maxL ret :: UW) (rmd d') (va_Pc (.ref b :: As) (preW D tys n adr ent H.size)) (va_Qi post (fun u => atW D tys n (adr' u) (ent' u) (va_A (wv n adr ent) H.size)) (va_A (wv n adr ent) H.size)) 0 0 (va_A (wv n adr ent) H.size))
    (h1 : Cond.methodLink own idx y ∈ UW) (h2 : Cond.instanceMethod y ∈ UW) (h3 : Cond.selects C y y ∈ UW) (h4 : Cond.initialized C ∈ UW) (h5 : Cond.code y bytes maxL ret ∈ UW)
    (hd : y.cls = C ∧ y.cls ≠ "java/lang/invoke/MethodHandle" ∧ y.cls ≠ "java/lang/invoke/VarHandle" ∧ (parseMethodDescriptor y.desc).map (fun d => d.parameters.length) = some As.length) (hdd : d' < d) (hm : maxL ≤ 13)
    (hrecv : ∃ cell : Cell, H[b]? = some cell ∧ cell.vm.isStatics = false ∧ s.vm.findClass C = some cell.cls) (hls : ls.size = nL) (hst : st0 = As.reverse ++ .ref b :: rest) (hW : (rest.map fun v => v.category).sum ≤ 8) (hdg : decode cc pc = .ok (.invokevirtual idx, 3))
    (kk : ∀ (r : Int32) (u : S) (H1 : Heap) (locs1 : List Loc), post r u → WX D tys n (adr' u) (ent' u) s A H1 locs1 → W p l e R s m args below meth c H1 locs1 cells slots Q (F0 m (pc + 3) ls (.int r :: rest))) : W p l e R s m args below meth c H locs cells slots Q (F0 m pc ls st0) :=
  x_calli (rm := rmd d') hx hb hml hU hown h hM h1 h2 h3 h4 h5 hd (rm_ok hR hdd hm) hrecv hls hst hW hdg ⟨hcs.1, hcs.2⟩ kk
theorem y_calll (hx : p.tables.exec = Jvm.exec) (hb : c.code = cc) (hml : c.maxLocals = nL) (hU : ∀ w ∈ UW, w.before args s = true) (hown : s.vm.findClass own = some m.cls) (hR : d ≤ R.frames ∧ 32 * d ≤ R.locals) (hcs : cells ≤ R.cells ∧ slots ≤ R.slots) (h : WX D tys n adr ent s A H locs) {ret : Option FieldType} {post : Int64 → S → Prop}
    (hM : Met l y (Cond.code y bytes maxL ret :: UW) (rmd d') (va_Pc (.ref b :: As) (preW D tys n adr ent H.size)) (va_Ql post (fun u => atW D tys n (adr' u) (ent' u) (va_A (wv n adr ent) H.size)) (va_A (wv n adr ent) H.size)) 0 0 (va_A (wv n adr ent) H.size))
    (h1 : Cond.methodLink own idx y ∈ UW) (h2 : Cond.instanceMethod y ∈ UW) (h3 : Cond.selects C y y ∈ UW) (h4 : Cond.initialized C ∈ UW) (h5 : Cond.code y bytes maxL ret ∈ UW)
    (hd : y.cls = C ∧ y.cls ≠ "java/lang/invoke/MethodHandle" ∧ y.cls ≠ "java/lang/invoke/VarHandle" ∧ (parseMethodDescriptor y.desc).map (fun d => d.parameters.length) = some As.length) (hdd : d' < d) (hm : maxL ≤ 13)
    (hrecv : ∃ cell : Cell, H[b]? = some cell ∧ cell.vm.isStatics = false ∧ s.vm.findClass C = some cell.cls) (hls : ls.size = nL) (hst : st0 = As.reverse ++ .ref b :: rest) (hW : (rest.map fun v => v.category).sum ≤ 8) (hdg : decode cc pc = .ok (.invokevirtual idx, 3))
    (kk : ∀ (r : Int64) (u : S) (H1 : Heap) (locs1 : List Loc), post r u → WX D tys n (adr' u) (ent' u) s A H1 locs1 → W p l e R s m args below meth c H1 locs1 cells slots Q (F0 m (pc + 3) ls (.long r :: rest))) : W p l e R s m args below meth c H locs cells slots Q (F0 m pc ls st0) :=
  x_calll (rm := rmd d') hx hb hml hU hown h hM h1 h2 h3 h4 h5 hd (rm_ok hR hdd hm) hrecv hls hst hW hdg ⟨hcs.1, hcs.2⟩ kk
theorem y_callSi (hx : p.tables.exec = Jvm.exec) (hb : c.code = cc) (hml : c.maxLocals = nL) (hU : ∀ w ∈ UW, w.before args s = true) (hown : s.vm.findClass own = some m.cls) (hR : d ≤ R.frames ∧ 32 * d ≤ R.locals) (hcs : cells ≤ R.cells ∧ slots ≤ R.slots) (h : WX D tys n adr ent s A H locs) {ret : Option FieldType} {post : Int32 → S → Prop}
    (hM : Met l y (Cond.code y bytes maxL ret :: UW) (rmd d') (va_Pc As (preW D tys n adr ent H.size)) (va_Qi post (fun u => atW D tys n (adr' u) (ent' u) (va_A (wv n adr ent) H.size)) (va_A (wv n adr ent) H.size)) 0 0 (va_A (wv n adr ent) H.size))
    (h1 : Cond.methodLink own idx y ∈ UW) (h2 : Cond.static y ∈ UW) (h4 : Cond.initialized y.cls ∈ UW) (h5 : Cond.code y bytes maxL ret ∈ UW)
    (hd : y.cls ≠ "java/lang/invoke/MethodHandle" ∧ y.cls ≠ "java/lang/invoke/VarHandle" ∧ (parseMethodDescriptor y.desc).map (fun d => d.parameters.length) = some As.length) (hdd : d' < d) (hm : maxL ≤ 13)
    (hls : ls.size = nL) (hst : st0 = As.reverse ++ rest) (hW : (rest.map fun v => v.category).sum ≤ 8) (hdg : decode cc pc = .ok (.invokestatic idx, 3))
    (kk : ∀ (r : Int32) (u : S) (H1 : Heap) (locs1 : List Loc), post r u → WX D tys n (adr' u) (ent' u) s A H1 locs1 → W p l e R s m args below meth c H1 locs1 cells slots Q (F0 m (pc + 3) ls (.int r :: rest))) : W p l e R s m args below meth c H locs cells slots Q (F0 m pc ls st0) :=
  x_callSi (rm := rmd d') hx hb hml hU hown h hM h1 h2 h4 h5 hd (rm_ok hR hdd hm) hls hst hW hdg ⟨hcs.1, hcs.2⟩ kk
theorem y_callSl (hx : p.tables.exec = Jvm.exec) (hb : c.code = cc) (hml : c.maxLocals = nL) (hU : ∀ w ∈ UW, w.before args s = true) (hown : s.vm.findClass own = some m.cls) (hR : d ≤ R.frames ∧ 32 * d ≤ R.locals) (hcs : cells ≤ R.cells ∧ slots ≤ R.slots) (h : WX D tys n adr ent s A H locs) {ret : Option FieldType} {post : Int64 → S → Prop}
    (hM : Met l y (Cond.code y bytes maxL ret :: UW) (rmd d') (va_Pc As (preW D tys n adr ent H.size)) (va_Ql post (fun u => atW D tys n (adr' u) (ent' u) (va_A (wv n adr ent) H.size)) (va_A (wv n adr ent) H.size)) 0 0 (va_A (wv n adr ent) H.size))
    (h1 : Cond.methodLink own idx y ∈ UW) (h2 : Cond.static y ∈ UW) (h4 : Cond.initialized y.cls ∈ UW) (h5 : Cond.code y bytes maxL ret ∈ UW)
    (hd : y.cls ≠ "java/lang/invoke/MethodHandle" ∧ y.cls ≠ "java/lang/invoke/VarHandle" ∧ (parseMethodDescriptor y.desc).map (fun d => d.parameters.length) = some As.length) (hdd : d' < d) (hm : maxL ≤ 13)
    (hls : ls.size = nL) (hst : st0 = As.reverse ++ rest) (hW : (rest.map fun v => v.category).sum ≤ 8) (hdg : decode cc pc = .ok (.invokestatic idx, 3))
    (kk : ∀ (r : Int64) (u : S) (H1 : Heap) (locs1 : List Loc), post r u → WX D tys n (adr' u) (ent' u) s A H1 locs1 → W p l e R s m args below meth c H1 locs1 cells slots Q (F0 m (pc + 3) ls (.long r :: rest))) : W p l e R s m args below meth c H locs cells slots Q (F0 m pc ls st0) :=
  x_callSl (rm := rmd d') hx hb hml hU hown h hM h1 h2 h4 h5 hd (rm_ok hR hdd hm) hls hst hW hdg ⟨hcs.1, hcs.2⟩ kk
end Rows2
/-! ===== how many arguments a method takes ===== -/
theorem hd_X0_bringToStart : yX0_bringToStart.cls = RX0 ∧ yX0_bringToStart.cls ≠ "java/lang/invoke/MethodHandle" ∧ yX0_bringToStart.cls ≠ "java/lang/invoke/VarHandle" ∧ (parseMethodDescriptor yX0_bringToStart.desc).map (fun d => d.parameters.length) = some 0 := by decide +kernel
theorem hd_X0_work : yX0_work.cls = RX0 ∧ yX0_work.cls ≠ "java/lang/invoke/MethodHandle" ∧ yX0_work.cls ≠ "java/lang/invoke/VarHandle" ∧ (parseMethodDescriptor yX0_work.desc).map (fun d => d.parameters.length) = some 1 := by decide +kernel
theorem hd_X1_bringToStart : yX1_bringToStart.cls = RX1 ∧ yX1_bringToStart.cls ≠ "java/lang/invoke/MethodHandle" ∧ yX1_bringToStart.cls ≠ "java/lang/invoke/VarHandle" ∧ (parseMethodDescriptor yX1_bringToStart.desc).map (fun d => d.parameters.length) = some 0 := by decide +kernel
theorem hd_X1_beginCounting : yX1_beginCounting.cls = RX1 ∧ yX1_beginCounting.cls ≠ "java/lang/invoke/MethodHandle" ∧ yX1_beginCounting.cls ≠ "java/lang/invoke/VarHandle" ∧ (parseMethodDescriptor yX1_beginCounting.desc).map (fun d => d.parameters.length) = some 0 := by decide +kernel
theorem hd_X1_countFiring : yX1_countFiring.cls = RX1 ∧ yX1_countFiring.cls ≠ "java/lang/invoke/MethodHandle" ∧ yX1_countFiring.cls ≠ "java/lang/invoke/VarHandle" ∧ (parseMethodDescriptor yX1_countFiring.desc).map (fun d => d.parameters.length) = some 1 := by decide +kernel
theorem hd_X1_makeRoom : yX1_makeRoom.cls = RX1 ∧ yX1_makeRoom.cls ≠ "java/lang/invoke/MethodHandle" ∧ yX1_makeRoom.cls ≠ "java/lang/invoke/VarHandle" ∧ (parseMethodDescriptor yX1_makeRoom.desc).map (fun d => d.parameters.length) = some 0 := by decide +kernel
theorem hd_X1_handOver : yX1_handOver.cls = RX1 ∧ yX1_handOver.cls ≠ "java/lang/invoke/MethodHandle" ∧ yX1_handOver.cls ≠ "java/lang/invoke/VarHandle" ∧ (parseMethodDescriptor yX1_handOver.desc).map (fun d => d.parameters.length) = some 1 := by decide +kernel
theorem hd_X1_receive : yX1_receive.cls = RX1 ∧ yX1_receive.cls ≠ "java/lang/invoke/MethodHandle" ∧ yX1_receive.cls ≠ "java/lang/invoke/VarHandle" ∧ (parseMethodDescriptor yX1_receive.desc).map (fun d => d.parameters.length) = some 1 := by decide +kernel
theorem hd_X1_look : yX1_look.cls = RX1 ∧ yX1_look.cls ≠ "java/lang/invoke/MethodHandle" ∧ yX1_look.cls ≠ "java/lang/invoke/VarHandle" ∧ (parseMethodDescriptor yX1_look.desc).map (fun d => d.parameters.length) = some 1 := by decide +kernel
theorem hd_X1_place : yX1_place.cls = RX1 ∧ yX1_place.cls ≠ "java/lang/invoke/MethodHandle" ∧ yX1_place.cls ≠ "java/lang/invoke/VarHandle" ∧ (parseMethodDescriptor yX1_place.desc).map (fun d => d.parameters.length) = some 1 := by decide +kernel
theorem hd_X2_forget : yX2_forget.cls = RX2 ∧ yX2_forget.cls ≠ "java/lang/invoke/MethodHandle" ∧ yX2_forget.cls ≠ "java/lang/invoke/VarHandle" ∧ (parseMethodDescriptor yX2_forget.desc).map (fun d => d.parameters.length) = some 0 := by decide +kernel
theorem hd_X2_add : yX2_add.cls = RX2 ∧ yX2_add.cls ≠ "java/lang/invoke/MethodHandle" ∧ yX2_add.cls ≠ "java/lang/invoke/VarHandle" ∧ (parseMethodDescriptor yX2_add.desc).map (fun d => d.parameters.length) = some 1 := by decide +kernel
theorem hd_X3_actor : yX3_actor.cls = RX3 ∧ yX3_actor.cls ≠ "java/lang/invoke/MethodHandle" ∧ yX3_actor.cls ≠ "java/lang/invoke/VarHandle" ∧ (parseMethodDescriptor yX3_actor.desc).map (fun d => d.parameters.length) = some 2 := by decide +kernel
theorem hd_X3_edge : yX3_edge.cls = RX3 ∧ yX3_edge.cls ≠ "java/lang/invoke/MethodHandle" ∧ yX3_edge.cls ≠ "java/lang/invoke/VarHandle" ∧ (parseMethodDescriptor yX3_edge.desc).map (fun d => d.parameters.length) = some 5 := by decide +kernel
theorem hd_X3_delay : yX3_delay.cls = RX3 ∧ yX3_delay.cls ≠ "java/lang/invoke/MethodHandle" ∧ yX3_delay.cls ≠ "java/lang/invoke/VarHandle" ∧ (parseMethodDescriptor yX3_delay.desc).map (fun d => d.parameters.length) = some 2 := by decide +kernel
theorem hd_X3_reset : yX3_reset.cls = RX3 ∧ yX3_reset.cls ≠ "java/lang/invoke/MethodHandle" ∧ yX3_reset.cls ≠ "java/lang/invoke/VarHandle" ∧ (parseMethodDescriptor yX3_reset.desc).map (fun d => d.parameters.length) = some 0 := by decide +kernel
theorem hd_X3_clear : yX3_clear.cls = RX3 ∧ yX3_clear.cls ≠ "java/lang/invoke/MethodHandle" ∧ yX3_clear.cls ≠ "java/lang/invoke/VarHandle" ∧ (parseMethodDescriptor yX3_clear.desc).map (fun d => d.parameters.length) = some 0 := by decide +kernel
theorem hd_X3_actors : yX3_actors.cls = RX3 ∧ yX3_actors.cls ≠ "java/lang/invoke/MethodHandle" ∧ yX3_actors.cls ≠ "java/lang/invoke/VarHandle" ∧ (parseMethodDescriptor yX3_actors.desc).map (fun d => d.parameters.length) = some 0 := by decide +kernel
theorem hd_X3_edges : yX3_edges.cls = RX3 ∧ yX3_edges.cls ≠ "java/lang/invoke/MethodHandle" ∧ yX3_edges.cls ≠ "java/lang/invoke/VarHandle" ∧ (parseMethodDescriptor yX3_edges.desc).map (fun d => d.parameters.length) = some 0 := by decide +kernel
theorem hd_X3_plan : yX3_plan.cls = RX3 ∧ yX3_plan.cls ≠ "java/lang/invoke/MethodHandle" ∧ yX3_plan.cls ≠ "java/lang/invoke/VarHandle" ∧ (parseMethodDescriptor yX3_plan.desc).map (fun d => d.parameters.length) = some 0 := by decide +kernel
theorem hd_X3_planned : yX3_planned.cls = RX3 ∧ yX3_planned.cls ≠ "java/lang/invoke/MethodHandle" ∧ yX3_planned.cls ≠ "java/lang/invoke/VarHandle" ∧ (parseMethodDescriptor yX3_planned.desc).map (fun d => d.parameters.length) = some 0 := by decide +kernel
theorem hd_X3_firing : yX3_firing.cls = RX3 ∧ yX3_firing.cls ≠ "java/lang/invoke/MethodHandle" ∧ yX3_firing.cls ≠ "java/lang/invoke/VarHandle" ∧ (parseMethodDescriptor yX3_firing.desc).map (fun d => d.parameters.length) = some 1 := by decide +kernel
theorem hd_X3_repetitions : yX3_repetitions.cls = RX3 ∧ yX3_repetitions.cls ≠ "java/lang/invoke/MethodHandle" ∧ yX3_repetitions.cls ≠ "java/lang/invoke/VarHandle" ∧ (parseMethodDescriptor yX3_repetitions.desc).map (fun d => d.parameters.length) = some 1 := by decide +kernel
theorem hd_X3_bound : yX3_bound.cls = RX3 ∧ yX3_bound.cls ≠ "java/lang/invoke/MethodHandle" ∧ yX3_bound.cls ≠ "java/lang/invoke/VarHandle" ∧ (parseMethodDescriptor yX3_bound.desc).map (fun d => d.parameters.length) = some 1 := by decide +kernel
theorem hd_X3_run : yX3_run.cls = RX3 ∧ yX3_run.cls ≠ "java/lang/invoke/MethodHandle" ∧ yX3_run.cls ≠ "java/lang/invoke/VarHandle" ∧ (parseMethodDescriptor yX3_run.desc).map (fun d => d.parameters.length) = some 1 := by decide +kernel
theorem hd_X3_tokens : yX3_tokens.cls = RX3 ∧ yX3_tokens.cls ≠ "java/lang/invoke/MethodHandle" ∧ yX3_tokens.cls ≠ "java/lang/invoke/VarHandle" ∧ (parseMethodDescriptor yX3_tokens.desc).map (fun d => d.parameters.length) = some 1 := by decide +kernel
theorem hd_X3_token : yX3_token.cls = RX3 ∧ yX3_token.cls ≠ "java/lang/invoke/MethodHandle" ∧ yX3_token.cls ≠ "java/lang/invoke/VarHandle" ∧ (parseMethodDescriptor yX3_token.desc).map (fun d => d.parameters.length) = some 2 := by decide +kernel
theorem hd_X3_value : yX3_value.cls = RX3 ∧ yX3_value.cls ≠ "java/lang/invoke/MethodHandle" ∧ yX3_value.cls ≠ "java/lang/invoke/VarHandle" ∧ (parseMethodDescriptor yX3_value.desc).map (fun d => d.parameters.length) = some 1 := by decide +kernel
theorem hd_X3_state : yX3_state.cls = RX3 ∧ yX3_state.cls ≠ "java/lang/invoke/MethodHandle" ∧ yX3_state.cls ≠ "java/lang/invoke/VarHandle" ∧ (parseMethodDescriptor yX3_state.desc).map (fun d => d.parameters.length) = some 1 := by decide +kernel
theorem hd_X3_isActor : yX3_isActor.cls = RX3 ∧ yX3_isActor.cls ≠ "java/lang/invoke/MethodHandle" ∧ yX3_isActor.cls ≠ "java/lang/invoke/VarHandle" ∧ (parseMethodDescriptor yX3_isActor.desc).map (fun d => d.parameters.length) = some 1 := by decide +kernel
theorem hd_X3_isEdge : yX3_isEdge.cls = RX3 ∧ yX3_isEdge.cls ≠ "java/lang/invoke/MethodHandle" ∧ yX3_isEdge.cls ≠ "java/lang/invoke/VarHandle" ∧ (parseMethodDescriptor yX3_isEdge.desc).map (fun d => d.parameters.length) = some 1 := by decide +kernel
theorem hd_X3_isAtOnce : yX3_isAtOnce.cls = RX3 ∧ yX3_isAtOnce.cls ≠ "java/lang/invoke/MethodHandle" ∧ yX3_isAtOnce.cls ≠ "java/lang/invoke/VarHandle" ∧ (parseMethodDescriptor yX3_isAtOnce.desc).map (fun d => d.parameters.length) = some 1 := by decide +kernel
theorem hd_X3_isWaiting : yX3_isWaiting.cls = RX3 ∧ yX3_isWaiting.cls ≠ "java/lang/invoke/MethodHandle" ∧ yX3_isWaiting.cls ≠ "java/lang/invoke/VarHandle" ∧ (parseMethodDescriptor yX3_isWaiting.desc).map (fun d => d.parameters.length) = some 1 := by decide +kernel
theorem hd_X3_noteChange : yX3_noteChange.cls = RX3 ∧ yX3_noteChange.cls ≠ "java/lang/invoke/MethodHandle" ∧ yX3_noteChange.cls ≠ "java/lang/invoke/VarHandle" ∧ (parseMethodDescriptor yX3_noteChange.desc).map (fun d => d.parameters.length) = some 0 := by decide +kernel
theorem hd_X3_bringToStart : yX3_bringToStart.cls = RX3 ∧ yX3_bringToStart.cls ≠ "java/lang/invoke/MethodHandle" ∧ yX3_bringToStart.cls ≠ "java/lang/invoke/VarHandle" ∧ (parseMethodDescriptor yX3_bringToStart.desc).map (fun d => d.parameters.length) = some 0 := by decide +kernel
theorem hd_X3_spreadRepetitions : yX3_spreadRepetitions.cls = RX3 ∧ yX3_spreadRepetitions.cls ≠ "java/lang/invoke/MethodHandle" ∧ yX3_spreadRepetitions.cls ≠ "java/lang/invoke/VarHandle" ∧ (parseMethodDescriptor yX3_spreadRepetitions.desc).map (fun d => d.parameters.length) = some 0 := by decide +kernel
theorem hd_X3_spreadAlong : yX3_spreadAlong.cls = RX3 ∧ yX3_spreadAlong.cls ≠ "java/lang/invoke/MethodHandle" ∧ yX3_spreadAlong.cls ≠ "java/lang/invoke/VarHandle" ∧ (parseMethodDescriptor yX3_spreadAlong.desc).map (fun d => d.parameters.length) = some 1 := by decide +kernel
theorem hd_X3_reach : yX3_reach.cls = RX3 ∧ yX3_reach.cls ≠ "java/lang/invoke/MethodHandle" ∧ yX3_reach.cls ≠ "java/lang/invoke/VarHandle" ∧ (parseMethodDescriptor yX3_reach.desc).map (fun d => d.parameters.length) = some 3 := by decide +kernel
theorem hd_X3_isConnected : yX3_isConnected.cls = RX3 ∧ yX3_isConnected.cls ≠ "java/lang/invoke/MethodHandle" ∧ yX3_isConnected.cls ≠ "java/lang/invoke/VarHandle" ∧ (parseMethodDescriptor yX3_isConnected.desc).map (fun d => d.parameters.length) = some 0 := by decide +kernel
theorem hd_X3_isBalanced : yX3_isBalanced.cls = RX3 ∧ yX3_isBalanced.cls ≠ "java/lang/invoke/MethodHandle" ∧ yX3_isBalanced.cls ≠ "java/lang/invoke/VarHandle" ∧ (parseMethodDescriptor yX3_isBalanced.desc).map (fun d => d.parameters.length) = some 0 := by decide +kernel
theorem hd_X3_reduceRepetitions : yX3_reduceRepetitions.cls = RX3 ∧ yX3_reduceRepetitions.cls ≠ "java/lang/invoke/MethodHandle" ∧ yX3_reduceRepetitions.cls ≠ "java/lang/invoke/VarHandle" ∧ (parseMethodDescriptor yX3_reduceRepetitions.desc).map (fun d => d.parameters.length) = some 0 := by decide +kernel
theorem hd_X3_greatestDivisor : yX3_greatestDivisor.cls = RX3 ∧ yX3_greatestDivisor.cls ≠ "java/lang/invoke/MethodHandle" ∧ yX3_greatestDivisor.cls ≠ "java/lang/invoke/VarHandle" ∧ (parseMethodDescriptor yX3_greatestDivisor.desc).map (fun d => d.parameters.length) = some 2 := by decide +kernel
theorem hd_X3_sumOfRepetitions : yX3_sumOfRepetitions.cls = RX3 ∧ yX3_sumOfRepetitions.cls ≠ "java/lang/invoke/MethodHandle" ∧ yX3_sumOfRepetitions.cls ≠ "java/lang/invoke/VarHandle" ∧ (parseMethodDescriptor yX3_sumOfRepetitions.desc).map (fun d => d.parameters.length) = some 0 := by decide +kernel
theorem hd_X3_layOut : yX3_layOut.cls = RX3 ∧ yX3_layOut.cls ≠ "java/lang/invoke/MethodHandle" ∧ yX3_layOut.cls ≠ "java/lang/invoke/VarHandle" ∧ (parseMethodDescriptor yX3_layOut.desc).map (fun d => d.parameters.length) = some 1 := by decide +kernel
theorem hd_X3_nextToFire : yX3_nextToFire.cls = RX3 ∧ yX3_nextToFire.cls ≠ "java/lang/invoke/MethodHandle" ∧ yX3_nextToFire.cls ≠ "java/lang/invoke/VarHandle" ∧ (parseMethodDescriptor yX3_nextToFire.desc).map (fun d => d.parameters.length) = some 0 := by decide +kernel
theorem hd_X3_hasEnough : yX3_hasEnough.cls = RX3 ∧ yX3_hasEnough.cls ≠ "java/lang/invoke/MethodHandle" ∧ yX3_hasEnough.cls ≠ "java/lang/invoke/VarHandle" ∧ (parseMethodDescriptor yX3_hasEnough.desc).map (fun d => d.parameters.length) = some 1 := by decide +kernel
theorem hd_X3_countFiring : yX3_countFiring.cls = RX3 ∧ yX3_countFiring.cls ≠ "java/lang/invoke/MethodHandle" ∧ yX3_countFiring.cls ≠ "java/lang/invoke/VarHandle" ∧ (parseMethodDescriptor yX3_countFiring.desc).map (fun d => d.parameters.length) = some 1 := by decide +kernel
theorem hd_X3_makeRoomForTokens : yX3_makeRoomForTokens.cls = RX3 ∧ yX3_makeRoomForTokens.cls ≠ "java/lang/invoke/MethodHandle" ∧ yX3_makeRoomForTokens.cls ≠ "java/lang/invoke/VarHandle" ∧ (parseMethodDescriptor yX3_makeRoomForTokens.desc).map (fun d => d.parameters.length) = some 0 := by decide +kernel
theorem hd_X3_fire : yX3_fire.cls = RX3 ∧ yX3_fire.cls ≠ "java/lang/invoke/MethodHandle" ∧ yX3_fire.cls ≠ "java/lang/invoke/VarHandle" ∧ (parseMethodDescriptor yX3_fire.desc).map (fun d => d.parameters.length) = some 1 := by decide +kernel
theorem hd_X4_thrown : yX4_thrown.cls = RX4 ∧ yX4_thrown.cls ≠ "java/lang/invoke/MethodHandle" ∧ yX4_thrown.cls ≠ "java/lang/invoke/VarHandle" ∧ (parseMethodDescriptor yX4_thrown.desc).map (fun d => d.parameters.length) = some 0 := by decide +kernel
theorem hd_X4_within : yX4_within.cls = RX4 ∧ yX4_within.cls ≠ "java/lang/invoke/MethodHandle" ∧ yX4_within.cls ≠ "java/lang/invoke/VarHandle" ∧ (parseMethodDescriptor yX4_within.desc).map (fun d => d.parameters.length) = some 3 := by decide +kernel
theorem hd_X4_start : yX4_start.cls = RX4 ∧ yX4_start.cls ≠ "java/lang/invoke/MethodHandle" ∧ yX4_start.cls ≠ "java/lang/invoke/VarHandle" ∧ (parseMethodDescriptor yX4_start.desc).map (fun d => d.parameters.length) = some 0 := by decide +kernel
theorem hd_X4_changed : yX4_changed.cls = RX4 ∧ yX4_changed.cls ≠ "java/lang/invoke/MethodHandle" ∧ yX4_changed.cls ≠ "java/lang/invoke/VarHandle" ∧ (parseMethodDescriptor yX4_changed.desc).map (fun d => d.parameters.length) = some 0 := by decide +kernel
theorem hd_X4_actor : yX4_actor.cls = RX4 ∧ yX4_actor.cls ≠ "java/lang/invoke/MethodHandle" ∧ yX4_actor.cls ≠ "java/lang/invoke/VarHandle" ∧ (parseMethodDescriptor yX4_actor.desc).map (fun d => d.parameters.length) = some 2 := by decide +kernel
theorem hd_X4_isActor : yX4_isActor.cls = RX4 ∧ yX4_isActor.cls ≠ "java/lang/invoke/MethodHandle" ∧ yX4_isActor.cls ≠ "java/lang/invoke/VarHandle" ∧ (parseMethodDescriptor yX4_isActor.desc).map (fun d => d.parameters.length) = some 1 := by decide +kernel
theorem hd_X4_isEdge : yX4_isEdge.cls = RX4 ∧ yX4_isEdge.cls ≠ "java/lang/invoke/MethodHandle" ∧ yX4_isEdge.cls ≠ "java/lang/invoke/VarHandle" ∧ (parseMethodDescriptor yX4_isEdge.desc).map (fun d => d.parameters.length) = some 1 := by decide +kernel
theorem hd_X4_edge : yX4_edge.cls = RX4 ∧ yX4_edge.cls ≠ "java/lang/invoke/MethodHandle" ∧ yX4_edge.cls ≠ "java/lang/invoke/VarHandle" ∧ (parseMethodDescriptor yX4_edge.desc).map (fun d => d.parameters.length) = some 5 := by decide +kernel
theorem hd_X4_delay : yX4_delay.cls = RX4 ∧ yX4_delay.cls ≠ "java/lang/invoke/MethodHandle" ∧ yX4_delay.cls ≠ "java/lang/invoke/VarHandle" ∧ (parseMethodDescriptor yX4_delay.desc).map (fun d => d.parameters.length) = some 2 := by decide +kernel
theorem hd_X4_reset : yX4_reset.cls = RX4 ∧ yX4_reset.cls ≠ "java/lang/invoke/MethodHandle" ∧ yX4_reset.cls ≠ "java/lang/invoke/VarHandle" ∧ (parseMethodDescriptor yX4_reset.desc).map (fun d => d.parameters.length) = some 0 := by decide +kernel
theorem hd_X4_clear : yX4_clear.cls = RX4 ∧ yX4_clear.cls ≠ "java/lang/invoke/MethodHandle" ∧ yX4_clear.cls ≠ "java/lang/invoke/VarHandle" ∧ (parseMethodDescriptor yX4_clear.desc).map (fun d => d.parameters.length) = some 0 := by decide +kernel
theorem hd_X4_actors : yX4_actors.cls = RX4 ∧ yX4_actors.cls ≠ "java/lang/invoke/MethodHandle" ∧ yX4_actors.cls ≠ "java/lang/invoke/VarHandle" ∧ (parseMethodDescriptor yX4_actors.desc).map (fun d => d.parameters.length) = some 0 := by decide +kernel
theorem hd_X4_edges : yX4_edges.cls = RX4 ∧ yX4_edges.cls ≠ "java/lang/invoke/MethodHandle" ∧ yX4_edges.cls ≠ "java/lang/invoke/VarHandle" ∧ (parseMethodDescriptor yX4_edges.desc).map (fun d => d.parameters.length) = some 0 := by decide +kernel
theorem hd_X4_spread : yX4_spread.cls = RX4 ∧ yX4_spread.cls ≠ "java/lang/invoke/MethodHandle" ∧ yX4_spread.cls ≠ "java/lang/invoke/VarHandle" ∧ (parseMethodDescriptor yX4_spread.desc).map (fun d => d.parameters.length) = some 1 := by decide +kernel
theorem hd_X4_divisor : yX4_divisor.cls = RX4 ∧ yX4_divisor.cls ≠ "java/lang/invoke/MethodHandle" ∧ yX4_divisor.cls ≠ "java/lang/invoke/VarHandle" ∧ (parseMethodDescriptor yX4_divisor.desc).map (fun d => d.parameters.length) = some 2 := by decide +kernel
theorem hd_X4_repeat : yX4_repeat.cls = RX4 ∧ yX4_repeat.cls ≠ "java/lang/invoke/MethodHandle" ∧ yX4_repeat.cls ≠ "java/lang/invoke/VarHandle" ∧ (parseMethodDescriptor yX4_repeat.desc).map (fun d => d.parameters.length) = some 0 := by decide +kernel
theorem hd_X4_mayFire : yX4_mayFire.cls = RX4 ∧ yX4_mayFire.cls ≠ "java/lang/invoke/MethodHandle" ∧ yX4_mayFire.cls ≠ "java/lang/invoke/VarHandle" ∧ (parseMethodDescriptor yX4_mayFire.desc).map (fun d => d.parameters.length) = some 1 := by decide +kernel
theorem hd_X4_attempt : yX4_attempt.cls = RX4 ∧ yX4_attempt.cls ≠ "java/lang/invoke/MethodHandle" ∧ yX4_attempt.cls ≠ "java/lang/invoke/VarHandle" ∧ (parseMethodDescriptor yX4_attempt.desc).map (fun d => d.parameters.length) = some 0 := by decide +kernel
theorem hd_X4_plan : yX4_plan.cls = RX4 ∧ yX4_plan.cls ≠ "java/lang/invoke/MethodHandle" ∧ yX4_plan.cls ≠ "java/lang/invoke/VarHandle" ∧ (parseMethodDescriptor yX4_plan.desc).map (fun d => d.parameters.length) = some 0 := by decide +kernel
theorem hd_X4_planned : yX4_planned.cls = RX4 ∧ yX4_planned.cls ≠ "java/lang/invoke/MethodHandle" ∧ yX4_planned.cls ≠ "java/lang/invoke/VarHandle" ∧ (parseMethodDescriptor yX4_planned.desc).map (fun d => d.parameters.length) = some 0 := by decide +kernel
theorem hd_X4_firing : yX4_firing.cls = RX4 ∧ yX4_firing.cls ≠ "java/lang/invoke/MethodHandle" ∧ yX4_firing.cls ≠ "java/lang/invoke/VarHandle" ∧ (parseMethodDescriptor yX4_firing.desc).map (fun d => d.parameters.length) = some 1 := by decide +kernel
theorem hd_X4_repetitions : yX4_repetitions.cls = RX4 ∧ yX4_repetitions.cls ≠ "java/lang/invoke/MethodHandle" ∧ yX4_repetitions.cls ≠ "java/lang/invoke/VarHandle" ∧ (parseMethodDescriptor yX4_repetitions.desc).map (fun d => d.parameters.length) = some 1 := by decide +kernel
theorem hd_X4_bound : yX4_bound.cls = RX4 ∧ yX4_bound.cls ≠ "java/lang/invoke/MethodHandle" ∧ yX4_bound.cls ≠ "java/lang/invoke/VarHandle" ∧ (parseMethodDescriptor yX4_bound.desc).map (fun d => d.parameters.length) = some 1 := by decide +kernel
theorem hd_X4_at : yX4_at.cls = RX4 ∧ yX4_at.cls ≠ "java/lang/invoke/MethodHandle" ∧ yX4_at.cls ≠ "java/lang/invoke/VarHandle" ∧ (parseMethodDescriptor yX4_at.desc).map (fun d => d.parameters.length) = some 2 := by decide +kernel
theorem hd_X4_fire : yX4_fire.cls = RX4 ∧ yX4_fire.cls ≠ "java/lang/invoke/MethodHandle" ∧ yX4_fire.cls ≠ "java/lang/invoke/VarHandle" ∧ (parseMethodDescriptor yX4_fire.desc).map (fun d => d.parameters.length) = some 1 := by decide +kernel
theorem hd_X4_run : yX4_run.cls = RX4 ∧ yX4_run.cls ≠ "java/lang/invoke/MethodHandle" ∧ yX4_run.cls ≠ "java/lang/invoke/VarHandle" ∧ (parseMethodDescriptor yX4_run.desc).map (fun d => d.parameters.length) = some 1 := by decide +kernel
theorem hd_X4_tokens : yX4_tokens.cls = RX4 ∧ yX4_tokens.cls ≠ "java/lang/invoke/MethodHandle" ∧ yX4_tokens.cls ≠ "java/lang/invoke/VarHandle" ∧ (parseMethodDescriptor yX4_tokens.desc).map (fun d => d.parameters.length) = some 1 := by decide +kernel
theorem hd_X4_token : yX4_token.cls = RX4 ∧ yX4_token.cls ≠ "java/lang/invoke/MethodHandle" ∧ yX4_token.cls ≠ "java/lang/invoke/VarHandle" ∧ (parseMethodDescriptor yX4_token.desc).map (fun d => d.parameters.length) = some 2 := by decide +kernel
theorem hd_X4_value : yX4_value.cls = RX4 ∧ yX4_value.cls ≠ "java/lang/invoke/MethodHandle" ∧ yX4_value.cls ≠ "java/lang/invoke/VarHandle" ∧ (parseMethodDescriptor yX4_value.desc).map (fun d => d.parameters.length) = some 1 := by decide +kernel
theorem hd_X4_state : yX4_state.cls = RX4 ∧ yX4_state.cls ≠ "java/lang/invoke/MethodHandle" ∧ yX4_state.cls ≠ "java/lang/invoke/VarHandle" ∧ (parseMethodDescriptor yX4_state.desc).map (fun d => d.parameters.length) = some 1 := by decide +kernel
