/-! ===== a world that grows: new objects and arrays ===== -/
def adn {α : Type} (f : Nat → α) (n : Nat) (v : α) : Nat → α := fun i => if i = n then v else f i
theorem adn_eq {α : Type} (f : Nat → α) (n : Nat) (v : α) : adn f n v n = v := if_pos rfl
theorem adn_ne {α : Type} (f : Nat → α) {n i : Nat} (v : α) (h : i ≠ n) : adn f n v i = f i := if_neg h
theorem wv_len (n : Nat) (adr : Nat → Nat) (ent : Nat → va_E) : (wv n adr ent).length = n := by simp [wv]
theorem wv_congr {n : Nat} {adr adr' : Nat → Nat} {ent ent' : Nat → va_E} (h : ∀ i, i < n → adr i = adr' i ∧ ent i = ent' i) : wv n adr ent = wv n adr' ent' := by
  unfold wv
  apply List.map_congr_left
  intro i hi
  rw [List.mem_range] at hi
  rw [(h i hi).1, (h i hi).2]
theorem wv_push (n : Nat) (adr : Nat → Nat) (ent : Nat → va_E) (q : Nat) (e : va_E) : wv n adr ent ++ [(q, e)] = wv (n + 1) (adn adr n q) (adn ent n e) := by
  have h : wv (n + 1) (adn adr n q) (adn ent n e) = wv n (adn adr n q) (adn ent n e) ++ [(adn adr n q n, adn ent n e n)] := by
    unfold wv; rw [List.range_succ, List.map_append]; rfl
  rw [h, adn_eq, adn_eq, wv_congr (fun i hi => ⟨(adn_ne adr q (Nat.ne_of_lt hi)).symm, (adn_ne ent e (Nat.ne_of_lt hi)).symm⟩)]
theorem WX.congr {D : va_G} {tys : List (ClassId × FieldType)} {n : Nat} {adr adr' : Nat → Nat} {ent ent' : Nat → va_E} {s : State} {A : Nat → Prop} {H : Heap} {locs : List Loc} (hw : WX D tys n adr ent s A H locs) (h : ∀ i, i < n → adr i = adr' i ∧ ent i = ent' i) : WX D tys n adr' ent' s A H locs := by
  unfold WX at hw ⊢
  rw [wv_congr h] at hw
  exact hw
theorem WX.perm {D : va_G} {tys : List (ClassId × FieldType)} {n k : Nat} {adr adr' : Nat → Nat} {ent ent' : Nat → va_E} {s : State} {A : Nat → Prop} {H : Heap} {locs : List Loc} (hw : WX D tys n adr ent s A H locs) (g : Nat → Nat) (h : ∀ i, i < k → g i < n ∧ adr' i = adr (g i) ∧ ent' i = ent (g i)) (hi : ∀ i j, i < k → j < k → g i = g j → i = j) : WX D tys k adr' ent' s A H locs := by
  have hg : ∀ (i : Nat) (x : Nat × va_E), (wv k adr' ent')[i]? = some x → (wv n adr ent)[g i]? = some x := by
    intro i x hx
    have hik : i < k := by have := (List.getElem?_eq_some_iff.mp hx).1; rwa [wv_len] at this
    rw [wv_get hik, (h i hik).2.1, (h i hik).2.2] at hx
    rw [wv_get (h i hik).1]
    exact hx
  obtain ⟨a, b, hP, hD, hS⟩ := hw
  exact ⟨a, b, hP.by g hg, hD.by g hg (fun i j h1 h2 h3 => hi i j (by rwa [wv_len] at h1) (by rwa [wv_len] at h2) h3), hS⟩
theorem cls_long {D : va_G} {cl : List vw_C} {tys : List (ClassId × FieldType)} {s : State} {i j : Nat} {c1 c2 : ClassId} (h : va_K D cl tys s) (hi : tys[i]? = some (c1, .long)) (hj : tys[j]? = some (c2, .long)) : c1 = c2 := by
  have h1 : s.vm.findClass ("[" ++ FieldType.long.toString) = some c1 := (h.2 i _ hi).2
  have h2 : s.vm.findClass ("[" ++ FieldType.long.toString) = some c2 := (h.2 j _ hj).2
  exact Option.some.inj (h1.symm.trans h2)
theorem cls_obj {D : va_G} {cl : List vw_C} {tys : List (ClassId × FieldType)} {s : State} {C : String} {i j : Nat} {c1 c2 : ClassId} (h : va_K D cl tys s) (hi : tys[i]? = some (c1, .object C)) (hj : tys[j]? = some (c2, .object C)) : c1 = c2 := by
  obtain ⟨_, _, _, _, _, h1⟩ := (h.2 i _ hi).2
  obtain ⟨_, _, _, _, _, h2⟩ := (h.2 j _ hj).2
  exact Option.some.inj (h1.symm.trans h2)
section GrowRows
variable {p : Program} {l : Launch} {e : Env} {R : Room} {s : State} {m : MethodId} {args : Array Value} {below : List Frame} {meth : Method} {c : Code} {H : Heap} {locs : List Loc} {cells slots : Nat} {Q : State → Prop}
variable {cc : ByteArray} {pc nL : Nat} {ls : Array Slot} {rest st0 : List Value} {D : va_G} {tys : List (ClassId × FieldType)} {cy : Nat → ClassId} {n : Nat} {adr : Nat → Nat} {ent : Nat → va_E} {A : Nat → Prop} {own : String}
theorem x_new (hx : p.tables.exec = Jvm.exec) (hb : c.code = cc) (hU : ∀ w ∈ UW, w.before args s = true) (hown : s.vm.findClass own = some m.cls) (h : WX D tys n adr ent s A H locs) {Cn : String} {T : u_T} {N ci idx : Nat} (hc : vwCl[ci]? = some (Cn, T, N)) (hin : ∀ w ∈ u_ws Cn T N, w ∈ UW) (ty : Nat → FieldType) (hty : ∀ k, k < N → parseFieldDescriptor (T k).2.2.1 = some (ty k)) (h1 : Cond.classLink own idx Cn ∈ UW) (h2 : Cond.instantiable Cn N ∈ UW) (h3 : Cond.initialized Cn ∈ UW) {fs : List Value} (hfs : ∀ j, j < N → defaultValue (ty j) = vp_V fs j) (hcells : cells + 1 ≤ R.cells) (hslots : slots + N ≤ R.slots) (hdg : decode cc pc = .ok (.new idx, 3))
    (kk : ∀ (q : Nat) (H : Heap), WX D tys (n + 1) (adn adr n q) (adn ent n (.inr (ci, fs))) s A H locs → W p l e R s m args below meth c H locs (cells + 1) (slots + N) Q (F0 m (pc + 3) ls (.ref q :: rest))) : W p l e R s m args below meth c H locs cells slots Q (F0 m pc ls rest) :=
  va_new hx hb hU hin ty hty hown (hU _ h1) (hU _ h2) (hU _ h3) h.1 h.2.2.1 h.2.2.2.1 h.2.2.2.2 h.2.1 hc hfs hcells hslots hdg (fun q H1 hP hD hS => by
    rw [wv_push] at hP hD
    exact kk q H1 ⟨h.1, h.2.1, hP, hD, hS⟩)
theorem x_newi (hx : p.tables.exec = Jvm.exec) (hb : c.code = cc) (hU : ∀ w ∈ UW, w.before args s = true) (h : WX D (tyl cy) n adr ent s A H locs) {N : Nat} (hN : N < 2 ^ 20) (hcells : cells + 1 ≤ R.cells) (hslots : slots + N ≤ R.slots) (hdg : decode cc pc = .ok (.newarray .int, 2))
    (kk : ∀ (q : Nat) (H : Heap), WX D (tyl cy) (n + 1) (adn adr n q) (adn ent n (.inl (cy 0, N, .inl (fun _ => nI 0)))) s A H locs → W p l e R s m args below meth c H locs (cells + 1) (slots + N) Q (F0 m (pc + 2) ls (.ref q :: rest))) : W p l e R s m args below meth c H locs cells slots Q (F0 m pc ls (.int (nI N) :: rest)) := by
  refine va_newa (atype := .int) (a0 := (N, .inl (fun _ => nI 0))) (N' := N) hx hb (hU _ ua_int) rfl h.1 h.2.2.1 h.2.2.2.1 h.2.2.2.2 h.2.1 (fun cA => rfl) (nI_pos (by omega)) (nI_clamp (by omega)) (by show N * 4 ≤ _; omega) hcells hslots hdg (fun a cA H1 hK1 hP1 hD1 hS1 => ?_)
  have hcA : cA = cy 0 := cls_int (i := 4) (j := 0) hK1 rfl rfl
  subst hcA
  rw [wv_push] at hP1 hD1
  exact kk a H1 ⟨h.1, h.2.1, hP1, hD1, hS1⟩
theorem x_newl (hx : p.tables.exec = Jvm.exec) (hb : c.code = cc) (hU : ∀ w ∈ UW, w.before args s = true) (h : WX D (tyl cy) n adr ent s A H locs) {N : Nat} (hN : N < 2 ^ 20) (hcells : cells + 1 ≤ R.cells) (hslots : slots + N ≤ R.slots) (hdg : decode cc pc = .ok (.newarray .long, 2))
    (kk : ∀ (q : Nat) (H : Heap), WX D (tyl cy) (n + 1) (adn adr n q) (adn ent n (.inl (cy 3, N, .inr (.inl (fun _ => lN 0))))) s A H locs → W p l e R s m args below meth c H locs (cells + 1) (slots + N) Q (F0 m (pc + 2) ls (.ref q :: rest))) : W p l e R s m args below meth c H locs cells slots Q (F0 m pc ls (.int (nI N) :: rest)) := by
  refine va_newa (atype := .long) (a0 := (N, .inr (.inl (fun _ => lN 0)))) (N' := N) hx hb (hU _ ua_long) rfl h.1 h.2.2.1 h.2.2.2.1 h.2.2.2.2 h.2.1 (fun cA => rfl) (nI_pos (by omega)) (nI_clamp (by omega)) (by show N * 8 ≤ _; omega) hcells hslots hdg (fun a cA H1 hK1 hP1 hD1 hS1 => ?_)
  have hcA : cA = cy 3 := cls_long (i := 4) (j := 3) hK1 rfl rfl
  subst hcA
  rw [wv_push] at hP1 hD1
  exact kk a H1 ⟨h.1, h.2.1, hP1, hD1, hS1⟩
theorem x_newq (hx : p.tables.exec = Jvm.exec) (hb : c.code = cc) (hU : ∀ w ∈ UW, w.before args s = true) (hown : s.vm.findClass own = some m.cls) (h : WX D tys n adr ent s A H locs) {Cn : String} {idx t0 : Nat} {cA0 : ClassId} (ht : tys[t0]? = some (cA0, .object Cn)) (h1 : Cond.classLink own idx Cn ∈ UW) (hO : va_AO Cn s) {N : Nat} (hN : N < 2 ^ 20) (hcells : cells + 1 ≤ R.cells) (hslots : slots + N ≤ R.slots) (hdg : decode cc pc = .ok (.anewarray idx, 3))
    (kk : ∀ (q : Nat) (H : Heap), WX D tys (n + 1) (adn adr n q) (adn ent n (.inl (cA0, N, .inr (.inr (.inr (.inr (fun _ => none))))))) s A H locs → W p l e R s m args below meth c H locs (cells + 1) (slots + N) Q (F0 m (pc + 3) ls (.ref q :: rest))) : W p l e R s m args below meth c H locs cells slots Q (F0 m pc ls (.int (nI N) :: rest)) := by
  refine va_newq hx hb hown (hU _ h1) hO h.1 h.2.2.1 h.2.2.2.1 h.2.2.2.2 h.2.1 (nI_pos (by omega)) (nI_clamp (by omega)) (by omega) hcells hslots hdg (fun a cA H1 hK1 hP1 hD1 hS1 => ?_)
  have hl : t0 < tys.length := (List.getElem?_eq_some_iff.mp ht).1
  have hcA : cA = cA0 := cls_obj (i := tys.length) (j := t0) (C := Cn) hK1 (by rw [List.getElem?_append_right (Nat.le_refl _), Nat.sub_self]; rfl) (by rw [List.getElem?_append_left hl]; exact ht)
  subst hcA
  rw [wv_push] at hP1 hD1
  exact kk a H1 ⟨h.1, h.2.1, hP1, hD1, hS1⟩
theorem x_putF (hx : p.tables.exec = Jvm.exec) (hb : c.code = cc) (hU : ∀ w ∈ UW, w.before args s = true) (hown : s.vm.findClass own = some m.cls) (hin0 : meth.name = "<init>") (h : WX D tys n adr ent s A H locs) {T : u_T} {N ci i : Nat} {fs : List Value} (hi : i < n) (he : ent i = .inr (ci, fs)) (hc : vwCl[ci]? = some (own, T, N)) (hin : ∀ w ∈ u_ws own T N, w ∈ UW) (hT : ∀ k, k < N → (T k).1 = own) (ty0 : Nat → FieldType) (hty : ∀ k, k < N → parseFieldDescriptor (T k).2.2.1 = some (ty0 k)) (hnm : ∀ a, a < N → ∀ b, b < N → a ≠ b → (T a).2.1 ≠ (T b).2.1) (k : Nat) (hk : k < N) {idx : Nat} (hl : Cond.fieldLink own idx own (T k).2.1 (T k).2.2.1 ∈ UW) (hfin : (T k).2.2.2 = true) {v : Value} (hn : narrow (ty0 k) v = v) (hfit : fits (ty0 k) v = true) (hlen : k < fs.length) (hdg : decode cc pc = .ok (.putfield idx, 3))
    (kk : ∀ (H : Heap) (locs : List Loc), WX D tys n adr (adn ent i (.inr (ci, fs.set k v))) s A H locs → W p l e R s m args below meth c H locs cells slots Q (F0 m (pc + 3) ls rest)) : W p l e R s m args below meth c H locs cells slots Q (F0 m pc ls (v :: .ref (adr i) :: rest)) :=
  va_putF (ref := own) hx hb hU hin ty0 hty hnm hown h.1 h.2.2.1 h.2.2.2.1 h.2.2.2.2 i (by rw [wv_get hi, he]) hc k hk (hU _ hl) (fun x h9 => by rw [hT k hk] at h9; exact h9) hfin hin0 (hT k hk) (hty k hk) hn hfit hlen hdg (fun H1 locs1 hP hD hS => by
    rw [← adn_eq ent i (.inr (ci, fs.set k v)), wv_set (fun j _ hj => (adn_ne ent _ hj).symm)] at hP hD
    exact kk H1 locs1 ⟨h.1, h.2.1, hP, hD, hS⟩)
theorem x_aast (hx : p.tables.exec = Jvm.exec) (hb : c.code = cc) (h : WX D tys n adr ent s A H locs) {i j k N t0 ci : Nat} {f : Nat → Option Nat} {cA : ClassId} {r : vw_C} {vs : List Value} (hi : i < n) (he : ent i = .inl (cA, N, .inr (.inr (.inr (.inr f))))) (ht : tys[t0]? = some (cA, .object r.1)) (hk : k < n) (hek : ent k = .inr (ci, vs)) (hc : vwCl[ci]? = some r) (hj : j < N) (hN : N < 2 ^ 31) {v : Nat} (hv : adr k = v) (hdg : decode cc pc = .ok (.aastore, 1))
    (kk : ∀ (H : Heap) (locs : List Loc), WX D tys n adr (adn ent i (.inl (cA, N, .inr (.inr (.inr (.inr (va_up f j (some v)))))))) s A H locs → W p l e R s m args below meth c H locs cells slots Q (F0 m (pc + 1) ls rest)) : W p l e R s m args below meth c H locs cells slots Q (F0 m pc ls (.ref v :: .int (nI j) :: .ref (adr i) :: rest)) := by
  subst hv
  refine va_astq hx hb h.1 h.2.2.1 h.2.2.2.1 h.2.2.2.2 i t0 k ci (by rw [wv_get hi, he]) ht (by rw [wv_get hk, hek]) hc (vp_in_nI hj hN) hdg (fun H1 locs1 hP hD hS => ?_)
  rw [nI_clamp (by omega), ← adn_eq ent i (.inl (cA, N, .inr (.inr (.inr (.inr (va_up f j (some (adr k)))))))), wv_set (fun j _ hj => (adn_ne ent _ hj).symm)] at hP hD
  exact kk H1 locs1 ⟨h.1, h.2.1, hP, hD, hS⟩
end GrowRows
