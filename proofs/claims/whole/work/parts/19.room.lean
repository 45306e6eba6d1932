/-! ===== Edge.makeRoom: a new ring ===== -/
abbrev rmx (d c s : Nat) : Room := { frames := d, cells := c, slots := s, locals := 32 * d }
def roomL (n b : Nat) : Nat := max b (2 * n)
def roomN (n b : Nat) : Nat := if n < b then roomL n b else 0
def sR (σ : TS) (q N a : Nat) : TS := (up2 σ.1 17 q N, (fun f j => if f = 100 + q then 0 else σ.2.1 f j), fun j => if j = q then a else σ.2.2 j)
def T_room (σ : TS) (q a : Nat) : TS := if σ.1 17 q < σ.1 16 q then sR σ q (roomL (σ.1 17 q) (σ.1 16 q)) a else σ
theorem cls_int {D : va_G} {cl : List vw_C} {tys : List (ClassId × FieldType)} {s : State} {i j : Nat} {c1 c2 : ClassId} (h : va_K D cl tys s) (hi : tys[i]? = some (c1, .int)) (hj : tys[j]? = some (c2, .int)) : c1 = c2 := by
  have h1 : s.vm.findClass ("[" ++ FieldType.int.toString) = some c1 := (h.2 i _ hi).2
  have h2 : s.vm.findClass ("[" ++ FieldType.int.toString) = some c2 := (h.2 j _ hj).2
  exact Option.some.inj (h1.symm.trans h2)
section Ring
variable {p : Program} {l : Launch} {e : Env} {R : Room} {s : State} {m : MethodId} {args : Array Value} {below : List Frame} {meth : Method} {c : Code} {H : Heap} {locs : List Loc} {cells slots : Nat} {Q : State → Prop}
variable {cc : ByteArray} {pc : Nat} {ls : Array Slot} {rest : List Value} {D : va_G} {cy : Nat → ClassId} {ad : Nat → Nat} {σ : TS} {A : Nat → Prop} {own : String}
theorem sR_k (σ : TS) (q N a : Nat) {f : Nat} (j : Nat) (h : f ≠ 17) : (sR σ q N a).1 f j = σ.1 f j := up2_k _ _ _ _ h
theorem entT_sR {q N a j : Nat} (hq : q < 12) (hj : j < 37) (h1 : j ≠ 13 + q) (h2 : j ≠ 25 + q) : entT cy ad σ j = entT cy ad (sR σ q N a) j := by
  refine entT_same j ?_ ?_ ?_ ?_ ?_ ?_
  · intro _ k h3 h4; exact (up2_k _ _ _ _ (by omega)).symm
  · intro _ i; exact (sR_k σ q N a _ (by decide)).symm
  · intro _; exact ⟨(sR_k σ q N a _ (by decide)).symm, fun k h3 h4 => by show _ = if k = 100 + q then 0 else _; rw [if_neg (by omega)]⟩
  · intro h3 h4; exact ⟨fun k hk => by show _ = if k = 100 + q then 0 else _; rw [if_neg (by omega)], (sR_k σ q N a _ (by decide)).symm, (sR_k σ q N a _ (by decide)).symm⟩
  · intro h3 h4; exact ⟨fun k h5 h6 h7 => (up2_k _ _ _ _ (by omega)).symm, by show _ = if j - 13 = q then a else _; rw [if_neg (by omega)]⟩
  · intro h3; exact ⟨(up2_n _ _ _ _ (by omega)).symm, fun i => by show _ = if 100 + (j - 25) = 100 + q then 0 else _; rw [if_neg (by omega)]⟩
theorem t_ring (hx : p.tables.exec = Jvm.exec) (hb : c.code = cc) (hU : ∀ w ∈ UW, w.before args s = true) (hown : s.vm.findClass own = some m.cls) (h : XT D cy ad s A H locs σ) {q : Nat} (hq : q < 12) {idx : Nat} (hl : Cond.fieldLink own idx RX1 (TX1 7).2.1 (TX1 7).2.2.1 ∈ UW) {N : Nat} (hN : N < 2 ^ 20) (hcells : cells + 1 ≤ R.cells) (hslots : slots + N ≤ R.slots) (hd1 : decode cc pc = .ok (.newarray .int, 2)) (hd2 : decode cc (pc + 2) = .ok (.putfield idx, 3))
    (kk : ∀ (a : Nat) (H : Heap) (locs : List Loc), XT D cy ad s A H locs (sR σ q N a) → W p l e R s m args below meth c H locs (cells + 1) (slots + N) Q (F0 m (pc + 5) ls rest)) : W p l e R s m args below meth c H locs cells slots Q (F0 m pc ls (.int (nI N) :: .ref (ad (13 + q)) :: rest)) := by
  obtain ⟨hK, hA, hP, hD, hS⟩ := h
  refine va_newa (atype := .int) (a0 := (N, .inl (fun _ => 0))) (N' := N) hx hb (hU _ ua_int) rfl hK hP hD hS hA (fun cA => rfl) (nI_pos (by omega)) (nI_clamp (by omega)) (by show N * 4 ≤ _; omega) hcells hslots hd1 (fun a cA H1 hK1 hP1 hD1 hS1 => ?_)
  have hcA : cA = cy 0 := cls_int (i := 4) (j := 0) hK1 rfl rfl
  subst hcA
  have hlen : (wv 37 (adrT ad σ) (entT cy ad σ)).length = 37 := by simp [wv]
  have g1 : (wv 37 (adrT ad σ) (entT cy ad σ) ++ [(a, Sum.inl (cy 0, (N, Sum.inl (fun _ => 0))))])[13 + q]? = some (ad (13 + q), .inr (1, fE σ q)) := by
    rw [List.getElem?_append_left (by rw [hlen]; omega), wv_get (by omega), adrT_E ad σ hq, entT_E cy ad σ hq]
  refine va_put (ref := RX1) (v := .ref a) (ty := .array .int) hx hb hU iuX1 tyX1 tyX1_ok nmX1 hown hK hP1 hD1 hS1 (13 + q) g1 rfl 7 (by decide) (hU _ hl) (fun x h9 => h9) rfl (by decide +kernel) rfl rfl (by simp [fE]) hd2 (fun H2 locs2 hP2 hD2 hS2 => ?_)
  have hg : ∀ (k : Nat) (x : Nat × va_E), (wv 37 (adrT ad (sR σ q N a)) (entT cy ad (sR σ q N a)))[k]? = some x → ((wv 37 (adrT ad σ) (entT cy ad σ) ++ [(a, Sum.inl (cy 0, (N, Sum.inl (fun _ => 0))))]).set (13 + q) (ad (13 + q), Sum.inr (1, (fE σ q).set 7 (.ref a))))[if k = 25 + q then 37 else k]? = some x := by
    intro k x hk
    have hk37 : k < 37 := by have := (List.getElem?_eq_some_iff.mp hk).1; simpa [wv] using this
    rw [wv_get hk37] at hk
    by_cases e1 : k = 25 + q
    · subst e1
      rw [if_pos rfl, List.getElem?_set_ne (by omega), List.getElem?_append_right (by rw [hlen]; omega), hlen]
      rw [← hk, adrT_R, entT_R]
      show some (a, _) = some (if q = q then a else _, Sum.inl (cy 0, up2 σ.1 17 q N 17 q, Sum.inl (fun j => if 100 + q = 100 + q then (0 : Int32) else σ.2.1 (100 + q) j)))
      rw [if_pos rfl, up2_eq]
      simp
    · rw [if_neg e1]
      by_cases e2 : k = 13 + q
      · subst e2
        rw [List.getElem?_set_self (by rw [List.length_append, hlen]; omega), ← hk, adrT_E ad _ hq, entT_E cy ad _ hq]
        congr 2
        simp [fE, sR, up2]
      · rw [List.getElem?_set_ne (by omega), List.getElem?_append_left (by rw [hlen]; omega), wv_get hk37, ← hk, entT_sR (N := N) (a := a) hq hk37 e2 e1]
        congr 2
        unfold adrT
        by_cases e3 : k < 25
        · rw [if_pos e3, if_pos e3]
        · rw [if_neg e3, if_neg e3]; show _ = if k - 25 = q then a else _; rw [if_neg (by omega)]
  refine kk a H2 locs2 ⟨hK, hA, hP2.by _ hg, hD2.by _ hg (fun i j hi hj e => ?_), hS2⟩
  have hi' : i < 37 := by simpa [wv] using hi
  have hj' : j < 37 := by simpa [wv] using hj
  by_cases e1 : i = 25 + q <;> by_cases e2 : j = 25 + q <;> simp only [e1, e2, if_true, if_false] at e <;> omega
end Ring
set_option maxRecDepth 100000 in
set_option maxHeartbeats 4000000 in
theorem c_X1_makeRoom (l : Launch) (D : va_G) (cy : Nat → ClassId) (ad : Nat → Nat) (σ : TS) (sz : Nat) {q : Nat} (hq : q < 12) (h1 : σ.1 17 q < 2 ^ 18) (h2 : σ.1 16 q < 2 ^ 18) : MTv l D cy ad yX1_makeRoom cX1_makeRoom 1 (rmx 1 1 (roomN (σ.1 17 q) (σ.1 16 q))) [.ref (ad (13 + q))] σ sz (fun u => ∃ a, u = T_room σ q a) := by
  refine Met.ofW (cc := cX1_makeRoom) (maxL := 1) (ret := none) (by decide) rfl ?_
  intro p ev s m args below meth c s₁ B hml hv
  obtain ⟨rfl, hw⟩ := hv
  have hx := B.exec
  have hb := B.bytes
  have hr := B.returns
  have hlk := B.notSynchronized
  have hU : ∀ w ∈ UW, w.before _ s = true := fun w hw => atoms_spec (ws := Cond.code yX1_makeRoom cX1_makeRoom 1 none :: UW) B.pre w (List.mem_cons_of_mem _ hw)
  have hown : s.vm.findClass RX1 = some m.cls := findClass_of_methodNamed B.named
  have hR : 1 ≤ (headSpec (Cond.code yX1_makeRoom cX1_makeRoom 1 none :: UW) (rmx 1 1 (roomN (σ.1 17 q) (σ.1 16 q)))).room.frames ∧ 32 * 1 ≤ (headSpec (Cond.code yX1_makeRoom cX1_makeRoom 1 none :: UW) (rmx 1 1 (roomN (σ.1 17 q) (σ.1 16 q)))).room.locals := ⟨Nat.le_refl _, Nat.le_refl _⟩
  have hcs : 0 ≤ (headSpec (Cond.code yX1_makeRoom cX1_makeRoom 1 none :: UW) (rmx 1 1 (roomN (σ.1 17 q) (σ.1 16 q)))).room.cells ∧ 0 ≤ (headSpec (Cond.code yX1_makeRoom cX1_makeRoom 1 none :: UW) (rmx 1 1 (roomN (σ.1 17 q) (σ.1 16 q)))).room.slots := ⟨Nat.zero_le _, Nat.zero_le _⟩
  have h := WX.start hw
  clear hw
  generalize va_A (wv _ _ _) _ = A at h ⊢
  have hl := lv_entry ([.ref (ad (13 + q))]) (n := 1) (Nat.le_of_ble_eq_true rfl)
  rw [lg_entry_eq]
  generalize (lg_sl ([.ref (ad (13 + q))]) ++ List.replicate (1 - (lg_sl ([.ref (ad (13 + q))])).length) Slot.unset).toArray = ls at hl ⊢
  have hl : lv_has ls 1 [(0, .ref (ad (13 + q)))] := hl
  refine lv_aload_n hx hb dX1_makeRoom_0 rfl (lv_at hl 0 rfl) ?_
  refine t_gE hx hb hU hown h hq 7 (by decide) ufX1_9 (v := .ref (σ.2.2 q)) rfl dX1_makeRoom_1 ?_
  refine t_lR hx hb h hq dX1_makeRoom_4 ?_
  refine lv_aload_n hx hb dX1_makeRoom_5 rfl (lv_at hl 0 rfl) ?_
  refine t_gE hx hb hU hown h hq 6 (by decide) ufX1_28 (v := .int (nI (σ.1 16 q))) rfl dX1_makeRoom_6 ?_
  refine n_icmp_ge (tgt := 32) hx hb (by omega) (by omega) dX1_makeRoom_9 (by decide) (fun c_9 => ?_) (fun c_9 => ?_)
  · refine W.widen (k := 1) (n := roomN (σ.1 17 q) (σ.1 16 q)) (by omega) (Nat.zero_le _) ?_
    exact W.vret hx hb hr (fun t ht hW => ⟨⟨_, rfl, ⟨0, by rw [T_room, if_neg (by omega)]⟩, h.at ht hW⟩, h.2.2.2.2.F ht⟩) h.2.2.2.2.2.2 dX1_makeRoom_32
  · refine lv_aload_n hx hb dX1_makeRoom_12 rfl (lv_at hl 0 rfl) ?_
    refine lv_aload_n hx hb dX1_makeRoom_13 rfl (lv_at hl 0 rfl) ?_
    refine t_gE hx hb hU hown h hq 6 (by decide) ufX1_28 (v := .int (nI (σ.1 16 q))) rfl dX1_makeRoom_14 ?_
    refine lv_iconst (v := nI 2) hx hb dX1_makeRoom_17 (by decide +kernel) ?_
    refine lv_aload_n hx hb dX1_makeRoom_18 rfl (lv_at hl 0 rfl) ?_
    refine t_gE hx hb hU hown h hq 7 (by decide) ufX1_9 (v := .ref (σ.2.2 q)) rfl dX1_makeRoom_19 ?_
    refine t_lR hx hb h hq dX1_makeRoom_22 ?_
    refine n_imul hx hb dX1_makeRoom_23 ?_
    refine n_mmax hx hb hml hl.1 hU hown umX1_43 (by omega) (le_trans9 (Nat.le_of_ble_eq_true rfl) hR.2) hcs.1 hcs.2 (by omega) (by omega) dX1_makeRoom_24 ?_
    refine t_ring hx hb hU hown h hq ufX1_9 (by omega) (Nat.le_refl _) (by rw [Nat.zero_add]; show _ ≤ roomN _ _; rw [roomN, if_pos c_9]; exact Nat.le_refl _) dX1_makeRoom_27 dX1_makeRoom_29 (fun a H locs h => ?_)
    refine W.widen (k := 1) (n := roomN (σ.1 17 q) (σ.1 16 q)) (Nat.le_refl _) (by rw [Nat.zero_add, roomN, if_pos c_9]; exact Nat.le_refl _) ?_
    exact W.vret hx hb hr (fun t ht hW => ⟨⟨_, rfl, ⟨a, by rw [T_room, if_pos c_9]; rfl⟩, h.at ht hW⟩, h.2.2.2.2.F ht⟩) h.2.2.2.2.2.2 dX1_makeRoom_32
/-- the memory behind makeRoomForTokens: every ring is long enough -/
def rsum (σ : TS) : Nat → Nat → Nat
  | 0, _ => 0
  | k + 1, i => roomN (σ.1 17 i) (σ.1 16 i) + rsum σ k (i + 1)
theorem rsum_same {σ τ : TS} : ∀ (k i : Nat), (∀ j, i ≤ j → σ.1 17 j = τ.1 17 j ∧ σ.1 16 j = τ.1 16 j) → rsum σ k i = rsum τ k i := by
  intro k
  induction k with
  | zero => intro i _; rfl
  | succ k ih =>
    intro i h
    show roomN _ _ + rsum σ k (i + 1) = roomN _ _ + rsum τ k (i + 1)
    rw [(h i (Nat.le_refl _)).1, (h i (Nat.le_refl _)).2, ih (i + 1) (fun j hj => h j (by omega))]
def Rooms (σ : TS) (k i : Nat) (u : TS) : Prop := (∀ f j, u.1 f j = if f = 17 ∧ i ≤ j ∧ j < i + k ∧ σ.1 17 j < σ.1 16 j then roomL (σ.1 17 j) (σ.1 16 j) else σ.1 f j) ∧ ∀ f j, f < 100 → u.2.1 f j = σ.2.1 f j
theorem Rooms_0 (σ : TS) (i : Nat) : Rooms σ 0 i σ := ⟨fun f j => by rw [if_neg (by omega)], fun f j _ => rfl⟩
theorem T_room_N (σ : TS) (q a f j : Nat) : (T_room σ q a).1 f j = if f = 17 ∧ j = q ∧ σ.1 17 q < σ.1 16 q then roomL (σ.1 17 q) (σ.1 16 q) else σ.1 f j := by
  unfold T_room
  by_cases h : σ.1 17 q < σ.1 16 q
  · rw [if_pos h]
    show up2 σ.1 17 q _ f j = _
    unfold up2
    by_cases e : f = 17 ∧ j = q
    · rw [if_pos e, if_pos (by omega)]
    · rw [if_neg e, if_neg (by omega)]
  · rw [if_neg h, if_neg (by omega)]
theorem T_room_I (σ : TS) (q a f j : Nat) (hf : f < 100) : (T_room σ q a).2.1 f j = σ.2.1 f j := by
  unfold T_room
  split
  · show (if f = 100 + q then 0 else σ.2.1 f j) = _; rw [if_neg (by omega)]
  · rfl
theorem Rooms_s {σ u : TS} {k i a : Nat} (h : Rooms (T_room σ i a) k (i + 1) u) : Rooms σ (k + 1) i u := by
  refine ⟨fun f j => ?_, fun f j hf => (h.2 f j hf).trans (T_room_I σ i a f j hf)⟩
  rw [h.1 f j, T_room_N, T_room_N, T_room_N, if_neg (show ¬ (16 = 17 ∧ _) by omega)]
  by_cases e : j = i
  · subst e
    rw [if_neg (by omega)]
    by_cases e2 : f = 17 ∧ σ.1 17 j < σ.1 16 j
    · rw [if_pos (by omega), if_pos (by omega)]
    · rw [if_neg (by omega), if_neg (by omega)]
  · rw [if_neg (show ¬ (17 = 17 ∧ j = i ∧ _) by omega), if_neg (show ¬ (f = 17 ∧ j = i ∧ _) by omega)]
    by_cases e2 : f = 17 ∧ i + 1 ≤ j ∧ j < i + 1 + k ∧ σ.1 17 j < σ.1 16 j
    · rw [if_pos e2, if_pos (by omega)]
    · rw [if_neg e2, if_neg (by omega)]
set_option maxRecDepth 100000 in
set_option maxHeartbeats 4000000 in
theorem lp_X3_makeRoom {p : Program} {l : Launch} {ev : Env} {R : Room} {s : State} {m : MethodId} {args : Array Value} {below : List Frame} {meth : Method} {c : Code} {Q : State → Prop} {D : va_G} {cy : Nat → ClassId} {ad : Nat → Nat} {A : Nat → Prop} (hx : p.tables.exec = Jvm.exec) (hb : c.code = cX3_makeRoomForTokens) (hml : c.maxLocals = 2) (hU : ∀ w ∈ UW, w.before args s = true) (hown : s.vm.findClass RX3 = some m.cls) (hR : 2 ≤ R.frames ∧ 32 * 2 ≤ R.locals) :
    ∀ (k i : Nat) (τ : TS) (cells slots : Nat) (H : Heap) (locs : List Loc) (ls : Array Slot), (i + k = τ.1 21 0 ∧ τ.1 21 0 ≤ 12 ∧ ∀ q, i ≤ q → q < τ.1 21 0 → τ.1 17 q < 2 ^ 18 ∧ τ.1 16 q < 2 ^ 18) → (cells + k ≤ R.cells ∧ slots + rsum τ k i ≤ R.slots) → XT D cy ad s A H locs τ → lv_has ls 2 [(0, .ref (ad 0)), (1, .int (nI i))] → (∀ (u : TS) (H : Heap) (locs : List Loc) (ls : Array Slot), Rooms τ k i u → XT D cy ad s A H locs u → lv_has ls 2 [(0, .ref (ad 0))] → W p l ev R s m args below meth c H locs (cells + k) (slots + rsum τ k i) Q (F0 m 25 ls [])) → W p l ev R s m args below meth c H locs cells slots Q (F0 m 2 ls []) := by
  intro k
  induction k with
  | zero =>
    intro i τ cells slots H locs ls hc hcs h hl K
    refine lv_iload_n hx hb dX3_makeRoomForTokens_2 rfl (lv_at hl 1 rfl) ?_
    refine lv_aload_n hx hb dX3_makeRoomForTokens_3 rfl (lv_at hl 0 rfl) ?_
    refine t_gM hx hb hU hown h 5 (by decide) ufX3_57 (v := .int (nI (τ.1 21 0))) rfl dX3_makeRoomForTokens_4 ?_
    refine n_icmp_ge (tgt := 25) hx hb (by omega) (by omega) dX3_makeRoomForTokens_7 (by decide) (fun c_7 => ?_) (fun c_7 => absurd c_7 (by omega))
    exact K τ _ _ _ (Rooms_0 τ i) h (lv_sub hl [0] rfl)
  | succ k ih =>
    intro i τ cells slots H locs ls hc hcs h hl K
    have h9 := hc.2.2 i (Nat.le_refl _) (by omega)
    refine lv_iload_n hx hb dX3_makeRoomForTokens_2 rfl (lv_at hl 1 rfl) ?_
    refine lv_aload_n hx hb dX3_makeRoomForTokens_3 rfl (lv_at hl 0 rfl) ?_
    refine t_gM hx hb hU hown h 5 (by decide) ufX3_57 (v := .int (nI (τ.1 21 0))) rfl dX3_makeRoomForTokens_4 ?_
    refine n_icmp_ge (tgt := 25) hx hb (by omega) (by omega) dX3_makeRoomForTokens_7 (by decide) (fun c_7 => absurd c_7 (by omega)) (fun c_7 => ?_)
    refine lv_aload_n hx hb dX3_makeRoomForTokens_10 rfl (lv_at hl 0 rfl) ?_
    refine t_gM hx hb hU hown h 1 (by decide) ufX3_18 (v := .ref (ad 2)) rfl dX3_makeRoomForTokens_11 ?_
    refine lv_iload_n hx hb dX3_makeRoomForTokens_14 rfl (lv_at hl 1 rfl) ?_
    refine t_aE hx hb h (by omega) dX3_makeRoomForTokens_15 ?_
    refine x_callv (rm := rmx 1 1 (roomN (τ.1 17 i) (τ.1 16 i))) hx hb hml hU hown h (c_X1_makeRoom l D cy ad τ _ (q := i) (by omega) h9.1 h9.2) umX3_196 ui_X1_makeRoom us_X1_makeRoom unX1 uc_X1_makeRoom hd_X1_makeRoom ⟨by show 1 + 1 ≤ _; omega, by show 8 + (1 + 11) + 32 * 1 ≤ _; omega⟩ (t_recvE h (by omega)) hl.1 rfl (Nat.le_of_ble_eq_true rfl) dX3_makeRoomForTokens_16 ⟨by show cells + 1 ≤ _; omega, by show slots + roomN _ _ ≤ _; have := hcs.2; unfold rsum at this; omega⟩ (fun u H locs hw h => ?_)
    obtain ⟨a, hu⟩ := hw
    have h : XT D cy ad s A H locs (T_room τ i a) := by rw [← hu]; exact h
    clear hu
    refine lv_iinc (v := nI (i + 1)) (lv' := [(1, .int (nI (i + 1))), (0, .ref (ad 0))]) hx hb dX3_makeRoomForTokens_19 hl (k := 1) rfl (by rw [← nI_add]; rfl) (by decide) rfl (fun ls hl => ?_)
    refine lv_goto (tgt := 2) hx hb dX3_makeRoomForTokens_22 (by decide) ?_
    have er : rsum (T_room τ i a) k (i + 1) = rsum τ k (i + 1) := rsum_same k (i + 1) (fun j hj => ⟨by rw [T_room_N, if_neg (by omega)], by rw [T_room_N, if_neg (by omega)]⟩)
    refine ih (i + 1) (T_room τ i a) (cells + 1) (slots + roomN (τ.1 17 i) (τ.1 16 i)) _ _ _ ⟨by rw [T_room_N, if_neg (by omega)]; omega, by rw [T_room_N, if_neg (by omega)]; exact hc.2.1, fun j h1 h2 => by rw [T_room_N, if_neg (by omega)] at h2; rw [T_room_N, if_neg (by omega), T_room_N, if_neg (by omega)]; exact hc.2.2 j (by omega) h2⟩ ⟨by omega, by have := hcs.2; unfold rsum at this; rw [er]; omega⟩ h (lv_sub hl [1, 0] rfl) (fun u H locs ls hu h hl => ?_)
    have K9 := K u H locs ls (Rooms_s hu) h hl
    rw [er, Nat.add_assoc, show 1 + k = k + 1 by omega, Nat.add_assoc]
    exact K9
set_option maxRecDepth 100000 in
set_option maxHeartbeats 4000000 in
theorem c_X3_makeRoomForTokens (l : Launch) (D : va_G) (cy : Nat → ClassId) (ad : Nat → Nat) (σ : TS) (sz : Nat) (h12 : σ.1 21 0 ≤ 12) (hB : ∀ q, q < σ.1 21 0 → σ.1 17 q < 2 ^ 18 ∧ σ.1 16 q < 2 ^ 18) : MTv l D cy ad yX3_makeRoomForTokens cX3_makeRoomForTokens 2 (rmx 2 (σ.1 21 0) (rsum σ (σ.1 21 0) 0)) [.ref (ad 0)] σ sz (fun u => Rooms σ (σ.1 21 0) 0 u) := by
  refine Met.ofW (cc := cX3_makeRoomForTokens) (maxL := 2) (ret := none) (by decide) rfl ?_
  intro p ev s m args below meth c s₁ B hml hv
  obtain ⟨rfl, hw⟩ := hv
  have hx := B.exec
  have hb := B.bytes
  have hr := B.returns
  have hlk := B.notSynchronized
  have hU : ∀ w ∈ UW, w.before _ s = true := fun w hw => atoms_spec (ws := Cond.code yX3_makeRoomForTokens cX3_makeRoomForTokens 2 none :: UW) B.pre w (List.mem_cons_of_mem _ hw)
  have hown : s.vm.findClass RX3 = some m.cls := findClass_of_methodNamed B.named
  have hR : 2 ≤ (headSpec (Cond.code yX3_makeRoomForTokens cX3_makeRoomForTokens 2 none :: UW) (rmx 2 (σ.1 21 0) (rsum σ (σ.1 21 0) 0))).room.frames ∧ 32 * 2 ≤ (headSpec (Cond.code yX3_makeRoomForTokens cX3_makeRoomForTokens 2 none :: UW) (rmx 2 (σ.1 21 0) (rsum σ (σ.1 21 0) 0))).room.locals := ⟨Nat.le_refl _, Nat.le_refl _⟩
  have hcs : 0 ≤ (headSpec (Cond.code yX3_makeRoomForTokens cX3_makeRoomForTokens 2 none :: UW) (rmx 2 (σ.1 21 0) (rsum σ (σ.1 21 0) 0))).room.cells ∧ 0 ≤ (headSpec (Cond.code yX3_makeRoomForTokens cX3_makeRoomForTokens 2 none :: UW) (rmx 2 (σ.1 21 0) (rsum σ (σ.1 21 0) 0))).room.slots := ⟨Nat.zero_le _, Nat.zero_le _⟩
  have h := WX.start hw
  clear hw
  generalize va_A (wv _ _ _) _ = A at h ⊢
  have hl := lv_entry ([.ref (ad 0)]) (n := 2) (Nat.le_of_ble_eq_true rfl)
  rw [lg_entry_eq]
  generalize (lg_sl ([.ref (ad 0)]) ++ List.replicate (2 - (lg_sl ([.ref (ad 0)])).length) Slot.unset).toArray = ls at hl ⊢
  have hl : lv_has ls 2 [(0, .ref (ad 0))] := hl
  refine lv_iconst (v := nI 0) hx hb dX3_makeRoomForTokens_0 (by decide +kernel) ?_
  refine lv_istore_n (lv' := [(1, .int (nI 0)), (0, .ref (ad 0))]) hx hb dX3_makeRoomForTokens_1 rfl hl (by decide) rfl (fun ls hl => ?_)
  refine lp_X3_makeRoom hx hb hml hU hown hR (σ.1 21 0) 0 σ 0 0 _ _ _ ⟨Nat.zero_add _, h12, fun q _ h2 => hB q h2⟩ ⟨by rw [Nat.zero_add]; exact Nat.le_refl _, by rw [Nat.zero_add]; exact Nat.le_refl _⟩ h (lv_sub hl [1, 0] rfl) (fun u H locs ls hu h hl => ?_)
  rw [Nat.zero_add, Nat.zero_add]
  exact W.vret hx hb hr (fun t ht hW => ⟨⟨_, rfl, hu, h.at ht hW⟩, h.2.2.2.2.F ht⟩) h.2.2.2.2.2.2 dX3_makeRoomForTokens_25
