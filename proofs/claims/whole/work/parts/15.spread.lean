/-! ===== TokenFlow: the repetitions are spread ===== -/
theorem sN_k (σ : TS) {k a : Nat} (n b v : Nat) (h : a ≠ k) : (sN σ k n v).1 a b = σ.1 a b := up2_k _ _ _ _ h
def allB (p : Nat → Bool) : Nat → Nat → Bool
  | 0, _ => true
  | k + 1, i => p i && allB p k (i + 1)
def findB (p : Nat → Bool) : Nat → Nat → Nat
  | 0, i => i
  | k + 1, i => if p i = true then i else findB p k (i + 1)
theorem allB_no {p : Nat → Bool} {k i : Nat} (h : p i = false) : allB p (k + 1) i = false := by
  show (p i && allB p k (i + 1)) = false
  rw [h]; rfl
theorem allB_go {p : Nat → Bool} {k i : Nat} (h : p i = true) : allB p (k + 1) i = allB p k (i + 1) := by
  show (p i && allB p k (i + 1)) = _
  rw [h]; rfl
theorem findB_yes {p : Nat → Bool} {k i : Nat} (h : p i = true) : findB p (k + 1) i = i := by
  show (if p i = true then i else findB p k (i + 1)) = i
  rw [if_pos h]
theorem findB_go {p : Nat → Bool} {k i : Nat} (h : p i = false) : findB p (k + 1) i = findB p k (i + 1) := by
  show (if p i = true then i else findB p k (i + 1)) = _
  rw [if_neg (by rw [h]; decide)]
theorem allB_iff {p : Nat → Bool} : ∀ (k i : Nat), allB p k i = true ↔ ∀ j, i ≤ j → j < i + k → p j = true := by
  intro k
  induction k with
  | zero => intro i; exact ⟨fun _ j h1 h2 => by omega, fun _ => rfl⟩
  | succ k ih =>
    intro i
    show (p i && allB p k (i + 1)) = true ↔ _
    rw [Bool.and_eq_true, ih]
    constructor
    · intro h j h1 h2
      by_cases e : j = i
      · rw [e]; exact h.1
      · exact h.2 j (by omega) (by omega)
    · intro h
      exact ⟨h i (by omega) (by omega), fun j h1 h2 => h j (by omega) (by omega)⟩
theorem findB_le {p : Nat → Bool} : ∀ (k i : Nat), findB p k i ≤ i + k := by
  intro k
  induction k with
  | zero => intro i; exact Nat.le_refl _
  | succ k ih =>
    intro i
    show (if p i = true then i else findB p k (i + 1)) ≤ _
    split
    · omega
    · have := ih (i + 1); omega
def T_mul (v : Nat) : Nat → TS → TS := fun j τ => sN τ 4 j (τ.1 4 j * v)
def T_reach (σ : TS) (n v e : Nat) : TS := sN (itr (T_mul e) (σ.1 20 0) 0 σ) 4 n v
def T_along (σ : TS) (q : Nat) : TS :=
  if 0 < σ.1 4 (σ.1 10 q) ∧ σ.1 4 (σ.1 11 q) = 0 then T_reach σ (σ.1 11 q) (σ.1 4 (σ.1 10 q) * σ.1 12 q) (σ.1 13 q) else
  if 0 < σ.1 4 (σ.1 11 q) ∧ σ.1 4 (σ.1 10 q) = 0 then T_reach σ (σ.1 10 q) (σ.1 4 (σ.1 11 q) * σ.1 13 q) (σ.1 12 q) else σ
set_option maxRecDepth 100000 in
set_option maxHeartbeats 4000000 in
theorem lp_X3_reach {p : Program} {l : Launch} {ev : Env} {R : Room} {s : State} {m : MethodId} {args : Array Value} {below : List Frame} {meth : Method} {c : Code} {cells slots : Nat} {Q : State → Prop} {D : va_G} {cy : Nat → ClassId} {ad : Nat → Nat} {A : Nat → Prop} (hx : p.tables.exec = Jvm.exec) (hb : c.code = cX3_reach) (hml : c.maxLocals = 6) (hU : ∀ w ∈ UW, w.before args s = true) (hown : s.vm.findClass RX3 = some m.cls) (hR : 0 ≤ R.frames ∧ 32 * 0 ≤ R.locals) (hcs : cells ≤ R.cells ∧ slots ≤ R.slots) {n v w : Nat} (hn : n < 8) (hw : w < 2 ^ 20) :
    ∀ (k i : Nat) (τ : TS) (H : Heap) (locs : List Loc) (ls : Array Slot), (i + k = τ.1 20 0 ∧ τ.1 20 0 ≤ 8) → XT D cy ad s A H locs τ → lv_has ls 6 [(0, .ref (ad 0)), (1, .ref (ad (5 + n))), (2, .long (lN v)), (4, .int (nI w)), (5, .int (nI i))] → (∀ (H : Heap) (locs : List Loc) (ls : Array Slot), XT D cy ad s A H locs (itr (T_mul w) k i τ) → lv_has ls 6 [(0, .ref (ad 0)), (1, .ref (ad (5 + n))), (2, .long (lN v)), (4, .int (nI w))] → W p l ev R s m args below meth c H locs cells slots Q (F0 m 36 ls [])) → W p l ev R s m args below meth c H locs cells slots Q (F0 m 3 ls []) := by
  intro k
  induction k with
  | zero =>
    intro i τ H locs ls hc h hl K
    refine lv_iload hx hb dX3_reach_3 (lv_at hl 4 rfl) ?_
    refine lv_aload_n hx hb dX3_reach_5 rfl (lv_at hl 0 rfl) ?_
    refine t_gM hx hb hU hown h 4 (by decide) ufX3_34 (v := .int (nI (τ.1 20 0))) rfl dX3_reach_6 ?_
    refine n_icmp_ge (tgt := 36) hx hb (by omega) (by omega) dX3_reach_9 (by decide) (fun c_9 => ?_) (fun c_9 => absurd c_9 (by omega))
    exact K _ _ _ h (lv_sub hl [0, 1, 2, 3] rfl)
  | succ k ih =>
    intro i τ H locs ls hc h hl K
    refine lv_iload hx hb dX3_reach_3 (lv_at hl 4 rfl) ?_
    refine lv_aload_n hx hb dX3_reach_5 rfl (lv_at hl 0 rfl) ?_
    refine t_gM hx hb hU hown h 4 (by decide) ufX3_34 (v := .int (nI (τ.1 20 0))) rfl dX3_reach_6 ?_
    refine n_icmp_ge (tgt := 36) hx hb (by omega) (by omega) dX3_reach_9 (by decide) (fun c_9 => absurd c_9 (by omega)) (fun c_9 => ?_)
    refine lv_aload_n hx hb dX3_reach_12 rfl (lv_at hl 0 rfl) ?_
    refine t_gM hx hb hU hown h 0 (by decide) ufX3_11 (v := .ref (ad 1)) rfl dX3_reach_13 ?_
    refine lv_iload hx hb dX3_reach_16 (lv_at hl 4 rfl) ?_
    refine t_aA hx hb h (by omega) dX3_reach_18 ?_
    refine lv_dup hx hb dX3_reach_19 rfl ?_
    refine t_gA hx hb hU hown h (by omega) 4 (by decide) ufX3_131 (v := .long (lN (τ.1 4 i))) rfl dX3_reach_20 ?_
    refine lv_iload hx hb dX3_reach_23 (lv_at hl 3 rfl) ?_
    refine n_i2l hx hb (by omega) dX3_reach_25 ?_
    refine n_lmul hx hb dX3_reach_26 ?_
    refine t_pA4 hx hb hU hown h (by omega) ufX3_131 dX3_reach_27 (fun H locs h => ?_)
    refine lv_iinc (v := nI (i + 1)) (lv' := [(5, .int (nI (i + 1))), (0, .ref (ad 0)), (1, .ref (ad (5 + n))), (2, .long (lN v)), (4, .int (nI w))]) hx hb dX3_reach_30 hl (k := 4) rfl (by rw [← nI_add]; rfl) (by decide) rfl (fun ls hl => ?_)
    refine lv_goto (tgt := 3) hx hb dX3_reach_33 (by decide) ?_
    exact ih (i + 1) (sN τ 4 i ((τ.1 4 i) * w)) _ _ _ ⟨by rw [sN_k _ _ _ _ (by decide)]; omega, by rw [sN_k _ _ _ _ (by decide)]; exact hc.2⟩ h (lv_sub hl [1, 2, 3, 4, 0] rfl) K
set_option maxRecDepth 100000 in
set_option maxHeartbeats 4000000 in
theorem c_X3_reach (l : Launch) (D : va_G) (cy : Nat → ClassId) (ad : Nat → Nat) (σ : TS) (sz : Nat) {n v w : Nat} (hn : n < 8) (hw : w < 2 ^ 20) (h8 : σ.1 20 0 ≤ 8) : MTv l D cy ad yX3_reach cX3_reach 6 (rmd 0) [.ref (ad 0), .ref (ad (5 + n)), .long (lN v), .int (nI w)] σ sz (fun u => u = T_reach σ n v w) := by
  refine Met.ofW (cc := cX3_reach) (maxL := 6) (ret := none) (by decide) rfl ?_
  intro p ev s m args below meth c s₁ B hml hv
  obtain ⟨rfl, hw⟩ := hv
  have hx := B.exec
  have hb := B.bytes
  have hr := B.returns
  have hlk := B.notSynchronized
  have hU : ∀ w ∈ UW, w.before _ s = true := fun w hw => atoms_spec (ws := Cond.code yX3_reach cX3_reach 6 none :: UW) B.pre w (List.mem_cons_of_mem _ hw)
  have hown : s.vm.findClass RX3 = some m.cls := findClass_of_methodNamed B.named
  have hR : 0 ≤ (headSpec (Cond.code yX3_reach cX3_reach 6 none :: UW) (rmd 0)).room.frames ∧ 32 * 0 ≤ (headSpec (Cond.code yX3_reach cX3_reach 6 none :: UW) (rmd 0)).room.locals := ⟨Nat.le_refl _, Nat.le_refl _⟩
  have hcs : 0 ≤ (headSpec (Cond.code yX3_reach cX3_reach 6 none :: UW) (rmd 0)).room.cells ∧ 0 ≤ (headSpec (Cond.code yX3_reach cX3_reach 6 none :: UW) (rmd 0)).room.slots := ⟨Nat.zero_le _, Nat.zero_le _⟩
  have h := WX.start hw
  clear hw
  generalize va_A (wv _ _ _) _ = A at h ⊢
  have hl := lv_entry ([.ref (ad 0), .ref (ad (5 + n)), .long (lN v), .int (nI w)]) (n := 6) (Nat.le_of_ble_eq_true rfl)
  rw [lg_entry_eq]
  generalize (lg_sl ([.ref (ad 0), .ref (ad (5 + n)), .long (lN v), .int (nI w)]) ++ List.replicate (6 - (lg_sl ([.ref (ad 0), .ref (ad (5 + n)), .long (lN v), .int (nI w)])).length) Slot.unset).toArray = ls at hl ⊢
  have hl : lv_has ls 6 [(0, .ref (ad 0)), (1, .ref (ad (5 + n))), (2, .long (lN v)), (4, .int (nI w))] := hl
  refine lv_iconst (v := nI 0) hx hb dX3_reach_0 (by decide +kernel) ?_
  refine lv_istore (lv' := [(5, .int (nI 0)), (0, .ref (ad 0)), (1, .ref (ad (5 + n))), (2, .long (lN v)), (4, .int (nI w))]) hx hb dX3_reach_1 hl (by decide) rfl (fun ls hl => ?_)
  refine lp_X3_reach hx hb hml hU hown hR hcs hn hw (σ.1 20 0) 0 _ _ _ _ ⟨Nat.zero_add _, h8⟩ h (lv_sub hl [1, 2, 3, 4, 0] rfl) (fun H locs ls h hl => ?_)
  refine lv_aload_n hx hb dX3_reach_36 rfl (lv_at hl 1 rfl) ?_
  refine lv_lload_n hx hb dX3_reach_37 rfl (lv_at hl 2 rfl) ?_
  refine t_pA4 hx hb hU hown h hn ufX3_131 dX3_reach_38 (fun H locs h => ?_)
  exact W.vret hx hb hr (fun t ht hW => ⟨⟨_, rfl, rfl, h.at ht hW⟩, h.2.2.2.2.F ht⟩) h.2.2.2.2.2.2 dX3_reach_41
set_option maxRecDepth 100000 in
set_option maxHeartbeats 4000000 in
theorem c_X3_spreadAlong (l : Launch) (D : va_G) (cy : Nat → ClassId) (ad : Nat → Nat) (σ : TS) (sz : Nat) {q : Nat} (hq : q < 12) (h8 : σ.1 20 0 ≤ 8) (h1 : σ.1 10 q < σ.1 20 0 ∧ σ.1 11 q < σ.1 20 0 ∧ σ.1 12 q < 2 ^ 20 ∧ σ.1 13 q < 2 ^ 20) (h2 : σ.1 4 (σ.1 10 q) < 2 ^ 40 ∧ σ.1 4 (σ.1 11 q) < 2 ^ 40) : MTv l D cy ad yX3_spreadAlong cX3_spreadAlong 4 (rmd 1) [.ref (ad 0), .ref (ad (13 + q))] σ sz (fun u => u = T_along σ q) := by
  refine Met.ofW (cc := cX3_spreadAlong) (maxL := 4) (ret := none) (by decide) rfl ?_
  intro p ev s m args below meth c s₁ B hml hv
  obtain ⟨rfl, hw⟩ := hv
  have hx := B.exec
  have hb := B.bytes
  have hr := B.returns
  have hlk := B.notSynchronized
  have hU : ∀ w ∈ UW, w.before _ s = true := fun w hw => atoms_spec (ws := Cond.code yX3_spreadAlong cX3_spreadAlong 4 none :: UW) B.pre w (List.mem_cons_of_mem _ hw)
  have hown : s.vm.findClass RX3 = some m.cls := findClass_of_methodNamed B.named
  have hR : 1 ≤ (headSpec (Cond.code yX3_spreadAlong cX3_spreadAlong 4 none :: UW) (rmd 1)).room.frames ∧ 32 * 1 ≤ (headSpec (Cond.code yX3_spreadAlong cX3_spreadAlong 4 none :: UW) (rmd 1)).room.locals := ⟨Nat.le_refl _, Nat.le_refl _⟩
  have hcs : 0 ≤ (headSpec (Cond.code yX3_spreadAlong cX3_spreadAlong 4 none :: UW) (rmd 1)).room.cells ∧ 0 ≤ (headSpec (Cond.code yX3_spreadAlong cX3_spreadAlong 4 none :: UW) (rmd 1)).room.slots := ⟨Nat.zero_le _, Nat.zero_le _⟩
  have h := WX.start hw
  clear hw
  generalize va_A (wv _ _ _) _ = A at h ⊢
  have hl := lv_entry ([.ref (ad 0), .ref (ad (13 + q))]) (n := 4) (Nat.le_of_ble_eq_true rfl)
  rw [lg_entry_eq]
  generalize (lg_sl ([.ref (ad 0), .ref (ad (13 + q))]) ++ List.replicate (4 - (lg_sl ([.ref (ad 0), .ref (ad (13 + q))])).length) Slot.unset).toArray = ls at hl ⊢
  have hl : lv_has ls 4 [(0, .ref (ad 0)), (1, .ref (ad (13 + q)))] := hl
  refine lv_aload_n hx hb dX3_spreadAlong_0 rfl (lv_at hl 0 rfl) ?_
  refine t_gM hx hb hU hown h 0 (by decide) ufX3_11 (v := .ref (ad 1)) rfl dX3_spreadAlong_1 ?_
  refine lv_aload_n hx hb dX3_spreadAlong_4 rfl (lv_at hl 1 rfl) ?_
  refine t_gE hx hb hU hown h hq 0 (by decide) ufX3_60 (v := .int (nI (σ.1 10 q))) rfl dX3_spreadAlong_5 ?_
  refine t_aA hx hb h (by omega) dX3_spreadAlong_8 ?_
  refine lv_astore_n (lv' := [(2, .ref (ad (5 + (σ.1 10 q)))), (0, .ref (ad 0)), (1, .ref (ad (13 + q)))]) hx hb dX3_spreadAlong_9 rfl hl (by decide) rfl (fun ls hl => ?_)
  refine lv_aload_n hx hb dX3_spreadAlong_10 rfl (lv_at hl 1 rfl) ?_
  refine t_gM hx hb hU hown h 0 (by decide) ufX3_11 (v := .ref (ad 1)) rfl dX3_spreadAlong_11 ?_
  refine lv_aload_n hx hb dX3_spreadAlong_14 rfl (lv_at hl 2 rfl) ?_
  refine t_gE hx hb hU hown h hq 1 (by decide) ufX3_63 (v := .int (nI (σ.1 11 q))) rfl dX3_spreadAlong_15 ?_
  refine t_aA hx hb h (by omega) dX3_spreadAlong_18 ?_
  refine lv_astore_n (lv' := [(3, .ref (ad (5 + (σ.1 11 q)))), (2, .ref (ad (5 + (σ.1 10 q)))), (0, .ref (ad 0)), (1, .ref (ad (13 + q)))]) hx hb dX3_spreadAlong_19 rfl hl (by decide) rfl (fun ls hl => ?_)
  refine lv_aload_n hx hb dX3_spreadAlong_20 rfl (lv_at hl 1 rfl) ?_
  refine t_gA hx hb hU hown h (by omega) 4 (by decide) ufX3_131 (v := .long (lN (σ.1 4 (σ.1 10 q)))) rfl dX3_spreadAlong_21 ?_
  refine lv_lconst (v := lN 0) hx hb dX3_spreadAlong_24 (by decide +kernel) ?_
  refine W.lcmp hx hb dX3_spreadAlong_25 ?_
  refine n_lif_le (tgt := 60) hx hb (by omega) (by omega) dX3_spreadAlong_26 (by decide) (fun c_26 => ?_) (fun c_26 => ?_)
  · refine lv_aload_n hx hb dX3_spreadAlong_60 rfl (lv_at hl 0 rfl) ?_
    refine t_gA hx hb hU hown h (by omega) 4 (by decide) ufX3_131 (v := .long (lN (σ.1 4 (σ.1 11 q)))) rfl dX3_spreadAlong_61 ?_
    refine lv_lconst (v := lN 0) hx hb dX3_spreadAlong_64 (by decide +kernel) ?_
    refine W.lcmp hx hb dX3_spreadAlong_65 ?_
    refine n_lif_le (tgt := 97) hx hb (by omega) (by omega) dX3_spreadAlong_66 (by decide) (fun c_66 => ?_) (fun c_66 => ?_)
    · exact W.vret hx hb hr (fun t ht hW => ⟨⟨_, rfl, (by first | (rw [T_along, if_pos ⟨c_26, c_35⟩]; done) | (rw [T_along, if_neg (by omega), if_pos (by omega)]; done) | (rw [T_along, if_neg (by omega), if_neg (by omega)]; done)), h.at ht hW⟩, h.2.2.2.2.F ht⟩) h.2.2.2.2.2.2 dX3_spreadAlong_97
    · refine lv_aload_n hx hb dX3_spreadAlong_69 rfl (lv_at hl 1 rfl) ?_
      refine t_gA hx hb hU hown h (by omega) 4 (by decide) ufX3_131 (v := .long (lN (σ.1 4 (σ.1 10 q)))) rfl dX3_spreadAlong_70 ?_
      refine lv_lconst (v := lN 0) hx hb dX3_spreadAlong_73 (by decide +kernel) ?_
      refine W.lcmp hx hb dX3_spreadAlong_74 ?_
      refine n_lif_ne (tgt := 97) hx hb (by omega) (by omega) dX3_spreadAlong_75 (by decide) (fun c_75 => ?_) (fun c_75 => ?_)
      · exact W.vret hx hb hr (fun t ht hW => ⟨⟨_, rfl, (by first | (rw [T_along, if_pos ⟨c_26, c_35⟩]; done) | (rw [T_along, if_neg (by omega), if_pos (by omega)]; done) | (rw [T_along, if_neg (by omega), if_neg (by omega)]; done)), h.at ht hW⟩, h.2.2.2.2.F ht⟩) h.2.2.2.2.2.2 dX3_spreadAlong_97
      · refine lv_aload_n hx hb dX3_spreadAlong_78 rfl (lv_at hl 2 rfl) ?_
        refine lv_aload_n hx hb dX3_spreadAlong_79 rfl (lv_at hl 1 rfl) ?_
        refine lv_aload_n hx hb dX3_spreadAlong_80 rfl (lv_at hl 0 rfl) ?_
        refine t_gA hx hb hU hown h (by omega) 4 (by decide) ufX3_131 (v := .long (lN (σ.1 4 (σ.1 11 q)))) rfl dX3_spreadAlong_81 ?_
        refine lv_aload_n hx hb dX3_spreadAlong_84 rfl (lv_at hl 3 rfl) ?_
        refine t_gE hx hb hU hown h hq 3 (by decide) ufX3_69 (v := .int (nI (σ.1 13 q))) rfl dX3_spreadAlong_85 ?_
        refine n_i2l hx hb (by omega) dX3_spreadAlong_88 ?_
        refine n_lmul hx hb dX3_spreadAlong_89 ?_
        refine lv_aload_n hx hb dX3_spreadAlong_90 rfl (lv_at hl 3 rfl) ?_
        refine t_gE hx hb hU hown h hq 2 (by decide) ufX3_66 (v := .int (nI (σ.1 12 q))) rfl dX3_spreadAlong_91 ?_
        refine y_callv hx hb hml hU hown hR hcs h (c_X3_reach l D cy ad σ _ (n := σ.1 10 q) (v := (σ.1 4 (σ.1 11 q)) * (σ.1 13 q)) (w := σ.1 12 q) (by omega) (by omega) h8) umX3_168 ui_X3_reach us_X3_reach unX3 uc_X3_reach hd_X3_reach (by decide) (by decide) (t_recvM h) hl.1 rfl (Nat.le_of_ble_eq_true rfl) dX3_spreadAlong_94 (fun u H locs hw h => ?_)
        have hu := hw
        have h : XT D cy ad s A H locs (T_reach σ (σ.1 10 q) ((σ.1 4 (σ.1 11 q)) * (σ.1 13 q)) (σ.1 12 q)) := by rw [← hu]; exact h
        clear hu
        exact W.vret hx hb hr (fun t ht hW => ⟨⟨_, rfl, (by first | (rw [T_along, if_pos ⟨c_26, c_35⟩]; done) | (rw [T_along, if_neg (by omega), if_pos (by omega)]; done) | (rw [T_along, if_neg (by omega), if_neg (by omega)]; done)), h.at ht hW⟩, h.2.2.2.2.F ht⟩) h.2.2.2.2.2.2 dX3_spreadAlong_97
  · refine lv_aload_n hx hb dX3_spreadAlong_29 rfl (lv_at hl 0 rfl) ?_
    refine t_gA hx hb hU hown h (by omega) 4 (by decide) ufX3_131 (v := .long (lN (σ.1 4 (σ.1 11 q)))) rfl dX3_spreadAlong_30 ?_
    refine lv_lconst (v := lN 0) hx hb dX3_spreadAlong_33 (by decide +kernel) ?_
    refine W.lcmp hx hb dX3_spreadAlong_34 ?_
    refine n_lif_ne (tgt := 60) hx hb (by omega) (by omega) dX3_spreadAlong_35 (by decide) (fun c_35 => ?_) (fun c_35 => ?_)
    · refine lv_aload_n hx hb dX3_spreadAlong_60 rfl (lv_at hl 0 rfl) ?_
      refine t_gA hx hb hU hown h (by omega) 4 (by decide) ufX3_131 (v := .long (lN (σ.1 4 (σ.1 11 q)))) rfl dX3_spreadAlong_61 ?_
      refine lv_lconst (v := lN 0) hx hb dX3_spreadAlong_64 (by decide +kernel) ?_
      refine W.lcmp hx hb dX3_spreadAlong_65 ?_
      refine n_lif_le (tgt := 97) hx hb (by omega) (by omega) dX3_spreadAlong_66 (by decide) (fun c_66 => ?_) (fun c_66 => ?_)
      · exact W.vret hx hb hr (fun t ht hW => ⟨⟨_, rfl, (by first | (rw [T_along, if_pos ⟨c_26, c_35⟩]; done) | (rw [T_along, if_neg (by omega), if_pos (by omega)]; done) | (rw [T_along, if_neg (by omega), if_neg (by omega)]; done)), h.at ht hW⟩, h.2.2.2.2.F ht⟩) h.2.2.2.2.2.2 dX3_spreadAlong_97
      · refine lv_aload_n hx hb dX3_spreadAlong_69 rfl (lv_at hl 1 rfl) ?_
        refine t_gA hx hb hU hown h (by omega) 4 (by decide) ufX3_131 (v := .long (lN (σ.1 4 (σ.1 10 q)))) rfl dX3_spreadAlong_70 ?_
        refine lv_lconst (v := lN 0) hx hb dX3_spreadAlong_73 (by decide +kernel) ?_
        refine W.lcmp hx hb dX3_spreadAlong_74 ?_
        refine n_lif_ne (tgt := 97) hx hb (by omega) (by omega) dX3_spreadAlong_75 (by decide) (fun c_75 => ?_) (fun c_75 => ?_)
        · exact W.vret hx hb hr (fun t ht hW => ⟨⟨_, rfl, (by first | (rw [T_along, if_pos ⟨c_26, c_35⟩]; done) | (rw [T_along, if_neg (by omega), if_pos (by omega)]; done) | (rw [T_along, if_neg (by omega), if_neg (by omega)]; done)), h.at ht hW⟩, h.2.2.2.2.F ht⟩) h.2.2.2.2.2.2 dX3_spreadAlong_97
        · refine lv_aload_n hx hb dX3_spreadAlong_78 rfl (lv_at hl 2 rfl) ?_
          refine lv_aload_n hx hb dX3_spreadAlong_79 rfl (lv_at hl 1 rfl) ?_
          refine lv_aload_n hx hb dX3_spreadAlong_80 rfl (lv_at hl 0 rfl) ?_
          refine t_gA hx hb hU hown h (by omega) 4 (by decide) ufX3_131 (v := .long (lN (σ.1 4 (σ.1 11 q)))) rfl dX3_spreadAlong_81 ?_
          refine lv_aload_n hx hb dX3_spreadAlong_84 rfl (lv_at hl 3 rfl) ?_
          refine t_gE hx hb hU hown h hq 3 (by decide) ufX3_69 (v := .int (nI (σ.1 13 q))) rfl dX3_spreadAlong_85 ?_
          refine n_i2l hx hb (by omega) dX3_spreadAlong_88 ?_
          refine n_lmul hx hb dX3_spreadAlong_89 ?_
          refine lv_aload_n hx hb dX3_spreadAlong_90 rfl (lv_at hl 3 rfl) ?_
          refine t_gE hx hb hU hown h hq 2 (by decide) ufX3_66 (v := .int (nI (σ.1 12 q))) rfl dX3_spreadAlong_91 ?_
          refine y_callv hx hb hml hU hown hR hcs h (c_X3_reach l D cy ad σ _ (n := σ.1 10 q) (v := (σ.1 4 (σ.1 11 q)) * (σ.1 13 q)) (w := σ.1 12 q) (by omega) (by omega) h8) umX3_168 ui_X3_reach us_X3_reach unX3 uc_X3_reach hd_X3_reach (by decide) (by decide) (t_recvM h) hl.1 rfl (Nat.le_of_ble_eq_true rfl) dX3_spreadAlong_94 (fun u H locs hw h => ?_)
          have hu := hw
          have h : XT D cy ad s A H locs (T_reach σ (σ.1 10 q) ((σ.1 4 (σ.1 11 q)) * (σ.1 13 q)) (σ.1 12 q)) := by rw [← hu]; exact h
          clear hu
          exact W.vret hx hb hr (fun t ht hW => ⟨⟨_, rfl, (by first | (rw [T_along, if_pos ⟨c_26, c_35⟩]; done) | (rw [T_along, if_neg (by omega), if_pos (by omega)]; done) | (rw [T_along, if_neg (by omega), if_neg (by omega)]; done)), h.at ht hW⟩, h.2.2.2.2.F ht⟩) h.2.2.2.2.2.2 dX3_spreadAlong_97
    · refine lv_aload_n hx hb dX3_spreadAlong_38 rfl (lv_at hl 2 rfl) ?_
      refine lv_aload_n hx hb dX3_spreadAlong_39 rfl (lv_at hl 0 rfl) ?_
      refine lv_aload_n hx hb dX3_spreadAlong_40 rfl (lv_at hl 1 rfl) ?_
      refine t_gA hx hb hU hown h (by omega) 4 (by decide) ufX3_131 (v := .long (lN (σ.1 4 (σ.1 10 q)))) rfl dX3_spreadAlong_41 ?_
      refine lv_aload_n hx hb dX3_spreadAlong_44 rfl (lv_at hl 3 rfl) ?_
      refine t_gE hx hb hU hown h hq 2 (by decide) ufX3_66 (v := .int (nI (σ.1 12 q))) rfl dX3_spreadAlong_45 ?_
      refine n_i2l hx hb (by omega) dX3_spreadAlong_48 ?_
      refine n_lmul hx hb dX3_spreadAlong_49 ?_
      refine lv_aload_n hx hb dX3_spreadAlong_50 rfl (lv_at hl 3 rfl) ?_
      refine t_gE hx hb hU hown h hq 3 (by decide) ufX3_69 (v := .int (nI (σ.1 13 q))) rfl dX3_spreadAlong_51 ?_
      refine y_callv hx hb hml hU hown hR hcs h (c_X3_reach l D cy ad σ _ (n := σ.1 11 q) (v := (σ.1 4 (σ.1 10 q)) * (σ.1 12 q)) (w := σ.1 13 q) (by omega) (by omega) h8) umX3_168 ui_X3_reach us_X3_reach unX3 uc_X3_reach hd_X3_reach (by decide) (by decide) (t_recvM h) hl.1 rfl (Nat.le_of_ble_eq_true rfl) dX3_spreadAlong_54 (fun u H locs hw h => ?_)
      have hu := hw
      have h : XT D cy ad s A H locs (T_reach σ (σ.1 11 q) ((σ.1 4 (σ.1 10 q)) * (σ.1 12 q)) (σ.1 13 q)) := by rw [← hu]; exact h
      clear hu
      refine lv_goto (tgt := 97) hx hb dX3_spreadAlong_57 (by decide) ?_
      exact W.vret hx hb hr (fun t ht hW => ⟨⟨_, rfl, (by first | (rw [T_along, if_pos ⟨c_26, c_35⟩]; done) | (rw [T_along, if_neg (by omega), if_pos (by omega)]; done) | (rw [T_along, if_neg (by omega), if_neg (by omega)]; done)), h.at ht hW⟩, h.2.2.2.2.F ht⟩) h.2.2.2.2.2.2 dX3_spreadAlong_97
def T_sp0 : Nat → TS → TS := fun n τ => sN τ 4 n (if n = 0 then 1 else 0)
def T_along_s : Nat → TS → TS := fun q τ => T_along τ q
def T_round : Nat → TS → TS := fun _ τ => itr T_along_s (τ.1 21 0) 0 τ
def T_spread (σ : TS) : TS := itr T_round (σ.1 20 0 - 1) 1 (itr T_sp0 (σ.1 20 0) 0 σ)
/-- the network is as the calls have made it -/
def TNet (σ : TS) : Prop := σ.1 20 0 ≤ 8 ∧ σ.1 21 0 ≤ 12 ∧ ∀ q, q < σ.1 21 0 → σ.1 10 q < σ.1 20 0 ∧ σ.1 11 q < σ.1 20 0 ∧ 1 ≤ σ.1 12 q ∧ σ.1 12 q ≤ 9 ∧ 1 ≤ σ.1 13 q ∧ σ.1 13 q ≤ 9 ∧ σ.1 14 q ≤ 9
theorem TNet.same {σ τ : TS} (h : TNet σ) (e : ∀ f n, f ≠ 4 → τ.1 f n = σ.1 f n) : TNet τ := by
  unfold TNet
  rw [e 20 0 (by decide), e 21 0 (by decide)]
  refine ⟨h.1, h.2.1, fun q hq => ?_⟩
  rw [e 10 q (by decide), e 11 q (by decide), e 12 q (by decide), e 13 q (by decide), e 14 q (by decide)]
  exact h.2.2 q hq
/-- how many of the first n are 0 -/
def zc (f : Nat → Nat) : Nat → Nat
  | 0 => 0
  | n + 1 => zc f n + if f n = 0 then 1 else 0
theorem zc_le (f : Nat → Nat) : ∀ n, zc f n ≤ n := by
  intro n
  induction n with
  | zero => exact Nat.le_refl _
  | succ n ih => show zc f n + _ ≤ _; split <;> omega
theorem zc_congr {f g : Nat → Nat} : ∀ n, (∀ j, j < n → (f j = 0 ↔ g j = 0)) → zc f n = zc g n := by
  intro n
  induction n with
  | zero => intro _; rfl
  | succ n ih =>
    intro h
    show zc f n + _ = zc g n + _
    rw [ih (fun j hj => h j (by omega))]
    by_cases e : f n = 0
    · rw [if_pos e, if_pos ((h n (by omega)).mp e)]
    · rw [if_neg e, if_neg (fun q => e ((h n (by omega)).mpr q))]
theorem zc_less {f g : Nat → Nat} {i : Nat} : ∀ n, i < n → f i = 0 → g i ≠ 0 → (∀ j, j < n → j ≠ i → (f j = 0 ↔ g j = 0)) → zc f n = zc g n + 1 := by
  intro n
  induction n with
  | zero => intro h; omega
  | succ n ih =>
    intro hi h0 h1 h
    show zc f n + _ = zc g n + _ + 1
    by_cases e : i = n
    · subst e
      rw [if_pos h0, if_neg h1, zc_congr i (fun j hj => h j (by omega) (by omega))]
    · rw [ih (by omega) h0 h1 (fun j hj hji => h j (by omega) hji)]
      by_cases e2 : f n = 0
      · rw [if_pos e2, if_pos ((h n (by omega) (by omega)).mp e2)]
      · rw [if_neg e2, if_neg (fun q => e2 ((h n (by omega) (by omega)).mpr q))]
theorem itr_mul_N (w : Nat) : ∀ (k i : Nat) (τ : TS) (f n : Nat), (itr (T_mul w) k i τ).1 f n = if f = 4 ∧ i ≤ n ∧ n < i + k then τ.1 4 n * w else τ.1 f n := by
  intro k
  induction k with
  | zero => intro i τ f n; rw [if_neg (by omega)]; rfl
  | succ k ih =>
    intro i τ f n
    show (itr (T_mul w) k (i + 1) (T_mul w i τ)).1 f n = _
    rw [ih]
    show (if f = 4 ∧ i + 1 ≤ n ∧ n < i + 1 + k then up2 τ.1 4 i (τ.1 4 i * w) 4 n * w else up2 τ.1 4 i (τ.1 4 i * w) f n) = _
    by_cases e : n = i
    · subst e
      rw [if_neg (by omega)]
      by_cases ef : f = 4
      · subst ef; rw [up2_eq, if_pos (by omega)]
      · rw [up2_k _ _ _ _ ef, if_neg (by omega)]
    · rw [up2_n _ _ _ _ e, up2_n _ _ _ _ e]
      by_cases q : f = 4 ∧ i + 1 ≤ n ∧ n < i + 1 + k
      · rw [if_pos q, if_pos (by omega)]
      · rw [if_neg q, if_neg (by omega)]
theorem T_reach_N (σ : TS) (n v w f j : Nat) : (T_reach σ n v w).1 f j = if f = 4 ∧ j = n then v else if f = 4 ∧ j < σ.1 20 0 then σ.1 4 j * w else σ.1 f j := by
  show up2 (itr (T_mul w) (σ.1 20 0) 0 σ).1 4 n v f j = _
  unfold up2
  split
  · rfl
  · rw [itr_mul_N]
    by_cases q : f = 4 ∧ j < σ.1 20 0
    · rw [if_pos (by omega), if_pos q]
    · rw [if_neg (by omega), if_neg q]
theorem T_along_N (σ : TS) (q : Nat) {f : Nat} (n : Nat) (hf : f ≠ 4) : (T_along σ q).1 f n = σ.1 f n := by
  unfold T_along
  split
  · rw [T_reach_N, if_neg (by omega), if_neg (by omega)]
  · split
    · rw [T_reach_N, if_neg (by omega), if_neg (by omega)]
    · rfl
/-- what keeps the repetitions small while they are spread -/
def SpI (σ : TS) : Prop := TNet σ ∧ ∀ n, n < σ.1 20 0 → σ.1 4 n * 9 ^ zc (σ.1 4) (σ.1 20 0) ≤ 9 ^ 7
theorem SpI.lt {σ : TS} (h : SpI σ) {n : Nat} (hn : n < σ.1 20 0) : σ.1 4 n < 2 ^ 40 := by
  have h1 := h.2 n hn
  have h2 : 1 ≤ 9 ^ zc (σ.1 4) (σ.1 20 0) := Nat.pow_pos (by decide)
  have h3 : σ.1 4 n * 1 ≤ σ.1 4 n * 9 ^ zc (σ.1 4) (σ.1 20 0) := Nat.mul_le_mul_left _ h2
  have h4 : (9 : Nat) ^ 7 < 2 ^ 40 := by decide
  omega
theorem SpI_reach {σ : TS} (h : SpI σ) {n m a w : Nat} (hn : n < σ.1 20 0) (hm : m < σ.1 20 0) (h0 : σ.1 4 n = 0) (h1 : 0 < σ.1 4 m) (ha : 1 ≤ a ∧ a ≤ 9) (hw : 1 ≤ w ∧ w ≤ 9) : SpI (T_reach σ n (σ.1 4 m * a) w) := by
  have e : ∀ f j, f ≠ 4 → (T_reach σ n (σ.1 4 m * a) w).1 f j = σ.1 f j := fun f j hf => by rw [T_reach_N, if_neg (by omega), if_neg (by omega)]
  refine ⟨h.1.same e, ?_⟩
  rw [e 20 0 (by decide)]
  have ez : zc (σ.1 4) (σ.1 20 0) = zc ((T_reach σ n (σ.1 4 m * a) w).1 4) (σ.1 20 0) + 1 := by
    refine zc_less _ hn h0 ?_ (fun j hj hji => ?_)
    · rw [T_reach_N, if_pos (by omega)]
      exact Nat.pos_iff_ne_zero.mp (Nat.mul_pos h1 (by omega))
    · rw [T_reach_N, if_neg (by omega), if_pos (by omega)]
      constructor
      · intro q; rw [q, Nat.zero_mul]
      · intro q
        rcases Nat.mul_eq_zero.mp q with q | q
        · exact q
        · omega
  intro j hj
  have key : ∀ x, x < σ.1 20 0 → ∀ b, b ≤ 9 → σ.1 4 x * b * 9 ^ zc ((T_reach σ n (σ.1 4 m * a) w).1 4) (σ.1 20 0) ≤ 9 ^ 7 := fun x hx b hb => by
    have h2 := h.2 x hx
    rw [ez, Nat.pow_succ] at h2
    refine Nat.le_trans ?_ h2
    rw [Nat.mul_assoc]
    refine Nat.mul_le_mul_left _ ?_
    rw [Nat.mul_comm]
    exact Nat.mul_le_mul_left _ hb
  rw [T_reach_N]
  by_cases q : j = n
  · rw [if_pos (by omega)]
    exact key m hm a ha.2
  · rw [if_neg (by omega), if_pos (by omega)]
    exact key j hj w hw.2
theorem SpI_along {σ : TS} {q : Nat} (hq : q < σ.1 21 0) (h : SpI σ) : SpI (T_along σ q) := by
  obtain ⟨a1, a2, a3, a4, a5, a6, a7⟩ := h.1.2.2 q hq
  unfold T_along
  split
  · rename_i c
    exact SpI_reach h a2 a1 c.2 c.1 ⟨a3, a4⟩ ⟨a5, a6⟩
  · split
    · rename_i c
      exact SpI_reach h a1 a2 c.2 c.1 ⟨a5, a6⟩ ⟨a3, a4⟩
    · exact h
theorem itr_along_N : ∀ (k i : Nat) (τ : TS) {f : Nat} (n : Nat), f ≠ 4 → (itr T_along_s k i τ).1 f n = τ.1 f n := by
  intro k
  induction k with
  | zero => intro i τ f n _; rfl
  | succ k ih => intro i τ f n hf; exact (ih (i + 1) _ n hf).trans (T_along_N τ i n hf)
theorem itr_along_I : ∀ (k i : Nat) (τ : TS), i + k ≤ τ.1 21 0 → SpI τ → SpI (itr T_along_s k i τ) := by
  intro k
  induction k with
  | zero => intro i τ _ h; exact h
  | succ k ih => intro i τ hk h; exact ih (i + 1) _ (by show i + 1 + k ≤ (T_along τ i).1 21 0; rw [T_along_N τ i 0 (by decide)]; omega) (SpI_along (by omega) h)
theorem itr_sp0_N : ∀ (k i : Nat) (τ : TS) (f n : Nat), (itr T_sp0 k i τ).1 f n = if f = 4 ∧ i ≤ n ∧ n < i + k then (if n = 0 then 1 else 0) else τ.1 f n := by
  intro k
  induction k with
  | zero => intro i τ f n; rw [if_neg (by omega)]; rfl
  | succ k ih =>
    intro i τ f n
    show (itr T_sp0 k (i + 1) (T_sp0 i τ)).1 f n = _
    rw [ih]
    show (if f = 4 ∧ i + 1 ≤ n ∧ n < i + 1 + k then (if n = 0 then 1 else 0) else up2 τ.1 4 i (if i = 0 then 1 else 0) f n) = _
    by_cases e : n = i
    · subst e
      rw [if_neg (by omega)]
      by_cases ef : f = 4
      · subst ef; rw [up2_eq]; simp
      · rw [up2_k _ _ _ _ ef, if_neg (by omega)]
    · rw [up2_n _ _ _ _ e]
      by_cases q : f = 4 ∧ i + 1 ≤ n ∧ n < i + 1 + k
      · rw [if_pos q, if_pos (show f = 4 ∧ i ≤ n ∧ n < i + (k + 1) by omega)]
      · rw [if_neg q, if_neg (show ¬ (f = 4 ∧ i ≤ n ∧ n < i + (k + 1)) by omega)]
theorem SpI_sp0 {σ : TS} (h : TNet σ) : SpI (itr T_sp0 (σ.1 20 0) 0 σ) := by
  have e : ∀ f j, f ≠ 4 → (itr T_sp0 (σ.1 20 0) 0 σ).1 f j = σ.1 f j := fun f j hf => by rw [itr_sp0_N, if_neg (by omega)]
  refine ⟨h.same e, ?_⟩
  rw [e 20 0 (by decide)]
  intro n hn
  have e4 : ∀ j, j < σ.1 20 0 → (itr T_sp0 (σ.1 20 0) 0 σ).1 4 j = if j = 0 then 1 else 0 := fun j hj => by rw [itr_sp0_N, if_pos (by omega)]
  rw [e4 n hn]
  have hz : zc ((itr T_sp0 (σ.1 20 0) 0 σ).1 4) (σ.1 20 0) + 1 ≤ 8 := by
    have h8 := h.1
    have hl := zc_less (f := fun _ => 0) (g := (itr T_sp0 (σ.1 20 0) 0 σ).1 4) (i := 0) (σ.1 20 0) (by omega) rfl (by rw [e4 0 (by omega)]; decide) (fun j hj hji => by rw [e4 j hj, if_neg hji])
    have := zc_le (fun _ => 0) (σ.1 20 0)
    omega
  have hp : (9 : Nat) ^ zc ((itr T_sp0 (σ.1 20 0) 0 σ).1 4) (σ.1 20 0) ≤ 9 ^ 7 := Nat.pow_le_pow_right (by decide) (by omega)
  split
  · omega
  · rw [Nat.zero_mul]; exact Nat.zero_le _
theorem SpI_round {σ : TS} (i : Nat) (h : SpI σ) : SpI (T_round i σ) := itr_along_I _ _ _ (by omega) h
theorem T_round_N (i : Nat) (τ : TS) {f : Nat} (n : Nat) (hf : f ≠ 4) : (T_round i τ).1 f n = τ.1 f n := itr_along_N _ _ _ n hf
set_option maxRecDepth 100000 in
set_option maxHeartbeats 4000000 in
theorem lp_X3_spread1 {p : Program} {l : Launch} {ev : Env} {R : Room} {s : State} {m : MethodId} {args : Array Value} {below : List Frame} {meth : Method} {c : Code} {cells slots : Nat} {Q : State → Prop} {D : va_G} {cy : Nat → ClassId} {ad : Nat → Nat} {A : Nat → Prop} (hx : p.tables.exec = Jvm.exec) (hb : c.code = cX3_spreadRepetitions) (hml : c.maxLocals = 3) (hU : ∀ w ∈ UW, w.before args s = true) (hown : s.vm.findClass RX3 = some m.cls) (hR : 2 ≤ R.frames ∧ 32 * 2 ≤ R.locals) (hcs : cells ≤ R.cells ∧ slots ≤ R.slots)  :
    ∀ (k i : Nat) (τ : TS) (H : Heap) (locs : List Loc) (ls : Array Slot), (i + k = τ.1 20 0 ∧ τ.1 20 0 ≤ 8) → XT D cy ad s A H locs τ → lv_has ls 3 [(0, .ref (ad 0)), (1, .int (nI i))] → (∀ (H : Heap) (locs : List Loc) (ls : Array Slot), XT D cy ad s A H locs (itr T_sp0 k i τ) → lv_has ls 3 [(0, .ref (ad 0))] → W p l ev R s m args below meth c H locs cells slots Q (F0 m 34 ls [])) → W p l ev R s m args below meth c H locs cells slots Q (F0 m 2 ls []) := by
  intro k
  induction k with
  | zero =>
    intro i τ H locs ls hc h hl K
    refine lv_iload_n hx hb dX3_spreadRepetitions_2 rfl (lv_at hl 1 rfl) ?_
    refine lv_aload_n hx hb dX3_spreadRepetitions_3 rfl (lv_at hl 0 rfl) ?_
    refine t_gM hx hb hU hown h 4 (by decide) ufX3_34 (v := .int (nI (τ.1 20 0))) rfl dX3_spreadRepetitions_4 ?_
    refine n_icmp_ge (tgt := 34) hx hb (by omega) (by omega) dX3_spreadRepetitions_7 (by decide) (fun c_7 => ?_) (fun c_7 => absurd c_7 (by omega))
    exact K _ _ _ h (lv_sub hl [0] rfl)
  | succ k ih =>
    intro i τ H locs ls hc h hl K
    refine lv_iload_n hx hb dX3_spreadRepetitions_2 rfl (lv_at hl 1 rfl) ?_
    refine lv_aload_n hx hb dX3_spreadRepetitions_3 rfl (lv_at hl 0 rfl) ?_
    refine t_gM hx hb hU hown h 4 (by decide) ufX3_34 (v := .int (nI (τ.1 20 0))) rfl dX3_spreadRepetitions_4 ?_
    refine n_icmp_ge (tgt := 34) hx hb (by omega) (by omega) dX3_spreadRepetitions_7 (by decide) (fun c_7 => absurd c_7 (by omega)) (fun c_7 => ?_)
    refine lv_aload_n hx hb dX3_spreadRepetitions_10 rfl (lv_at hl 0 rfl) ?_
    refine t_gM hx hb hU hown h 0 (by decide) ufX3_11 (v := .ref (ad 1)) rfl dX3_spreadRepetitions_11 ?_
    refine lv_iload_n hx hb dX3_spreadRepetitions_14 rfl (lv_at hl 1 rfl) ?_
    refine t_aA hx hb h (by omega) dX3_spreadRepetitions_15 ?_
    refine lv_iload_n hx hb dX3_spreadRepetitions_16 rfl (lv_at hl 1 rfl) ?_
    refine n_if_ne (tgt := 24) hx hb (by omega) dX3_spreadRepetitions_17 (by decide) (fun c_17 => ?_) (fun c_17 => ?_)
    · refine lv_lconst (v := lN 0) hx hb dX3_spreadRepetitions_24 (by decide +kernel) ?_
      refine t_pA4 hx hb hU hown h (by omega) ufX3_131 dX3_spreadRepetitions_25 (fun H locs h => ?_)
      refine lv_iinc (v := nI (i + 1)) (lv' := [(1, .int (nI (i + 1))), (0, .ref (ad 0))]) hx hb dX3_spreadRepetitions_28 hl (k := 1) rfl (by rw [← nI_add]; rfl) (by decide) rfl (fun ls hl => ?_)
      refine lv_goto (tgt := 2) hx hb dX3_spreadRepetitions_31 (by decide) ?_
      exact ih (i + 1) (sN τ 4 i 0) _ _ _ ⟨by rw [sN_k _ _ _ _ (by decide)]; omega, by rw [sN_k _ _ _ _ (by decide)]; exact hc.2⟩ h (lv_sub hl [1, 0] rfl) (by unfold itr at K; simp only [T_sp0] at K; first | (rw [if_neg (by omega)] at K; exact K) | (rw [if_pos (by omega)] at K; exact K))
    · refine lv_lconst (v := lN 1) hx hb dX3_spreadRepetitions_20 (by decide +kernel) ?_
      refine lv_goto (tgt := 25) hx hb dX3_spreadRepetitions_21 (by decide) ?_
      refine t_pA4 hx hb hU hown h (by omega) ufX3_131 dX3_spreadRepetitions_25 (fun H locs h => ?_)
      refine lv_iinc (v := nI (i + 1)) (lv' := [(1, .int (nI (i + 1))), (0, .ref (ad 0))]) hx hb dX3_spreadRepetitions_28 hl (k := 1) rfl (by rw [← nI_add]; rfl) (by decide) rfl (fun ls hl => ?_)
      refine lv_goto (tgt := 2) hx hb dX3_spreadRepetitions_31 (by decide) ?_
      exact ih (i + 1) (sN τ 4 i 1) _ _ _ ⟨by rw [sN_k _ _ _ _ (by decide)]; omega, by rw [sN_k _ _ _ _ (by decide)]; exact hc.2⟩ h (lv_sub hl [1, 0] rfl) (by unfold itr at K; simp only [T_sp0] at K; first | (rw [if_neg (by omega)] at K; exact K) | (rw [if_pos (by omega)] at K; exact K))
set_option maxRecDepth 100000 in
set_option maxHeartbeats 4000000 in
theorem lp_X3_spread2 {p : Program} {l : Launch} {ev : Env} {R : Room} {s : State} {m : MethodId} {args : Array Value} {below : List Frame} {meth : Method} {c : Code} {cells slots : Nat} {Q : State → Prop} {D : va_G} {cy : Nat → ClassId} {ad : Nat → Nat} {A : Nat → Prop} (hx : p.tables.exec = Jvm.exec) (hb : c.code = cX3_spreadRepetitions) (hml : c.maxLocals = 3) (hU : ∀ w ∈ UW, w.before args s = true) (hown : s.vm.findClass RX3 = some m.cls) (hR : 2 ≤ R.frames ∧ 32 * 2 ≤ R.locals) (hcs : cells ≤ R.cells ∧ slots ≤ R.slots) {j : Nat} :
    ∀ (k i : Nat) (τ : TS) (H : Heap) (locs : List Loc) (ls : Array Slot), (i + k = τ.1 21 0 ∧ SpI τ) → XT D cy ad s A H locs τ → lv_has ls 3 [(0, .ref (ad 0)), (1, .int (nI j)), (2, .int (nI i))] → (∀ (H : Heap) (locs : List Loc) (ls : Array Slot), XT D cy ad s A H locs (itr T_along_s k i τ) → lv_has ls 3 [(0, .ref (ad 0)), (1, .int (nI j))] → W p l ev R s m args below meth c H locs cells slots Q (F0 m 70 ls [])) → W p l ev R s m args below meth c H locs cells slots Q (F0 m 46 ls []) := by
  intro k
  induction k with
  | zero =>
    intro i τ H locs ls hc h hl K
    have h12 := hc.2.1.2.1
    refine lv_iload_n hx hb dX3_spreadRepetitions_46 rfl (lv_at hl 2 rfl) ?_
    refine lv_aload_n hx hb dX3_spreadRepetitions_47 rfl (lv_at hl 0 rfl) ?_
    refine t_gM hx hb hU hown h 5 (by decide) ufX3_57 (v := .int (nI (τ.1 21 0))) rfl dX3_spreadRepetitions_48 ?_
    refine n_icmp_ge (tgt := 70) hx hb (by omega) (by omega) dX3_spreadRepetitions_51 (by decide) (fun c_51 => ?_) (fun c_51 => absurd c_51 (by omega))
    exact K _ _ _ h (lv_sub hl [0, 1] rfl)
  | succ k ih =>
    intro i τ H locs ls hc h hl K
    have h12 := hc.2.1.2.1
    have h9 := hc.2.1.2.2 i (by omega)
    refine lv_iload_n hx hb dX3_spreadRepetitions_46 rfl (lv_at hl 2 rfl) ?_
    refine lv_aload_n hx hb dX3_spreadRepetitions_47 rfl (lv_at hl 0 rfl) ?_
    refine t_gM hx hb hU hown h 5 (by decide) ufX3_57 (v := .int (nI (τ.1 21 0))) rfl dX3_spreadRepetitions_48 ?_
    refine n_icmp_ge (tgt := 70) hx hb (by omega) (by omega) dX3_spreadRepetitions_51 (by decide) (fun c_51 => absurd c_51 (by omega)) (fun c_51 => ?_)
    refine lv_aload_n hx hb dX3_spreadRepetitions_54 rfl (lv_at hl 0 rfl) ?_
    refine lv_aload_n hx hb dX3_spreadRepetitions_55 rfl (lv_at hl 0 rfl) ?_
    refine t_gM hx hb hU hown h 1 (by decide) ufX3_18 (v := .ref (ad 2)) rfl dX3_spreadRepetitions_56 ?_
    refine lv_iload_n hx hb dX3_spreadRepetitions_59 rfl (lv_at hl 2 rfl) ?_
    refine t_aE hx hb h (by omega) dX3_spreadRepetitions_60 ?_
    refine y_callv hx hb hml hU hown hR hcs h (c_X3_spreadAlong l D cy ad τ _ (q := i) (by omega) hc.2.1.1 ⟨h9.1, h9.2.1, by omega, by omega⟩ ⟨hc.2.lt h9.1, hc.2.lt h9.2.1⟩) umX3_164 ui_X3_spreadAlong us_X3_spreadAlong unX3 uc_X3_spreadAlong hd_X3_spreadAlong (by decide) (by decide) (t_recvM h) hl.1 rfl (Nat.le_of_ble_eq_true rfl) dX3_spreadRepetitions_61 (fun u H locs hw h => ?_)
    have hu := hw
    have h : XT D cy ad s A H locs (T_along τ i) := by rw [← hu]; exact h
    clear hu
    refine lv_iinc (v := nI (i + 1)) (lv' := [(2, .int (nI (i + 1))), (0, .ref (ad 0)), (1, .int (nI j))]) hx hb dX3_spreadRepetitions_64 hl (k := 2) rfl (by rw [← nI_add]; rfl) (by decide) rfl (fun ls hl => ?_)
    refine lv_goto (tgt := 46) hx hb dX3_spreadRepetitions_67 (by decide) ?_
    exact ih (i + 1) (T_along τ i) _ _ _ ⟨by show i + 1 + k = (T_along τ i).1 21 0; rw [T_along_N τ i 0 (by decide)]; omega, SpI_along (by omega) hc.2⟩ h (lv_sub hl [1, 2, 0] rfl) K
set_option maxRecDepth 100000 in
set_option maxHeartbeats 4000000 in
theorem lp_X3_spread3 {p : Program} {l : Launch} {ev : Env} {R : Room} {s : State} {m : MethodId} {args : Array Value} {below : List Frame} {meth : Method} {c : Code} {cells slots : Nat} {Q : State → Prop} {D : va_G} {cy : Nat → ClassId} {ad : Nat → Nat} {A : Nat → Prop} (hx : p.tables.exec = Jvm.exec) (hb : c.code = cX3_spreadRepetitions) (hml : c.maxLocals = 3) (hU : ∀ w ∈ UW, w.before args s = true) (hown : s.vm.findClass RX3 = some m.cls) (hR : 2 ≤ R.frames ∧ 32 * 2 ≤ R.locals) (hcs : cells ≤ R.cells ∧ slots ≤ R.slots)  :
    ∀ (k i : Nat) (τ : TS) (H : Heap) (locs : List Loc) (ls : Array Slot), ((1 ≤ i ∧ i + k = max 1 (τ.1 20 0)) ∧ SpI τ) → XT D cy ad s A H locs τ → lv_has ls 3 [(0, .ref (ad 0)), (1, .int (nI i))] → (∀ (H : Heap) (locs : List Loc) (ls : Array Slot), XT D cy ad s A H locs (itr T_round k i τ) → lv_has ls 3 [(0, .ref (ad 0))] → W p l ev R s m args below meth c H locs cells slots Q (F0 m 76 ls [])) → W p l ev R s m args below meth c H locs cells slots Q (F0 m 36 ls []) := by
  intro k
  induction k with
  | zero =>
    intro i τ H locs ls hc h hl K
    have h8 := hc.2.1.1
    have h12 := hc.2.1.2.1
    refine lv_iload_n hx hb dX3_spreadRepetitions_36 rfl (lv_at hl 1 rfl) ?_
    refine lv_aload_n hx hb dX3_spreadRepetitions_37 rfl (lv_at hl 0 rfl) ?_
    refine t_gM hx hb hU hown h 4 (by decide) ufX3_34 (v := .int (nI (τ.1 20 0))) rfl dX3_spreadRepetitions_38 ?_
    refine n_icmp_ge (tgt := 76) hx hb (by omega) (by omega) dX3_spreadRepetitions_41 (by decide) (fun c_41 => ?_) (fun c_41 => absurd c_41 (by omega))
    exact K _ _ _ h (lv_sub hl [0] rfl)
  | succ k ih =>
    intro i τ H locs ls hc h hl K
    have h8 := hc.2.1.1
    have h12 := hc.2.1.2.1
    refine lv_iload_n hx hb dX3_spreadRepetitions_36 rfl (lv_at hl 1 rfl) ?_
    refine lv_aload_n hx hb dX3_spreadRepetitions_37 rfl (lv_at hl 0 rfl) ?_
    refine t_gM hx hb hU hown h 4 (by decide) ufX3_34 (v := .int (nI (τ.1 20 0))) rfl dX3_spreadRepetitions_38 ?_
    refine n_icmp_ge (tgt := 76) hx hb (by omega) (by omega) dX3_spreadRepetitions_41 (by decide) (fun c_41 => absurd c_41 (by omega)) (fun c_41 => ?_)
    refine lv_iconst (v := nI 0) hx hb dX3_spreadRepetitions_44 (by decide +kernel) ?_
    refine lv_istore_n (lv' := [(2, .int (nI 0)), (0, .ref (ad 0)), (1, .int (nI i))]) hx hb dX3_spreadRepetitions_45 rfl hl (by decide) rfl (fun ls hl => ?_)
    refine lp_X3_spread2 hx hb hml hU hown hR hcs  (τ.1 21 0) 0 _ _ _ _ ⟨Nat.zero_add _, hc.2⟩ h (lv_sub hl [1, 2, 0] rfl) (fun H locs ls h hl => ?_)
    refine lv_iinc (v := nI (i + 1)) (lv' := [(1, .int (nI (i + 1))), (0, .ref (ad 0))]) hx hb dX3_spreadRepetitions_70 hl (k := 1) rfl (by rw [← nI_add]; rfl) (by decide) rfl (fun ls hl => ?_)
    refine lv_goto (tgt := 36) hx hb dX3_spreadRepetitions_73 (by decide) ?_
    exact ih (i + 1) (T_round i τ) _ _ _ ⟨⟨by omega, by rw [T_round_N i τ 0 (by decide)]; omega⟩, SpI_round i hc.2⟩ h (lv_sub hl [1, 0] rfl) K
set_option maxRecDepth 100000 in
set_option maxHeartbeats 4000000 in
theorem c_X3_spreadRepetitions (l : Launch) (D : va_G) (cy : Nat → ClassId) (ad : Nat → Nat) (σ : TS) (sz : Nat) (hn : TNet σ) : MTv l D cy ad yX3_spreadRepetitions cX3_spreadRepetitions 3 (rmd 2) [.ref (ad 0)] σ sz (fun u => u = T_spread σ) := by
  refine Met.ofW (cc := cX3_spreadRepetitions) (maxL := 3) (ret := none) (by decide) rfl ?_
  intro p ev s m args below meth c s₁ B hml hv
  obtain ⟨rfl, hw⟩ := hv
  have hx := B.exec
  have hb := B.bytes
  have hr := B.returns
  have hlk := B.notSynchronized
  have hU : ∀ w ∈ UW, w.before _ s = true := fun w hw => atoms_spec (ws := Cond.code yX3_spreadRepetitions cX3_spreadRepetitions 3 none :: UW) B.pre w (List.mem_cons_of_mem _ hw)
  have hown : s.vm.findClass RX3 = some m.cls := findClass_of_methodNamed B.named
  have hR : 2 ≤ (headSpec (Cond.code yX3_spreadRepetitions cX3_spreadRepetitions 3 none :: UW) (rmd 2)).room.frames ∧ 32 * 2 ≤ (headSpec (Cond.code yX3_spreadRepetitions cX3_spreadRepetitions 3 none :: UW) (rmd 2)).room.locals := ⟨Nat.le_refl _, Nat.le_refl _⟩
  have hcs : 0 ≤ (headSpec (Cond.code yX3_spreadRepetitions cX3_spreadRepetitions 3 none :: UW) (rmd 2)).room.cells ∧ 0 ≤ (headSpec (Cond.code yX3_spreadRepetitions cX3_spreadRepetitions 3 none :: UW) (rmd 2)).room.slots := ⟨Nat.zero_le _, Nat.zero_le _⟩
  have h := WX.start hw
  clear hw
  generalize va_A (wv _ _ _) _ = A at h ⊢
  have hl := lv_entry ([.ref (ad 0)]) (n := 3) (Nat.le_of_ble_eq_true rfl)
  rw [lg_entry_eq]
  generalize (lg_sl ([.ref (ad 0)]) ++ List.replicate (3 - (lg_sl ([.ref (ad 0)])).length) Slot.unset).toArray = ls at hl ⊢
  have hl : lv_has ls 3 [(0, .ref (ad 0))] := hl
  refine lv_iconst (v := nI 0) hx hb dX3_spreadRepetitions_0 (by decide +kernel) ?_
  refine lv_istore_n (lv' := [(1, .int (nI 0)), (0, .ref (ad 0))]) hx hb dX3_spreadRepetitions_1 rfl hl (by decide) rfl (fun ls hl => ?_)
  refine lp_X3_spread1 hx hb hml hU hown hR hcs  (σ.1 20 0) 0 _ _ _ _ ⟨Nat.zero_add _, hn.1⟩ h (lv_sub hl [1, 0] rfl) (fun H locs ls h hl => ?_)
  refine lv_iconst (v := nI 1) hx hb dX3_spreadRepetitions_34 (by decide +kernel) ?_
  refine lv_istore_n (lv' := [(1, .int (nI 1)), (0, .ref (ad 0))]) hx hb dX3_spreadRepetitions_35 rfl hl (by decide) rfl (fun ls hl => ?_)
  refine lp_X3_spread3 hx hb hml hU hown hR hcs  (σ.1 20 0 - 1) 1 _ _ _ _ ⟨⟨Nat.le_refl _, by rw [itr_sp0_N, if_neg (by omega)]; omega⟩, SpI_sp0 hn⟩ h (lv_sub hl [1, 0] rfl) (fun H locs ls h hl => ?_)
  exact W.vret hx hb hr (fun t ht hW => ⟨⟨_, rfl, rfl, h.at ht hW⟩, h.2.2.2.2.F ht⟩) h.2.2.2.2.2.2 dX3_spreadRepetitions_76
