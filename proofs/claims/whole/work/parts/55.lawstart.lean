/-! ===== the law's start ===== -/
theorem mOs_0 (a a' : Nat → Nat) : mOs a 0 = mOs a' 0 := by
  unfold mOs
  apply List.map_congr_left
  intro f hf
  rw [List.mem_range] at hf
  by_cases e1 : f < 3 ∨ f = 15
  · rw [if_pos e1, if_pos e1]
  · rw [if_neg e1, if_neg e1]
    by_cases e2 : f = 24
    · rw [if_pos e2, if_pos e2]
    · rw [if_neg e2, if_neg e2]
      have h : ¬ mP f ≤ 0 := by unfold mP; split <;> omega
      rw [if_neg h, if_neg h]
theorem oE_0 (cy : Nat → ClassId) : (.inl (cy 3, 1, .inr (.inl (fun _ => lN 0))) : va_E) = oE cy (lN 0) := by
  unfold oE
  congr 5
  funext j
  exact (ite_self _).symm
section StartRows
variable {p : Program} {l : Launch} {e : Env} {R : Room} {s : State} {m : MethodId} {args : Array Value} {below : List Frame} {meth : Method} {c : Code} {H : Heap} {locs : List Loc} {cells slots : Nat} {Q : State → Prop}
variable {cc : ByteArray} {pc : Nat} {ls : Array Slot} {rest : List Value} {D : va_G} {cy : Nat → ClassId} {ws : va_W} {A : Nat → Prop}
theorem y_newl (hx : p.tables.exec = Jvm.exec) (hb : c.code = cc) (hU : ∀ w ∈ UW, w.before args s = true) (h : WY D (tyl cy) ws s A H locs) {N : Nat} (hN : N < 2 ^ 20) (hcells : cells + 1 ≤ R.cells) (hslots : slots + N ≤ R.slots) (hdg : decode cc pc = .ok (.newarray .long, 2))
    (kk : ∀ (q : Nat) (H : Heap), WY D (tyl cy) (ws ++ [(q, .inl (cy 3, N, .inr (.inl (fun _ => lN 0))))]) s A H locs → W p l e R s m args below meth c H locs (cells + 1) (slots + N) Q (F0 m (pc + 2) ls (.ref q :: rest))) : W p l e R s m args below meth c H locs cells slots Q (F0 m pc ls (.int (nI N) :: rest)) := by
  refine va_newa (atype := .long) (a0 := (N, .inr (.inl (fun _ => lN 0)))) (N' := N) hx hb (hU _ ua_long) rfl h.1 h.2.2.1 h.2.2.2.1 h.2.2.2.2 h.2.1 (fun cA => rfl) (nI_pos (by omega)) (nI_clamp (by omega)) (by show N * 8 ≤ _; omega) hcells hslots hdg (fun a cA H1 hK1 hP1 hD1 hS1 => ?_)
  have hcA : cA = cy 3 := cls_long (i := 4) (j := 3) hK1 rfl rfl
  subst hcA
  exact kk a H1 ⟨h.1, h.2.1, hP1, hD1, hS1⟩
end StartRows
theorem cdM : yX4_init.cls ≠ "java/lang/invoke/MethodHandle" ∧ yX4_init.cls ≠ "java/lang/invoke/VarHandle" ∧ (parseMethodDescriptor yX4_init.desc).map (fun d => d.parameters.length) = some 0 := by decide +kernel
theorem cdT : yX3_init.cls ≠ "java/lang/invoke/MethodHandle" ∧ yX3_init.cls ≠ "java/lang/invoke/VarHandle" ∧ (parseMethodDescriptor yX3_init.desc).map (fun d => d.parameters.length) = some 0 := by decide +kernel
/-- what the tables give of the classes, of the arrays, of what a throw needs -/
theorem law_K {s : State} {args : Array Value} (hts : ∀ w ∈ lw_tbl, w.before args s = true) : ∃ (D : va_G) (cy : Nat → ClassId), va_K D vwCl (tyl cy) s := by
  have hU : ∀ w ∈ UW, w.before args s = true := fun w hw => hts w (List.mem_filter.mp hw).1
  obtain ⟨c0, i0, h0⟩ := u_known (C := RX0) (T := TX0) (N := 6) (n := 6) hU iuX0 (hU _ utX0)
  obtain ⟨c1, i1, h1⟩ := u_known (C := RX1) (T := TX1) (N := 10) (n := 10) hU iuX1 (hU _ utX1)
  obtain ⟨c2, i2, h2⟩ := u_known (C := RX2) (T := TX2) (N := 4) (n := 4) hU iuX2 (hU _ utX2)
  obtain ⟨c3, i3, h3⟩ := u_known (C := RX3) (T := TX3) (N := 7) (n := 7) hU iuX3 (hU _ utX3)
  obtain ⟨c4, i4, h4⟩ := u_known (C := RX4) (T := TX4) (N := 25) (n := 25) hU iuX4 (hU _ utX4)
  obtain ⟨a0, k0, m0, f0, g0, t0⟩ := Cond.arrayClass_spec (hU _ ua_int)
  obtain ⟨a3, k3, m3, f3, g3, t3⟩ := Cond.arrayClass_spec (hU _ ua_long)
  obtain ⟨m1, a1, k1, n1, x1, g1, t1, f1⟩ := Cond.arrayOver_spec (hts (.arrayOver (.object "TokenFlow$Actor")) (by decide +kernel))
  obtain ⟨m2, a2, k2, n2, x2, g2, t2, f2⟩ := Cond.arrayOver_spec (hts (.arrayOver (.object "TokenFlow$Edge")) (by decide +kernel))
  refine ⟨(fun k => if k = 0 then c0 else if k = 1 then c1 else if k = 2 then c2 else if k = 3 then c3 else c4, fun k => if k = 0 then i0 else if k = 1 then i1 else if k = 2 then i2 else if k = 3 then i3 else i4), fun k => if k = 0 then a0 else if k = 1 then a1 else if k = 2 then a2 else a3, ?_, ?_⟩
  · intro k q hq
    match k, hq with
    | 0, hq => cases hq; exact h0
    | 1, hq => cases hq; exact h1
    | 2, hq => cases hq; exact h2
    | 3, hq => cases hq; exact h3
    | 4, hq => cases hq; exact h4
    | k + 5, hq => simp [vwCl] at hq
  · intro k q hq
    match k, hq with
    | 0, hq => cases hq; exact ⟨fun n z => ⟨fun k h => (by cases h), k0, g0, m0, t0⟩, f0⟩
    | 1, hq => cases hq; exact ⟨fun n z => ⟨fun k h => (by cases h), k1, g1, m1, t1⟩, k1, m1, g1, t1, n1, f1⟩
    | 2, hq => cases hq; exact ⟨fun n z => ⟨fun k h => (by cases h), k2, g2, m2, t2⟩, k2, m2, g2, t2, n2, f2⟩
    | 3, hq => cases hq; exact ⟨fun n z => ⟨fun k h => (by cases h), k3, g3, m3, t3⟩, f3⟩
    | k + 4, hq => simp [tyl] at hq
theorem law_new {s : State} {args : Array Value} (hts : ∀ w ∈ lw_tbl, w.before args s = true) : NewF s :=
  ⟨va_Nw.of rfl (hts nwA (by decide +kernel)), va_Nw.of rfl (hts nwK (by decide +kernel)), va_AO.of (hts (.arrayOver (.object RX0)) (by decide +kernel)), va_AO.of (hts (.arrayOver (.object RX1)) (by decide +kernel))⟩
theorem law_nc {s : State} {args : Array Value} (h : (Jvm.Cond.and given_1 narrow_1).before args s = true) : NcF s := by
  have hs := flat_of_before _ h
  exact ⟨va_Nc.of (hs (.not (.castable xAE xISE)) (by decide +kernel)), va_Nc.of (hs (.not (.castable xUOE xISE)) (by decide +kernel)), va_Nc.of (hs (.not (.castable xUOE xAE)) (by decide +kernel)), va_Nc.of (hs (.not (.castable xNSEE xISE)) (by decide +kernel)), va_Nc.of (hs (.not (.castable xNSEE xAE)) (by decide +kernel)), va_Nc.of (hs (.not (.castable xNSEE xUOE)) (by decide +kernel)), va_Nc.of (hs (.not (.castable xIAE xISE)) (by decide +kernel))⟩
theorem law_th {s : State} {args : Array Value} (hts : ∀ w ∈ lw_tbl, w.before args s = true) (h : (Jvm.Cond.and given_1 narrow_1).before args s = true) {c3 : ClassId} (h3 : s.vm.findClass RX3 = some c3) : ThF (lA s) s := by
  have hs := flat_of_before _ h
  have hA : ∀ a : Nat, a < s.heap.size → ¬ lA s a := fun a ha => Nat.not_le.mpr ha
  refine ⟨vx_Zqof (hts (.laysStatic Bundle.tN "UNASSIGNED_STACK" Bundle.steD) (by decide +kernel)) (hts (.initialized Bundle.tN) (by decide +kernel)) (hs (.isRef (.static Bundle.tN "UNASSIGNED_STACK" Bundle.steD)) (by decide +kernel)) hA, vx_Zqof (hts (.laysStatic Bundle.tN "SUPPRESSED_SENTINEL" Bundle.listD) (by decide +kernel)) (hts (.initialized Bundle.tN) (by decide +kernel)) (hs (.isRef (.static Bundle.tN "SUPPRESSED_SENTINEL" Bundle.listD)) (by decide +kernel)) hA, fun w hw => ?_, fun q hq => ?_⟩
  · have hw2 : w ∈ lw_tbl := (by decide +kernel : ∀ w ∈ BW, w ∈ lw_tbl) w hw
    exact va_Nw.of (bw_ot w hw) (hts w hw2)
  · have hw2 : Cond.stringRef RX3 q.1 q.2 ∈ lw_tbl := (by decide +kernel : ∀ q ∈ TXT, Cond.stringRef RX3 q.1 q.2 ∈ lw_tbl) q hq
    have h1 := hts _ hw2
    have h2 : (Cond.stringRef RX3 q.1 q.2).before #[] s = true := h1
    obtain ⟨k, cf, j, a, hk, -, -, -, hr, hev⟩ := Cond.stringRef_spec h3 h2
    exact ⟨a, vk_R.of h2 hev⟩
set_option maxRecDepth 100000 in
set_option maxHeartbeats 4000000 in
/-- THE LAW, from its entry -/
theorem whole_start {p : Program} {e : Env} {s : State} {m : MethodId} {below : List Frame} {meth : Method} {c : Code} (l : Launch) (hst : l.stackTraces = false) {b L : Nat} {xs : Nat → Int32} (hL : L ≤ 3072) (C0 : lw_At p s m meth c b L xs) : W p l e room_1 s m #[Value.ref b] below meth c s.heap [] 0 0 (lw_Z below #[Value.ref b] s) (entryFrame m ([Value.ref b] : List Value).toArray 7) := by
  obtain ⟨hx, hb, hr, hml, hown, hts, hX, hbl, hlocks, hgv⟩ := id C0
  have hU : ∀ w ∈ UW, w.before #[Value.ref b] s = true := fun w hw => hts w (List.mem_filter.mp hw).1
  have hown : s.vm.findClass RL = some m.cls := hown
  obtain ⟨D, cy, hK⟩ := law_K hts
  have hNew := law_new hts
  have hNc := law_nc hgv
  have hTh := law_th hts hgv (c3 := D.1 3) (hK.1 3 (RX3, TX3, 7) rfl).2.1
  have hA : ∀ q : Nat, s.heap.size ≤ q → lA s q := fun _ h => h
  have h : WX D (tyl cy) 0 (fun _ => 0) (fun _ => .inr (3, zM)) s (lA s) s.heap [] := ⟨hK, hA, fun k q h => by simp at h, ⟨fun i j p q h => by simp at h, fun k q h => by simp at h⟩, va_S.rf⟩
  have hl := lv_entry ([.ref b]) (n := 7) (Nat.le_of_ble_eq_true rfl)
  rw [lg_entry_eq]
  generalize (lg_sl ([.ref b]) ++ List.replicate (7 - (lg_sl ([.ref b])).length) Slot.unset).toArray = ls at hl ⊢
  have hl : lv_has ls 7 [(0, .ref b)] := hl
  refine x_new (ci := 3) hx hb hU hown h rfl iuX3 tyX3 tyX3_ok ulL_8 utX3 unX3 (fs := zM) (fun j hj => by rcases (show j = 0 ∨ j = 1 ∨ j = 2 ∨ j = 3 ∨ j = 4 ∨ j = 5 ∨ j = 6 by omega) with rfl | rfl | rfl | rfl | rfl | rfl | rfl <;> rfl) (Nat.le_of_ble_eq_true rfl) (Nat.le_of_ble_eq_true rfl) dL_law_0 (fun q1 H h => ?_)
  have h : WX D (tyl cy) 1 (fun _ => q1) (fun _ => .inr (3, zM)) s (lA s) H [] := by
    refine h.congr (fun i hi => ?_)
    obtain rfl : i = 0 := by omega
    exact ⟨adn_eq _ _ _, adn_eq _ _ _⟩
  refine lv_dup hx hb dL_law_3 rfl ?_
  refine x_callI (S := Nat → Nat) (n' := 37) (adr' := fun a => adrT (adC a) (sC a)) (ent' := fun a => entT cy (adC a) (sC a)) (As := []) (rest := [.ref q1]) hx hb hml hU hown h (c_X3_init l D cy q1 H.size) ⟨NewF.blind, fun U hU hW => ⟨rfl, (h.pre (av := []) U hU hW).2, hNew.warm hW⟩⟩ umL_27 ui_X3_init unX3 uc_X3_init rfl cdT ⟨Nat.le_of_ble_eq_true rfl, Nat.le_of_ble_eq_true rfl⟩ hl.1 rfl (Nat.le_of_ble_eq_true rfl) dL_law_4 ⟨Nat.le_of_ble_eq_true rfl, Nat.le_of_ble_eq_true rfl⟩ (fun a H locs ha h => ?_)
  have ea : adC a 0 = q1 := ha
  refine lv_astore_n (lv' := [(1, .ref q1), (0, .ref b)]) hx hb dL_law_7 rfl hl (by decide) rfl (fun ls hl => ?_)
  refine x_new (ci := 4) hx hb hU hown h rfl iuX4 tyX4 tyX4_ok ulL_28 utX4 unX4 (fs := mOs (fun _ => 0) 0) (fun j hj => by rcases (show j = 0 ∨ j = 1 ∨ j = 2 ∨ j = 3 ∨ j = 4 ∨ j = 5 ∨ j = 6 ∨ j = 7 ∨ j = 8 ∨ j = 9 ∨ j = 10 ∨ j = 11 ∨ j = 12 ∨ j = 13 ∨ j = 14 ∨ j = 15 ∨ j = 16 ∨ j = 17 ∨ j = 18 ∨ j = 19 ∨ j = 20 ∨ j = 21 ∨ j = 22 ∨ j = 23 ∨ j = 24 by omega) with rfl | rfl | rfl | rfl | rfl | rfl | rfl | rfl | rfl | rfl | rfl | rfl | rfl | rfl | rfl | rfl | rfl | rfl | rfl | rfl | rfl | rfl | rfl | rfl | rfl <;> rfl) (Nat.le_of_ble_eq_true rfl) (Nat.le_of_ble_eq_true rfl) dL_law_8 (fun q2 H h => ?_)
  refine lv_dup hx hb dL_law_11 rfl ?_
  have hY : WY D (tyl cy) (wT cy (adC a) (sC a) ++ ([(q2, .inr (4, mOs (fun _ => 0) 0))] ++ [])) s (lA s) H locs := WY.push.mpr h
  have hY : WY D (tyl cy) (wv 1 (fun _ => q2) (entS cy (fun _ => q2) 0) ++ (wT cy (adC a) (sC a) ++ [])) s (lA s) H locs := by
    have e : wv 1 (fun _ => q2) (entS cy (fun _ => q2) 0) = [(q2, .inr (4, mOs (fun _ => 0) 0))] := by
      rw [mOs_0 (fun _ => 0) (fun _ => q2)]; rfl
    rw [e]
    exact WY.swap hY
  refine z_callI (S := Nat → Nat) (n' := 21) (adr' := fun a => a) (ent' := fun a => entM cy a μ0) (As := []) (rest := [.ref q2]) hx hb hml hU hown hY (c_X4_init l D cy q2 H.size) ⟨preW.blind, fun U hU hW => hY.pre U hU hW⟩ umL_30 ui_X4_init unX4 uc_X4_init rfl cdM ⟨Nat.le_of_ble_eq_true rfl, Nat.le_of_ble_eq_true rfl⟩ hl.1 rfl (Nat.le_of_ble_eq_true rfl) dL_law_12 ⟨Nat.le_of_ble_eq_true rfl, Nat.le_of_ble_eq_true rfl⟩ (fun a2 H locs ha2 hY => ?_)
  refine lv_astore_n (lv' := [(2, .ref q2), (1, .ref q1), (0, .ref b)]) hx hb dL_law_15 rfl hl (by decide) rfl (fun ls hl => ?_)
  refine lv_iconst (v := nI 1) hx hb dL_law_16 (by decide +kernel) ?_
  refine y_newl hx hb hU hY (by decide) (Nat.le_of_ble_eq_true rfl) (Nat.le_of_ble_eq_true rfl) dL_law_17 (fun o H hY => ?_)
  have hY : LM D cy (adC a) a2 o s H locs (sC a) μ0 (lN 0) := by
    rw [oE_0, List.append_nil, List.append_assoc] at hY
    exact hY
  have hY : LX D cy (adC a) a2 o s H locs (sC a) μ0 (lN 0) := WY.swap hY
  refine lv_astore_n (lv' := [(3, .ref o), (2, .ref q2), (1, .ref q1), (0, .ref b)]) hx hb dL_law_19 rfl hl (by decide) rfl (fun ls hl => ?_)
  refine lv_iconst (v := nI 0) hx hb dL_law_20 (by decide +kernel) ?_
  refine lv_istore (lv' := [(4, .int (nI 0)), (3, .ref o), (2, .ref q2), (1, .ref q1), (0, .ref b)]) hx hb dL_law_21 hl (by decide) rfl (fun ls hl => ?_)
  refine W.widen (k := 100 + 3 * 0) (n := 12200 + 0 + 2 * lsum (sC a)) (Nat.le_of_ble_eq_true rfl) (Nat.le_trans (Nat.le_of_ble_eq_true rfl : _ ≤ 12200) (by omega)) ?_
  refine law_loop C0 hL hst hTh hNc (L + 1) 0 (sC a) μ0 (lN 0) H locs ls (Nat.zero_le _) (by omega) (rel_0 a) hY ?_
  rw [ea, ha2]
  exact lv_sub hl [4, 3, 2, 1, 0] rfl
