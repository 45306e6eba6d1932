/-! ===== the law: plan and run ===== -/
theorem hdL_plan : yL_plan.cls ≠ "java/lang/invoke/MethodHandle" ∧ yL_plan.cls ≠ "java/lang/invoke/VarHandle" ∧ (parseMethodDescriptor yL_plan.desc).map (fun d => d.parameters.length) = some 2 := by decide +kernel
theorem hdL_run : yL_run.cls ≠ "java/lang/invoke/MethodHandle" ∧ yL_run.cls ≠ "java/lang/invoke/VarHandle" ∧ (parseMethodDescriptor yL_run.desc).map (fun d => d.parameters.length) = some 3 := by decide +kernel
theorem PE_in (E : String) : 0 < PE E ∧ PE E ≤ 4 := by
  unfold PE
  split
  · omega
  · split
    · omega
    · split <;> omega
theorem RE_in (E : String) : 0 < RE E ∧ RE E ≤ 4 := by
  unfold RE
  split <;> omega
theorem PS_le {σ : TS} {μ : MS} (h : Rel 0 σ μ) : PS σ ≤ 43638 := by
  by_cases hs : PlanS σ
  · obtain ⟨-, -, s3, -⟩ := plan_sim h
    have hv : Rooms (P3 σ) ((P3 σ).1 21 0) 0 ((fun f j => if f = 17 ∧ 0 ≤ j ∧ j < 0 + (P3 σ).1 21 0 ∧ (P3 σ).1 17 j < (P3 σ).1 16 j then roomL ((P3 σ).1 17 j) ((P3 σ).1 16 j) else (P3 σ).1 f j), (P3 σ).2) := ⟨fun _ _ => rfl, fun _ _ _ => rfl⟩
    obtain ⟨-, -, -, r, q⟩ := s3 _ ⟨hs.1, hs.2.1, hs.2.2.1, hs.2.2.2, rfl, _, hv, rfl⟩
    have := r.lsum_le
    omega
  · rw [PS_no hs]; omega
set_option maxRecDepth 100000 in
set_option maxHeartbeats 4000000 in
theorem lc_plan {p : Program} {l : Launch} {ev : Env} {s : State} {m : MethodId} {below : List Frame} {meth : Method} {c : Code} {D : va_G} {cy : Nat → ClassId} {ad bd : Nat → Nat} {o b L : Nat} {xs : Nat → Int32} (C0 : lw_At p s m meth c b L xs) (hL : L ≤ 3072) (hst : l.stackTraces = false) (hTh : ThF (lA s) s) (hNc : NcF s) {i : Nat} (hi : i + 6 ≤ L) {σ : TS} {μ : MS} {v : Int64} (hR : Rel 0 σ μ) {H : Heap} {locs : List Loc} {ls : Array Slot} (hY : LX D cy ad bd o s H locs σ μ v) (hl : lv_has ls 7 [(0, .ref b), (1, .ref (ad 0)), (2, .ref (bd 0)), (3, .ref o), (4, .int (nI i))])
    (K : ∀ (σ : TS) (μ : MS) (v : Int64) (H : Heap) (locs : List Loc) (ls : Array Slot), Rel 0 σ μ → LX D cy ad bd o s H locs σ μ v → lv_has ls 7 [(0, .ref b), (1, .ref (ad 0)), (2, .ref (bd 0)), (3, .ref o), (4, .int (nI i))] → W p l ev room_1 s m #[Value.ref b] below meth c H locs (100 + 3 * i + 13) (12200 + i + 6 + 2 * lsum σ) (lw_Z below #[Value.ref b] s) (F0 m 619 ls [])) : W p l ev room_1 s m #[Value.ref b] below meth c H locs (100 + 3 * i) (12200 + i + 2 * lsum σ) (lw_Z below #[Value.ref b] s) (F0 m 319 ls []) := by
  obtain ⟨hx, hb, hr, hml, hown, hts, hX, hbl, hlk, hgv⟩ := C0
  have hU : ∀ w ∈ UW, w.before #[Value.ref b] s = true := fun w hw => hts w (List.mem_filter.mp hw).1
  have hown : s.vm.findClass RL = some m.cls := hown
  have hls := hR.lsum_le
  obtain ⟨w1, w2, w3, w4, w5, w6⟩ := hR.wf
  obtain ⟨k1, k2, k3, k4, k5, k6, k7, k8, k9, k10⟩ := ask_sim hR
  obtain ⟨s1, s2, s3, s4⟩ := plan_sim hR
  have hps := PS_le hR
  refine lv_aload_n hx hb dL_law_319 rfl (lv_at hl 1 rfl) ?_
  refine lv_aload_n hx hb dL_law_320 rfl (lv_at hl 3 rfl) ?_
  have hO := LM.toO (WY.swap hY)
  refine z_callSW (S := TS × Int64) (rest := []) hx hb hml hU hown hO (c_L_plan l D cy ad σ o v _ hst s1) ⟨LF.blind, fun U hU hW => ⟨rfl, (hO.pre (av := []) U hU hW).2, hTh.go hO.2.2.2.2 hO.fr hU hW, hNc.moved hW.alike⟩⟩ umL_62 uz_L_plan unL uc_L_plan hdL_plan ⟨Nat.le_of_ble_eq_true rfl, Nat.le_of_ble_eq_true rfl⟩ hl.1 rfl (Nat.le_of_ble_eq_true rfl) dL_law_321 ⟨by show 100 + 3 * i + 13 ≤ 601024; omega, by show 12200 + i + 2 * lsum σ + PS σ ≤ 7293034; omega⟩ (fun r ua H locs hw hO => ?_)
  have hY := WY.swap (LO.toM hO)
  refine W.widen (k := 100 + 3 * i + 13) (n := 12200 + i + 2 * lsum σ + PS σ) (Nat.le_refl _) (Nat.le_refl _) ?_
  rcases hw with ⟨hq, rfl, hv⟩ | ⟨E, hx9, hv, rfl⟩
  · obtain ⟨f1, f2, f3, f4, f5⟩ := s3 ua.1 hq
    rw [hv] at hY
    refine lv_istore (lv' := [(5, .int (nI 0)), (0, .ref b), (1, .ref (ad 0)), (2, .ref (bd 0)), (3, .ref o), (4, .int (nI i))]) hx hb dL_law_324 hl (by decide) rfl (fun ls hl => ?_)
    refine lv_aload_n hx hb dL_law_326 rfl (lv_at hl 3 rfl) ?_
    have hY := WY.swap hY
    refine z_calli (C := RX4) hx hb hml hU hown hY (c_X4_plan l D cy bd μ _  s2) umL_67 ui_X4_plan us_X4_plan unX4 uc_X4_plan hd_X4_plan ⟨Nat.le_of_ble_eq_true rfl, Nat.le_of_ble_eq_true rfl⟩ (hY.recv (i := 0) (by decide) rfl rfl) hl.1 rfl (Nat.le_of_ble_eq_true rfl) dL_law_327 ⟨by show 100 + 3 * i + 13 + 0 ≤ 601024; omega, by show 12200 + i + 2 * lsum σ + PS σ + 0 ≤ 7293034; omega⟩ (fun r u H locs hw hY => ?_)
    refine W.widen (k := 100 + 3 * i + 13) (n := 12200 + i + 2 * lsum σ + PS σ) (Nat.le_refl _) (Nat.le_refl _) ?_
    obtain ⟨rfl, hu⟩ := hw
    rw [hu] at hY
    clear hu
    have hY := WY.swap hY
    refine lv_istore (lv' := [(6, .int (nI ((M_plan μ).1))), (5, .int (nI 0)), (0, .ref b), (1, .ref (ad 0)), (2, .ref (bd 0)), (3, .ref o), (4, .int (nI i))]) hx hb dL_law_330 hl (by decide) rfl (fun ls hl => ?_)
    refine lv_aload_n hx hb dL_law_332 rfl (lv_at hl 4 rfl) ?_
    have hY := WY.swap hY
    refine z_calli (C := RX4) hx hb hml hU hown hY (c_X4_thrown l D cy bd (M_plan μ).2 _) umL_68 ui_X4_thrown us_X4_thrown unX4 uc_X4_thrown hd_X4_thrown ⟨Nat.le_of_ble_eq_true rfl, Nat.le_of_ble_eq_true rfl⟩ (hY.recv (i := 0) (by decide) rfl rfl) hl.1 rfl (Nat.le_of_ble_eq_true rfl) dL_law_333 ⟨by show 100 + 3 * i + 13 + 0 ≤ 601024; omega, by show 12200 + i + 2 * lsum σ + PS σ + 0 ≤ 7293034; omega⟩ (fun r u H locs hw hY => ?_)
    refine W.widen (k := 100 + 3 * i + 13) (n := 12200 + i + 2 * lsum σ + PS σ) (Nat.le_refl _) (Nat.le_refl _) ?_
    obtain ⟨rfl, hu⟩ := hw
    rw [hu] at hY
    clear hu
    have hY := WY.swap hY
    refine lv_iload hx hb dL_law_336 (lv_at hl 1 rfl) ?_
    refine n_icmp_eq (tgt := 343) hx hb (by omega) (by omega) dL_law_338 (by decide) (fun c_338 => ?_) (fun c_338 => absurd f3 c_338)
    refine lv_iload hx hb dL_law_343 (lv_at hl 1 rfl) ?_
    refine n_if_ne (tgt := 360) hx hb (by omega) dL_law_345 (by decide) (fun c_345 => absurd c_345 (by omega)) (fun c_345 => ?_)
    refine lv_aload_n hx hb dL_law_348 rfl (lv_at hl 5 rfl) ?_
    refine lv_iconst (v := nI 0) hx hb dL_law_349 (by decide +kernel) ?_
    refine s_out hx hb hY dL_law_350 ?_
    refine lv_iload hx hb dL_law_351 (lv_at hl 0 rfl) ?_
    refine n_i2l hx hb (by omega) dL_law_353 ?_
    refine W.lcmp hx hb dL_law_354 ?_
    refine n_lif_eq (tgt := 360) hx hb (by omega) (by omega) dL_law_355 (by decide) (fun c_355 => ?_) (fun c_355 => absurd f1.symm c_355)
    refine lv_goto (tgt := 619) hx hb dL_law_360 (by decide) ?_
    refine W.widen (k := 100 + 3 * i + 13) (n := 12200 + i + 6 + 2 * lsum ua.1) (by omega) (by omega) ?_
    exact K _ _ _ _ _ _ f4 hY (lv_sub hl [2, 3, 4, 5, 6] rfl)
  · obtain ⟨f1, f2, f5⟩ := s4 E ua.1 hx9
    have hE := PE_in E
    rw [hv] at hY
    refine lv_istore (lv' := [(5, .int (nI (PE E))), (0, .ref b), (1, .ref (ad 0)), (2, .ref (bd 0)), (3, .ref o), (4, .int (nI i))]) hx hb dL_law_324 hl (by decide) rfl (fun ls hl => ?_)
    refine lv_aload_n hx hb dL_law_326 rfl (lv_at hl 3 rfl) ?_
    have hY := WY.swap hY
    refine z_calli (C := RX4) hx hb hml hU hown hY (c_X4_plan l D cy bd μ _  s2) umL_67 ui_X4_plan us_X4_plan unX4 uc_X4_plan hd_X4_plan ⟨Nat.le_of_ble_eq_true rfl, Nat.le_of_ble_eq_true rfl⟩ (hY.recv (i := 0) (by decide) rfl rfl) hl.1 rfl (Nat.le_of_ble_eq_true rfl) dL_law_327 ⟨by show 100 + 3 * i + 13 + 0 ≤ 601024; omega, by show 12200 + i + 2 * lsum σ + PS σ + 0 ≤ 7293034; omega⟩ (fun r u H locs hw hY => ?_)
    refine W.widen (k := 100 + 3 * i + 13) (n := 12200 + i + 2 * lsum σ + PS σ) (Nat.le_refl _) (Nat.le_refl _) ?_
    obtain ⟨rfl, hu⟩ := hw
    rw [hu] at hY
    clear hu
    have hY := WY.swap hY
    refine lv_istore (lv' := [(6, .int (nI ((M_plan μ).1))), (5, .int (nI (PE E))), (0, .ref b), (1, .ref (ad 0)), (2, .ref (bd 0)), (3, .ref o), (4, .int (nI i))]) hx hb dL_law_330 hl (by decide) rfl (fun ls hl => ?_)
    refine lv_aload_n hx hb dL_law_332 rfl (lv_at hl 4 rfl) ?_
    have hY := WY.swap hY
    refine z_calli (C := RX4) hx hb hml hU hown hY (c_X4_thrown l D cy bd (M_plan μ).2 _) umL_68 ui_X4_thrown us_X4_thrown unX4 uc_X4_thrown hd_X4_thrown ⟨Nat.le_of_ble_eq_true rfl, Nat.le_of_ble_eq_true rfl⟩ (hY.recv (i := 0) (by decide) rfl rfl) hl.1 rfl (Nat.le_of_ble_eq_true rfl) dL_law_333 ⟨by show 100 + 3 * i + 13 + 0 ≤ 601024; omega, by show 12200 + i + 2 * lsum σ + PS σ + 0 ≤ 7293034; omega⟩ (fun r u H locs hw hY => ?_)
    refine W.widen (k := 100 + 3 * i + 13) (n := 12200 + i + 2 * lsum σ + PS σ) (Nat.le_refl _) (Nat.le_refl _) ?_
    obtain ⟨rfl, hu⟩ := hw
    rw [hu] at hY
    clear hu
    have hY := WY.swap hY
    refine lv_iload hx hb dL_law_336 (lv_at hl 1 rfl) ?_
    refine n_icmp_eq (tgt := 343) hx hb (by omega) (by omega) dL_law_338 (by decide) (fun c_338 => ?_) (fun c_338 => absurd f1 c_338)
    refine lv_iload hx hb dL_law_343 (lv_at hl 1 rfl) ?_
    refine n_if_ne (tgt := 360) hx hb (by omega) dL_law_345 (by decide) (fun c_345 => ?_) (fun c_345 => absurd c_345 (by omega))
    refine lv_goto (tgt := 619) hx hb dL_law_360 (by decide) ?_
    refine W.widen (k := 100 + 3 * i + 13) (n := 12200 + i + 6 + 2 * lsum ua.1) (by omega) (by omega) ?_
    exact K _ _ _ _ _ _ f2 hY (lv_sub hl [2, 3, 4, 5, 6] rfl)
set_option maxRecDepth 100000 in
set_option maxHeartbeats 4000000 in
theorem lc_run {p : Program} {l : Launch} {ev : Env} {s : State} {m : MethodId} {below : List Frame} {meth : Method} {c : Code} {D : va_G} {cy : Nat → ClassId} {ad bd : Nat → Nat} {o b L : Nat} {xs : Nat → Int32} (C0 : lw_At p s m meth c b L xs) (hL : L ≤ 3072) (hst : l.stackTraces = false) (hTh : ThF (lA s) s) (hNc : NcF s) {i : Nat} (hi : i + 6 ≤ L) {σ : TS} {μ : MS} {v : Int64} (hR : Rel 0 σ μ) {H : Heap} {locs : List Loc} {ls : Array Slot} (hY : LX D cy ad bd o s H locs σ μ v) (hl : lv_has ls 7 [(0, .ref b), (1, .ref (ad 0)), (2, .ref (bd 0)), (3, .ref o), (4, .int (nI i))])
    (K : ∀ (σ : TS) (μ : MS) (v : Int64) (H : Heap) (locs : List Loc) (ls : Array Slot), Rel 0 σ μ → LX D cy ad bd o s H locs σ μ v → lv_has ls 7 [(0, .ref b), (1, .ref (ad 0)), (2, .ref (bd 0)), (3, .ref o), (4, .int (nI i))] → W p l ev room_1 s m #[Value.ref b] below meth c H locs (100 + 3 * i + 13) (12200 + i + 6 + 2 * lsum σ) (lw_Z below #[Value.ref b] s) (F0 m 619 ls [])) : W p l ev room_1 s m #[Value.ref b] below meth c H locs (100 + 3 * i) (12200 + i + 2 * lsum σ) (lw_Z below #[Value.ref b] s) (F0 m 451 ls []) := by
  obtain ⟨hx, hb, hr, hml, hown, hts, hX, hbl, hlk, hgv⟩ := C0
  have hU : ∀ w ∈ UW, w.before #[Value.ref b] s = true := fun w hw => hts w (List.mem_filter.mp hw).1
  have hown : s.vm.findClass RL = some m.cls := hown
  have hls := hR.lsum_le
  obtain ⟨w1, w2, w3, w4, w5, w6⟩ := hR.wf
  obtain ⟨k1, k2, k3, k4, k5, k6, k7, k8, k9, k10⟩ := ask_sim hR
  refine lv_aload_n hx hb dL_law_451 rfl (lv_at hl 1 rfl) ?_
  refine lv_aload_n hx hb dL_law_452 rfl (lv_at hl 0 rfl) ?_
  refine lv_iload hx hb dL_law_453 (lv_at hl 4 rfl) ?_
  refine lv_iconst (v := nI 1) hx hb dL_law_455 (by decide +kernel) ?_
  refine n_iadd hx hb dL_law_456 ?_
  refine s_ld hx hb hX hbl hY (by omega) hL dL_law_457 ?_
  refine lv_aload_n hx hb dL_law_458 rfl (lv_at hl 3 rfl) ?_
  obtain ⟨s3, s4⟩ := run_sim (x := xs (i + 1)) hR
  have hw6 := w6
  have hJM : 0 < μ.1 15 0 → RunJM (JM (μ.1 15 0)) (μ.1 15 0) ∧ JM (μ.1 15 0) 0 (mN μ 2 0 0) := fun _ => ⟨JM_run, mN_k _ _ _ _ (by decide), σ, hR.1.2.2.2.2.1.1.symm, hR.m2 0⟩
  have hO := LM.toO (WY.swap hY)
  refine z_callSW (S := TS × Int64) (rest := []) hx hb hml hU hown hO (c_L_run l D cy ad σ o v _ hst (x := xs (i + 1)) w1.2.2.1 (J := JT (σ.1 22 0)) (fun _ => ⟨JT_run _, rfl, μ, hR⟩)) ⟨LF.blind, fun U hU hW => ⟨rfl, (hO.pre (av := []) U hU hW).2, hTh.go hO.2.2.2.2 hO.fr hU hW, hNc.moved hW.alike⟩⟩ umL_87 uz_L_run unL uc_L_run hdL_run ⟨Nat.le_of_ble_eq_true rfl, Nat.le_of_ble_eq_true rfl⟩ hl.1 rfl (Nat.le_of_ble_eq_true rfl) dL_law_459 ⟨by show 100 + 3 * i + 1 ≤ 601024; omega, by show 12200 + i + 2 * lsum σ + 6 ≤ 7293034; omega⟩ (fun r ua H locs hw hO => ?_)
  have hY := WY.swap (LO.toM hO)
  refine W.widen (k := 100 + 3 * i + 1) (n := 12200 + i + 2 * lsum σ + 6) (Nat.le_refl _) (Nat.le_refl _) ?_
  rcases hw with ⟨hq, rfl, hv⟩ | ⟨E, hx9, hv, rfl⟩
  · obtain ⟨f1, f3, f4, f5⟩ := s3 ua.1 hq
    have f9 := lsum_same f5
    have f2 : tn (xs (i + 1)) * σ.1 22 0 ≤ 20 * 200 := Nat.mul_le_mul (tn_wi (by decide) (by decide) hq.2.1).2 w1.2.2.1
    rw [hv] at hY
    refine lv_istore (lv' := [(5, .int (nI 0)), (0, .ref b), (1, .ref (ad 0)), (2, .ref (bd 0)), (3, .ref o), (4, .int (nI i))]) hx hb dL_law_462 hl (by decide) rfl (fun ls hl => ?_)
    refine lv_aload_n hx hb dL_law_464 rfl (lv_at hl 3 rfl) ?_
    refine lv_aload_n hx hb dL_law_465 rfl (lv_at hl 1 rfl) ?_
    refine lv_iload hx hb dL_law_466 (lv_at hl 5 rfl) ?_
    refine lv_iconst (v := nI 1) hx hb dL_law_468 (by decide +kernel) ?_
    refine n_iadd hx hb dL_law_469 ?_
    refine s_ld hx hb hX hbl hY (by omega) hL dL_law_470 ?_
    have hY := WY.swap hY
    refine z_calli (C := RX4) hx hb hml hU hown hY (c_X4_run l D cy bd μ _ (x := xs (i + 1)) hw6 hJM) umL_90 ui_X4_run us_X4_run unX4 uc_X4_run hd_X4_run ⟨Nat.le_of_ble_eq_true rfl, Nat.le_of_ble_eq_true rfl⟩ (hY.recv (i := 0) (by decide) rfl rfl) hl.1 rfl (Nat.le_of_ble_eq_true rfl) dL_law_471 ⟨by show 100 + 3 * i + 1 + 0 ≤ 601024; omega, by show 12200 + i + 2 * lsum σ + 6 + 0 ≤ 7293034; omega⟩ (fun r u H locs hw hY => ?_)
    refine W.widen (k := 100 + 3 * i + 1) (n := 12200 + i + 2 * lsum σ + 6) (Nat.le_refl _) (Nat.le_refl _) ?_
    obtain ⟨rfl, hu⟩ := hw
    rw [hu] at hY
    clear hu
    have hY := WY.swap hY
    refine lv_istore (lv' := [(6, .int (nI ((M_run μ (xs (i + 1))).1))), (5, .int (nI 0)), (0, .ref b), (1, .ref (ad 0)), (2, .ref (bd 0)), (3, .ref o), (4, .int (nI i))]) hx hb dL_law_474 hl (by decide) rfl (fun ls hl => ?_)
    refine lv_aload_n hx hb dL_law_476 rfl (lv_at hl 4 rfl) ?_
    have hY := WY.swap hY
    refine z_calli (C := RX4) hx hb hml hU hown hY (c_X4_thrown l D cy bd (M_run μ (xs (i + 1))).2 _) umL_68 ui_X4_thrown us_X4_thrown unX4 uc_X4_thrown hd_X4_thrown ⟨Nat.le_of_ble_eq_true rfl, Nat.le_of_ble_eq_true rfl⟩ (hY.recv (i := 0) (by decide) rfl rfl) hl.1 rfl (Nat.le_of_ble_eq_true rfl) dL_law_477 ⟨by show 100 + 3 * i + 1 + 0 ≤ 601024; omega, by show 12200 + i + 2 * lsum σ + 6 + 0 ≤ 7293034; omega⟩ (fun r u H locs hw hY => ?_)
    refine W.widen (k := 100 + 3 * i + 1) (n := 12200 + i + 2 * lsum σ + 6) (Nat.le_refl _) (Nat.le_refl _) ?_
    obtain ⟨rfl, hu⟩ := hw
    rw [hu] at hY
    clear hu
    have hY := WY.swap hY
    refine lv_iload hx hb dL_law_480 (lv_at hl 1 rfl) ?_
    refine n_icmp_eq (tgt := 487) hx hb (by omega) (by omega) dL_law_482 (by decide) (fun c_482 => ?_) (fun c_482 => absurd f3 c_482)
    refine lv_iload hx hb dL_law_487 (lv_at hl 1 rfl) ?_
    refine n_if_ne (tgt := 504) hx hb (by omega) dL_law_489 (by decide) (fun c_489 => absurd c_489 (by omega)) (fun c_489 => ?_)
    refine lv_aload_n hx hb dL_law_492 rfl (lv_at hl 5 rfl) ?_
    refine lv_iconst (v := nI 0) hx hb dL_law_493 (by decide +kernel) ?_
    refine s_out hx hb hY dL_law_494 ?_
    refine lv_iload hx hb dL_law_495 (lv_at hl 0 rfl) ?_
    refine n_i2l hx hb (by omega) dL_law_497 ?_
    refine W.lcmp hx hb dL_law_498 ?_
    refine n_lif_eq (tgt := 504) hx hb (by omega) (by omega) dL_law_499 (by decide) (fun c_499 => ?_) (fun c_499 => absurd f1.symm c_499)
    refine lv_goto (tgt := 619) hx hb dL_law_504 (by decide) ?_
    refine W.widen (k := 100 + 3 * i + 13) (n := 12200 + i + 6 + 2 * lsum ua.1) (by omega) (by rw [f9]; omega) ?_
    exact K _ _ _ _ _ _ f4 hY (lv_sub hl [2, 3, 4, 5, 6] rfl)
  · obtain ⟨f1, f2, f5⟩ := s4 E ua.1 hx9
    have f9 := lsum_same f5
    have hE := RE_in E
    rw [hv] at hY
    refine lv_istore (lv' := [(5, .int (nI (RE E))), (0, .ref b), (1, .ref (ad 0)), (2, .ref (bd 0)), (3, .ref o), (4, .int (nI i))]) hx hb dL_law_462 hl (by decide) rfl (fun ls hl => ?_)
    refine lv_aload_n hx hb dL_law_464 rfl (lv_at hl 3 rfl) ?_
    refine lv_aload_n hx hb dL_law_465 rfl (lv_at hl 1 rfl) ?_
    refine lv_iload hx hb dL_law_466 (lv_at hl 5 rfl) ?_
    refine lv_iconst (v := nI 1) hx hb dL_law_468 (by decide +kernel) ?_
    refine n_iadd hx hb dL_law_469 ?_
    refine s_ld hx hb hX hbl hY (by omega) hL dL_law_470 ?_
    have hY := WY.swap hY
    refine z_calli (C := RX4) hx hb hml hU hown hY (c_X4_run l D cy bd μ _ (x := xs (i + 1)) hw6 hJM) umL_90 ui_X4_run us_X4_run unX4 uc_X4_run hd_X4_run ⟨Nat.le_of_ble_eq_true rfl, Nat.le_of_ble_eq_true rfl⟩ (hY.recv (i := 0) (by decide) rfl rfl) hl.1 rfl (Nat.le_of_ble_eq_true rfl) dL_law_471 ⟨by show 100 + 3 * i + 1 + 0 ≤ 601024; omega, by show 12200 + i + 2 * lsum σ + 6 + 0 ≤ 7293034; omega⟩ (fun r u H locs hw hY => ?_)
    refine W.widen (k := 100 + 3 * i + 1) (n := 12200 + i + 2 * lsum σ + 6) (Nat.le_refl _) (Nat.le_refl _) ?_
    obtain ⟨rfl, hu⟩ := hw
    rw [hu] at hY
    clear hu
    have hY := WY.swap hY
    refine lv_istore (lv' := [(6, .int (nI ((M_run μ (xs (i + 1))).1))), (5, .int (nI (RE E))), (0, .ref b), (1, .ref (ad 0)), (2, .ref (bd 0)), (3, .ref o), (4, .int (nI i))]) hx hb dL_law_474 hl (by decide) rfl (fun ls hl => ?_)
    refine lv_aload_n hx hb dL_law_476 rfl (lv_at hl 4 rfl) ?_
    have hY := WY.swap hY
    refine z_calli (C := RX4) hx hb hml hU hown hY (c_X4_thrown l D cy bd (M_run μ (xs (i + 1))).2 _) umL_68 ui_X4_thrown us_X4_thrown unX4 uc_X4_thrown hd_X4_thrown ⟨Nat.le_of_ble_eq_true rfl, Nat.le_of_ble_eq_true rfl⟩ (hY.recv (i := 0) (by decide) rfl rfl) hl.1 rfl (Nat.le_of_ble_eq_true rfl) dL_law_477 ⟨by show 100 + 3 * i + 1 + 0 ≤ 601024; omega, by show 12200 + i + 2 * lsum σ + 6 + 0 ≤ 7293034; omega⟩ (fun r u H locs hw hY => ?_)
    refine W.widen (k := 100 + 3 * i + 1) (n := 12200 + i + 2 * lsum σ + 6) (Nat.le_refl _) (Nat.le_refl _) ?_
    obtain ⟨rfl, hu⟩ := hw
    rw [hu] at hY
    clear hu
    have hY := WY.swap hY
    refine lv_iload hx hb dL_law_480 (lv_at hl 1 rfl) ?_
    refine n_icmp_eq (tgt := 487) hx hb (by omega) (by omega) dL_law_482 (by decide) (fun c_482 => ?_) (fun c_482 => absurd f1 c_482)
    refine lv_iload hx hb dL_law_487 (lv_at hl 1 rfl) ?_
    refine n_if_ne (tgt := 504) hx hb (by omega) dL_law_489 (by decide) (fun c_489 => ?_) (fun c_489 => absurd c_489 (by omega))
    refine lv_goto (tgt := 619) hx hb dL_law_504 (by decide) ?_
    refine W.widen (k := 100 + 3 * i + 13) (n := 12200 + i + 6 + 2 * lsum ua.1) (by omega) (by rw [f9]; omega) ?_
    exact K _ _ _ _ _ _ f2 hY (lv_sub hl [2, 3, 4, 5, 6] rfl)
