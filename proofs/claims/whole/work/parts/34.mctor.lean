/-! ===== the reference's constructor ===== -/
def μ0 : MS := (fun _ _ => 0, fun _ _ => nI 0)
def mOs (a : Nat → Nat) (k : Nat) : List Value := (List.range 25).map (fun f => if f < 3 ∨ f = 15 then .int (nI 0) else if f = 24 then .long (lN 0) else if mP f ≤ k then .ref (a (mP f)) else .null)
def entS (cy : Nat → ClassId) (a : Nat → Nat) (k : Nat) : Nat → va_E := fun i => if i = 0 then .inr (4, mOs a k) else mE cy μ0 (mF i)
theorem mOs_len (a : Nat → Nat) (k : Nat) : (mOs a k).length = 25 := by simp [mOs]
theorem mOs_get (a : Nat → Nat) (k : Nat) {f : Nat} (hf : f < 25) : (mOs a k)[f]? = some (if f < 3 ∨ f = 15 then .int (nI 0) else if f = 24 then .long (lN 0) else if mP f ≤ k then .ref (a (mP f)) else .null) := by
  simp [mOs, hf]
theorem mOs_set (a : Nat → Nat) {k f : Nat} (q : Nat) (hk : k < 20) (hf : mF (k + 1) = f) : (mOs a k).set f (.ref q) = mOs (adn a (k + 1) q) (k + 1) := by
  have hA := (mP_mF (by omega) (by omega) hf).2
  have hP : mP f = k + 1 := (mP_mF (by omega) (by omega) hf).1.symm
  apply List.ext_getElem?
  intro j
  rw [List.getElem?_set]
  by_cases hj : j < 25
  · rw [mOs_get _ _ hj, mOs_get _ _ hj, mOs_len]
    by_cases e : f = j
    · subst e
      rw [if_pos rfl, if_pos hj]
      unfold mA at hA
      rw [if_neg (by omega), if_neg (by omega), if_pos (by omega), hP, adn_eq]
    · rw [if_neg e]
      by_cases e1 : j < 3 ∨ j = 15
      · rw [if_pos e1, if_pos e1]
      · rw [if_neg e1, if_neg e1]
        by_cases e2 : j = 24
        · rw [if_pos e2, if_pos e2]
        · rw [if_neg e2, if_neg e2]
          have hne : mP j ≠ k + 1 := by
            intro q0
            apply e
            have h1 := (mF_mP (k := j) (by unfold mA; omega)).1
            rw [q0, hf] at h1
            exact h1
          by_cases e3 : mP j ≤ k
          · rw [if_pos e3, if_pos (by omega), adn_ne a q hne]
          · rw [if_neg e3, if_neg (by omega)]
  · rw [if_neg (by unfold mF at hf; split at hf <;> omega), List.getElem?_eq_none (by rw [mOs_len]; omega), List.getElem?_eq_none (by rw [mOs_len]; omega)]
theorem mE_int (cy : Nat → ClassId) {f : Nat} (h : mK f ≠ 2) : mE cy μ0 f = zR (cy 0) (mL f) := by
  unfold mE
  by_cases e : mK f = 0
  · rw [if_pos e]; rfl
  · have h2 : mK f ≤ 2 := by
      unfold mK
      split
      · omega
      · split <;> omega
    rw [if_neg e, if_pos (by omega)]; rfl
theorem mE_long (cy : Nat → ClassId) {f : Nat} (h : mK f = 2) : mE cy μ0 f = .inl (cy 3, mL f, .inr (.inl (fun _ => lN 0))) := by
  unfold mE
  rw [if_neg (by omega), if_neg (by omega)]; rfl
section MMake
variable {p : Program} {l : Launch} {e : Env} {R : Room} {s : State} {m : MethodId} {args : Array Value} {below : List Frame} {meth : Method} {c : Code} {H : Heap} {locs : List Loc} {cells slots : Nat} {Q : State → Prop}
variable {cc : ByteArray} {pc nL : Nat} {ls : Array Slot} {rest st0 : List Value} {D : va_G} {cy : Nat → ClassId} {a : Nat → Nat} {A : Nat → Prop}
theorem entS_step {k f q : Nat} {arr : va_E} (hk : k < 20) (hf : mF (k + 1) = f) (ha : arr = mE cy μ0 f) : ∀ i, i < k + 2 → adn a (k + 1) q i = adn a (k + 1) q i ∧ adn (adn (entS cy a k) (k + 1) arr) 0 (.inr (4, (mOs a k).set f (.ref q))) i = entS cy (adn a (k + 1) q) (k + 1) i := by
  intro i hi
  refine ⟨rfl, ?_⟩
  by_cases e0 : i = 0
  · subst e0
    rw [adn_eq, mOs_set a q hk hf]; rfl
  · rw [adn_ne _ _ e0]
    unfold entS
    rw [if_neg e0]
    by_cases e1 : i = k + 1
    · subst e1
      rw [adn_eq, hf]; exact ha
    · rw [adn_ne _ _ e1, if_neg e0]
theorem m_mk (hx : p.tables.exec = Jvm.exec) (hb : c.code = cc) (hU : ∀ w ∈ UW, w.before args s = true) (hown : s.vm.findClass RX4 = some m.cls) (hin0 : meth.name = "<init>") {k : Nat} (h : WX D (tyl cy) (k + 1) a (entS cy a k) s A H locs) (hk : k < 20) {f N : Nat} (hf : mF (k + 1) = f) (hK : mK f ≠ 2) (hN : mL f = N) (hN2 : N < 2 ^ 20) {idx : Nat} (hl : Cond.fieldLink RX4 idx RX4 (TX4 f).2.1 (TX4 f).2.2.1 ∈ UW) (hf25 : f < 25) (hfin : (TX4 f).2.2.2 = true) (hty : tyX4 f = .array .int) (hcells : cells + 1 ≤ R.cells) (hslots : slots + N ≤ R.slots) (hd1 : decode cc pc = .ok (.newarray .int, 2)) (hd2 : decode cc (pc + 2) = .ok (.putfield idx, 3)) {b : Nat} (hb0 : a 0 = b)
    (kk : ∀ (q : Nat) (H : Heap) (locs : List Loc), WX D (tyl cy) (k + 1 + 1) (adn a (k + 1) q) (entS cy (adn a (k + 1) q) (k + 1)) s A H locs → W p l e R s m args below meth c H locs (cells + 1) (slots + N) Q (F0 m (pc + 5) ls rest)) : W p l e R s m args below meth c H locs cells slots Q (F0 m pc ls (.int (nI N) :: .ref b :: rest)) := by
  refine x_newi hx hb hU h hN2 hcells hslots hd1 (fun q H h => ?_)
  have e1 : adn a (k + 1) q 0 = b := by rw [adn_ne a q (by omega)]; exact hb0
  refine W.eq (g2 := F0 m (pc + 2) ls (.ref q :: .ref (adn a (k + 1) q 0) :: rest)) (by rw [e1]) ?_
  refine x_putF hx hb hU hown hin0 h (i := 0) (by omega) (by rw [adn_ne _ _ (by omega)]; rfl) rfl iuX4 tx4_1 tyX4 tyX4_ok nmX4 f hf25 hl hfin (v := .ref q) (by rw [hty]; rfl) (by rw [hty]; rfl) (by rw [mOs_len]; exact hf25) hd2 (fun H locs h => ?_)
  exact kk q H locs (h.congr (entS_step hk hf (by rw [mE_int cy hK, hN])))
theorem m_mkl (hx : p.tables.exec = Jvm.exec) (hb : c.code = cc) (hU : ∀ w ∈ UW, w.before args s = true) (hown : s.vm.findClass RX4 = some m.cls) (hin0 : meth.name = "<init>") {k : Nat} (h : WX D (tyl cy) (k + 1) a (entS cy a k) s A H locs) (hk : k < 20) {f N : Nat} (hf : mF (k + 1) = f) (hK : mK f = 2) (hN : mL f = N) (hN2 : N < 2 ^ 20) {idx : Nat} (hl : Cond.fieldLink RX4 idx RX4 (TX4 f).2.1 (TX4 f).2.2.1 ∈ UW) (hf25 : f < 25) (hfin : (TX4 f).2.2.2 = true) (hty : tyX4 f = .array .long) (hcells : cells + 1 ≤ R.cells) (hslots : slots + N ≤ R.slots) (hd1 : decode cc pc = .ok (.newarray .long, 2)) (hd2 : decode cc (pc + 2) = .ok (.putfield idx, 3)) {b : Nat} (hb0 : a 0 = b)
    (kk : ∀ (q : Nat) (H : Heap) (locs : List Loc), WX D (tyl cy) (k + 1 + 1) (adn a (k + 1) q) (entS cy (adn a (k + 1) q) (k + 1)) s A H locs → W p l e R s m args below meth c H locs (cells + 1) (slots + N) Q (F0 m (pc + 5) ls rest)) : W p l e R s m args below meth c H locs cells slots Q (F0 m pc ls (.int (nI N) :: .ref b :: rest)) := by
  refine x_newl hx hb hU h hN2 hcells hslots hd1 (fun q H h => ?_)
  have e1 : adn a (k + 1) q 0 = b := by rw [adn_ne a q (by omega)]; exact hb0
  refine W.eq (g2 := F0 m (pc + 2) ls (.ref q :: .ref (adn a (k + 1) q 0) :: rest)) (by rw [e1]) ?_
  refine x_putF hx hb hU hown hin0 h (i := 0) (by omega) (by rw [adn_ne _ _ (by omega)]; rfl) rfl iuX4 tx4_1 tyX4 tyX4_ok nmX4 f hf25 hl hfin (v := .ref q) (by rw [hty]; rfl) (by rw [hty]; rfl) (by rw [mOs_len]; exact hf25) hd2 (fun H locs h => ?_)
  exact kk q H locs (h.congr (entS_step hk hf (by rw [mE_long cy hK, hN])))
end MMake
theorem entS_end (cy : Nat → ClassId) (a : Nat → Nat) : ∀ i, i < 21 → a i = a i ∧ entS cy a 20 i = entM cy a μ0 i := by
  intro i hi
  refine ⟨rfl, ?_⟩
  unfold entS entM
  by_cases e : i = 0
  · rw [if_pos e, if_pos e]; rfl
  · rw [if_neg e, if_neg e]
set_option maxRecDepth 100000 in
set_option maxHeartbeats 4000000 in
theorem c_X4_init (l : Launch) (D : va_G) (cy : Nat → ClassId) (b sz : Nat) : Met l yX4_init (Cond.code yX4_init cX4_init 1 none :: UW) (rmx 1 20 11496) (va_Pc [.ref b] (preW D (tyl cy) 1 (fun _ => b) (entS cy (fun _ => b) 0) sz)) (va_Qv (fun a : Nat → Nat => a 0 = b) (fun a => atW D (tyl cy) 21 a (entM cy a μ0) (va_A (wv 1 (fun _ => b) (entS cy (fun _ => b) 0)) sz)) (va_A (wv 1 (fun _ => b) (entS cy (fun _ => b) 0)) sz)) 20 11496 (va_A (wv 1 (fun _ => b) (entS cy (fun _ => b) 0)) sz) := by
  refine Met.ofW (cc := cX4_init) (maxL := 1) (ret := none) (by decide) rfl ?_
  intro p ev s m args below meth c s₁ B hml hv
  obtain ⟨rfl, hw⟩ := hv
  have hx := B.exec
  have hb := B.bytes
  have hr := B.returns
  have hin : meth.name = "<init>" := (name_of_methodNamed B.named B.method).1
  have hU : ∀ w ∈ UW, w.before _ s = true := fun w hw => atoms_spec (ws := Cond.code yX4_init cX4_init 1 none :: UW) B.pre w (List.mem_cons_of_mem _ hw)
  have hown : s.vm.findClass RX4 = some m.cls := findClass_of_methodNamed B.named
  have h := WX.start hw
  clear hw
  generalize va_A (wv _ _ _) _ = A at h ⊢
  have hl := lv_entry ([.ref b]) (n := 1) (Nat.le_of_ble_eq_true rfl)
  rw [lg_entry_eq]
  generalize (lg_sl ([.ref b]) ++ List.replicate (1 - (lg_sl ([.ref b])).length) Slot.unset).toArray = ls at hl ⊢
  have hl : lv_has ls 1 [(0, .ref b)] := hl
  refine lv_aload_n hx hb dX4_init_0 rfl (lv_at hl 0 rfl) ?_
  refine W.objInit hx hb hown (hU _ umX4_1) (hU _ ui_objinit) (hU _ uc_objinit) rfl (by rw [hml]; exact hl.1) rfl dX4_init_1 (Nat.le_of_ble_eq_true rfl) (Nat.le_of_ble_eq_true rfl) ?_
  refine W.eq (g2 := F0 m 4 ls []) rfl ?_
  obtain ⟨a0, ea0⟩ : ∃ a : Nat → Nat, a = fun _ => b := ⟨_, rfl⟩
  rw [← ea0] at h
  have ha : a0 0 = b := by rw [ea0]
  have h : WX D (tyl cy) (0 + 1) a0 (entS cy a0 0) s A s.heap [] := h
  refine lv_aload_n hx hb dX4_init_4 rfl (lv_at hl 0 rfl) ?_
  refine lv_bipush (v := nI 8) hx hb dX4_init_5 (by decide +kernel) ?_
  refine m_mk (k := 0) (f := 3) hx hb hU hown hin h (by decide) rfl (by decide) rfl (by decide) ufX4_7 (by decide) rfl rfl (Nat.le_of_ble_eq_true rfl) (Nat.le_of_ble_eq_true rfl) dX4_init_7 dX4_init_9 ha (fun q1 H locs h => ?_)
  generalize ha1 : adn a0 1 q1 = a1 at h
  have ha : a1 0 = b := by rw [← ha1, adn_ne _ _ (by decide)]; exact ha
  clear ha1
  refine lv_aload_n hx hb dX4_init_12 rfl (lv_at hl 0 rfl) ?_
  refine lv_bipush (v := nI 8) hx hb dX4_init_13 (by decide +kernel) ?_
  refine m_mk (k := 1) (f := 4) hx hb hU hown hin h (by decide) rfl (by decide) rfl (by decide) ufX4_13 (by decide) rfl rfl (Nat.le_of_ble_eq_true rfl) (Nat.le_of_ble_eq_true rfl) dX4_init_15 dX4_init_17 ha (fun q2 H locs h => ?_)
  generalize ha2 : adn a1 2 q2 = a2 at h
  have ha : a2 0 = b := by rw [← ha2, adn_ne _ _ (by decide)]; exact ha
  clear ha2
  refine lv_aload_n hx hb dX4_init_20 rfl (lv_at hl 0 rfl) ?_
  refine lv_bipush (v := nI 8) hx hb dX4_init_21 (by decide +kernel) ?_
  refine m_mk (k := 2) (f := 5) hx hb hU hown hin h (by decide) rfl (by decide) rfl (by decide) ufX4_16 (by decide) rfl rfl (Nat.le_of_ble_eq_true rfl) (Nat.le_of_ble_eq_true rfl) dX4_init_23 dX4_init_25 ha (fun q3 H locs h => ?_)
  generalize ha3 : adn a2 3 q3 = a3 at h
  have ha : a3 0 = b := by rw [← ha3, adn_ne _ _ (by decide)]; exact ha
  clear ha3
  refine lv_aload_n hx hb dX4_init_28 rfl (lv_at hl 0 rfl) ?_
  refine lv_bipush (v := nI 8) hx hb dX4_init_29 (by decide +kernel) ?_
  refine m_mk (k := 3) (f := 6) hx hb hU hown hin h (by decide) rfl (by decide) rfl (by decide) ufX4_19 (by decide) rfl rfl (Nat.le_of_ble_eq_true rfl) (Nat.le_of_ble_eq_true rfl) dX4_init_31 dX4_init_33 ha (fun q4 H locs h => ?_)
  generalize ha4 : adn a3 4 q4 = a4 at h
  have ha : a4 0 = b := by rw [← ha4, adn_ne _ _ (by decide)]; exact ha
  clear ha4
  refine lv_aload_n hx hb dX4_init_36 rfl (lv_at hl 0 rfl) ?_
  refine lv_bipush (v := nI 12) hx hb dX4_init_37 (by decide +kernel) ?_
  refine m_mk (k := 4) (f := 7) hx hb hU hown hin h (by decide) rfl (by decide) rfl (by decide) ufX4_22 (by decide) rfl rfl (Nat.le_of_ble_eq_true rfl) (Nat.le_of_ble_eq_true rfl) dX4_init_39 dX4_init_41 ha (fun q5 H locs h => ?_)
  generalize ha5 : adn a4 5 q5 = a5 at h
  have ha : a5 0 = b := by rw [← ha5, adn_ne _ _ (by decide)]; exact ha
  clear ha5
  refine lv_aload_n hx hb dX4_init_44 rfl (lv_at hl 0 rfl) ?_
  refine lv_bipush (v := nI 12) hx hb dX4_init_45 (by decide +kernel) ?_
  refine m_mk (k := 5) (f := 8) hx hb hU hown hin h (by decide) rfl (by decide) rfl (by decide) ufX4_25 (by decide) rfl rfl (Nat.le_of_ble_eq_true rfl) (Nat.le_of_ble_eq_true rfl) dX4_init_47 dX4_init_49 ha (fun q6 H locs h => ?_)
  generalize ha6 : adn a5 6 q6 = a6 at h
  have ha : a6 0 = b := by rw [← ha6, adn_ne _ _ (by decide)]; exact ha
  clear ha6
  refine lv_aload_n hx hb dX4_init_52 rfl (lv_at hl 0 rfl) ?_
  refine lv_bipush (v := nI 12) hx hb dX4_init_53 (by decide +kernel) ?_
  refine m_mk (k := 6) (f := 9) hx hb hU hown hin h (by decide) rfl (by decide) rfl (by decide) ufX4_28 (by decide) rfl rfl (Nat.le_of_ble_eq_true rfl) (Nat.le_of_ble_eq_true rfl) dX4_init_55 dX4_init_57 ha (fun q7 H locs h => ?_)
  generalize ha7 : adn a6 7 q7 = a7 at h
  have ha : a7 0 = b := by rw [← ha7, adn_ne _ _ (by decide)]; exact ha
  clear ha7
  refine lv_aload_n hx hb dX4_init_60 rfl (lv_at hl 0 rfl) ?_
  refine lv_bipush (v := nI 12) hx hb dX4_init_61 (by decide +kernel) ?_
  refine m_mk (k := 7) (f := 10) hx hb hU hown hin h (by decide) rfl (by decide) rfl (by decide) ufX4_31 (by decide) rfl rfl (Nat.le_of_ble_eq_true rfl) (Nat.le_of_ble_eq_true rfl) dX4_init_63 dX4_init_65 ha (fun q8 H locs h => ?_)
  generalize ha8 : adn a7 8 q8 = a8 at h
  have ha : a8 0 = b := by rw [← ha8, adn_ne _ _ (by decide)]; exact ha
  clear ha8
  refine lv_aload_n hx hb dX4_init_68 rfl (lv_at hl 0 rfl) ?_
  refine lv_bipush (v := nI 12) hx hb dX4_init_69 (by decide +kernel) ?_
  refine m_mk (k := 8) (f := 11) hx hb hU hown hin h (by decide) rfl (by decide) rfl (by decide) ufX4_34 (by decide) rfl rfl (Nat.le_of_ble_eq_true rfl) (Nat.le_of_ble_eq_true rfl) dX4_init_71 dX4_init_73 ha (fun q9 H locs h => ?_)
  generalize ha9 : adn a8 9 q9 = a9 at h
  have ha : a9 0 = b := by rw [← ha9, adn_ne _ _ (by decide)]; exact ha
  clear ha9
  refine lv_aload_n hx hb dX4_init_76 rfl (lv_at hl 0 rfl) ?_
  refine lv_sipush (v := nI 10920) hx hb dX4_init_77 (by decide +kernel) ?_
  refine m_mk (k := 9) (f := 12) hx hb hU hown hin h (by decide) rfl (by decide) rfl (by decide) ufX4_37 (by decide) rfl rfl (Nat.le_of_ble_eq_true rfl) (Nat.le_of_ble_eq_true rfl) dX4_init_80 dX4_init_82 ha (fun q10 H locs h => ?_)
  generalize ha10 : adn a9 10 q10 = a10 at h
  have ha : a10 0 = b := by rw [← ha10, adn_ne _ _ (by decide)]; exact ha
  clear ha10
  refine lv_aload_n hx hb dX4_init_85 rfl (lv_at hl 0 rfl) ?_
  refine lv_bipush (v := nI 12) hx hb dX4_init_86 (by decide +kernel) ?_
  refine m_mk (k := 10) (f := 13) hx hb hU hown hin h (by decide) rfl (by decide) rfl (by decide) ufX4_40 (by decide) rfl rfl (Nat.le_of_ble_eq_true rfl) (Nat.le_of_ble_eq_true rfl) dX4_init_88 dX4_init_90 ha (fun q11 H locs h => ?_)
  generalize ha11 : adn a10 11 q11 = a11 at h
  have ha : a11 0 = b := by rw [← ha11, adn_ne _ _ (by decide)]; exact ha
  clear ha11
  refine lv_aload_n hx hb dX4_init_93 rfl (lv_at hl 0 rfl) ?_
  refine lv_bipush (v := nI 12) hx hb dX4_init_94 (by decide +kernel) ?_
  refine m_mk (k := 11) (f := 14) hx hb hU hown hin h (by decide) rfl (by decide) rfl (by decide) ufX4_43 (by decide) rfl rfl (Nat.le_of_ble_eq_true rfl) (Nat.le_of_ble_eq_true rfl) dX4_init_96 dX4_init_98 ha (fun q12 H locs h => ?_)
  generalize ha12 : adn a11 12 q12 = a12 at h
  have ha : a12 0 = b := by rw [← ha12, adn_ne _ _ (by decide)]; exact ha
  clear ha12
  refine lv_aload_n hx hb dX4_init_101 rfl (lv_at hl 0 rfl) ?_
  refine lv_sipush (v := nI 200) hx hb dX4_init_102 (by decide +kernel) ?_
  refine m_mk (k := 12) (f := 16) hx hb hU hown hin h (by decide) rfl (by decide) rfl (by decide) ufX4_46 (by decide) rfl rfl (Nat.le_of_ble_eq_true rfl) (Nat.le_of_ble_eq_true rfl) dX4_init_105 dX4_init_107 ha (fun q13 H locs h => ?_)
  generalize ha13 : adn a12 13 q13 = a13 at h
  have ha : a13 0 = b := by rw [← ha13, adn_ne _ _ (by decide)]; exact ha
  clear ha13
  refine lv_aload_n hx hb dX4_init_110 rfl (lv_at hl 0 rfl) ?_
  refine lv_bipush (v := nI 8) hx hb dX4_init_111 (by decide +kernel) ?_
  refine m_mk (k := 13) (f := 17) hx hb hU hown hin h (by decide) rfl (by decide) rfl (by decide) ufX4_49 (by decide) rfl rfl (Nat.le_of_ble_eq_true rfl) (Nat.le_of_ble_eq_true rfl) dX4_init_113 dX4_init_115 ha (fun q14 H locs h => ?_)
  generalize ha14 : adn a13 14 q14 = a14 at h
  have ha : a14 0 = b := by rw [← ha14, adn_ne _ _ (by decide)]; exact ha
  clear ha14
  refine lv_aload_n hx hb dX4_init_118 rfl (lv_at hl 0 rfl) ?_
  refine lv_bipush (v := nI 12) hx hb dX4_init_119 (by decide +kernel) ?_
  refine m_mk (k := 14) (f := 18) hx hb hU hown hin h (by decide) rfl (by decide) rfl (by decide) ufX4_52 (by decide) rfl rfl (Nat.le_of_ble_eq_true rfl) (Nat.le_of_ble_eq_true rfl) dX4_init_121 dX4_init_123 ha (fun q15 H locs h => ?_)
  generalize ha15 : adn a14 15 q15 = a15 at h
  have ha : a15 0 = b := by rw [← ha15, adn_ne _ _ (by decide)]; exact ha
  clear ha15
  refine lv_aload_n hx hb dX4_init_126 rfl (lv_at hl 0 rfl) ?_
  refine lv_bipush (v := nI 8) hx hb dX4_init_127 (by decide +kernel) ?_
  refine m_mkl (k := 15) (f := 19) hx hb hU hown hin h (by decide) rfl (by decide) rfl (by decide) ufX4_55 (by decide) rfl rfl (Nat.le_of_ble_eq_true rfl) (Nat.le_of_ble_eq_true rfl) dX4_init_129 dX4_init_131 ha (fun q16 H locs h => ?_)
  generalize ha16 : adn a15 16 q16 = a16 at h
  have ha : a16 0 = b := by rw [← ha16, adn_ne _ _ (by decide)]; exact ha
  clear ha16
  refine lv_aload_n hx hb dX4_init_134 rfl (lv_at hl 0 rfl) ?_
  refine lv_bipush (v := nI 8) hx hb dX4_init_135 (by decide +kernel) ?_
  refine m_mk (k := 16) (f := 20) hx hb hU hown hin h (by decide) rfl (by decide) rfl (by decide) ufX4_59 (by decide) rfl rfl (Nat.le_of_ble_eq_true rfl) (Nat.le_of_ble_eq_true rfl) dX4_init_137 dX4_init_139 ha (fun q17 H locs h => ?_)
  generalize ha17 : adn a16 17 q17 = a17 at h
  have ha : a17 0 = b := by rw [← ha17, adn_ne _ _ (by decide)]; exact ha
  clear ha17
  refine lv_aload_n hx hb dX4_init_142 rfl (lv_at hl 0 rfl) ?_
  refine lv_bipush (v := nI 12) hx hb dX4_init_143 (by decide +kernel) ?_
  refine m_mk (k := 17) (f := 21) hx hb hU hown hin h (by decide) rfl (by decide) rfl (by decide) ufX4_62 (by decide) rfl rfl (Nat.le_of_ble_eq_true rfl) (Nat.le_of_ble_eq_true rfl) dX4_init_145 dX4_init_147 ha (fun q18 H locs h => ?_)
  generalize ha18 : adn a17 18 q18 = a18 at h
  have ha : a18 0 = b := by rw [← ha18, adn_ne _ _ (by decide)]; exact ha
  clear ha18
  refine lv_aload_n hx hb dX4_init_150 rfl (lv_at hl 0 rfl) ?_
  refine lv_bipush (v := nI 12) hx hb dX4_init_151 (by decide +kernel) ?_
  refine m_mk (k := 18) (f := 22) hx hb hU hown hin h (by decide) rfl (by decide) rfl (by decide) ufX4_65 (by decide) rfl rfl (Nat.le_of_ble_eq_true rfl) (Nat.le_of_ble_eq_true rfl) dX4_init_153 dX4_init_155 ha (fun q19 H locs h => ?_)
  generalize ha19 : adn a18 19 q19 = a19 at h
  have ha : a19 0 = b := by rw [← ha19, adn_ne _ _ (by decide)]; exact ha
  clear ha19
  refine lv_aload_n hx hb dX4_init_158 rfl (lv_at hl 0 rfl) ?_
  refine lv_sipush (v := nI 200) hx hb dX4_init_159 (by decide +kernel) ?_
  refine m_mk (k := 19) (f := 23) hx hb hU hown hin h (by decide) rfl (by decide) rfl (by decide) ufX4_68 (by decide) rfl rfl (Nat.le_of_ble_eq_true rfl) (Nat.le_of_ble_eq_true rfl) dX4_init_162 dX4_init_164 ha (fun q20 H locs h => ?_)
  generalize ha20 : adn a19 20 q20 = a20 at h
  have ha : a20 0 = b := by rw [← ha20, adn_ne _ _ (by decide)]; exact ha
  clear ha20
  have h := h.congr (entS_end cy a20)
  exact W.vret hx hb hr (fun t ht hW => ⟨⟨a20, rfl, ha, h.at ht hW⟩, h.2.2.2.2.F ht⟩) h.2.2.2.2.2.2 dX4_init_167
