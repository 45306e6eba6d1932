/-! ===== the law's own plan and run ===== -/
abbrev oE (cy : Nat → ClassId) (v : Int64) : va_E := .inl (cy 3, 1, .inr (.inl (fun j => if j = 0 then v else lN 0)))
def NcF (U : State) : Prop := va_Nc xAE xISE U ∧ va_Nc xUOE xISE U ∧ va_Nc xUOE xAE U ∧ va_Nc xNSEE xISE U ∧ va_Nc xNSEE xAE U ∧ va_Nc xNSEE xUOE U ∧ va_Nc xIAE xISE U
theorem NcF.moved {u U : State} (hvm : u.vm.Alike U.vm) (h : NcF u) : NcF U := ⟨h.1.moved hvm, h.2.1.moved hvm, h.2.2.1.moved hvm, h.2.2.2.1.moved hvm, h.2.2.2.2.1.moved hvm, h.2.2.2.2.2.1.moved hvm, h.2.2.2.2.2.2.moved hvm⟩
theorem LF.blind {D : va_G} {tys : List (ClassId × FieldType)} {n : Nat} {adr : Nat → Nat} {ent : Nat → va_E} {sz : Nat} {A : Nat → Prop} {av : List Value} : FrameBlind (va_Pc av (fun U => preW D tys n adr ent sz U ∧ ThF A U ∧ NcF U)) := by
  intro a U g mk q
  obtain ⟨q0, ⟨q1, qP, qK, qD⟩, h1, h2⟩ := q
  exact ⟨q0, ⟨q1, qP, va_K.moved (u := U) (U := U.calling g mk a) (Vm.Alike.refl U.vm) qK, qD⟩, h1.calling g mk a, NcF.moved (u := U) (U := U.calling g mk a) (Vm.Alike.refl U.vm) h2⟩
theorem TF.blind {D : va_G} {tys : List (ClassId × FieldType)} {n : Nat} {adr : Nat → Nat} {ent : Nat → va_E} {sz : Nat} {A : Nat → Prop} {av : List Value} : FrameBlind (va_Pc av (fun U => preW D tys n adr ent sz U ∧ ThF A U)) := by
  intro a U g mk q
  obtain ⟨q0, ⟨q1, qP, qK, qD⟩, h1⟩ := q
  exact ⟨q0, ⟨q1, qP, va_K.moved (u := U) (U := U.calling g mk a) (Vm.Alike.refl U.vm) qK, qD⟩, h1.calling g mk a⟩
theorem WX.same {D : va_G} {tys : List (ClassId × FieldType)} {n : Nat} {adr adr' : Nat → Nat} {ent ent' : Nat → va_E} {s : State} {A : Nat → Prop} {H : Heap} {locs : List Loc} (h : WX D tys n adr ent s A H locs) (e1 : adr = adr') (e2 : ent = ent') : WX D tys n adr' ent' s A H locs := by
  subst e1; subst e2; exact h
def PE (E : String) : Nat := if E = xISE then 1 else if E = xAE then 2 else if E = xUOE then 3 else 4
def LPlanQ (σ : TS) (v : Int64) (r : Int32) (u : TS × Int64) : Prop := (PlanQ σ (nI (PF σ)) u.1 ∧ r = nI 0 ∧ u.2 = lN (PF σ)) ∨ ∃ E, PlanX σ (E, u.1) ∧ u.2 = v ∧ r = nI (PE E)
def RE (E : String) : Nat := if E = xISE then 1 else 2
def LRunQ (σ : TS) (x : Int32) (v : Int64) (r : Int32) (u : TS × Int64) : Prop := (RunQ σ x (nI (tn x * σ.1 22 0)) u.1 ∧ r = nI 0 ∧ u.2 = lN (tn x * σ.1 22 0)) ∨ ∃ E, RunX σ x (E, u.1) ∧ u.2 = v ∧ r = nI (RE E)
theorem oE_st (cy : Nat → ClassId) (v x : Int64) : oE cy x = .inl (cy 3, 1, .inr (.inl (vp_updL (fun j => if j = 0 then v else lN 0) 0 x))) := by
  have : (fun j => if j = 0 then x else lN 0) = vp_updL (fun j => if j = 0 then v else lN 0) 0 x := by
    funext j
    unfold vp_updL
    by_cases e : j = 0
    · rw [if_pos e, if_pos e]
    · rw [if_neg e, if_neg e]
      exact (if_neg e).symm
  unfold oE
  rw [this]
set_option maxRecDepth 100000 in
set_option maxHeartbeats 4000000 in
theorem c_L_plan (l : Launch) (D : va_G) (cy : Nat → ClassId) (ad : Nat → Nat) (σ : TS) (o : Nat) (v : Int64) (sz : Nat) (hst : l.stackTraces = false) (hc : PlanC σ) : Met l yL_plan (Cond.codeWith yL_plan cL_plan 3 (some .int) [(0, 8, 11, 13), (0, 8, 14, 15), (0, 8, 17, 17), (0, 8, 20, 19)] :: UW) (rmx 7 13 (PS σ)) (va_Pc [.ref (ad 0), .ref o] (fun U => preW D (tyl cy) 38 (adn (adrT ad σ) 37 o) (adn (entT cy ad σ) 37 (oE cy v)) sz U ∧ ThF (va_A (wv 38 (adn (adrT ad σ) 37 o) (adn (entT cy ad σ) 37 (oE cy v))) sz) U ∧ NcF U)) (va_Qi (LPlanQ σ v) (fun u => atW D (tyl cy) 38 (adn (adrT ad u.1) 37 o) (adn (entT cy ad u.1) 37 (oE cy u.2)) (va_A (wv 38 (adn (adrT ad σ) 37 o) (adn (entT cy ad σ) 37 (oE cy v))) sz)) (va_A (wv 38 (adn (adrT ad σ) 37 o) (adn (entT cy ad σ) 37 (oE cy v))) sz)) 13 (PS σ) (va_A (wv 38 (adn (adrT ad σ) 37 o) (adn (entT cy ad σ) 37 (oE cy v))) sz) := by
  refine met_ofWH (cc := cL_plan) (maxL := 3) (ret := (some .int)) (by decide) rfl ?_
  intro p ev s m args below meth c s₁ B hml hv
  obtain ⟨rfl, hw, hT, hN⟩ := hv
  have hx := B.exec
  have hb := B.bytes
  have hr := B.returns
  have hpre := atoms_spec (ws := Cond.codeWith yL_plan cL_plan 3 (some .int) [(0, 8, 11, 13), (0, 8, 14, 15), (0, 8, 17, 17), (0, 8, 20, 19)] :: UW) B.pre
  have hU : ∀ w ∈ UW, w.before _ s = true := fun w hw => hpre w (List.mem_cons_of_mem _ hw)
  have htab := vx_table (x := yL_plan) B (hpre _ List.mem_cons_self)
  have hown : s.vm.findClass RL = some m.cls := findClass_of_methodNamed B.named
  have h := WX.start hw
  clear hw
  have hSz : va_A (wv 38 (adn (adrT ad σ) 37 o) (adn (entT cy ad σ) 37 (oE cy v))) sz = va_A (wv 38 (adn (adrT ad σ) 37 o) (adn (entT cy ad σ) 37 (oE cy v))) sz := rfl
  generalize va_A (wv _ _ _) _ = A at h hT ⊢
  have hl := lv_entry ([.ref (ad 0), .ref o]) (n := 3) (Nat.le_of_ble_eq_true rfl)
  rw [lg_entry_eq]
  generalize (lg_sl ([.ref (ad 0), .ref o]) ++ List.replicate (3 - (lg_sl ([.ref (ad 0), .ref o])).length) Slot.unset).toArray = ls at hl ⊢
  have hl : lv_has ls 3 [(0, .ref (ad 0)), (1, .ref o)] := hl
  have hy := WY.push.mpr h
  refine lv_aload_n hx hb dL_plan_0 rfl (lv_at hl 1 rfl) ?_
  refine lv_iconst (v := nI 0) hx hb dL_plan_1 (by decide +kernel) ?_
  refine lv_aload_n hx hb dL_plan_2 rfl (lv_at hl 0 rfl) ?_
  refine z_callx (S := TS) (SX := String × TS) (ex := fun u => u.1) (adrX := fun u => adrT ad u.2) (entX := fun u => entT cy ad u.2) (C := RX3) (rest := [.int (nI 0), .ref o]) (As := []) hx hb hml hU hown hy (c_X3_plan l D cy ad σ s.heap.size hst hc) ⟨TF.blind, hy.recv (i := 0) (by decide) rfl rfl, fun U hU hW => ⟨rfl, (hy.pre (av := []) U hU hW).2, hT.go h.2.2.2.2 hy.fr hU hW⟩⟩ umL_7 ui_X3_plan us_X3_plan unX3 uc_X3_plan hd_X3_plan ⟨Nat.le_of_ble_eq_true rfl, Nat.le_of_ble_eq_true rfl⟩ hl.1 rfl (Nat.le_of_ble_eq_true rfl) dL_plan_3 ⟨by show 0 + 13 ≤ 13; decide, by show 0 + PS σ ≤ PS σ; omega⟩ (fun E ce q9 u H1 locs1 hp he hy hce hcv hcl => ?_) (fun r u H1 locs1 hp hy => ?_)
  · have h := WY.push.mp hy
    subst he
    obtain ⟨E, u⟩ := u
    have hp0 := hp
    rcases hp with ⟨_, e⟩ | ⟨_, _, e⟩ | ⟨_, _, _, e⟩ | ⟨_, _, _, _, e⟩
    · obtain ⟨rfl, -⟩ := Prod.mk.inj e
      refine vx_catch (name := xISE) hown [] ⟨0, 8, 11, 13⟩ [⟨0, 8, 14, 15⟩, ⟨0, 8, 17, 17⟩, ⟨0, 8, 20, 19⟩] (by rw [htab]; rfl) (fun z hz => absurd hz List.not_mem_nil) (by decide) (by decide) (hU _ ulL_13) (hT.words (.castable xISE xISE) (by decide)) hce hcv hcl ?_
      refine lv_astore_n (lv' := [(2, .ref q9), (0, .ref (ad 0)), (1, .ref o)]) hx hb dL_plan_11 rfl hl (by decide) rfl (fun ls hl => ?_)
      refine lv_iconst (v := nI 1) hx hb dL_plan_12 (by decide +kernel) ?_
      refine W.widen (k := 13) (n := PS σ) (by show 0 + 13 ≤ 13; decide) (by show 0 + PS σ ≤ PS σ; omega) ?_
      exact W.iret (v := nI 1) hx hb hr (fun t ht hW => ⟨⟨_, (_, v), rfl, Or.inr ⟨xISE, hp0, rfl, rfl⟩, h.at ht hW⟩, h.2.2.2.2.F ht⟩) h.2.2.2.2.2.2 dL_plan_13
    · obtain ⟨rfl, -⟩ := Prod.mk.inj e
      refine vx_catch (name := xAE) hown [⟨0, 8, 11, 13⟩] ⟨0, 8, 14, 15⟩ [⟨0, 8, 17, 17⟩, ⟨0, 8, 20, 19⟩] (by rw [htab]; rfl) (fun z hz => by
        simp only [List.mem_cons, List.not_mem_nil, or_false] at hz
        rcases hz with rfl
        · exact Or.inr ⟨by decide, _, hU _ ulL_13, hN.1⟩) (by decide) (by decide) (hU _ ulL_15) (hT.words (.castable xAE xAE) (by decide)) hce hcv hcl ?_
      refine lv_astore_n (lv' := [(2, .ref q9), (0, .ref (ad 0)), (1, .ref o)]) hx hb dL_plan_14 rfl hl (by decide) rfl (fun ls hl => ?_)
      refine lv_iconst (v := nI 2) hx hb dL_plan_15 (by decide +kernel) ?_
      refine W.widen (k := 13) (n := PS σ) (by show 0 + 13 ≤ 13; decide) (by show 0 + PS σ ≤ PS σ; omega) ?_
      exact W.iret (v := nI 2) hx hb hr (fun t ht hW => ⟨⟨_, (_, v), rfl, Or.inr ⟨xAE, hp0, rfl, rfl⟩, h.at ht hW⟩, h.2.2.2.2.F ht⟩) h.2.2.2.2.2.2 dL_plan_16
    · obtain ⟨rfl, -⟩ := Prod.mk.inj e
      refine vx_catch (name := xUOE) hown [⟨0, 8, 11, 13⟩, ⟨0, 8, 14, 15⟩] ⟨0, 8, 17, 17⟩ [⟨0, 8, 20, 19⟩] (by rw [htab]; rfl) (fun z hz => by
        simp only [List.mem_cons, List.not_mem_nil, or_false] at hz
        rcases hz with rfl | rfl
        · exact Or.inr ⟨by decide, _, hU _ ulL_13, hN.2.1⟩
        · exact Or.inr ⟨by decide, _, hU _ ulL_15, hN.2.2.1⟩) (by decide) (by decide) (hU _ ulL_17) (hT.words (.castable xUOE xUOE) (by decide)) hce hcv hcl ?_
      refine lv_astore_n (lv' := [(2, .ref q9), (0, .ref (ad 0)), (1, .ref o)]) hx hb dL_plan_17 rfl hl (by decide) rfl (fun ls hl => ?_)
      refine lv_iconst (v := nI 3) hx hb dL_plan_18 (by decide +kernel) ?_
      refine W.widen (k := 13) (n := PS σ) (by show 0 + 13 ≤ 13; decide) (by show 0 + PS σ ≤ PS σ; omega) ?_
      exact W.iret (v := nI 3) hx hb hr (fun t ht hW => ⟨⟨_, (_, v), rfl, Or.inr ⟨xUOE, hp0, rfl, rfl⟩, h.at ht hW⟩, h.2.2.2.2.F ht⟩) h.2.2.2.2.2.2 dL_plan_19
    · obtain ⟨rfl, -⟩ := Prod.mk.inj e
      refine vx_catch (name := xNSEE) hown [⟨0, 8, 11, 13⟩, ⟨0, 8, 14, 15⟩, ⟨0, 8, 17, 17⟩] ⟨0, 8, 20, 19⟩ [] (by rw [htab]; rfl) (fun z hz => by
        simp only [List.mem_cons, List.not_mem_nil, or_false] at hz
        rcases hz with rfl | rfl | rfl
        · exact Or.inr ⟨by decide, _, hU _ ulL_13, hN.2.2.2.1⟩
        · exact Or.inr ⟨by decide, _, hU _ ulL_15, hN.2.2.2.2.1⟩
        · exact Or.inr ⟨by decide, _, hU _ ulL_17, hN.2.2.2.2.2.1⟩) (by decide) (by decide) (hU _ ulL_19) (hT.words (.castable xNSEE xNSEE) (by decide)) hce hcv hcl ?_
      refine lv_astore_n (lv' := [(2, .ref q9), (0, .ref (ad 0)), (1, .ref o)]) hx hb dL_plan_20 rfl hl (by decide) rfl (fun ls hl => ?_)
      refine lv_iconst (v := nI 4) hx hb dL_plan_21 (by decide +kernel) ?_
      refine W.widen (k := 13) (n := PS σ) (by show 0 + 13 ≤ 13; decide) (by show 0 + PS σ ≤ PS σ; omega) ?_
      exact W.iret (v := nI 4) hx hb hr (fun t ht hW => ⟨⟨_, (_, v), rfl, Or.inr ⟨xNSEE, hp0, rfl, rfl⟩, h.at ht hW⟩, h.2.2.2.2.F ht⟩) h.2.2.2.2.2.2 dL_plan_22
  · have h := WY.push.mp hy
    have hp0 := hp
    obtain ⟨_, _, hF, _, rfl, _⟩ := hp
    refine n_i2l hx hb (by omega) dL_plan_6 ?_
    have e1 : adn (adrT ad u) 37 o 37 = o := adn_eq _ _ _
    refine W.eq (g2 := F0 m 7 ls [.long (lN (PF σ)), .int (nI 0), .ref (adn (adrT ad u) 37 o 37)]) (by rw [e1]) ?_
    refine x_last hx hb h (i := 37) (t0 := 3) (N := 1) (by decide) (adn_eq _ _ _) rfl (by decide) (by decide) (x := lN (PF σ)) (ent' := adn (entT cy ad u) 37 (oE cy (lN (PF σ)))) (by rw [adn_eq]; exact oE_st cy v _) (fun j _ hj => by rw [adn_ne _ _ hj, adn_ne _ _ hj]) dL_plan_7 (fun H locs h => ?_)
    refine lv_goto (tgt := 23) hx hb dL_plan_8 (by decide) ?_
    refine lv_iconst (v := nI 0) hx hb dL_plan_23 (by decide +kernel) ?_
    refine W.widen (k := 13) (n := PS σ) (by show 0 + 13 ≤ 13; decide) (by show 0 + PS σ ≤ PS σ; omega) ?_
    exact W.iret (v := nI 0) hx hb hr (fun t ht hW => ⟨⟨_, (u, lN (PF σ)), rfl, Or.inl ⟨hp0, rfl, rfl⟩, h.at ht hW⟩, h.2.2.2.2.F ht⟩) h.2.2.2.2.2.2 dL_plan_24
set_option maxRecDepth 100000 in
set_option maxHeartbeats 4000000 in
theorem c_L_run (l : Launch) (D : va_G) (cy : Nat → ClassId) (ad : Nat → Nat) (σ : TS) (o : Nat) (v : Int64) (sz : Nat) (hst : l.stackTraces = false) {x : Int32} (hP : σ.1 22 0 ≤ 200) {J : Nat → TS → Prop} (hJ0 : 0 < σ.1 22 0 → RunJ J (σ.1 22 0) ∧ J 0 σ) : Met l yL_run (Cond.codeWith yL_run cL_run 4 (some .int) [(0, 9, 12, 13), (0, 9, 15, 25)] :: UW) (rmx 7 1 6) (va_Pc [.ref (ad 0), .int x, .ref o] (fun U => preW D (tyl cy) 38 (adn (adrT ad σ) 37 o) (adn (entT cy ad σ) 37 (oE cy v)) sz U ∧ ThF (va_A (wv 38 (adn (adrT ad σ) 37 o) (adn (entT cy ad σ) 37 (oE cy v))) sz) U ∧ NcF U)) (va_Qi (LRunQ σ x v) (fun u => atW D (tyl cy) 38 (adn (adrT ad u.1) 37 o) (adn (entT cy ad u.1) 37 (oE cy u.2)) (va_A (wv 38 (adn (adrT ad σ) 37 o) (adn (entT cy ad σ) 37 (oE cy v))) sz)) (va_A (wv 38 (adn (adrT ad σ) 37 o) (adn (entT cy ad σ) 37 (oE cy v))) sz)) 1 6 (va_A (wv 38 (adn (adrT ad σ) 37 o) (adn (entT cy ad σ) 37 (oE cy v))) sz) := by
  refine met_ofWH (cc := cL_run) (maxL := 4) (ret := (some .int)) (by decide) rfl ?_
  intro p ev s m args below meth c s₁ B hml hv
  obtain ⟨rfl, hw, hT, hN⟩ := hv
  have hx := B.exec
  have hb := B.bytes
  have hr := B.returns
  have hpre := atoms_spec (ws := Cond.codeWith yL_run cL_run 4 (some .int) [(0, 9, 12, 13), (0, 9, 15, 25)] :: UW) B.pre
  have hU : ∀ w ∈ UW, w.before _ s = true := fun w hw => hpre w (List.mem_cons_of_mem _ hw)
  have htab := vx_table (x := yL_run) B (hpre _ List.mem_cons_self)
  have hown : s.vm.findClass RL = some m.cls := findClass_of_methodNamed B.named
  have h := WX.start hw
  clear hw
  have hSz : va_A (wv 38 (adn (adrT ad σ) 37 o) (adn (entT cy ad σ) 37 (oE cy v))) sz = va_A (wv 38 (adn (adrT ad σ) 37 o) (adn (entT cy ad σ) 37 (oE cy v))) sz := rfl
  generalize va_A (wv _ _ _) _ = A at h hT ⊢
  have hl := lv_entry ([.ref (ad 0), .int x, .ref o]) (n := 4) (Nat.le_of_ble_eq_true rfl)
  rw [lg_entry_eq]
  generalize (lg_sl ([.ref (ad 0), .int x, .ref o]) ++ List.replicate (4 - (lg_sl ([.ref (ad 0), .int x, .ref o])).length) Slot.unset).toArray = ls at hl ⊢
  have hl : lv_has ls 4 [(0, .ref (ad 0)), (1, .int x), (2, .ref o)] := hl
  have hy := WY.push.mpr h
  refine lv_aload_n hx hb dL_run_0 rfl (lv_at hl 2 rfl) ?_
  refine lv_iconst (v := nI 0) hx hb dL_run_1 (by decide +kernel) ?_
  refine lv_aload_n hx hb dL_run_2 rfl (lv_at hl 0 rfl) ?_
  refine lv_iload_n hx hb dL_run_3 rfl (lv_at hl 1 rfl) ?_
  refine z_callx (S := TS) (SX := String × TS) (ex := fun u => u.1) (adrX := fun u => adrT ad u.2) (entX := fun u => entT cy ad u.2) (C := RX3) (rest := [.int (nI 0), .ref o]) (As := [.int x]) hx hb hml hU hown hy (c_X3_run l D cy ad σ s.heap.size hst hP hJ0) ⟨TF.blind, hy.recv (i := 0) (by decide) rfl rfl, fun U hU hW => ⟨rfl, (hy.pre (av := []) U hU hW).2, hT.go h.2.2.2.2 hy.fr hU hW⟩⟩ umL_21 ui_X3_run us_X3_run unX3 uc_X3_run hd_X3_run ⟨Nat.le_of_ble_eq_true rfl, Nat.le_of_ble_eq_true rfl⟩ hl.1 rfl (Nat.le_of_ble_eq_true rfl) dL_run_4 ⟨Nat.le_of_ble_eq_true rfl, Nat.le_of_ble_eq_true rfl⟩ (fun E ce q9 u H1 locs1 hp he hy hce hcv hcl => ?_) (fun r u H1 locs1 hp hy => ?_)
  · have h := WY.push.mp hy
    subst he
    obtain ⟨E, u⟩ := u
    have hp0 := hp
    rcases hp with ⟨_, e⟩ | ⟨_, _, e⟩
    · obtain ⟨rfl, -⟩ := Prod.mk.inj e
      refine vx_catch (name := xISE) hown [] ⟨0, 9, 12, 13⟩ [⟨0, 9, 15, 25⟩] (by rw [htab]; rfl) (fun z hz => absurd hz List.not_mem_nil) (by decide) (by decide) (hU _ ulL_13) (hT.words (.castable xISE xISE) (by decide)) hce hcv hcl ?_
      refine lv_astore_n (lv' := [(3, .ref q9), (0, .ref (ad 0)), (1, .int x), (2, .ref o)]) hx hb dL_run_12 rfl hl (by decide) rfl (fun ls hl => ?_)
      refine lv_iconst (v := nI 1) hx hb dL_run_13 (by decide +kernel) ?_
      refine W.widen (k := 1) (n := 6) (Nat.le_of_ble_eq_true rfl) (Nat.le_of_ble_eq_true rfl) ?_
      exact W.iret (v := nI 1) hx hb hr (fun t ht hW => ⟨⟨_, (_, v), rfl, Or.inr ⟨xISE, hp0, rfl, rfl⟩, h.at ht hW⟩, h.2.2.2.2.F ht⟩) h.2.2.2.2.2.2 dL_run_14
    · obtain ⟨rfl, -⟩ := Prod.mk.inj e
      refine vx_catch (name := xIAE) hown [⟨0, 9, 12, 13⟩] ⟨0, 9, 15, 25⟩ [] (by rw [htab]; rfl) (fun z hz => by
        simp only [List.mem_cons, List.not_mem_nil, or_false] at hz
        rcases hz with rfl
        · exact Or.inr ⟨by decide, _, hU _ ulL_13, hN.2.2.2.2.2.2⟩) (by decide) (by decide) (hU _ ulL_25) (hT.words (.castable xIAE xIAE) (by decide)) hce hcv hcl ?_
      refine lv_astore_n (lv' := [(3, .ref q9), (0, .ref (ad 0)), (1, .int x), (2, .ref o)]) hx hb dL_run_15 rfl hl (by decide) rfl (fun ls hl => ?_)
      refine lv_iconst (v := nI 2) hx hb dL_run_16 (by decide +kernel) ?_
      refine W.widen (k := 1) (n := 6) (Nat.le_of_ble_eq_true rfl) (Nat.le_of_ble_eq_true rfl) ?_
      exact W.iret (v := nI 2) hx hb hr (fun t ht hW => ⟨⟨_, (_, v), rfl, Or.inr ⟨xIAE, hp0, rfl, rfl⟩, h.at ht hW⟩, h.2.2.2.2.F ht⟩) h.2.2.2.2.2.2 dL_run_17
  · have h := WY.push.mp hy
    have hp0 := hp
    obtain ⟨hpl, hwi, rfl, _⟩ := hp
    have hb9 : tn x * σ.1 22 0 ≤ 20 * 200 := by
      obtain ⟨j, hj1, hj2, rfl⟩ := wi_of (by decide) (by decide) hwi
      simp only [tn]
      rw [nI_clamp (by omega)]
      exact Nat.mul_le_mul hj2 hP
    refine n_i2l hx hb (by omega) dL_run_7 ?_
    have e1 : adn (adrT ad u) 37 o 37 = o := adn_eq _ _ _
    refine W.eq (g2 := F0 m 8 ls [.long (lN (tn x * σ.1 22 0)), .int (nI 0), .ref (adn (adrT ad u) 37 o 37)]) (by rw [e1]) ?_
    refine x_last hx hb h (i := 37) (t0 := 3) (N := 1) (by decide) (adn_eq _ _ _) rfl (by decide) (by decide) (x := lN (tn x * σ.1 22 0)) (ent' := adn (entT cy ad u) 37 (oE cy (lN (tn x * σ.1 22 0)))) (by rw [adn_eq]; exact oE_st cy v _) (fun j _ hj => by rw [adn_ne _ _ hj, adn_ne _ _ hj]) dL_run_8 (fun H locs h => ?_)
    refine lv_goto (tgt := 18) hx hb dL_run_9 (by decide) ?_
    refine lv_iconst (v := nI 0) hx hb dL_run_18 (by decide +kernel) ?_
    refine W.widen (k := 1) (n := 6) (Nat.le_of_ble_eq_true rfl) (Nat.le_of_ble_eq_true rfl) ?_
    exact W.iret (v := nI 0) hx hb hr (fun t ht hW => ⟨⟨_, (u, lN (tn x * σ.1 22 0)), rfl, Or.inl ⟨hp0, rfl, rfl⟩, h.at ht hW⟩, h.2.2.2.2.F ht⟩) h.2.2.2.2.2.2 dL_run_19
