/-! ===== TokenFlow(): its contract ===== -/
theorem va_at_refs {D : va_G} {cl : List vw_C} {q N : Nat} {cA : ClassId} {f f' : Nat → Option Nat} (h : ∀ j, j < N → f j = f' j) {H : Heap} (h0 : va_at D cl (q, .inl (cA, N, .inr (.inr (.inr (.inr f))))) H) : va_at D cl (q, .inl (cA, N, .inr (.inr (.inr (.inr f'))))) H := by
  have e : arrV cA N (fun j => va_rf (f j)) = arrV cA N (fun j => va_rf (f' j)) := by
    unfold arrV
    congr 1
    apply congrArg
    funext j
    show va_rf (f j.val) = va_rf (f' j.val)
    rw [h j.val j.isLt]
  have h1 : H[q]? = some (arrV cA N (fun j => va_rf (f j))) := h0
  show H[q]? = some (arrV cA N (fun j => va_rf (f' j)))
  rw [← e]
  exact h1
theorem WX.permc {D : va_G} {tys : List (ClassId × FieldType)} {n k : Nat} {adr adr' : Nat → Nat} {ent ent' : Nat → va_E} {s : State} {A : Nat → Prop} {H : Heap} {locs : List Loc} (hw : WX D tys n adr ent s A H locs) (g : Nat → Nat) (h : ∀ i, i < k → g i < n ∧ adr' i = adr (g i) ∧ ∀ H, va_at D vwCl (adr (g i), ent (g i)) H → va_at D vwCl (adr (g i), ent' i) H) (hi : ∀ i j, i < k → j < k → g i = g j → i = j) : WX D tys k adr' ent' s A H locs := by
  have hlt : ∀ (i : Nat) (x : Nat × va_E), (wv k adr' ent')[i]? = some x → i < k ∧ x = (adr' i, ent' i) := by
    intro i x hx
    have hik : i < k := by have := (List.getElem?_eq_some_iff.mp hx).1; rwa [wv_len] at this
    rw [wv_get hik] at hx
    exact ⟨hik, (Option.some.inj hx).symm⟩
  obtain ⟨a, b, hP, hD, hS⟩ := hw
  refine ⟨a, b, fun i x hx => ?_, ⟨fun i j x y hx hy hxy => ?_, fun i x hx => ?_⟩, hS⟩
  · obtain ⟨hik, rfl⟩ := hlt i x hx
    obtain ⟨h1, h2, h3⟩ := h i hik
    rw [h2]
    exact h3 H (hP (g i) _ (wv_get h1))
  · obtain ⟨hik, rfl⟩ := hlt i x hx
    obtain ⟨hjk, rfl⟩ := hlt j y hy
    refine hi i j hik hjk (hD.1 (g i) (g j) _ _ (wv_get (h i hik).1) (wv_get (h j hjk).1) ?_)
    show adr (g i) = adr (g j)
    rw [← (h i hik).2.1, ← (h j hjk).2.1]
    exact hxy
  · obtain ⟨hik, rfl⟩ := hlt i x hx
    show A (adr' i)
    rw [(h i hik).2.1]
    exact hD.2 (g i) _ (wv_get (h i hik).1)
/-- the class's order of its cells: where each was made -/
def pT (k : Nat) : Nat := if k < 2 then k else if k = 2 then 10 else if k = 3 then 35 else if k = 4 then 36 else if k < 13 then k - 3 else if k < 25 then 11 + 2 * (k - 13) else 12 + 2 * (k - 25)
def adC (a : Nat → Nat) : Nat → Nat := fun k => a (pT k)
def sC (a : Nat → Nat) : TS := (fun f _ => if f = 17 then 9 else 0, fun _ _ => nI 0, fun e => a (12 + 2 * e))
theorem pT_inj : ∀ i j, i < 37 → j < 37 → pT i = pT j → i = j := by
  intro i j hi hj h
  unfold pT at h
  repeat' split at h
  all_goals omega
theorem pT_A {i : Nat} (h1 : 5 ≤ i) (h2 : i < 13) : pT i = i - 3 := by
  unfold pT; rw [if_neg (by omega), if_neg (by omega), if_neg (by omega), if_neg (by omega), if_pos h2]
theorem pT_E {i : Nat} (h1 : 13 ≤ i) (h2 : i < 25) : pT i = 11 + 2 * (i - 13) := by
  unfold pT; rw [if_neg (by omega), if_neg (by omega), if_neg (by omega), if_neg (by omega), if_neg (by omega), if_pos h2]
theorem pT_R {i : Nat} (h1 : 25 ≤ i) : pT i = 12 + 2 * (i - 25) := by
  unfold pT; rw [if_neg (by omega), if_neg (by omega), if_neg (by omega), if_neg (by omega), if_neg (by omega), if_neg (by omega)]
theorem tC_end {D : va_G} {cy : Nat → ClassId} {a : Nat → Nat} : ∀ i, i < 37 → pT i < 37 ∧ adrT (adC a) (sC a) i = a (pT i) ∧ ∀ H, va_at D vwCl (a (pT i), entC cy a [.ref (a 1), .ref (a 10), .ref (a 35), .ref (a 36), .int (nI 0), .int (nI 0), .int (nI 0)] 8 12 (pT i)) H → va_at D vwCl (a (pT i), entT cy (adC a) (sC a) i) H := by
  intro i hi
  refine ⟨?_, ?_, ?_⟩
  · unfold pT; repeat' split
    all_goals omega
  · unfold adrT
    by_cases e : i < 25
    · rw [if_pos e]; rfl
    · rw [if_neg e]
      show a (12 + 2 * (i - 25)) = _
      rw [pT_R (by omega)]
  · intro H h
    by_cases e0 : i = 0
    · subst e0; exact h
    · by_cases e1 : i = 1
      · subst e1
        refine va_at_refs (f' := fun j => some (adC a (5 + j))) (fun j hj => ?_) (show va_at D vwCl (a 1, .inl (cy 1, 8, .inr (.inr (.inr (.inr (fun j => if j < 8 then some (a (2 + j)) else none)))))) H from h)
        show (if j < 8 then some (a (2 + j)) else none) = some (a (pT (5 + j)))
        rw [if_pos hj, pT_A (by omega) (by omega), show 5 + j - 3 = 2 + j by omega]
      · by_cases e2 : i = 2
        · subst e2
          refine va_at_refs (f' := fun j => some (adC a (13 + j))) (fun j hj => ?_) (show va_at D vwCl (a 10, .inl (cy 2, 12, .inr (.inr (.inr (.inr (fun j => if j < 12 then some (a (11 + 2 * j)) else none)))))) H from h)
          show (if j < 12 then some (a (11 + 2 * j)) else none) = some (a (pT (13 + j)))
          rw [if_pos hj, pT_E (by omega) (by omega), show 13 + j - 13 = j by omega]
        · by_cases e3 : i = 3
          · subst e3; exact h
          · by_cases e4 : i = 4
            · subst e4; exact h
            · by_cases e5 : i < 13
              · rw [pT_A (by omega) e5] at h ⊢
                rw [entC_A _ _ _ _ _ (by omega) (by omega)] at h
                obtain ⟨n, rfl⟩ : ∃ n, i = 5 + n := ⟨i - 5, by omega⟩
                rw [entT_A cy _ _ (by omega)]
                exact h
              · by_cases e6 : i < 25
                · rw [pT_E (by omega) e6] at h ⊢
                  rw [entC_E _ _ _ _ _ (by omega) (by omega) (by omega)] at h
                  obtain ⟨n, rfl⟩ : ∃ n, i = 13 + n := ⟨i - 13, by omega⟩
                  rw [entT_E cy _ _ (by omega)]
                  rw [show 13 + n - 13 = n by omega] at h ⊢
                  rw [show 11 + 2 * n + 1 = 12 + 2 * n by omega] at h
                  exact h
                · rw [pT_R (by omega)] at h ⊢
                  rw [entC_R _ _ _ _ _ (by omega) (by omega) (by omega)] at h
                  obtain ⟨n, rfl⟩ : ∃ n, i = 25 + n := ⟨i - 25, by omega⟩
                  rw [entT_R cy]
                  exact h
/-- what the constructor needs of the tables beside the words -/
def NewF (U : State) : Prop := va_Nw nwA U ∧ va_Nw nwK U ∧ va_AO RX0 U ∧ va_AO RX1 U
theorem NewF.warm {s U : State} (hW : s.WarmedH U.vm) (h : NewF s) : NewF U := ⟨va_Nw.warmM hW h.1, va_Nw.warmM hW h.2.1, va_AO.moved hW.alike h.2.2.1, va_AO.moved hW.alike h.2.2.2⟩
theorem NewF.blind {D : va_G} {tys : List (ClassId × FieldType)} {n : Nat} {adr : Nat → Nat} {ent : Nat → va_E} {sz : Nat} {av : List Value} : FrameBlind (va_Pc av (fun U => preW D tys n adr ent sz U ∧ NewF U)) := by
  intro a U g mk q
  obtain ⟨q0, ⟨q1, qP, qK, qD⟩, h1, h2, h3, h4⟩ := q
  exact ⟨q0, ⟨q1, qP, va_K.moved (u := U) (U := U.calling g mk a) (Vm.Alike.refl U.vm) qK, qD⟩, va_Nw.same rfl rfl h1, va_Nw.same rfl rfl h2, va_AO.moved (u := U) (U := U.calling g mk a) (Vm.Alike.refl U.vm) h3, va_AO.moved (u := U) (U := U.calling g mk a) (Vm.Alike.refl U.vm) h4⟩
abbrev zM : List Value := [.null, .null, .null, .null, .int (nI 0), .int (nI 0), .int (nI 0)]
set_option maxRecDepth 100000 in
set_option maxHeartbeats 4000000 in
theorem c_X3_init (l : Launch) (D : va_G) (cy : Nat → ClassId) (b sz : Nat) : Met l yX3_init (Cond.code yX3_init cX3_init 2 none :: UW) (rmx 3 36 500) (va_Pc [.ref b] (fun U => preW D (tyl cy) 1 (fun _ => b) (fun _ => .inr (3, zM)) sz U ∧ NewF U)) (va_Qv (fun a : Nat → Nat => a 0 = b) (fun a => atW D (tyl cy) 37 (adrT (adC a) (sC a)) (entT cy (adC a) (sC a)) (va_A (wv 1 (fun _ => b) (fun _ => .inr (3, zM))) sz)) (va_A (wv 1 (fun _ => b) (fun _ => .inr (3, zM))) sz)) 36 500 (va_A (wv 1 (fun _ => b) (fun _ => .inr (3, zM))) sz) := by
  refine Met.ofW (cc := cX3_init) (maxL := 2) (ret := none) (by decide) rfl ?_
  intro p ev s m args below meth c s₁ B hml hv
  obtain ⟨rfl, hw, hNA, hNK, hOA, hOE⟩ := hv
  have hx := B.exec
  have hb := B.bytes
  have hr := B.returns
  have hin : meth.name = "<init>" := (name_of_methodNamed B.named B.method).1
  have hU : ∀ w ∈ UW, w.before _ s = true := fun w hw => atoms_spec (ws := Cond.code yX3_init cX3_init 2 none :: UW) B.pre w (List.mem_cons_of_mem _ hw)
  have hown : s.vm.findClass RX3 = some m.cls := findClass_of_methodNamed B.named
  have h := WX.start hw
  clear hw
  generalize va_A (wv _ _ _) _ = A at h ⊢
  have hl := lv_entry ([.ref b]) (n := 2) (Nat.le_of_ble_eq_true rfl)
  rw [lg_entry_eq]
  generalize (lg_sl ([.ref b]) ++ List.replicate (2 - (lg_sl ([.ref b])).length) Slot.unset).toArray = ls at hl ⊢
  have hl : lv_has ls 2 [(0, .ref b)] := hl
  refine lv_aload_n hx hb dX3_init_0 rfl (lv_at hl 0 rfl) ?_
  refine W.objInit hx hb hown (hU _ umX3_1) (hU _ ui_objinit) (hU _ uc_objinit) rfl (by rw [hml]; exact hl.1) rfl dX3_init_1 (Nat.le_of_ble_eq_true rfl) (Nat.le_of_ble_eq_true rfl) ?_
  refine W.eq (g2 := F0 m 4 ls []) rfl ?_
  refine lv_aload_n hx hb dX3_init_4 rfl (lv_at hl 0 rfl) ?_
  refine lv_bipush (v := nI 8) hx hb dX3_init_5 (by decide +kernel) ?_
  refine x_newq hx hb hU hown h (t0 := 1) rfl ulX3_9 hOA (by decide) (Nat.le_of_ble_eq_true rfl) (Nat.le_of_ble_eq_true rfl) dX3_init_7 (fun q1 H h => ?_)
  refine x_putF hx hb hU hown hin h (i := 0) (by decide) (by rw [adn_ne _ _ (by decide)]) rfl iuX3 tx3_1 tyX3 tyX3_ok nmX3 0 (by decide) ufX3_11 rfl (v := .ref q1) rfl rfl (Nat.le_of_ble_eq_true rfl) dX3_init_10 (fun H locs h => ?_)
  generalize ha1 : adn (fun _ => b) 1 q1 = a1 at h
  have hb1 : a1 0 = b ∧ a1 1 = q1 := by rw [← ha1]; exact ⟨adn_ne _ _ (by decide), adn_eq _ _ _⟩
  have h : WX D (tyl cy) (2 + 0) a1 (entC cy a1 [.ref q1, .null, .null, .null, .int (nI 0), .int (nI 0), .int (nI 0)] 0 0) s A H locs := by
    refine h.congr (fun i hi => ⟨rfl, ?_⟩)
    by_cases e0 : i = 0
    · subst e0; rw [adn_eq]; rfl
    · obtain rfl : i = 1 := by omega
      rw [adn_ne _ _ (by decide), adn_eq, entC_1]
      congr 7
  refine lv_iconst (v := nI 0) hx hb dX3_init_13 (by decide +kernel) ?_
  refine lv_istore_n (lv' := [(1, .int (nI 0)), (0, .ref b)]) hx hb dX3_init_14 rfl hl (by decide) rfl (fun ls hl => ?_)
  refine W.widen (k := 1 + 0) (n := 8 + 6 * 0) (Nat.le_of_ble_eq_true rfl) (Nat.le_of_ble_eq_true rfl) ?_
  refine lp_X3_init1 (D := D) (cy := cy) hx hb hml hU hown ⟨Nat.le_of_ble_eq_true rfl, Nat.le_of_ble_eq_true rfl⟩ ⟨Nat.le_of_ble_eq_true rfl, Nat.le_of_ble_eq_true rfl⟩ (v1 := q1) hNA rfl 8 0 a1 _ _ _ rfl hb1 h (lv_sub hl [1, 0] rfl) (fun a H locs ls ha h hl => ?_)
  refine lv_aload_n hx hb dX3_init_40 rfl (lv_at hl 0 rfl) ?_
  refine lv_bipush (v := nI 12) hx hb dX3_init_41 (by decide +kernel) ?_
  refine x_newq hx hb hU hown h (t0 := 2) rfl ulX3_16 hOE (by decide) (Nat.le_of_ble_eq_true rfl) (Nat.le_of_ble_eq_true rfl) dX3_init_43 (fun q2 H h => ?_)
  have e0 : adn a 10 q2 0 = b := by rw [adn_ne _ _ (by decide)]; exact ha.1
  refine W.eq (g2 := F0 m 46 ls [.ref q2, .ref (adn a 10 q2 0)]) (by rw [e0]) ?_
  refine x_putF hx hb hU hown hin h (i := 0) (by decide) (by rw [adn_ne _ _ (by decide)]; exact entC_0 _ _ _ _ _) rfl iuX3 tx3_1 tyX3 tyX3_ok nmX3 1 (by decide) ufX3_18 rfl (v := .ref q2) rfl rfl (Nat.le_of_ble_eq_true rfl) dX3_init_46 (fun H locs h => ?_)
  generalize ha2 : adn a 10 q2 = a2 at h
  have hb2 : a2 0 = b ∧ a2 1 = q1 ∧ a2 10 = q2 := by rw [← ha2]; exact ⟨e0, by rw [adn_ne _ _ (by decide)]; exact ha.2, adn_eq _ _ _⟩
  have h : WX D (tyl cy) (11 + 2 * 0) a2 (entC cy a2 [.ref q1, .ref q2, .null, .null, .int (nI 0), .int (nI 0), .int (nI 0)] 8 0) s A H locs := by
    refine h.congr (fun i hi => ⟨rfl, ?_⟩)
    by_cases e0 : i = 0
    · subst e0; rw [adn_eq]; rfl
    · rw [adn_ne _ _ e0]
      by_cases e1 : i = 10
      · subst e1
        rw [adn_eq, entC_10]
        congr 7
      · rw [adn_ne _ _ e1]
        by_cases e2 : i = 1
        · subst e2
          rw [entC_1, entC_1]
          congr 7
          funext j
          rw [← ha2]
          by_cases e3 : j < 8
          · rw [if_pos e3, if_pos e3, adn_ne _ _ (by omega)]
          · rw [if_neg e3, if_neg e3]
        · rw [entC_A _ _ _ _ _ (by omega) (by omega), entC_A _ _ _ _ _ (by omega) (by omega)]
  clear ha2 e0
  refine lv_iconst (v := nI 0) hx hb dX3_init_49 (by decide +kernel) ?_
  refine lv_istore_n (lv' := [(1, .int (nI 0)), (0, .ref b)]) hx hb dX3_init_50 rfl hl (by decide) rfl (fun ls hl => ?_)
  refine W.widen (k := 10 + 2 * 0) (n := 68 + 19 * 0) (Nat.le_of_ble_eq_true rfl) (Nat.le_of_ble_eq_true rfl) ?_
  refine lp_X3_init2 (D := D) (cy := cy) hx hb hml hU hown ⟨Nat.le_of_ble_eq_true rfl, Nat.le_of_ble_eq_true rfl⟩ ⟨Nat.le_of_ble_eq_true rfl, Nat.le_of_ble_eq_true rfl⟩ (v1 := q1) (v10 := q2) rfl 12 0 a2 _ _ _ rfl hb2 h (lv_sub hl [1, 0] rfl) (fun a H locs ls ha h hl => ?_)
  refine lv_aload_n hx hb dX3_init_76 rfl (lv_at hl 0 rfl) ?_
  refine lv_sipush (v := nI 200) hx hb dX3_init_77 (by decide +kernel) ?_
  refine x_newi hx hb hU h (by decide) (Nat.le_of_ble_eq_true rfl) (Nat.le_of_ble_eq_true rfl) dX3_init_80 (fun q3 H h => ?_)
  have e0 : adn a 35 q3 0 = b := by rw [adn_ne _ _ (by decide)]; exact ha.1
  refine W.eq (g2 := F0 m 82 ls [.ref q3, .ref (adn a 35 q3 0)]) (by rw [e0]) ?_
  refine x_putF hx hb hU hown hin h (i := 0) (by decide) (by rw [adn_ne _ _ (by decide)]; exact entC_0 _ _ _ _ _) rfl iuX3 tx3_1 tyX3 tyX3_ok nmX3 2 (by decide) ufX3_23 rfl (v := .ref q3) rfl rfl (Nat.le_of_ble_eq_true rfl) dX3_init_82 (fun H locs h => ?_)
  refine lv_aload_n hx hb dX3_init_85 rfl (lv_at hl 0 rfl) ?_
  refine x_new (ci := 2) hx hb hU hown h rfl iuX2 tyX2 tyX2_ok ulX3_27 utX2 unX2 (fs := zK) (fun j hj => by rcases (show j = 0 ∨ j = 1 ∨ j = 2 ∨ j = 3 by omega) with rfl | rfl | rfl | rfl <;> rfl) (Nat.le_of_ble_eq_true rfl) (Nat.le_of_ble_eq_true rfl) dX3_init_86 (fun q4 H h => ?_)
  refine lv_dup hx hb dX3_init_89 rfl ?_
  generalize hW5 : adn (adn (adn (entC cy a [.ref q1, .ref q2, .null, .null, .int (nI 0), .int (nI 0), .int (nI 0)] 8 12) 35 (.inl (cy 0, 200, .inl (fun _ => nI 0)))) 0 (.inr (3, [.ref q1, .ref q2, .ref q3, .null, .int (nI 0), .int (nI 0), .int (nI 0)]))) 36 (.inr (2, zK)) = W5
  have h : WX D (tyl cy) 37 (adn (adn a 35 q3) 36 q4) W5 s A H locs := by rw [← hW5]; exact h
  refine x_callIN (S := Unit) (n' := 37) (adr' := fun _ => adn (adn a 35 q3) 36 q4) (ent' := fun _ => W5) (As := []) (rest := [.ref q4, .ref b]) hx hb hml hU hown h (c_X2_init l D (tyl cy) 37 (adn (adn a 35 q3) 36 q4) W5 q4 H.size) ⟨preW.blind, fun U hU hW => h.pre U hU hW⟩ hNK ui_X2_init unX2 uc_X2_init rfl cdK ⟨Nat.le_of_ble_eq_true rfl, Nat.le_of_ble_eq_true rfl⟩ hl.1 rfl (Nat.le_of_ble_eq_true rfl) dX3_init_90 ⟨Nat.le_of_ble_eq_true rfl, Nat.le_of_ble_eq_true rfl⟩ (fun u H locs _ h => ?_)
  have e5 : adn (adn a 35 q3) 36 q4 0 = b := by rw [adn_ne _ _ (by decide)]; exact e0
  refine W.eq (g2 := F0 m 93 ls [.ref q4, .ref (adn (adn a 35 q3) 36 q4 0)]) (by rw [e5]) ?_
  refine x_putF hx hb hU hown hin h (i := 0) (by decide) (fs := [.ref q1, .ref q2, .ref q3, .null, .int (nI 0), .int (nI 0), .int (nI 0)]) (by rw [← hW5, adn_ne _ _ (by decide), adn_eq]) rfl iuX3 tx3_1 tyX3 tyX3_ok nmX3 3 (by decide) ufX3_30 rfl (v := .ref q4) rfl rfl (Nat.le_of_ble_eq_true rfl) dX3_init_93 (fun H locs h => ?_)
  generalize ha5 : adn (adn a 35 q3) 36 q4 = a5 at h e5
  have hlow : ∀ j, j < 35 → a5 j = a j := fun j hj => by rw [← ha5, adn_ne _ _ (by omega), adn_ne _ _ (by omega)]
  have f1 : a5 1 = q1 := by rw [hlow 1 (by omega)]; exact ha.2.1
  have f10 : a5 10 = q2 := by rw [hlow 10 (by omega)]; exact ha.2.2
  have f35 : a5 35 = q3 := by rw [← ha5, adn_ne _ _ (by decide), adn_eq]
  have f36 : a5 36 = q4 := by rw [← ha5, adn_eq]
  have h : WX D (tyl cy) 37 a5 (entC cy a5 [.ref (a5 1), .ref (a5 10), .ref (a5 35), .ref (a5 36), .int (nI 0), .int (nI 0), .int (nI 0)] 8 12) s A H locs := by
    refine h.congr (fun i hi => ⟨rfl, ?_⟩)
    rw [f1, f10, f35, f36]
    by_cases e0 : i = 0
    · subst e0; rw [adn_eq]; rfl
    · rw [adn_ne _ _ e0, ← hW5]
      by_cases e1 : i = 36
      · subst e1; rw [adn_eq]; rfl
      · rw [adn_ne _ _ e1, adn_ne _ _ e0]
        by_cases e2 : i = 35
        · subst e2; rw [adn_eq]; rfl
        · rw [adn_ne _ _ e2]
          by_cases e3 : i = 1
          · subst e3
            rw [entC_1, entC_1]
            congr 7
            funext j
            by_cases e4 : j < 8
            · rw [if_pos e4, if_pos e4, hlow _ (by omega)]
            · rw [if_neg e4, if_neg e4]
          · by_cases e4 : i = 10
            · subst e4
              rw [entC_10, entC_10]
              congr 7
              funext j
              by_cases e6 : j < 12
              · rw [if_pos e6, if_pos e6, hlow _ (by omega)]
              · rw [if_neg e6, if_neg e6]
            · by_cases e6 : i < 10
              · rw [entC_A _ _ _ _ _ (by omega) e6, entC_A _ _ _ _ _ (by omega) e6]
              · by_cases e7 : i % 2 = 1
                · rw [entC_E _ _ _ _ _ (by omega) (by omega) e7, entC_E _ _ _ _ _ (by omega) (by omega) e7, hlow _ (by omega)]
                · rw [entC_R _ _ _ _ _ (by omega) (by omega) e7, entC_R _ _ _ _ _ (by omega) (by omega) e7]
  have h := h.permc pT (tC_end (D := D) (cy := cy) (a := a5)) pT_inj
  refine W.widen (k := 36) (n := 500) (Nat.le_of_ble_eq_true rfl) (Nat.le_of_ble_eq_true rfl) ?_
  exact W.vret hx hb hr (fun t ht hW => ⟨⟨a5, rfl, e5, h.at ht hW⟩, h.2.2.2.2.F ht⟩) h.2.2.2.2.2.2 dX3_init_96
