/-! ===== TokenFlow() ===== -/
def entC (cy : Nat → ClassId) (a : Nat → Nat) (g : List Value) (nA nE : Nat) : Nat → va_E := fun i =>
  if i = 0 then .inr (3, g) else
  if i = 1 then .inl (cy 1, 8, .inr (.inr (.inr (.inr (fun j => if j < nA then some (a (2 + j)) else none))))) else
  if i < 10 then .inr (0, zA) else
  if i = 10 then .inl (cy 2, 12, .inr (.inr (.inr (.inr (fun j => if j < nE then some (a (11 + 2 * j)) else none))))) else
  if i < 35 then (if i % 2 = 1 then .inr (1, zE (.ref (a (i + 1)))) else zR (cy 0) 9) else
  if i = 35 then zR (cy 0) 200 else .inr (2, zK)
theorem entC_0 (cy : Nat → ClassId) (a : Nat → Nat) (g : List Value) (nA nE : Nat) : entC cy a g nA nE 0 = .inr (3, g) := rfl
theorem entC_1 (cy : Nat → ClassId) (a : Nat → Nat) (g : List Value) (nA nE : Nat) : entC cy a g nA nE 1 = .inl (cy 1, 8, .inr (.inr (.inr (.inr (fun j => if j < nA then some (a (2 + j)) else none))))) := rfl
theorem entC_A (cy : Nat → ClassId) (a : Nat → Nat) (g : List Value) (nA nE : Nat) {i : Nat} (h1 : 2 ≤ i) (h2 : i < 10) : entC cy a g nA nE i = .inr (0, zA) := by
  unfold entC; rw [if_neg (by omega), if_neg (by omega), if_pos h2]
theorem entC_10 (cy : Nat → ClassId) (a : Nat → Nat) (g : List Value) (nA nE : Nat) : entC cy a g nA nE 10 = .inl (cy 2, 12, .inr (.inr (.inr (.inr (fun j => if j < nE then some (a (11 + 2 * j)) else none))))) := rfl
theorem entC_E (cy : Nat → ClassId) (a : Nat → Nat) (g : List Value) (nA nE : Nat) {i : Nat} (h1 : 11 ≤ i) (h2 : i < 35) (h3 : i % 2 = 1) : entC cy a g nA nE i = .inr (1, zE (.ref (a (i + 1)))) := by
  unfold entC; rw [if_neg (by omega), if_neg (by omega), if_neg (by omega), if_neg (by omega), if_pos h2, if_pos h3]
theorem entC_R (cy : Nat → ClassId) (a : Nat → Nat) (g : List Value) (nA nE : Nat) {i : Nat} (h1 : 11 ≤ i) (h2 : i < 35) (h3 : i % 2 ≠ 1) : entC cy a g nA nE i = zR (cy 0) 9 := by
  unfold entC; rw [if_neg (by omega), if_neg (by omega), if_neg (by omega), if_neg (by omega), if_pos h2, if_neg h3]
theorem entC_35 (cy : Nat → ClassId) (a : Nat → Nat) (g : List Value) (nA nE : Nat) : entC cy a g nA nE 35 = zR (cy 0) 200 := rfl
theorem entC_36 (cy : Nat → ClassId) (a : Nat → Nat) (g : List Value) (nA nE : Nat) : entC cy a g nA nE 36 = .inr (2, zK) := rfl
/-- a cell that does not see what changed -/
theorem entC_same {cy : Nat → ClassId} {a a' : Nat → Nat} {g : List Value} {nA nE nA' nE' : Nat} {i : Nat} (h : ∀ j, j < i + 2 → a j = a' j) (h0 : i ≠ 0) (h1 : i ≠ 1) (h10 : i ≠ 10) : entC cy a g nA nE i = entC cy a' g nA' nE' i := by
  unfold entC
  rw [if_neg h0, if_neg h0, if_neg h1, if_neg h1, if_neg h10, if_neg h10, h (i + 1) (by omega)]
theorem stepA {cy : Nat → ClassId} {a : Nat → Nat} {g : List Value} {n q : Nat} (hn : n < 8) : ∀ i, i < 2 + n + 1 → adn a (2 + n) q i = adn a (2 + n) q i ∧ adn (adn (entC cy a g n 0) (2 + n) (.inr (0, zA))) 1 (.inl (cy 1, 8, .inr (.inr (.inr (.inr (va_up (fun j => if j < n then some (a (2 + j)) else none) n (some q))))))) i = entC cy (adn a (2 + n) q) g (n + 1) 0 i := by
  intro i hi
  refine ⟨rfl, ?_⟩
  by_cases e1 : i = 1
  · subst e1
    rw [adn_eq, entC_1]
    have : va_up (fun j => if j < n then some (a (2 + j)) else none) n (some q) = fun j => if j < n + 1 then some (adn a (2 + n) q (2 + j)) else none := by
      funext j
      unfold va_up
      by_cases e2 : j = n
      · subst e2; rw [if_pos rfl, if_pos (by omega), adn_eq]
      · rw [if_neg e2, adn_ne a q (by omega)]
        dsimp only
        by_cases e3 : j < n
        · rw [if_pos e3, if_pos (by omega)]
        · rw [if_neg e3, if_neg (by omega)]
    rw [this]
  · rw [adn_ne _ _ e1]
    by_cases e2 : i = 2 + n
    · subst e2
      rw [adn_eq, entC_A _ _ _ _ _ (by omega) (by omega)]
    · rw [adn_ne _ _ e2]
      by_cases e0 : i = 0
      · subst e0; rfl
      · rw [entC_A _ _ _ _ _ (by omega) (by omega), entC_A _ _ _ _ _ (by omega) (by omega)]
theorem stepE {cy : Nat → ClassId} {a : Nat → Nat} {g : List Value} {n q r : Nat} (hn : n < 12) : ∀ i, i < 11 + 2 * n + 1 + 1 → adn (adn a (11 + 2 * n) q) (11 + 2 * n + 1) r i = adn (adn a (11 + 2 * n) q) (11 + 2 * n + 1) r i ∧ adn (adn (adn (adn (entC cy a g 8 n) (11 + 2 * n) (.inr (1, zE .null))) (11 + 2 * n + 1) (zR (cy 0) 9)) (11 + 2 * n) (.inr (1, zE (.ref r)))) 10 (.inl (cy 2, 12, .inr (.inr (.inr (.inr (va_up (fun j => if j < n then some (a (11 + 2 * j)) else none) n (some q))))))) i = entC cy (adn (adn a (11 + 2 * n) q) (11 + 2 * n + 1) r) g 8 (n + 1) i := by
  intro i hi
  refine ⟨rfl, ?_⟩
  have ha : ∀ j, j < 11 + 2 * n → a j = adn (adn a (11 + 2 * n) q) (11 + 2 * n + 1) r j := fun j hj => by rw [adn_ne _ _ (by omega), adn_ne _ _ (by omega)]
  by_cases e1 : i = 10
  · subst e1
    rw [adn_eq, entC_10]
    have : va_up (fun j => if j < n then some (a (11 + 2 * j)) else none) n (some q) = fun j => if j < n + 1 then some (adn (adn a (11 + 2 * n) q) (11 + 2 * n + 1) r (11 + 2 * j)) else none := by
      funext j
      unfold va_up
      by_cases e2 : j = n
      · subst e2; rw [if_pos rfl, if_pos (by omega), adn_ne _ _ (by omega), adn_eq]
      · rw [if_neg e2]
        dsimp only
        by_cases e3 : j < n
        · rw [if_pos e3, if_pos (by omega), ← ha _ (by omega)]
        · rw [if_neg e3, if_neg (by omega)]
    rw [this]
  · rw [adn_ne _ _ e1]
    by_cases e2 : i = 11 + 2 * n
    · subst e2
      rw [adn_eq, entC_E _ _ _ _ _ (by omega) (by omega) (by omega), adn_eq]
    · rw [adn_ne _ _ e2]
      by_cases e3 : i = 11 + 2 * n + 1
      · subst e3
        rw [adn_eq, entC_R _ _ _ _ _ (by omega) (by omega) (by omega)]
      · rw [adn_ne _ _ e3, adn_ne _ _ e2]
        by_cases e0 : i = 0
        · subst e0; rfl
        · by_cases e4 : i = 1
          · subst e4
            rw [entC_1, entC_1]
            have : (fun j => if j < 8 then some (a (2 + j)) else none) = fun j => if j < 8 then some (adn (adn a (11 + 2 * n) q) (11 + 2 * n + 1) r (2 + j)) else none := by
              funext j
              by_cases e5 : j < 8
              · rw [if_pos e5, if_pos e5, ← ha _ (by omega)]
              · rw [if_neg e5, if_neg e5]
            rw [this]
          · by_cases e6 : i < 10
            · rw [entC_A _ _ _ _ _ (by omega) e6, entC_A _ _ _ _ _ (by omega) e6]
            · by_cases e7 : i % 2 = 1
              · rw [entC_E _ _ _ _ _ (by omega) (by omega) e7, entC_E _ _ _ _ _ (by omega) (by omega) e7, ← ha _ (by omega)]
              · rw [entC_R _ _ _ _ _ (by omega) (by omega) e7, entC_R _ _ _ _ _ (by omega) (by omega) e7]
theorem cdA : yX0_init.cls ≠ "java/lang/invoke/MethodHandle" ∧ yX0_init.cls ≠ "java/lang/invoke/VarHandle" ∧ (parseMethodDescriptor yX0_init.desc).map (fun d => d.parameters.length) = some 0 := by decide +kernel
theorem cdE : yX1_init.cls ≠ "java/lang/invoke/MethodHandle" ∧ yX1_init.cls ≠ "java/lang/invoke/VarHandle" ∧ (parseMethodDescriptor yX1_init.desc).map (fun d => d.parameters.length) = some 0 := by decide +kernel
theorem cdK : yX2_init.cls ≠ "java/lang/invoke/MethodHandle" ∧ yX2_init.cls ≠ "java/lang/invoke/VarHandle" ∧ (parseMethodDescriptor yX2_init.desc).map (fun d => d.parameters.length) = some 0 := by decide +kernel
abbrev nwA : Cond := .methodLinkNest RX3 15 yX0_init RX3
abbrev nwK : Cond := .methodLinkNest RX3 29 yX2_init RX3
set_option maxRecDepth 100000 in
set_option maxHeartbeats 4000000 in
theorem lp_X3_init1 {p : Program} {l : Launch} {ev : Env} {R : Room} {s : State} {m : MethodId} {args : Array Value} {below : List Frame} {meth : Method} {c : Code} {Q : State → Prop} {D : va_G} {cy : Nat → ClassId} {A : Nat → Prop} (hx : p.tables.exec = Jvm.exec) (hb : c.code = cX3_init) (hml : c.maxLocals = 2) (hU : ∀ w ∈ UW, w.before args s = true) (hown : s.vm.findClass RX3 = some m.cls) (hR : 2 ≤ R.frames ∧ 52 ≤ R.locals) (hcs : 36 ≤ R.cells ∧ 500 ≤ R.slots) {cy : Nat → ClassId} {g : List Value} {b v1 : Nat} (hN : va_Nw nwA s) (hg : g[0]? = some (.ref v1)) :
    ∀ (k n : Nat) (a : Nat → Nat) (H : Heap) (locs : List Loc) (ls : Array Slot), n + k = 8 → a 0 = b ∧ a 1 = v1 → WX D (tyl cy) (2 + n) a (entC cy a g n 0) s A H locs → lv_has ls 2 [(0, .ref b), (1, .int (nI n))] → (∀ (a : Nat → Nat) (H : Heap) (locs : List Loc) (ls : Array Slot), a 0 = b ∧ a 1 = v1 → WX D (tyl cy) 10 a (entC cy a g 8 0) s A H locs → lv_has ls 2 [(0, .ref b)] → W p l ev R s m args below meth c H locs 9 56 Q (F0 m 40 ls [])) → W p l ev R s m args below meth c H locs (1 + n) (8 + 6 * n) Q (F0 m 15 ls []) := by
  intro k
  induction k with
  | zero =>
    intro n a H locs ls hn ha h hl K
    obtain rfl : n = 8 := by omega
    refine lv_iload_n hx hb dX3_init_15 rfl (lv_at hl 1 rfl) ?_
    refine lv_bipush (v := nI 8) hx hb dX3_init_16 (by decide +kernel) ?_
    refine n_icmp_ge (tgt := 40) hx hb (by omega) (by omega) dX3_init_18 (by decide) (fun c_18 => ?_) (fun c_18 => absurd c_18 (by omega))
    exact K a H locs ls ha h (lv_sub hl [0] rfl)
  | succ k ih =>
    intro n a H locs ls hn ha h hl K
    refine lv_iload_n hx hb dX3_init_15 rfl (lv_at hl 1 rfl) ?_
    refine lv_bipush (v := nI 8) hx hb dX3_init_16 (by decide +kernel) ?_
    refine n_icmp_ge (tgt := 40) hx hb (by omega) (by omega) dX3_init_18 (by decide) (fun c_18 => absurd c_18 (by omega)) (fun c_18 => ?_)
    refine lv_aload_n hx hb dX3_init_21 rfl (lv_at hl 0 rfl) ?_
    refine W.eq (g2 := F0 m 22 ls [.ref (a 0)]) (by rw [ha.1]) ?_
    refine x_get hx hb hU hown h (i := 0) (by omega) rfl rfl iuX3 tx3_1 0 (by decide) ufX3_11 hg dX3_init_22 ?_
    refine W.eq (g2 := F0 m 25 ls [.ref (a 1)]) (by rw [ha.2]) ?_
    refine lv_iload_n hx hb dX3_init_25 rfl (lv_at hl 1 rfl) ?_
    refine x_new (ci := 0) hx hb hU hown h rfl iuX0 tyX0 tyX0_ok ulX3_9 utX0 unX0 (fs := zA) (fun j hj => by rcases (show j = 0 ∨ j = 1 ∨ j = 2 ∨ j = 3 ∨ j = 4 ∨ j = 5 by omega) with rfl | rfl | rfl | rfl | rfl | rfl <;> rfl) (by omega) (by omega) dX3_init_26 (fun q H h => ?_)
    refine lv_dup hx hb dX3_init_29 rfl ?_
    refine x_callIN (n' := 2 + n + 1) (adr' := fun _ => adn a (2 + n) q) (ent' := fun _ => adn (entC cy a g n 0) (2 + n) (.inr (0, zA))) (As := []) (rest := [.ref q, .int (nI n), .ref (a 1)]) hx hb hml hU hown h (c_X0_init l D (tyl cy) (2 + n + 1) (adn a (2 + n) q) (adn (entC cy a g n 0) (2 + n) (.inr (0, zA))) q H.size) ⟨preW.blind, fun U hU hW => h.pre U hU hW⟩ hN ui_X0_init unX0 uc_X0_init rfl cdA ⟨hR.1, hR.2⟩ hl.1 rfl (Nat.le_of_ble_eq_true rfl) dX3_init_30 ⟨by show 1 + n + 1 + 0 ≤ _; omega, by show 8 + 6 * n + 6 + 0 ≤ _; omega⟩ (fun u H locs _ h => ?_)
    have e1 : adn a (2 + n) q 1 = a 1 := adn_ne a q (by omega)
    refine W.eq (g2 := F0 m 33 ls [.ref q, .int (nI n), .ref (adn a (2 + n) q 1)]) (by rw [e1]) ?_
    refine x_aast hx hb h (i := 1) (j := n) (k := 2 + n) (t0 := 1) (ci := 0) (r := (RX0, TX0, 6)) (by omega) (by rw [adn_ne _ _ (by omega)]; exact entC_1 _ _ _ _ _) rfl (by omega) (adn_eq _ _ _) rfl (by omega) (by decide) (adn_eq _ _ _) dX3_init_33 (fun H locs h => ?_)
    refine lv_iinc (v := nI (n + 1)) (lv' := [(1, .int (nI (n + 1))), (0, .ref b)]) hx hb dX3_init_34 hl (k := 1) rfl (by rw [← nI_add]; rfl) (by decide) rfl (fun ls hl => ?_)
    refine lv_goto (tgt := 15) hx hb dX3_init_37 (by decide) ?_
    refine W.widen (k := 1 + (n + 1)) (n := 8 + 6 * (n + 1)) (by show 1 + n + 1 + 0 ≤ _; omega) (by show 8 + 6 * n + 6 + 0 ≤ _; omega) ?_
    exact ih (n + 1) (adn a (2 + n) q) _ _ _ (by omega) ⟨by rw [adn_ne a q (by omega)]; exact ha.1, by rw [e1]; exact ha.2⟩ (h.congr (stepA (by omega))) (lv_sub hl [1, 0] rfl) K
set_option maxRecDepth 100000 in
set_option maxHeartbeats 4000000 in
theorem lp_X3_init2 {p : Program} {l : Launch} {ev : Env} {R : Room} {s : State} {m : MethodId} {args : Array Value} {below : List Frame} {meth : Method} {c : Code} {Q : State → Prop} {D : va_G} {cy : Nat → ClassId} {A : Nat → Prop} (hx : p.tables.exec = Jvm.exec) (hb : c.code = cX3_init) (hml : c.maxLocals = 2) (hU : ∀ w ∈ UW, w.before args s = true) (hown : s.vm.findClass RX3 = some m.cls) (hR : 2 ≤ R.frames ∧ 52 ≤ R.locals) (hcs : 36 ≤ R.cells ∧ 500 ≤ R.slots) {cy : Nat → ClassId} {g : List Value} {b v1 v10 : Nat} (hg : g[1]? = some (.ref v10)) :
    ∀ (k n : Nat) (a : Nat → Nat) (H : Heap) (locs : List Loc) (ls : Array Slot), n + k = 12 → a 0 = b ∧ a 1 = v1 ∧ a 10 = v10 → WX D (tyl cy) (11 + 2 * n) a (entC cy a g 8 n) s A H locs → lv_has ls 2 [(0, .ref b), (1, .int (nI n))] → (∀ (a : Nat → Nat) (H : Heap) (locs : List Loc) (ls : Array Slot), a 0 = b ∧ a 1 = v1 ∧ a 10 = v10 → WX D (tyl cy) 35 a (entC cy a g 8 12) s A H locs → lv_has ls 2 [(0, .ref b)] → W p l ev R s m args below meth c H locs 34 296 Q (F0 m 76 ls [])) → W p l ev R s m args below meth c H locs (10 + 2 * n) (68 + 19 * n) Q (F0 m 51 ls []) := by
  intro k
  induction k with
  | zero =>
    intro n a H locs ls hn ha h hl K
    obtain rfl : n = 12 := by omega
    refine lv_iload_n hx hb dX3_init_51 rfl (lv_at hl 1 rfl) ?_
    refine lv_bipush (v := nI 12) hx hb dX3_init_52 (by decide +kernel) ?_
    refine n_icmp_ge (tgt := 76) hx hb (by omega) (by omega) dX3_init_54 (by decide) (fun c_54 => ?_) (fun c_54 => absurd c_54 (by omega))
    exact K a H locs ls ha h (lv_sub hl [0] rfl)
  | succ k ih =>
    intro n a H locs ls hn ha h hl K
    refine lv_iload_n hx hb dX3_init_51 rfl (lv_at hl 1 rfl) ?_
    refine lv_bipush (v := nI 12) hx hb dX3_init_52 (by decide +kernel) ?_
    refine n_icmp_ge (tgt := 76) hx hb (by omega) (by omega) dX3_init_54 (by decide) (fun c_54 => absurd c_54 (by omega)) (fun c_54 => ?_)
    refine lv_aload_n hx hb dX3_init_57 rfl (lv_at hl 0 rfl) ?_
    refine W.eq (g2 := F0 m 58 ls [.ref (a 0)]) (by rw [ha.1]) ?_
    refine x_get hx hb hU hown h (i := 0) (by omega) rfl rfl iuX3 tx3_1 1 (by decide) ufX3_18 hg dX3_init_58 ?_
    refine W.eq (g2 := F0 m 61 ls [.ref (a 10)]) (by rw [ha.2.2]) ?_
    refine lv_iload_n hx hb dX3_init_61 rfl (lv_at hl 1 rfl) ?_
    refine x_new (ci := 1) hx hb hU hown h rfl iuX1 tyX1 tyX1_ok ulX3_16 utX1 unX1 (fs := zE .null) (fun j hj => by rcases (show j = 0 ∨ j = 1 ∨ j = 2 ∨ j = 3 ∨ j = 4 ∨ j = 5 ∨ j = 6 ∨ j = 7 ∨ j = 8 ∨ j = 9 by omega) with rfl | rfl | rfl | rfl | rfl | rfl | rfl | rfl | rfl | rfl <;> rfl) (by omega) (by omega) dX3_init_62 (fun q H h => ?_)
    refine lv_dup hx hb dX3_init_65 rfl ?_
    refine x_callI (n' := 11 + 2 * n + 1 + 1) (As := []) (rest := [.ref q, .int (nI n), .ref (a 10)]) hx hb hml hU hown h (c_X1_init l D cy (11 + 2 * n + 1) (adn a (11 + 2 * n) q) (adn (entC cy a g 8 n) (11 + 2 * n) (.inr (1, zE .null))) (11 + 2 * n) q H.size (by omega) (adn_eq _ _ _) (adn_eq _ _ _)) ⟨preW.blind, fun U hU hW => h.pre U hU hW⟩ umX3_22 ui_X1_init unX1 uc_X1_init rfl cdE ⟨hR.1, hR.2⟩ hl.1 rfl (Nat.le_of_ble_eq_true rfl) dX3_init_66 ⟨by show 10 + 2 * n + 1 + 1 ≤ _; omega, by show 68 + 19 * n + 10 + 9 ≤ _; omega⟩ (fun r H locs _ h => ?_)
    have ea : ∀ j, j < 11 + 2 * n → adn (adn a (11 + 2 * n) q) (11 + 2 * n + 1) r j = a j := fun j hj => by rw [adn_ne _ _ (by omega), adn_ne _ _ (by omega)]
    refine W.eq (g2 := F0 m 69 ls [.ref q, .int (nI n), .ref (adn (adn a (11 + 2 * n) q) (11 + 2 * n + 1) r 10)]) (by rw [ea 10 (by omega)]) ?_
    refine x_aast hx hb h (i := 10) (j := n) (k := 11 + 2 * n) (t0 := 2) (ci := 1) (r := (RX1, TX1, 10)) (by omega) (by rw [adn_ne _ _ (by omega), adn_ne _ _ (by omega), adn_ne _ _ (by omega)]; exact entC_10 _ _ _ _ _) rfl (by omega) (adn_eq _ _ _) rfl (by omega) (by decide) (by rw [adn_ne _ _ (by omega), adn_eq]) dX3_init_69 (fun H locs h => ?_)
    refine lv_iinc (v := nI (n + 1)) (lv' := [(1, .int (nI (n + 1))), (0, .ref b)]) hx hb dX3_init_70 hl (k := 1) rfl (by rw [← nI_add]; rfl) (by decide) rfl (fun ls hl => ?_)
    refine lv_goto (tgt := 51) hx hb dX3_init_73 (by decide) ?_
    refine W.widen (k := 10 + 2 * (n + 1)) (n := 68 + 19 * (n + 1)) (by show 10 + 2 * n + 1 + 1 ≤ _; omega) (by show 68 + 19 * n + 10 + 9 ≤ _; omega) ?_
    exact ih (n + 1) (adn (adn a (11 + 2 * n) q) (11 + 2 * n + 1) r) _ _ _ (by omega) ⟨by rw [ea 0 (by omega)]; exact ha.1, by rw [ea 1 (by omega)]; exact ha.2.1, by rw [ea 10 (by omega)]; exact ha.2.2⟩ (h.congr (stepE (by omega))) (lv_sub hl [1, 0] rfl) K
