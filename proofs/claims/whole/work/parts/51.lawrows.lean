/-! THE CLAIM OUT OF ONE WALK OF THE LAW'S BODY. Your part is whole_start (and what it stands on); all else here is the same for every law, but numbers. -/
def R_law : String := "TokenFlowLaw"
def lw_P (b : Addr) (xs : List Int32) (args : Array Value) (s : State) : Prop := args = #[.ref b] ∧ s.IntsAt b xs ∧ xs.length ≤ 3072 ∧ (Jvm.Cond.and given_1 narrow_1).before args s = true
def lw_Q (_ : Array Value) (s : State) (o : Outcome) (t : State) : Prop := o = .returned (some (.int 1)) ∧ Framed s o t [] 601024 7293034
def lw_Z (below : List Frame) (a : Array Value) (s : State) : State → Prop := fun t => ∃ o, t.status = .running ∧ Ended t below o ∧ lw_Q a s o t
/-- the law's own end, with 1 on the stack, nothing written that was there before, its room as the claim has it -/
theorem lw_ret {p : Program} {l : Launch} {e : Env} {s : State} {m : MethodId} {below : List Frame} {meth : Method} {c : Code} {b : Nat} (hx : p.tables.exec = Jvm.exec) (hb : c.code = code) (hr : meth.sig.returnType = ret) (hlocks : meth.locks = false) {pc : Nat} {H : Heap} {ls : Array Slot} (hdg : decode code pc = .ok (.ireturn, 1)) : W p l e room_1 s m #[Value.ref b] below meth c H [] 601024 7293034 (lw_Z below #[Value.ref b] s) (F0 m pc ls [.int 1]) := by
  intro T hT X
  obtain ⟨fs, hret, hrun, hended, hW, hframe⟩ := X.leave (v := some (.int 1)) (hlocks := hlocks) (fun h => by rw [hr] at h; cases h)
  have hmeth' : T.vm.method? m = some meth := X.method'
  refine ⟨T.setFrames fs, ?_, .returned (some (.int 1)), hrun, hended, rfl, ⟨_, rfl⟩, hW, hframe⟩
  jvm_step X.here [X.here.top, hx, hb, hdg, hmeth', hr, ret, narrow_b1]
  (try refine ⟨rfl, ?_⟩); (try refine ⟨rfl, ?_⟩)
  first | (intro acts; rw [hret _ acts rfl rfl rfl]) | rw [hret _ _ rfl rfl rfl]
  exact Steps.refl _
/-- what holds at the law's entry: the machine, the code, the tables' words (any of lw_tbl by 'hts w (by decide +kernel)'), the script of L ints xs at the cell b, what the Statement gives of the start (any of its parts by flat_of_before) -/
def lw_At (p : Program) (s : State) (m : MethodId) (meth : Method) (c : Code) (b L : Nat) (xs : Nat → Int32) : Prop :=
  p.tables.exec = Jvm.exec ∧ c.code = code ∧ meth.sig.returnType = ret ∧ c.maxLocals = 7 ∧ s.vm.findClass R_law = some m.cls ∧ (∀ w ∈ lw_tbl, w.before #[Value.ref b] s = true) ∧ va_X b L xs s s.heap ∧ b < s.heap.size ∧ meth.locks = false ∧ (Jvm.Cond.and given_1 narrow_1).before #[Value.ref b] s = true
/-! ===== the law's own rows ===== -/
abbrev lA (s : State) : Nat → Prop := fun q => s.heap.size ≤ q
abbrev wT (cy : Nat → ClassId) (ad : Nat → Nat) (σ : TS) : va_W := wv 37 (adrT ad σ) (entT cy ad σ)
abbrev wM (cy : Nat → ClassId) (bd : Nat → Nat) (μ : MS) : va_W := wv 21 bd (entM cy bd μ)
abbrev LX (D : va_G) (cy : Nat → ClassId) (ad bd : Nat → Nat) (o : Nat) (s : State) (H : Heap) (locs : List Loc) (σ : TS) (μ : MS) (v : Int64) : Prop := WY D (tyl cy) (wT cy ad σ ++ (wM cy bd μ ++ [(o, oE cy v)])) s (lA s) H locs
abbrev LM (D : va_G) (cy : Nat → ClassId) (ad bd : Nat → Nat) (o : Nat) (s : State) (H : Heap) (locs : List Loc) (σ : TS) (μ : MS) (v : Int64) : Prop := WY D (tyl cy) (wM cy bd μ ++ (wT cy ad σ ++ [(o, oE cy v)])) s (lA s) H locs
abbrev LO (D : va_G) (cy : Nat → ClassId) (ad bd : Nat → Nat) (o : Nat) (s : State) (H : Heap) (locs : List Loc) (σ : TS) (μ : MS) (v : Int64) : Prop := WY D (tyl cy) (wv 38 (adn (adrT ad σ) 37 o) (adn (entT cy ad σ) 37 (oE cy v)) ++ (wM cy bd μ ++ [])) s (lA s) H locs
theorem LM.toO {D : va_G} {cy : Nat → ClassId} {ad bd : Nat → Nat} {o : Nat} {s : State} {H : Heap} {locs : List Loc} {σ : TS} {μ : MS} {v : Int64} (h : LM D cy ad bd o s H locs σ μ v) : LO D cy ad bd o s H locs σ μ v := by
  have h1 : WY D (tyl cy) (wM cy bd μ ++ (wv 38 (adn (adrT ad σ) 37 o) (adn (entT cy ad σ) 37 (oE cy v)) ++ [])) s (lA s) H locs := by
    rw [List.append_nil, ← wv_push]; exact h
  exact h1.swap
theorem LO.toM {D : va_G} {cy : Nat → ClassId} {ad bd : Nat → Nat} {o : Nat} {s : State} {H : Heap} {locs : List Loc} {σ : TS} {μ : MS} {v : Int64} (h : LO D cy ad bd o s H locs σ μ v) : LM D cy ad bd o s H locs σ μ v := by
  have h1 := WY.swap h
  rw [List.append_nil, ← wv_push] at h1
  exact h1
theorem kout16 {x : Int32} (h : ∀ k : Nat, k ≤ 16 → ¬ x = nI k) : x.toInt < 0 ∨ 16 < x.toInt := by
  by_cases h0 : x.toInt < 0
  · exact Or.inl h0
  · by_cases h1 : 16 < x.toInt
    · exact Or.inr h1
    · exfalso
      refine h x.toInt.toNat (by omega) ?_
      apply Int32.toInt_inj.mp
      rw [nI_toInt (by omega)]
      omega
section LawRows
variable {p : Program} {l : Launch} {e : Env} {R : Room} {s : State} {m : MethodId} {args : Array Value} {below : List Frame} {meth : Method} {c : Code} {H : Heap} {locs : List Loc} {cells slots : Nat} {Q : State → Prop}
variable {cc : ByteArray} {pc : Nat} {ls : Array Slot} {rest : List Value} {D : va_G} {tys : List (ClassId × FieldType)} {ws : va_W}
theorem s_ld (hx : p.tables.exec = Jvm.exec) (hb : c.code = cc) {b L : Nat} {xs : Nat → Int32} (hX : va_X b L xs s s.heap) (hbl : b < s.heap.size) (h : WY D tys ws s (lA s) H locs) {j : Nat} (hj : j < L) (hL : L ≤ 3072) (hdg : decode cc pc = .ok (.iaload, 1))
    (kk : W p l e R s m args below meth c H locs cells slots Q (F0 m (pc + 1) ls (.int (xs j) :: rest))) : W p l e R s m args below meth c H locs cells slots Q (F0 m pc ls (.int (nI j) :: .ref b :: rest)) := by
  refine va_sld hx hb hX hbl (A := lA s) (Nat.not_le.mpr hbl) h.2.2.2.2 (vp_in_nI hj (by omega)) hdg ?_
  rw [nI_clamp (by omega)]
  exact kk
theorem s_len (hx : p.tables.exec = Jvm.exec) (hb : c.code = cc) {b L : Nat} {xs : Nat → Int32} (hX : va_X b L xs s s.heap) (hbl : b < s.heap.size) (h : WY D tys ws s (lA s) H locs) (hdg : decode cc pc = .ok (.arraylength, 1))
    (kk : W p l e R s m args below meth c H locs cells slots Q (F0 m (pc + 1) ls (.int (nI L) :: rest))) : W p l e R s m args below meth c H locs cells slots Q (F0 m pc ls (.ref b :: rest)) :=
  va_slen hx hb hX hbl (A := lA s) (Nat.not_le.mpr hbl) h.2.2.2.2 hdg kk
theorem s_out (hx : p.tables.exec = Jvm.exec) (hb : c.code = cc) {cy : Nat → ClassId} {ad bd : Nat → Nat} {o : Nat} {σ : TS} {μ : MS} {v : Int64} (h : LX D cy ad bd o s H locs σ μ v) (hdg : decode cc pc = .ok (.laload, 1))
    (kk : W p l e R s m args below meth c H locs cells slots Q (F0 m (pc + 1) ls (.long v :: rest))) : W p l e R s m args below meth c H locs cells slots Q (F0 m pc ls (.int (nI 0) :: .ref o :: rest)) := by
  refine va_lald hx hb h.1 h.2.2.1 58 3 (a := o) (n := 1) (f := fun j => if j = 0 then v else lN 0) ?_ rfl (vp_in_nI (by decide) (by decide)) hdg ?_
  · rw [List.getElem?_append_right (by rw [wv_len]; decide), wv_len, List.getElem?_append_right (by rw [wv_len]; decide), wv_len]
    rfl
  · rw [nI_clamp (by decide)]
    exact kk
end LawRows
