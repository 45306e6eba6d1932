/-! ===== what a throw needs of the state ===== -/
abbrev nm2 : List String := ["java/lang/RuntimeException", "java/lang/Exception"]
abbrev xISE : String := "java/lang/IllegalStateException"
abbrev xAE : String := "java/lang/ArithmeticException"
abbrev xUOE : String := "java/lang/UnsupportedOperationException"
abbrev xNSEE : String := "java/util/NoSuchElementException"
abbrev xIAE : String := "java/lang/IllegalArgumentException"
def BW : List Cond := [.castable xISE xISE, .castable xAE xAE, .castable xUOE xUOE, .castable xNSEE xNSEE, .castable xIAE xIAE, .declares (Bundle.initS "java/lang/RuntimeException"), .declares (Bundle.initS "java/lang/Exception"), .declares (Bundle.initS Bundle.tN)]
theorem bw_ot : ∀ w ∈ BW, w.onTables = true := by decide +kernel
theorem bw_in : ∀ w ∈ BW, w ∈ tables_1 := by decide +kernel
theorem at_ISE0 : ∀ w ∈ (vx_atS RX3 95 xISE nm2).filter goodWord, w ∈ lw_tbl := by decide +kernel
theorem at_ISE : ∀ w ∈ (vx_atS RX3 95 xISE nm2).filter goodWord, w ∈ UW := fun w h => List.mem_filter.mpr ⟨at_ISE0 w h, (List.mem_filter.mp h).2⟩
theorem nb_ISE : ∀ w ∈ (vx_atS RX3 95 xISE nm2).filter (fun w => !goodWord w), w ∈ BW := by decide +kernel
theorem og_ISE : ∀ w ∈ Cond.classLink RX3 91 xISE :: Cond.initialized xISE :: vx_atS RX3 95 xISE nm2, vx_ot w = true := by decide +kernel
theorem at_AE0 : ∀ w ∈ (vx_atS RX3 105 xAE nm2).filter goodWord, w ∈ lw_tbl := by decide +kernel
theorem at_AE : ∀ w ∈ (vx_atS RX3 105 xAE nm2).filter goodWord, w ∈ UW := fun w h => List.mem_filter.mpr ⟨at_AE0 w h, (List.mem_filter.mp h).2⟩
theorem nb_AE : ∀ w ∈ (vx_atS RX3 105 xAE nm2).filter (fun w => !goodWord w), w ∈ BW := by decide +kernel
theorem og_AE : ∀ w ∈ Cond.classLink RX3 101 xAE :: Cond.initialized xAE :: vx_atS RX3 105 xAE nm2, vx_ot w = true := by decide +kernel
theorem at_UOE0 : ∀ w ∈ (vx_atS RX3 119 xUOE nm2).filter goodWord, w ∈ lw_tbl := by decide +kernel
theorem at_UOE : ∀ w ∈ (vx_atS RX3 119 xUOE nm2).filter goodWord, w ∈ UW := fun w h => List.mem_filter.mpr ⟨at_UOE0 w h, (List.mem_filter.mp h).2⟩
theorem nb_UOE : ∀ w ∈ (vx_atS RX3 119 xUOE nm2).filter (fun w => !goodWord w), w ∈ BW := by decide +kernel
theorem og_UOE : ∀ w ∈ Cond.classLink RX3 115 xUOE :: Cond.initialized xUOE :: vx_atS RX3 119 xUOE nm2, vx_ot w = true := by decide +kernel
theorem at_IAE0 : ∀ w ∈ (vx_atS RX3 144 xIAE nm2).filter goodWord, w ∈ lw_tbl := by decide +kernel
theorem at_IAE : ∀ w ∈ (vx_atS RX3 144 xIAE nm2).filter goodWord, w ∈ UW := fun w h => List.mem_filter.mpr ⟨at_IAE0 w h, (List.mem_filter.mp h).2⟩
theorem nb_IAE : ∀ w ∈ (vx_atS RX3 144 xIAE nm2).filter (fun w => !goodWord w), w ∈ BW := by decide +kernel
theorem og_IAE : ∀ w ∈ Cond.classLink RX3 140 xIAE :: Cond.initialized xIAE :: vx_atS RX3 144 xIAE nm2, vx_ot w = true := by decide +kernel
abbrev rxN : ByteArray := prog_16_method_4_code
theorem rxN_0 : decode rxN 0 = .ok (.aload_n 0, 1) := by decide +kernel
theorem rxN_1 : decode rxN 1 = .ok (.aload_n 1, 1) := by decide +kernel
theorem rxN_2 : decode rxN 2 = .ok (.invokespecial 13, 3) := by decide +kernel
theorem rxN_5 : decode rxN 5 = .ok (.return_, 1) := by decide +kernel
theorem at_NSEE0 : ∀ w ∈ (nx_at RX3 127 xNSEE 13 rxN nm2).filter goodWord, w ∈ lw_tbl := by decide +kernel
theorem at_NSEE : ∀ w ∈ (nx_at RX3 127 xNSEE 13 rxN nm2).filter goodWord, w ∈ UW := fun w h => List.mem_filter.mpr ⟨at_NSEE0 w h, (List.mem_filter.mp h).2⟩
theorem nb_NSEE : ∀ w ∈ (nx_at RX3 127 xNSEE 13 rxN nm2).filter (fun w => !goodWord w), w ∈ BW := by decide +kernel
theorem og_NSEE : ∀ w ∈ Cond.classLink RX3 123 xNSEE :: Cond.initialized xNSEE :: nx_at RX3 127 xNSEE 13 rxN nm2, vx_ot w = true := by decide +kernel
theorem ft_all : Bundle.fit xISE = true ∧ Bundle.fit xAE = true ∧ Bundle.fit xUOE = true ∧ Bundle.fit xNSEE = true ∧ Bundle.fit xIAE = true ∧ ∀ n ∈ nm2, Bundle.fit n = true := by decide +kernel
def TXT : List (Nat × String) := [(93, "the network is not connected"), (103, "there are no repetitions"), (117, "the repetitions are too many"), (125, "no actor can fire though firings are left"), (138, "there is no plan"), (142, "a plan is run 1 to 20 times")]
def ThF (A : Nat → Prop) (U : State) : Prop := vx_Zq Bundle.tN "UNASSIGNED_STACK" Bundle.steD A U U.heap ∧ vx_Zq Bundle.tN "SUPPRESSED_SENTINEL" Bundle.listD A U U.heap ∧ (∀ w ∈ BW, va_Nw w U) ∧ ∀ q ∈ TXT, ∃ a, vk_R RX3 q.1 q.2 a U
theorem nw_declares {x : MethodName} {s U : State} (hW : s.WarmedH U.vm) (hZ : va_Nw (.declares x) s) : va_Nw (.declares x) U := va_tabs rfl (rfl : (s.setVm U.vm).vm = U.vm) (by rw [Cond.declares_setVm hW.alike]; exact hZ)
theorem bw_warm {s U : State} (hW : s.WarmedH U.vm) (h : ∀ w ∈ BW, va_Nw w s) : ∀ w ∈ BW, va_Nw w U := by
  intro w hw
  have h1 := h w hw
  simp only [BW, List.mem_cons, List.not_mem_nil, or_false] at hw
  rcases hw with rfl | rfl | rfl | rfl | rfl | rfl | rfl | rfl
  · exact va_Nw.warmC hW h1
  · exact va_Nw.warmC hW h1
  · exact va_Nw.warmC hW h1
  · exact va_Nw.warmC hW h1
  · exact va_Nw.warmC hW h1
  · exact nw_declares hW h1
  · exact nw_declares hW h1
  · exact nw_declares hW h1
theorem ThF.go {A B : Nat → Prop} {s U : State} {H : Heap} {locs : List Loc} (h : ThF A s) (hS : va_S A s.heap H locs) (hAB : ∀ q, B q → A q) (hU : U.heap = H) (hW : s.WarmedH U.vm) : ThF B U := by
  obtain ⟨h1, h2, h3, h4⟩ := h
  refine ⟨?_, ?_, bw_warm hW h3, fun q hq => ?_⟩
  · rw [hU]; exact vx_Zq.moved hW.alike ((h1.kept hS.2.1).narrow hAB)
  · rw [hU]; exact vx_Zq.moved hW.alike ((h2.kept hS.2.1).narrow hAB)
  · obtain ⟨a, ha⟩ := h4 q hq
    exact ⟨a, vk_R.warm hW ha⟩
theorem ThF.calling {A : Nat → Prop} {U : State} (h : ThF A U) (g : JFrame) (mk : MethodId) (a : Array Value) : ThF A (U.calling g mk a) :=
  h.go (H := U.heap) (locs := []) va_S.rf (fun _ q => q) rfl (State.WarmedH.refl U)
theorem ThF.words {A : Nat → Prop} {s : State} {args : Array Value} (h : ThF A s) : ∀ w ∈ BW, w.before args s = true := fun w hw => va_any (bw_ot w hw) (h.2.2.1 w hw)
theorem WX.thrown {D : va_G} {tys : List (ClassId × FieldType)} {n : Nat} {adr : Nat → Nat} {ent : Nat → va_E} {s t : State} {A : Nat → Prop} {H : Heap} {locs : List Loc} (h : WX D tys n adr ent s A H locs) (ha : s.vm.Alike t.vm) (hz : H.size ≤ t.heap.size) (hq : ∀ q : Nat, q < H.size → t.heap[q]? = H[q]?) : atW D tys n adr ent A t ∧ va_F A s t := by
  obtain ⟨hK, hA, hP, hD, hS⟩ := h
  refine ⟨⟨hP.kept (fun k q hk => hq q.1 ((hP k q hk).lt)), va_K.moved ha hK, hD⟩, Nat.le_trans hS.1 hz, fun q h1 h2 => ?_⟩
  rw [hq q (Nat.lt_of_lt_of_le h1 hS.1)]
  exact hS.2.1 q h1 h2
/-- a contract over the class's world of a method that may throw -/
abbrev MTx (l : Launch) (D : va_G) (cy : Nat → ClassId) (ad : Nat → Nat) (y : MethodName) (cc : ByteArray) (maxL : Nat) (ret : FieldType) (rm : Room) (av : List Value) (σ : TS) (sz : Nat) (post : Int32 → TS → Prop) (px : String × TS → Prop) : Prop :=
  vx_Met l y (Cond.code y cc maxL (some ret) :: UW) rm (va_Pc av (fun U => preW D (tyl cy) 37 (adrT ad σ) (entT cy ad σ) sz U ∧ ThF (va_A (wv 37 (adrT ad σ) (entT cy ad σ)) sz) U)) (va_Qi post (fun u => atW D (tyl cy) 37 (adrT ad u) (entT cy ad u) (va_A (wv 37 (adrT ad σ) (entT cy ad σ)) sz)) (va_A (wv 37 (adrT ad σ) (entT cy ad σ)) sz))
    (vx_X px (fun E u t => E = u.1 ∧ atW D (tyl cy) 37 (adrT ad u.2) (entT cy ad u.2) (va_A (wv 37 (adrT ad σ) (entT cy ad σ)) sz) t) (va_A (wv 37 (adrT ad σ) (entT cy ad σ)) sz)) rm.cells rm.slots (va_A (wv 37 (adrT ad σ) (entT cy ad σ)) sz)
