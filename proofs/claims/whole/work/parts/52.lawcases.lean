set_option maxRecDepth 100000 in
set_option maxHeartbeats 4000000 in
theorem lc_actor {p : Program} {l : Launch} {ev : Env} {s : State} {m : MethodId} {below : List Frame} {meth : Method} {c : Code} {D : va_G} {cy : Nat → ClassId} {ad bd : Nat → Nat} {o b L : Nat} {xs : Nat → Int32} (C0 : lw_At p s m meth c b L xs) (hL : L ≤ 3072) (hst : l.stackTraces = false) (hTh : ThF (lA s) s) (hNc : NcF s) {i : Nat} (hi : i + 6 ≤ L) {σ : TS} {μ : MS} {v : Int64} (hR : Rel 0 σ μ) {H : Heap} {locs : List Loc} {ls : Array Slot} (hY : LX D cy ad bd o s H locs σ μ v) (hl : lv_has ls 7 [(0, .ref b), (1, .ref (ad 0)), (2, .ref (bd 0)), (3, .ref o), (4, .int (nI i))])
    (K : ∀ (σ : TS) (μ : MS) (v : Int64) (H : Heap) (locs : List Loc) (ls : Array Slot), Rel 0 σ μ → LX D cy ad bd o s H locs σ μ v → lv_has ls 7 [(0, .ref b), (1, .ref (ad 0)), (2, .ref (bd 0)), (3, .ref o), (4, .int (nI i))] → W p l ev room_1 s m #[Value.ref b] below meth c H locs (100 + 3 * i + 13) (12200 + i + 6 + 2 * lsum σ) (lw_Z below #[Value.ref b] s) (F0 m 619 ls [])) : W p l ev room_1 s m #[Value.ref b] below meth c H locs (100 + 3 * i) (12200 + i + 2 * lsum σ) (lw_Z below #[Value.ref b] s) (F0 m 124 ls []) := by
  obtain ⟨hx, hb, hr, hml, hown, hts, hX, hbl, hlk, hgv⟩ := C0
  have hU : ∀ w ∈ UW, w.before #[Value.ref b] s = true := fun w hw => hts w (List.mem_filter.mp hw).1
  have hown : s.vm.findClass RL = some m.cls := hown
  have hls := hR.lsum_le
  obtain ⟨w1, w2, w3, w4, w5, w6⟩ := hR.wf
  obtain ⟨k1, k2, k3, k4, k5, k6, k7, k8, k9, k10⟩ := ask_sim hR
  refine lv_aload_n hx hb dL_law_124 rfl (lv_at hl 1 rfl) ?_
  refine lv_aload_n hx hb dL_law_125 rfl (lv_at hl 0 rfl) ?_
  refine lv_iload hx hb dL_law_126 (lv_at hl 4 rfl) ?_
  refine lv_iconst (v := nI 1) hx hb dL_law_128 (by decide +kernel) ?_
  refine n_iadd hx hb dL_law_129 ?_
  refine s_ld hx hb hX hbl hY (by omega) hL dL_law_130 ?_
  refine lv_aload_n hx hb dL_law_131 rfl (lv_at hl 0 rfl) ?_
  refine lv_iload hx hb dL_law_132 (lv_at hl 4 rfl) ?_
  refine lv_iconst (v := nI 2) hx hb dL_law_134 (by decide +kernel) ?_
  refine n_iadd hx hb dL_law_135 ?_
  refine s_ld hx hb hX hbl hY (by omega) hL dL_law_136 ?_
  refine z_calli (C := RX3) hx hb hml hU hown hY (c_X3_actor l D cy ad σ _ (x := xs (i + 1)) (y := xs (i + 2)) w1) umL_31 ui_X3_actor us_X3_actor unX3 uc_X3_actor hd_X3_actor ⟨Nat.le_of_ble_eq_true rfl, Nat.le_of_ble_eq_true rfl⟩ (hY.recv (i := 0) (by decide) rfl rfl) hl.1 rfl (Nat.le_of_ble_eq_true rfl) dL_law_137 ⟨by show 100 + 3 * i + 0 ≤ 601024; omega, by show 12200 + i + 2 * lsum σ + 0 ≤ 7293034; omega⟩ (fun r u H locs hw hY => ?_)
  refine W.widen (k := 100 + 3 * i) (n := 12200 + i + 2 * lsum σ) (Nat.le_refl _) (Nat.le_refl _) ?_
  obtain ⟨rfl, hu⟩ := hw
  rw [hu] at hY
  clear hu
  refine lv_aload_n hx hb dL_law_140 rfl (lv_at hl 2 rfl) ?_
  refine lv_aload_n hx hb dL_law_141 rfl (lv_at hl 0 rfl) ?_
  refine lv_iload hx hb dL_law_142 (lv_at hl 4 rfl) ?_
  refine lv_iconst (v := nI 1) hx hb dL_law_144 (by decide +kernel) ?_
  refine n_iadd hx hb dL_law_145 ?_
  refine s_ld hx hb hX hbl hY (by omega) hL dL_law_146 ?_
  refine lv_aload_n hx hb dL_law_147 rfl (lv_at hl 0 rfl) ?_
  refine lv_iload hx hb dL_law_148 (lv_at hl 4 rfl) ?_
  refine lv_iconst (v := nI 2) hx hb dL_law_150 (by decide +kernel) ?_
  refine n_iadd hx hb dL_law_151 ?_
  refine s_ld hx hb hX hbl hY (by omega) hL dL_law_152 ?_
  have hY := WY.swap hY
  refine z_calli (C := RX4) hx hb hml hU hown hY (c_X4_actor l D cy bd μ _ (x := xs (i + 1)) (y := xs (i + 2)) w3) umL_35 ui_X4_actor us_X4_actor unX4 uc_X4_actor hd_X4_actor ⟨Nat.le_of_ble_eq_true rfl, Nat.le_of_ble_eq_true rfl⟩ (hY.recv (i := 0) (by decide) rfl rfl) hl.1 rfl (Nat.le_of_ble_eq_true rfl) dL_law_153 ⟨by show 100 + 3 * i + 0 ≤ 601024; omega, by show 12200 + i + 2 * lsum σ + 0 ≤ 7293034; omega⟩ (fun r u H locs hw hY => ?_)
  refine W.widen (k := 100 + 3 * i) (n := 12200 + i + 2 * lsum σ) (Nat.le_refl _) (Nat.le_refl _) ?_
  obtain ⟨rfl, hu⟩ := hw
  rw [hu] at hY
  clear hu
  have hY := WY.swap hY
  refine lv_icmp_eq (tgt := 619) hx hb dL_law_156 (by decide) (fun _ => ?_) (fun z => absurd (actor_sim hR).1 z)
  refine W.widen (k := 100 + 3 * i + 13) (n := 12200 + i + 6 + 2 * lsum (T_actor σ (xs (i + 1)) (xs (i + 2))).2) (by omega) (by rw [lsum_same (actor_sim hR).2.2]; omega) ?_
  exact K _ _ _ _ _ _ (actor_sim hR).2.1 hY hl
set_option maxRecDepth 100000 in
set_option maxHeartbeats 4000000 in
theorem lc_edge {p : Program} {l : Launch} {ev : Env} {s : State} {m : MethodId} {below : List Frame} {meth : Method} {c : Code} {D : va_G} {cy : Nat → ClassId} {ad bd : Nat → Nat} {o b L : Nat} {xs : Nat → Int32} (C0 : lw_At p s m meth c b L xs) (hL : L ≤ 3072) (hst : l.stackTraces = false) (hTh : ThF (lA s) s) (hNc : NcF s) {i : Nat} (hi : i + 6 ≤ L) {σ : TS} {μ : MS} {v : Int64} (hR : Rel 0 σ μ) {H : Heap} {locs : List Loc} {ls : Array Slot} (hY : LX D cy ad bd o s H locs σ μ v) (hl : lv_has ls 7 [(0, .ref b), (1, .ref (ad 0)), (2, .ref (bd 0)), (3, .ref o), (4, .int (nI i))])
    (K : ∀ (σ : TS) (μ : MS) (v : Int64) (H : Heap) (locs : List Loc) (ls : Array Slot), Rel 0 σ μ → LX D cy ad bd o s H locs σ μ v → lv_has ls 7 [(0, .ref b), (1, .ref (ad 0)), (2, .ref (bd 0)), (3, .ref o), (4, .int (nI i))] → W p l ev room_1 s m #[Value.ref b] below meth c H locs (100 + 3 * i + 13) (12200 + i + 6 + 2 * lsum σ) (lw_Z below #[Value.ref b] s) (F0 m 619 ls [])) : W p l ev room_1 s m #[Value.ref b] below meth c H locs (100 + 3 * i) (12200 + i + 2 * lsum σ) (lw_Z below #[Value.ref b] s) (F0 m 161 ls []) := by
  obtain ⟨hx, hb, hr, hml, hown, hts, hX, hbl, hlk, hgv⟩ := C0
  have hU : ∀ w ∈ UW, w.before #[Value.ref b] s = true := fun w hw => hts w (List.mem_filter.mp hw).1
  have hown : s.vm.findClass RL = some m.cls := hown
  have hls := hR.lsum_le
  obtain ⟨w1, w2, w3, w4, w5, w6⟩ := hR.wf
  obtain ⟨k1, k2, k3, k4, k5, k6, k7, k8, k9, k10⟩ := ask_sim hR
  refine lv_aload_n hx hb dL_law_161 rfl (lv_at hl 1 rfl) ?_
  refine lv_aload_n hx hb dL_law_162 rfl (lv_at hl 0 rfl) ?_
  refine lv_iload hx hb dL_law_163 (lv_at hl 4 rfl) ?_
  refine lv_iconst (v := nI 1) hx hb dL_law_165 (by decide +kernel) ?_
  refine n_iadd hx hb dL_law_166 ?_
  refine s_ld hx hb hX hbl hY (by omega) hL dL_law_167 ?_
  refine lv_aload_n hx hb dL_law_168 rfl (lv_at hl 0 rfl) ?_
  refine lv_iload hx hb dL_law_169 (lv_at hl 4 rfl) ?_
  refine lv_iconst (v := nI 2) hx hb dL_law_171 (by decide +kernel) ?_
  refine n_iadd hx hb dL_law_172 ?_
  refine s_ld hx hb hX hbl hY (by omega) hL dL_law_173 ?_
  refine lv_aload_n hx hb dL_law_174 rfl (lv_at hl 0 rfl) ?_
  refine lv_iload hx hb dL_law_175 (lv_at hl 4 rfl) ?_
  refine lv_iconst (v := nI 3) hx hb dL_law_177 (by decide +kernel) ?_
  refine n_iadd hx hb dL_law_178 ?_
  refine s_ld hx hb hX hbl hY (by omega) hL dL_law_179 ?_
  refine lv_aload_n hx hb dL_law_180 rfl (lv_at hl 0 rfl) ?_
  refine lv_iload hx hb dL_law_181 (lv_at hl 4 rfl) ?_
  refine lv_iconst (v := nI 4) hx hb dL_law_183 (by decide +kernel) ?_
  refine n_iadd hx hb dL_law_184 ?_
  refine s_ld hx hb hX hbl hY (by omega) hL dL_law_185 ?_
  refine lv_aload_n hx hb dL_law_186 rfl (lv_at hl 0 rfl) ?_
  refine lv_iload hx hb dL_law_187 (lv_at hl 4 rfl) ?_
  refine lv_iconst (v := nI 5) hx hb dL_law_189 (by decide +kernel) ?_
  refine n_iadd hx hb dL_law_190 ?_
  refine s_ld hx hb hX hbl hY (by omega) hL dL_law_191 ?_
  refine z_calli (C := RX3) hx hb hml hU hown hY (c_X3_edge l D cy ad σ _ (x1 := xs (i + 1)) (x2 := xs (i + 2)) (x3 := xs (i + 3)) (x4 := xs (i + 4)) (x5 := xs (i + 5)) w1) umL_36 ui_X3_edge us_X3_edge unX3 uc_X3_edge hd_X3_edge ⟨Nat.le_of_ble_eq_true rfl, Nat.le_of_ble_eq_true rfl⟩ (hY.recv (i := 0) (by decide) rfl rfl) hl.1 rfl (Nat.le_of_ble_eq_true rfl) dL_law_192 ⟨by show 100 + 3 * i + 0 ≤ 601024; omega, by show 12200 + i + 2 * lsum σ + 0 ≤ 7293034; omega⟩ (fun r u H locs hw hY => ?_)
  refine W.widen (k := 100 + 3 * i) (n := 12200 + i + 2 * lsum σ) (Nat.le_refl _) (Nat.le_refl _) ?_
  obtain ⟨rfl, hu⟩ := hw
  rw [hu] at hY
  clear hu
  refine lv_aload_n hx hb dL_law_195 rfl (lv_at hl 2 rfl) ?_
  refine lv_aload_n hx hb dL_law_196 rfl (lv_at hl 0 rfl) ?_
  refine lv_iload hx hb dL_law_197 (lv_at hl 4 rfl) ?_
  refine lv_iconst (v := nI 1) hx hb dL_law_199 (by decide +kernel) ?_
  refine n_iadd hx hb dL_law_200 ?_
  refine s_ld hx hb hX hbl hY (by omega) hL dL_law_201 ?_
  refine lv_aload_n hx hb dL_law_202 rfl (lv_at hl 0 rfl) ?_
  refine lv_iload hx hb dL_law_203 (lv_at hl 4 rfl) ?_
  refine lv_iconst (v := nI 2) hx hb dL_law_205 (by decide +kernel) ?_
  refine n_iadd hx hb dL_law_206 ?_
  refine s_ld hx hb hX hbl hY (by omega) hL dL_law_207 ?_
  refine lv_aload_n hx hb dL_law_208 rfl (lv_at hl 0 rfl) ?_
  refine lv_iload hx hb dL_law_209 (lv_at hl 4 rfl) ?_
  refine lv_iconst (v := nI 3) hx hb dL_law_211 (by decide +kernel) ?_
  refine n_iadd hx hb dL_law_212 ?_
  refine s_ld hx hb hX hbl hY (by omega) hL dL_law_213 ?_
  refine lv_aload_n hx hb dL_law_214 rfl (lv_at hl 0 rfl) ?_
  refine lv_iload hx hb dL_law_215 (lv_at hl 4 rfl) ?_
  refine lv_iconst (v := nI 4) hx hb dL_law_217 (by decide +kernel) ?_
  refine n_iadd hx hb dL_law_218 ?_
  refine s_ld hx hb hX hbl hY (by omega) hL dL_law_219 ?_
  refine lv_aload_n hx hb dL_law_220 rfl (lv_at hl 0 rfl) ?_
  refine lv_iload hx hb dL_law_221 (lv_at hl 4 rfl) ?_
  refine lv_iconst (v := nI 5) hx hb dL_law_223 (by decide +kernel) ?_
  refine n_iadd hx hb dL_law_224 ?_
  refine s_ld hx hb hX hbl hY (by omega) hL dL_law_225 ?_
  have hY := WY.swap hY
  refine z_calli (C := RX4) hx hb hml hU hown hY (c_X4_edge l D cy bd μ _ (x1 := xs (i + 1)) (x2 := xs (i + 2)) (x3 := xs (i + 3)) (x4 := xs (i + 4)) (x5 := xs (i + 5)) w3) umL_40 ui_X4_edge us_X4_edge unX4 uc_X4_edge hd_X4_edge ⟨Nat.le_of_ble_eq_true rfl, Nat.le_of_ble_eq_true rfl⟩ (hY.recv (i := 0) (by decide) rfl rfl) hl.1 rfl (Nat.le_of_ble_eq_true rfl) dL_law_226 ⟨by show 100 + 3 * i + 0 ≤ 601024; omega, by show 12200 + i + 2 * lsum σ + 0 ≤ 7293034; omega⟩ (fun r u H locs hw hY => ?_)
  refine W.widen (k := 100 + 3 * i) (n := 12200 + i + 2 * lsum σ) (Nat.le_refl _) (Nat.le_refl _) ?_
  obtain ⟨rfl, hu⟩ := hw
  rw [hu] at hY
  clear hu
  have hY := WY.swap hY
  refine lv_icmp_eq (tgt := 619) hx hb dL_law_229 (by decide) (fun _ => ?_) (fun z => absurd (edge_sim hR).1 z)
  refine W.widen (k := 100 + 3 * i + 13) (n := 12200 + i + 6 + 2 * lsum (T_edge σ (xs (i + 1)) (xs (i + 2)) (xs (i + 3)) (xs (i + 4)) (xs (i + 5))).2) (by omega) (by rw [lsum_same (edge_sim hR).2.2]; omega) ?_
  exact K _ _ _ _ _ _ (edge_sim hR).2.1 hY hl
set_option maxRecDepth 100000 in
set_option maxHeartbeats 4000000 in
theorem lc_delay {p : Program} {l : Launch} {ev : Env} {s : State} {m : MethodId} {below : List Frame} {meth : Method} {c : Code} {D : va_G} {cy : Nat → ClassId} {ad bd : Nat → Nat} {o b L : Nat} {xs : Nat → Int32} (C0 : lw_At p s m meth c b L xs) (hL : L ≤ 3072) (hst : l.stackTraces = false) (hTh : ThF (lA s) s) (hNc : NcF s) {i : Nat} (hi : i + 6 ≤ L) {σ : TS} {μ : MS} {v : Int64} (hR : Rel 0 σ μ) {H : Heap} {locs : List Loc} {ls : Array Slot} (hY : LX D cy ad bd o s H locs σ μ v) (hl : lv_has ls 7 [(0, .ref b), (1, .ref (ad 0)), (2, .ref (bd 0)), (3, .ref o), (4, .int (nI i))])
    (K : ∀ (σ : TS) (μ : MS) (v : Int64) (H : Heap) (locs : List Loc) (ls : Array Slot), Rel 0 σ μ → LX D cy ad bd o s H locs σ μ v → lv_has ls 7 [(0, .ref b), (1, .ref (ad 0)), (2, .ref (bd 0)), (3, .ref o), (4, .int (nI i))] → W p l ev room_1 s m #[Value.ref b] below meth c H locs (100 + 3 * i + 13) (12200 + i + 6 + 2 * lsum σ) (lw_Z below #[Value.ref b] s) (F0 m 619 ls [])) : W p l ev room_1 s m #[Value.ref b] below meth c H locs (100 + 3 * i) (12200 + i + 2 * lsum σ) (lw_Z below #[Value.ref b] s) (F0 m 234 ls []) := by
  obtain ⟨hx, hb, hr, hml, hown, hts, hX, hbl, hlk, hgv⟩ := C0
  have hU : ∀ w ∈ UW, w.before #[Value.ref b] s = true := fun w hw => hts w (List.mem_filter.mp hw).1
  have hown : s.vm.findClass RL = some m.cls := hown
  have hls := hR.lsum_le
  obtain ⟨w1, w2, w3, w4, w5, w6⟩ := hR.wf
  obtain ⟨k1, k2, k3, k4, k5, k6, k7, k8, k9, k10⟩ := ask_sim hR
  refine lv_aload_n hx hb dL_law_234 rfl (lv_at hl 1 rfl) ?_
  refine lv_aload_n hx hb dL_law_235 rfl (lv_at hl 0 rfl) ?_
  refine lv_iload hx hb dL_law_236 (lv_at hl 4 rfl) ?_
  refine lv_iconst (v := nI 1) hx hb dL_law_238 (by decide +kernel) ?_
  refine n_iadd hx hb dL_law_239 ?_
  refine s_ld hx hb hX hbl hY (by omega) hL dL_law_240 ?_
  refine lv_aload_n hx hb dL_law_241 rfl (lv_at hl 0 rfl) ?_
  refine lv_iload hx hb dL_law_242 (lv_at hl 4 rfl) ?_
  refine lv_iconst (v := nI 2) hx hb dL_law_244 (by decide +kernel) ?_
  refine n_iadd hx hb dL_law_245 ?_
  refine s_ld hx hb hX hbl hY (by omega) hL dL_law_246 ?_
  refine z_calli (C := RX3) hx hb hml hU hown hY (c_X3_delay l D cy ad σ _ (x := xs (i + 1)) (y := xs (i + 2)) w1) umL_41 ui_X3_delay us_X3_delay unX3 uc_X3_delay hd_X3_delay ⟨Nat.le_of_ble_eq_true rfl, Nat.le_of_ble_eq_true rfl⟩ (hY.recv (i := 0) (by decide) rfl rfl) hl.1 rfl (Nat.le_of_ble_eq_true rfl) dL_law_247 ⟨by show 100 + 3 * i + 0 ≤ 601024; omega, by show 12200 + i + 2 * lsum σ + 0 ≤ 7293034; omega⟩ (fun r u H locs hw hY => ?_)
  refine W.widen (k := 100 + 3 * i) (n := 12200 + i + 2 * lsum σ) (Nat.le_refl _) (Nat.le_refl _) ?_
  obtain ⟨rfl, hu⟩ := hw
  rw [hu] at hY
  clear hu
  refine lv_aload_n hx hb dL_law_250 rfl (lv_at hl 2 rfl) ?_
  refine lv_aload_n hx hb dL_law_251 rfl (lv_at hl 0 rfl) ?_
  refine lv_iload hx hb dL_law_252 (lv_at hl 4 rfl) ?_
  refine lv_iconst (v := nI 1) hx hb dL_law_254 (by decide +kernel) ?_
  refine n_iadd hx hb dL_law_255 ?_
  refine s_ld hx hb hX hbl hY (by omega) hL dL_law_256 ?_
  refine lv_aload_n hx hb dL_law_257 rfl (lv_at hl 0 rfl) ?_
  refine lv_iload hx hb dL_law_258 (lv_at hl 4 rfl) ?_
  refine lv_iconst (v := nI 2) hx hb dL_law_260 (by decide +kernel) ?_
  refine n_iadd hx hb dL_law_261 ?_
  refine s_ld hx hb hX hbl hY (by omega) hL dL_law_262 ?_
  have hY := WY.swap hY
  refine z_calli (C := RX4) hx hb hml hU hown hY (c_X4_delay l D cy bd μ _ (x := xs (i + 1)) (y := xs (i + 2)) w3) umL_45 ui_X4_delay us_X4_delay unX4 uc_X4_delay hd_X4_delay ⟨Nat.le_of_ble_eq_true rfl, Nat.le_of_ble_eq_true rfl⟩ (hY.recv (i := 0) (by decide) rfl rfl) hl.1 rfl (Nat.le_of_ble_eq_true rfl) dL_law_263 ⟨by show 100 + 3 * i + 0 ≤ 601024; omega, by show 12200 + i + 2 * lsum σ + 0 ≤ 7293034; omega⟩ (fun r u H locs hw hY => ?_)
  refine W.widen (k := 100 + 3 * i) (n := 12200 + i + 2 * lsum σ) (Nat.le_refl _) (Nat.le_refl _) ?_
  obtain ⟨rfl, hu⟩ := hw
  rw [hu] at hY
  clear hu
  have hY := WY.swap hY
  refine lv_icmp_eq (tgt := 619) hx hb dL_law_266 (by decide) (fun _ => ?_) (fun z => absurd (delay_sim hR).1 z)
  refine W.widen (k := 100 + 3 * i + 13) (n := 12200 + i + 6 + 2 * lsum (T_delay σ (xs (i + 1)) (xs (i + 2))).2) (by omega) (by rw [lsum_same (delay_sim hR).2.2]; omega) ?_
  exact K _ _ _ _ _ _ (delay_sim hR).2.1 hY hl
set_option maxRecDepth 100000 in
set_option maxHeartbeats 4000000 in
theorem lc_reset {p : Program} {l : Launch} {ev : Env} {s : State} {m : MethodId} {below : List Frame} {meth : Method} {c : Code} {D : va_G} {cy : Nat → ClassId} {ad bd : Nat → Nat} {o b L : Nat} {xs : Nat → Int32} (C0 : lw_At p s m meth c b L xs) (hL : L ≤ 3072) (hst : l.stackTraces = false) (hTh : ThF (lA s) s) (hNc : NcF s) {i : Nat} (hi : i + 6 ≤ L) {σ : TS} {μ : MS} {v : Int64} (hR : Rel 0 σ μ) {H : Heap} {locs : List Loc} {ls : Array Slot} (hY : LX D cy ad bd o s H locs σ μ v) (hl : lv_has ls 7 [(0, .ref b), (1, .ref (ad 0)), (2, .ref (bd 0)), (3, .ref o), (4, .int (nI i))])
    (K : ∀ (σ : TS) (μ : MS) (v : Int64) (H : Heap) (locs : List Loc) (ls : Array Slot), Rel 0 σ μ → LX D cy ad bd o s H locs σ μ v → lv_has ls 7 [(0, .ref b), (1, .ref (ad 0)), (2, .ref (bd 0)), (3, .ref o), (4, .int (nI i))] → W p l ev room_1 s m #[Value.ref b] below meth c H locs (100 + 3 * i + 13) (12200 + i + 6 + 2 * lsum σ) (lw_Z below #[Value.ref b] s) (F0 m 619 ls [])) : W p l ev room_1 s m #[Value.ref b] below meth c H locs (100 + 3 * i) (12200 + i + 2 * lsum σ) (lw_Z below #[Value.ref b] s) (F0 m 271 ls []) := by
  obtain ⟨hx, hb, hr, hml, hown, hts, hX, hbl, hlk, hgv⟩ := C0
  have hU : ∀ w ∈ UW, w.before #[Value.ref b] s = true := fun w hw => hts w (List.mem_filter.mp hw).1
  have hown : s.vm.findClass RL = some m.cls := hown
  have hls := hR.lsum_le
  obtain ⟨w1, w2, w3, w4, w5, w6⟩ := hR.wf
  obtain ⟨k1, k2, k3, k4, k5, k6, k7, k8, k9, k10⟩ := ask_sim hR
  refine lv_aload_n hx hb dL_law_271 rfl (lv_at hl 1 rfl) ?_
  refine z_callv (C := RX3) hx hb hml hU hown hY (c_X3_reset l D cy ad σ _  w2) umL_46 ui_X3_reset us_X3_reset unX3 uc_X3_reset hd_X3_reset ⟨Nat.le_of_ble_eq_true rfl, Nat.le_of_ble_eq_true rfl⟩ (hY.recv (i := 0) (by decide) rfl rfl) hl.1 rfl (Nat.le_of_ble_eq_true rfl) dL_law_272 ⟨by show 100 + 3 * i + 0 ≤ 601024; omega, by show 12200 + i + 2 * lsum σ + 0 ≤ 7293034; omega⟩ (fun u H locs hw hY => ?_)
  refine W.widen (k := 100 + 3 * i) (n := 12200 + i + 2 * lsum σ) (Nat.le_refl _) (Nat.le_refl _) ?_
  rw [hw] at hY
  clear hw
  refine lv_aload_n hx hb dL_law_275 rfl (lv_at hl 2 rfl) ?_
  have hY := WY.swap hY
  refine z_callv (C := RX4) hx hb hml hU hown hY (c_X4_reset l D cy bd μ _  w3) umL_49 ui_X4_reset us_X4_reset unX4 uc_X4_reset hd_X4_reset ⟨Nat.le_of_ble_eq_true rfl, Nat.le_of_ble_eq_true rfl⟩ (hY.recv (i := 0) (by decide) rfl rfl) hl.1 rfl (Nat.le_of_ble_eq_true rfl) dL_law_276 ⟨by show 100 + 3 * i + 0 ≤ 601024; omega, by show 12200 + i + 2 * lsum σ + 0 ≤ 7293034; omega⟩ (fun u H locs hw hY => ?_)
  refine W.widen (k := 100 + 3 * i) (n := 12200 + i + 2 * lsum σ) (Nat.le_refl _) (Nat.le_refl _) ?_
  rw [hw] at hY
  clear hw
  have hY := WY.swap hY
  refine lv_goto (tgt := 619) hx hb dL_law_279 (by decide) ?_
  refine W.widen (k := 100 + 3 * i + 13) (n := 12200 + i + 6 + 2 * lsum (T_start σ)) (by omega) (by rw [lsum_same (reset_sim hR).2]; omega) ?_
  exact K _ _ _ _ _ _ (reset_sim hR).1 hY hl
set_option maxRecDepth 100000 in
set_option maxHeartbeats 4000000 in
theorem lc_clear {p : Program} {l : Launch} {ev : Env} {s : State} {m : MethodId} {below : List Frame} {meth : Method} {c : Code} {D : va_G} {cy : Nat → ClassId} {ad bd : Nat → Nat} {o b L : Nat} {xs : Nat → Int32} (C0 : lw_At p s m meth c b L xs) (hL : L ≤ 3072) (hst : l.stackTraces = false) (hTh : ThF (lA s) s) (hNc : NcF s) {i : Nat} (hi : i + 6 ≤ L) {σ : TS} {μ : MS} {v : Int64} (hR : Rel 0 σ μ) {H : Heap} {locs : List Loc} {ls : Array Slot} (hY : LX D cy ad bd o s H locs σ μ v) (hl : lv_has ls 7 [(0, .ref b), (1, .ref (ad 0)), (2, .ref (bd 0)), (3, .ref o), (4, .int (nI i))])
    (K : ∀ (σ : TS) (μ : MS) (v : Int64) (H : Heap) (locs : List Loc) (ls : Array Slot), Rel 0 σ μ → LX D cy ad bd o s H locs σ μ v → lv_has ls 7 [(0, .ref b), (1, .ref (ad 0)), (2, .ref (bd 0)), (3, .ref o), (4, .int (nI i))] → W p l ev room_1 s m #[Value.ref b] below meth c H locs (100 + 3 * i + 13) (12200 + i + 6 + 2 * lsum σ) (lw_Z below #[Value.ref b] s) (F0 m 619 ls [])) : W p l ev room_1 s m #[Value.ref b] below meth c H locs (100 + 3 * i) (12200 + i + 2 * lsum σ) (lw_Z below #[Value.ref b] s) (F0 m 282 ls []) := by
  obtain ⟨hx, hb, hr, hml, hown, hts, hX, hbl, hlk, hgv⟩ := C0
  have hU : ∀ w ∈ UW, w.before #[Value.ref b] s = true := fun w hw => hts w (List.mem_filter.mp hw).1
  have hown : s.vm.findClass RL = some m.cls := hown
  have hls := hR.lsum_le
  obtain ⟨w1, w2, w3, w4, w5, w6⟩ := hR.wf
  obtain ⟨k1, k2, k3, k4, k5, k6, k7, k8, k9, k10⟩ := ask_sim hR
  refine lv_aload_n hx hb dL_law_282 rfl (lv_at hl 1 rfl) ?_
  refine z_callv (C := RX3) hx hb hml hU hown hY (c_X3_clear l D cy ad σ _) umL_50 ui_X3_clear us_X3_clear unX3 uc_X3_clear hd_X3_clear ⟨Nat.le_of_ble_eq_true rfl, Nat.le_of_ble_eq_true rfl⟩ (hY.recv (i := 0) (by decide) rfl rfl) hl.1 rfl (Nat.le_of_ble_eq_true rfl) dL_law_283 ⟨by show 100 + 3 * i + 0 ≤ 601024; omega, by show 12200 + i + 2 * lsum σ + 0 ≤ 7293034; omega⟩ (fun u H locs hw hY => ?_)
  refine W.widen (k := 100 + 3 * i) (n := 12200 + i + 2 * lsum σ) (Nat.le_refl _) (Nat.le_refl _) ?_
  rw [hw] at hY
  clear hw
  refine lv_aload_n hx hb dL_law_286 rfl (lv_at hl 2 rfl) ?_
  have hY := WY.swap hY
  refine z_callv (C := RX4) hx hb hml hU hown hY (c_X4_clear l D cy bd μ _) umL_53 ui_X4_clear us_X4_clear unX4 uc_X4_clear hd_X4_clear ⟨Nat.le_of_ble_eq_true rfl, Nat.le_of_ble_eq_true rfl⟩ (hY.recv (i := 0) (by decide) rfl rfl) hl.1 rfl (Nat.le_of_ble_eq_true rfl) dL_law_287 ⟨by show 100 + 3 * i + 0 ≤ 601024; omega, by show 12200 + i + 2 * lsum σ + 0 ≤ 7293034; omega⟩ (fun u H locs hw hY => ?_)
  refine W.widen (k := 100 + 3 * i) (n := 12200 + i + 2 * lsum σ) (Nat.le_refl _) (Nat.le_refl _) ?_
  rw [hw] at hY
  clear hw
  have hY := WY.swap hY
  refine lv_goto (tgt := 619) hx hb dL_law_290 (by decide) ?_
  refine W.widen (k := 100 + 3 * i + 13) (n := 12200 + i + 6 + 2 * lsum (T_change (sN (sN σ 20 0 0) 21 0 0))) (by omega) (by rw [lsum_same (clear_sim hR).2]; omega) ?_
  exact K _ _ _ _ _ _ (clear_sim hR).1 hY hl
set_option maxRecDepth 100000 in
set_option maxHeartbeats 4000000 in
theorem lc_actors {p : Program} {l : Launch} {ev : Env} {s : State} {m : MethodId} {below : List Frame} {meth : Method} {c : Code} {D : va_G} {cy : Nat → ClassId} {ad bd : Nat → Nat} {o b L : Nat} {xs : Nat → Int32} (C0 : lw_At p s m meth c b L xs) (hL : L ≤ 3072) (hst : l.stackTraces = false) (hTh : ThF (lA s) s) (hNc : NcF s) {i : Nat} (hi : i + 6 ≤ L) {σ : TS} {μ : MS} {v : Int64} (hR : Rel 0 σ μ) {H : Heap} {locs : List Loc} {ls : Array Slot} (hY : LX D cy ad bd o s H locs σ μ v) (hl : lv_has ls 7 [(0, .ref b), (1, .ref (ad 0)), (2, .ref (bd 0)), (3, .ref o), (4, .int (nI i))])
    (K : ∀ (σ : TS) (μ : MS) (v : Int64) (H : Heap) (locs : List Loc) (ls : Array Slot), Rel 0 σ μ → LX D cy ad bd o s H locs σ μ v → lv_has ls 7 [(0, .ref b), (1, .ref (ad 0)), (2, .ref (bd 0)), (3, .ref o), (4, .int (nI i))] → W p l ev room_1 s m #[Value.ref b] below meth c H locs (100 + 3 * i + 13) (12200 + i + 6 + 2 * lsum σ) (lw_Z below #[Value.ref b] s) (F0 m 619 ls [])) : W p l ev room_1 s m #[Value.ref b] below meth c H locs (100 + 3 * i) (12200 + i + 2 * lsum σ) (lw_Z below #[Value.ref b] s) (F0 m 293 ls []) := by
  obtain ⟨hx, hb, hr, hml, hown, hts, hX, hbl, hlk, hgv⟩ := C0
  have hU : ∀ w ∈ UW, w.before #[Value.ref b] s = true := fun w hw => hts w (List.mem_filter.mp hw).1
  have hown : s.vm.findClass RL = some m.cls := hown
  have hls := hR.lsum_le
  obtain ⟨w1, w2, w3, w4, w5, w6⟩ := hR.wf
  obtain ⟨k1, k2, k3, k4, k5, k6, k7, k8, k9, k10⟩ := ask_sim hR
  refine lv_aload_n hx hb dL_law_293 rfl (lv_at hl 1 rfl) ?_
  refine z_calli (C := RX3) hx hb hml hU hown hY (c_X3_actors l D cy ad σ _) umL_54 ui_X3_actors us_X3_actors unX3 uc_X3_actors hd_X3_actors ⟨Nat.le_of_ble_eq_true rfl, Nat.le_of_ble_eq_true rfl⟩ (hY.recv (i := 0) (by decide) rfl rfl) hl.1 rfl (Nat.le_of_ble_eq_true rfl) dL_law_294 ⟨by show 100 + 3 * i + 0 ≤ 601024; omega, by show 12200 + i + 2 * lsum σ + 0 ≤ 7293034; omega⟩ (fun r u H locs hw hY => ?_)
  refine W.widen (k := 100 + 3 * i) (n := 12200 + i + 2 * lsum σ) (Nat.le_refl _) (Nat.le_refl _) ?_
  obtain ⟨rfl, hu⟩ := hw
  rw [hu] at hY
  clear hu
  refine lv_aload_n hx hb dL_law_297 rfl (lv_at hl 2 rfl) ?_
  have hY := WY.swap hY
  refine z_calli (C := RX4) hx hb hml hU hown hY (c_X4_actors l D cy bd μ _) umL_57 ui_X4_actors us_X4_actors unX4 uc_X4_actors hd_X4_actors ⟨Nat.le_of_ble_eq_true rfl, Nat.le_of_ble_eq_true rfl⟩ (hY.recv (i := 0) (by decide) rfl rfl) hl.1 rfl (Nat.le_of_ble_eq_true rfl) dL_law_298 ⟨by show 100 + 3 * i + 0 ≤ 601024; omega, by show 12200 + i + 2 * lsum σ + 0 ≤ 7293034; omega⟩ (fun r u H locs hw hY => ?_)
  refine W.widen (k := 100 + 3 * i) (n := 12200 + i + 2 * lsum σ) (Nat.le_refl _) (Nat.le_refl _) ?_
  obtain ⟨rfl, hu⟩ := hw
  rw [hu] at hY
  clear hu
  have hY := WY.swap hY
  refine lv_icmp_eq (tgt := 619) hx hb dL_law_301 (by decide) (fun _ => ?_) (fun z => absurd k1 z)
  refine W.widen (k := 100 + 3 * i + 13) (n := 12200 + i + 6 + 2 * lsum σ) (by omega) (by omega) ?_
  exact K _ _ _ _ _ _ (hR.m2 0) hY hl
set_option maxRecDepth 100000 in
set_option maxHeartbeats 4000000 in
theorem lc_edges {p : Program} {l : Launch} {ev : Env} {s : State} {m : MethodId} {below : List Frame} {meth : Method} {c : Code} {D : va_G} {cy : Nat → ClassId} {ad bd : Nat → Nat} {o b L : Nat} {xs : Nat → Int32} (C0 : lw_At p s m meth c b L xs) (hL : L ≤ 3072) (hst : l.stackTraces = false) (hTh : ThF (lA s) s) (hNc : NcF s) {i : Nat} (hi : i + 6 ≤ L) {σ : TS} {μ : MS} {v : Int64} (hR : Rel 0 σ μ) {H : Heap} {locs : List Loc} {ls : Array Slot} (hY : LX D cy ad bd o s H locs σ μ v) (hl : lv_has ls 7 [(0, .ref b), (1, .ref (ad 0)), (2, .ref (bd 0)), (3, .ref o), (4, .int (nI i))])
    (K : ∀ (σ : TS) (μ : MS) (v : Int64) (H : Heap) (locs : List Loc) (ls : Array Slot), Rel 0 σ μ → LX D cy ad bd o s H locs σ μ v → lv_has ls 7 [(0, .ref b), (1, .ref (ad 0)), (2, .ref (bd 0)), (3, .ref o), (4, .int (nI i))] → W p l ev room_1 s m #[Value.ref b] below meth c H locs (100 + 3 * i + 13) (12200 + i + 6 + 2 * lsum σ) (lw_Z below #[Value.ref b] s) (F0 m 619 ls [])) : W p l ev room_1 s m #[Value.ref b] below meth c H locs (100 + 3 * i) (12200 + i + 2 * lsum σ) (lw_Z below #[Value.ref b] s) (F0 m 306 ls []) := by
  obtain ⟨hx, hb, hr, hml, hown, hts, hX, hbl, hlk, hgv⟩ := C0
  have hU : ∀ w ∈ UW, w.before #[Value.ref b] s = true := fun w hw => hts w (List.mem_filter.mp hw).1
  have hown : s.vm.findClass RL = some m.cls := hown
  have hls := hR.lsum_le
  obtain ⟨w1, w2, w3, w4, w5, w6⟩ := hR.wf
  obtain ⟨k1, k2, k3, k4, k5, k6, k7, k8, k9, k10⟩ := ask_sim hR
  refine lv_aload_n hx hb dL_law_306 rfl (lv_at hl 1 rfl) ?_
  refine z_calli (C := RX3) hx hb hml hU hown hY (c_X3_edges l D cy ad σ _) umL_58 ui_X3_edges us_X3_edges unX3 uc_X3_edges hd_X3_edges ⟨Nat.le_of_ble_eq_true rfl, Nat.le_of_ble_eq_true rfl⟩ (hY.recv (i := 0) (by decide) rfl rfl) hl.1 rfl (Nat.le_of_ble_eq_true rfl) dL_law_307 ⟨by show 100 + 3 * i + 0 ≤ 601024; omega, by show 12200 + i + 2 * lsum σ + 0 ≤ 7293034; omega⟩ (fun r u H locs hw hY => ?_)
  refine W.widen (k := 100 + 3 * i) (n := 12200 + i + 2 * lsum σ) (Nat.le_refl _) (Nat.le_refl _) ?_
  obtain ⟨rfl, hu⟩ := hw
  rw [hu] at hY
  clear hu
  refine lv_aload_n hx hb dL_law_310 rfl (lv_at hl 2 rfl) ?_
  have hY := WY.swap hY
  refine z_calli (C := RX4) hx hb hml hU hown hY (c_X4_edges l D cy bd μ _) umL_61 ui_X4_edges us_X4_edges unX4 uc_X4_edges hd_X4_edges ⟨Nat.le_of_ble_eq_true rfl, Nat.le_of_ble_eq_true rfl⟩ (hY.recv (i := 0) (by decide) rfl rfl) hl.1 rfl (Nat.le_of_ble_eq_true rfl) dL_law_311 ⟨by show 100 + 3 * i + 0 ≤ 601024; omega, by show 12200 + i + 2 * lsum σ + 0 ≤ 7293034; omega⟩ (fun r u H locs hw hY => ?_)
  refine W.widen (k := 100 + 3 * i) (n := 12200 + i + 2 * lsum σ) (Nat.le_refl _) (Nat.le_refl _) ?_
  obtain ⟨rfl, hu⟩ := hw
  rw [hu] at hY
  clear hu
  have hY := WY.swap hY
  refine lv_icmp_eq (tgt := 619) hx hb dL_law_314 (by decide) (fun _ => ?_) (fun z => absurd k2 z)
  refine W.widen (k := 100 + 3 * i + 13) (n := 12200 + i + 6 + 2 * lsum σ) (by omega) (by omega) ?_
  exact K _ _ _ _ _ _ (hR.m2 0) hY hl
set_option maxRecDepth 100000 in
set_option maxHeartbeats 4000000 in
theorem lc_planned {p : Program} {l : Launch} {ev : Env} {s : State} {m : MethodId} {below : List Frame} {meth : Method} {c : Code} {D : va_G} {cy : Nat → ClassId} {ad bd : Nat → Nat} {o b L : Nat} {xs : Nat → Int32} (C0 : lw_At p s m meth c b L xs) (hL : L ≤ 3072) (hst : l.stackTraces = false) (hTh : ThF (lA s) s) (hNc : NcF s) {i : Nat} (hi : i + 6 ≤ L) {σ : TS} {μ : MS} {v : Int64} (hR : Rel 0 σ μ) {H : Heap} {locs : List Loc} {ls : Array Slot} (hY : LX D cy ad bd o s H locs σ μ v) (hl : lv_has ls 7 [(0, .ref b), (1, .ref (ad 0)), (2, .ref (bd 0)), (3, .ref o), (4, .int (nI i))])
    (K : ∀ (σ : TS) (μ : MS) (v : Int64) (H : Heap) (locs : List Loc) (ls : Array Slot), Rel 0 σ μ → LX D cy ad bd o s H locs σ μ v → lv_has ls 7 [(0, .ref b), (1, .ref (ad 0)), (2, .ref (bd 0)), (3, .ref o), (4, .int (nI i))] → W p l ev room_1 s m #[Value.ref b] below meth c H locs (100 + 3 * i + 13) (12200 + i + 6 + 2 * lsum σ) (lw_Z below #[Value.ref b] s) (F0 m 619 ls [])) : W p l ev room_1 s m #[Value.ref b] below meth c H locs (100 + 3 * i) (12200 + i + 2 * lsum σ) (lw_Z below #[Value.ref b] s) (F0 m 363 ls []) := by
  obtain ⟨hx, hb, hr, hml, hown, hts, hX, hbl, hlk, hgv⟩ := C0
  have hU : ∀ w ∈ UW, w.before #[Value.ref b] s = true := fun w hw => hts w (List.mem_filter.mp hw).1
  have hown : s.vm.findClass RL = some m.cls := hown
  have hls := hR.lsum_le
  obtain ⟨w1, w2, w3, w4, w5, w6⟩ := hR.wf
  obtain ⟨k1, k2, k3, k4, k5, k6, k7, k8, k9, k10⟩ := ask_sim hR
  refine lv_aload_n hx hb dL_law_363 rfl (lv_at hl 1 rfl) ?_
  refine z_calli (C := RX3) hx hb hml hU hown hY (c_X3_planned l D cy ad σ _) umL_71 ui_X3_planned us_X3_planned unX3 uc_X3_planned hd_X3_planned ⟨Nat.le_of_ble_eq_true rfl, Nat.le_of_ble_eq_true rfl⟩ (hY.recv (i := 0) (by decide) rfl rfl) hl.1 rfl (Nat.le_of_ble_eq_true rfl) dL_law_364 ⟨by show 100 + 3 * i + 0 ≤ 601024; omega, by show 12200 + i + 2 * lsum σ + 0 ≤ 7293034; omega⟩ (fun r u H locs hw hY => ?_)
  refine W.widen (k := 100 + 3 * i) (n := 12200 + i + 2 * lsum σ) (Nat.le_refl _) (Nat.le_refl _) ?_
  obtain ⟨rfl, hu⟩ := hw
  rw [hu] at hY
  clear hu
  refine lv_aload_n hx hb dL_law_367 rfl (lv_at hl 2 rfl) ?_
  have hY := WY.swap hY
  refine z_calli (C := RX4) hx hb hml hU hown hY (c_X4_planned l D cy bd μ _) umL_74 ui_X4_planned us_X4_planned unX4 uc_X4_planned hd_X4_planned ⟨Nat.le_of_ble_eq_true rfl, Nat.le_of_ble_eq_true rfl⟩ (hY.recv (i := 0) (by decide) rfl rfl) hl.1 rfl (Nat.le_of_ble_eq_true rfl) dL_law_368 ⟨by show 100 + 3 * i + 0 ≤ 601024; omega, by show 12200 + i + 2 * lsum σ + 0 ≤ 7293034; omega⟩ (fun r u H locs hw hY => ?_)
  refine W.widen (k := 100 + 3 * i) (n := 12200 + i + 2 * lsum σ) (Nat.le_refl _) (Nat.le_refl _) ?_
  obtain ⟨rfl, hu⟩ := hw
  rw [hu] at hY
  clear hu
  have hY := WY.swap hY
  refine lv_icmp_eq (tgt := 619) hx hb dL_law_371 (by decide) (fun _ => ?_) (fun z => absurd k3 z)
  refine W.widen (k := 100 + 3 * i + 13) (n := 12200 + i + 6 + 2 * lsum σ) (by omega) (by omega) ?_
  exact K _ _ _ _ _ _ (hR.m2 0) hY hl
set_option maxRecDepth 100000 in
set_option maxHeartbeats 4000000 in
theorem lc_firing {p : Program} {l : Launch} {ev : Env} {s : State} {m : MethodId} {below : List Frame} {meth : Method} {c : Code} {D : va_G} {cy : Nat → ClassId} {ad bd : Nat → Nat} {o b L : Nat} {xs : Nat → Int32} (C0 : lw_At p s m meth c b L xs) (hL : L ≤ 3072) (hst : l.stackTraces = false) (hTh : ThF (lA s) s) (hNc : NcF s) {i : Nat} (hi : i + 6 ≤ L) {σ : TS} {μ : MS} {v : Int64} (hR : Rel 0 σ μ) {H : Heap} {locs : List Loc} {ls : Array Slot} (hY : LX D cy ad bd o s H locs σ μ v) (hl : lv_has ls 7 [(0, .ref b), (1, .ref (ad 0)), (2, .ref (bd 0)), (3, .ref o), (4, .int (nI i))])
    (K : ∀ (σ : TS) (μ : MS) (v : Int64) (H : Heap) (locs : List Loc) (ls : Array Slot), Rel 0 σ μ → LX D cy ad bd o s H locs σ μ v → lv_has ls 7 [(0, .ref b), (1, .ref (ad 0)), (2, .ref (bd 0)), (3, .ref o), (4, .int (nI i))] → W p l ev room_1 s m #[Value.ref b] below meth c H locs (100 + 3 * i + 13) (12200 + i + 6 + 2 * lsum σ) (lw_Z below #[Value.ref b] s) (F0 m 619 ls [])) : W p l ev room_1 s m #[Value.ref b] below meth c H locs (100 + 3 * i) (12200 + i + 2 * lsum σ) (lw_Z below #[Value.ref b] s) (F0 m 376 ls []) := by
  obtain ⟨hx, hb, hr, hml, hown, hts, hX, hbl, hlk, hgv⟩ := C0
  have hU : ∀ w ∈ UW, w.before #[Value.ref b] s = true := fun w hw => hts w (List.mem_filter.mp hw).1
  have hown : s.vm.findClass RL = some m.cls := hown
  have hls := hR.lsum_le
  obtain ⟨w1, w2, w3, w4, w5, w6⟩ := hR.wf
  obtain ⟨k1, k2, k3, k4, k5, k6, k7, k8, k9, k10⟩ := ask_sim hR
  refine lv_aload_n hx hb dL_law_376 rfl (lv_at hl 1 rfl) ?_
  refine lv_aload_n hx hb dL_law_377 rfl (lv_at hl 0 rfl) ?_
  refine lv_iload hx hb dL_law_378 (lv_at hl 4 rfl) ?_
  refine lv_iconst (v := nI 1) hx hb dL_law_380 (by decide +kernel) ?_
  refine n_iadd hx hb dL_law_381 ?_
  refine s_ld hx hb hX hbl hY (by omega) hL dL_law_382 ?_
  refine z_calli (C := RX3) hx hb hml hU hown hY (c_X3_firing l D cy ad σ _ (x := xs (i + 1)) w1.2.2.1) umL_75 ui_X3_firing us_X3_firing unX3 uc_X3_firing hd_X3_firing ⟨Nat.le_of_ble_eq_true rfl, Nat.le_of_ble_eq_true rfl⟩ (hY.recv (i := 0) (by decide) rfl rfl) hl.1 rfl (Nat.le_of_ble_eq_true rfl) dL_law_383 ⟨by show 100 + 3 * i + 0 ≤ 601024; omega, by show 12200 + i + 2 * lsum σ + 0 ≤ 7293034; omega⟩ (fun r u H locs hw hY => ?_)
  refine W.widen (k := 100 + 3 * i) (n := 12200 + i + 2 * lsum σ) (Nat.le_refl _) (Nat.le_refl _) ?_
  obtain ⟨rfl, hu⟩ := hw
  rw [hu] at hY
  clear hu
  refine lv_aload_n hx hb dL_law_386 rfl (lv_at hl 2 rfl) ?_
  refine lv_aload_n hx hb dL_law_387 rfl (lv_at hl 0 rfl) ?_
  refine lv_iload hx hb dL_law_388 (lv_at hl 4 rfl) ?_
  refine lv_iconst (v := nI 1) hx hb dL_law_390 (by decide +kernel) ?_
  refine n_iadd hx hb dL_law_391 ?_
  refine s_ld hx hb hX hbl hY (by omega) hL dL_law_392 ?_
  have hY := WY.swap hY
  refine z_calli (C := RX4) hx hb hml hU hown hY (c_X4_firing l D cy bd μ _ (x := xs (i + 1)) w6) umL_78 ui_X4_firing us_X4_firing unX4 uc_X4_firing hd_X4_firing ⟨Nat.le_of_ble_eq_true rfl, Nat.le_of_ble_eq_true rfl⟩ (hY.recv (i := 0) (by decide) rfl rfl) hl.1 rfl (Nat.le_of_ble_eq_true rfl) dL_law_393 ⟨by show 100 + 3 * i + 0 ≤ 601024; omega, by show 12200 + i + 2 * lsum σ + 0 ≤ 7293034; omega⟩ (fun r u H locs hw hY => ?_)
  refine W.widen (k := 100 + 3 * i) (n := 12200 + i + 2 * lsum σ) (Nat.le_refl _) (Nat.le_refl _) ?_
  obtain ⟨rfl, hu⟩ := hw
  rw [hu] at hY
  clear hu
  have hY := WY.swap hY
  refine lv_icmp_eq (tgt := 619) hx hb dL_law_396 (by decide) (fun _ => ?_) (fun z => absurd (k7 _) z)
  refine W.widen (k := 100 + 3 * i + 13) (n := 12200 + i + 6 + 2 * lsum σ) (by omega) (by omega) ?_
  exact K _ _ _ _ _ _ (hR.m2 0) hY hl
set_option maxRecDepth 100000 in
set_option maxHeartbeats 4000000 in
theorem lc_repetitions {p : Program} {l : Launch} {ev : Env} {s : State} {m : MethodId} {below : List Frame} {meth : Method} {c : Code} {D : va_G} {cy : Nat → ClassId} {ad bd : Nat → Nat} {o b L : Nat} {xs : Nat → Int32} (C0 : lw_At p s m meth c b L xs) (hL : L ≤ 3072) (hst : l.stackTraces = false) (hTh : ThF (lA s) s) (hNc : NcF s) {i : Nat} (hi : i + 6 ≤ L) {σ : TS} {μ : MS} {v : Int64} (hR : Rel 0 σ μ) {H : Heap} {locs : List Loc} {ls : Array Slot} (hY : LX D cy ad bd o s H locs σ μ v) (hl : lv_has ls 7 [(0, .ref b), (1, .ref (ad 0)), (2, .ref (bd 0)), (3, .ref o), (4, .int (nI i))])
    (K : ∀ (σ : TS) (μ : MS) (v : Int64) (H : Heap) (locs : List Loc) (ls : Array Slot), Rel 0 σ μ → LX D cy ad bd o s H locs σ μ v → lv_has ls 7 [(0, .ref b), (1, .ref (ad 0)), (2, .ref (bd 0)), (3, .ref o), (4, .int (nI i))] → W p l ev room_1 s m #[Value.ref b] below meth c H locs (100 + 3 * i + 13) (12200 + i + 6 + 2 * lsum σ) (lw_Z below #[Value.ref b] s) (F0 m 619 ls [])) : W p l ev room_1 s m #[Value.ref b] below meth c H locs (100 + 3 * i) (12200 + i + 2 * lsum σ) (lw_Z below #[Value.ref b] s) (F0 m 401 ls []) := by
  obtain ⟨hx, hb, hr, hml, hown, hts, hX, hbl, hlk, hgv⟩ := C0
  have hU : ∀ w ∈ UW, w.before #[Value.ref b] s = true := fun w hw => hts w (List.mem_filter.mp hw).1
  have hown : s.vm.findClass RL = some m.cls := hown
  have hls := hR.lsum_le
  obtain ⟨w1, w2, w3, w4, w5, w6⟩ := hR.wf
  obtain ⟨k1, k2, k3, k4, k5, k6, k7, k8, k9, k10⟩ := ask_sim hR
  refine lv_aload_n hx hb dL_law_401 rfl (lv_at hl 1 rfl) ?_
  refine lv_aload_n hx hb dL_law_402 rfl (lv_at hl 0 rfl) ?_
  refine lv_iload hx hb dL_law_403 (lv_at hl 4 rfl) ?_
  refine lv_iconst (v := nI 1) hx hb dL_law_405 (by decide +kernel) ?_
  refine n_iadd hx hb dL_law_406 ?_
  refine s_ld hx hb hX hbl hY (by omega) hL dL_law_407 ?_
  refine z_calli (C := RX3) hx hb hml hU hown hY (c_X3_repetitions l D cy ad σ _ (x := xs (i + 1)) w1.2.2.1 w1.1) umL_79 ui_X3_repetitions us_X3_repetitions unX3 uc_X3_repetitions hd_X3_repetitions ⟨Nat.le_of_ble_eq_true rfl, Nat.le_of_ble_eq_true rfl⟩ (hY.recv (i := 0) (by decide) rfl rfl) hl.1 rfl (Nat.le_of_ble_eq_true rfl) dL_law_408 ⟨by show 100 + 3 * i + 0 ≤ 601024; omega, by show 12200 + i + 2 * lsum σ + 0 ≤ 7293034; omega⟩ (fun r u H locs hw hY => ?_)
  refine W.widen (k := 100 + 3 * i) (n := 12200 + i + 2 * lsum σ) (Nat.le_refl _) (Nat.le_refl _) ?_
  obtain ⟨rfl, hu⟩ := hw
  rw [hu] at hY
  clear hu
  refine lv_aload_n hx hb dL_law_411 rfl (lv_at hl 2 rfl) ?_
  refine lv_aload_n hx hb dL_law_412 rfl (lv_at hl 0 rfl) ?_
  refine lv_iload hx hb dL_law_413 (lv_at hl 4 rfl) ?_
  refine lv_iconst (v := nI 1) hx hb dL_law_415 (by decide +kernel) ?_
  refine n_iadd hx hb dL_law_416 ?_
  refine s_ld hx hb hX hbl hY (by omega) hL dL_law_417 ?_
  have hY := WY.swap hY
  refine z_calli (C := RX4) hx hb hml hU hown hY (c_X4_repetitions l D cy bd μ _ (x := xs (i + 1)) w6 w3.1) umL_82 ui_X4_repetitions us_X4_repetitions unX4 uc_X4_repetitions hd_X4_repetitions ⟨Nat.le_of_ble_eq_true rfl, Nat.le_of_ble_eq_true rfl⟩ (hY.recv (i := 0) (by decide) rfl rfl) hl.1 rfl (Nat.le_of_ble_eq_true rfl) dL_law_418 ⟨by show 100 + 3 * i + 0 ≤ 601024; omega, by show 12200 + i + 2 * lsum σ + 0 ≤ 7293034; omega⟩ (fun r u H locs hw hY => ?_)
  refine W.widen (k := 100 + 3 * i) (n := 12200 + i + 2 * lsum σ) (Nat.le_refl _) (Nat.le_refl _) ?_
  obtain ⟨rfl, hu⟩ := hw
  rw [hu] at hY
  clear hu
  have hY := WY.swap hY
  refine lv_icmp_eq (tgt := 619) hx hb dL_law_421 (by decide) (fun _ => ?_) (fun z => absurd (k8 _) z)
  refine W.widen (k := 100 + 3 * i + 13) (n := 12200 + i + 6 + 2 * lsum σ) (by omega) (by omega) ?_
  exact K _ _ _ _ _ _ (hR.m2 0) hY hl
set_option maxRecDepth 100000 in
set_option maxHeartbeats 4000000 in
theorem lc_bound {p : Program} {l : Launch} {ev : Env} {s : State} {m : MethodId} {below : List Frame} {meth : Method} {c : Code} {D : va_G} {cy : Nat → ClassId} {ad bd : Nat → Nat} {o b L : Nat} {xs : Nat → Int32} (C0 : lw_At p s m meth c b L xs) (hL : L ≤ 3072) (hst : l.stackTraces = false) (hTh : ThF (lA s) s) (hNc : NcF s) {i : Nat} (hi : i + 6 ≤ L) {σ : TS} {μ : MS} {v : Int64} (hR : Rel 0 σ μ) {H : Heap} {locs : List Loc} {ls : Array Slot} (hY : LX D cy ad bd o s H locs σ μ v) (hl : lv_has ls 7 [(0, .ref b), (1, .ref (ad 0)), (2, .ref (bd 0)), (3, .ref o), (4, .int (nI i))])
    (K : ∀ (σ : TS) (μ : MS) (v : Int64) (H : Heap) (locs : List Loc) (ls : Array Slot), Rel 0 σ μ → LX D cy ad bd o s H locs σ μ v → lv_has ls 7 [(0, .ref b), (1, .ref (ad 0)), (2, .ref (bd 0)), (3, .ref o), (4, .int (nI i))] → W p l ev room_1 s m #[Value.ref b] below meth c H locs (100 + 3 * i + 13) (12200 + i + 6 + 2 * lsum σ) (lw_Z below #[Value.ref b] s) (F0 m 619 ls [])) : W p l ev room_1 s m #[Value.ref b] below meth c H locs (100 + 3 * i) (12200 + i + 2 * lsum σ) (lw_Z below #[Value.ref b] s) (F0 m 426 ls []) := by
  obtain ⟨hx, hb, hr, hml, hown, hts, hX, hbl, hlk, hgv⟩ := C0
  have hU : ∀ w ∈ UW, w.before #[Value.ref b] s = true := fun w hw => hts w (List.mem_filter.mp hw).1
  have hown : s.vm.findClass RL = some m.cls := hown
  have hls := hR.lsum_le
  obtain ⟨w1, w2, w3, w4, w5, w6⟩ := hR.wf
  obtain ⟨k1, k2, k3, k4, k5, k6, k7, k8, k9, k10⟩ := ask_sim hR
  refine lv_aload_n hx hb dL_law_426 rfl (lv_at hl 1 rfl) ?_
  refine lv_aload_n hx hb dL_law_427 rfl (lv_at hl 0 rfl) ?_
  refine lv_iload hx hb dL_law_428 (lv_at hl 4 rfl) ?_
  refine lv_iconst (v := nI 1) hx hb dL_law_430 (by decide +kernel) ?_
  refine n_iadd hx hb dL_law_431 ?_
  refine s_ld hx hb hX hbl hY (by omega) hL dL_law_432 ?_
  refine z_calli (C := RX3) hx hb hml hU hown hY (c_X3_bound l D cy ad σ _ (x := xs (i + 1)) w1.2.2.1 w1.2.1) umL_83 ui_X3_bound us_X3_bound unX3 uc_X3_bound hd_X3_bound ⟨Nat.le_of_ble_eq_true rfl, Nat.le_of_ble_eq_true rfl⟩ (hY.recv (i := 0) (by decide) rfl rfl) hl.1 rfl (Nat.le_of_ble_eq_true rfl) dL_law_433 ⟨by show 100 + 3 * i + 0 ≤ 601024; omega, by show 12200 + i + 2 * lsum σ + 0 ≤ 7293034; omega⟩ (fun r u H locs hw hY => ?_)
  refine W.widen (k := 100 + 3 * i) (n := 12200 + i + 2 * lsum σ) (Nat.le_refl _) (Nat.le_refl _) ?_
  obtain ⟨rfl, hu⟩ := hw
  rw [hu] at hY
  clear hu
  refine lv_aload_n hx hb dL_law_436 rfl (lv_at hl 2 rfl) ?_
  refine lv_aload_n hx hb dL_law_437 rfl (lv_at hl 0 rfl) ?_
  refine lv_iload hx hb dL_law_438 (lv_at hl 4 rfl) ?_
  refine lv_iconst (v := nI 1) hx hb dL_law_440 (by decide +kernel) ?_
  refine n_iadd hx hb dL_law_441 ?_
  refine s_ld hx hb hX hbl hY (by omega) hL dL_law_442 ?_
  have hY := WY.swap hY
  refine z_calli (C := RX4) hx hb hml hU hown hY (c_X4_bound l D cy bd μ _ (x := xs (i + 1)) w6 w3.2) umL_86 ui_X4_bound us_X4_bound unX4 uc_X4_bound hd_X4_bound ⟨Nat.le_of_ble_eq_true rfl, Nat.le_of_ble_eq_true rfl⟩ (hY.recv (i := 0) (by decide) rfl rfl) hl.1 rfl (Nat.le_of_ble_eq_true rfl) dL_law_443 ⟨by show 100 + 3 * i + 0 ≤ 601024; omega, by show 12200 + i + 2 * lsum σ + 0 ≤ 7293034; omega⟩ (fun r u H locs hw hY => ?_)
  refine W.widen (k := 100 + 3 * i) (n := 12200 + i + 2 * lsum σ) (Nat.le_refl _) (Nat.le_refl _) ?_
  obtain ⟨rfl, hu⟩ := hw
  rw [hu] at hY
  clear hu
  have hY := WY.swap hY
  refine lv_icmp_eq (tgt := 619) hx hb dL_law_446 (by decide) (fun _ => ?_) (fun z => absurd (k9 _) z)
  refine W.widen (k := 100 + 3 * i + 13) (n := 12200 + i + 6 + 2 * lsum σ) (by omega) (by omega) ?_
  exact K _ _ _ _ _ _ (hR.m2 0) hY hl
set_option maxRecDepth 100000 in
set_option maxHeartbeats 4000000 in
theorem lc_tokens {p : Program} {l : Launch} {ev : Env} {s : State} {m : MethodId} {below : List Frame} {meth : Method} {c : Code} {D : va_G} {cy : Nat → ClassId} {ad bd : Nat → Nat} {o b L : Nat} {xs : Nat → Int32} (C0 : lw_At p s m meth c b L xs) (hL : L ≤ 3072) (hst : l.stackTraces = false) (hTh : ThF (lA s) s) (hNc : NcF s) {i : Nat} (hi : i + 6 ≤ L) {σ : TS} {μ : MS} {v : Int64} (hR : Rel 0 σ μ) {H : Heap} {locs : List Loc} {ls : Array Slot} (hY : LX D cy ad bd o s H locs σ μ v) (hl : lv_has ls 7 [(0, .ref b), (1, .ref (ad 0)), (2, .ref (bd 0)), (3, .ref o), (4, .int (nI i))])
    (K : ∀ (σ : TS) (μ : MS) (v : Int64) (H : Heap) (locs : List Loc) (ls : Array Slot), Rel 0 σ μ → LX D cy ad bd o s H locs σ μ v → lv_has ls 7 [(0, .ref b), (1, .ref (ad 0)), (2, .ref (bd 0)), (3, .ref o), (4, .int (nI i))] → W p l ev room_1 s m #[Value.ref b] below meth c H locs (100 + 3 * i + 13) (12200 + i + 6 + 2 * lsum σ) (lw_Z below #[Value.ref b] s) (F0 m 619 ls [])) : W p l ev room_1 s m #[Value.ref b] below meth c H locs (100 + 3 * i) (12200 + i + 2 * lsum σ) (lw_Z below #[Value.ref b] s) (F0 m 507 ls []) := by
  obtain ⟨hx, hb, hr, hml, hown, hts, hX, hbl, hlk, hgv⟩ := C0
  have hU : ∀ w ∈ UW, w.before #[Value.ref b] s = true := fun w hw => hts w (List.mem_filter.mp hw).1
  have hown : s.vm.findClass RL = some m.cls := hown
  have hls := hR.lsum_le
  obtain ⟨w1, w2, w3, w4, w5, w6⟩ := hR.wf
  obtain ⟨k1, k2, k3, k4, k5, k6, k7, k8, k9, k10⟩ := ask_sim hR
  refine lv_aload_n hx hb dL_law_507 rfl (lv_at hl 1 rfl) ?_
  refine lv_aload_n hx hb dL_law_508 rfl (lv_at hl 0 rfl) ?_
  refine lv_iload hx hb dL_law_509 (lv_at hl 4 rfl) ?_
  refine lv_iconst (v := nI 1) hx hb dL_law_511 (by decide +kernel) ?_
  refine n_iadd hx hb dL_law_512 ?_
  refine s_ld hx hb hX hbl hY (by omega) hL dL_law_513 ?_
  refine z_calli (C := RX3) hx hb hml hU hown hY (c_X3_tokens l D cy ad σ _ (x := xs (i + 1)) w1.2.1) umL_91 ui_X3_tokens us_X3_tokens unX3 uc_X3_tokens hd_X3_tokens ⟨Nat.le_of_ble_eq_true rfl, Nat.le_of_ble_eq_true rfl⟩ (hY.recv (i := 0) (by decide) rfl rfl) hl.1 rfl (Nat.le_of_ble_eq_true rfl) dL_law_514 ⟨by show 100 + 3 * i + 0 ≤ 601024; omega, by show 12200 + i + 2 * lsum σ + 0 ≤ 7293034; omega⟩ (fun r u H locs hw hY => ?_)
  refine W.widen (k := 100 + 3 * i) (n := 12200 + i + 2 * lsum σ) (Nat.le_refl _) (Nat.le_refl _) ?_
  obtain ⟨rfl, hu⟩ := hw
  rw [hu] at hY
  clear hu
  refine lv_aload_n hx hb dL_law_517 rfl (lv_at hl 2 rfl) ?_
  refine lv_aload_n hx hb dL_law_518 rfl (lv_at hl 0 rfl) ?_
  refine lv_iload hx hb dL_law_519 (lv_at hl 4 rfl) ?_
  refine lv_iconst (v := nI 1) hx hb dL_law_521 (by decide +kernel) ?_
  refine n_iadd hx hb dL_law_522 ?_
  refine s_ld hx hb hX hbl hY (by omega) hL dL_law_523 ?_
  have hY := WY.swap hY
  refine z_calli (C := RX4) hx hb hml hU hown hY (c_X4_tokens l D cy bd μ _ (x := xs (i + 1)) w3.2) umL_94 ui_X4_tokens us_X4_tokens unX4 uc_X4_tokens hd_X4_tokens ⟨Nat.le_of_ble_eq_true rfl, Nat.le_of_ble_eq_true rfl⟩ (hY.recv (i := 0) (by decide) rfl rfl) hl.1 rfl (Nat.le_of_ble_eq_true rfl) dL_law_524 ⟨by show 100 + 3 * i + 0 ≤ 601024; omega, by show 12200 + i + 2 * lsum σ + 0 ≤ 7293034; omega⟩ (fun r u H locs hw hY => ?_)
  refine W.widen (k := 100 + 3 * i) (n := 12200 + i + 2 * lsum σ) (Nat.le_refl _) (Nat.le_refl _) ?_
  obtain ⟨rfl, hu⟩ := hw
  rw [hu] at hY
  clear hu
  have hY := WY.swap hY
  refine lv_icmp_eq (tgt := 619) hx hb dL_law_527 (by decide) (fun _ => ?_) (fun z => absurd (k6 _) z)
  refine W.widen (k := 100 + 3 * i + 13) (n := 12200 + i + 6 + 2 * lsum σ) (by omega) (by omega) ?_
  exact K _ _ _ _ _ _ (hR.m2 0) hY hl
set_option maxRecDepth 100000 in
set_option maxHeartbeats 4000000 in
theorem lc_token {p : Program} {l : Launch} {ev : Env} {s : State} {m : MethodId} {below : List Frame} {meth : Method} {c : Code} {D : va_G} {cy : Nat → ClassId} {ad bd : Nat → Nat} {o b L : Nat} {xs : Nat → Int32} (C0 : lw_At p s m meth c b L xs) (hL : L ≤ 3072) (hst : l.stackTraces = false) (hTh : ThF (lA s) s) (hNc : NcF s) {i : Nat} (hi : i + 6 ≤ L) {σ : TS} {μ : MS} {v : Int64} (hR : Rel 0 σ μ) {H : Heap} {locs : List Loc} {ls : Array Slot} (hY : LX D cy ad bd o s H locs σ μ v) (hl : lv_has ls 7 [(0, .ref b), (1, .ref (ad 0)), (2, .ref (bd 0)), (3, .ref o), (4, .int (nI i))])
    (K : ∀ (σ : TS) (μ : MS) (v : Int64) (H : Heap) (locs : List Loc) (ls : Array Slot), Rel 0 σ μ → LX D cy ad bd o s H locs σ μ v → lv_has ls 7 [(0, .ref b), (1, .ref (ad 0)), (2, .ref (bd 0)), (3, .ref o), (4, .int (nI i))] → W p l ev room_1 s m #[Value.ref b] below meth c H locs (100 + 3 * i + 13) (12200 + i + 6 + 2 * lsum σ) (lw_Z below #[Value.ref b] s) (F0 m 619 ls [])) : W p l ev room_1 s m #[Value.ref b] below meth c H locs (100 + 3 * i) (12200 + i + 2 * lsum σ) (lw_Z below #[Value.ref b] s) (F0 m 532 ls []) := by
  obtain ⟨hx, hb, hr, hml, hown, hts, hX, hbl, hlk, hgv⟩ := C0
  have hU : ∀ w ∈ UW, w.before #[Value.ref b] s = true := fun w hw => hts w (List.mem_filter.mp hw).1
  have hown : s.vm.findClass RL = some m.cls := hown
  have hls := hR.lsum_le
  obtain ⟨w1, w2, w3, w4, w5, w6⟩ := hR.wf
  obtain ⟨k1, k2, k3, k4, k5, k6, k7, k8, k9, k10⟩ := ask_sim hR
  refine lv_aload_n hx hb dL_law_532 rfl (lv_at hl 1 rfl) ?_
  refine lv_aload_n hx hb dL_law_533 rfl (lv_at hl 0 rfl) ?_
  refine lv_iload hx hb dL_law_534 (lv_at hl 4 rfl) ?_
  refine lv_iconst (v := nI 1) hx hb dL_law_536 (by decide +kernel) ?_
  refine n_iadd hx hb dL_law_537 ?_
  refine s_ld hx hb hX hbl hY (by omega) hL dL_law_538 ?_
  refine lv_aload_n hx hb dL_law_539 rfl (lv_at hl 0 rfl) ?_
  refine lv_iload hx hb dL_law_540 (lv_at hl 4 rfl) ?_
  refine lv_iconst (v := nI 2) hx hb dL_law_542 (by decide +kernel) ?_
  refine n_iadd hx hb dL_law_543 ?_
  refine s_ld hx hb hX hbl hY (by omega) hL dL_law_544 ?_
  refine z_calli (C := RX3) hx hb hml hU hown hY (c_X3_token l D cy ad σ _ (x := xs (i + 1)) (y := xs (i + 2)) w1.2.1 w4) umL_95 ui_X3_token us_X3_token unX3 uc_X3_token hd_X3_token ⟨Nat.le_of_ble_eq_true rfl, Nat.le_of_ble_eq_true rfl⟩ (hY.recv (i := 0) (by decide) rfl rfl) hl.1 rfl (Nat.le_of_ble_eq_true rfl) dL_law_545 ⟨by show 100 + 3 * i + 0 ≤ 601024; omega, by show 12200 + i + 2 * lsum σ + 0 ≤ 7293034; omega⟩ (fun r u H locs hw hY => ?_)
  refine W.widen (k := 100 + 3 * i) (n := 12200 + i + 2 * lsum σ) (Nat.le_refl _) (Nat.le_refl _) ?_
  obtain ⟨rfl, hu⟩ := hw
  rw [hu] at hY
  clear hu
  refine lv_aload_n hx hb dL_law_548 rfl (lv_at hl 2 rfl) ?_
  refine lv_aload_n hx hb dL_law_549 rfl (lv_at hl 0 rfl) ?_
  refine lv_iload hx hb dL_law_550 (lv_at hl 4 rfl) ?_
  refine lv_iconst (v := nI 1) hx hb dL_law_552 (by decide +kernel) ?_
  refine n_iadd hx hb dL_law_553 ?_
  refine s_ld hx hb hX hbl hY (by omega) hL dL_law_554 ?_
  refine lv_aload_n hx hb dL_law_555 rfl (lv_at hl 0 rfl) ?_
  refine lv_iload hx hb dL_law_556 (lv_at hl 4 rfl) ?_
  refine lv_iconst (v := nI 2) hx hb dL_law_558 (by decide +kernel) ?_
  refine n_iadd hx hb dL_law_559 ?_
  refine s_ld hx hb hX hbl hY (by omega) hL dL_law_560 ?_
  have hY := WY.swap hY
  refine z_calli (C := RX4) hx hb hml hU hown hY (c_X4_token l D cy bd μ _ (x := xs (i + 1)) (y := xs (i + 2)) w3.2 w5) umL_98 ui_X4_token us_X4_token unX4 uc_X4_token hd_X4_token ⟨Nat.le_of_ble_eq_true rfl, Nat.le_of_ble_eq_true rfl⟩ (hY.recv (i := 0) (by decide) rfl rfl) hl.1 rfl (Nat.le_of_ble_eq_true rfl) dL_law_561 ⟨by show 100 + 3 * i + 0 ≤ 601024; omega, by show 12200 + i + 2 * lsum σ + 0 ≤ 7293034; omega⟩ (fun r u H locs hw hY => ?_)
  refine W.widen (k := 100 + 3 * i) (n := 12200 + i + 2 * lsum σ) (Nat.le_refl _) (Nat.le_refl _) ?_
  obtain ⟨rfl, hu⟩ := hw
  rw [hu] at hY
  clear hu
  have hY := WY.swap hY
  refine lv_icmp_eq (tgt := 619) hx hb dL_law_564 (by decide) (fun _ => ?_) (fun z => absurd (k10 _ _) z)
  refine W.widen (k := 100 + 3 * i + 13) (n := 12200 + i + 6 + 2 * lsum σ) (by omega) (by omega) ?_
  exact K _ _ _ _ _ _ (hR.m2 0) hY hl
set_option maxRecDepth 100000 in
set_option maxHeartbeats 4000000 in
theorem lc_value {p : Program} {l : Launch} {ev : Env} {s : State} {m : MethodId} {below : List Frame} {meth : Method} {c : Code} {D : va_G} {cy : Nat → ClassId} {ad bd : Nat → Nat} {o b L : Nat} {xs : Nat → Int32} (C0 : lw_At p s m meth c b L xs) (hL : L ≤ 3072) (hst : l.stackTraces = false) (hTh : ThF (lA s) s) (hNc : NcF s) {i : Nat} (hi : i + 6 ≤ L) {σ : TS} {μ : MS} {v : Int64} (hR : Rel 0 σ μ) {H : Heap} {locs : List Loc} {ls : Array Slot} (hY : LX D cy ad bd o s H locs σ μ v) (hl : lv_has ls 7 [(0, .ref b), (1, .ref (ad 0)), (2, .ref (bd 0)), (3, .ref o), (4, .int (nI i))])
    (K : ∀ (σ : TS) (μ : MS) (v : Int64) (H : Heap) (locs : List Loc) (ls : Array Slot), Rel 0 σ μ → LX D cy ad bd o s H locs σ μ v → lv_has ls 7 [(0, .ref b), (1, .ref (ad 0)), (2, .ref (bd 0)), (3, .ref o), (4, .int (nI i))] → W p l ev room_1 s m #[Value.ref b] below meth c H locs (100 + 3 * i + 13) (12200 + i + 6 + 2 * lsum σ) (lw_Z below #[Value.ref b] s) (F0 m 619 ls [])) : W p l ev room_1 s m #[Value.ref b] below meth c H locs (100 + 3 * i) (12200 + i + 2 * lsum σ) (lw_Z below #[Value.ref b] s) (F0 m 569 ls []) := by
  obtain ⟨hx, hb, hr, hml, hown, hts, hX, hbl, hlk, hgv⟩ := C0
  have hU : ∀ w ∈ UW, w.before #[Value.ref b] s = true := fun w hw => hts w (List.mem_filter.mp hw).1
  have hown : s.vm.findClass RL = some m.cls := hown
  have hls := hR.lsum_le
  obtain ⟨w1, w2, w3, w4, w5, w6⟩ := hR.wf
  obtain ⟨k1, k2, k3, k4, k5, k6, k7, k8, k9, k10⟩ := ask_sim hR
  refine lv_aload_n hx hb dL_law_569 rfl (lv_at hl 1 rfl) ?_
  refine lv_aload_n hx hb dL_law_570 rfl (lv_at hl 0 rfl) ?_
  refine lv_iload hx hb dL_law_571 (lv_at hl 4 rfl) ?_
  refine lv_iconst (v := nI 1) hx hb dL_law_573 (by decide +kernel) ?_
  refine n_iadd hx hb dL_law_574 ?_
  refine s_ld hx hb hX hbl hY (by omega) hL dL_law_575 ?_
  refine z_calli (C := RX3) hx hb hml hU hown hY (c_X3_value l D cy ad σ _ (x := xs (i + 1)) w1.1) umL_99 ui_X3_value us_X3_value unX3 uc_X3_value hd_X3_value ⟨Nat.le_of_ble_eq_true rfl, Nat.le_of_ble_eq_true rfl⟩ (hY.recv (i := 0) (by decide) rfl rfl) hl.1 rfl (Nat.le_of_ble_eq_true rfl) dL_law_576 ⟨by show 100 + 3 * i + 0 ≤ 601024; omega, by show 12200 + i + 2 * lsum σ + 0 ≤ 7293034; omega⟩ (fun r u H locs hw hY => ?_)
  refine W.widen (k := 100 + 3 * i) (n := 12200 + i + 2 * lsum σ) (Nat.le_refl _) (Nat.le_refl _) ?_
  obtain ⟨rfl, hu⟩ := hw
  rw [hu] at hY
  clear hu
  refine lv_aload_n hx hb dL_law_579 rfl (lv_at hl 2 rfl) ?_
  refine lv_aload_n hx hb dL_law_580 rfl (lv_at hl 0 rfl) ?_
  refine lv_iload hx hb dL_law_581 (lv_at hl 4 rfl) ?_
  refine lv_iconst (v := nI 1) hx hb dL_law_583 (by decide +kernel) ?_
  refine n_iadd hx hb dL_law_584 ?_
  refine s_ld hx hb hX hbl hY (by omega) hL dL_law_585 ?_
  have hY := WY.swap hY
  refine z_calli (C := RX4) hx hb hml hU hown hY (c_X4_value l D cy bd μ _ (x := xs (i + 1)) w3.1) umL_102 ui_X4_value us_X4_value unX4 uc_X4_value hd_X4_value ⟨Nat.le_of_ble_eq_true rfl, Nat.le_of_ble_eq_true rfl⟩ (hY.recv (i := 0) (by decide) rfl rfl) hl.1 rfl (Nat.le_of_ble_eq_true rfl) dL_law_586 ⟨by show 100 + 3 * i + 0 ≤ 601024; omega, by show 12200 + i + 2 * lsum σ + 0 ≤ 7293034; omega⟩ (fun r u H locs hw hY => ?_)
  refine W.widen (k := 100 + 3 * i) (n := 12200 + i + 2 * lsum σ) (Nat.le_refl _) (Nat.le_refl _) ?_
  obtain ⟨rfl, hu⟩ := hw
  rw [hu] at hY
  clear hu
  have hY := WY.swap hY
  refine lv_icmp_eq (tgt := 619) hx hb dL_law_589 (by decide) (fun _ => ?_) (fun z => absurd (k4 _) z)
  refine W.widen (k := 100 + 3 * i + 13) (n := 12200 + i + 6 + 2 * lsum σ) (by omega) (by omega) ?_
  exact K _ _ _ _ _ _ (hR.m2 0) hY hl
set_option maxRecDepth 100000 in
set_option maxHeartbeats 4000000 in
theorem lc_state {p : Program} {l : Launch} {ev : Env} {s : State} {m : MethodId} {below : List Frame} {meth : Method} {c : Code} {D : va_G} {cy : Nat → ClassId} {ad bd : Nat → Nat} {o b L : Nat} {xs : Nat → Int32} (C0 : lw_At p s m meth c b L xs) (hL : L ≤ 3072) (hst : l.stackTraces = false) (hTh : ThF (lA s) s) (hNc : NcF s) {i : Nat} (hi : i + 6 ≤ L) {σ : TS} {μ : MS} {v : Int64} (hR : Rel 0 σ μ) {H : Heap} {locs : List Loc} {ls : Array Slot} (hY : LX D cy ad bd o s H locs σ μ v) (hl : lv_has ls 7 [(0, .ref b), (1, .ref (ad 0)), (2, .ref (bd 0)), (3, .ref o), (4, .int (nI i))])
    (K : ∀ (σ : TS) (μ : MS) (v : Int64) (H : Heap) (locs : List Loc) (ls : Array Slot), Rel 0 σ μ → LX D cy ad bd o s H locs σ μ v → lv_has ls 7 [(0, .ref b), (1, .ref (ad 0)), (2, .ref (bd 0)), (3, .ref o), (4, .int (nI i))] → W p l ev room_1 s m #[Value.ref b] below meth c H locs (100 + 3 * i + 13) (12200 + i + 6 + 2 * lsum σ) (lw_Z below #[Value.ref b] s) (F0 m 619 ls [])) : W p l ev room_1 s m #[Value.ref b] below meth c H locs (100 + 3 * i) (12200 + i + 2 * lsum σ) (lw_Z below #[Value.ref b] s) (F0 m 594 ls []) := by
  obtain ⟨hx, hb, hr, hml, hown, hts, hX, hbl, hlk, hgv⟩ := C0
  have hU : ∀ w ∈ UW, w.before #[Value.ref b] s = true := fun w hw => hts w (List.mem_filter.mp hw).1
  have hown : s.vm.findClass RL = some m.cls := hown
  have hls := hR.lsum_le
  obtain ⟨w1, w2, w3, w4, w5, w6⟩ := hR.wf
  obtain ⟨k1, k2, k3, k4, k5, k6, k7, k8, k9, k10⟩ := ask_sim hR
  refine lv_aload_n hx hb dL_law_594 rfl (lv_at hl 1 rfl) ?_
  refine lv_aload_n hx hb dL_law_595 rfl (lv_at hl 0 rfl) ?_
  refine lv_iload hx hb dL_law_596 (lv_at hl 4 rfl) ?_
  refine lv_iconst (v := nI 1) hx hb dL_law_598 (by decide +kernel) ?_
  refine n_iadd hx hb dL_law_599 ?_
  refine s_ld hx hb hX hbl hY (by omega) hL dL_law_600 ?_
  refine z_calli (C := RX3) hx hb hml hU hown hY (c_X3_state l D cy ad σ _ (x := xs (i + 1)) w1.1) umL_103 ui_X3_state us_X3_state unX3 uc_X3_state hd_X3_state ⟨Nat.le_of_ble_eq_true rfl, Nat.le_of_ble_eq_true rfl⟩ (hY.recv (i := 0) (by decide) rfl rfl) hl.1 rfl (Nat.le_of_ble_eq_true rfl) dL_law_601 ⟨by show 100 + 3 * i + 0 ≤ 601024; omega, by show 12200 + i + 2 * lsum σ + 0 ≤ 7293034; omega⟩ (fun r u H locs hw hY => ?_)
  refine W.widen (k := 100 + 3 * i) (n := 12200 + i + 2 * lsum σ) (Nat.le_refl _) (Nat.le_refl _) ?_
  obtain ⟨rfl, hu⟩ := hw
  rw [hu] at hY
  clear hu
  refine lv_aload_n hx hb dL_law_604 rfl (lv_at hl 2 rfl) ?_
  refine lv_aload_n hx hb dL_law_605 rfl (lv_at hl 0 rfl) ?_
  refine lv_iload hx hb dL_law_606 (lv_at hl 4 rfl) ?_
  refine lv_iconst (v := nI 1) hx hb dL_law_608 (by decide +kernel) ?_
  refine n_iadd hx hb dL_law_609 ?_
  refine s_ld hx hb hX hbl hY (by omega) hL dL_law_610 ?_
  have hY := WY.swap hY
  refine z_calli (C := RX4) hx hb hml hU hown hY (c_X4_state l D cy bd μ _ (x := xs (i + 1)) w3.1) umL_106 ui_X4_state us_X4_state unX4 uc_X4_state hd_X4_state ⟨Nat.le_of_ble_eq_true rfl, Nat.le_of_ble_eq_true rfl⟩ (hY.recv (i := 0) (by decide) rfl rfl) hl.1 rfl (Nat.le_of_ble_eq_true rfl) dL_law_611 ⟨by show 100 + 3 * i + 0 ≤ 601024; omega, by show 12200 + i + 2 * lsum σ + 0 ≤ 7293034; omega⟩ (fun r u H locs hw hY => ?_)
  refine W.widen (k := 100 + 3 * i) (n := 12200 + i + 2 * lsum σ) (Nat.le_refl _) (Nat.le_refl _) ?_
  obtain ⟨rfl, hu⟩ := hw
  rw [hu] at hY
  clear hu
  have hY := WY.swap hY
  refine lv_icmp_eq (tgt := 619) hx hb dL_law_614 (by decide) (fun _ => ?_) (fun z => absurd (k5 _) z)
  refine W.widen (k := 100 + 3 * i + 13) (n := 12200 + i + 6 + 2 * lsum σ) (by omega) (by omega) ?_
  exact K _ _ _ _ _ _ (hR.m2 0) hY hl
