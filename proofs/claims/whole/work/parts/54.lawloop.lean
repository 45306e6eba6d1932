/-! ===== the law's loop ===== -/
set_option maxRecDepth 100000 in
set_option maxHeartbeats 4000000 in
theorem law_loop {p : Program} {l : Launch} {ev : Env} {s : State} {m : MethodId} {below : List Frame} {meth : Method} {c : Code} {D : va_G} {cy : Nat → ClassId} {ad bd : Nat → Nat} {o b L : Nat} {xs : Nat → Int32} (C0 : lw_At p s m meth c b L xs) (hL : L ≤ 3072) (hst : l.stackTraces = false) (hTh : ThF (lA s) s) (hNc : NcF s) : ∀ (n i : Nat) (σ : TS) (μ : MS) (v : Int64) (H : Heap) (locs : List Loc) (ls : Array Slot), i ≤ L → L + 1 ≤ i + n → Rel 0 σ μ → LX D cy ad bd o s H locs σ μ v → lv_has ls 7 [(0, .ref b), (1, .ref (ad 0)), (2, .ref (bd 0)), (3, .ref o), (4, .int (nI i))] → W p l ev room_1 s m #[Value.ref b] below meth c H locs (100 + 3 * i) (12200 + i + 2 * lsum σ) (lw_Z below #[Value.ref b] s) (F0 m 23 ls []) := by
  intro n
  induction n with
  | zero => intro i σ μ v H locs ls h1 h2; exact absurd h2 (by omega)
  | succ n ih =>
    intro i σ μ v H locs ls h1 h2 hR hY hl
    have C1 := C0
    obtain ⟨hx, hb, hr, hml, hown, hts, hX, hbl, hlk, hgv⟩ := C1
    have hls := hR.lsum_le
    refine lv_iload hx hb dL_law_23 (lv_at hl 4 rfl) ?_
    refine lv_aload_n hx hb dL_law_25 rfl (lv_at hl 0 rfl) ?_
    refine s_len hx hb hX hbl hY dL_law_26 ?_
    refine lv_bipush (v := nI 6) hx hb dL_law_27 (by decide +kernel) ?_
    refine lv_isub hx hb dL_law_29 ?_
    refine lv_icmp_gt (tgt := 625) hx hb dL_law_30 (by decide) (fun c_30 => ?_) (fun c_30 => ?_)
    · refine lv_iconst (v := 1) hx hb dL_law_625 (by decide +kernel) ?_
      refine va_forget (fun q hq => hY.2.2.2.2.2.2 q hq) ?_
      refine W.widen (k := 601024) (n := 7293034) (by omega) (by omega) ?_
      exact lw_ret hx hb hr hlk dL_law_626
    · have hi : i + 6 ≤ L := by
        rw [Int32.lt_iff_toInt_lt, pk_sub_toInt (by omega) (by omega), nI_toInt (by omega)] at c_30
        omega
      have K : ∀ (σ : TS) (μ : MS) (v : Int64) (H : Heap) (locs : List Loc) (ls : Array Slot), Rel 0 σ μ → LX D cy ad bd o s H locs σ μ v → lv_has ls 7 [(0, .ref b), (1, .ref (ad 0)), (2, .ref (bd 0)), (3, .ref o), (4, .int (nI i))] → W p l ev room_1 s m #[Value.ref b] below meth c H locs (100 + 3 * i + 13) (12200 + i + 6 + 2 * lsum σ) (lw_Z below #[Value.ref b] s) (F0 m 619 ls []) := by
        intro σ μ v H locs ls hR hY hl
        refine lv_iinc (v := nI (i + 6)) (lv' := [(4, .int (nI (i + 6))), (0, .ref b), (1, .ref (ad 0)), (2, .ref (bd 0)), (3, .ref o)]) hx hb dL_law_619 hl (k := 4) rfl (by rw [← nI_add]; rfl) (by decide) rfl (fun ls hl => ?_)
        refine lv_goto (tgt := 23) hx hb dL_law_622 (by decide) ?_
        refine W.widen (k := 100 + 3 * (i + 6)) (n := 12200 + (i + 6) + 2 * lsum σ) (by omega) (by omega) ?_
        exact ih (i + 6) σ μ v _ _ _ hi (by omega) hR hY (lv_sub hl [1, 2, 3, 4, 0] rfl)
      refine lv_aload_n hx hb dL_law_33 rfl (lv_at hl 0 rfl) ?_
      refine lv_iload hx hb dL_law_34 (lv_at hl 4 rfl) ?_
      refine s_ld hx hb hX hbl hY (by omega) hL dL_law_36 ?_
      refine lv_bipush (v := nI 31) hx hb dL_law_37 (by decide +kernel) ?_
      refine lv_iand hx hb dL_law_39 ?_
      generalize xs i &&& nI 31 = x
      by_cases hk : ∃ k : Nat, k ≤ 16 ∧ x = nI k
      · obtain ⟨k, hk, e⟩ := hk
        rcases (show k = 0 ∨ k = 1 ∨ k = 2 ∨ k = 3 ∨ k = 4 ∨ k = 5 ∨ k = 6 ∨ k = 7 ∨ k = 8 ∨ k = 9 ∨ k = 10 ∨ k = 11 ∨ k = 12 ∨ k = 13 ∨ k = 14 ∨ k = 15 ∨ k = 16 by omega) with rfl | rfl | rfl | rfl | rfl | rfl | rfl | rfl | rfl | rfl | rfl | rfl | rfl | rfl | rfl | rfl | rfl
        · refine lv_tableIn (off := 84) (tgt := 124) hx hb dL_law_40 (by rw [e]; decide +kernel) (by rw [e]; decide +kernel) (by rw [e]; decide +kernel) (by decide) ?_
          exact lc_actor C0 hL hst hTh hNc hi hR hY hl K
        · refine lv_tableIn (off := 121) (tgt := 161) hx hb dL_law_40 (by rw [e]; decide +kernel) (by rw [e]; decide +kernel) (by rw [e]; decide +kernel) (by decide) ?_
          exact lc_edge C0 hL hst hTh hNc hi hR hY hl K
        · refine lv_tableIn (off := 194) (tgt := 234) hx hb dL_law_40 (by rw [e]; decide +kernel) (by rw [e]; decide +kernel) (by rw [e]; decide +kernel) (by decide) ?_
          exact lc_delay C0 hL hst hTh hNc hi hR hY hl K
        · refine lv_tableIn (off := 231) (tgt := 271) hx hb dL_law_40 (by rw [e]; decide +kernel) (by rw [e]; decide +kernel) (by rw [e]; decide +kernel) (by decide) ?_
          exact lc_reset C0 hL hst hTh hNc hi hR hY hl K
        · refine lv_tableIn (off := 242) (tgt := 282) hx hb dL_law_40 (by rw [e]; decide +kernel) (by rw [e]; decide +kernel) (by rw [e]; decide +kernel) (by decide) ?_
          exact lc_clear C0 hL hst hTh hNc hi hR hY hl K
        · refine lv_tableIn (off := 253) (tgt := 293) hx hb dL_law_40 (by rw [e]; decide +kernel) (by rw [e]; decide +kernel) (by rw [e]; decide +kernel) (by decide) ?_
          exact lc_actors C0 hL hst hTh hNc hi hR hY hl K
        · refine lv_tableIn (off := 266) (tgt := 306) hx hb dL_law_40 (by rw [e]; decide +kernel) (by rw [e]; decide +kernel) (by rw [e]; decide +kernel) (by decide) ?_
          exact lc_edges C0 hL hst hTh hNc hi hR hY hl K
        · refine lv_tableIn (off := 279) (tgt := 319) hx hb dL_law_40 (by rw [e]; decide +kernel) (by rw [e]; decide +kernel) (by rw [e]; decide +kernel) (by decide) ?_
          exact lc_plan C0 hL hst hTh hNc hi hR hY hl K
        · refine lv_tableIn (off := 323) (tgt := 363) hx hb dL_law_40 (by rw [e]; decide +kernel) (by rw [e]; decide +kernel) (by rw [e]; decide +kernel) (by decide) ?_
          exact lc_planned C0 hL hst hTh hNc hi hR hY hl K
        · refine lv_tableIn (off := 336) (tgt := 376) hx hb dL_law_40 (by rw [e]; decide +kernel) (by rw [e]; decide +kernel) (by rw [e]; decide +kernel) (by decide) ?_
          exact lc_firing C0 hL hst hTh hNc hi hR hY hl K
        · refine lv_tableIn (off := 361) (tgt := 401) hx hb dL_law_40 (by rw [e]; decide +kernel) (by rw [e]; decide +kernel) (by rw [e]; decide +kernel) (by decide) ?_
          exact lc_repetitions C0 hL hst hTh hNc hi hR hY hl K
        · refine lv_tableIn (off := 386) (tgt := 426) hx hb dL_law_40 (by rw [e]; decide +kernel) (by rw [e]; decide +kernel) (by rw [e]; decide +kernel) (by decide) ?_
          exact lc_bound C0 hL hst hTh hNc hi hR hY hl K
        · refine lv_tableIn (off := 411) (tgt := 451) hx hb dL_law_40 (by rw [e]; decide +kernel) (by rw [e]; decide +kernel) (by rw [e]; decide +kernel) (by decide) ?_
          exact lc_run C0 hL hst hTh hNc hi hR hY hl K
        · refine lv_tableIn (off := 467) (tgt := 507) hx hb dL_law_40 (by rw [e]; decide +kernel) (by rw [e]; decide +kernel) (by rw [e]; decide +kernel) (by decide) ?_
          exact lc_tokens C0 hL hst hTh hNc hi hR hY hl K
        · refine lv_tableIn (off := 492) (tgt := 532) hx hb dL_law_40 (by rw [e]; decide +kernel) (by rw [e]; decide +kernel) (by rw [e]; decide +kernel) (by decide) ?_
          exact lc_token C0 hL hst hTh hNc hi hR hY hl K
        · refine lv_tableIn (off := 529) (tgt := 569) hx hb dL_law_40 (by rw [e]; decide +kernel) (by rw [e]; decide +kernel) (by rw [e]; decide +kernel) (by decide) ?_
          exact lc_value C0 hL hst hTh hNc hi hR hY hl K
        · refine lv_tableIn (off := 554) (tgt := 594) hx hb dL_law_40 (by rw [e]; decide +kernel) (by rw [e]; decide +kernel) (by rw [e]; decide +kernel) (by decide) ?_
          exact lc_state C0 hL hst hTh hNc hi hR hY hl K
      · refine lv_tableOut (tgt := 619) hx hb dL_law_40 (kout16 (fun k h1 h2 => hk ⟨k, h1, h2⟩)) (by decide) ?_
        refine W.widen (k := 100 + 3 * i + 13) (n := 12200 + i + 6 + 2 * lsum σ) (by omega) (by omega) ?_
        exact K _ _ _ _ _ _ hR hY hl
