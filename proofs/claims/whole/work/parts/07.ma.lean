set_option maxHeartbeats 1000000 in
set_option maxRecDepth 100000 in
/-- settle -/
theorem cM_settle (l : Launch) (dC : Nat → ClassId) (dI : Nat → Nat → Nat) (h a1 a2 a3 a4 a5 a6 a7 : Nat) (cA : ClassId) (sz : Nat) (fd nw sl vl la os ov : Nat → Int32) (ch : Nat) (hm : Int32) (ow : Nat) (de : Int32) (si : Int32) (fl : Int32) (cr : Int32)   : Met l yX1_settle wsX1_settle ({ frames := 0, cells := 0, slots := 0, locals := 0 }) (ja_Pw (dC, dI) vwCl (ja_wM h a1 a2 a3 a4 a5 a6 a7 cA fd nw sl vl la os ov ch hm ow de si fl cr) [(cA, .int)] sz [.ref h]) (va_Qv (fun u : ja_SM => u = (ja_cp nw fd 212, nw, sl, vl, la, os, ov, 0, hm, ow, de, nI 0, fl, cr)) (ja_B (dC, dI) vwCl (va_A (ja_wM h a1 a2 a3 a4 a5 a6 a7 cA fd nw sl vl la os ov ch hm ow de si fl cr) sz) (ja_uM h a1 a2 a3 a4 a5 a6 a7 cA)) (va_A (ja_wM h a1 a2 a3 a4 a5 a6 a7 cA fd nw sl vl la os ov ch hm ow de si fl cr) sz)) 0 0 (va_A (ja_wM h a1 a2 a3 a4 a5 a6 a7 cA fd nw sl vl la os ov ch hm ow de si fl cr) sz) := by
  refine Met.ofW (cc := cX1_settle) (maxL := 2) (ret := none) (by decide) rfl ?_
  intro p e s m args below meth c s₁ B hml hv
  obtain ⟨rfl, hsz, hP, hK, hD0⟩ := hv
  have hx := B.exec
  have hb := B.bytes
  have hr := B.returns
  have hts := atoms_spec (ws := wsX1_settle) B.pre
  have hown : s.vm.findClass RX1 = some m.cls := findClass_of_methodNamed B.named
  have hlocks := B.notSynchronized
  have hin : ∀ w ∈ u_ws RX1 TX1 14, w ∈ wsX1_settle := by decide +kernel
  have fk9 := hts (.fieldLink RX1 9 "JournalShelfModel" "flushed" "[I") (by decide +kernel)
  have fk13 := hts (.fieldLink RX1 13 "JournalShelfModel" "now" "[I") (by decide +kernel)
  have fk31 := hts (.fieldLink RX1 31 "JournalShelfModel" "changes" "I") (by decide +kernel)
  have fk35 := hts (.fieldLink RX1 35 "JournalShelfModel" "since" "I") (by decide +kernel)
  subst hsz
  have hD := hD0.self (sz := s.heap.size)
  generalize hAe : va_A (ja_wM h a1 a2 a3 a4 a5 a6 a7 cA fd nw sl vl la os ov ch hm ow de si fl cr) s.heap.size = A at hD ⊢
  have hA : ∀ q : Nat, s.heap.size ≤ q → A q := fun q h => by rw [← hAe]; exact Or.inr h
  refine ja_st0 s.heap [] hP (va_S.rf (A := A)) (fun H locs hP hS => ?_)
  have hl := lv_entry ([.ref h]) (n := 2) (Nat.le_of_ble_eq_true rfl)
  rw [lg_entry_eq]
  generalize (lg_sl ([.ref h]) ++ List.replicate (2 - (lg_sl ([.ref h])).length) Slot.unset).toArray = ls at hl ⊢
  have hl : lv_has ls 2 [(0, .ref h)] := hl
  refine lv_iconst (v := nI 0) hx hb dX1_settle_0 (by decide +kernel) ?_
  refine lv_istore_n (lv' := [(1, .int (nI 0)), (0, .ref h)]) hx hb dX1_settle_1 rfl hl (by decide) rfl (fun ls hl => ?_)
  have hP : va_P (dC, dI) vwCl (ja_wM h a1 a2 a3 a4 a5 a6 a7 cA (ja_cp nw fd 0) nw sl vl la os ov ch hm ow de si fl cr) H := by rw [ja_cp_0]; exact hP
  have hD : va_D A (ja_wM h a1 a2 a3 a4 a5 a6 a7 cA (ja_cp nw fd 0) nw sl vl la os ov ch hm ow de si fl cr) := by rw [ja_cp_0]; exact hD
  refine ja_lpW 2 (fun (i : Nat) ls H locs => lv_has ls 2 [(1, .int (nI i)), (0, .ref h)] ∧ va_P (dC, dI) vwCl (ja_wM h a1 a2 a3 a4 a5 a6 a7 cA (ja_cp nw fd i) nw sl vl la os ov ch hm ow de si fl cr) H ∧ va_D A (ja_wM h a1 a2 a3 a4 a5 a6 a7 cA (ja_cp nw fd i) nw sl vl la os ov ch hm ow de si fl cr) ∧ va_S A s.heap H locs ∧ i ≤ 212) (fun i => 212 - (i)) ?_ 0 ls H locs ⟨lv_sub hl [0, 1] rfl, hP, hD, hS, Nat.zero_le _⟩
  intro i ls H locs hI ih0
  obtain ⟨hl, hP, hD, hS, hi⟩ := hI
  have hl : lv_has ls 2 [(1, .int (nI i)), (0, .ref h)] := hl
  have hP : va_P (dC, dI) vwCl (ja_wM h a1 a2 a3 a4 a5 a6 a7 cA (ja_cp nw fd i) nw sl vl la os ov ch hm ow de si fl cr) H := hP
  have hD : va_D A (ja_wM h a1 a2 a3 a4 a5 a6 a7 cA (ja_cp nw fd i) nw sl vl la os ov ch hm ow de si fl cr) := hD
  refine lv_iload_n hx hb dX1_settle_2 rfl (lv_at hl 0 rfl) ?_
  refine lv_sipush (v := nI 212) hx hb dX1_settle_3 (by decide +kernel) ?_
  refine ja_ige hx hb dX1_settle_6 (tgt := 27) (by decide) (by omega) (by omega) (fun h6 => ?_) (fun h6 => ?_)
  · have hi2 : i = 212 := by omega
    subst hi2
    have hP : va_P (dC, dI) vwCl (ja_wM h a1 a2 a3 a4 a5 a6 a7 cA (ja_cp nw fd 212) nw sl vl la os ov ch hm ow de si fl cr) H := hP
    have hD : va_D A (ja_wM h a1 a2 a3 a4 a5 a6 a7 cA (ja_cp nw fd 212) nw sl vl la os ov ch hm ow de si fl cr) := hD
    refine lv_aload_n hx hb dX1_settle_27 rfl (lv_at hl 1 rfl) ?_
    refine lv_iconst (v := nI 0) hx hb dX1_settle_28 (by decide +kernel) ?_
    refine va_put (D := (dC, dI)) (ci := 1) (v := .int (nI 0)) (ty := .int) (C := RX1) (T := TX1) (N := 14) hx hb hts hin tyX1 tyX1_ok nmX1 hown hK hP hD hS 0 rfl rfl 5 (by decide) fk31 (fun _ h9 => h9) rfl (by decide +kernel) rfl rfl (Nat.le_of_ble_eq_true rfl) dX1_settle_29 (fun H locs hP hD hS => ?_)
    have hP : va_P (dC, dI) vwCl (ja_wM h a1 a2 a3 a4 a5 a6 a7 cA (ja_cp nw fd 212) nw sl vl la os ov 0 hm ow de si fl cr) H := hP
    have hD : va_D A (ja_wM h a1 a2 a3 a4 a5 a6 a7 cA (ja_cp nw fd 212) nw sl vl la os ov 0 hm ow de si fl cr) := hD
    refine lv_aload_n hx hb dX1_settle_32 rfl (lv_at hl 1 rfl) ?_
    refine lv_iconst (v := nI 0) hx hb dX1_settle_33 (by decide +kernel) ?_
    refine va_put (D := (dC, dI)) (ci := 1) (v := .int (nI 0)) (ty := .int) (C := RX1) (T := TX1) (N := 14) hx hb hts hin tyX1 tyX1_ok nmX1 hown hK hP hD hS 0 rfl rfl 11 (by decide) fk35 (fun _ h9 => h9) rfl (by decide +kernel) rfl rfl (Nat.le_of_ble_eq_true rfl) dX1_settle_34 (fun H locs hP hD hS => ?_)
    have hP : va_P (dC, dI) vwCl (ja_wM h a1 a2 a3 a4 a5 a6 a7 cA (ja_cp nw fd 212) nw sl vl la os ov 0 hm ow de (nI 0) fl cr) H := hP
    have hD : va_D A (ja_wM h a1 a2 a3 a4 a5 a6 a7 cA (ja_cp nw fd 212) nw sl vl la os ov 0 hm ow de (nI 0) fl cr) := hD
    exact W.vret hx hb hr (fun t ht hW => ⟨⟨((ja_cp nw fd 212), nw, sl, vl, la, os, ov, 0, hm, ow, de, nI 0, fl, cr), rfl, rfl, by rw [ht]; exact hP, hD⟩, hS.F ht⟩) hS.2.2 dX1_settle_37
  · refine lv_aload_n hx hb dX1_settle_9 rfl (lv_at hl 1 rfl) ?_
    refine va_get (D := (dC, dI)) (ci := 1) (v := .ref a1) (C := RX1) (T := TX1) (N := 14) hx hb hts hin hown hK hP 0 rfl rfl 0 (by decide) fk9 (fun _ h9 => h9) rfl dX1_settle_10 ?_
    refine lv_iload_n hx hb dX1_settle_13 rfl (lv_at hl 0 rfl) ?_
    refine lv_aload_n hx hb dX1_settle_14 rfl (lv_at hl 1 rfl) ?_
    refine va_get (D := (dC, dI)) (ci := 1) (v := .ref a2) (C := RX1) (T := TX1) (N := 14) hx hb hts hin hown hK hP 0 rfl rfl 1 (by decide) fk13 (fun _ h9 => h9) rfl dX1_settle_15 ?_
    refine lv_iload_n hx hb dX1_settle_18 rfl (lv_at hl 0 rfl) ?_
    refine ja_ald hx hb hK hP 2 0 rfl rfl (by omega) (by decide) dX1_settle_19 ?_
    refine ja_ast hx hb hK hP hD hS 1 0 rfl rfl (by omega) (by decide) dX1_settle_20 (fun H locs hP hD hS => ?_)
    have hP : va_P (dC, dI) vwCl (ja_wM h a1 a2 a3 a4 a5 a6 a7 cA (upd (ja_cp nw fd i) i (nw i)) nw sl vl la os ov ch hm ow de si fl cr) H := hP
    have hD : va_D A (ja_wM h a1 a2 a3 a4 a5 a6 a7 cA (upd (ja_cp nw fd i) i (nw i)) nw sl vl la os ov ch hm ow de si fl cr) := hD
    -- iinc
    refine lv_iinc (k := 0) (v := nI (i + 1)) (lv' := [(1, .int (nI (i + 1))), (0, .ref h)]) hx hb dX1_settle_21 hl rfl (ja_inc1 _) (by decide) rfl (fun ls hl => ?_)
    refine lv_goto (tgt := 2) hx hb dX1_settle_24 (by decide) ?_
    exact ih0 (i + 1) ls H locs ⟨lv_sub hl [0, 1] rfl, (show va_P (dC, dI) vwCl (ja_wM h a1 a2 a3 a4 a5 a6 a7 cA (ja_cp nw fd (i + 1)) nw sl vl la os ov ch hm ow de si fl cr) H by rw [← ja_cp_s]; exact hP), (show va_D A (ja_wM h a1 a2 a3 a4 a5 a6 a7 cA (ja_cp nw fd (i + 1)) nw sl vl la os ov ch hm ow de si fl cr) by rw [← ja_cp_s]; exact hD), hS, (by omega)⟩ (show 212 - (i + 1) < 212 - (i) by omega)
set_option maxHeartbeats 1000000 in
set_option maxRecDepth 100000 in
/-- distinct -/
theorem cM_distinct (l : Launch) (dC : Nat → ClassId) (dI : Nat → Nat → Nat) (h a1 a2 a3 a4 a5 a6 a7 : Nat) (cA : ClassId) (fd nw sl vl la os ov : Nat → Int32) (ch : Nat) (hm : Int32) (ow : Nat) (de : Int32) (si : Int32) (fl : Int32) (cr : Int32)  (hch : ch ≤ 24) : Met l yX1_distinct wsX1_distinct ({ frames := 0, cells := 0, slots := 0, locals := 0 }) (ja_Pr (dC, dI) vwCl (ja_wM h a1 a2 a3 a4 a5 a6 a7 cA fd nw sl vl la os ov ch hm ow de si fl cr) [(cA, .int)] [.ref h]) (vp_Si (fun r => r = nI (ja_ct (fun k => ja_fs sl k k) ch))) 0 0 (fun _ => False) := by
  refine Met.ofW (cc := cX1_distinct) (maxL := 5) (ret := (some .int)) (by decide) rfl ?_
  intro p e s m args below meth c s₁ B hml hv
  obtain ⟨rfl, hP, hK⟩ := hv
  have hx := B.exec
  have hb := B.bytes
  have hr := B.returns
  have hts := atoms_spec (ws := wsX1_distinct) B.pre
  have hown : s.vm.findClass RX1 = some m.cls := findClass_of_methodNamed B.named
  have hlocks := B.notSynchronized
  have hin : ∀ w ∈ u_ws RX1 TX1 14, w ∈ wsX1_distinct := by decide +kernel
  have fk16 := hts (.fieldLink RX1 16 "JournalShelfModel" "slot" "[I") (by decide +kernel)
  have fk31 := hts (.fieldLink RX1 31 "JournalShelfModel" "changes" "I") (by decide +kernel)
  have hl := lv_entry ([.ref h]) (n := 5) (Nat.le_of_ble_eq_true rfl)
  rw [lg_entry_eq]
  generalize (lg_sl ([.ref h]) ++ List.replicate (5 - (lg_sl ([.ref h])).length) Slot.unset).toArray = ls at hl ⊢
  have hl : lv_has ls 5 [(0, .ref h)] := hl
  refine lv_iconst (v := nI 0) hx hb dX1_distinct_0 (by decide +kernel) ?_
  refine lv_istore_n (lv' := [(1, .int (nI 0)), (0, .ref h)]) hx hb dX1_distinct_1 rfl hl (by decide) rfl (fun ls hl => ?_)
  refine lv_iconst (v := nI 0) hx hb dX1_distinct_2 (by decide +kernel) ?_
  refine lv_istore_n (lv' := [(2, .int (nI 0)), (1, .int (nI 0)), (0, .ref h)]) hx hb dX1_distinct_3 rfl hl (by decide) rfl (fun ls hl => ?_)
  refine ja_lpR 4 (fun (k : Nat) ls => lv_has ls 5 [(2, .int (nI k)), (1, .int (nI (ja_ct (fun k => ja_fs sl k k) k))), (0, .ref h)] ∧ k ≤ ch) (fun k => ch - (k)) ?_ 0 ls ⟨lv_sub hl [0, 1, 2] rfl, Nat.zero_le _⟩
  intro k ls hI ih0
  obtain ⟨hl, hi⟩ := hI
  have hl : lv_has ls 5 [(2, .int (nI k)), (1, .int (nI (ja_ct (fun k => ja_fs sl k k) k))), (0, .ref h)] := hl
  refine lv_iload_n hx hb dX1_distinct_4 rfl (lv_at hl 0 rfl) ?_
  refine lv_aload_n hx hb dX1_distinct_5 rfl (lv_at hl 2 rfl) ?_
  refine va_get (D := (dC, dI)) (ci := 1) (v := .int (nI ch)) (C := RX1) (T := TX1) (N := 14) hx hb hts hin hown hK hP 0 rfl rfl 5 (by decide) fk31 (fun _ h9 => h9) rfl dX1_distinct_6 ?_
  refine ja_ige hx hb dX1_distinct_9 (tgt := 60) (by decide) (by omega) (by omega) (fun h9 => ?_) (fun h9 => ?_)
  · have hic : k = ch := by omega
    refine lv_iload_n hx hb dX1_distinct_60 rfl (lv_at hl 1 rfl) ?_
    exact W.iret (v := nI (ja_ct (fun k => ja_fs sl k k) k)) hx hb hr (fun t ht hW => ⟨_, rfl, by rw [hic], ht⟩) (fun q h => by cases h) dX1_distinct_61
  · refine lv_iconst (v := nI 1) hx hb dX1_distinct_12 (by decide +kernel) ?_
    refine lv_istore_n (lv' := [(3, .int (nI 1)), (2, .int (nI k)), (1, .int (nI (ja_ct (fun k => ja_fs sl k k) k))), (0, .ref h)]) hx hb dX1_distinct_13 rfl hl (by decide) rfl (fun ls hl => ?_)
    refine lv_iconst (v := nI 0) hx hb dX1_distinct_14 (by decide +kernel) ?_
    refine lv_istore (lv' := [(4, .int (nI 0)), (3, .int (nI 1)), (2, .int (nI k)), (1, .int (nI (ja_ct (fun k => ja_fs sl k k) k))), (0, .ref h)]) hx hb dX1_distinct_15 hl (by decide) rfl (fun ls hl => ?_)
    refine ja_lpR 17 (fun (i : Nat) ls => lv_has ls 5 [(4, .int (nI i)), (3, .int (ja_b (ja_fs sl k i))), (2, .int (nI k)), (1, .int (nI (ja_ct (fun k => ja_fs sl k k) k))), (0, .ref h)] ∧ i ≤ k) (fun i => k - (i)) ?_ 0 ls ⟨lv_sub hl [0, 1, 2, 3, 4] rfl, Nat.zero_le _⟩
    intro i ls hI ih1
    obtain ⟨hl, hj⟩ := hI
    have hl : lv_has ls 5 [(4, .int (nI i)), (3, .int (ja_b (ja_fs sl k i))), (2, .int (nI k)), (1, .int (nI (ja_ct (fun k => ja_fs sl k k) k))), (0, .ref h)] := hl
    refine lv_iload hx hb dX1_distinct_17 (lv_at hl 0 rfl) ?_
    refine lv_iload_n hx hb dX1_distinct_19 rfl (lv_at hl 2 rfl) ?_
    refine ja_ige hx hb dX1_distinct_20 (tgt := 47) (by decide) (by omega) (by omega) (fun h20 => ?_) (fun h20 => ?_)
    · have hik : k = i := by omega
      subst hik
      have hl : lv_has ls 5 [(4, .int (nI k)), (3, .int (ja_b (ja_fs sl k k))), (2, .int (nI k)), (1, .int (nI (ja_ct (fun k => ja_fs sl k k) k))), (0, .ref h)] := hl
      refine lv_iload_n hx hb dX1_distinct_47 rfl (lv_at hl 1 rfl) ?_
      refine lv_if_eq hx hb dX1_distinct_48 (tgt := 54) (by decide) (fun h48 => ?_) (fun h48 => ?_)
      · have he : ja_ct (fun k => ja_fs sl k k) (k + 1) = ja_ct (fun k => ja_fs sl k k) k := ja_ct_f (ja_b_0 h48)
        -- iinc
        refine lv_iinc (k := 2) (v := nI (k + 1)) (lv' := [(2, .int (nI (k + 1))), (4, .int (nI k)), (3, .int (ja_b (ja_fs sl k k))), (1, .int (nI (ja_ct (fun k => ja_fs sl k k) k))), (0, .ref h)]) hx hb dX1_distinct_54 hl rfl (ja_inc1 _) (by decide) rfl (fun ls hl => ?_)
        refine lv_goto (tgt := 4) hx hb dX1_distinct_57 (by decide) ?_
        exact ih0 (k + 1) ls ⟨(show lv_has ls 5 [(2, .int (nI (k + 1))), (1, .int (nI (ja_ct (fun k => ja_fs sl k k) (k + 1)))), (0, .ref h)] by rw [he]; exact lv_sub hl [0, 3, 4] rfl), (by omega)⟩ (show ch - (k + 1) < ch - (k) by omega)
      · have he : ja_ct (fun k => ja_fs sl k k) (k + 1) = ja_ct (fun k => ja_fs sl k k) k + 1 := ja_ct_t (ja_b_1 h48)
        -- iinc
        refine lv_iinc (k := 3) (v := nI ((ja_ct (fun k => ja_fs sl k k) k) + 1)) (lv' := [(1, .int (nI ((ja_ct (fun k => ja_fs sl k k) k) + 1))), (4, .int (nI k)), (3, .int (ja_b (ja_fs sl k k))), (2, .int (nI k)), (0, .ref h)]) hx hb dX1_distinct_51 hl rfl (ja_inc1 _) (by decide) rfl (fun ls hl => ?_)
        -- iinc
        refine lv_iinc (k := 3) (v := nI (k + 1)) (lv' := [(2, .int (nI (k + 1))), (1, .int (nI ((ja_ct (fun k => ja_fs sl k k) k) + 1))), (4, .int (nI k)), (3, .int (ja_b (ja_fs sl k k))), (0, .ref h)]) hx hb dX1_distinct_54 hl rfl (ja_inc1 _) (by decide) rfl (fun ls hl => ?_)
        refine lv_goto (tgt := 4) hx hb dX1_distinct_57 (by decide) ?_
        exact ih0 (k + 1) ls ⟨(show lv_has ls 5 [(2, .int (nI (k + 1))), (1, .int (nI (ja_ct (fun k => ja_fs sl k k) (k + 1)))), (0, .ref h)] by rw [he]; exact lv_sub hl [0, 1, 4] rfl), (by omega)⟩ (show ch - (k + 1) < ch - (k) by omega)
    · refine lv_aload_n hx hb dX1_distinct_23 rfl (lv_at hl 4 rfl) ?_
      refine va_get (D := (dC, dI)) (ci := 1) (v := .ref a3) (C := RX1) (T := TX1) (N := 14) hx hb hts hin hown hK hP 0 rfl rfl 2 (by decide) fk16 (fun _ h9 => h9) rfl dX1_distinct_24 ?_
      refine lv_iload hx hb dX1_distinct_27 (lv_at hl 0 rfl) ?_
      refine ja_ald hx hb hK hP 3 0 rfl rfl (by omega) (by decide) dX1_distinct_29 ?_
      refine lv_aload_n hx hb dX1_distinct_30 rfl (lv_at hl 4 rfl) ?_
      refine va_get (D := (dC, dI)) (ci := 1) (v := .ref a3) (C := RX1) (T := TX1) (N := 14) hx hb hts hin hown hK hP 0 rfl rfl 2 (by decide) fk16 (fun _ h9 => h9) rfl dX1_distinct_31 ?_
      refine lv_iload_n hx hb dX1_distinct_34 rfl (lv_at hl 2 rfl) ?_
      refine ja_ald hx hb hK hP 3 0 rfl rfl (by omega) (by decide) dX1_distinct_35 ?_
      refine lv_icmp_ne hx hb dX1_distinct_36 (tgt := 41) (by decide) (fun h36 => ?_) (fun h36 => ?_)
      · have he := ja_bfs_n h36
        -- iinc
        refine lv_iinc (k := 0) (v := nI (i + 1)) (lv' := [(4, .int (nI (i + 1))), (3, .int (ja_b (ja_fs sl k i))), (2, .int (nI k)), (1, .int (nI (ja_ct (fun k => ja_fs sl k k) k))), (0, .ref h)]) hx hb dX1_distinct_41 hl rfl (ja_inc1 _) (by decide) rfl (fun ls hl => ?_)
        refine lv_goto (tgt := 17) hx hb dX1_distinct_44 (by decide) ?_
        exact ih1 (i + 1) ls ⟨(show lv_has ls 5 [(4, .int (nI (i + 1))), (3, .int (ja_b (ja_fs sl k (i + 1)))), (2, .int (nI k)), (1, .int (nI (ja_ct (fun k => ja_fs sl k k) k))), (0, .ref h)] by rw [he]; exact lv_sub hl [0, 1, 2, 3, 4] rfl), (by omega)⟩ (show k - (i + 1) < k - (i) by omega)
      · have he := ja_bfs_e h36
        refine lv_iconst (v := nI 0) hx hb dX1_distinct_39 (by decide +kernel) ?_
        refine lv_istore_n (lv' := [(3, .int (nI 0)), (4, .int (nI i)), (2, .int (nI k)), (1, .int (nI (ja_ct (fun k => ja_fs sl k k) k))), (0, .ref h)]) hx hb dX1_distinct_40 rfl hl (by decide) rfl (fun ls hl => ?_)
        -- iinc
        refine lv_iinc (k := 1) (v := nI (i + 1)) (lv' := [(4, .int (nI (i + 1))), (3, .int (nI 0)), (2, .int (nI k)), (1, .int (nI (ja_ct (fun k => ja_fs sl k k) k))), (0, .ref h)]) hx hb dX1_distinct_41 hl rfl (ja_inc1 _) (by decide) rfl (fun ls hl => ?_)
        refine lv_goto (tgt := 17) hx hb dX1_distinct_44 (by decide) ?_
        exact ih1 (i + 1) ls ⟨(show lv_has ls 5 [(4, .int (nI (i + 1))), (3, .int (ja_b (ja_fs sl k (i + 1)))), (2, .int (nI k)), (1, .int (nI (ja_ct (fun k => ja_fs sl k k) k))), (0, .ref h)] by rw [he]; exact lv_sub hl [0, 1, 2, 3, 4] rfl), (by omega)⟩ (show k - (i + 1) < k - (i) by omega)
set_option maxHeartbeats 1000000 in
set_option maxRecDepth 100000 in
/-- flush -/
theorem cM_flush (l : Launch) (dC : Nat → ClassId) (dI : Nat → Nat → Nat) (h a1 a2 a3 a4 a5 a6 a7 : Nat) (cA : ClassId) (sz : Nat) (fd nw sl vl la os ov : Nat → Int32) (ch : Nat) (hm : Int32) (ow : Nat) (de : Int32) (si : Int32) (fl : Int32) (cr : Int32)  (hch : ch ≤ 24) : Met l yX1_flush wsX1_flush ({ frames := 1, cells := 0, slots := 0, locals := 24 }) (ja_Pw (dC, dI) vwCl (ja_wM h a1 a2 a3 a4 a5 a6 a7 cA fd nw sl vl la os ov ch hm ow de si fl cr) [(cA, .int)] sz [.ref h]) (va_Qi (fun (r : Int32) (u : ja_SM) => r = si ∧ u = (ja_cp nw fd 212, nw, sl, vl, la, os, ov, 0, nI (ja_ct (fun k => ja_fs sl k k) ch), 0, de, nI 0, fl + nI 1, cr)) (ja_B (dC, dI) vwCl (va_A (ja_wM h a1 a2 a3 a4 a5 a6 a7 cA fd nw sl vl la os ov ch hm ow de si fl cr) sz) (ja_uM h a1 a2 a3 a4 a5 a6 a7 cA)) (va_A (ja_wM h a1 a2 a3 a4 a5 a6 a7 cA fd nw sl vl la os ov ch hm ow de si fl cr) sz)) 0 0 (va_A (ja_wM h a1 a2 a3 a4 a5 a6 a7 cA fd nw sl vl la os ov ch hm ow de si fl cr) sz) := by
  refine Met.ofW (cc := cX1_flush) (maxL := 2) (ret := (some .int)) (by decide) rfl ?_
  intro p e s m args below meth c s₁ B hml hv
  obtain ⟨rfl, hsz, hP, hK, hD0⟩ := hv
  have hx := B.exec
  have hb := B.bytes
  have hr := B.returns
  have hts := atoms_spec (ws := wsX1_flush) B.pre
  have hown : s.vm.findClass RX1 = some m.cls := findClass_of_methodNamed B.named
  have hlocks := B.notSynchronized
  have hin : ∀ w ∈ u_ws RX1 TX1 14, w ∈ wsX1_flush := by decide +kernel
  have fk35 := hts (.fieldLink RX1 35 "JournalShelfModel" "since" "I") (by decide +kernel)
  have fk38 := hts (.fieldLink RX1 38 "JournalShelfModel" "own" "I") (by decide +kernel)
  have fk51 := hts (.fieldLink RX1 51 "JournalShelfModel" "homes" "I") (by decide +kernel)
  have fk57 := hts (.fieldLink RX1 57 "JournalShelfModel" "flushes" "I") (by decide +kernel)
  subst hsz
  have hD := hD0.self (sz := s.heap.size)
  generalize hAe : va_A (ja_wM h a1 a2 a3 a4 a5 a6 a7 cA fd nw sl vl la os ov ch hm ow de si fl cr) s.heap.size = A at hD ⊢
  have hA : ∀ q : Nat, s.heap.size ≤ q → A q := fun q h => by rw [← hAe]; exact Or.inr h
  refine ja_st0 s.heap [] hP (va_S.rf (A := A)) (fun H locs hP hS => ?_)
  have hl := lv_entry ([.ref h]) (n := 2) (Nat.le_of_ble_eq_true rfl)
  rw [lg_entry_eq]
  generalize (lg_sl ([.ref h]) ++ List.replicate (2 - (lg_sl ([.ref h])).length) Slot.unset).toArray = ls at hl ⊢
  have hl : lv_has ls 2 [(0, .ref h)] := hl
  refine lv_aload_n hx hb dX1_flush_0 rfl (lv_at hl 0 rfl) ?_
  refine va_get (D := (dC, dI)) (ci := 1) (v := .int si) (C := RX1) (T := TX1) (N := 14) hx hb hts hin hown hK hP 0 rfl rfl 11 (by decide) fk35 (fun _ h9 => h9) rfl dX1_flush_1 ?_
  refine lv_istore_n (lv' := [(1, .int si), (0, .ref h)]) hx hb dX1_flush_4 rfl hl (by decide) rfl (fun ls hl => ?_)
  refine lv_aload_n hx hb dX1_flush_5 rfl (lv_at hl 1 rfl) ?_
  refine lv_iconst (v := nI 0) hx hb dX1_flush_6 (by decide +kernel) ?_
  refine va_put (D := (dC, dI)) (ci := 1) (v := .int (nI 0)) (ty := .int) (C := RX1) (T := TX1) (N := 14) hx hb hts hin tyX1 tyX1_ok nmX1 hown hK hP hD hS 0 rfl rfl 9 (by decide) fk38 (fun _ h9 => h9) rfl (by decide +kernel) rfl rfl (Nat.le_of_ble_eq_true rfl) dX1_flush_7 (fun H locs hP hD hS => ?_)
  have hP : va_P (dC, dI) vwCl (ja_wM h a1 a2 a3 a4 a5 a6 a7 cA fd nw sl vl la os ov ch hm 0 de si fl cr) H := hP
  have hD : va_D A (ja_wM h a1 a2 a3 a4 a5 a6 a7 cA fd nw sl vl la os ov ch hm 0 de si fl cr) := hD
  refine lv_aload_n hx hb dX1_flush_10 rfl (lv_at hl 1 rfl) ?_
  refine lv_aload_n hx hb dX1_flush_11 rfl (lv_at hl 1 rfl) ?_
  refine ja_cR (As := []) (rest := [.ref h]) ⟨hx, hb, hml, hown, hts⟩ (cM_distinct l dC dI h a1 a2 a3 a4 a5 a6 a7 cA fd nw sl vl la os ov ch hm 0 de si fl cr  hch) (cwV 0 hts gX1_flush_X1_distinct rfl rfl rfl (by decide +kernel) ⟨Nat.le_of_ble_eq_true rfl, Nat.le_of_ble_eq_true rfl⟩) hK hP (ja_rcv (ci := 1) (q0 := 0) hK hP rfl rfl rfl) rfl hl.1 rfl (Nat.le_of_ble_eq_true rfl) dX1_flush_12 ⟨Nat.zero_le _, Nat.zero_le _⟩ (fun r12 hr12 => ?_)
  have hr12 : r12 = nI (ja_ct (fun k => ja_fs sl k k) ch) := hr12
  subst hr12
  refine va_put (D := (dC, dI)) (ci := 1) (v := .int (nI (ja_ct (fun k => ja_fs sl k k) ch))) (ty := .int) (C := RX1) (T := TX1) (N := 14) hx hb hts hin tyX1 tyX1_ok nmX1 hown hK hP hD hS 0 rfl rfl 6 (by decide) fk51 (fun _ h9 => h9) rfl (by decide +kernel) rfl rfl (Nat.le_of_ble_eq_true rfl) dX1_flush_15 (fun H locs hP hD hS => ?_)
  have hP : va_P (dC, dI) vwCl (ja_wM h a1 a2 a3 a4 a5 a6 a7 cA fd nw sl vl la os ov ch (nI (ja_ct (fun k => ja_fs sl k k) ch)) 0 de si fl cr) H := hP
  have hD : va_D A (ja_wM h a1 a2 a3 a4 a5 a6 a7 cA fd nw sl vl la os ov ch (nI (ja_ct (fun k => ja_fs sl k k) ch)) 0 de si fl cr) := hD
  refine lv_aload_n hx hb dX1_flush_18 rfl (lv_at hl 1 rfl) ?_
  refine ja_cV (wr := []) (As := []) (rest := []) ⟨hx, hb, hml, hown, hts⟩ (cM_settle l dC dI h a1 a2 a3 a4 a5 a6 a7 cA H.size fd nw sl vl la os ov ch (nI (ja_ct (fun k => ja_fs sl k k) ch)) 0 de si fl cr  ) (cwV 0 hts gX1_flush_X1_settle rfl rfl rfl (by decide +kernel) ⟨Nat.le_of_ble_eq_true rfl, Nat.le_of_ble_eq_true rfl⟩) hK hP hP hD hS hA [0, 1, 2, 3, 4, 5, 6, 7] [] rfl rfl (by decide) (by decide) (by decide) (ja_rcv (ci := 1) (q0 := 0) hK hP rfl rfl rfl) rfl hl.1 rfl (Nat.le_of_ble_eq_true rfl) dX1_flush_19 ⟨Nat.zero_le _, Nat.zero_le _⟩ (fun u H locs hu hP hD hS => ?_)
  obtain rfl := hu
  have hP : va_P (dC, dI) vwCl (ja_wM h a1 a2 a3 a4 a5 a6 a7 cA (ja_cp nw fd 212) nw sl vl la os ov 0 (nI (ja_ct (fun k => ja_fs sl k k) ch)) 0 de (nI 0) fl cr) H := hP
  have hD : va_D A (ja_wM h a1 a2 a3 a4 a5 a6 a7 cA (ja_cp nw fd 212) nw sl vl la os ov 0 (nI (ja_ct (fun k => ja_fs sl k k) ch)) 0 de (nI 0) fl cr) := hD
  refine lv_aload_n hx hb dX1_flush_22 rfl (lv_at hl 1 rfl) ?_
  refine lv_dup hx hb dX1_flush_23 rfl ?_
  refine va_get (D := (dC, dI)) (ci := 1) (v := .int fl) (C := RX1) (T := TX1) (N := 14) hx hb hts hin hown hK hP 0 rfl rfl 12 (by decide) fk57 (fun _ h9 => h9) rfl dX1_flush_24 ?_
  refine lv_iconst (v := nI 1) hx hb dX1_flush_27 (by decide +kernel) ?_
  refine lv_iadd hx hb dX1_flush_28 ?_
  refine va_put (D := (dC, dI)) (ci := 1) (v := .int (fl + nI 1)) (ty := .int) (C := RX1) (T := TX1) (N := 14) hx hb hts hin tyX1 tyX1_ok nmX1 hown hK hP hD hS 0 rfl rfl 12 (by decide) fk57 (fun _ h9 => h9) rfl (by decide +kernel) rfl rfl (Nat.le_of_ble_eq_true rfl) dX1_flush_29 (fun H locs hP hD hS => ?_)
  have hP : va_P (dC, dI) vwCl (ja_wM h a1 a2 a3 a4 a5 a6 a7 cA (ja_cp nw fd 212) nw sl vl la os ov 0 (nI (ja_ct (fun k => ja_fs sl k k) ch)) 0 de (nI 0) (fl + nI 1) cr) H := hP
  have hD : va_D A (ja_wM h a1 a2 a3 a4 a5 a6 a7 cA (ja_cp nw fd 212) nw sl vl la os ov 0 (nI (ja_ct (fun k => ja_fs sl k k) ch)) 0 de (nI 0) (fl + nI 1) cr) := hD
  refine lv_iload_n hx hb dX1_flush_32 rfl (lv_at hl 0 rfl) ?_
  exact W.iret (v := si) hx hb hr (fun t ht hW => ⟨⟨si, ((ja_cp nw fd 212), nw, sl, vl, la, os, ov, 0, nI (ja_ct (fun k => ja_fs sl k k) ch), 0, de, nI 0, (fl + nI 1), cr), rfl, ⟨rfl, rfl⟩, by rw [ht]; exact hP, hD⟩, hS.F ht⟩) hS.2.2 dX1_flush_33
set_option maxHeartbeats 1000000 in
set_option maxRecDepth 100000 in
/-- change -/
theorem cM_change (l : Launch) (dC : Nat → ClassId) (dI : Nat → Nat → Nat) (h a1 a2 a3 a4 a5 a6 a7 : Nat) (cA : ClassId) (sz : Nat) (fd nw sl vl la os ov : Nat → Int32) (ch : Nat) (hm : Int32) (ow : Nat) (de : Int32) (si : Int32) (fl : Int32) (cr : Int32) (x y : Int32) (hch : ch ≤ 24) (how : ow ≤ 17) : Met l yX1_change wsX1_change ({ frames := 2, cells := 0, slots := 0, locals := 45 }) (ja_Pw (dC, dI) vwCl (ja_wM h a1 a2 a3 a4 a5 a6 a7 cA fd nw sl vl la os ov ch hm ow de si fl cr) [(cA, .int)] sz [.ref h, .int x, .int y]) (va_Qi (fun (r : Int32) (u : ja_SM) => (¬ vp_in x 212 ∧ r = -1 ∧ u = (fd, nw, sl, vl, la, os, ov, ch, hm, ow, de, si, fl, cr)) ∨ (vp_in x 212 ∧ ow = 17 ∧ r = -2 ∧ u = (fd, nw, sl, vl, la, os, ov, ch, hm, ow, de, si, fl, cr)) ∨ (vp_in x 212 ∧ ow < 17 ∧ ¬ (ow = 0 ∧ 7 < ch) ∧ r = nI (ow + 1) ∧ u = (fd, nw, sl, vl, la, upd os ow x, upd ov ow y, ch, hm, ow + 1, de, si, fl, cr)) ∨ (vp_in x 212 ∧ ow = 0 ∧ 7 < ch ∧ r = nI 1 ∧ u = (ja_cp nw fd 212, nw, sl, vl, la, upd os 0 x, upd ov 0 y, 0, nI (ja_ct (fun k => ja_fs sl k k) ch), 1, de, nI 0, fl + nI 1, cr))) (ja_B (dC, dI) vwCl (va_A (ja_wM h a1 a2 a3 a4 a5 a6 a7 cA fd nw sl vl la os ov ch hm ow de si fl cr) sz) (ja_uM h a1 a2 a3 a4 a5 a6 a7 cA)) (va_A (ja_wM h a1 a2 a3 a4 a5 a6 a7 cA fd nw sl vl la os ov ch hm ow de si fl cr) sz)) 0 0 (va_A (ja_wM h a1 a2 a3 a4 a5 a6 a7 cA fd nw sl vl la os ov ch hm ow de si fl cr) sz) := by
  refine Met.ofW (cc := cX1_change) (maxL := 3) (ret := (some .int)) (by decide) rfl ?_
  intro p e s m args below meth c s₁ B hml hv
  obtain ⟨rfl, hsz, hP, hK, hD0⟩ := hv
  have hx := B.exec
  have hb := B.bytes
  have hr := B.returns
  have hts := atoms_spec (ws := wsX1_change) B.pre
  have hown : s.vm.findClass RX1 = some m.cls := findClass_of_methodNamed B.named
  have hlocks := B.notSynchronized
  have hin : ∀ w ∈ u_ws RX1 TX1 14, w ∈ wsX1_change := by decide +kernel
  have fk25 := hts (.fieldLink RX1 25 "JournalShelfModel" "ownSlot" "[I") (by decide +kernel)
  have fk28 := hts (.fieldLink RX1 28 "JournalShelfModel" "ownValue" "[I") (by decide +kernel)
  have fk31 := hts (.fieldLink RX1 31 "JournalShelfModel" "changes" "I") (by decide +kernel)
  have fk38 := hts (.fieldLink RX1 38 "JournalShelfModel" "own" "I") (by decide +kernel)
  subst hsz
  have hD := hD0.self (sz := s.heap.size)
  generalize hAe : va_A (ja_wM h a1 a2 a3 a4 a5 a6 a7 cA fd nw sl vl la os ov ch hm ow de si fl cr) s.heap.size = A at hD ⊢
  have hA : ∀ q : Nat, s.heap.size ≤ q → A q := fun q h => by rw [← hAe]; exact Or.inr h
  refine ja_st0 s.heap [] hP (va_S.rf (A := A)) (fun H locs hP hS => ?_)
  have hl := lv_entry ([.ref h, .int x, .int y]) (n := 3) (Nat.le_of_ble_eq_true rfl)
  rw [lg_entry_eq]
  generalize (lg_sl ([.ref h, .int x, .int y]) ++ List.replicate (3 - (lg_sl ([.ref h, .int x, .int y])).length) Slot.unset).toArray = ls at hl ⊢
  have hl : lv_has ls 3 [(0, .ref h), (1, .int x), (2, .int y)] := hl
  refine lv_iload_n hx hb dX1_change_0 rfl (lv_at hl 1 rfl) ?_
  refine lv_if_lt hx hb dX1_change_1 (tgt := 11) (by decide) (fun h1 => ?_) (fun h1 => ?_)
  · refine lv_iconst (v := (-1)) hx hb dX1_change_11 (by decide +kernel) ?_
    exact W.iret (v := (-1)) hx hb hr (fun t ht hW => ⟨⟨(-1), (fd, nw, sl, vl, la, os, ov, ch, hm, ow, de, si, fl, cr), rfl, Or.inl ⟨ja_neg h1, rfl, rfl⟩, by rw [ht]; exact hP, hD⟩, hS.F ht⟩) hS.2.2 dX1_change_12
  · have hp0 := h1
    refine lv_iload_n hx hb dX1_change_4 rfl (lv_at hl 1 rfl) ?_
    refine lv_sipush (v := nI 212) hx hb dX1_change_5 (by decide +kernel) ?_
    refine lv_icmp_lt hx hb dX1_change_8 (tgt := 13) (by decide) (fun h8 => ?_) (fun h8 => ?_)
    · have hsl : vp_in x 212 := ja_inL hp0 h8
      refine lv_aload_n hx hb dX1_change_13 rfl (lv_at hl 0 rfl) ?_
      refine va_get (D := (dC, dI)) (ci := 1) (v := .int (nI ow)) (C := RX1) (T := TX1) (N := 14) hx hb hts hin hown hK hP 0 rfl rfl 9 (by decide) fk38 (fun _ h9 => h9) rfl dX1_change_14 ?_
      refine lv_bipush (v := nI 17) hx hb dX1_change_17 (by decide +kernel) ?_
      refine ja_ine hx hb dX1_change_19 (tgt := 25) (by decide) (by omega) (by omega) (fun h19 => ?_) (fun h19 => ?_)
      · have h_17 := h19
        refine lv_aload_n hx hb dX1_change_25 rfl (lv_at hl 0 rfl) ?_
        refine va_get (D := (dC, dI)) (ci := 1) (v := .int (nI ow)) (C := RX1) (T := TX1) (N := 14) hx hb hts hin hown hK hP 0 rfl rfl 9 (by decide) fk38 (fun _ h9 => h9) rfl dX1_change_26 ?_
        refine ja_zne hx hb dX1_change_29 (tgt := 46) (by decide) (by omega) (fun h29 => ?_) (fun h29 => ?_)
        · refine lv_aload_n hx hb dX1_change_46 rfl (lv_at hl 0 rfl) ?_
          refine va_get (D := (dC, dI)) (ci := 1) (v := .ref a6) (C := RX1) (T := TX1) (N := 14) hx hb hts hin hown hK hP 0 rfl rfl 7 (by decide) fk25 (fun _ h9 => h9) rfl dX1_change_47 ?_
          refine lv_aload_n hx hb dX1_change_50 rfl (lv_at hl 0 rfl) ?_
          refine va_get (D := (dC, dI)) (ci := 1) (v := .int (nI ow)) (C := RX1) (T := TX1) (N := 14) hx hb hts hin hown hK hP 0 rfl rfl 9 (by decide) fk38 (fun _ h9 => h9) rfl dX1_change_51 ?_
          refine lv_iload_n hx hb dX1_change_54 rfl (lv_at hl 1 rfl) ?_
          refine ja_ast hx hb hK hP hD hS 6 0 rfl rfl (by omega) (by decide) dX1_change_55 (fun H locs hP hD hS => ?_)
          have hP : va_P (dC, dI) vwCl (ja_wM h a1 a2 a3 a4 a5 a6 a7 cA fd nw sl vl la (upd os ow x) ov ch hm ow de si fl cr) H := hP
          have hD : va_D A (ja_wM h a1 a2 a3 a4 a5 a6 a7 cA fd nw sl vl la (upd os ow x) ov ch hm ow de si fl cr) := hD
          refine lv_aload_n hx hb dX1_change_56 rfl (lv_at hl 0 rfl) ?_
          refine va_get (D := (dC, dI)) (ci := 1) (v := .ref a7) (C := RX1) (T := TX1) (N := 14) hx hb hts hin hown hK hP 0 rfl rfl 8 (by decide) fk28 (fun _ h9 => h9) rfl dX1_change_57 ?_
          refine lv_aload_n hx hb dX1_change_60 rfl (lv_at hl 0 rfl) ?_
          refine va_get (D := (dC, dI)) (ci := 1) (v := .int (nI ow)) (C := RX1) (T := TX1) (N := 14) hx hb hts hin hown hK hP 0 rfl rfl 9 (by decide) fk38 (fun _ h9 => h9) rfl dX1_change_61 ?_
          refine lv_iload_n hx hb dX1_change_64 rfl (lv_at hl 2 rfl) ?_
          refine ja_ast hx hb hK hP hD hS 7 0 rfl rfl (by omega) (by decide) dX1_change_65 (fun H locs hP hD hS => ?_)
          have hP : va_P (dC, dI) vwCl (ja_wM h a1 a2 a3 a4 a5 a6 a7 cA fd nw sl vl la (upd os ow x) (upd ov ow y) ch hm ow de si fl cr) H := hP
          have hD : va_D A (ja_wM h a1 a2 a3 a4 a5 a6 a7 cA fd nw sl vl la (upd os ow x) (upd ov ow y) ch hm ow de si fl cr) := hD
          refine lv_aload_n hx hb dX1_change_66 rfl (lv_at hl 0 rfl) ?_
          refine lv_dup hx hb dX1_change_67 rfl ?_
          refine va_get (D := (dC, dI)) (ci := 1) (v := .int (nI ow)) (C := RX1) (T := TX1) (N := 14) hx hb hts hin hown hK hP 0 rfl rfl 9 (by decide) fk38 (fun _ h9 => h9) rfl dX1_change_68 ?_
          refine lv_iconst (v := nI 1) hx hb dX1_change_71 (by decide +kernel) ?_
          refine lv_iadd hx hb dX1_change_72 ?_
          refine ja_top (y := nI (ow + 1)) (nI_add _ _) ?_
          refine va_put (D := (dC, dI)) (ci := 1) (v := .int (nI (ow + 1))) (ty := .int) (C := RX1) (T := TX1) (N := 14) hx hb hts hin tyX1 tyX1_ok nmX1 hown hK hP hD hS 0 rfl rfl 9 (by decide) fk38 (fun _ h9 => h9) rfl (by decide +kernel) rfl rfl (Nat.le_of_ble_eq_true rfl) dX1_change_73 (fun H locs hP hD hS => ?_)
          have hP : va_P (dC, dI) vwCl (ja_wM h a1 a2 a3 a4 a5 a6 a7 cA fd nw sl vl la (upd os ow x) (upd ov ow y) ch hm (ow + 1) de si fl cr) H := hP
          have hD : va_D A (ja_wM h a1 a2 a3 a4 a5 a6 a7 cA fd nw sl vl la (upd os ow x) (upd ov ow y) ch hm (ow + 1) de si fl cr) := hD
          refine lv_aload_n hx hb dX1_change_76 rfl (lv_at hl 0 rfl) ?_
          refine va_get (D := (dC, dI)) (ci := 1) (v := .int (nI (ow + 1))) (C := RX1) (T := TX1) (N := 14) hx hb hts hin hown hK hP 0 rfl rfl 9 (by decide) fk38 (fun _ h9 => h9) rfl dX1_change_77 ?_
          exact W.iret (v := nI (ow + 1)) hx hb hr (fun t ht hW => ⟨⟨nI (ow + 1), (fd, nw, sl, vl, la, (upd os ow x), (upd ov ow y), ch, hm, (ow + 1), de, si, fl, cr), rfl, Or.inr (Or.inr (Or.inl ⟨hsl, by omega, by omega, rfl, rfl⟩)), by rw [ht]; exact hP, hD⟩, hS.F ht⟩) hS.2.2 dX1_change_80
        · have h_ow := h29
          refine lv_aload_n hx hb dX1_change_32 rfl (lv_at hl 0 rfl) ?_
          refine va_get (D := (dC, dI)) (ci := 1) (v := .int (nI ch)) (C := RX1) (T := TX1) (N := 14) hx hb hts hin hown hK hP 0 rfl rfl 5 (by decide) fk31 (fun _ h9 => h9) rfl dX1_change_33 ?_
          refine lv_bipush (v := nI 7) hx hb dX1_change_36 (by decide +kernel) ?_
          refine ja_ile hx hb dX1_change_38 (tgt := 46) (by decide) (by omega) (by omega) (fun h38 => ?_) (fun h38 => ?_)
          · refine lv_aload_n hx hb dX1_change_46 rfl (lv_at hl 0 rfl) ?_
            refine va_get (D := (dC, dI)) (ci := 1) (v := .ref a6) (C := RX1) (T := TX1) (N := 14) hx hb hts hin hown hK hP 0 rfl rfl 7 (by decide) fk25 (fun _ h9 => h9) rfl dX1_change_47 ?_
            refine lv_aload_n hx hb dX1_change_50 rfl (lv_at hl 0 rfl) ?_
            refine va_get (D := (dC, dI)) (ci := 1) (v := .int (nI ow)) (C := RX1) (T := TX1) (N := 14) hx hb hts hin hown hK hP 0 rfl rfl 9 (by decide) fk38 (fun _ h9 => h9) rfl dX1_change_51 ?_
            refine lv_iload_n hx hb dX1_change_54 rfl (lv_at hl 1 rfl) ?_
            refine ja_ast hx hb hK hP hD hS 6 0 rfl rfl (by omega) (by decide) dX1_change_55 (fun H locs hP hD hS => ?_)
            have hP : va_P (dC, dI) vwCl (ja_wM h a1 a2 a3 a4 a5 a6 a7 cA fd nw sl vl la (upd os ow x) ov ch hm ow de si fl cr) H := hP
            have hD : va_D A (ja_wM h a1 a2 a3 a4 a5 a6 a7 cA fd nw sl vl la (upd os ow x) ov ch hm ow de si fl cr) := hD
            refine lv_aload_n hx hb dX1_change_56 rfl (lv_at hl 0 rfl) ?_
            refine va_get (D := (dC, dI)) (ci := 1) (v := .ref a7) (C := RX1) (T := TX1) (N := 14) hx hb hts hin hown hK hP 0 rfl rfl 8 (by decide) fk28 (fun _ h9 => h9) rfl dX1_change_57 ?_
            refine lv_aload_n hx hb dX1_change_60 rfl (lv_at hl 0 rfl) ?_
            refine va_get (D := (dC, dI)) (ci := 1) (v := .int (nI ow)) (C := RX1) (T := TX1) (N := 14) hx hb hts hin hown hK hP 0 rfl rfl 9 (by decide) fk38 (fun _ h9 => h9) rfl dX1_change_61 ?_
            refine lv_iload_n hx hb dX1_change_64 rfl (lv_at hl 2 rfl) ?_
            refine ja_ast hx hb hK hP hD hS 7 0 rfl rfl (by omega) (by decide) dX1_change_65 (fun H locs hP hD hS => ?_)
            have hP : va_P (dC, dI) vwCl (ja_wM h a1 a2 a3 a4 a5 a6 a7 cA fd nw sl vl la (upd os ow x) (upd ov ow y) ch hm ow de si fl cr) H := hP
            have hD : va_D A (ja_wM h a1 a2 a3 a4 a5 a6 a7 cA fd nw sl vl la (upd os ow x) (upd ov ow y) ch hm ow de si fl cr) := hD
            refine lv_aload_n hx hb dX1_change_66 rfl (lv_at hl 0 rfl) ?_
            refine lv_dup hx hb dX1_change_67 rfl ?_
            refine va_get (D := (dC, dI)) (ci := 1) (v := .int (nI ow)) (C := RX1) (T := TX1) (N := 14) hx hb hts hin hown hK hP 0 rfl rfl 9 (by decide) fk38 (fun _ h9 => h9) rfl dX1_change_68 ?_
            refine lv_iconst (v := nI 1) hx hb dX1_change_71 (by decide +kernel) ?_
            refine lv_iadd hx hb dX1_change_72 ?_
            refine ja_top (y := nI (ow + 1)) (nI_add _ _) ?_
            refine va_put (D := (dC, dI)) (ci := 1) (v := .int (nI (ow + 1))) (ty := .int) (C := RX1) (T := TX1) (N := 14) hx hb hts hin tyX1 tyX1_ok nmX1 hown hK hP hD hS 0 rfl rfl 9 (by decide) fk38 (fun _ h9 => h9) rfl (by decide +kernel) rfl rfl (Nat.le_of_ble_eq_true rfl) dX1_change_73 (fun H locs hP hD hS => ?_)
            have hP : va_P (dC, dI) vwCl (ja_wM h a1 a2 a3 a4 a5 a6 a7 cA fd nw sl vl la (upd os ow x) (upd ov ow y) ch hm (ow + 1) de si fl cr) H := hP
            have hD : va_D A (ja_wM h a1 a2 a3 a4 a5 a6 a7 cA fd nw sl vl la (upd os ow x) (upd ov ow y) ch hm (ow + 1) de si fl cr) := hD
            refine lv_aload_n hx hb dX1_change_76 rfl (lv_at hl 0 rfl) ?_
            refine va_get (D := (dC, dI)) (ci := 1) (v := .int (nI (ow + 1))) (C := RX1) (T := TX1) (N := 14) hx hb hts hin hown hK hP 0 rfl rfl 9 (by decide) fk38 (fun _ h9 => h9) rfl dX1_change_77 ?_
            exact W.iret (v := nI (ow + 1)) hx hb hr (fun t ht hW => ⟨⟨nI (ow + 1), (fd, nw, sl, vl, la, (upd os ow x), (upd ov ow y), ch, hm, (ow + 1), de, si, fl, cr), rfl, Or.inr (Or.inr (Or.inl ⟨hsl, by omega, by omega, rfl, rfl⟩)), by rw [ht]; exact hP, hD⟩, hS.F ht⟩) hS.2.2 dX1_change_80
          · have h_ch := h38
            refine lv_aload_n hx hb dX1_change_41 rfl (lv_at hl 0 rfl) ?_
            refine ja_cW (wr := []) (As := []) (rest := []) ⟨hx, hb, hml, hown, hts⟩ (cM_flush l dC dI h a1 a2 a3 a4 a5 a6 a7 cA H.size fd nw sl vl la os ov ch hm ow de si fl cr  hch) (cwV 0 hts gX1_change_X1_flush rfl rfl rfl (by decide +kernel) ⟨Nat.le_of_ble_eq_true rfl, Nat.le_of_ble_eq_true rfl⟩) hK hP hP hD hS hA [0, 1, 2, 3, 4, 5, 6, 7] [] rfl rfl (by decide) (by decide) (by decide) (ja_rcv (ci := 1) (q0 := 0) hK hP rfl rfl rfl) rfl hl.1 rfl (Nat.le_of_ble_eq_true rfl) dX1_change_42 ⟨Nat.zero_le _, Nat.zero_le _⟩ (fun r42 u H locs hu hP hD hS => ?_)
            obtain ⟨-, rfl⟩ := hu
            have hP : va_P (dC, dI) vwCl (ja_wM h a1 a2 a3 a4 a5 a6 a7 cA (ja_cp nw fd 212) nw sl vl la os ov 0 (nI (ja_ct (fun k => ja_fs sl k k) ch)) 0 de (nI 0) (fl + nI 1) cr) H := hP
            have hD : va_D A (ja_wM h a1 a2 a3 a4 a5 a6 a7 cA (ja_cp nw fd 212) nw sl vl la os ov 0 (nI (ja_ct (fun k => ja_fs sl k k) ch)) 0 de (nI 0) (fl + nI 1) cr) := hD
            refine lv_pop hx hb dX1_change_45 rfl ?_
            refine lv_aload_n hx hb dX1_change_46 rfl (lv_at hl 0 rfl) ?_
            refine va_get (D := (dC, dI)) (ci := 1) (v := .ref a6) (C := RX1) (T := TX1) (N := 14) hx hb hts hin hown hK hP 0 rfl rfl 7 (by decide) fk25 (fun _ h9 => h9) rfl dX1_change_47 ?_
            refine lv_aload_n hx hb dX1_change_50 rfl (lv_at hl 0 rfl) ?_
            refine va_get (D := (dC, dI)) (ci := 1) (v := .int (nI 0)) (C := RX1) (T := TX1) (N := 14) hx hb hts hin hown hK hP 0 rfl rfl 9 (by decide) fk38 (fun _ h9 => h9) rfl dX1_change_51 ?_
            refine lv_iload_n hx hb dX1_change_54 rfl (lv_at hl 1 rfl) ?_
            refine ja_ast hx hb hK hP hD hS 6 0 rfl rfl (by omega) (by decide) dX1_change_55 (fun H locs hP hD hS => ?_)
            have hP : va_P (dC, dI) vwCl (ja_wM h a1 a2 a3 a4 a5 a6 a7 cA (ja_cp nw fd 212) nw sl vl la (upd os 0 x) ov 0 (nI (ja_ct (fun k => ja_fs sl k k) ch)) 0 de (nI 0) (fl + nI 1) cr) H := hP
            have hD : va_D A (ja_wM h a1 a2 a3 a4 a5 a6 a7 cA (ja_cp nw fd 212) nw sl vl la (upd os 0 x) ov 0 (nI (ja_ct (fun k => ja_fs sl k k) ch)) 0 de (nI 0) (fl + nI 1) cr) := hD
            refine lv_aload_n hx hb dX1_change_56 rfl (lv_at hl 0 rfl) ?_
            refine va_get (D := (dC, dI)) (ci := 1) (v := .ref a7) (C := RX1) (T := TX1) (N := 14) hx hb hts hin hown hK hP 0 rfl rfl 8 (by decide) fk28 (fun _ h9 => h9) rfl dX1_change_57 ?_
            refine lv_aload_n hx hb dX1_change_60 rfl (lv_at hl 0 rfl) ?_
            refine va_get (D := (dC, dI)) (ci := 1) (v := .int (nI 0)) (C := RX1) (T := TX1) (N := 14) hx hb hts hin hown hK hP 0 rfl rfl 9 (by decide) fk38 (fun _ h9 => h9) rfl dX1_change_61 ?_
            refine lv_iload_n hx hb dX1_change_64 rfl (lv_at hl 2 rfl) ?_
            refine ja_ast hx hb hK hP hD hS 7 0 rfl rfl (by omega) (by decide) dX1_change_65 (fun H locs hP hD hS => ?_)
            have hP : va_P (dC, dI) vwCl (ja_wM h a1 a2 a3 a4 a5 a6 a7 cA (ja_cp nw fd 212) nw sl vl la (upd os 0 x) (upd ov 0 y) 0 (nI (ja_ct (fun k => ja_fs sl k k) ch)) 0 de (nI 0) (fl + nI 1) cr) H := hP
            have hD : va_D A (ja_wM h a1 a2 a3 a4 a5 a6 a7 cA (ja_cp nw fd 212) nw sl vl la (upd os 0 x) (upd ov 0 y) 0 (nI (ja_ct (fun k => ja_fs sl k k) ch)) 0 de (nI 0) (fl + nI 1) cr) := hD
            refine lv_aload_n hx hb dX1_change_66 rfl (lv_at hl 0 rfl) ?_
            refine lv_dup hx hb dX1_change_67 rfl ?_
            refine va_get (D := (dC, dI)) (ci := 1) (v := .int (nI 0)) (C := RX1) (T := TX1) (N := 14) hx hb hts hin hown hK hP 0 rfl rfl 9 (by decide) fk38 (fun _ h9 => h9) rfl dX1_change_68 ?_
            refine lv_iconst (v := nI 1) hx hb dX1_change_71 (by decide +kernel) ?_
            refine lv_iadd hx hb dX1_change_72 ?_
            refine ja_top (y := nI (0 + 1)) (nI_add _ _) ?_
            refine va_put (D := (dC, dI)) (ci := 1) (v := .int (nI (0 + 1))) (ty := .int) (C := RX1) (T := TX1) (N := 14) hx hb hts hin tyX1 tyX1_ok nmX1 hown hK hP hD hS 0 rfl rfl 9 (by decide) fk38 (fun _ h9 => h9) rfl (by decide +kernel) rfl rfl (Nat.le_of_ble_eq_true rfl) dX1_change_73 (fun H locs hP hD hS => ?_)
            have hP : va_P (dC, dI) vwCl (ja_wM h a1 a2 a3 a4 a5 a6 a7 cA (ja_cp nw fd 212) nw sl vl la (upd os 0 x) (upd ov 0 y) 0 (nI (ja_ct (fun k => ja_fs sl k k) ch)) (0 + 1) de (nI 0) (fl + nI 1) cr) H := hP
            have hD : va_D A (ja_wM h a1 a2 a3 a4 a5 a6 a7 cA (ja_cp nw fd 212) nw sl vl la (upd os 0 x) (upd ov 0 y) 0 (nI (ja_ct (fun k => ja_fs sl k k) ch)) (0 + 1) de (nI 0) (fl + nI 1) cr) := hD
            refine lv_aload_n hx hb dX1_change_76 rfl (lv_at hl 0 rfl) ?_
            refine va_get (D := (dC, dI)) (ci := 1) (v := .int (nI (0 + 1))) (C := RX1) (T := TX1) (N := 14) hx hb hts hin hown hK hP 0 rfl rfl 9 (by decide) fk38 (fun _ h9 => h9) rfl dX1_change_77 ?_
            exact W.iret (v := nI (0 + 1)) hx hb hr (fun t ht hW => ⟨⟨nI (0 + 1), ((ja_cp nw fd 212), nw, sl, vl, la, (upd os 0 x), (upd ov 0 y), 0, (nI (ja_ct (fun k => ja_fs sl k k) ch)), (0 + 1), de, nI 0, (fl + nI 1), cr), rfl, Or.inr (Or.inr (Or.inr ⟨hsl, h_ow, h_ch, rfl, rfl⟩)), by rw [ht]; exact hP, hD⟩, hS.F ht⟩) hS.2.2 dX1_change_80
      · refine lv_bipush (v := (-2)) hx hb dX1_change_22 (by decide +kernel) ?_
        exact W.iret (v := (-2)) hx hb hr (fun t ht hW => ⟨⟨(-2), (fd, nw, sl, vl, la, os, ov, ch, hm, ow, de, si, fl, cr), rfl, Or.inr (Or.inl ⟨hsl, h19, rfl, rfl⟩), by rw [ht]; exact hP, hD⟩, hS.F ht⟩) hS.2.2 dX1_change_24
    · refine lv_iconst (v := (-1)) hx hb dX1_change_11 (by decide +kernel) ?_
      exact W.iret (v := (-1)) hx hb hr (fun t ht hW => ⟨⟨(-1), (fd, nw, sl, vl, la, os, ov, ch, hm, ow, de, si, fl, cr), rfl, Or.inl ⟨ja_out (Int32.not_lt.mp h8), rfl, rfl⟩, by rw [ht]; exact hP, hD⟩, hS.F ht⟩) hS.2.2 dX1_change_12
set_option maxHeartbeats 1000000 in
set_option maxRecDepth 100000 in
/-- commit -/
theorem cM_commit (l : Launch) (dC : Nat → ClassId) (dI : Nat → Nat → Nat) (h a1 a2 a3 a4 a5 a6 a7 : Nat) (cA : ClassId) (sz : Nat) (fd nw sl vl la os ov : Nat → Int32) (ch : Nat) (hm : Int32) (ow : Nat) (de : Int32) (si : Int32) (fl : Int32) (cr : Int32)  (how : ow ≤ 17) (hco : ch + ow ≤ 24) (hos : ∀ i, i < ow → vp_in (os i) 212) : Met l yX1_commit wsX1_commit ({ frames := 0, cells := 0, slots := 0, locals := 0 }) (ja_Pw (dC, dI) vwCl (ja_wM h a1 a2 a3 a4 a5 a6 a7 cA fd nw sl vl la os ov ch hm ow de si fl cr) [(cA, .int)] sz [.ref h]) (va_Qi (fun (r : Int32) (u : ja_SM) => (ow = 0 ∧ r = -1 ∧ u = (fd, nw, sl, vl, la, os, ov, ch, hm, ow, de, si, fl, cr)) ∨ (ow ≠ 0 ∧ r = nI ow ∧ u = (fd, ja_ap os ov nw ow, ja_pt sl os ch ow, ja_pt vl ov ch ow, ja_pt la (ja_lm ow) ch ow, os, ov, ch + ow, hm, 0, de + nI 1, si + nI 1, fl, cr))) (ja_B (dC, dI) vwCl (va_A (ja_wM h a1 a2 a3 a4 a5 a6 a7 cA fd nw sl vl la os ov ch hm ow de si fl cr) sz) (ja_uM h a1 a2 a3 a4 a5 a6 a7 cA)) (va_A (ja_wM h a1 a2 a3 a4 a5 a6 a7 cA fd nw sl vl la os ov ch hm ow de si fl cr) sz)) 0 0 (va_A (ja_wM h a1 a2 a3 a4 a5 a6 a7 cA fd nw sl vl la os ov ch hm ow de si fl cr) sz) := by
  refine Met.ofW (cc := cX1_commit) (maxL := 3) (ret := (some .int)) (by decide) rfl ?_
  intro p e s m args below meth c s₁ B hml hv
  obtain ⟨rfl, hsz, hP, hK, hD0⟩ := hv
  have hx := B.exec
  have hb := B.bytes
  have hr := B.returns
  have hts := atoms_spec (ws := wsX1_commit) B.pre
  have hown : s.vm.findClass RX1 = some m.cls := findClass_of_methodNamed B.named
  have hlocks := B.notSynchronized
  have hin : ∀ w ∈ u_ws RX1 TX1 14, w ∈ wsX1_commit := by decide +kernel
  have fk13 := hts (.fieldLink RX1 13 "JournalShelfModel" "now" "[I") (by decide +kernel)
  have fk16 := hts (.fieldLink RX1 16 "JournalShelfModel" "slot" "[I") (by decide +kernel)
  have fk19 := hts (.fieldLink RX1 19 "JournalShelfModel" "value" "[I") (by decide +kernel)
  have fk22 := hts (.fieldLink RX1 22 "JournalShelfModel" "lastOf" "[I") (by decide +kernel)
  have fk25 := hts (.fieldLink RX1 25 "JournalShelfModel" "ownSlot" "[I") (by decide +kernel)
  have fk28 := hts (.fieldLink RX1 28 "JournalShelfModel" "ownValue" "[I") (by decide +kernel)
  have fk31 := hts (.fieldLink RX1 31 "JournalShelfModel" "changes" "I") (by decide +kernel)
  have fk35 := hts (.fieldLink RX1 35 "JournalShelfModel" "since" "I") (by decide +kernel)
  have fk38 := hts (.fieldLink RX1 38 "JournalShelfModel" "own" "I") (by decide +kernel)
  have fk45 := hts (.fieldLink RX1 45 "JournalShelfModel" "deeds" "I") (by decide +kernel)
  subst hsz
  have hD := hD0.self (sz := s.heap.size)
  generalize hAe : va_A (ja_wM h a1 a2 a3 a4 a5 a6 a7 cA fd nw sl vl la os ov ch hm ow de si fl cr) s.heap.size = A at hD ⊢
  have hA : ∀ q : Nat, s.heap.size ≤ q → A q := fun q h => by rw [← hAe]; exact Or.inr h
  refine ja_st0 s.heap [] hP (va_S.rf (A := A)) (fun H locs hP hS => ?_)
  have hl := lv_entry ([.ref h]) (n := 3) (Nat.le_of_ble_eq_true rfl)
  rw [lg_entry_eq]
  generalize (lg_sl ([.ref h]) ++ List.replicate (3 - (lg_sl ([.ref h])).length) Slot.unset).toArray = ls at hl ⊢
  have hl : lv_has ls 3 [(0, .ref h)] := hl
  refine lv_aload_n hx hb dX1_commit_0 rfl (lv_at hl 0 rfl) ?_
  refine va_get (D := (dC, dI)) (ci := 1) (v := .int (nI ow)) (C := RX1) (T := TX1) (N := 14) hx hb hts hin hown hK hP 0 rfl rfl 9 (by decide) fk38 (fun _ h9 => h9) rfl dX1_commit_1 ?_
  refine lv_istore_n (lv' := [(1, .int (nI ow)), (0, .ref h)]) hx hb dX1_commit_4 rfl hl (by decide) rfl (fun ls hl => ?_)
  refine lv_iload_n hx hb dX1_commit_5 rfl (lv_at hl 0 rfl) ?_
  refine ja_zne hx hb dX1_commit_6 (tgt := 11) (by decide) (by omega) (fun h6 => ?_) (fun h6 => ?_)
  · have hw0 := h6
    refine lv_iconst (v := nI 0) hx hb dX1_commit_11 (by decide +kernel) ?_
    refine lv_istore_n (lv' := [(2, .int (nI 0)), (1, .int (nI ow)), (0, .ref h)]) hx hb dX1_commit_12 rfl hl (by decide) rfl (fun ls hl => ?_)
    refine ja_lpW 13 (fun (k : Nat) ls H locs => lv_has ls 3 [(2, .int (nI k)), (1, .int (nI ow)), (0, .ref h)] ∧ va_P (dC, dI) vwCl (ja_wM h a1 a2 a3 a4 a5 a6 a7 cA fd (ja_ap os ov nw k) (ja_pt sl os ch k) (ja_pt vl ov ch k) (ja_pt la (ja_lm ow) ch k) os ov (ch + k) hm ow de si fl cr) H ∧ va_D A (ja_wM h a1 a2 a3 a4 a5 a6 a7 cA fd (ja_ap os ov nw k) (ja_pt sl os ch k) (ja_pt vl ov ch k) (ja_pt la (ja_lm ow) ch k) os ov (ch + k) hm ow de si fl cr) ∧ va_S A s.heap H locs ∧ k ≤ ow) (fun k => ow - (k)) ?_ 0 ls H locs ⟨lv_sub hl [0, 1, 2] rfl, hP, hD, hS, Nat.zero_le _⟩
    intro k ls H locs hI ih0
    obtain ⟨hl, hP, hD, hS, hi⟩ := hI
    have hl : lv_has ls 3 [(2, .int (nI k)), (1, .int (nI ow)), (0, .ref h)] := hl
    have hP : va_P (dC, dI) vwCl (ja_wM h a1 a2 a3 a4 a5 a6 a7 cA fd (ja_ap os ov nw k) (ja_pt sl os ch k) (ja_pt vl ov ch k) (ja_pt la (ja_lm ow) ch k) os ov (ch + k) hm ow de si fl cr) H := hP
    have hD : va_D A (ja_wM h a1 a2 a3 a4 a5 a6 a7 cA fd (ja_ap os ov nw k) (ja_pt sl os ch k) (ja_pt vl ov ch k) (ja_pt la (ja_lm ow) ch k) os ov (ch + k) hm ow de si fl cr) := hD
    refine lv_iload_n hx hb dX1_commit_13 rfl (lv_at hl 0 rfl) ?_
    refine lv_iload_n hx hb dX1_commit_14 rfl (lv_at hl 1 rfl) ?_
    refine ja_ige hx hb dX1_commit_15 (tgt := 102) (by decide) (by omega) (by omega) (fun h15 => ?_) (fun h15 => ?_)
    · have hk2 : k = ow := by omega
      obtain rfl : ow = k := hk2.symm
      have hl : lv_has ls 3 [(2, .int (nI ow)), (1, .int (nI ow)), (0, .ref h)] := hl
      have hP : va_P (dC, dI) vwCl (ja_wM h a1 a2 a3 a4 a5 a6 a7 cA fd (ja_ap os ov nw ow) (ja_pt sl os ch ow) (ja_pt vl ov ch ow) (ja_pt la (ja_lm ow) ch ow) os ov (ch + ow) hm ow de si fl cr) H := hP
      have hD : va_D A (ja_wM h a1 a2 a3 a4 a5 a6 a7 cA fd (ja_ap os ov nw ow) (ja_pt sl os ch ow) (ja_pt vl ov ch ow) (ja_pt la (ja_lm ow) ch ow) os ov (ch + ow) hm ow de si fl cr) := hD
      refine lv_aload_n hx hb dX1_commit_102 rfl (lv_at hl 2 rfl) ?_
      refine lv_iconst (v := nI 0) hx hb dX1_commit_103 (by decide +kernel) ?_
      refine va_put (D := (dC, dI)) (ci := 1) (v := .int (nI 0)) (ty := .int) (C := RX1) (T := TX1) (N := 14) hx hb hts hin tyX1 tyX1_ok nmX1 hown hK hP hD hS 0 rfl rfl 9 (by decide) fk38 (fun _ h9 => h9) rfl (by decide +kernel) rfl rfl (Nat.le_of_ble_eq_true rfl) dX1_commit_104 (fun H locs hP hD hS => ?_)
      have hP : va_P (dC, dI) vwCl (ja_wM h a1 a2 a3 a4 a5 a6 a7 cA fd (ja_ap os ov nw ow) (ja_pt sl os ch ow) (ja_pt vl ov ch ow) (ja_pt la (ja_lm ow) ch ow) os ov (ch + ow) hm 0 de si fl cr) H := hP
      have hD : va_D A (ja_wM h a1 a2 a3 a4 a5 a6 a7 cA fd (ja_ap os ov nw ow) (ja_pt sl os ch ow) (ja_pt vl ov ch ow) (ja_pt la (ja_lm ow) ch ow) os ov (ch + ow) hm 0 de si fl cr) := hD
      refine lv_aload_n hx hb dX1_commit_107 rfl (lv_at hl 2 rfl) ?_
      refine lv_dup hx hb dX1_commit_108 rfl ?_
      refine va_get (D := (dC, dI)) (ci := 1) (v := .int de) (C := RX1) (T := TX1) (N := 14) hx hb hts hin hown hK hP 0 rfl rfl 10 (by decide) fk45 (fun _ h9 => h9) rfl dX1_commit_109 ?_
      refine lv_iconst (v := nI 1) hx hb dX1_commit_112 (by decide +kernel) ?_
      refine lv_iadd hx hb dX1_commit_113 ?_
      refine va_put (D := (dC, dI)) (ci := 1) (v := .int (de + nI 1)) (ty := .int) (C := RX1) (T := TX1) (N := 14) hx hb hts hin tyX1 tyX1_ok nmX1 hown hK hP hD hS 0 rfl rfl 10 (by decide) fk45 (fun _ h9 => h9) rfl (by decide +kernel) rfl rfl (Nat.le_of_ble_eq_true rfl) dX1_commit_114 (fun H locs hP hD hS => ?_)
      have hP : va_P (dC, dI) vwCl (ja_wM h a1 a2 a3 a4 a5 a6 a7 cA fd (ja_ap os ov nw ow) (ja_pt sl os ch ow) (ja_pt vl ov ch ow) (ja_pt la (ja_lm ow) ch ow) os ov (ch + ow) hm 0 (de + nI 1) si fl cr) H := hP
      have hD : va_D A (ja_wM h a1 a2 a3 a4 a5 a6 a7 cA fd (ja_ap os ov nw ow) (ja_pt sl os ch ow) (ja_pt vl ov ch ow) (ja_pt la (ja_lm ow) ch ow) os ov (ch + ow) hm 0 (de + nI 1) si fl cr) := hD
      refine lv_aload_n hx hb dX1_commit_117 rfl (lv_at hl 2 rfl) ?_
      refine lv_dup hx hb dX1_commit_118 rfl ?_
      refine va_get (D := (dC, dI)) (ci := 1) (v := .int si) (C := RX1) (T := TX1) (N := 14) hx hb hts hin hown hK hP 0 rfl rfl 11 (by decide) fk35 (fun _ h9 => h9) rfl dX1_commit_119 ?_
      refine lv_iconst (v := nI 1) hx hb dX1_commit_122 (by decide +kernel) ?_
      refine lv_iadd hx hb dX1_commit_123 ?_
      refine va_put (D := (dC, dI)) (ci := 1) (v := .int (si + nI 1)) (ty := .int) (C := RX1) (T := TX1) (N := 14) hx hb hts hin tyX1 tyX1_ok nmX1 hown hK hP hD hS 0 rfl rfl 11 (by decide) fk35 (fun _ h9 => h9) rfl (by decide +kernel) rfl rfl (Nat.le_of_ble_eq_true rfl) dX1_commit_124 (fun H locs hP hD hS => ?_)
      have hP : va_P (dC, dI) vwCl (ja_wM h a1 a2 a3 a4 a5 a6 a7 cA fd (ja_ap os ov nw ow) (ja_pt sl os ch ow) (ja_pt vl ov ch ow) (ja_pt la (ja_lm ow) ch ow) os ov (ch + ow) hm 0 (de + nI 1) (si + nI 1) fl cr) H := hP
      have hD : va_D A (ja_wM h a1 a2 a3 a4 a5 a6 a7 cA fd (ja_ap os ov nw ow) (ja_pt sl os ch ow) (ja_pt vl ov ch ow) (ja_pt la (ja_lm ow) ch ow) os ov (ch + ow) hm 0 (de + nI 1) (si + nI 1) fl cr) := hD
      refine lv_iload_n hx hb dX1_commit_127 rfl (lv_at hl 1 rfl) ?_
      exact W.iret (v := nI ow) hx hb hr (fun t ht hW => ⟨⟨nI ow, (fd, (ja_ap os ov nw ow), (ja_pt sl os ch ow), (ja_pt vl ov ch ow), (ja_pt la (ja_lm ow) ch ow), os, ov, (ch + ow), hm, 0, (de + nI 1), (si + nI 1), fl, cr), rfl, Or.inr ⟨hw0, rfl, rfl⟩, by rw [ht]; exact hP, hD⟩, hS.F ht⟩) hS.2.2 dX1_commit_128
    · refine lv_aload_n hx hb dX1_commit_18 rfl (lv_at hl 2 rfl) ?_
      refine va_get (D := (dC, dI)) (ci := 1) (v := .ref a3) (C := RX1) (T := TX1) (N := 14) hx hb hts hin hown hK hP 0 rfl rfl 2 (by decide) fk16 (fun _ h9 => h9) rfl dX1_commit_19 ?_
      refine lv_aload_n hx hb dX1_commit_22 rfl (lv_at hl 2 rfl) ?_
      refine va_get (D := (dC, dI)) (ci := 1) (v := .int (nI (ch + k))) (C := RX1) (T := TX1) (N := 14) hx hb hts hin hown hK hP 0 rfl rfl 5 (by decide) fk31 (fun _ h9 => h9) rfl dX1_commit_23 ?_
      refine lv_aload_n hx hb dX1_commit_26 rfl (lv_at hl 2 rfl) ?_
      refine va_get (D := (dC, dI)) (ci := 1) (v := .ref a6) (C := RX1) (T := TX1) (N := 14) hx hb hts hin hown hK hP 0 rfl rfl 7 (by decide) fk25 (fun _ h9 => h9) rfl dX1_commit_27 ?_
      refine lv_iload_n hx hb dX1_commit_30 rfl (lv_at hl 0 rfl) ?_
      refine ja_ald hx hb hK hP 6 0 rfl rfl (by omega) (by decide) dX1_commit_31 ?_
      refine ja_ast hx hb hK hP hD hS 3 0 rfl rfl (by omega) (by decide) dX1_commit_32 (fun H locs hP hD hS => ?_)
      have hP : va_P (dC, dI) vwCl (ja_wM h a1 a2 a3 a4 a5 a6 a7 cA fd (ja_ap os ov nw k) (upd (ja_pt sl os ch k) (ch + k) (os k)) (ja_pt vl ov ch k) (ja_pt la (ja_lm ow) ch k) os ov (ch + k) hm ow de si fl cr) H := hP
      have hD : va_D A (ja_wM h a1 a2 a3 a4 a5 a6 a7 cA fd (ja_ap os ov nw k) (upd (ja_pt sl os ch k) (ch + k) (os k)) (ja_pt vl ov ch k) (ja_pt la (ja_lm ow) ch k) os ov (ch + k) hm ow de si fl cr) := hD
      refine lv_aload_n hx hb dX1_commit_33 rfl (lv_at hl 2 rfl) ?_
      refine va_get (D := (dC, dI)) (ci := 1) (v := .ref a4) (C := RX1) (T := TX1) (N := 14) hx hb hts hin hown hK hP 0 rfl rfl 3 (by decide) fk19 (fun _ h9 => h9) rfl dX1_commit_34 ?_
      refine lv_aload_n hx hb dX1_commit_37 rfl (lv_at hl 2 rfl) ?_
      refine va_get (D := (dC, dI)) (ci := 1) (v := .int (nI (ch + k))) (C := RX1) (T := TX1) (N := 14) hx hb hts hin hown hK hP 0 rfl rfl 5 (by decide) fk31 (fun _ h9 => h9) rfl dX1_commit_38 ?_
      refine lv_aload_n hx hb dX1_commit_41 rfl (lv_at hl 2 rfl) ?_
      refine va_get (D := (dC, dI)) (ci := 1) (v := .ref a7) (C := RX1) (T := TX1) (N := 14) hx hb hts hin hown hK hP 0 rfl rfl 8 (by decide) fk28 (fun _ h9 => h9) rfl dX1_commit_42 ?_
      refine lv_iload_n hx hb dX1_commit_45 rfl (lv_at hl 0 rfl) ?_
      refine ja_ald hx hb hK hP 7 0 rfl rfl (by omega) (by decide) dX1_commit_46 ?_
      refine ja_ast hx hb hK hP hD hS 4 0 rfl rfl (by omega) (by decide) dX1_commit_47 (fun H locs hP hD hS => ?_)
      have hP : va_P (dC, dI) vwCl (ja_wM h a1 a2 a3 a4 a5 a6 a7 cA fd (ja_ap os ov nw k) (upd (ja_pt sl os ch k) (ch + k) (os k)) (upd (ja_pt vl ov ch k) (ch + k) (ov k)) (ja_pt la (ja_lm ow) ch k) os ov (ch + k) hm ow de si fl cr) H := hP
      have hD : va_D A (ja_wM h a1 a2 a3 a4 a5 a6 a7 cA fd (ja_ap os ov nw k) (upd (ja_pt sl os ch k) (ch + k) (os k)) (upd (ja_pt vl ov ch k) (ch + k) (ov k)) (ja_pt la (ja_lm ow) ch k) os ov (ch + k) hm ow de si fl cr) := hD
      refine lv_aload_n hx hb dX1_commit_48 rfl (lv_at hl 2 rfl) ?_
      refine va_get (D := (dC, dI)) (ci := 1) (v := .ref a5) (C := RX1) (T := TX1) (N := 14) hx hb hts hin hown hK hP 0 rfl rfl 4 (by decide) fk22 (fun _ h9 => h9) rfl dX1_commit_49 ?_
      refine lv_aload_n hx hb dX1_commit_52 rfl (lv_at hl 2 rfl) ?_
      refine va_get (D := (dC, dI)) (ci := 1) (v := .int (nI (ch + k))) (C := RX1) (T := TX1) (N := 14) hx hb hts hin hown hK hP 0 rfl rfl 5 (by decide) fk31 (fun _ h9 => h9) rfl dX1_commit_53 ?_
      refine lv_iload_n hx hb dX1_commit_56 rfl (lv_at hl 0 rfl) ?_
      refine lv_iload_n hx hb dX1_commit_57 rfl (lv_at hl 1 rfl) ?_
      refine lv_iconst (v := nI 1) hx hb dX1_commit_58 (by decide +kernel) ?_
      refine lv_isub hx hb dX1_commit_59 ?_
      refine ja_top (y := nI (ow - 1)) (pk_sub (by omega)) ?_
      refine ja_ine hx hb dX1_commit_60 (tgt := 67) (by decide) (by omega) (by omega) (fun h60 => ?_) (fun h60 => ?_)
      · refine lv_iconst (v := nI 0) hx hb dX1_commit_67 (by decide +kernel) ?_
        refine ja_top (y := ja_lm ow k) (ja_lm_f (by omega)) ?_
        refine ja_ast hx hb hK hP hD hS 5 0 rfl rfl (by omega) (by decide) dX1_commit_68 (fun H locs hP hD hS => ?_)
        have hP : va_P (dC, dI) vwCl (ja_wM h a1 a2 a3 a4 a5 a6 a7 cA fd (ja_ap os ov nw k) (upd (ja_pt sl os ch k) (ch + k) (os k)) (upd (ja_pt vl ov ch k) (ch + k) (ov k)) (upd (ja_pt la (ja_lm ow) ch k) (ch + k) (ja_lm ow k)) os ov (ch + k) hm ow de si fl cr) H := hP
        have hD : va_D A (ja_wM h a1 a2 a3 a4 a5 a6 a7 cA fd (ja_ap os ov nw k) (upd (ja_pt sl os ch k) (ch + k) (os k)) (upd (ja_pt vl ov ch k) (ch + k) (ov k)) (upd (ja_pt la (ja_lm ow) ch k) (ch + k) (ja_lm ow k)) os ov (ch + k) hm ow de si fl cr) := hD
        refine lv_aload_n hx hb dX1_commit_69 rfl (lv_at hl 2 rfl) ?_
        refine lv_dup hx hb dX1_commit_70 rfl ?_
        refine va_get (D := (dC, dI)) (ci := 1) (v := .int (nI (ch + k))) (C := RX1) (T := TX1) (N := 14) hx hb hts hin hown hK hP 0 rfl rfl 5 (by decide) fk31 (fun _ h9 => h9) rfl dX1_commit_71 ?_
        refine lv_iconst (v := nI 1) hx hb dX1_commit_74 (by decide +kernel) ?_
        refine lv_iadd hx hb dX1_commit_75 ?_
        refine ja_top (y := nI ((ch + k) + 1)) (nI_add _ _) ?_
        refine va_put (D := (dC, dI)) (ci := 1) (v := .int (nI ((ch + k) + 1))) (ty := .int) (C := RX1) (T := TX1) (N := 14) hx hb hts hin tyX1 tyX1_ok nmX1 hown hK hP hD hS 0 rfl rfl 5 (by decide) fk31 (fun _ h9 => h9) rfl (by decide +kernel) rfl rfl (Nat.le_of_ble_eq_true rfl) dX1_commit_76 (fun H locs hP hD hS => ?_)
        have hP : va_P (dC, dI) vwCl (ja_wM h a1 a2 a3 a4 a5 a6 a7 cA fd (ja_ap os ov nw k) (upd (ja_pt sl os ch k) (ch + k) (os k)) (upd (ja_pt vl ov ch k) (ch + k) (ov k)) (upd (ja_pt la (ja_lm ow) ch k) (ch + k) (ja_lm ow k)) os ov ((ch + k) + 1) hm ow de si fl cr) H := hP
        have hD : va_D A (ja_wM h a1 a2 a3 a4 a5 a6 a7 cA fd (ja_ap os ov nw k) (upd (ja_pt sl os ch k) (ch + k) (os k)) (upd (ja_pt vl ov ch k) (ch + k) (ov k)) (upd (ja_pt la (ja_lm ow) ch k) (ch + k) (ja_lm ow k)) os ov ((ch + k) + 1) hm ow de si fl cr) := hD
        refine lv_aload_n hx hb dX1_commit_79 rfl (lv_at hl 2 rfl) ?_
        refine va_get (D := (dC, dI)) (ci := 1) (v := .ref a2) (C := RX1) (T := TX1) (N := 14) hx hb hts hin hown hK hP 0 rfl rfl 1 (by decide) fk13 (fun _ h9 => h9) rfl dX1_commit_80 ?_
        refine lv_aload_n hx hb dX1_commit_83 rfl (lv_at hl 2 rfl) ?_
        refine va_get (D := (dC, dI)) (ci := 1) (v := .ref a6) (C := RX1) (T := TX1) (N := 14) hx hb hts hin hown hK hP 0 rfl rfl 7 (by decide) fk25 (fun _ h9 => h9) rfl dX1_commit_84 ?_
        refine lv_iload_n hx hb dX1_commit_87 rfl (lv_at hl 0 rfl) ?_
        refine ja_ald hx hb hK hP 6 0 rfl rfl (by omega) (by decide) dX1_commit_88 ?_
        refine lv_aload_n hx hb dX1_commit_89 rfl (lv_at hl 2 rfl) ?_
        refine va_get (D := (dC, dI)) (ci := 1) (v := .ref a7) (C := RX1) (T := TX1) (N := 14) hx hb hts hin hown hK hP 0 rfl rfl 8 (by decide) fk28 (fun _ h9 => h9) rfl dX1_commit_90 ?_
        refine lv_iload_n hx hb dX1_commit_93 rfl (lv_at hl 0 rfl) ?_
        refine ja_ald hx hb hK hP 7 0 rfl rfl (by omega) (by decide) dX1_commit_94 ?_
        refine va_iast hx hb hK hP hD hS 2 0 rfl rfl (hos k (by omega)) dX1_commit_95 (fun H locs hP hD hS => ?_)
        have hP : va_P (dC, dI) vwCl (ja_wM h a1 a2 a3 a4 a5 a6 a7 cA fd (upd (ja_ap os ov nw k) (os k).toNatClampNeg (ov k)) (upd (ja_pt sl os ch k) (ch + k) (os k)) (upd (ja_pt vl ov ch k) (ch + k) (ov k)) (upd (ja_pt la (ja_lm ow) ch k) (ch + k) (ja_lm ow k)) os ov ((ch + k) + 1) hm ow de si fl cr) H := hP
        have hD : va_D A (ja_wM h a1 a2 a3 a4 a5 a6 a7 cA fd (upd (ja_ap os ov nw k) (os k).toNatClampNeg (ov k)) (upd (ja_pt sl os ch k) (ch + k) (os k)) (upd (ja_pt vl ov ch k) (ch + k) (ov k)) (upd (ja_pt la (ja_lm ow) ch k) (ch + k) (ja_lm ow k)) os ov ((ch + k) + 1) hm ow de si fl cr) := hD
        -- iinc
        refine lv_iinc (k := 0) (v := nI (k + 1)) (lv' := [(2, .int (nI (k + 1))), (1, .int (nI ow)), (0, .ref h)]) hx hb dX1_commit_96 hl rfl (ja_inc1 _) (by decide) rfl (fun ls hl => ?_)
        refine lv_goto (tgt := 13) hx hb dX1_commit_99 (by decide) ?_
        exact ih0 (k + 1) ls H locs ⟨lv_sub hl [0, 1, 2] rfl, hP, hD, hS, (by omega)⟩ (show ow - (k + 1) < ow - (k) by omega)
      · refine lv_iconst (v := nI 1) hx hb dX1_commit_63 (by decide +kernel) ?_
        refine lv_goto (tgt := 68) hx hb dX1_commit_64 (by decide) ?_
        refine ja_top (y := ja_lm ow k) (ja_lm_t (by omega)) ?_
        refine ja_ast hx hb hK hP hD hS 5 0 rfl rfl (by omega) (by decide) dX1_commit_68 (fun H locs hP hD hS => ?_)
        have hP : va_P (dC, dI) vwCl (ja_wM h a1 a2 a3 a4 a5 a6 a7 cA fd (ja_ap os ov nw k) (upd (ja_pt sl os ch k) (ch + k) (os k)) (upd (ja_pt vl ov ch k) (ch + k) (ov k)) (upd (ja_pt la (ja_lm ow) ch k) (ch + k) (ja_lm ow k)) os ov (ch + k) hm ow de si fl cr) H := hP
        have hD : va_D A (ja_wM h a1 a2 a3 a4 a5 a6 a7 cA fd (ja_ap os ov nw k) (upd (ja_pt sl os ch k) (ch + k) (os k)) (upd (ja_pt vl ov ch k) (ch + k) (ov k)) (upd (ja_pt la (ja_lm ow) ch k) (ch + k) (ja_lm ow k)) os ov (ch + k) hm ow de si fl cr) := hD
        refine lv_aload_n hx hb dX1_commit_69 rfl (lv_at hl 2 rfl) ?_
        refine lv_dup hx hb dX1_commit_70 rfl ?_
        refine va_get (D := (dC, dI)) (ci := 1) (v := .int (nI (ch + k))) (C := RX1) (T := TX1) (N := 14) hx hb hts hin hown hK hP 0 rfl rfl 5 (by decide) fk31 (fun _ h9 => h9) rfl dX1_commit_71 ?_
        refine lv_iconst (v := nI 1) hx hb dX1_commit_74 (by decide +kernel) ?_
        refine lv_iadd hx hb dX1_commit_75 ?_
        refine ja_top (y := nI ((ch + k) + 1)) (nI_add _ _) ?_
        refine va_put (D := (dC, dI)) (ci := 1) (v := .int (nI ((ch + k) + 1))) (ty := .int) (C := RX1) (T := TX1) (N := 14) hx hb hts hin tyX1 tyX1_ok nmX1 hown hK hP hD hS 0 rfl rfl 5 (by decide) fk31 (fun _ h9 => h9) rfl (by decide +kernel) rfl rfl (Nat.le_of_ble_eq_true rfl) dX1_commit_76 (fun H locs hP hD hS => ?_)
        have hP : va_P (dC, dI) vwCl (ja_wM h a1 a2 a3 a4 a5 a6 a7 cA fd (ja_ap os ov nw k) (upd (ja_pt sl os ch k) (ch + k) (os k)) (upd (ja_pt vl ov ch k) (ch + k) (ov k)) (upd (ja_pt la (ja_lm ow) ch k) (ch + k) (ja_lm ow k)) os ov ((ch + k) + 1) hm ow de si fl cr) H := hP
        have hD : va_D A (ja_wM h a1 a2 a3 a4 a5 a6 a7 cA fd (ja_ap os ov nw k) (upd (ja_pt sl os ch k) (ch + k) (os k)) (upd (ja_pt vl ov ch k) (ch + k) (ov k)) (upd (ja_pt la (ja_lm ow) ch k) (ch + k) (ja_lm ow k)) os ov ((ch + k) + 1) hm ow de si fl cr) := hD
        refine lv_aload_n hx hb dX1_commit_79 rfl (lv_at hl 2 rfl) ?_
        refine va_get (D := (dC, dI)) (ci := 1) (v := .ref a2) (C := RX1) (T := TX1) (N := 14) hx hb hts hin hown hK hP 0 rfl rfl 1 (by decide) fk13 (fun _ h9 => h9) rfl dX1_commit_80 ?_
        refine lv_aload_n hx hb dX1_commit_83 rfl (lv_at hl 2 rfl) ?_
        refine va_get (D := (dC, dI)) (ci := 1) (v := .ref a6) (C := RX1) (T := TX1) (N := 14) hx hb hts hin hown hK hP 0 rfl rfl 7 (by decide) fk25 (fun _ h9 => h9) rfl dX1_commit_84 ?_
        refine lv_iload_n hx hb dX1_commit_87 rfl (lv_at hl 0 rfl) ?_
        refine ja_ald hx hb hK hP 6 0 rfl rfl (by omega) (by decide) dX1_commit_88 ?_
        refine lv_aload_n hx hb dX1_commit_89 rfl (lv_at hl 2 rfl) ?_
        refine va_get (D := (dC, dI)) (ci := 1) (v := .ref a7) (C := RX1) (T := TX1) (N := 14) hx hb hts hin hown hK hP 0 rfl rfl 8 (by decide) fk28 (fun _ h9 => h9) rfl dX1_commit_90 ?_
        refine lv_iload_n hx hb dX1_commit_93 rfl (lv_at hl 0 rfl) ?_
        refine ja_ald hx hb hK hP 7 0 rfl rfl (by omega) (by decide) dX1_commit_94 ?_
        refine va_iast hx hb hK hP hD hS 2 0 rfl rfl (hos k (by omega)) dX1_commit_95 (fun H locs hP hD hS => ?_)
        have hP : va_P (dC, dI) vwCl (ja_wM h a1 a2 a3 a4 a5 a6 a7 cA fd (upd (ja_ap os ov nw k) (os k).toNatClampNeg (ov k)) (upd (ja_pt sl os ch k) (ch + k) (os k)) (upd (ja_pt vl ov ch k) (ch + k) (ov k)) (upd (ja_pt la (ja_lm ow) ch k) (ch + k) (ja_lm ow k)) os ov ((ch + k) + 1) hm ow de si fl cr) H := hP
        have hD : va_D A (ja_wM h a1 a2 a3 a4 a5 a6 a7 cA fd (upd (ja_ap os ov nw k) (os k).toNatClampNeg (ov k)) (upd (ja_pt sl os ch k) (ch + k) (os k)) (upd (ja_pt vl ov ch k) (ch + k) (ov k)) (upd (ja_pt la (ja_lm ow) ch k) (ch + k) (ja_lm ow k)) os ov ((ch + k) + 1) hm ow de si fl cr) := hD
        -- iinc
        refine lv_iinc (k := 0) (v := nI (k + 1)) (lv' := [(2, .int (nI (k + 1))), (1, .int (nI ow)), (0, .ref h)]) hx hb dX1_commit_96 hl rfl (ja_inc1 _) (by decide) rfl (fun ls hl => ?_)
        refine lv_goto (tgt := 13) hx hb dX1_commit_99 (by decide) ?_
        exact ih0 (k + 1) ls H locs ⟨lv_sub hl [0, 1, 2] rfl, hP, hD, hS, (by omega)⟩ (show ow - (k + 1) < ow - (k) by omega)
  · refine lv_iconst (v := (-1)) hx hb dX1_commit_9 (by decide +kernel) ?_
    exact W.iret (v := (-1)) hx hb hr (fun t ht hW => ⟨⟨(-1), (fd, nw, sl, vl, la, os, ov, ch, hm, ow, de, si, fl, cr), rfl, Or.inl ⟨h6, rfl, rfl⟩, by rw [ht]; exact hP, hD⟩, hS.F ht⟩) hS.2.2 dX1_commit_10
set_option maxHeartbeats 1000000 in
set_option maxRecDepth 100000 in
/-- forget -/
theorem cM_forget (l : Launch) (dC : Nat → ClassId) (dI : Nat → Nat → Nat) (h a1 a2 a3 a4 a5 a6 a7 : Nat) (cA : ClassId) (sz : Nat) (fd nw sl vl la os ov : Nat → Int32) (ch : Nat) (hm : Int32) (ow : Nat) (de : Int32) (si : Int32) (fl : Int32) (cr : Int32)   : Met l yX1_forget wsX1_forget ({ frames := 0, cells := 0, slots := 0, locals := 0 }) (ja_Pw (dC, dI) vwCl (ja_wM h a1 a2 a3 a4 a5 a6 a7 cA fd nw sl vl la os ov ch hm ow de si fl cr) [(cA, .int)] sz [.ref h]) (va_Qi (fun (r : Int32) (u : ja_SM) => r = nI ow ∧ u = (fd, nw, sl, vl, la, os, ov, ch, hm, 0, de, si, fl, cr)) (ja_B (dC, dI) vwCl (va_A (ja_wM h a1 a2 a3 a4 a5 a6 a7 cA fd nw sl vl la os ov ch hm ow de si fl cr) sz) (ja_uM h a1 a2 a3 a4 a5 a6 a7 cA)) (va_A (ja_wM h a1 a2 a3 a4 a5 a6 a7 cA fd nw sl vl la os ov ch hm ow de si fl cr) sz)) 0 0 (va_A (ja_wM h a1 a2 a3 a4 a5 a6 a7 cA fd nw sl vl la os ov ch hm ow de si fl cr) sz) := by
  refine Met.ofW (cc := cX1_forget) (maxL := 2) (ret := (some .int)) (by decide) rfl ?_
  intro p e s m args below meth c s₁ B hml hv
  obtain ⟨rfl, hsz, hP, hK, hD0⟩ := hv
  have hx := B.exec
  have hb := B.bytes
  have hr := B.returns
  have hts := atoms_spec (ws := wsX1_forget) B.pre
  have hown : s.vm.findClass RX1 = some m.cls := findClass_of_methodNamed B.named
  have hlocks := B.notSynchronized
  have hin : ∀ w ∈ u_ws RX1 TX1 14, w ∈ wsX1_forget := by decide +kernel
  have fk38 := hts (.fieldLink RX1 38 "JournalShelfModel" "own" "I") (by decide +kernel)
  subst hsz
  have hD := hD0.self (sz := s.heap.size)
  generalize hAe : va_A (ja_wM h a1 a2 a3 a4 a5 a6 a7 cA fd nw sl vl la os ov ch hm ow de si fl cr) s.heap.size = A at hD ⊢
  have hA : ∀ q : Nat, s.heap.size ≤ q → A q := fun q h => by rw [← hAe]; exact Or.inr h
  refine ja_st0 s.heap [] hP (va_S.rf (A := A)) (fun H locs hP hS => ?_)
  have hl := lv_entry ([.ref h]) (n := 2) (Nat.le_of_ble_eq_true rfl)
  rw [lg_entry_eq]
  generalize (lg_sl ([.ref h]) ++ List.replicate (2 - (lg_sl ([.ref h])).length) Slot.unset).toArray = ls at hl ⊢
  have hl : lv_has ls 2 [(0, .ref h)] := hl
  refine lv_aload_n hx hb dX1_forget_0 rfl (lv_at hl 0 rfl) ?_
  refine va_get (D := (dC, dI)) (ci := 1) (v := .int (nI ow)) (C := RX1) (T := TX1) (N := 14) hx hb hts hin hown hK hP 0 rfl rfl 9 (by decide) fk38 (fun _ h9 => h9) rfl dX1_forget_1 ?_
  refine lv_istore_n (lv' := [(1, .int (nI ow)), (0, .ref h)]) hx hb dX1_forget_4 rfl hl (by decide) rfl (fun ls hl => ?_)
  refine lv_aload_n hx hb dX1_forget_5 rfl (lv_at hl 1 rfl) ?_
  refine lv_iconst (v := nI 0) hx hb dX1_forget_6 (by decide +kernel) ?_
  refine va_put (D := (dC, dI)) (ci := 1) (v := .int (nI 0)) (ty := .int) (C := RX1) (T := TX1) (N := 14) hx hb hts hin tyX1 tyX1_ok nmX1 hown hK hP hD hS 0 rfl rfl 9 (by decide) fk38 (fun _ h9 => h9) rfl (by decide +kernel) rfl rfl (Nat.le_of_ble_eq_true rfl) dX1_forget_7 (fun H locs hP hD hS => ?_)
  have hP : va_P (dC, dI) vwCl (ja_wM h a1 a2 a3 a4 a5 a6 a7 cA fd nw sl vl la os ov ch hm 0 de si fl cr) H := hP
  have hD : va_D A (ja_wM h a1 a2 a3 a4 a5 a6 a7 cA fd nw sl vl la os ov ch hm 0 de si fl cr) := hD
  refine lv_iload_n hx hb dX1_forget_10 rfl (lv_at hl 0 rfl) ?_
  exact W.iret (v := nI ow) hx hb hr (fun t ht hW => ⟨⟨nI ow, (fd, nw, sl, vl, la, os, ov, ch, hm, 0, de, si, fl, cr), rfl, ⟨rfl, rfl⟩, by rw [ht]; exact hP, hD⟩, hS.F ht⟩) hS.2.2 dX1_forget_11
set_option maxHeartbeats 1000000 in
set_option maxRecDepth 100000 in
/-- crash -/
theorem cM_crash (l : Launch) (dC : Nat → ClassId) (dI : Nat → Nat → Nat) (h a1 a2 a3 a4 a5 a6 a7 : Nat) (cA : ClassId) (sz : Nat) (fd nw sl vl la os ov : Nat → Int32) (ch : Nat) (hm : Int32) (ow : Nat) (de : Int32) (si : Int32) (fl : Int32) (cr : Int32) (mask part : Int32) (hch : ch ≤ 24) (hsl : ∀ i, i < ch → vp_in (sl i) 212) : Met l yX1_crash wsX1_crash ({ frames := 1, cells := 0, slots := 0, locals := 21 }) (ja_Pw (dC, dI) vwCl (ja_wM h a1 a2 a3 a4 a5 a6 a7 cA fd nw sl vl la os ov ch hm ow de si fl cr) [(cA, .int)] sz [.ref h, .int mask, .int part]) (va_Qi (fun (r : Int32) (u : ja_SM) => ((part < 0 ∨ nI 500 < part) ∧ r = -1 ∧ u = (fd, nw, sl, vl, la, os, ov, ch, hm, ow, de, si, fl, cr)) ∨ (¬ part < 0 ∧ ¬ nI 500 < part ∧ r = si - nI (ja_kp (ja_z mask hm) la ch) ∧ u = (ja_cp (ja_ap sl vl (ja_cp fd nw 212) (ja_wh (ja_z mask hm) la ch)) fd 212, ja_ap sl vl (ja_cp fd nw 212) (ja_wh (ja_z mask hm) la ch), sl, vl, la, os, ov, 0, nI 0, 0, de - (si - nI (ja_kp (ja_z mask hm) la ch)), nI 0, fl, cr + nI 1))) (ja_B (dC, dI) vwCl (va_A (ja_wM h a1 a2 a3 a4 a5 a6 a7 cA fd nw sl vl la os ov ch hm ow de si fl cr) sz) (ja_uM h a1 a2 a3 a4 a5 a6 a7 cA)) (va_A (ja_wM h a1 a2 a3 a4 a5 a6 a7 cA fd nw sl vl la os ov ch hm ow de si fl cr) sz)) 0 0 (va_A (ja_wM h a1 a2 a3 a4 a5 a6 a7 cA fd nw sl vl la os ov ch hm ow de si fl cr) sz) := by
  refine Met.ofW (cc := cX1_crash) (maxL := 7) (ret := (some .int)) (by decide) rfl ?_
  intro p e s m args below meth c s₁ B hml hv
  obtain ⟨rfl, hsz, hP, hK, hD0⟩ := hv
  have hx := B.exec
  have hb := B.bytes
  have hr := B.returns
  have hts := atoms_spec (ws := wsX1_crash) B.pre
  have hown : s.vm.findClass RX1 = some m.cls := findClass_of_methodNamed B.named
  have hlocks := B.notSynchronized
  have hin : ∀ w ∈ u_ws RX1 TX1 14, w ∈ wsX1_crash := by decide +kernel
  have fk9 := hts (.fieldLink RX1 9 "JournalShelfModel" "flushed" "[I") (by decide +kernel)
  have fk13 := hts (.fieldLink RX1 13 "JournalShelfModel" "now" "[I") (by decide +kernel)
  have fk16 := hts (.fieldLink RX1 16 "JournalShelfModel" "slot" "[I") (by decide +kernel)
  have fk19 := hts (.fieldLink RX1 19 "JournalShelfModel" "value" "[I") (by decide +kernel)
  have fk22 := hts (.fieldLink RX1 22 "JournalShelfModel" "lastOf" "[I") (by decide +kernel)
  have fk31 := hts (.fieldLink RX1 31 "JournalShelfModel" "changes" "I") (by decide +kernel)
  have fk35 := hts (.fieldLink RX1 35 "JournalShelfModel" "since" "I") (by decide +kernel)
  have fk38 := hts (.fieldLink RX1 38 "JournalShelfModel" "own" "I") (by decide +kernel)
  have fk45 := hts (.fieldLink RX1 45 "JournalShelfModel" "deeds" "I") (by decide +kernel)
  have fk51 := hts (.fieldLink RX1 51 "JournalShelfModel" "homes" "I") (by decide +kernel)
  have fk60 := hts (.fieldLink RX1 60 "JournalShelfModel" "crashes" "I") (by decide +kernel)
  subst hsz
  have hD := hD0.self (sz := s.heap.size)
  generalize hAe : va_A (ja_wM h a1 a2 a3 a4 a5 a6 a7 cA fd nw sl vl la os ov ch hm ow de si fl cr) s.heap.size = A at hD ⊢
  have hA : ∀ q : Nat, s.heap.size ≤ q → A q := fun q h => by rw [← hAe]; exact Or.inr h
  refine ja_st0 s.heap [] hP (va_S.rf (A := A)) (fun H locs hP hS => ?_)
  have hl := lv_entry ([.ref h, .int mask, .int part]) (n := 7) (Nat.le_of_ble_eq_true rfl)
  rw [lg_entry_eq]
  generalize (lg_sl ([.ref h, .int mask, .int part]) ++ List.replicate (7 - (lg_sl ([.ref h, .int mask, .int part])).length) Slot.unset).toArray = ls at hl ⊢
  have hl : lv_has ls 7 [(0, .ref h), (1, .int mask), (2, .int part)] := hl
  refine lv_iload_n hx hb dX1_crash_0 rfl (lv_at hl 2 rfl) ?_
  refine lv_if_lt hx hb dX1_crash_1 (tgt := 11) (by decide) (fun h1 => ?_) (fun h1 => ?_)
  · refine lv_iconst (v := (-1)) hx hb dX1_crash_11 (by decide +kernel) ?_
    exact W.iret (v := (-1)) hx hb hr (fun t ht hW => ⟨⟨(-1), (fd, nw, sl, vl, la, os, ov, ch, hm, ow, de, si, fl, cr), rfl, Or.inl ⟨Or.inl h1, rfl, rfl⟩, by rw [ht]; exact hP, hD⟩, hS.F ht⟩) hS.2.2 dX1_crash_12
  · have hp0 := h1
    refine lv_iload_n hx hb dX1_crash_4 rfl (lv_at hl 2 rfl) ?_
    refine lv_sipush (v := nI 500) hx hb dX1_crash_5 (by decide +kernel) ?_
    refine lv_icmp_le hx hb dX1_crash_8 (tgt := 13) (by decide) (fun h8 => ?_) (fun h8 => ?_)
    · have hp1 := Int32.not_lt.mpr h8
      refine lv_iconst (v := nI 0) hx hb dX1_crash_13 (by decide +kernel) ?_
      refine lv_istore_n (lv' := [(3, .int (nI 0)), (0, .ref h), (1, .int mask), (2, .int part)]) hx hb dX1_crash_14 rfl hl (by decide) rfl (fun ls hl => ?_)
      refine lv_iconst (v := nI 0) hx hb dX1_crash_15 (by decide +kernel) ?_
      refine lv_istore (lv' := [(4, .int (nI 0)), (3, .int (nI 0)), (0, .ref h), (1, .int mask), (2, .int part)]) hx hb dX1_crash_16 hl (by decide) rfl (fun ls hl => ?_)
      refine lv_iconst (v := nI 1) hx hb dX1_crash_18 (by decide +kernel) ?_
      refine lv_istore (lv' := [(5, .int (nI 1)), (4, .int (nI 0)), (3, .int (nI 0)), (0, .ref h), (1, .int mask), (2, .int part)]) hx hb dX1_crash_19 hl (by decide) rfl (fun ls hl => ?_)
      refine lv_iconst (v := nI 0) hx hb dX1_crash_21 (by decide +kernel) ?_
      refine lv_istore (lv' := [(6, .int (nI 0)), (5, .int (nI 1)), (4, .int (nI 0)), (3, .int (nI 0)), (0, .ref h), (1, .int mask), (2, .int part)]) hx hb dX1_crash_22 hl (by decide) rfl (fun ls hl => ?_)
      refine ja_lpW 24 (fun (k : Nat) ls H locs => lv_has ls 7 [(6, .int (nI k)), (5, .int (ja_b (ja_sd (ja_z mask hm) k))), (4, .int (nI (ja_kp (ja_z mask hm) la k))), (3, .int (nI (ja_wh (ja_z mask hm) la k))), (0, .ref h), (1, .int mask), (2, .int part)] ∧ va_P (dC, dI) vwCl (ja_wM h a1 a2 a3 a4 a5 a6 a7 cA fd nw sl vl la os ov ch hm ow de si fl cr) H ∧ va_D A (ja_wM h a1 a2 a3 a4 a5 a6 a7 cA fd nw sl vl la os ov ch hm ow de si fl cr) ∧ va_S A s.heap H locs ∧ k ≤ ch) (fun k => ch - (k)) ?_ 0 ls H locs ⟨lv_sub hl [0, 1, 2, 3, 4, 5, 6] rfl, hP, hD, hS, Nat.zero_le _⟩
      intro k ls H locs hI ih0
      obtain ⟨hl, hP, hD, hS, hi⟩ := hI
      have hl : lv_has ls 7 [(6, .int (nI k)), (5, .int (ja_b (ja_sd (ja_z mask hm) k))), (4, .int (nI (ja_kp (ja_z mask hm) la k))), (3, .int (nI (ja_wh (ja_z mask hm) la k))), (0, .ref h), (1, .int mask), (2, .int part)] := hl
      have hP : va_P (dC, dI) vwCl (ja_wM h a1 a2 a3 a4 a5 a6 a7 cA fd nw sl vl la os ov ch hm ow de si fl cr) H := hP
      have hD : va_D A (ja_wM h a1 a2 a3 a4 a5 a6 a7 cA fd nw sl vl la os ov ch hm ow de si fl cr) := hD
      refine lv_iload hx hb dX1_crash_24 (lv_at hl 0 rfl) ?_
      refine lv_aload_n hx hb dX1_crash_26 rfl (lv_at hl 4 rfl) ?_
      refine va_get (D := (dC, dI)) (ci := 1) (v := .int (nI ch)) (C := RX1) (T := TX1) (N := 14) hx hb hts hin hown hK hP 0 rfl rfl 5 (by decide) fk31 (fun _ h9 => h9) rfl dX1_crash_27 ?_
      refine ja_ige hx hb dX1_crash_30 (tgt := 83) (by decide) (by omega) (by omega) (fun h30 => ?_) (fun h30 => ?_)
      · have hk2 : k = ch := by omega
        obtain rfl : ch = k := hk2.symm
        have hl : lv_has ls 7 [(6, .int (nI ch)), (5, .int (ja_b (ja_sd (ja_z mask hm) ch))), (4, .int (nI (ja_kp (ja_z mask hm) la ch))), (3, .int (nI (ja_wh (ja_z mask hm) la ch))), (0, .ref h), (1, .int mask), (2, .int part)] := hl
        have hP : va_P (dC, dI) vwCl (ja_wM h a1 a2 a3 a4 a5 a6 a7 cA fd nw sl vl la os ov ch hm ow de si fl cr) H := hP
        have hD : va_D A (ja_wM h a1 a2 a3 a4 a5 a6 a7 cA fd nw sl vl la os ov ch hm ow de si fl cr) := hD
        have hwl := ja_wh_le (ja_z mask hm) la ch
        refine lv_iconst (v := nI 0) hx hb dX1_crash_83 (by decide +kernel) ?_
        refine lv_istore (lv' := [(6, .int (nI 0)), (5, .int (ja_b (ja_sd (ja_z mask hm) ch))), (4, .int (nI (ja_kp (ja_z mask hm) la ch))), (3, .int (nI (ja_wh (ja_z mask hm) la ch))), (0, .ref h), (1, .int mask), (2, .int part)]) hx hb dX1_crash_84 hl (by decide) rfl (fun ls hl => ?_)
        have hP : va_P (dC, dI) vwCl (ja_wM h a1 a2 a3 a4 a5 a6 a7 cA fd (ja_cp fd nw 0) sl vl la os ov ch hm ow de si fl cr) H := by rw [ja_cp_0]; exact hP
        have hD : va_D A (ja_wM h a1 a2 a3 a4 a5 a6 a7 cA fd (ja_cp fd nw 0) sl vl la os ov ch hm ow de si fl cr) := by rw [ja_cp_0]; exact hD
        refine ja_lpW 86 (fun (i : Nat) ls H locs => lv_has ls 7 [(6, .int (nI i)), (4, .int (nI (ja_kp (ja_z mask hm) la ch))), (3, .int (nI (ja_wh (ja_z mask hm) la ch))), (0, .ref h)] ∧ va_P (dC, dI) vwCl (ja_wM h a1 a2 a3 a4 a5 a6 a7 cA fd (ja_cp fd nw i) sl vl la os ov ch hm ow de si fl cr) H ∧ va_D A (ja_wM h a1 a2 a3 a4 a5 a6 a7 cA fd (ja_cp fd nw i) sl vl la os ov ch hm ow de si fl cr) ∧ va_S A s.heap H locs ∧ i ≤ 212) (fun i => 212 - (i)) ?_ 0 ls H locs ⟨lv_sub hl [0, 2, 3, 4] rfl, hP, hD, hS, Nat.zero_le _⟩
        intro i ls H locs hI ih1
        obtain ⟨hl, hP, hD, hS, hi⟩ := hI
        have hl : lv_has ls 7 [(6, .int (nI i)), (4, .int (nI (ja_kp (ja_z mask hm) la ch))), (3, .int (nI (ja_wh (ja_z mask hm) la ch))), (0, .ref h)] := hl
        have hP : va_P (dC, dI) vwCl (ja_wM h a1 a2 a3 a4 a5 a6 a7 cA fd (ja_cp fd nw i) sl vl la os ov ch hm ow de si fl cr) H := hP
        have hD : va_D A (ja_wM h a1 a2 a3 a4 a5 a6 a7 cA fd (ja_cp fd nw i) sl vl la os ov ch hm ow de si fl cr) := hD
        refine lv_iload hx hb dX1_crash_86 (lv_at hl 0 rfl) ?_
        refine lv_sipush (v := nI 212) hx hb dX1_crash_88 (by decide +kernel) ?_
        refine ja_ige hx hb dX1_crash_91 (tgt := 114) (by decide) (by omega) (by omega) (fun h91 => ?_) (fun h91 => ?_)
        · have hi2 : i = 212 := by omega
          subst hi2
          have hP : va_P (dC, dI) vwCl (ja_wM h a1 a2 a3 a4 a5 a6 a7 cA fd (ja_cp fd nw 212) sl vl la os ov ch hm ow de si fl cr) H := hP
          have hD : va_D A (ja_wM h a1 a2 a3 a4 a5 a6 a7 cA fd (ja_cp fd nw 212) sl vl la os ov ch hm ow de si fl cr) := hD
          refine lv_iconst (v := nI 0) hx hb dX1_crash_114 (by decide +kernel) ?_
          refine lv_istore (lv' := [(6, .int (nI 0)), (4, .int (nI (ja_kp (ja_z mask hm) la ch))), (3, .int (nI (ja_wh (ja_z mask hm) la ch))), (0, .ref h)]) hx hb dX1_crash_115 hl (by decide) rfl (fun ls hl => ?_)
          refine ja_lpW 117 (fun (i : Nat) ls H locs => lv_has ls 7 [(6, .int (nI i)), (4, .int (nI (ja_kp (ja_z mask hm) la ch))), (3, .int (nI (ja_wh (ja_z mask hm) la ch))), (0, .ref h)] ∧ va_P (dC, dI) vwCl (ja_wM h a1 a2 a3 a4 a5 a6 a7 cA fd (ja_ap sl vl (ja_cp fd nw 212) i) sl vl la os ov ch hm ow de si fl cr) H ∧ va_D A (ja_wM h a1 a2 a3 a4 a5 a6 a7 cA fd (ja_ap sl vl (ja_cp fd nw 212) i) sl vl la os ov ch hm ow de si fl cr) ∧ va_S A s.heap H locs ∧ i ≤ (ja_wh (ja_z mask hm) la ch)) (fun i => (ja_wh (ja_z mask hm) la ch) - (i)) ?_ 0 ls H locs ⟨lv_sub hl [0, 1, 2, 3] rfl, hP, hD, hS, Nat.zero_le _⟩
          intro i ls H locs hI ih2
          obtain ⟨hl, hP, hD, hS, hi⟩ := hI
          have hl : lv_has ls 7 [(6, .int (nI i)), (4, .int (nI (ja_kp (ja_z mask hm) la ch))), (3, .int (nI (ja_wh (ja_z mask hm) la ch))), (0, .ref h)] := hl
          have hP : va_P (dC, dI) vwCl (ja_wM h a1 a2 a3 a4 a5 a6 a7 cA fd (ja_ap sl vl (ja_cp fd nw 212) i) sl vl la os ov ch hm ow de si fl cr) H := hP
          have hD : va_D A (ja_wM h a1 a2 a3 a4 a5 a6 a7 cA fd (ja_ap sl vl (ja_cp fd nw 212) i) sl vl la os ov ch hm ow de si fl cr) := hD
          refine lv_iload hx hb dX1_crash_117 (lv_at hl 0 rfl) ?_
          refine lv_iload_n hx hb dX1_crash_119 rfl (lv_at hl 2 rfl) ?_
          refine ja_ige hx hb dX1_crash_120 (tgt := 148) (by decide) (by omega) (by omega) (fun h120 => ?_) (fun h120 => ?_)
          · have hi2 : i = (ja_wh (ja_z mask hm) la ch) := by omega
            subst hi2
            have hl : lv_has ls 7 [(6, .int (nI (ja_wh (ja_z mask hm) la ch))), (4, .int (nI (ja_kp (ja_z mask hm) la ch))), (3, .int (nI (ja_wh (ja_z mask hm) la ch))), (0, .ref h)] := hl
            have hP : va_P (dC, dI) vwCl (ja_wM h a1 a2 a3 a4 a5 a6 a7 cA fd (ja_ap sl vl (ja_cp fd nw 212) (ja_wh (ja_z mask hm) la ch)) sl vl la os ov ch hm ow de si fl cr) H := hP
            have hD : va_D A (ja_wM h a1 a2 a3 a4 a5 a6 a7 cA fd (ja_ap sl vl (ja_cp fd nw 212) (ja_wh (ja_z mask hm) la ch)) sl vl la os ov ch hm ow de si fl cr) := hD
            refine lv_aload_n hx hb dX1_crash_148 rfl (lv_at hl 3 rfl) ?_
            refine va_get (D := (dC, dI)) (ci := 1) (v := .int si) (C := RX1) (T := TX1) (N := 14) hx hb hts hin hown hK hP 0 rfl rfl 11 (by decide) fk35 (fun _ h9 => h9) rfl dX1_crash_149 ?_
            refine lv_iload hx hb dX1_crash_152 (lv_at hl 1 rfl) ?_
            refine lv_isub hx hb dX1_crash_154 ?_
            refine lv_istore (lv' := [(6, .int (si - nI (ja_kp (ja_z mask hm) la ch))), (4, .int (nI (ja_kp (ja_z mask hm) la ch))), (3, .int (nI (ja_wh (ja_z mask hm) la ch))), (0, .ref h)]) hx hb dX1_crash_155 hl (by decide) rfl (fun ls hl => ?_)
            refine lv_aload_n hx hb dX1_crash_157 rfl (lv_at hl 3 rfl) ?_
            refine lv_dup hx hb dX1_crash_158 rfl ?_
            refine va_get (D := (dC, dI)) (ci := 1) (v := .int de) (C := RX1) (T := TX1) (N := 14) hx hb hts hin hown hK hP 0 rfl rfl 10 (by decide) fk45 (fun _ h9 => h9) rfl dX1_crash_159 ?_
            refine lv_iload hx hb dX1_crash_162 (lv_at hl 0 rfl) ?_
            refine lv_isub hx hb dX1_crash_164 ?_
            refine va_put (D := (dC, dI)) (ci := 1) (v := .int (de - (si - nI (ja_kp (ja_z mask hm) la ch)))) (ty := .int) (C := RX1) (T := TX1) (N := 14) hx hb hts hin tyX1 tyX1_ok nmX1 hown hK hP hD hS 0 rfl rfl 10 (by decide) fk45 (fun _ h9 => h9) rfl (by decide +kernel) rfl rfl (Nat.le_of_ble_eq_true rfl) dX1_crash_165 (fun H locs hP hD hS => ?_)
            have hP : va_P (dC, dI) vwCl (ja_wM h a1 a2 a3 a4 a5 a6 a7 cA fd (ja_ap sl vl (ja_cp fd nw 212) (ja_wh (ja_z mask hm) la ch)) sl vl la os ov ch hm ow (de - (si - nI (ja_kp (ja_z mask hm) la ch))) si fl cr) H := hP
            have hD : va_D A (ja_wM h a1 a2 a3 a4 a5 a6 a7 cA fd (ja_ap sl vl (ja_cp fd nw 212) (ja_wh (ja_z mask hm) la ch)) sl vl la os ov ch hm ow (de - (si - nI (ja_kp (ja_z mask hm) la ch))) si fl cr) := hD
            refine lv_aload_n hx hb dX1_crash_168 rfl (lv_at hl 3 rfl) ?_
            refine lv_iconst (v := nI 0) hx hb dX1_crash_169 (by decide +kernel) ?_
            refine va_put (D := (dC, dI)) (ci := 1) (v := .int (nI 0)) (ty := .int) (C := RX1) (T := TX1) (N := 14) hx hb hts hin tyX1 tyX1_ok nmX1 hown hK hP hD hS 0 rfl rfl 9 (by decide) fk38 (fun _ h9 => h9) rfl (by decide +kernel) rfl rfl (Nat.le_of_ble_eq_true rfl) dX1_crash_170 (fun H locs hP hD hS => ?_)
            have hP : va_P (dC, dI) vwCl (ja_wM h a1 a2 a3 a4 a5 a6 a7 cA fd (ja_ap sl vl (ja_cp fd nw 212) (ja_wh (ja_z mask hm) la ch)) sl vl la os ov ch hm 0 (de - (si - nI (ja_kp (ja_z mask hm) la ch))) si fl cr) H := hP
            have hD : va_D A (ja_wM h a1 a2 a3 a4 a5 a6 a7 cA fd (ja_ap sl vl (ja_cp fd nw 212) (ja_wh (ja_z mask hm) la ch)) sl vl la os ov ch hm 0 (de - (si - nI (ja_kp (ja_z mask hm) la ch))) si fl cr) := hD
            refine lv_aload_n hx hb dX1_crash_173 rfl (lv_at hl 3 rfl) ?_
            refine lv_iconst (v := nI 0) hx hb dX1_crash_174 (by decide +kernel) ?_
            refine va_put (D := (dC, dI)) (ci := 1) (v := .int (nI 0)) (ty := .int) (C := RX1) (T := TX1) (N := 14) hx hb hts hin tyX1 tyX1_ok nmX1 hown hK hP hD hS 0 rfl rfl 6 (by decide) fk51 (fun _ h9 => h9) rfl (by decide +kernel) rfl rfl (Nat.le_of_ble_eq_true rfl) dX1_crash_175 (fun H locs hP hD hS => ?_)
            have hP : va_P (dC, dI) vwCl (ja_wM h a1 a2 a3 a4 a5 a6 a7 cA fd (ja_ap sl vl (ja_cp fd nw 212) (ja_wh (ja_z mask hm) la ch)) sl vl la os ov ch (nI 0) 0 (de - (si - nI (ja_kp (ja_z mask hm) la ch))) si fl cr) H := hP
            have hD : va_D A (ja_wM h a1 a2 a3 a4 a5 a6 a7 cA fd (ja_ap sl vl (ja_cp fd nw 212) (ja_wh (ja_z mask hm) la ch)) sl vl la os ov ch (nI 0) 0 (de - (si - nI (ja_kp (ja_z mask hm) la ch))) si fl cr) := hD
            refine lv_aload_n hx hb dX1_crash_178 rfl (lv_at hl 3 rfl) ?_
            refine ja_cV (wr := []) (As := []) (rest := []) ⟨hx, hb, hml, hown, hts⟩ (cM_settle l dC dI h a1 a2 a3 a4 a5 a6 a7 cA H.size fd (ja_ap sl vl (ja_cp fd nw 212) (ja_wh (ja_z mask hm) la ch)) sl vl la os ov ch (nI 0) 0 (de - (si - nI (ja_kp (ja_z mask hm) la ch))) si fl cr  ) (cwV 0 hts gX1_crash_X1_settle rfl rfl rfl (by decide +kernel) ⟨Nat.le_of_ble_eq_true rfl, Nat.le_of_ble_eq_true rfl⟩) hK hP hP hD hS hA [0, 1, 2, 3, 4, 5, 6, 7] [] rfl rfl (by decide) (by decide) (by decide) (ja_rcv (ci := 1) (q0 := 0) hK hP rfl rfl rfl) rfl hl.1 rfl (Nat.le_of_ble_eq_true rfl) dX1_crash_179 ⟨Nat.zero_le _, Nat.zero_le _⟩ (fun u H locs hu hP hD hS => ?_)
            obtain rfl := hu
            have hP : va_P (dC, dI) vwCl (ja_wM h a1 a2 a3 a4 a5 a6 a7 cA (ja_cp (ja_ap sl vl (ja_cp fd nw 212) (ja_wh (ja_z mask hm) la ch)) fd 212) (ja_ap sl vl (ja_cp fd nw 212) (ja_wh (ja_z mask hm) la ch)) sl vl la os ov 0 (nI 0) 0 (de - (si - nI (ja_kp (ja_z mask hm) la ch))) (nI 0) fl cr) H := hP
            have hD : va_D A (ja_wM h a1 a2 a3 a4 a5 a6 a7 cA (ja_cp (ja_ap sl vl (ja_cp fd nw 212) (ja_wh (ja_z mask hm) la ch)) fd 212) (ja_ap sl vl (ja_cp fd nw 212) (ja_wh (ja_z mask hm) la ch)) sl vl la os ov 0 (nI 0) 0 (de - (si - nI (ja_kp (ja_z mask hm) la ch))) (nI 0) fl cr) := hD
            refine lv_aload_n hx hb dX1_crash_182 rfl (lv_at hl 3 rfl) ?_
            refine lv_dup hx hb dX1_crash_183 rfl ?_
            refine va_get (D := (dC, dI)) (ci := 1) (v := .int cr) (C := RX1) (T := TX1) (N := 14) hx hb hts hin hown hK hP 0 rfl rfl 13 (by decide) fk60 (fun _ h9 => h9) rfl dX1_crash_184 ?_
            refine lv_iconst (v := nI 1) hx hb dX1_crash_187 (by decide +kernel) ?_
            refine lv_iadd hx hb dX1_crash_188 ?_
            refine va_put (D := (dC, dI)) (ci := 1) (v := .int (cr + nI 1)) (ty := .int) (C := RX1) (T := TX1) (N := 14) hx hb hts hin tyX1 tyX1_ok nmX1 hown hK hP hD hS 0 rfl rfl 13 (by decide) fk60 (fun _ h9 => h9) rfl (by decide +kernel) rfl rfl (Nat.le_of_ble_eq_true rfl) dX1_crash_189 (fun H locs hP hD hS => ?_)
            have hP : va_P (dC, dI) vwCl (ja_wM h a1 a2 a3 a4 a5 a6 a7 cA (ja_cp (ja_ap sl vl (ja_cp fd nw 212) (ja_wh (ja_z mask hm) la ch)) fd 212) (ja_ap sl vl (ja_cp fd nw 212) (ja_wh (ja_z mask hm) la ch)) sl vl la os ov 0 (nI 0) 0 (de - (si - nI (ja_kp (ja_z mask hm) la ch))) (nI 0) fl (cr + nI 1)) H := hP
            have hD : va_D A (ja_wM h a1 a2 a3 a4 a5 a6 a7 cA (ja_cp (ja_ap sl vl (ja_cp fd nw 212) (ja_wh (ja_z mask hm) la ch)) fd 212) (ja_ap sl vl (ja_cp fd nw 212) (ja_wh (ja_z mask hm) la ch)) sl vl la os ov 0 (nI 0) 0 (de - (si - nI (ja_kp (ja_z mask hm) la ch))) (nI 0) fl (cr + nI 1)) := hD
            refine lv_iload hx hb dX1_crash_192 (lv_at hl 0 rfl) ?_
            exact W.iret (v := (si - nI (ja_kp (ja_z mask hm) la ch))) hx hb hr (fun t ht hW => ⟨⟨(si - nI (ja_kp (ja_z mask hm) la ch)), ((ja_cp (ja_ap sl vl (ja_cp fd nw 212) (ja_wh (ja_z mask hm) la ch)) fd 212), (ja_ap sl vl (ja_cp fd nw 212) (ja_wh (ja_z mask hm) la ch)), sl, vl, la, os, ov, 0, nI 0, 0, (de - (si - nI (ja_kp (ja_z mask hm) la ch))), nI 0, fl, (cr + nI 1)), rfl, Or.inr ⟨hp0, hp1, rfl, rfl⟩, by rw [ht]; exact hP, hD⟩, hS.F ht⟩) hS.2.2 dX1_crash_194
          · refine lv_aload_n hx hb dX1_crash_123 rfl (lv_at hl 3 rfl) ?_
            refine va_get (D := (dC, dI)) (ci := 1) (v := .ref a2) (C := RX1) (T := TX1) (N := 14) hx hb hts hin hown hK hP 0 rfl rfl 1 (by decide) fk13 (fun _ h9 => h9) rfl dX1_crash_124 ?_
            refine lv_aload_n hx hb dX1_crash_127 rfl (lv_at hl 3 rfl) ?_
            refine va_get (D := (dC, dI)) (ci := 1) (v := .ref a3) (C := RX1) (T := TX1) (N := 14) hx hb hts hin hown hK hP 0 rfl rfl 2 (by decide) fk16 (fun _ h9 => h9) rfl dX1_crash_128 ?_
            refine lv_iload hx hb dX1_crash_131 (lv_at hl 0 rfl) ?_
            refine ja_ald hx hb hK hP 3 0 rfl rfl (by omega) (by decide) dX1_crash_133 ?_
            refine lv_aload_n hx hb dX1_crash_134 rfl (lv_at hl 3 rfl) ?_
            refine va_get (D := (dC, dI)) (ci := 1) (v := .ref a4) (C := RX1) (T := TX1) (N := 14) hx hb hts hin hown hK hP 0 rfl rfl 3 (by decide) fk19 (fun _ h9 => h9) rfl dX1_crash_135 ?_
            refine lv_iload hx hb dX1_crash_138 (lv_at hl 0 rfl) ?_
            refine ja_ald hx hb hK hP 4 0 rfl rfl (by omega) (by decide) dX1_crash_140 ?_
            refine va_iast hx hb hK hP hD hS 2 0 rfl rfl (hsl i (by omega)) dX1_crash_141 (fun H locs hP hD hS => ?_)
            have hP : va_P (dC, dI) vwCl (ja_wM h a1 a2 a3 a4 a5 a6 a7 cA fd (upd (ja_ap sl vl (ja_cp fd nw 212) i) (sl i).toNatClampNeg (vl i)) sl vl la os ov ch hm ow de si fl cr) H := hP
            have hD : va_D A (ja_wM h a1 a2 a3 a4 a5 a6 a7 cA fd (upd (ja_ap sl vl (ja_cp fd nw 212) i) (sl i).toNatClampNeg (vl i)) sl vl la os ov ch hm ow de si fl cr) := hD
            -- iinc
            refine lv_iinc (k := 0) (v := nI (i + 1)) (lv' := [(6, .int (nI (i + 1))), (4, .int (nI (ja_kp (ja_z mask hm) la ch))), (3, .int (nI (ja_wh (ja_z mask hm) la ch))), (0, .ref h)]) hx hb dX1_crash_142 hl rfl (ja_inc1 _) (by decide) rfl (fun ls hl => ?_)
            refine lv_goto (tgt := 117) hx hb dX1_crash_145 (by decide) ?_
            exact ih2 (i + 1) ls H locs ⟨lv_sub hl [0, 1, 2, 3] rfl, hP, hD, hS, (by omega)⟩ (show (ja_wh (ja_z mask hm) la ch) - (i + 1) < (ja_wh (ja_z mask hm) la ch) - (i) by omega)
        · refine lv_aload_n hx hb dX1_crash_94 rfl (lv_at hl 3 rfl) ?_
          refine va_get (D := (dC, dI)) (ci := 1) (v := .ref a2) (C := RX1) (T := TX1) (N := 14) hx hb hts hin hown hK hP 0 rfl rfl 1 (by decide) fk13 (fun _ h9 => h9) rfl dX1_crash_95 ?_
          refine lv_iload hx hb dX1_crash_98 (lv_at hl 0 rfl) ?_
          refine lv_aload_n hx hb dX1_crash_100 rfl (lv_at hl 3 rfl) ?_
          refine va_get (D := (dC, dI)) (ci := 1) (v := .ref a1) (C := RX1) (T := TX1) (N := 14) hx hb hts hin hown hK hP 0 rfl rfl 0 (by decide) fk9 (fun _ h9 => h9) rfl dX1_crash_101 ?_
          refine lv_iload hx hb dX1_crash_104 (lv_at hl 0 rfl) ?_
          refine ja_ald hx hb hK hP 1 0 rfl rfl (by omega) (by decide) dX1_crash_106 ?_
          refine ja_ast hx hb hK hP hD hS 2 0 rfl rfl (by omega) (by decide) dX1_crash_107 (fun H locs hP hD hS => ?_)
          have hP : va_P (dC, dI) vwCl (ja_wM h a1 a2 a3 a4 a5 a6 a7 cA fd (upd (ja_cp fd nw i) i (fd i)) sl vl la os ov ch hm ow de si fl cr) H := hP
          have hD : va_D A (ja_wM h a1 a2 a3 a4 a5 a6 a7 cA fd (upd (ja_cp fd nw i) i (fd i)) sl vl la os ov ch hm ow de si fl cr) := hD
          -- iinc
          refine lv_iinc (k := 0) (v := nI (i + 1)) (lv' := [(6, .int (nI (i + 1))), (4, .int (nI (ja_kp (ja_z mask hm) la ch))), (3, .int (nI (ja_wh (ja_z mask hm) la ch))), (0, .ref h)]) hx hb dX1_crash_108 hl rfl (ja_inc1 _) (by decide) rfl (fun ls hl => ?_)
          refine lv_goto (tgt := 86) hx hb dX1_crash_111 (by decide) ?_
          exact ih1 (i + 1) ls H locs ⟨lv_sub hl [0, 1, 2, 3] rfl, (show va_P (dC, dI) vwCl (ja_wM h a1 a2 a3 a4 a5 a6 a7 cA fd (ja_cp fd nw (i + 1)) sl vl la os ov ch hm ow de si fl cr) H by rw [← ja_cp_s]; exact hP), (show va_D A (ja_wM h a1 a2 a3 a4 a5 a6 a7 cA fd (ja_cp fd nw (i + 1)) sl vl la os ov ch hm ow de si fl cr) by rw [← ja_cp_s]; exact hD), hS, (by omega)⟩ (show 212 - (i + 1) < 212 - (i) by omega)
      · refine lv_iload_n hx hb dX1_crash_33 rfl (lv_at hl 5 rfl) ?_
        refine lv_aload_n hx hb dX1_crash_34 rfl (lv_at hl 4 rfl) ?_
        refine va_get (D := (dC, dI)) (ci := 1) (v := .int hm) (C := RX1) (T := TX1) (N := 14) hx hb hts hin hown hK hP 0 rfl rfl 6 (by decide) fk51 (fun _ h9 => h9) rfl dX1_crash_35 ?_
        refine lv_iload hx hb dX1_crash_38 (lv_at hl 0 rfl) ?_
        refine lv_iadd hx hb dX1_crash_40 ?_
        refine lv_bipush (v := nI 31) hx hb dX1_crash_41 (by decide +kernel) ?_
        refine lv_irem hx hb dX1_crash_43 (by decide +kernel) ?_
        refine lv_ishr hx hb dX1_crash_44 ?_
        refine lv_iconst (v := nI 1) hx hb dX1_crash_45 (by decide +kernel) ?_
        refine lv_iand hx hb dX1_crash_46 ?_
        refine lv_if_ne hx hb dX1_crash_47 (tgt := 53) (by decide) (fun h47 => ?_) (fun h47 => ?_)
        · have hz : ja_z mask hm k = false := ja_z_f h47
          have e1 : ja_b (ja_sd (ja_z mask hm) (k + 1)) = ja_b (ja_sd (ja_z mask hm) k) := by rw [ja_bsd_n hz]
          refine lv_iload hx hb dX1_crash_53 (lv_at hl 1 rfl) ?_
          refine lv_if_eq hx hb dX1_crash_55 (tgt := 77) (by decide) (fun h55 => ?_) (fun h55 => ?_)
          · have hs0 : ja_sd (ja_z mask hm) k = false := ja_b_0 h55
            have e2 : ja_kp (ja_z mask hm) la (k + 1) = ja_kp (ja_z mask hm) la k := ja_kp_f (fun q => absurd q.1 (by rw [ja_bsd_n hz, hs0]; decide))
            have e3 : ja_wh (ja_z mask hm) la (k + 1) = ja_wh (ja_z mask hm) la k := ja_wh_f (fun q => absurd q.1 (by rw [ja_bsd_n hz, hs0]; decide))
            -- iinc
            refine lv_iinc (k := 0) (v := nI (k + 1)) (lv' := [(6, .int (nI (k + 1))), (5, .int (ja_b (ja_sd (ja_z mask hm) k))), (4, .int (nI (ja_kp (ja_z mask hm) la k))), (3, .int (nI (ja_wh (ja_z mask hm) la k))), (0, .ref h), (1, .int mask), (2, .int part)]) hx hb dX1_crash_77 hl rfl (ja_inc1 _) (by decide) rfl (fun ls hl => ?_)
            refine lv_goto (tgt := 24) hx hb dX1_crash_80 (by decide) ?_
            exact ih0 (k + 1) ls H locs ⟨(show lv_has ls 7 [(6, .int (nI (k + 1))), (5, .int (ja_b (ja_sd (ja_z mask hm) (k + 1)))), (4, .int (nI (ja_kp (ja_z mask hm) la (k + 1)))), (3, .int (nI (ja_wh (ja_z mask hm) la (k + 1)))), (0, .ref h), (1, .int mask), (2, .int part)] by rw [e1, e2, e3]; exact lv_sub hl [0, 1, 2, 3, 4, 5, 6] rfl), hP, hD, hS, (by omega)⟩ (show ch - (k + 1) < ch - (k) by omega)
          · have hs1 : ja_sd (ja_z mask hm) (k + 1) = true := (ja_bsd_n hz).trans (ja_b_1 h55)
            refine lv_aload_n hx hb dX1_crash_58 rfl (lv_at hl 4 rfl) ?_
            refine va_get (D := (dC, dI)) (ci := 1) (v := .ref a5) (C := RX1) (T := TX1) (N := 14) hx hb hts hin hown hK hP 0 rfl rfl 4 (by decide) fk22 (fun _ h9 => h9) rfl dX1_crash_59 ?_
            refine lv_iload hx hb dX1_crash_62 (lv_at hl 0 rfl) ?_
            refine ja_ald hx hb hK hP 5 0 rfl rfl (by omega) (by decide) dX1_crash_64 ?_
            refine lv_iconst (v := nI 1) hx hb dX1_crash_65 (by decide +kernel) ?_
            refine lv_icmp_ne hx hb dX1_crash_66 (tgt := 77) (by decide) (fun h66 => ?_) (fun h66 => ?_)
            · have e2 : ja_kp (ja_z mask hm) la (k + 1) = ja_kp (ja_z mask hm) la k := ja_kp_f (fun q => h66 q.2)
              have e3 : ja_wh (ja_z mask hm) la (k + 1) = ja_wh (ja_z mask hm) la k := ja_wh_f (fun q => h66 q.2)
              -- iinc
              refine lv_iinc (k := 0) (v := nI (k + 1)) (lv' := [(6, .int (nI (k + 1))), (5, .int (ja_b (ja_sd (ja_z mask hm) k))), (4, .int (nI (ja_kp (ja_z mask hm) la k))), (3, .int (nI (ja_wh (ja_z mask hm) la k))), (0, .ref h), (1, .int mask), (2, .int part)]) hx hb dX1_crash_77 hl rfl (ja_inc1 _) (by decide) rfl (fun ls hl => ?_)
              refine lv_goto (tgt := 24) hx hb dX1_crash_80 (by decide) ?_
              exact ih0 (k + 1) ls H locs ⟨(show lv_has ls 7 [(6, .int (nI (k + 1))), (5, .int (ja_b (ja_sd (ja_z mask hm) (k + 1)))), (4, .int (nI (ja_kp (ja_z mask hm) la (k + 1)))), (3, .int (nI (ja_wh (ja_z mask hm) la (k + 1)))), (0, .ref h), (1, .int mask), (2, .int part)] by rw [e1, e2, e3]; exact lv_sub hl [0, 1, 2, 3, 4, 5, 6] rfl), hP, hD, hS, (by omega)⟩ (show ch - (k + 1) < ch - (k) by omega)
            · have e2 : ja_kp (ja_z mask hm) la (k + 1) = ja_kp (ja_z mask hm) la k + 1 := ja_kp_t hs1 h66
              have e3 : ja_wh (ja_z mask hm) la (k + 1) = k + 1 := ja_wh_t hs1 h66
              refine lv_iload hx hb dX1_crash_69 (lv_at hl 0 rfl) ?_
              refine lv_iconst (v := nI 1) hx hb dX1_crash_71 (by decide +kernel) ?_
              refine lv_iadd hx hb dX1_crash_72 ?_
              refine ja_top (y := nI (k + 1)) (nI_add _ _) ?_
              refine lv_istore_n (lv' := [(3, .int (nI (k + 1))), (6, .int (nI k)), (5, .int (ja_b (ja_sd (ja_z mask hm) k))), (4, .int (nI (ja_kp (ja_z mask hm) la k))), (0, .ref h), (1, .int mask), (2, .int part)]) hx hb dX1_crash_73 rfl hl (by decide) rfl (fun ls hl => ?_)
              -- iinc
              refine lv_iinc (k := 3) (v := nI ((ja_kp (ja_z mask hm) la k) + 1)) (lv' := [(4, .int (nI ((ja_kp (ja_z mask hm) la k) + 1))), (3, .int (nI (k + 1))), (6, .int (nI k)), (5, .int (ja_b (ja_sd (ja_z mask hm) k))), (0, .ref h), (1, .int mask), (2, .int part)]) hx hb dX1_crash_74 hl rfl (ja_inc1 _) (by decide) rfl (fun ls hl => ?_)
              -- iinc
              refine lv_iinc (k := 2) (v := nI (k + 1)) (lv' := [(6, .int (nI (k + 1))), (4, .int (nI ((ja_kp (ja_z mask hm) la k) + 1))), (3, .int (nI (k + 1))), (5, .int (ja_b (ja_sd (ja_z mask hm) k))), (0, .ref h), (1, .int mask), (2, .int part)]) hx hb dX1_crash_77 hl rfl (ja_inc1 _) (by decide) rfl (fun ls hl => ?_)
              refine lv_goto (tgt := 24) hx hb dX1_crash_80 (by decide) ?_
              exact ih0 (k + 1) ls H locs ⟨(show lv_has ls 7 [(6, .int (nI (k + 1))), (5, .int (ja_b (ja_sd (ja_z mask hm) (k + 1)))), (4, .int (nI (ja_kp (ja_z mask hm) la (k + 1)))), (3, .int (nI (ja_wh (ja_z mask hm) la (k + 1)))), (0, .ref h), (1, .int mask), (2, .int part)] by rw [e1, e2, e3]; exact lv_sub hl [0, 3, 1, 2, 4, 5, 6] rfl), hP, hD, hS, (by omega)⟩ (show ch - (k + 1) < ch - (k) by omega)
        · have hz : ja_z mask hm k = true := ja_z_t h47
          have e1 : ja_b (ja_sd (ja_z mask hm) (k + 1)) = nI 0 := by rw [ja_bsd_z hz]; rfl
          have e2 : ja_kp (ja_z mask hm) la (k + 1) = ja_kp (ja_z mask hm) la k := ja_kp_f (fun q => absurd q.1 (by rw [ja_bsd_z hz]; decide))
          have e3 : ja_wh (ja_z mask hm) la (k + 1) = ja_wh (ja_z mask hm) la k := ja_wh_f (fun q => absurd q.1 (by rw [ja_bsd_z hz]; decide))
          refine lv_iconst (v := nI 0) hx hb dX1_crash_50 (by decide +kernel) ?_
          refine lv_istore (lv' := [(5, .int (nI 0)), (6, .int (nI k)), (4, .int (nI (ja_kp (ja_z mask hm) la k))), (3, .int (nI (ja_wh (ja_z mask hm) la k))), (0, .ref h), (1, .int mask), (2, .int part)]) hx hb dX1_crash_51 hl (by decide) rfl (fun ls hl => ?_)
          refine lv_iload hx hb dX1_crash_53 (lv_at hl 0 rfl) ?_
          refine ja_zeq hx hb dX1_crash_55 (tgt := 77) (by decide) (by omega) (fun h55 => ?_) (fun h55 => ?_)
          · -- iinc
            refine lv_iinc (k := 1) (v := nI (k + 1)) (lv' := [(6, .int (nI (k + 1))), (5, .int (nI 0)), (4, .int (nI (ja_kp (ja_z mask hm) la k))), (3, .int (nI (ja_wh (ja_z mask hm) la k))), (0, .ref h), (1, .int mask), (2, .int part)]) hx hb dX1_crash_77 hl rfl (ja_inc1 _) (by decide) rfl (fun ls hl => ?_)
            refine lv_goto (tgt := 24) hx hb dX1_crash_80 (by decide) ?_
            exact ih0 (k + 1) ls H locs ⟨(show lv_has ls 7 [(6, .int (nI (k + 1))), (5, .int (ja_b (ja_sd (ja_z mask hm) (k + 1)))), (4, .int (nI (ja_kp (ja_z mask hm) la (k + 1)))), (3, .int (nI (ja_wh (ja_z mask hm) la (k + 1)))), (0, .ref h), (1, .int mask), (2, .int part)] by rw [e1, e2, e3]; exact lv_sub hl [0, 1, 2, 3, 4, 5, 6] rfl), hP, hD, hS, (by omega)⟩ (show ch - (k + 1) < ch - (k) by omega)
          · exact absurd rfl h55
    · refine lv_iconst (v := (-1)) hx hb dX1_crash_11 (by decide +kernel) ?_
      exact W.iret (v := (-1)) hx hb hr (fun t ht hW => ⟨⟨(-1), (fd, nw, sl, vl, la, os, ov, ch, hm, ow, de, si, fl, cr), rfl, Or.inl ⟨Or.inr (Int32.not_le.mp h8), rfl, rfl⟩, by rw [ht]; exact hP, hD⟩, hS.F ht⟩) hS.2.2 dX1_crash_12
set_option maxHeartbeats 1000000 in
set_option maxRecDepth 100000 in
/-- get -/
theorem cM_get (l : Launch) (dC : Nat → ClassId) (dI : Nat → Nat → Nat) (h a1 a2 a3 a4 a5 a6 a7 : Nat) (cA : ClassId) (fd nw sl vl la os ov : Nat → Int32) (ch : Nat) (hm : Int32) (ow : Nat) (de : Int32) (si : Int32) (fl : Int32) (cr : Int32) (x : Int32)  : Met l yX1_get wsX1_get ({ frames := 0, cells := 0, slots := 0, locals := 0 }) (ja_Pr (dC, dI) vwCl (ja_wM h a1 a2 a3 a4 a5 a6 a7 cA fd nw sl vl la os ov ch hm ow de si fl cr) [(cA, .int)] [.ref h, .int x]) (vp_Si (fun r => (¬ vp_in x 212 ∧ r = nI 0) ∨ (vp_in x 212 ∧ r = nw x.toNatClampNeg))) 0 0 (fun _ => False) := by
  refine Met.ofW (cc := cX1_get) (maxL := 2) (ret := (some .int)) (by decide) rfl ?_
  intro p e s m args below meth c s₁ B hml hv
  obtain ⟨rfl, hP, hK⟩ := hv
  have hx := B.exec
  have hb := B.bytes
  have hr := B.returns
  have hts := atoms_spec (ws := wsX1_get) B.pre
  have hown : s.vm.findClass RX1 = some m.cls := findClass_of_methodNamed B.named
  have hlocks := B.notSynchronized
  have hin : ∀ w ∈ u_ws RX1 TX1 14, w ∈ wsX1_get := by decide +kernel
  have fk13 := hts (.fieldLink RX1 13 "JournalShelfModel" "now" "[I") (by decide +kernel)
  have hl := lv_entry ([.ref h, .int x]) (n := 2) (Nat.le_of_ble_eq_true rfl)
  rw [lg_entry_eq]
  generalize (lg_sl ([.ref h, .int x]) ++ List.replicate (2 - (lg_sl ([.ref h, .int x])).length) Slot.unset).toArray = ls at hl ⊢
  have hl : lv_has ls 2 [(0, .ref h), (1, .int x)] := hl
  refine lv_iload_n hx hb dX1_get_0 rfl (lv_at hl 1 rfl) ?_
  refine lv_if_lt hx hb dX1_get_1 (tgt := 11) (by decide) (fun h1 => ?_) (fun h1 => ?_)
  · refine lv_iconst (v := nI 0) hx hb dX1_get_11 (by decide +kernel) ?_
    refine lv_goto (tgt := 21) hx hb dX1_get_12 (by decide) ?_
    exact W.iret (v := nI 0) hx hb hr (fun t ht hW => ⟨_, rfl, Or.inl ⟨ja_neg h1, rfl⟩, ht⟩) (fun q h => by cases h) dX1_get_21
  · have hp0 := h1
    refine lv_iload_n hx hb dX1_get_4 rfl (lv_at hl 1 rfl) ?_
    refine lv_sipush (v := nI 212) hx hb dX1_get_5 (by decide +kernel) ?_
    refine lv_icmp_lt hx hb dX1_get_8 (tgt := 15) (by decide) (fun h8 => ?_) (fun h8 => ?_)
    · have hsl : vp_in x 212 := ja_inL hp0 h8
      refine lv_aload_n hx hb dX1_get_15 rfl (lv_at hl 0 rfl) ?_
      refine va_get (D := (dC, dI)) (ci := 1) (v := .ref a2) (C := RX1) (T := TX1) (N := 14) hx hb hts hin hown hK hP 0 rfl rfl 1 (by decide) fk13 (fun _ h9 => h9) rfl dX1_get_16 ?_
      refine lv_iload_n hx hb dX1_get_19 rfl (lv_at hl 1 rfl) ?_
      refine va_iald hx hb hK hP 2 0 rfl rfl hsl dX1_get_20 ?_
      exact W.iret (v := (nw x.toNatClampNeg)) hx hb hr (fun t ht hW => ⟨_, rfl, Or.inr ⟨hsl, rfl⟩, ht⟩) (fun q h => by cases h) dX1_get_21
    · refine lv_iconst (v := nI 0) hx hb dX1_get_11 (by decide +kernel) ?_
      refine lv_goto (tgt := 21) hx hb dX1_get_12 (by decide) ?_
      exact W.iret (v := nI 0) hx hb hr (fun t ht hW => ⟨_, rfl, Or.inl ⟨ja_out (Int32.not_lt.mp h8), rfl⟩, ht⟩) (fun q h => by cases h) dX1_get_21
set_option maxHeartbeats 1000000 in
set_option maxRecDepth 100000 in
/-- torn -/
theorem cM_torn (l : Launch) (dC : Nat → ClassId) (dI : Nat → Nat → Nat) (h a1 a2 a3 a4 a5 a6 a7 : Nat) (cA : ClassId) (fd nw sl vl la os ov : Nat → Int32) (ch : Nat) (hm : Int32) (ow : Nat) (de : Int32) (si : Int32) (fl : Int32) (cr : Int32)   : Met l yX1_torn wsX1_torn ({ frames := 0, cells := 0, slots := 0, locals := 0 }) (ja_Pr (dC, dI) vwCl (ja_wM h a1 a2 a3 a4 a5 a6 a7 cA fd nw sl vl la os ov ch hm ow de si fl cr) [(cA, .int)] [.ref h]) (vp_Si (fun r => r = nI 0)) 0 0 (fun _ => False) := by
  refine Met.ofW (cc := cX1_torn) (maxL := 1) (ret := (some .int)) (by decide) rfl ?_
  intro p e s m args below meth c s₁ B hml hv
  obtain ⟨rfl, hP, hK⟩ := hv
  have hx := B.exec
  have hb := B.bytes
  have hr := B.returns
  have hts := atoms_spec (ws := wsX1_torn) B.pre
  have hown : s.vm.findClass RX1 = some m.cls := findClass_of_methodNamed B.named
  have hlocks := B.notSynchronized
  have hl := lv_entry ([.ref h]) (n := 1) (Nat.le_of_ble_eq_true rfl)
  rw [lg_entry_eq]
  generalize (lg_sl ([.ref h]) ++ List.replicate (1 - (lg_sl ([.ref h])).length) Slot.unset).toArray = ls at hl ⊢
  have hl : lv_has ls 1 [(0, .ref h)] := hl
  refine lv_iconst (v := nI 0) hx hb dX1_torn_0 (by decide +kernel) ?_
  exact W.iret (v := nI 0) hx hb hr (fun t ht hW => ⟨_, rfl, rfl, ht⟩) (fun q h => by cases h) dX1_torn_1
set_option maxHeartbeats 1000000 in
set_option maxRecDepth 100000 in
/-- count -/
theorem cM_count (l : Launch) (dC : Nat → ClassId) (dI : Nat → Nat → Nat) (h a1 a2 a3 a4 a5 a6 a7 : Nat) (cA : ClassId) (fd nw sl vl la os ov : Nat → Int32) (ch : Nat) (hm : Int32) (ow : Nat) (de : Int32) (si : Int32) (fl : Int32) (cr : Int32) (x : Int32)  : Met l yX1_count wsX1_count ({ frames := 0, cells := 0, slots := 0, locals := 0 }) (ja_Pr (dC, dI) vwCl (ja_wM h a1 a2 a3 a4 a5 a6 a7 cA fd nw sl vl la os ov ch hm ow de si fl cr) [(cA, .int)] [.ref h, .int x]) (vp_Si (fun r => r = ja_sel x de si (hm + nI ch) (nI ow) fl cr)) 0 0 (fun _ => False) := by
  refine Met.ofW (cc := cX1_count) (maxL := 2) (ret := (some .int)) (by decide) rfl ?_
  intro p e s m args below meth c s₁ B hml hv
  obtain ⟨rfl, hP, hK⟩ := hv
  have hx := B.exec
  have hb := B.bytes
  have hr := B.returns
  have hts := atoms_spec (ws := wsX1_count) B.pre
  have hown : s.vm.findClass RX1 = some m.cls := findClass_of_methodNamed B.named
  have hlocks := B.notSynchronized
  have hin : ∀ w ∈ u_ws RX1 TX1 14, w ∈ wsX1_count := by decide +kernel
  have fk31 := hts (.fieldLink RX1 31 "JournalShelfModel" "changes" "I") (by decide +kernel)
  have fk35 := hts (.fieldLink RX1 35 "JournalShelfModel" "since" "I") (by decide +kernel)
  have fk38 := hts (.fieldLink RX1 38 "JournalShelfModel" "own" "I") (by decide +kernel)
  have fk45 := hts (.fieldLink RX1 45 "JournalShelfModel" "deeds" "I") (by decide +kernel)
  have fk51 := hts (.fieldLink RX1 51 "JournalShelfModel" "homes" "I") (by decide +kernel)
  have fk57 := hts (.fieldLink RX1 57 "JournalShelfModel" "flushes" "I") (by decide +kernel)
  have fk60 := hts (.fieldLink RX1 60 "JournalShelfModel" "crashes" "I") (by decide +kernel)
  have hl := lv_entry ([.ref h, .int x]) (n := 2) (Nat.le_of_ble_eq_true rfl)
  rw [lg_entry_eq]
  generalize (lg_sl ([.ref h, .int x]) ++ List.replicate (2 - (lg_sl ([.ref h, .int x])).length) Slot.unset).toArray = ls at hl ⊢
  have hl : lv_has ls 2 [(0, .ref h), (1, .int x)] := hl
  refine lv_iload_n hx hb dX1_count_0 rfl (lv_at hl 1 rfl) ?_
  rcases pk_ix x (n := 6) (by decide) with hw | hw | ⟨j, hj, rfl⟩
  · refine lv_tableOut (tgt := 75) hx hb dX1_count_1 (Or.inl (by have := Int32.lt_iff_toInt_lt.mp hw; simpa using this)) (by decide) ?_
    refine lv_iconst (v := (-1)) hx hb dX1_count_75 (by decide +kernel) ?_
    exact W.iret (v := (-1)) hx hb hr (fun t ht hW => ⟨_, rfl, (ja_selD (Or.inl hw)).symm, ht⟩) (fun q h => by cases h) dX1_count_76
  · refine lv_tableOut (tgt := 75) hx hb dX1_count_1 (Or.inr (by have h := Int32.le_iff_toInt_le.mp hw; rw [nI_toInt (by decide)] at h; omega)) (by decide) ?_
    refine lv_iconst (v := (-1)) hx hb dX1_count_75 (by decide +kernel) ?_
    exact W.iret (v := (-1)) hx hb hr (fun t ht hW => ⟨_, rfl, (ja_selD (Or.inr hw)).symm, ht⟩) (fun q h => by cases h) dX1_count_76
  · obtain rfl | rfl | rfl | rfl | rfl | rfl : j = 0 ∨ j = 1 ∨ j = 2 ∨ j = 3 ∨ j = 4 ∨ j = 5 := by omega
    · refine lv_tableIn (off := 39) (tgt := 40) hx hb dX1_count_1 (by decide +kernel) (by decide +kernel) (by decide +kernel) (by decide) ?_
      refine lv_aload_n hx hb dX1_count_40 rfl (lv_at hl 0 rfl) ?_
      refine va_get (D := (dC, dI)) (ci := 1) (v := .int de) (C := RX1) (T := TX1) (N := 14) hx hb hts hin hown hK hP 0 rfl rfl 10 (by decide) fk45 (fun _ h9 => h9) rfl dX1_count_41 ?_
      exact W.iret (v := de) hx hb hr (fun t ht hW => ⟨_, rfl, ja_sel0.symm, ht⟩) (fun q h => by cases h) dX1_count_44
    · refine lv_tableIn (off := 44) (tgt := 45) hx hb dX1_count_1 (by decide +kernel) (by decide +kernel) (by decide +kernel) (by decide) ?_
      refine lv_aload_n hx hb dX1_count_45 rfl (lv_at hl 0 rfl) ?_
      refine va_get (D := (dC, dI)) (ci := 1) (v := .int si) (C := RX1) (T := TX1) (N := 14) hx hb hts hin hown hK hP 0 rfl rfl 11 (by decide) fk35 (fun _ h9 => h9) rfl dX1_count_46 ?_
      exact W.iret (v := si) hx hb hr (fun t ht hW => ⟨_, rfl, ja_sel1.symm, ht⟩) (fun q h => by cases h) dX1_count_49
    · refine lv_tableIn (off := 49) (tgt := 50) hx hb dX1_count_1 (by decide +kernel) (by decide +kernel) (by decide +kernel) (by decide) ?_
      refine lv_aload_n hx hb dX1_count_50 rfl (lv_at hl 0 rfl) ?_
      refine va_get (D := (dC, dI)) (ci := 1) (v := .int hm) (C := RX1) (T := TX1) (N := 14) hx hb hts hin hown hK hP 0 rfl rfl 6 (by decide) fk51 (fun _ h9 => h9) rfl dX1_count_51 ?_
      refine lv_aload_n hx hb dX1_count_54 rfl (lv_at hl 0 rfl) ?_
      refine va_get (D := (dC, dI)) (ci := 1) (v := .int (nI ch)) (C := RX1) (T := TX1) (N := 14) hx hb hts hin hown hK hP 0 rfl rfl 5 (by decide) fk31 (fun _ h9 => h9) rfl dX1_count_55 ?_
      refine lv_iadd hx hb dX1_count_58 ?_
      exact W.iret (v := (hm + nI ch)) hx hb hr (fun t ht hW => ⟨_, rfl, ja_sel2.symm, ht⟩) (fun q h => by cases h) dX1_count_59
    · refine lv_tableIn (off := 59) (tgt := 60) hx hb dX1_count_1 (by decide +kernel) (by decide +kernel) (by decide +kernel) (by decide) ?_
      refine lv_aload_n hx hb dX1_count_60 rfl (lv_at hl 0 rfl) ?_
      refine va_get (D := (dC, dI)) (ci := 1) (v := .int (nI ow)) (C := RX1) (T := TX1) (N := 14) hx hb hts hin hown hK hP 0 rfl rfl 9 (by decide) fk38 (fun _ h9 => h9) rfl dX1_count_61 ?_
      exact W.iret (v := nI ow) hx hb hr (fun t ht hW => ⟨_, rfl, ja_sel3.symm, ht⟩) (fun q h => by cases h) dX1_count_64
    · refine lv_tableIn (off := 64) (tgt := 65) hx hb dX1_count_1 (by decide +kernel) (by decide +kernel) (by decide +kernel) (by decide) ?_
      refine lv_aload_n hx hb dX1_count_65 rfl (lv_at hl 0 rfl) ?_
      refine va_get (D := (dC, dI)) (ci := 1) (v := .int fl) (C := RX1) (T := TX1) (N := 14) hx hb hts hin hown hK hP 0 rfl rfl 12 (by decide) fk57 (fun _ h9 => h9) rfl dX1_count_66 ?_
      exact W.iret (v := fl) hx hb hr (fun t ht hW => ⟨_, rfl, ja_sel4.symm, ht⟩) (fun q h => by cases h) dX1_count_69
    · refine lv_tableIn (off := 69) (tgt := 70) hx hb dX1_count_1 (by decide +kernel) (by decide +kernel) (by decide +kernel) (by decide) ?_
      refine lv_aload_n hx hb dX1_count_70 rfl (lv_at hl 0 rfl) ?_
      refine va_get (D := (dC, dI)) (ci := 1) (v := .int cr) (C := RX1) (T := TX1) (N := 14) hx hb hts hin hown hK hP 0 rfl rfl 13 (by decide) fk60 (fun _ h9 => h9) rfl dX1_count_71 ?_
      exact W.iret (v := cr) hx hb hr (fun t ht hW => ⟨_, rfl, ja_sel5.symm, ht⟩) (fun q h => by cases h) dX1_count_74
