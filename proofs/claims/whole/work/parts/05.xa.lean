set_option maxHeartbeats 1000000 in
set_option maxRecDepth 100000 in
/-- is it one of the 212 slots -/
theorem cX_isSlot (l : Launch) (x : Int32) : Met l yX0_isSlot wsX0_isSlot ({ frames := 0, cells := 0, slots := 0, locals := 0 }) (va_Pc [.int x] (fun _ => True)) (vp_Si (fun r => (r = nI 1 ∧ vp_in x 212) ∨ (r = nI 0 ∧ ¬ vp_in x 212))) 0 0 (fun _ => False) := by
  refine Met.ofW (cc := cX0_isSlot) (maxL := 1) (ret := (some .boolean)) (by decide) rfl ?_
  intro p e s m args below meth c s₁ B hml hv
  obtain ⟨rfl, -⟩ := hv
  have hx := B.exec
  have hb := B.bytes
  have hr := B.returns
  have hts := atoms_spec (ws := wsX0_isSlot) B.pre
  have hown : s.vm.findClass RX0 = some m.cls := findClass_of_methodNamed B.named
  have hlocks := B.notSynchronized
  have hl := lv_entry ([.int x]) (n := 1) (Nat.le_of_ble_eq_true rfl)
  rw [lg_entry_eq]
  generalize (lg_sl ([.int x]) ++ List.replicate (1 - (lg_sl ([.int x])).length) Slot.unset).toArray = ls at hl ⊢
  have hl : lv_has ls 1 [(0, .int x)] := hl
  refine lv_iload_n hx hb dX0_isSlot_0 rfl (lv_at hl 0 rfl) ?_
  refine lv_if_lt hx hb dX0_isSlot_1 (tgt := 15) (by decide) (fun h1 => ?_) (fun h1 => ?_)
  · refine lv_iconst (v := nI 0) hx hb dX0_isSlot_15 (by decide +kernel) ?_
    exact W.zret (ty := .boolean) (v := nI 0) hx hb hr rfl (fun t ht hW => ⟨_, rfl, Or.inr ⟨rfl, ja_neg h1⟩, ht⟩) (fun q h => by cases h) dX0_isSlot_16
  · have hA0 := h1
    refine lv_iload_n hx hb dX0_isSlot_4 rfl (lv_at hl 0 rfl) ?_
    refine lv_sipush (v := nI 212) hx hb dX0_isSlot_5 (by decide +kernel) ?_
    refine lv_icmp_ge hx hb dX0_isSlot_8 (tgt := 15) (by decide) (fun h8 => ?_) (fun h8 => ?_)
    · refine lv_iconst (v := nI 0) hx hb dX0_isSlot_15 (by decide +kernel) ?_
      exact W.zret (ty := .boolean) (v := nI 0) hx hb hr rfl (fun t ht hW => ⟨_, rfl, Or.inr ⟨rfl, ja_out h8⟩, ht⟩) (fun q h => by cases h) dX0_isSlot_16
    · refine lv_iconst (v := nI 1) hx hb dX0_isSlot_11 (by decide +kernel) ?_
      refine lv_goto (tgt := 16) hx hb dX0_isSlot_12 (by decide) ?_
      exact W.zret (ty := .boolean) (v := nI 1) hx hb hr rfl (fun t ht hW => ⟨_, rfl, Or.inl ⟨rfl, ja_in hA0 h8⟩, ht⟩) (fun q h => by cases h) dX0_isSlot_16
set_option maxHeartbeats 1000000 in
set_option maxRecDepth 100000 in
/-- the bit of a block is 1 -/
theorem cX_blockStands (l : Launch) (blk mask : Int32) : Met l yX0_blockStands wsX0_blockStands ({ frames := 0, cells := 0, slots := 0, locals := 0 }) (va_Pc [.int blk, .int mask] (fun _ => True)) (vp_Si (fun r => (r = nI 1 ∧ ja_bt mask blk = nI 1) ∨ (r = nI 0 ∧ ¬ ja_bt mask blk = nI 1))) 0 0 (fun _ => False) := by
  refine Met.ofW (cc := cX0_blockStands) (maxL := 2) (ret := (some .boolean)) (by decide) rfl ?_
  intro p e s m args below meth c s₁ B hml hv
  obtain ⟨rfl, -⟩ := hv
  have hx := B.exec
  have hb := B.bytes
  have hr := B.returns
  have hts := atoms_spec (ws := wsX0_blockStands) B.pre
  have hown : s.vm.findClass RX0 = some m.cls := findClass_of_methodNamed B.named
  have hlocks := B.notSynchronized
  have hl := lv_entry ([.int blk, .int mask]) (n := 2) (Nat.le_of_ble_eq_true rfl)
  rw [lg_entry_eq]
  generalize (lg_sl ([.int blk, .int mask]) ++ List.replicate (2 - (lg_sl ([.int blk, .int mask])).length) Slot.unset).toArray = ls at hl ⊢
  have hl : lv_has ls 2 [(0, .int blk), (1, .int mask)] := hl
  refine lv_iload_n hx hb dX0_blockStands_0 rfl (lv_at hl 1 rfl) ?_
  refine lv_iload_n hx hb dX0_blockStands_1 rfl (lv_at hl 0 rfl) ?_
  refine lv_bipush (v := nI 31) hx hb dX0_blockStands_2 (by decide +kernel) ?_
  refine lv_irem hx hb dX0_blockStands_4 (by decide +kernel) ?_
  refine lv_ishr hx hb dX0_blockStands_5 ?_
  refine lv_iconst (v := nI 1) hx hb dX0_blockStands_6 (by decide +kernel) ?_
  refine lv_iand hx hb dX0_blockStands_7 ?_
  refine lv_iconst (v := nI 1) hx hb dX0_blockStands_8 (by decide +kernel) ?_
  refine lv_icmp_ne hx hb dX0_blockStands_9 (tgt := 16) (by decide) (fun h9 => ?_) (fun h9 => ?_)
  · refine lv_iconst (v := nI 0) hx hb dX0_blockStands_16 (by decide +kernel) ?_
    exact W.zret (ty := .boolean) (v := nI 0) hx hb hr rfl (fun t ht hW => ⟨_, rfl, Or.inr ⟨rfl, h9⟩, ht⟩) (fun q h => by cases h) dX0_blockStands_17
  · refine lv_iconst (v := nI 1) hx hb dX0_blockStands_12 (by decide +kernel) ?_
    refine lv_goto (tgt := 17) hx hb dX0_blockStands_13 (by decide) ?_
    exact W.zret (ty := .boolean) (v := nI 1) hx hb hr rfl (fun t ht hW => ⟨_, rfl, Or.inl ⟨rfl, h9⟩, ht⟩) (fun q h => by cases h) dX0_blockStands_17
set_option maxHeartbeats 1000000 in
set_option maxRecDepth 100000 in
/-- no later committed change of its slot -/
theorem cX_isLastOfItsSlot (l : Launch) (dC : Nat → ClassId) (dI : Nat → Nat → Nat) (h a1 a2 a3 a4 : Nat) (cA : ClassId) (sv js jv jd : Nat → Int32) (cc : Nat) (oc : Nat) (sd : Int32) (jn : Int32) (fb : Int32) (fl : Int32) (cr : Int32) (ct : Nat) (hcc : cc ≤ 24) (hct : ct < cc) : Met l yX0_isLastOfItsSlot wsX0_isLastOfItsSlot ({ frames := 0, cells := 0, slots := 0, locals := 0 }) (ja_Pr (dC, dI) vwCl (ja_wX h a1 a2 a3 a4 cA sv js jv jd cc oc sd jn fb fl cr) [(cA, .int)] [.ref h, .int (nI ct)]) (vp_Si (fun r => (r = nI 1 ∧ ∀ j, ct < j → j < cc → js j ≠ js ct) ∨ (r = nI 0 ∧ ∃ j, ct < j ∧ j < cc ∧ js j = js ct))) 0 0 (fun _ => False) := by
  refine Met.ofW (cc := cX0_isLastOfItsSlot) (maxL := 3) (ret := (some .boolean)) (by decide) rfl ?_
  intro p e s m args below meth c s₁ B hml hv
  obtain ⟨rfl, hP, hK⟩ := hv
  have hx := B.exec
  have hb := B.bytes
  have hr := B.returns
  have hts := atoms_spec (ws := wsX0_isLastOfItsSlot) B.pre
  have hown : s.vm.findClass RX0 = some m.cls := findClass_of_methodNamed B.named
  have hlocks := B.notSynchronized
  have hin : ∀ w ∈ u_ws RX0 TX0 11, w ∈ wsX0_isLastOfItsSlot := by decide +kernel
  have fk13 := hts (.fieldLink RX0 13 "JournalShelf" "journalSlot" "[I") (by decide +kernel)
  have fk30 := hts (.fieldLink RX0 30 "JournalShelf" "committedChanges" "I") (by decide +kernel)
  have hl := lv_entry ([.ref h, .int (nI ct)]) (n := 3) (Nat.le_of_ble_eq_true rfl)
  rw [lg_entry_eq]
  generalize (lg_sl ([.ref h, .int (nI ct)]) ++ List.replicate (3 - (lg_sl ([.ref h, .int (nI ct)])).length) Slot.unset).toArray = ls at hl ⊢
  have hl : lv_has ls 3 [(0, .ref h), (1, .int (nI ct))] := hl
  refine lv_iload_n hx hb dX0_isLastOfItsSlot_0 rfl (lv_at hl 1 rfl) ?_
  refine lv_iconst (v := nI 1) hx hb dX0_isLastOfItsSlot_1 (by decide +kernel) ?_
  refine lv_iadd hx hb dX0_isLastOfItsSlot_2 ?_
  refine ja_top (y := nI (ct + 1)) (nI_add _ _) ?_
  refine lv_istore_n (lv' := [(2, .int (nI (ct + 1))), (0, .ref h), (1, .int (nI ct))]) hx hb dX0_isLastOfItsSlot_3 rfl hl (by decide) rfl (fun ls hl => ?_)
  refine ja_lpR 4 (fun (i : Nat) ls => lv_has ls 3 [(2, .int (nI i)), (0, .ref h), (1, .int (nI ct))] ∧ i ≤ cc ∧ ct < i ∧ (∀ j, ct < j → j < i → js j ≠ js ct)) (fun i => cc - (i)) ?_ (ct + 1) ls ⟨lv_sub hl [0, 1, 2] rfl, hct, Nat.lt_succ_self _, (fun j h1 h2 => absurd h1 (by omega))⟩
  intro i ls hI ih0
  obtain ⟨hl, hi, hj, hq⟩ := hI
  have hl : lv_has ls 3 [(2, .int (nI i)), (0, .ref h), (1, .int (nI ct))] := hl
  refine lv_iload_n hx hb dX0_isLastOfItsSlot_4 rfl (lv_at hl 0 rfl) ?_
  refine lv_aload_n hx hb dX0_isLastOfItsSlot_5 rfl (lv_at hl 1 rfl) ?_
  refine va_get (D := (dC, dI)) (ci := 0) (v := .int (nI cc)) (C := RX0) (T := TX0) (N := 11) hx hb hts hin hown hK hP 0 rfl rfl 4 (by decide) fk30 (fun _ h9 => h9) rfl dX0_isLastOfItsSlot_6 ?_
  refine ja_ige hx hb dX0_isLastOfItsSlot_9 (tgt := 35) (by decide) (by omega) (by omega) (fun h9 => ?_) (fun h9 => ?_)
  · refine lv_iconst (v := nI 1) hx hb dX0_isLastOfItsSlot_35 (by decide +kernel) ?_
    exact W.zret (ty := .boolean) (v := nI 1) hx hb hr rfl (fun t ht hW => ⟨_, rfl, Or.inl ⟨rfl, fun j h1 h2 => hq j h1 (by omega)⟩, ht⟩) (fun q h => by cases h) dX0_isLastOfItsSlot_36
  · refine lv_aload_n hx hb dX0_isLastOfItsSlot_12 rfl (lv_at hl 1 rfl) ?_
    refine va_get (D := (dC, dI)) (ci := 0) (v := .ref a2) (C := RX0) (T := TX0) (N := 11) hx hb hts hin hown hK hP 0 rfl rfl 1 (by decide) fk13 (fun _ h9 => h9) rfl dX0_isLastOfItsSlot_13 ?_
    refine lv_iload_n hx hb dX0_isLastOfItsSlot_16 rfl (lv_at hl 0 rfl) ?_
    refine ja_ald hx hb hK hP 2 0 rfl rfl (by omega) (by decide) dX0_isLastOfItsSlot_17 ?_
    refine lv_aload_n hx hb dX0_isLastOfItsSlot_18 rfl (lv_at hl 1 rfl) ?_
    refine va_get (D := (dC, dI)) (ci := 0) (v := .ref a2) (C := RX0) (T := TX0) (N := 11) hx hb hts hin hown hK hP 0 rfl rfl 1 (by decide) fk13 (fun _ h9 => h9) rfl dX0_isLastOfItsSlot_19 ?_
    refine lv_iload_n hx hb dX0_isLastOfItsSlot_22 rfl (lv_at hl 2 rfl) ?_
    refine ja_ald hx hb hK hP 2 0 rfl rfl (by omega) (by decide) dX0_isLastOfItsSlot_23 ?_
    refine lv_icmp_ne hx hb dX0_isLastOfItsSlot_24 (tgt := 29) (by decide) (fun h24 => ?_) (fun h24 => ?_)
    · have hne := h24
      -- iinc
      refine lv_iinc (k := 0) (v := nI (i + 1)) (lv' := [(2, .int (nI (i + 1))), (0, .ref h), (1, .int (nI ct))]) hx hb dX0_isLastOfItsSlot_29 hl rfl (ja_inc1 _) (by decide) rfl (fun ls hl => ?_)
      refine lv_goto (tgt := 4) hx hb dX0_isLastOfItsSlot_32 (by decide) ?_
      exact ih0 (i + 1) ls ⟨lv_sub hl [0, 1, 2] rfl, (by omega), (by omega), (fun j h1 h2 => by rcases Nat.lt_succ_iff_lt_or_eq.mp h2 with h3 | h3; exact hq j h1 h3; rw [h3]; exact hne)⟩ (show cc - (i + 1) < cc - (i) by omega)
    · refine lv_iconst (v := nI 0) hx hb dX0_isLastOfItsSlot_27 (by decide +kernel) ?_
      exact W.zret (ty := .boolean) (v := nI 0) hx hb hr rfl (fun t ht hW => ⟨_, rfl, Or.inr ⟨rfl, i, hj, by omega, h24⟩, ht⟩) (fun q h => by cases h) dX0_isLastOfItsSlot_28
set_option maxHeartbeats 1000000 in
set_option maxRecDepth 100000 in
/-- how many slots the committed changes touch -/
theorem cX_changedSlots (l : Launch) (dC : Nat → ClassId) (dI : Nat → Nat → Nat) (h a1 a2 a3 a4 : Nat) (cA : ClassId) (sv js jv jd : Nat → Int32) (cc : Nat) (oc : Nat) (sd : Int32) (jn : Int32) (fb : Int32) (fl : Int32) (cr : Int32)  (hcc : cc ≤ 24) : Met l yX0_changedSlots wsX0_changedSlots ({ frames := 1, cells := 0, slots := 0, locals := 22 }) (ja_Pr (dC, dI) vwCl (ja_wX h a1 a2 a3 a4 cA sv js jv jd cc oc sd jn fb fl cr) [(cA, .int)] [.ref h]) (vp_Si (fun r => r = nI (ja_ct (ja_ls js cc) cc))) 0 0 (fun _ => False) := by
  refine Met.ofW (cc := cX0_changedSlots) (maxL := 3) (ret := (some .int)) (by decide) rfl ?_
  intro p e s m args below meth c s₁ B hml hv
  obtain ⟨rfl, hP, hK⟩ := hv
  have hx := B.exec
  have hb := B.bytes
  have hr := B.returns
  have hts := atoms_spec (ws := wsX0_changedSlots) B.pre
  have hown : s.vm.findClass RX0 = some m.cls := findClass_of_methodNamed B.named
  have hlocks := B.notSynchronized
  have hin : ∀ w ∈ u_ws RX0 TX0 11, w ∈ wsX0_changedSlots := by decide +kernel
  have fk30 := hts (.fieldLink RX0 30 "JournalShelf" "committedChanges" "I") (by decide +kernel)
  have hl := lv_entry ([.ref h]) (n := 3) (Nat.le_of_ble_eq_true rfl)
  rw [lg_entry_eq]
  generalize (lg_sl ([.ref h]) ++ List.replicate (3 - (lg_sl ([.ref h])).length) Slot.unset).toArray = ls at hl ⊢
  have hl : lv_has ls 3 [(0, .ref h)] := hl
  refine lv_iconst (v := nI 0) hx hb dX0_changedSlots_0 (by decide +kernel) ?_
  refine lv_istore_n (lv' := [(1, .int (nI 0)), (0, .ref h)]) hx hb dX0_changedSlots_1 rfl hl (by decide) rfl (fun ls hl => ?_)
  refine lv_iconst (v := nI 0) hx hb dX0_changedSlots_2 (by decide +kernel) ?_
  refine lv_istore_n (lv' := [(2, .int (nI 0)), (1, .int (nI 0)), (0, .ref h)]) hx hb dX0_changedSlots_3 rfl hl (by decide) rfl (fun ls hl => ?_)
  refine ja_lpR 4 (fun (i : Nat) ls => lv_has ls 3 [(2, .int (nI i)), (1, .int (nI (ja_ct (ja_ls js cc) i))), (0, .ref h)] ∧ i ≤ cc) (fun i => cc - (i)) ?_ 0 ls ⟨lv_sub hl [0, 1, 2] rfl, Nat.zero_le _⟩
  intro i ls hI ih0
  obtain ⟨hl, hi⟩ := hI
  have hl : lv_has ls 3 [(2, .int (nI i)), (1, .int (nI (ja_ct (ja_ls js cc) i))), (0, .ref h)] := hl
  refine lv_iload_n hx hb dX0_changedSlots_4 rfl (lv_at hl 0 rfl) ?_
  refine lv_aload_n hx hb dX0_changedSlots_5 rfl (lv_at hl 2 rfl) ?_
  refine va_get (D := (dC, dI)) (ci := 0) (v := .int (nI cc)) (C := RX0) (T := TX0) (N := 11) hx hb hts hin hown hK hP 0 rfl rfl 4 (by decide) fk30 (fun _ h9 => h9) rfl dX0_changedSlots_6 ?_
  refine ja_ige hx hb dX0_changedSlots_9 (tgt := 29) (by decide) (by omega) (by omega) (fun h9 => ?_) (fun h9 => ?_)
  · have hic : i = cc := by omega
    refine lv_iload_n hx hb dX0_changedSlots_29 rfl (lv_at hl 1 rfl) ?_
    exact W.iret (v := nI (ja_ct (ja_ls js cc) i)) hx hb hr (fun t ht hW => ⟨_, rfl, by rw [hic], ht⟩) (fun q h => by cases h) dX0_changedSlots_30
  · refine lv_aload_n hx hb dX0_changedSlots_12 rfl (lv_at hl 2 rfl) ?_
    refine lv_iload_n hx hb dX0_changedSlots_13 rfl (lv_at hl 0 rfl) ?_
    refine ja_cR (As := [.int (nI i)]) (rest := []) ⟨hx, hb, hml, hown, hts⟩ (cX_isLastOfItsSlot l dC dI h a1 a2 a3 a4 cA sv js jv jd cc oc sd jn fb fl cr i hcc (by omega)) (cwV 1 hts gX0_changedSlots_X0_isLastOfItsSlot rfl rfl rfl (by decide +kernel) ⟨Nat.le_of_ble_eq_true rfl, Nat.le_of_ble_eq_true rfl⟩) hK hP (ja_rcv (ci := 0) (q0 := 0) hK hP rfl rfl rfl) rfl hl.1 rfl (Nat.le_of_ble_eq_true rfl) dX0_changedSlots_14 ⟨Nat.zero_le _, Nat.zero_le _⟩ (fun r14 hr14 => ?_)
    refine lv_if_eq hx hb dX0_changedSlots_17 (tgt := 23) (by decide) (fun h17 => ?_) (fun h17 => ?_)
    · have he : ja_ct (ja_ls js cc) (i + 1) = ja_ct (ja_ls js cc) i := ja_ct_f (ja_ls_f (Or.elim hr14 (fun q => absurd (q.1.symm.trans h17) ja_n10) (fun q => q.2)))
      -- iinc
      refine lv_iinc (k := 0) (v := nI (i + 1)) (lv' := [(2, .int (nI (i + 1))), (1, .int (nI (ja_ct (ja_ls js cc) i))), (0, .ref h)]) hx hb dX0_changedSlots_23 hl rfl (ja_inc1 _) (by decide) rfl (fun ls hl => ?_)
      refine lv_goto (tgt := 4) hx hb dX0_changedSlots_26 (by decide) ?_
      exact ih0 (i + 1) ls ⟨(show lv_has ls 3 [(2, .int (nI (i + 1))), (1, .int (nI (ja_ct (ja_ls js cc) (i + 1)))), (0, .ref h)] by rw [he]; exact lv_sub hl [0, 1, 2] rfl), (by omega)⟩ (show cc - (i + 1) < cc - (i) by omega)
    · have he : ja_ct (ja_ls js cc) (i + 1) = ja_ct (ja_ls js cc) i + 1 := ja_ct_t (ja_ls_t (Or.elim hr14 (fun q => q.2) (fun q => absurd (q.1.trans nI_0) h17)))
      -- iinc
      refine lv_iinc (k := 1) (v := nI ((ja_ct (ja_ls js cc) i) + 1)) (lv' := [(1, .int (nI ((ja_ct (ja_ls js cc) i) + 1))), (2, .int (nI i)), (0, .ref h)]) hx hb dX0_changedSlots_20 hl rfl (ja_inc1 _) (by decide) rfl (fun ls hl => ?_)
      -- iinc
      refine lv_iinc (k := 1) (v := nI (i + 1)) (lv' := [(2, .int (nI (i + 1))), (1, .int (nI ((ja_ct (ja_ls js cc) i) + 1))), (0, .ref h)]) hx hb dX0_changedSlots_23 hl rfl (ja_inc1 _) (by decide) rfl (fun ls hl => ?_)
      refine lv_goto (tgt := 4) hx hb dX0_changedSlots_26 (by decide) ?_
      exact ih0 (i + 1) ls ⟨(show lv_has ls 3 [(2, .int (nI (i + 1))), (1, .int (nI (ja_ct (ja_ls js cc) (i + 1)))), (0, .ref h)] by rw [he]; exact lv_sub hl [0, 1, 2] rfl), (by omega)⟩ (show cc - (i + 1) < cc - (i) by omega)
set_option maxHeartbeats 1000000 in
set_option maxRecDepth 100000 in
/-- how many deeds of the journal stand whole -/
theorem cX_wholeDeeds (l : Launch) (dC : Nat → ClassId) (dI : Nat → Nat → Nat) (h a1 a2 a3 a4 : Nat) (cA : ClassId) (sv js jv jd : Nat → Int32) (cc : Nat) (oc : Nat) (sd : Int32) (jn : Int32) (fb : Int32) (fl : Int32) (cr : Int32) (mask : Int32) (hcc : cc ≤ 24) : Met l yX0_wholeDeeds wsX0_wholeDeeds ({ frames := 1, cells := 0, slots := 0, locals := 21 }) (ja_Pr (dC, dI) vwCl (ja_wX h a1 a2 a3 a4 cA sv js jv jd cc oc sd jn fb fl cr) [(cA, .int)] [.ref h, .int mask]) (vp_Si (fun r => ja_wd jd cc fb jn mask r)) 0 0 (fun _ => False) := by
  refine Met.ofW (cc := cX0_wholeDeeds) (maxL := 3) (ret := (some .int)) (by decide) rfl ?_
  intro p e s m args below meth c s₁ B hml hv
  obtain ⟨rfl, hP, hK⟩ := hv
  have hx := B.exec
  have hb := B.bytes
  have hr := B.returns
  have hts := atoms_spec (ws := wsX0_wholeDeeds) B.pre
  have hown : s.vm.findClass RX0 = some m.cls := findClass_of_methodNamed B.named
  have hlocks := B.notSynchronized
  have hin : ∀ w ∈ u_ws RX0 TX0 11, w ∈ wsX0_wholeDeeds := by decide +kernel
  have fk19 := hts (.fieldLink RX0 19 "JournalShelf" "journalDeed" "[I") (by decide +kernel)
  have fk30 := hts (.fieldLink RX0 30 "JournalShelf" "committedChanges" "I") (by decide +kernel)
  have fk40 := hts (.fieldLink RX0 40 "JournalShelf" "journalDeeds" "I") (by decide +kernel)
  have fk51 := hts (.fieldLink RX0 51 "JournalShelf" "flushBlocks" "I") (by decide +kernel)
  have hl := lv_entry ([.ref h, .int mask]) (n := 3) (Nat.le_of_ble_eq_true rfl)
  rw [lg_entry_eq]
  generalize (lg_sl ([.ref h, .int mask]) ++ List.replicate (3 - (lg_sl ([.ref h, .int mask])).length) Slot.unset).toArray = ls at hl ⊢
  have hl : lv_has ls 3 [(0, .ref h), (1, .int mask)] := hl
  refine lv_iconst (v := nI 0) hx hb dX0_wholeDeeds_0 (by decide +kernel) ?_
  refine lv_istore_n (lv' := [(2, .int (nI 0)), (0, .ref h), (1, .int mask)]) hx hb dX0_wholeDeeds_1 rfl hl (by decide) rfl (fun ls hl => ?_)
  refine ja_lpR 2 (fun (i : Nat) ls => lv_has ls 3 [(2, .int (nI i)), (0, .ref h), (1, .int mask)] ∧ i ≤ cc ∧ (∀ j, j < i → ja_bt mask (fb + nI j) = nI 1)) (fun i => cc - (i)) ?_ 0 ls ⟨lv_sub hl [0, 1, 2] rfl, Nat.zero_le _, lt_0⟩
  intro i ls hI ih0
  obtain ⟨hl, hi, hq⟩ := hI
  have hl : lv_has ls 3 [(2, .int (nI i)), (0, .ref h), (1, .int mask)] := hl
  refine lv_iload_n hx hb dX0_wholeDeeds_2 rfl (lv_at hl 0 rfl) ?_
  refine lv_aload_n hx hb dX0_wholeDeeds_3 rfl (lv_at hl 1 rfl) ?_
  refine va_get (D := (dC, dI)) (ci := 0) (v := .int (nI cc)) (C := RX0) (T := TX0) (N := 11) hx hb hts hin hown hK hP 0 rfl rfl 4 (by decide) fk30 (fun _ h9 => h9) rfl dX0_wholeDeeds_4 ?_
  refine ja_ige hx hb dX0_wholeDeeds_7 (tgt := 36) (by decide) (by omega) (by omega) (fun h7 => ?_) (fun h7 => ?_)
  · refine lv_aload_n hx hb dX0_wholeDeeds_36 rfl (lv_at hl 1 rfl) ?_
    refine va_get (D := (dC, dI)) (ci := 0) (v := .int jn) (C := RX0) (T := TX0) (N := 11) hx hb hts hin hown hK hP 0 rfl rfl 7 (by decide) fk40 (fun _ h9 => h9) rfl dX0_wholeDeeds_37 ?_
    exact W.iret (v := jn) hx hb hr (fun t ht hW => ⟨_, rfl, Or.inr ⟨fun j hj => hq j (by omega), rfl⟩, ht⟩) (fun q h => by cases h) dX0_wholeDeeds_40
  · refine lv_aload_n hx hb dX0_wholeDeeds_10 rfl (lv_at hl 1 rfl) ?_
    refine va_get (D := (dC, dI)) (ci := 0) (v := .int fb) (C := RX0) (T := TX0) (N := 11) hx hb hts hin hown hK hP 0 rfl rfl 8 (by decide) fk51 (fun _ h9 => h9) rfl dX0_wholeDeeds_11 ?_
    refine lv_iload_n hx hb dX0_wholeDeeds_14 rfl (lv_at hl 0 rfl) ?_
    refine lv_iadd hx hb dX0_wholeDeeds_15 ?_
    refine lv_iload_n hx hb dX0_wholeDeeds_16 rfl (lv_at hl 2 rfl) ?_
    refine ja_cS (As := [.int (fb + nI i), .int mask]) (rest := []) ⟨hx, hb, hml, hown, hts⟩ (cX_blockStands l (fb + nI i) mask) (va_cwS 2 hts gX0_wholeDeeds_X0_blockStands rfl rfl rfl (by decide +kernel) ⟨Nat.le_of_ble_eq_true rfl, Nat.le_of_ble_eq_true rfl⟩) rfl hl.1 rfl (Nat.le_of_ble_eq_true rfl) dX0_wholeDeeds_17 ⟨Nat.zero_le _, Nat.zero_le _⟩ (fun r17 hr17 => ?_)
    refine lv_if_ne hx hb dX0_wholeDeeds_20 (tgt := 30) (by decide) (fun h20 => ?_) (fun h20 => ?_)
    · have he : ja_bt mask (fb + nI i) = nI 1 := Or.elim hr17 (fun q => q.2) (fun q => absurd (q.1.trans nI_0) h20)
      -- iinc
      refine lv_iinc (k := 0) (v := nI (i + 1)) (lv' := [(2, .int (nI (i + 1))), (0, .ref h), (1, .int mask)]) hx hb dX0_wholeDeeds_30 hl rfl (ja_inc1 _) (by decide) rfl (fun ls hl => ?_)
      refine lv_goto (tgt := 2) hx hb dX0_wholeDeeds_33 (by decide) ?_
      exact ih0 (i + 1) ls ⟨lv_sub hl [0, 1, 2] rfl, (by omega), (lt_s hq he)⟩ (show cc - (i + 1) < cc - (i) by omega)
    · have he : ¬ ja_bt mask (fb + nI i) = nI 1 := Or.elim hr17 (fun q => absurd (q.1.symm.trans h20) ja_n10) (fun q => q.2)
      refine lv_aload_n hx hb dX0_wholeDeeds_23 rfl (lv_at hl 1 rfl) ?_
      refine va_get (D := (dC, dI)) (ci := 0) (v := .ref a4) (C := RX0) (T := TX0) (N := 11) hx hb hts hin hown hK hP 0 rfl rfl 3 (by decide) fk19 (fun _ h9 => h9) rfl dX0_wholeDeeds_24 ?_
      refine lv_iload_n hx hb dX0_wholeDeeds_27 rfl (lv_at hl 0 rfl) ?_
      refine ja_ald hx hb hK hP 4 0 rfl rfl (by omega) (by decide) dX0_wholeDeeds_28 ?_
      exact W.iret (v := (jd i)) hx hb hr (fun t ht hW => ⟨_, rfl, Or.inl ⟨i, by omega, hq, he, rfl⟩, ht⟩) (fun q h => by cases h) dX0_wholeDeeds_29
set_option maxHeartbeats 1000000 in
set_option maxRecDepth 100000 in
/-- takes the first deeds of the journal over for good, empties it -/
theorem cX_makeSafe (l : Launch) (dC : Nat → ClassId) (dI : Nat → Nat → Nat) (h a1 a2 a3 a4 : Nat) (cA : ClassId) (sz : Nat) (sv js jv jd : Nat → Int32) (cc : Nat) (oc : Nat) (sd : Int32) (jn : Int32) (fb : Int32) (fl : Int32) (cr : Int32) (dd : Int32) (hcc : cc ≤ 24) (hjs : ∀ i, i < cc → vp_in (js i) 212) : Met l yX0_makeSafe wsX0_makeSafe ({ frames := 0, cells := 0, slots := 0, locals := 0 }) (ja_Pw (dC, dI) vwCl (ja_wX h a1 a2 a3 a4 cA sv js jv jd cc oc sd jn fb fl cr) [(cA, .int)] sz [.ref h, .int dd]) (va_Qv (fun u : ja_SX => ∃ n, ja_run jd cc dd n ∧ u = (ja_ap js jv sv n, js, jv, jd, 0, 0, sd + dd, nI 0, fb, fl, cr)) (ja_B (dC, dI) vwCl (va_A (ja_wX h a1 a2 a3 a4 cA sv js jv jd cc oc sd jn fb fl cr) sz) (ja_uX h a1 a2 a3 a4 cA)) (va_A (ja_wX h a1 a2 a3 a4 cA sv js jv jd cc oc sd jn fb fl cr) sz)) 0 0 (va_A (ja_wX h a1 a2 a3 a4 cA sv js jv jd cc oc sd jn fb fl cr) sz) := by
  refine Met.ofW (cc := cX0_makeSafe) (maxL := 3) (ret := none) (by decide) rfl ?_
  intro p e s m args below meth c s₁ B hml hv
  obtain ⟨rfl, hsz, hP, hK, hD0⟩ := hv
  have hx := B.exec
  have hb := B.bytes
  have hr := B.returns
  have hts := atoms_spec (ws := wsX0_makeSafe) B.pre
  have hown : s.vm.findClass RX0 = some m.cls := findClass_of_methodNamed B.named
  have hlocks := B.notSynchronized
  have hin : ∀ w ∈ u_ws RX0 TX0 11, w ∈ wsX0_makeSafe := by decide +kernel
  have fk9 := hts (.fieldLink RX0 9 "JournalShelf" "safeValue" "[I") (by decide +kernel)
  have fk13 := hts (.fieldLink RX0 13 "JournalShelf" "journalSlot" "[I") (by decide +kernel)
  have fk16 := hts (.fieldLink RX0 16 "JournalShelf" "journalValue" "[I") (by decide +kernel)
  have fk19 := hts (.fieldLink RX0 19 "JournalShelf" "journalDeed" "[I") (by decide +kernel)
  have fk26 := hts (.fieldLink RX0 26 "JournalShelf" "openChanges" "I") (by decide +kernel)
  have fk30 := hts (.fieldLink RX0 30 "JournalShelf" "committedChanges" "I") (by decide +kernel)
  have fk40 := hts (.fieldLink RX0 40 "JournalShelf" "journalDeeds" "I") (by decide +kernel)
  have fk57 := hts (.fieldLink RX0 57 "JournalShelf" "safeDeeds" "I") (by decide +kernel)
  subst hsz
  have hD := hD0.self (sz := s.heap.size)
  generalize hAe : va_A (ja_wX h a1 a2 a3 a4 cA sv js jv jd cc oc sd jn fb fl cr) s.heap.size = A at hD ⊢
  have hA : ∀ q : Nat, s.heap.size ≤ q → A q := fun q h => by rw [← hAe]; exact Or.inr h
  refine ja_st0 s.heap [] hP (va_S.rf (A := A)) (fun H locs hP hS => ?_)
  have hl := lv_entry ([.ref h, .int dd]) (n := 3) (Nat.le_of_ble_eq_true rfl)
  rw [lg_entry_eq]
  generalize (lg_sl ([.ref h, .int dd]) ++ List.replicate (3 - (lg_sl ([.ref h, .int dd])).length) Slot.unset).toArray = ls at hl ⊢
  have hl : lv_has ls 3 [(0, .ref h), (1, .int dd)] := hl
  refine lv_iconst (v := nI 0) hx hb dX0_makeSafe_0 (by decide +kernel) ?_
  refine lv_istore_n (lv' := [(2, .int (nI 0)), (0, .ref h), (1, .int dd)]) hx hb dX0_makeSafe_1 rfl hl (by decide) rfl (fun ls hl => ?_)
  refine ja_lpW 2 (fun (i : Nat) ls H locs => lv_has ls 3 [(2, .int (nI i)), (0, .ref h), (1, .int dd)] ∧ va_P (dC, dI) vwCl (ja_wX h a1 a2 a3 a4 cA (ja_ap js jv sv i) js jv jd cc oc sd jn fb fl cr) H ∧ va_D A (ja_wX h a1 a2 a3 a4 cA (ja_ap js jv sv i) js jv jd cc oc sd jn fb fl cr) ∧ va_S A s.heap H locs ∧ i ≤ cc ∧ (∀ j, j < i → jd j < dd)) (fun i => cc - (i)) ?_ 0 ls H locs ⟨lv_sub hl [0, 1, 2] rfl, hP, hD, hS, Nat.zero_le _, lt_0⟩
  intro i ls H locs hI ih0
  obtain ⟨hl, hP, hD, hS, hi, hq⟩ := hI
  have hl : lv_has ls 3 [(2, .int (nI i)), (0, .ref h), (1, .int dd)] := hl
  have hP : va_P (dC, dI) vwCl (ja_wX h a1 a2 a3 a4 cA (ja_ap js jv sv i) js jv jd cc oc sd jn fb fl cr) H := hP
  have hD : va_D A (ja_wX h a1 a2 a3 a4 cA (ja_ap js jv sv i) js jv jd cc oc sd jn fb fl cr) := hD
  refine lv_iload_n hx hb dX0_makeSafe_2 rfl (lv_at hl 0 rfl) ?_
  refine lv_aload_n hx hb dX0_makeSafe_3 rfl (lv_at hl 1 rfl) ?_
  refine va_get (D := (dC, dI)) (ci := 0) (v := .int (nI cc)) (C := RX0) (T := TX0) (N := 11) hx hb hts hin hown hK hP 0 rfl rfl 4 (by decide) fk30 (fun _ h9 => h9) rfl dX0_makeSafe_4 ?_
  refine ja_ige hx hb dX0_makeSafe_7 (tgt := 43) (by decide) (by omega) (by omega) (fun h7 => ?_) (fun h7 => ?_)
  · refine lv_aload_n hx hb dX0_makeSafe_43 rfl (lv_at hl 1 rfl) ?_
    refine lv_dup hx hb dX0_makeSafe_44 rfl ?_
    refine va_get (D := (dC, dI)) (ci := 0) (v := .int sd) (C := RX0) (T := TX0) (N := 11) hx hb hts hin hown hK hP 0 rfl rfl 6 (by decide) fk57 (fun _ h9 => h9) rfl dX0_makeSafe_45 ?_
    refine lv_iload_n hx hb dX0_makeSafe_48 rfl (lv_at hl 2 rfl) ?_
    refine lv_iadd hx hb dX0_makeSafe_49 ?_
    refine va_put (D := (dC, dI)) (ci := 0) (v := .int (sd + dd)) (ty := .int) (C := RX0) (T := TX0) (N := 11) hx hb hts hin tyX0 tyX0_ok nmX0 hown hK hP hD hS 0 rfl rfl 6 (by decide) fk57 (fun _ h9 => h9) rfl (by decide +kernel) rfl rfl (Nat.le_of_ble_eq_true rfl) dX0_makeSafe_50 (fun H locs hP hD hS => ?_)
    have hP : va_P (dC, dI) vwCl (ja_wX h a1 a2 a3 a4 cA (ja_ap js jv sv i) js jv jd cc oc (sd + dd) jn fb fl cr) H := hP
    have hD : va_D A (ja_wX h a1 a2 a3 a4 cA (ja_ap js jv sv i) js jv jd cc oc (sd + dd) jn fb fl cr) := hD
    refine lv_aload_n hx hb dX0_makeSafe_53 rfl (lv_at hl 1 rfl) ?_
    refine lv_iconst (v := nI 0) hx hb dX0_makeSafe_54 (by decide +kernel) ?_
    refine va_put (D := (dC, dI)) (ci := 0) (v := .int (nI 0)) (ty := .int) (C := RX0) (T := TX0) (N := 11) hx hb hts hin tyX0 tyX0_ok nmX0 hown hK hP hD hS 0 rfl rfl 7 (by decide) fk40 (fun _ h9 => h9) rfl (by decide +kernel) rfl rfl (Nat.le_of_ble_eq_true rfl) dX0_makeSafe_55 (fun H locs hP hD hS => ?_)
    have hP : va_P (dC, dI) vwCl (ja_wX h a1 a2 a3 a4 cA (ja_ap js jv sv i) js jv jd cc oc (sd + dd) (nI 0) fb fl cr) H := hP
    have hD : va_D A (ja_wX h a1 a2 a3 a4 cA (ja_ap js jv sv i) js jv jd cc oc (sd + dd) (nI 0) fb fl cr) := hD
    refine lv_aload_n hx hb dX0_makeSafe_58 rfl (lv_at hl 1 rfl) ?_
    refine lv_iconst (v := nI 0) hx hb dX0_makeSafe_59 (by decide +kernel) ?_
    refine va_put (D := (dC, dI)) (ci := 0) (v := .int (nI 0)) (ty := .int) (C := RX0) (T := TX0) (N := 11) hx hb hts hin tyX0 tyX0_ok nmX0 hown hK hP hD hS 0 rfl rfl 4 (by decide) fk30 (fun _ h9 => h9) rfl (by decide +kernel) rfl rfl (Nat.le_of_ble_eq_true rfl) dX0_makeSafe_60 (fun H locs hP hD hS => ?_)
    have hP : va_P (dC, dI) vwCl (ja_wX h a1 a2 a3 a4 cA (ja_ap js jv sv i) js jv jd 0 oc (sd + dd) (nI 0) fb fl cr) H := hP
    have hD : va_D A (ja_wX h a1 a2 a3 a4 cA (ja_ap js jv sv i) js jv jd 0 oc (sd + dd) (nI 0) fb fl cr) := hD
    refine lv_aload_n hx hb dX0_makeSafe_63 rfl (lv_at hl 1 rfl) ?_
    refine lv_iconst (v := nI 0) hx hb dX0_makeSafe_64 (by decide +kernel) ?_
    refine va_put (D := (dC, dI)) (ci := 0) (v := .int (nI 0)) (ty := .int) (C := RX0) (T := TX0) (N := 11) hx hb hts hin tyX0 tyX0_ok nmX0 hown hK hP hD hS 0 rfl rfl 5 (by decide) fk26 (fun _ h9 => h9) rfl (by decide +kernel) rfl rfl (Nat.le_of_ble_eq_true rfl) dX0_makeSafe_65 (fun H locs hP hD hS => ?_)
    have hP : va_P (dC, dI) vwCl (ja_wX h a1 a2 a3 a4 cA (ja_ap js jv sv i) js jv jd 0 0 (sd + dd) (nI 0) fb fl cr) H := hP
    have hD : va_D A (ja_wX h a1 a2 a3 a4 cA (ja_ap js jv sv i) js jv jd 0 0 (sd + dd) (nI 0) fb fl cr) := hD
    exact W.vret hx hb hr (fun t ht hW => ⟨⟨((ja_ap js jv sv i), js, jv, jd, 0, 0, (sd + dd), nI 0, fb, fl, cr), rfl, ⟨i, ⟨hi, hq, fun h => absurd h (by omega)⟩, rfl⟩, by rw [ht]; exact hP, hD⟩, hS.F ht⟩) hS.2.2 dX0_makeSafe_68
  · refine lv_aload_n hx hb dX0_makeSafe_10 rfl (lv_at hl 1 rfl) ?_
    refine va_get (D := (dC, dI)) (ci := 0) (v := .ref a4) (C := RX0) (T := TX0) (N := 11) hx hb hts hin hown hK hP 0 rfl rfl 3 (by decide) fk19 (fun _ h9 => h9) rfl dX0_makeSafe_11 ?_
    refine lv_iload_n hx hb dX0_makeSafe_14 rfl (lv_at hl 0 rfl) ?_
    refine ja_ald hx hb hK hP 4 0 rfl rfl (by omega) (by decide) dX0_makeSafe_15 ?_
    refine lv_iload_n hx hb dX0_makeSafe_16 rfl (lv_at hl 2 rfl) ?_
    refine lv_icmp_ge hx hb dX0_makeSafe_17 (tgt := 43) (by decide) (fun h17 => ?_) (fun h17 => ?_)
    · refine lv_aload_n hx hb dX0_makeSafe_43 rfl (lv_at hl 1 rfl) ?_
      refine lv_dup hx hb dX0_makeSafe_44 rfl ?_
      refine va_get (D := (dC, dI)) (ci := 0) (v := .int sd) (C := RX0) (T := TX0) (N := 11) hx hb hts hin hown hK hP 0 rfl rfl 6 (by decide) fk57 (fun _ h9 => h9) rfl dX0_makeSafe_45 ?_
      refine lv_iload_n hx hb dX0_makeSafe_48 rfl (lv_at hl 2 rfl) ?_
      refine lv_iadd hx hb dX0_makeSafe_49 ?_
      refine va_put (D := (dC, dI)) (ci := 0) (v := .int (sd + dd)) (ty := .int) (C := RX0) (T := TX0) (N := 11) hx hb hts hin tyX0 tyX0_ok nmX0 hown hK hP hD hS 0 rfl rfl 6 (by decide) fk57 (fun _ h9 => h9) rfl (by decide +kernel) rfl rfl (Nat.le_of_ble_eq_true rfl) dX0_makeSafe_50 (fun H locs hP hD hS => ?_)
      have hP : va_P (dC, dI) vwCl (ja_wX h a1 a2 a3 a4 cA (ja_ap js jv sv i) js jv jd cc oc (sd + dd) jn fb fl cr) H := hP
      have hD : va_D A (ja_wX h a1 a2 a3 a4 cA (ja_ap js jv sv i) js jv jd cc oc (sd + dd) jn fb fl cr) := hD
      refine lv_aload_n hx hb dX0_makeSafe_53 rfl (lv_at hl 1 rfl) ?_
      refine lv_iconst (v := nI 0) hx hb dX0_makeSafe_54 (by decide +kernel) ?_
      refine va_put (D := (dC, dI)) (ci := 0) (v := .int (nI 0)) (ty := .int) (C := RX0) (T := TX0) (N := 11) hx hb hts hin tyX0 tyX0_ok nmX0 hown hK hP hD hS 0 rfl rfl 7 (by decide) fk40 (fun _ h9 => h9) rfl (by decide +kernel) rfl rfl (Nat.le_of_ble_eq_true rfl) dX0_makeSafe_55 (fun H locs hP hD hS => ?_)
      have hP : va_P (dC, dI) vwCl (ja_wX h a1 a2 a3 a4 cA (ja_ap js jv sv i) js jv jd cc oc (sd + dd) (nI 0) fb fl cr) H := hP
      have hD : va_D A (ja_wX h a1 a2 a3 a4 cA (ja_ap js jv sv i) js jv jd cc oc (sd + dd) (nI 0) fb fl cr) := hD
      refine lv_aload_n hx hb dX0_makeSafe_58 rfl (lv_at hl 1 rfl) ?_
      refine lv_iconst (v := nI 0) hx hb dX0_makeSafe_59 (by decide +kernel) ?_
      refine va_put (D := (dC, dI)) (ci := 0) (v := .int (nI 0)) (ty := .int) (C := RX0) (T := TX0) (N := 11) hx hb hts hin tyX0 tyX0_ok nmX0 hown hK hP hD hS 0 rfl rfl 4 (by decide) fk30 (fun _ h9 => h9) rfl (by decide +kernel) rfl rfl (Nat.le_of_ble_eq_true rfl) dX0_makeSafe_60 (fun H locs hP hD hS => ?_)
      have hP : va_P (dC, dI) vwCl (ja_wX h a1 a2 a3 a4 cA (ja_ap js jv sv i) js jv jd 0 oc (sd + dd) (nI 0) fb fl cr) H := hP
      have hD : va_D A (ja_wX h a1 a2 a3 a4 cA (ja_ap js jv sv i) js jv jd 0 oc (sd + dd) (nI 0) fb fl cr) := hD
      refine lv_aload_n hx hb dX0_makeSafe_63 rfl (lv_at hl 1 rfl) ?_
      refine lv_iconst (v := nI 0) hx hb dX0_makeSafe_64 (by decide +kernel) ?_
      refine va_put (D := (dC, dI)) (ci := 0) (v := .int (nI 0)) (ty := .int) (C := RX0) (T := TX0) (N := 11) hx hb hts hin tyX0 tyX0_ok nmX0 hown hK hP hD hS 0 rfl rfl 5 (by decide) fk26 (fun _ h9 => h9) rfl (by decide +kernel) rfl rfl (Nat.le_of_ble_eq_true rfl) dX0_makeSafe_65 (fun H locs hP hD hS => ?_)
      have hP : va_P (dC, dI) vwCl (ja_wX h a1 a2 a3 a4 cA (ja_ap js jv sv i) js jv jd 0 0 (sd + dd) (nI 0) fb fl cr) H := hP
      have hD : va_D A (ja_wX h a1 a2 a3 a4 cA (ja_ap js jv sv i) js jv jd 0 0 (sd + dd) (nI 0) fb fl cr) := hD
      exact W.vret hx hb hr (fun t ht hW => ⟨⟨((ja_ap js jv sv i), js, jv, jd, 0, 0, (sd + dd), nI 0, fb, fl, cr), rfl, ⟨i, ⟨hi, hq, fun _ => Int32.not_lt.mpr h17⟩, rfl⟩, by rw [ht]; exact hP, hD⟩, hS.F ht⟩) hS.2.2 dX0_makeSafe_68
    · have he : jd i < dd := Int32.not_le.mp h17
      refine lv_aload_n hx hb dX0_makeSafe_20 rfl (lv_at hl 1 rfl) ?_
      refine va_get (D := (dC, dI)) (ci := 0) (v := .ref a1) (C := RX0) (T := TX0) (N := 11) hx hb hts hin hown hK hP 0 rfl rfl 0 (by decide) fk9 (fun _ h9 => h9) rfl dX0_makeSafe_21 ?_
      refine lv_aload_n hx hb dX0_makeSafe_24 rfl (lv_at hl 1 rfl) ?_
      refine va_get (D := (dC, dI)) (ci := 0) (v := .ref a2) (C := RX0) (T := TX0) (N := 11) hx hb hts hin hown hK hP 0 rfl rfl 1 (by decide) fk13 (fun _ h9 => h9) rfl dX0_makeSafe_25 ?_
      refine lv_iload_n hx hb dX0_makeSafe_28 rfl (lv_at hl 0 rfl) ?_
      refine ja_ald hx hb hK hP 2 0 rfl rfl (by omega) (by decide) dX0_makeSafe_29 ?_
      refine lv_aload_n hx hb dX0_makeSafe_30 rfl (lv_at hl 1 rfl) ?_
      refine va_get (D := (dC, dI)) (ci := 0) (v := .ref a3) (C := RX0) (T := TX0) (N := 11) hx hb hts hin hown hK hP 0 rfl rfl 2 (by decide) fk16 (fun _ h9 => h9) rfl dX0_makeSafe_31 ?_
      refine lv_iload_n hx hb dX0_makeSafe_34 rfl (lv_at hl 0 rfl) ?_
      refine ja_ald hx hb hK hP 3 0 rfl rfl (by omega) (by decide) dX0_makeSafe_35 ?_
      refine va_iast hx hb hK hP hD hS 1 0 rfl rfl (hjs i (by omega)) dX0_makeSafe_36 (fun H locs hP hD hS => ?_)
      have hP : va_P (dC, dI) vwCl (ja_wX h a1 a2 a3 a4 cA (upd (ja_ap js jv sv i) (js i).toNatClampNeg (jv i)) js jv jd cc oc sd jn fb fl cr) H := hP
      have hD : va_D A (ja_wX h a1 a2 a3 a4 cA (upd (ja_ap js jv sv i) (js i).toNatClampNeg (jv i)) js jv jd cc oc sd jn fb fl cr) := hD
      -- iinc
      refine lv_iinc (k := 0) (v := nI (i + 1)) (lv' := [(2, .int (nI (i + 1))), (0, .ref h), (1, .int dd)]) hx hb dX0_makeSafe_37 hl rfl (ja_inc1 _) (by decide) rfl (fun ls hl => ?_)
      refine lv_goto (tgt := 2) hx hb dX0_makeSafe_40 (by decide) ?_
      exact ih0 (i + 1) ls H locs ⟨lv_sub hl [0, 1, 2] rfl, hP, hD, hS, (by omega), (lt_s hq he)⟩ (show cc - (i + 1) < cc - (i) by omega)
set_option maxHeartbeats 1000000 in
set_option maxRecDepth 100000 in
/-- flush without its answer -/
theorem cX_flushDisk (l : Launch) (dC : Nat → ClassId) (dI : Nat → Nat → Nat) (h a1 a2 a3 a4 : Nat) (cA : ClassId) (sz : Nat) (sv js jv jd : Nat → Int32) (cc : Nat) (oc : Nat) (sd : Int32) (jn : Int32) (fb : Int32) (fl : Int32) (cr : Int32)  (hcc : cc ≤ 24) (hjs : ∀ i, i < cc → vp_in (js i) 212) : Met l yX0_flushDisk wsX0_flushDisk ({ frames := 2, cells := 0, slots := 0, locals := 44 }) (ja_Pw (dC, dI) vwCl (ja_wX h a1 a2 a3 a4 cA sv js jv jd cc oc sd jn fb fl cr) [(cA, .int)] sz [.ref h]) (va_Qv (fun u : ja_SX => ∃ n, ja_run jd cc jn n ∧ u = (ja_ap js jv sv n, js, jv, jd, 0, 0, sd + jn, nI 0, nI (ja_ct (ja_ls js cc) cc), fl + nI 1, cr)) (ja_B (dC, dI) vwCl (va_A (ja_wX h a1 a2 a3 a4 cA sv js jv jd cc oc sd jn fb fl cr) sz) (ja_uX h a1 a2 a3 a4 cA)) (va_A (ja_wX h a1 a2 a3 a4 cA sv js jv jd cc oc sd jn fb fl cr) sz)) 0 0 (va_A (ja_wX h a1 a2 a3 a4 cA sv js jv jd cc oc sd jn fb fl cr) sz) := by
  refine Met.ofW (cc := cX0_flushDisk) (maxL := 2) (ret := none) (by decide) rfl ?_
  intro p e s m args below meth c s₁ B hml hv
  obtain ⟨rfl, hsz, hP, hK, hD0⟩ := hv
  have hx := B.exec
  have hb := B.bytes
  have hr := B.returns
  have hts := atoms_spec (ws := wsX0_flushDisk) B.pre
  have hown : s.vm.findClass RX0 = some m.cls := findClass_of_methodNamed B.named
  have hlocks := B.notSynchronized
  have hin : ∀ w ∈ u_ws RX0 TX0 11, w ∈ wsX0_flushDisk := by decide +kernel
  have fk40 := hts (.fieldLink RX0 40 "JournalShelf" "journalDeeds" "I") (by decide +kernel)
  have fk51 := hts (.fieldLink RX0 51 "JournalShelf" "flushBlocks" "I") (by decide +kernel)
  have fk60 := hts (.fieldLink RX0 60 "JournalShelf" "flushes" "I") (by decide +kernel)
  subst hsz
  have hD := hD0.self (sz := s.heap.size)
  generalize hAe : va_A (ja_wX h a1 a2 a3 a4 cA sv js jv jd cc oc sd jn fb fl cr) s.heap.size = A at hD ⊢
  have hA : ∀ q : Nat, s.heap.size ≤ q → A q := fun q h => by rw [← hAe]; exact Or.inr h
  refine ja_st0 s.heap [] hP (va_S.rf (A := A)) (fun H locs hP hS => ?_)
  have hl := lv_entry ([.ref h]) (n := 2) (Nat.le_of_ble_eq_true rfl)
  rw [lg_entry_eq]
  generalize (lg_sl ([.ref h]) ++ List.replicate (2 - (lg_sl ([.ref h])).length) Slot.unset).toArray = ls at hl ⊢
  have hl : lv_has ls 2 [(0, .ref h)] := hl
  refine lv_aload_n hx hb dX0_flushDisk_0 rfl (lv_at hl 0 rfl) ?_
  refine ja_cR (As := []) (rest := []) ⟨hx, hb, hml, hown, hts⟩ (cX_changedSlots l dC dI h a1 a2 a3 a4 cA sv js jv jd cc oc sd jn fb fl cr  hcc) (cwV 0 hts gX0_flushDisk_X0_changedSlots rfl rfl rfl (by decide +kernel) ⟨Nat.le_of_ble_eq_true rfl, Nat.le_of_ble_eq_true rfl⟩) hK hP (ja_rcv (ci := 0) (q0 := 0) hK hP rfl rfl rfl) rfl hl.1 rfl (Nat.le_of_ble_eq_true rfl) dX0_flushDisk_1 ⟨Nat.zero_le _, Nat.zero_le _⟩ (fun r1 hr1 => ?_)
  have hr1 : r1 = nI (ja_ct (ja_ls js cc) cc) := hr1
  subst hr1
  refine lv_istore_n (lv' := [(1, .int (nI (ja_ct (ja_ls js cc) cc))), (0, .ref h)]) hx hb dX0_flushDisk_4 rfl hl (by decide) rfl (fun ls hl => ?_)
  refine lv_aload_n hx hb dX0_flushDisk_5 rfl (lv_at hl 1 rfl) ?_
  refine lv_aload_n hx hb dX0_flushDisk_6 rfl (lv_at hl 1 rfl) ?_
  refine va_get (D := (dC, dI)) (ci := 0) (v := .int jn) (C := RX0) (T := TX0) (N := 11) hx hb hts hin hown hK hP 0 rfl rfl 7 (by decide) fk40 (fun _ h9 => h9) rfl dX0_flushDisk_7 ?_
  refine ja_cV (wr := []) (As := [.int jn]) (rest := []) ⟨hx, hb, hml, hown, hts⟩ (cX_makeSafe l dC dI h a1 a2 a3 a4 cA H.size sv js jv jd cc oc sd jn fb fl cr jn hcc hjs) (cwV 1 hts gX0_flushDisk_X0_makeSafe rfl rfl rfl (by decide +kernel) ⟨Nat.le_of_ble_eq_true rfl, Nat.le_of_ble_eq_true rfl⟩) hK hP hP hD hS hA [0, 1, 2, 3, 4] [] rfl rfl (by decide) (by decide) (by decide) (ja_rcv (ci := 0) (q0 := 0) hK hP rfl rfl rfl) rfl hl.1 rfl (Nat.le_of_ble_eq_true rfl) dX0_flushDisk_10 ⟨Nat.zero_le _, Nat.zero_le _⟩ (fun u H locs hu hP hD hS => ?_)
  obtain ⟨n, hn, rfl⟩ := hu
  have hP : va_P (dC, dI) vwCl (ja_wX h a1 a2 a3 a4 cA (ja_ap js jv sv n) js jv jd 0 0 (sd + jn) (nI 0) fb fl cr) H := hP
  have hD : va_D A (ja_wX h a1 a2 a3 a4 cA (ja_ap js jv sv n) js jv jd 0 0 (sd + jn) (nI 0) fb fl cr) := hD
  refine lv_aload_n hx hb dX0_flushDisk_13 rfl (lv_at hl 1 rfl) ?_
  refine lv_iload_n hx hb dX0_flushDisk_14 rfl (lv_at hl 0 rfl) ?_
  refine va_put (D := (dC, dI)) (ci := 0) (v := .int (nI (ja_ct (ja_ls js cc) cc))) (ty := .int) (C := RX0) (T := TX0) (N := 11) hx hb hts hin tyX0 tyX0_ok nmX0 hown hK hP hD hS 0 rfl rfl 8 (by decide) fk51 (fun _ h9 => h9) rfl (by decide +kernel) rfl rfl (Nat.le_of_ble_eq_true rfl) dX0_flushDisk_15 (fun H locs hP hD hS => ?_)
  have hP : va_P (dC, dI) vwCl (ja_wX h a1 a2 a3 a4 cA (ja_ap js jv sv n) js jv jd 0 0 (sd + jn) (nI 0) (nI (ja_ct (ja_ls js cc) cc)) fl cr) H := hP
  have hD : va_D A (ja_wX h a1 a2 a3 a4 cA (ja_ap js jv sv n) js jv jd 0 0 (sd + jn) (nI 0) (nI (ja_ct (ja_ls js cc) cc)) fl cr) := hD
  refine lv_aload_n hx hb dX0_flushDisk_18 rfl (lv_at hl 1 rfl) ?_
  refine lv_dup hx hb dX0_flushDisk_19 rfl ?_
  refine va_get (D := (dC, dI)) (ci := 0) (v := .int fl) (C := RX0) (T := TX0) (N := 11) hx hb hts hin hown hK hP 0 rfl rfl 9 (by decide) fk60 (fun _ h9 => h9) rfl dX0_flushDisk_20 ?_
  refine lv_iconst (v := nI 1) hx hb dX0_flushDisk_23 (by decide +kernel) ?_
  refine lv_iadd hx hb dX0_flushDisk_24 ?_
  refine va_put (D := (dC, dI)) (ci := 0) (v := .int (fl + nI 1)) (ty := .int) (C := RX0) (T := TX0) (N := 11) hx hb hts hin tyX0 tyX0_ok nmX0 hown hK hP hD hS 0 rfl rfl 9 (by decide) fk60 (fun _ h9 => h9) rfl (by decide +kernel) rfl rfl (Nat.le_of_ble_eq_true rfl) dX0_flushDisk_25 (fun H locs hP hD hS => ?_)
  have hP : va_P (dC, dI) vwCl (ja_wX h a1 a2 a3 a4 cA (ja_ap js jv sv n) js jv jd 0 0 (sd + jn) (nI 0) (nI (ja_ct (ja_ls js cc) cc)) (fl + nI 1) cr) H := hP
  have hD : va_D A (ja_wX h a1 a2 a3 a4 cA (ja_ap js jv sv n) js jv jd 0 0 (sd + jn) (nI 0) (nI (ja_ct (ja_ls js cc) cc)) (fl + nI 1) cr) := hD
  exact W.vret hx hb hr (fun t ht hW => ⟨⟨((ja_ap js jv sv n), js, jv, jd, 0, 0, (sd + jn), nI 0, nI (ja_ct (ja_ls js cc) cc), (fl + nI 1), cr), rfl, ⟨n, hn, rfl⟩, by rw [ht]; exact hP, hD⟩, hS.F ht⟩) hS.2.2 dX0_flushDisk_28
