set_option maxHeartbeats 1000000 in
set_option maxRecDepth 100000 in
/-- one change more of the deed that is put together -/
theorem cX_appendChange (l : Launch) (dC : Nat → ClassId) (dI : Nat → Nat → Nat) (h a1 a2 a3 a4 : Nat) (cA : ClassId) (sz : Nat) (sv js jv jd : Nat → Int32) (cc : Nat) (oc : Nat) (sd : Int32) (jn : Int32) (fb : Int32) (fl : Int32) (cr : Int32) (x y : Int32) (hco : cc + oc < 24) : Met l yX0_appendChange wsX0_appendChange ({ frames := 0, cells := 0, slots := 0, locals := 0 }) (ja_Pw (dC, dI) vwCl (ja_wX h a1 a2 a3 a4 cA sv js jv jd cc oc sd jn fb fl cr) [(cA, .int)] sz [.ref h, .int x, .int y]) (va_Qv (fun u : ja_SX => u = (sv, upd js (cc + oc) x, upd jv (cc + oc) y, upd jd (cc + oc) jn, cc, oc + 1, sd, jn, fb, fl, cr)) (ja_B (dC, dI) vwCl (va_A (ja_wX h a1 a2 a3 a4 cA sv js jv jd cc oc sd jn fb fl cr) sz) (ja_uX h a1 a2 a3 a4 cA)) (va_A (ja_wX h a1 a2 a3 a4 cA sv js jv jd cc oc sd jn fb fl cr) sz)) 0 0 (va_A (ja_wX h a1 a2 a3 a4 cA sv js jv jd cc oc sd jn fb fl cr) sz) := by
  refine Met.ofW (cc := cX0_appendChange) (maxL := 4) (ret := none) (by decide) rfl ?_
  intro p e s m args below meth c s₁ B hml hv
  obtain ⟨rfl, hsz, hP, hK, hD0⟩ := hv
  have hx := B.exec
  have hb := B.bytes
  have hr := B.returns
  have hts := atoms_spec (ws := wsX0_appendChange) B.pre
  have hown : s.vm.findClass RX0 = some m.cls := findClass_of_methodNamed B.named
  have hlocks := B.notSynchronized
  have hin : ∀ w ∈ u_ws RX0 TX0 11, w ∈ wsX0_appendChange := by decide +kernel
  have fk13 := hts (.fieldLink RX0 13 "JournalShelf" "journalSlot" "[I") (by decide +kernel)
  have fk16 := hts (.fieldLink RX0 16 "JournalShelf" "journalValue" "[I") (by decide +kernel)
  have fk19 := hts (.fieldLink RX0 19 "JournalShelf" "journalDeed" "[I") (by decide +kernel)
  have fk26 := hts (.fieldLink RX0 26 "JournalShelf" "openChanges" "I") (by decide +kernel)
  have fk30 := hts (.fieldLink RX0 30 "JournalShelf" "committedChanges" "I") (by decide +kernel)
  have fk40 := hts (.fieldLink RX0 40 "JournalShelf" "journalDeeds" "I") (by decide +kernel)
  subst hsz
  have hD := hD0.self (sz := s.heap.size)
  generalize hAe : va_A (ja_wX h a1 a2 a3 a4 cA sv js jv jd cc oc sd jn fb fl cr) s.heap.size = A at hD ⊢
  have hA : ∀ q : Nat, s.heap.size ≤ q → A q := fun q h => by rw [← hAe]; exact Or.inr h
  refine ja_st0 s.heap [] hP (va_S.rf (A := A)) (fun H locs hP hS => ?_)
  have hl := lv_entry ([.ref h, .int x, .int y]) (n := 4) (Nat.le_of_ble_eq_true rfl)
  rw [lg_entry_eq]
  generalize (lg_sl ([.ref h, .int x, .int y]) ++ List.replicate (4 - (lg_sl ([.ref h, .int x, .int y])).length) Slot.unset).toArray = ls at hl ⊢
  have hl : lv_has ls 4 [(0, .ref h), (1, .int x), (2, .int y)] := hl
  refine lv_aload_n hx hb dX0_appendChange_0 rfl (lv_at hl 0 rfl) ?_
  refine va_get (D := (dC, dI)) (ci := 0) (v := .int (nI cc)) (C := RX0) (T := TX0) (N := 11) hx hb hts hin hown hK hP 0 rfl rfl 4 (by decide) fk30 (fun _ h9 => h9) rfl dX0_appendChange_1 ?_
  refine lv_aload_n hx hb dX0_appendChange_4 rfl (lv_at hl 0 rfl) ?_
  refine va_get (D := (dC, dI)) (ci := 0) (v := .int (nI oc)) (C := RX0) (T := TX0) (N := 11) hx hb hts hin hown hK hP 0 rfl rfl 5 (by decide) fk26 (fun _ h9 => h9) rfl dX0_appendChange_5 ?_
  refine lv_iadd hx hb dX0_appendChange_8 ?_
  refine ja_top (y := nI (cc + oc)) (nI_add _ _) ?_
  refine lv_istore_n (lv' := [(3, .int (nI (cc + oc))), (0, .ref h), (1, .int x), (2, .int y)]) hx hb dX0_appendChange_9 rfl hl (by decide) rfl (fun ls hl => ?_)
  refine lv_iload_n hx hb dX0_appendChange_10 rfl (lv_at hl 0 rfl) ?_
  refine lv_bipush (v := nI 24) hx hb dX0_appendChange_11 (by decide +kernel) ?_
  refine ja_ilt hx hb dX0_appendChange_13 (tgt := 17) (by decide) (by omega) (by omega) (fun h13 => ?_) (fun h13 => ?_)
  · refine lv_aload_n hx hb dX0_appendChange_17 rfl (lv_at hl 1 rfl) ?_
    refine va_get (D := (dC, dI)) (ci := 0) (v := .ref a2) (C := RX0) (T := TX0) (N := 11) hx hb hts hin hown hK hP 0 rfl rfl 1 (by decide) fk13 (fun _ h9 => h9) rfl dX0_appendChange_18 ?_
    refine lv_iload_n hx hb dX0_appendChange_21 rfl (lv_at hl 0 rfl) ?_
    refine lv_iload_n hx hb dX0_appendChange_22 rfl (lv_at hl 2 rfl) ?_
    refine ja_ast hx hb hK hP hD hS 2 0 rfl rfl (by omega) (by decide) dX0_appendChange_23 (fun H locs hP hD hS => ?_)
    have hP : va_P (dC, dI) vwCl (ja_wX h a1 a2 a3 a4 cA sv (upd js (cc + oc) x) jv jd cc oc sd jn fb fl cr) H := hP
    have hD : va_D A (ja_wX h a1 a2 a3 a4 cA sv (upd js (cc + oc) x) jv jd cc oc sd jn fb fl cr) := hD
    refine lv_aload_n hx hb dX0_appendChange_24 rfl (lv_at hl 1 rfl) ?_
    refine va_get (D := (dC, dI)) (ci := 0) (v := .ref a3) (C := RX0) (T := TX0) (N := 11) hx hb hts hin hown hK hP 0 rfl rfl 2 (by decide) fk16 (fun _ h9 => h9) rfl dX0_appendChange_25 ?_
    refine lv_iload_n hx hb dX0_appendChange_28 rfl (lv_at hl 0 rfl) ?_
    refine lv_iload_n hx hb dX0_appendChange_29 rfl (lv_at hl 3 rfl) ?_
    refine ja_ast hx hb hK hP hD hS 3 0 rfl rfl (by omega) (by decide) dX0_appendChange_30 (fun H locs hP hD hS => ?_)
    have hP : va_P (dC, dI) vwCl (ja_wX h a1 a2 a3 a4 cA sv (upd js (cc + oc) x) (upd jv (cc + oc) y) jd cc oc sd jn fb fl cr) H := hP
    have hD : va_D A (ja_wX h a1 a2 a3 a4 cA sv (upd js (cc + oc) x) (upd jv (cc + oc) y) jd cc oc sd jn fb fl cr) := hD
    refine lv_aload_n hx hb dX0_appendChange_31 rfl (lv_at hl 1 rfl) ?_
    refine va_get (D := (dC, dI)) (ci := 0) (v := .ref a4) (C := RX0) (T := TX0) (N := 11) hx hb hts hin hown hK hP 0 rfl rfl 3 (by decide) fk19 (fun _ h9 => h9) rfl dX0_appendChange_32 ?_
    refine lv_iload_n hx hb dX0_appendChange_35 rfl (lv_at hl 0 rfl) ?_
    refine lv_aload_n hx hb dX0_appendChange_36 rfl (lv_at hl 1 rfl) ?_
    refine va_get (D := (dC, dI)) (ci := 0) (v := .int jn) (C := RX0) (T := TX0) (N := 11) hx hb hts hin hown hK hP 0 rfl rfl 7 (by decide) fk40 (fun _ h9 => h9) rfl dX0_appendChange_37 ?_
    refine ja_ast hx hb hK hP hD hS 4 0 rfl rfl (by omega) (by decide) dX0_appendChange_40 (fun H locs hP hD hS => ?_)
    have hP : va_P (dC, dI) vwCl (ja_wX h a1 a2 a3 a4 cA sv (upd js (cc + oc) x) (upd jv (cc + oc) y) (upd jd (cc + oc) jn) cc oc sd jn fb fl cr) H := hP
    have hD : va_D A (ja_wX h a1 a2 a3 a4 cA sv (upd js (cc + oc) x) (upd jv (cc + oc) y) (upd jd (cc + oc) jn) cc oc sd jn fb fl cr) := hD
    refine lv_aload_n hx hb dX0_appendChange_41 rfl (lv_at hl 1 rfl) ?_
    refine lv_dup hx hb dX0_appendChange_42 rfl ?_
    refine va_get (D := (dC, dI)) (ci := 0) (v := .int (nI oc)) (C := RX0) (T := TX0) (N := 11) hx hb hts hin hown hK hP 0 rfl rfl 5 (by decide) fk26 (fun _ h9 => h9) rfl dX0_appendChange_43 ?_
    refine lv_iconst (v := nI 1) hx hb dX0_appendChange_46 (by decide +kernel) ?_
    refine lv_iadd hx hb dX0_appendChange_47 ?_
    refine ja_top (y := nI (oc + 1)) (nI_add _ _) ?_
    refine va_put (D := (dC, dI)) (ci := 0) (v := .int (nI (oc + 1))) (ty := .int) (C := RX0) (T := TX0) (N := 11) hx hb hts hin tyX0 tyX0_ok nmX0 hown hK hP hD hS 0 rfl rfl 5 (by decide) fk26 (fun _ h9 => h9) rfl (by decide +kernel) rfl rfl (Nat.le_of_ble_eq_true rfl) dX0_appendChange_48 (fun H locs hP hD hS => ?_)
    have hP : va_P (dC, dI) vwCl (ja_wX h a1 a2 a3 a4 cA sv (upd js (cc + oc) x) (upd jv (cc + oc) y) (upd jd (cc + oc) jn) cc (oc + 1) sd jn fb fl cr) H := hP
    have hD : va_D A (ja_wX h a1 a2 a3 a4 cA sv (upd js (cc + oc) x) (upd jv (cc + oc) y) (upd jd (cc + oc) jn) cc (oc + 1) sd jn fb fl cr) := hD
    exact W.vret hx hb hr (fun t ht hW => ⟨⟨(sv, (upd js (cc + oc) x), (upd jv (cc + oc) y), (upd jd (cc + oc) jn), cc, (oc + 1), sd, jn, fb, fl, cr), rfl, rfl, by rw [ht]; exact hP, hD⟩, hS.F ht⟩) hS.2.2 dX0_appendChange_51
  · exact absurd h13 (by omega)
set_option maxHeartbeats 1000000 in
set_option maxRecDepth 100000 in
/-- change -/
theorem cX_change (l : Launch) (dC : Nat → ClassId) (dI : Nat → Nat → Nat) (h a1 a2 a3 a4 : Nat) (cA : ClassId) (sz : Nat) (sv js jv jd : Nat → Int32) (cc : Nat) (oc : Nat) (sd : Int32) (jn : Int32) (fb : Int32) (fl : Int32) (cr : Int32) (x y : Int32) (hcc : cc ≤ 24) (hoc : oc ≤ 17) (hco : oc = 0 ∨ cc ≤ 7) (hjs : ∀ i, i < cc → vp_in (js i) 212) : Met l yX0_change wsX0_change ({ frames := 3, cells := 0, slots := 0, locals := 65 }) (ja_Pw (dC, dI) vwCl (ja_wX h a1 a2 a3 a4 cA sv js jv jd cc oc sd jn fb fl cr) [(cA, .int)] sz [.ref h, .int x, .int y]) (va_Qi (fun (r : Int32) (u : ja_SX) => (¬ vp_in x 212 ∧ r = -1 ∧ u = (sv, js, jv, jd, cc, oc, sd, jn, fb, fl, cr)) ∨ (vp_in x 212 ∧ oc = 17 ∧ r = -2 ∧ u = (sv, js, jv, jd, cc, oc, sd, jn, fb, fl, cr)) ∨ (vp_in x 212 ∧ oc < 17 ∧ ¬ (oc = 0 ∧ 7 < cc) ∧ r = nI (oc + 1) ∧ u = (sv, upd js (cc + oc) x, upd jv (cc + oc) y, upd jd (cc + oc) jn, cc, oc + 1, sd, jn, fb, fl, cr)) ∨ (vp_in x 212 ∧ oc = 0 ∧ 7 < cc ∧ r = nI 1 ∧ ∃ n, ja_run jd cc jn n ∧ u = (ja_ap js jv sv n, upd js 0 x, upd jv 0 y, upd jd 0 (nI 0), 0, 1, sd + jn, nI 0, nI (ja_ct (ja_ls js cc) cc), fl + nI 1, cr))) (ja_B (dC, dI) vwCl (va_A (ja_wX h a1 a2 a3 a4 cA sv js jv jd cc oc sd jn fb fl cr) sz) (ja_uX h a1 a2 a3 a4 cA)) (va_A (ja_wX h a1 a2 a3 a4 cA sv js jv jd cc oc sd jn fb fl cr) sz)) 0 0 (va_A (ja_wX h a1 a2 a3 a4 cA sv js jv jd cc oc sd jn fb fl cr) sz) := by
  refine Met.ofW (cc := cX0_change) (maxL := 3) (ret := (some .int)) (by decide) rfl ?_
  intro p e s m args below meth c s₁ B hml hv
  obtain ⟨rfl, hsz, hP, hK, hD0⟩ := hv
  have hx := B.exec
  have hb := B.bytes
  have hr := B.returns
  have hts := atoms_spec (ws := wsX0_change) B.pre
  have hown : s.vm.findClass RX0 = some m.cls := findClass_of_methodNamed B.named
  have hlocks := B.notSynchronized
  have hin : ∀ w ∈ u_ws RX0 TX0 11, w ∈ wsX0_change := by decide +kernel
  have fk26 := hts (.fieldLink RX0 26 "JournalShelf" "openChanges" "I") (by decide +kernel)
  have fk30 := hts (.fieldLink RX0 30 "JournalShelf" "committedChanges" "I") (by decide +kernel)
  subst hsz
  have hD := hD0.self (sz := s.heap.size)
  generalize hAe : va_A (ja_wX h a1 a2 a3 a4 cA sv js jv jd cc oc sd jn fb fl cr) s.heap.size = A at hD ⊢
  have hA : ∀ q : Nat, s.heap.size ≤ q → A q := fun q h => by rw [← hAe]; exact Or.inr h
  refine ja_st0 s.heap [] hP (va_S.rf (A := A)) (fun H locs hP hS => ?_)
  have hl := lv_entry ([.ref h, .int x, .int y]) (n := 3) (Nat.le_of_ble_eq_true rfl)
  rw [lg_entry_eq]
  generalize (lg_sl ([.ref h, .int x, .int y]) ++ List.replicate (3 - (lg_sl ([.ref h, .int x, .int y])).length) Slot.unset).toArray = ls at hl ⊢
  have hl : lv_has ls 3 [(0, .ref h), (1, .int x), (2, .int y)] := hl
  refine lv_iload_n hx hb dX0_change_0 rfl (lv_at hl 1 rfl) ?_
  refine ja_cS (As := [.int x]) (rest := []) ⟨hx, hb, hml, hown, hts⟩ (cX_isSlot l x) (va_cwS 1 hts gX0_change_X0_isSlot rfl rfl rfl (by decide +kernel) ⟨Nat.le_of_ble_eq_true rfl, Nat.le_of_ble_eq_true rfl⟩) rfl hl.1 rfl (Nat.le_of_ble_eq_true rfl) dX0_change_1 ⟨Nat.zero_le _, Nat.zero_le _⟩ (fun r1 hr1 => ?_)
  refine lv_if_ne hx hb dX0_change_4 (tgt := 9) (by decide) (fun h4 => ?_) (fun h4 => ?_)
  · have hsl : vp_in x 212 := Or.elim hr1 (fun q => q.2) (fun q => absurd (q.1.trans nI_0) h4)
    refine lv_aload_n hx hb dX0_change_9 rfl (lv_at hl 0 rfl) ?_
    refine va_get (D := (dC, dI)) (ci := 0) (v := .int (nI oc)) (C := RX0) (T := TX0) (N := 11) hx hb hts hin hown hK hP 0 rfl rfl 5 (by decide) fk26 (fun _ h9 => h9) rfl dX0_change_10 ?_
    refine lv_bipush (v := nI 17) hx hb dX0_change_13 (by decide +kernel) ?_
    refine ja_ilt hx hb dX0_change_15 (tgt := 21) (by decide) (by omega) (by omega) (fun h15 => ?_) (fun h15 => ?_)
    · refine lv_aload_n hx hb dX0_change_21 rfl (lv_at hl 0 rfl) ?_
      refine va_get (D := (dC, dI)) (ci := 0) (v := .int (nI oc)) (C := RX0) (T := TX0) (N := 11) hx hb hts hin hown hK hP 0 rfl rfl 5 (by decide) fk26 (fun _ h9 => h9) rfl dX0_change_22 ?_
      refine ja_zne hx hb dX0_change_25 (tgt := 41) (by decide) (by omega) (fun h25 => ?_) (fun h25 => ?_)
      · refine lv_aload_n hx hb dX0_change_41 rfl (lv_at hl 0 rfl) ?_
        refine lv_iload_n hx hb dX0_change_42 rfl (lv_at hl 1 rfl) ?_
        refine lv_iload_n hx hb dX0_change_43 rfl (lv_at hl 2 rfl) ?_
        refine ja_cV (wr := []) (As := [.int x, .int y]) (rest := []) ⟨hx, hb, hml, hown, hts⟩ (cX_appendChange l dC dI h a1 a2 a3 a4 cA H.size sv js jv jd cc oc sd jn fb fl cr x y (by omega)) (cwV 2 hts gX0_change_X0_appendChange rfl rfl rfl (by decide +kernel) ⟨Nat.le_of_ble_eq_true rfl, Nat.le_of_ble_eq_true rfl⟩) hK hP hP hD hS hA [0, 1, 2, 3, 4] [] rfl rfl (by decide) (by decide) (by decide) (ja_rcv (ci := 0) (q0 := 0) hK hP rfl rfl rfl) rfl hl.1 rfl (Nat.le_of_ble_eq_true rfl) dX0_change_44 ⟨Nat.zero_le _, Nat.zero_le _⟩ (fun u H locs hu hP hD hS => ?_)
        obtain rfl := hu
        have hP : va_P (dC, dI) vwCl (ja_wX h a1 a2 a3 a4 cA sv (upd js (cc + oc) x) (upd jv (cc + oc) y) (upd jd (cc + oc) jn) cc (oc + 1) sd jn fb fl cr) H := hP
        have hD : va_D A (ja_wX h a1 a2 a3 a4 cA sv (upd js (cc + oc) x) (upd jv (cc + oc) y) (upd jd (cc + oc) jn) cc (oc + 1) sd jn fb fl cr) := hD
        refine lv_aload_n hx hb dX0_change_47 rfl (lv_at hl 0 rfl) ?_
        refine va_get (D := (dC, dI)) (ci := 0) (v := .int (nI (oc + 1))) (C := RX0) (T := TX0) (N := 11) hx hb hts hin hown hK hP 0 rfl rfl 5 (by decide) fk26 (fun _ h9 => h9) rfl dX0_change_48 ?_
        exact W.iret (v := nI (oc + 1)) hx hb hr (fun t ht hW => ⟨⟨nI (oc + 1), (sv, (upd js (cc + oc) x), (upd jv (cc + oc) y), (upd jd (cc + oc) jn), cc, (oc + 1), sd, jn, fb, fl, cr), rfl, Or.inr (Or.inr (Or.inl ⟨hsl, by omega, by omega, rfl, rfl⟩)), by rw [ht]; exact hP, hD⟩, hS.F ht⟩) hS.2.2 dX0_change_51
      · have h_oc := h25
        refine lv_aload_n hx hb dX0_change_28 rfl (lv_at hl 0 rfl) ?_
        refine va_get (D := (dC, dI)) (ci := 0) (v := .int (nI cc)) (C := RX0) (T := TX0) (N := 11) hx hb hts hin hown hK hP 0 rfl rfl 4 (by decide) fk30 (fun _ h9 => h9) rfl dX0_change_29 ?_
        refine lv_bipush (v := nI 7) hx hb dX0_change_32 (by decide +kernel) ?_
        refine ja_ile hx hb dX0_change_34 (tgt := 41) (by decide) (by omega) (by omega) (fun h34 => ?_) (fun h34 => ?_)
        · refine lv_aload_n hx hb dX0_change_41 rfl (lv_at hl 0 rfl) ?_
          refine lv_iload_n hx hb dX0_change_42 rfl (lv_at hl 1 rfl) ?_
          refine lv_iload_n hx hb dX0_change_43 rfl (lv_at hl 2 rfl) ?_
          refine ja_cV (wr := []) (As := [.int x, .int y]) (rest := []) ⟨hx, hb, hml, hown, hts⟩ (cX_appendChange l dC dI h a1 a2 a3 a4 cA H.size sv js jv jd cc oc sd jn fb fl cr x y (by omega)) (cwV 2 hts gX0_change_X0_appendChange rfl rfl rfl (by decide +kernel) ⟨Nat.le_of_ble_eq_true rfl, Nat.le_of_ble_eq_true rfl⟩) hK hP hP hD hS hA [0, 1, 2, 3, 4] [] rfl rfl (by decide) (by decide) (by decide) (ja_rcv (ci := 0) (q0 := 0) hK hP rfl rfl rfl) rfl hl.1 rfl (Nat.le_of_ble_eq_true rfl) dX0_change_44 ⟨Nat.zero_le _, Nat.zero_le _⟩ (fun u H locs hu hP hD hS => ?_)
          obtain rfl := hu
          have hP : va_P (dC, dI) vwCl (ja_wX h a1 a2 a3 a4 cA sv (upd js (cc + oc) x) (upd jv (cc + oc) y) (upd jd (cc + oc) jn) cc (oc + 1) sd jn fb fl cr) H := hP
          have hD : va_D A (ja_wX h a1 a2 a3 a4 cA sv (upd js (cc + oc) x) (upd jv (cc + oc) y) (upd jd (cc + oc) jn) cc (oc + 1) sd jn fb fl cr) := hD
          refine lv_aload_n hx hb dX0_change_47 rfl (lv_at hl 0 rfl) ?_
          refine va_get (D := (dC, dI)) (ci := 0) (v := .int (nI (oc + 1))) (C := RX0) (T := TX0) (N := 11) hx hb hts hin hown hK hP 0 rfl rfl 5 (by decide) fk26 (fun _ h9 => h9) rfl dX0_change_48 ?_
          exact W.iret (v := nI (oc + 1)) hx hb hr (fun t ht hW => ⟨⟨nI (oc + 1), (sv, (upd js (cc + oc) x), (upd jv (cc + oc) y), (upd jd (cc + oc) jn), cc, (oc + 1), sd, jn, fb, fl, cr), rfl, Or.inr (Or.inr (Or.inl ⟨hsl, by omega, by omega, rfl, rfl⟩)), by rw [ht]; exact hP, hD⟩, hS.F ht⟩) hS.2.2 dX0_change_51
        · have h_cc := h34
          refine lv_aload_n hx hb dX0_change_37 rfl (lv_at hl 0 rfl) ?_
          refine ja_cV (wr := []) (As := []) (rest := []) ⟨hx, hb, hml, hown, hts⟩ (cX_flushDisk l dC dI h a1 a2 a3 a4 cA H.size sv js jv jd cc oc sd jn fb fl cr  hcc hjs) (cwV 0 hts gX0_change_X0_flushDisk rfl rfl rfl (by decide +kernel) ⟨Nat.le_of_ble_eq_true rfl, Nat.le_of_ble_eq_true rfl⟩) hK hP hP hD hS hA [0, 1, 2, 3, 4] [] rfl rfl (by decide) (by decide) (by decide) (ja_rcv (ci := 0) (q0 := 0) hK hP rfl rfl rfl) rfl hl.1 rfl (Nat.le_of_ble_eq_true rfl) dX0_change_38 ⟨Nat.zero_le _, Nat.zero_le _⟩ (fun u H locs hu hP hD hS => ?_)
          obtain ⟨n, hn, rfl⟩ := hu
          have hP : va_P (dC, dI) vwCl (ja_wX h a1 a2 a3 a4 cA (ja_ap js jv sv n) js jv jd 0 0 (sd + jn) (nI 0) (nI (ja_ct (ja_ls js cc) cc)) (fl + nI 1) cr) H := hP
          have hD : va_D A (ja_wX h a1 a2 a3 a4 cA (ja_ap js jv sv n) js jv jd 0 0 (sd + jn) (nI 0) (nI (ja_ct (ja_ls js cc) cc)) (fl + nI 1) cr) := hD
          refine lv_aload_n hx hb dX0_change_41 rfl (lv_at hl 0 rfl) ?_
          refine lv_iload_n hx hb dX0_change_42 rfl (lv_at hl 1 rfl) ?_
          refine lv_iload_n hx hb dX0_change_43 rfl (lv_at hl 2 rfl) ?_
          refine ja_cV (wr := []) (As := [.int x, .int y]) (rest := []) ⟨hx, hb, hml, hown, hts⟩ (cX_appendChange l dC dI h a1 a2 a3 a4 cA H.size (ja_ap js jv sv n) js jv jd 0 0 (sd + jn) (nI 0) (nI (ja_ct (ja_ls js cc) cc)) (fl + nI 1) cr x y (by omega)) (cwV 2 hts gX0_change_X0_appendChange rfl rfl rfl (by decide +kernel) ⟨Nat.le_of_ble_eq_true rfl, Nat.le_of_ble_eq_true rfl⟩) hK hP hP hD hS hA [0, 1, 2, 3, 4] [] rfl rfl (by decide) (by decide) (by decide) (ja_rcv (ci := 0) (q0 := 0) hK hP rfl rfl rfl) rfl hl.1 rfl (Nat.le_of_ble_eq_true rfl) dX0_change_44 ⟨Nat.zero_le _, Nat.zero_le _⟩ (fun u H locs hu hP hD hS => ?_)
          obtain rfl := hu
          have hP : va_P (dC, dI) vwCl (ja_wX h a1 a2 a3 a4 cA (ja_ap js jv sv n) (upd js (0 + 0) x) (upd jv (0 + 0) y) (upd jd (0 + 0) (nI 0)) 0 (0 + 1) (sd + jn) (nI 0) (nI (ja_ct (ja_ls js cc) cc)) (fl + nI 1) cr) H := hP
          have hD : va_D A (ja_wX h a1 a2 a3 a4 cA (ja_ap js jv sv n) (upd js (0 + 0) x) (upd jv (0 + 0) y) (upd jd (0 + 0) (nI 0)) 0 (0 + 1) (sd + jn) (nI 0) (nI (ja_ct (ja_ls js cc) cc)) (fl + nI 1) cr) := hD
          refine lv_aload_n hx hb dX0_change_47 rfl (lv_at hl 0 rfl) ?_
          refine va_get (D := (dC, dI)) (ci := 0) (v := .int (nI (0 + 1))) (C := RX0) (T := TX0) (N := 11) hx hb hts hin hown hK hP 0 rfl rfl 5 (by decide) fk26 (fun _ h9 => h9) rfl dX0_change_48 ?_
          exact W.iret (v := nI (0 + 1)) hx hb hr (fun t ht hW => ⟨⟨nI (0 + 1), ((ja_ap js jv sv n), (upd js (0 + 0) x), (upd jv (0 + 0) y), (upd jd (0 + 0) (nI 0)), 0, (0 + 1), (sd + jn), nI 0, (nI (ja_ct (ja_ls js cc) cc)), (fl + nI 1), cr), rfl, Or.inr (Or.inr (Or.inr ⟨hsl, h_oc, h_cc, rfl, n, hn, rfl⟩)), by rw [ht]; exact hP, hD⟩, hS.F ht⟩) hS.2.2 dX0_change_51
    · refine lv_bipush (v := (-2)) hx hb dX0_change_18 (by decide +kernel) ?_
      exact W.iret (v := (-2)) hx hb hr (fun t ht hW => ⟨⟨(-2), (sv, js, jv, jd, cc, oc, sd, jn, fb, fl, cr), rfl, Or.inr (Or.inl ⟨hsl, by omega, rfl, rfl⟩), by rw [ht]; exact hP, hD⟩, hS.F ht⟩) hS.2.2 dX0_change_20
  · refine lv_iconst (v := (-1)) hx hb dX0_change_7 (by decide +kernel) ?_
    exact W.iret (v := (-1)) hx hb hr (fun t ht hW => ⟨⟨(-1), (sv, js, jv, jd, cc, oc, sd, jn, fb, fl, cr), rfl, Or.inl ⟨Or.elim hr1 (fun q => absurd (q.1.symm.trans h4) ja_n10) (fun q => q.2), rfl, rfl⟩, by rw [ht]; exact hP, hD⟩, hS.F ht⟩) hS.2.2 dX0_change_8
set_option maxHeartbeats 1000000 in
set_option maxRecDepth 100000 in
/-- commit -/
theorem cX_commit (l : Launch) (dC : Nat → ClassId) (dI : Nat → Nat → Nat) (h a1 a2 a3 a4 : Nat) (cA : ClassId) (sz : Nat) (sv js jv jd : Nat → Int32) (cc : Nat) (oc : Nat) (sd : Int32) (jn : Int32) (fb : Int32) (fl : Int32) (cr : Int32)  (hcc : cc ≤ 24) (hoc : oc ≤ 17) : Met l yX0_commit wsX0_commit ({ frames := 0, cells := 0, slots := 0, locals := 0 }) (ja_Pw (dC, dI) vwCl (ja_wX h a1 a2 a3 a4 cA sv js jv jd cc oc sd jn fb fl cr) [(cA, .int)] sz [.ref h]) (va_Qi (fun (r : Int32) (u : ja_SX) => (oc = 0 ∧ r = -1 ∧ u = (sv, js, jv, jd, cc, oc, sd, jn, fb, fl, cr)) ∨ (oc ≠ 0 ∧ r = nI oc ∧ u = (sv, js, jv, jd, cc + oc, 0, sd, jn + nI 1, fb, fl, cr))) (ja_B (dC, dI) vwCl (va_A (ja_wX h a1 a2 a3 a4 cA sv js jv jd cc oc sd jn fb fl cr) sz) (ja_uX h a1 a2 a3 a4 cA)) (va_A (ja_wX h a1 a2 a3 a4 cA sv js jv jd cc oc sd jn fb fl cr) sz)) 0 0 (va_A (ja_wX h a1 a2 a3 a4 cA sv js jv jd cc oc sd jn fb fl cr) sz) := by
  refine Met.ofW (cc := cX0_commit) (maxL := 2) (ret := (some .int)) (by decide) rfl ?_
  intro p e s m args below meth c s₁ B hml hv
  obtain ⟨rfl, hsz, hP, hK, hD0⟩ := hv
  have hx := B.exec
  have hb := B.bytes
  have hr := B.returns
  have hts := atoms_spec (ws := wsX0_commit) B.pre
  have hown : s.vm.findClass RX0 = some m.cls := findClass_of_methodNamed B.named
  have hlocks := B.notSynchronized
  have hin : ∀ w ∈ u_ws RX0 TX0 11, w ∈ wsX0_commit := by decide +kernel
  have fk26 := hts (.fieldLink RX0 26 "JournalShelf" "openChanges" "I") (by decide +kernel)
  have fk30 := hts (.fieldLink RX0 30 "JournalShelf" "committedChanges" "I") (by decide +kernel)
  have fk40 := hts (.fieldLink RX0 40 "JournalShelf" "journalDeeds" "I") (by decide +kernel)
  subst hsz
  have hD := hD0.self (sz := s.heap.size)
  generalize hAe : va_A (ja_wX h a1 a2 a3 a4 cA sv js jv jd cc oc sd jn fb fl cr) s.heap.size = A at hD ⊢
  have hA : ∀ q : Nat, s.heap.size ≤ q → A q := fun q h => by rw [← hAe]; exact Or.inr h
  refine ja_st0 s.heap [] hP (va_S.rf (A := A)) (fun H locs hP hS => ?_)
  have hl := lv_entry ([.ref h]) (n := 2) (Nat.le_of_ble_eq_true rfl)
  rw [lg_entry_eq]
  generalize (lg_sl ([.ref h]) ++ List.replicate (2 - (lg_sl ([.ref h])).length) Slot.unset).toArray = ls at hl ⊢
  have hl : lv_has ls 2 [(0, .ref h)] := hl
  refine lv_aload_n hx hb dX0_commit_0 rfl (lv_at hl 0 rfl) ?_
  refine va_get (D := (dC, dI)) (ci := 0) (v := .int (nI oc)) (C := RX0) (T := TX0) (N := 11) hx hb hts hin hown hK hP 0 rfl rfl 5 (by decide) fk26 (fun _ h9 => h9) rfl dX0_commit_1 ?_
  refine ja_zne hx hb dX0_commit_4 (tgt := 9) (by decide) (by omega) (fun h4 => ?_) (fun h4 => ?_)
  · refine lv_aload_n hx hb dX0_commit_9 rfl (lv_at hl 0 rfl) ?_
    refine va_get (D := (dC, dI)) (ci := 0) (v := .int (nI oc)) (C := RX0) (T := TX0) (N := 11) hx hb hts hin hown hK hP 0 rfl rfl 5 (by decide) fk26 (fun _ h9 => h9) rfl dX0_commit_10 ?_
    refine lv_istore_n (lv' := [(1, .int (nI oc)), (0, .ref h)]) hx hb dX0_commit_13 rfl hl (by decide) rfl (fun ls hl => ?_)
    refine lv_aload_n hx hb dX0_commit_14 rfl (lv_at hl 1 rfl) ?_
    refine lv_dup hx hb dX0_commit_15 rfl ?_
    refine va_get (D := (dC, dI)) (ci := 0) (v := .int (nI cc)) (C := RX0) (T := TX0) (N := 11) hx hb hts hin hown hK hP 0 rfl rfl 4 (by decide) fk30 (fun _ h9 => h9) rfl dX0_commit_16 ?_
    refine lv_iload_n hx hb dX0_commit_19 rfl (lv_at hl 0 rfl) ?_
    refine lv_iadd hx hb dX0_commit_20 ?_
    refine ja_top (y := nI (cc + oc)) (nI_add _ _) ?_
    refine va_put (D := (dC, dI)) (ci := 0) (v := .int (nI (cc + oc))) (ty := .int) (C := RX0) (T := TX0) (N := 11) hx hb hts hin tyX0 tyX0_ok nmX0 hown hK hP hD hS 0 rfl rfl 4 (by decide) fk30 (fun _ h9 => h9) rfl (by decide +kernel) rfl rfl (Nat.le_of_ble_eq_true rfl) dX0_commit_21 (fun H locs hP hD hS => ?_)
    have hP : va_P (dC, dI) vwCl (ja_wX h a1 a2 a3 a4 cA sv js jv jd (cc + oc) oc sd jn fb fl cr) H := hP
    have hD : va_D A (ja_wX h a1 a2 a3 a4 cA sv js jv jd (cc + oc) oc sd jn fb fl cr) := hD
    refine lv_aload_n hx hb dX0_commit_24 rfl (lv_at hl 1 rfl) ?_
    refine lv_dup hx hb dX0_commit_25 rfl ?_
    refine va_get (D := (dC, dI)) (ci := 0) (v := .int jn) (C := RX0) (T := TX0) (N := 11) hx hb hts hin hown hK hP 0 rfl rfl 7 (by decide) fk40 (fun _ h9 => h9) rfl dX0_commit_26 ?_
    refine lv_iconst (v := nI 1) hx hb dX0_commit_29 (by decide +kernel) ?_
    refine lv_iadd hx hb dX0_commit_30 ?_
    refine va_put (D := (dC, dI)) (ci := 0) (v := .int (jn + nI 1)) (ty := .int) (C := RX0) (T := TX0) (N := 11) hx hb hts hin tyX0 tyX0_ok nmX0 hown hK hP hD hS 0 rfl rfl 7 (by decide) fk40 (fun _ h9 => h9) rfl (by decide +kernel) rfl rfl (Nat.le_of_ble_eq_true rfl) dX0_commit_31 (fun H locs hP hD hS => ?_)
    have hP : va_P (dC, dI) vwCl (ja_wX h a1 a2 a3 a4 cA sv js jv jd (cc + oc) oc sd (jn + nI 1) fb fl cr) H := hP
    have hD : va_D A (ja_wX h a1 a2 a3 a4 cA sv js jv jd (cc + oc) oc sd (jn + nI 1) fb fl cr) := hD
    refine lv_aload_n hx hb dX0_commit_34 rfl (lv_at hl 1 rfl) ?_
    refine lv_iconst (v := nI 0) hx hb dX0_commit_35 (by decide +kernel) ?_
    refine va_put (D := (dC, dI)) (ci := 0) (v := .int (nI 0)) (ty := .int) (C := RX0) (T := TX0) (N := 11) hx hb hts hin tyX0 tyX0_ok nmX0 hown hK hP hD hS 0 rfl rfl 5 (by decide) fk26 (fun _ h9 => h9) rfl (by decide +kernel) rfl rfl (Nat.le_of_ble_eq_true rfl) dX0_commit_36 (fun H locs hP hD hS => ?_)
    have hP : va_P (dC, dI) vwCl (ja_wX h a1 a2 a3 a4 cA sv js jv jd (cc + oc) 0 sd (jn + nI 1) fb fl cr) H := hP
    have hD : va_D A (ja_wX h a1 a2 a3 a4 cA sv js jv jd (cc + oc) 0 sd (jn + nI 1) fb fl cr) := hD
    refine lv_iload_n hx hb dX0_commit_39 rfl (lv_at hl 0 rfl) ?_
    exact W.iret (v := nI oc) hx hb hr (fun t ht hW => ⟨⟨nI oc, (sv, js, jv, jd, (cc + oc), 0, sd, (jn + nI 1), fb, fl, cr), rfl, Or.inr ⟨h4, rfl, rfl⟩, by rw [ht]; exact hP, hD⟩, hS.F ht⟩) hS.2.2 dX0_commit_40
  · refine lv_iconst (v := (-1)) hx hb dX0_commit_7 (by decide +kernel) ?_
    exact W.iret (v := (-1)) hx hb hr (fun t ht hW => ⟨⟨(-1), (sv, js, jv, jd, cc, oc, sd, jn, fb, fl, cr), rfl, Or.inl ⟨h4, rfl, rfl⟩, by rw [ht]; exact hP, hD⟩, hS.F ht⟩) hS.2.2 dX0_commit_8
set_option maxHeartbeats 1000000 in
set_option maxRecDepth 100000 in
/-- forget -/
theorem cX_forget (l : Launch) (dC : Nat → ClassId) (dI : Nat → Nat → Nat) (h a1 a2 a3 a4 : Nat) (cA : ClassId) (sz : Nat) (sv js jv jd : Nat → Int32) (cc : Nat) (oc : Nat) (sd : Int32) (jn : Int32) (fb : Int32) (fl : Int32) (cr : Int32)   : Met l yX0_forget wsX0_forget ({ frames := 0, cells := 0, slots := 0, locals := 0 }) (ja_Pw (dC, dI) vwCl (ja_wX h a1 a2 a3 a4 cA sv js jv jd cc oc sd jn fb fl cr) [(cA, .int)] sz [.ref h]) (va_Qi (fun (r : Int32) (u : ja_SX) => r = nI oc ∧ u = (sv, js, jv, jd, cc, 0, sd, jn, fb, fl, cr)) (ja_B (dC, dI) vwCl (va_A (ja_wX h a1 a2 a3 a4 cA sv js jv jd cc oc sd jn fb fl cr) sz) (ja_uX h a1 a2 a3 a4 cA)) (va_A (ja_wX h a1 a2 a3 a4 cA sv js jv jd cc oc sd jn fb fl cr) sz)) 0 0 (va_A (ja_wX h a1 a2 a3 a4 cA sv js jv jd cc oc sd jn fb fl cr) sz) := by
  refine Met.ofW (cc := cX0_forget) (maxL := 2) (ret := (some .int)) (by decide) rfl ?_
  intro p e s m args below meth c s₁ B hml hv
  obtain ⟨rfl, hsz, hP, hK, hD0⟩ := hv
  have hx := B.exec
  have hb := B.bytes
  have hr := B.returns
  have hts := atoms_spec (ws := wsX0_forget) B.pre
  have hown : s.vm.findClass RX0 = some m.cls := findClass_of_methodNamed B.named
  have hlocks := B.notSynchronized
  have hin : ∀ w ∈ u_ws RX0 TX0 11, w ∈ wsX0_forget := by decide +kernel
  have fk26 := hts (.fieldLink RX0 26 "JournalShelf" "openChanges" "I") (by decide +kernel)
  subst hsz
  have hD := hD0.self (sz := s.heap.size)
  generalize hAe : va_A (ja_wX h a1 a2 a3 a4 cA sv js jv jd cc oc sd jn fb fl cr) s.heap.size = A at hD ⊢
  have hA : ∀ q : Nat, s.heap.size ≤ q → A q := fun q h => by rw [← hAe]; exact Or.inr h
  refine ja_st0 s.heap [] hP (va_S.rf (A := A)) (fun H locs hP hS => ?_)
  have hl := lv_entry ([.ref h]) (n := 2) (Nat.le_of_ble_eq_true rfl)
  rw [lg_entry_eq]
  generalize (lg_sl ([.ref h]) ++ List.replicate (2 - (lg_sl ([.ref h])).length) Slot.unset).toArray = ls at hl ⊢
  have hl : lv_has ls 2 [(0, .ref h)] := hl
  refine lv_aload_n hx hb dX0_forget_0 rfl (lv_at hl 0 rfl) ?_
  refine va_get (D := (dC, dI)) (ci := 0) (v := .int (nI oc)) (C := RX0) (T := TX0) (N := 11) hx hb hts hin hown hK hP 0 rfl rfl 5 (by decide) fk26 (fun _ h9 => h9) rfl dX0_forget_1 ?_
  refine lv_istore_n (lv' := [(1, .int (nI oc)), (0, .ref h)]) hx hb dX0_forget_4 rfl hl (by decide) rfl (fun ls hl => ?_)
  refine lv_aload_n hx hb dX0_forget_5 rfl (lv_at hl 1 rfl) ?_
  refine lv_iconst (v := nI 0) hx hb dX0_forget_6 (by decide +kernel) ?_
  refine va_put (D := (dC, dI)) (ci := 0) (v := .int (nI 0)) (ty := .int) (C := RX0) (T := TX0) (N := 11) hx hb hts hin tyX0 tyX0_ok nmX0 hown hK hP hD hS 0 rfl rfl 5 (by decide) fk26 (fun _ h9 => h9) rfl (by decide +kernel) rfl rfl (Nat.le_of_ble_eq_true rfl) dX0_forget_7 (fun H locs hP hD hS => ?_)
  have hP : va_P (dC, dI) vwCl (ja_wX h a1 a2 a3 a4 cA sv js jv jd cc 0 sd jn fb fl cr) H := hP
  have hD : va_D A (ja_wX h a1 a2 a3 a4 cA sv js jv jd cc 0 sd jn fb fl cr) := hD
  refine lv_iload_n hx hb dX0_forget_10 rfl (lv_at hl 0 rfl) ?_
  exact W.iret (v := nI oc) hx hb hr (fun t ht hW => ⟨⟨nI oc, (sv, js, jv, jd, cc, 0, sd, jn, fb, fl, cr), rfl, ⟨rfl, rfl⟩, by rw [ht]; exact hP, hD⟩, hS.F ht⟩) hS.2.2 dX0_forget_11
set_option maxHeartbeats 1000000 in
set_option maxRecDepth 100000 in
/-- flush -/
theorem cX_flush (l : Launch) (dC : Nat → ClassId) (dI : Nat → Nat → Nat) (h a1 a2 a3 a4 : Nat) (cA : ClassId) (sz : Nat) (sv js jv jd : Nat → Int32) (cc : Nat) (oc : Nat) (sd : Int32) (jn : Int32) (fb : Int32) (fl : Int32) (cr : Int32)  (hcc : cc ≤ 24) (hjs : ∀ i, i < cc → vp_in (js i) 212) : Met l yX0_flush wsX0_flush ({ frames := 3, cells := 0, slots := 0, locals := 65 }) (ja_Pw (dC, dI) vwCl (ja_wX h a1 a2 a3 a4 cA sv js jv jd cc oc sd jn fb fl cr) [(cA, .int)] sz [.ref h]) (va_Qi (fun (r : Int32) (u : ja_SX) => r = jn ∧ ∃ n, ja_run jd cc jn n ∧ u = (ja_ap js jv sv n, js, jv, jd, 0, 0, sd + jn, nI 0, nI (ja_ct (ja_ls js cc) cc), fl + nI 1, cr)) (ja_B (dC, dI) vwCl (va_A (ja_wX h a1 a2 a3 a4 cA sv js jv jd cc oc sd jn fb fl cr) sz) (ja_uX h a1 a2 a3 a4 cA)) (va_A (ja_wX h a1 a2 a3 a4 cA sv js jv jd cc oc sd jn fb fl cr) sz)) 0 0 (va_A (ja_wX h a1 a2 a3 a4 cA sv js jv jd cc oc sd jn fb fl cr) sz) := by
  refine Met.ofW (cc := cX0_flush) (maxL := 2) (ret := (some .int)) (by decide) rfl ?_
  intro p e s m args below meth c s₁ B hml hv
  obtain ⟨rfl, hsz, hP, hK, hD0⟩ := hv
  have hx := B.exec
  have hb := B.bytes
  have hr := B.returns
  have hts := atoms_spec (ws := wsX0_flush) B.pre
  have hown : s.vm.findClass RX0 = some m.cls := findClass_of_methodNamed B.named
  have hlocks := B.notSynchronized
  have hin : ∀ w ∈ u_ws RX0 TX0 11, w ∈ wsX0_flush := by decide +kernel
  have fk40 := hts (.fieldLink RX0 40 "JournalShelf" "journalDeeds" "I") (by decide +kernel)
  subst hsz
  have hD := hD0.self (sz := s.heap.size)
  generalize hAe : va_A (ja_wX h a1 a2 a3 a4 cA sv js jv jd cc oc sd jn fb fl cr) s.heap.size = A at hD ⊢
  have hA : ∀ q : Nat, s.heap.size ≤ q → A q := fun q h => by rw [← hAe]; exact Or.inr h
  refine ja_st0 s.heap [] hP (va_S.rf (A := A)) (fun H locs hP hS => ?_)
  have hl := lv_entry ([.ref h]) (n := 2) (Nat.le_of_ble_eq_true rfl)
  rw [lg_entry_eq]
  generalize (lg_sl ([.ref h]) ++ List.replicate (2 - (lg_sl ([.ref h])).length) Slot.unset).toArray = ls at hl ⊢
  have hl : lv_has ls 2 [(0, .ref h)] := hl
  refine lv_aload_n hx hb dX0_flush_0 rfl (lv_at hl 0 rfl) ?_
  refine va_get (D := (dC, dI)) (ci := 0) (v := .int jn) (C := RX0) (T := TX0) (N := 11) hx hb hts hin hown hK hP 0 rfl rfl 7 (by decide) fk40 (fun _ h9 => h9) rfl dX0_flush_1 ?_
  refine lv_istore_n (lv' := [(1, .int jn), (0, .ref h)]) hx hb dX0_flush_4 rfl hl (by decide) rfl (fun ls hl => ?_)
  refine lv_aload_n hx hb dX0_flush_5 rfl (lv_at hl 1 rfl) ?_
  refine ja_cV (wr := []) (As := []) (rest := []) ⟨hx, hb, hml, hown, hts⟩ (cX_flushDisk l dC dI h a1 a2 a3 a4 cA H.size sv js jv jd cc oc sd jn fb fl cr  hcc hjs) (cwV 0 hts gX0_flush_X0_flushDisk rfl rfl rfl (by decide +kernel) ⟨Nat.le_of_ble_eq_true rfl, Nat.le_of_ble_eq_true rfl⟩) hK hP hP hD hS hA [0, 1, 2, 3, 4] [] rfl rfl (by decide) (by decide) (by decide) (ja_rcv (ci := 0) (q0 := 0) hK hP rfl rfl rfl) rfl hl.1 rfl (Nat.le_of_ble_eq_true rfl) dX0_flush_6 ⟨Nat.zero_le _, Nat.zero_le _⟩ (fun u H locs hu hP hD hS => ?_)
  obtain ⟨n, hn, rfl⟩ := hu
  have hP : va_P (dC, dI) vwCl (ja_wX h a1 a2 a3 a4 cA (ja_ap js jv sv n) js jv jd 0 0 (sd + jn) (nI 0) (nI (ja_ct (ja_ls js cc) cc)) (fl + nI 1) cr) H := hP
  have hD : va_D A (ja_wX h a1 a2 a3 a4 cA (ja_ap js jv sv n) js jv jd 0 0 (sd + jn) (nI 0) (nI (ja_ct (ja_ls js cc) cc)) (fl + nI 1) cr) := hD
  refine lv_iload_n hx hb dX0_flush_9 rfl (lv_at hl 0 rfl) ?_
  exact W.iret (v := jn) hx hb hr (fun t ht hW => ⟨⟨jn, ((ja_ap js jv sv n), js, jv, jd, 0, 0, (sd + jn), nI 0, (nI (ja_ct (ja_ls js cc) cc)), (fl + nI 1), cr), rfl, ⟨rfl, n, hn, rfl⟩, by rw [ht]; exact hP, hD⟩, hS.F ht⟩) hS.2.2 dX0_flush_10
set_option maxHeartbeats 1000000 in
set_option maxRecDepth 100000 in
/-- crash -/
theorem cX_crash (l : Launch) (dC : Nat → ClassId) (dI : Nat → Nat → Nat) (h a1 a2 a3 a4 : Nat) (cA : ClassId) (sz : Nat) (sv js jv jd : Nat → Int32) (cc : Nat) (oc : Nat) (sd : Int32) (jn : Int32) (fb : Int32) (fl : Int32) (cr : Int32) (mask part : Int32) (hcc : cc ≤ 24) (hjs : ∀ i, i < cc → vp_in (js i) 212) : Met l yX0_crash wsX0_crash ({ frames := 2, cells := 0, slots := 0, locals := 43 }) (ja_Pw (dC, dI) vwCl (ja_wX h a1 a2 a3 a4 cA sv js jv jd cc oc sd jn fb fl cr) [(cA, .int)] sz [.ref h, .int mask, .int part]) (va_Qi (fun (r : Int32) (u : ja_SX) => ((part < 0 ∨ nI 500 < part) ∧ r = -1 ∧ u = (sv, js, jv, jd, cc, oc, sd, jn, fb, fl, cr)) ∨ (¬ part < 0 ∧ ¬ nI 500 < part ∧ ∃ w n, ja_wd jd cc fb jn mask w ∧ ja_run jd cc w n ∧ r = jn - w ∧ u = (ja_ap js jv sv n, js, jv, jd, 0, 0, sd + w, nI 0, nI 0, fl, cr + nI 1))) (ja_B (dC, dI) vwCl (va_A (ja_wX h a1 a2 a3 a4 cA sv js jv jd cc oc sd jn fb fl cr) sz) (ja_uX h a1 a2 a3 a4 cA)) (va_A (ja_wX h a1 a2 a3 a4 cA sv js jv jd cc oc sd jn fb fl cr) sz)) 0 0 (va_A (ja_wX h a1 a2 a3 a4 cA sv js jv jd cc oc sd jn fb fl cr) sz) := by
  refine Met.ofW (cc := cX0_crash) (maxL := 5) (ret := (some .int)) (by decide) rfl ?_
  intro p e s m args below meth c s₁ B hml hv
  obtain ⟨rfl, hsz, hP, hK, hD0⟩ := hv
  have hx := B.exec
  have hb := B.bytes
  have hr := B.returns
  have hts := atoms_spec (ws := wsX0_crash) B.pre
  have hown : s.vm.findClass RX0 = some m.cls := findClass_of_methodNamed B.named
  have hlocks := B.notSynchronized
  have hin : ∀ w ∈ u_ws RX0 TX0 11, w ∈ wsX0_crash := by decide +kernel
  have fk40 := hts (.fieldLink RX0 40 "JournalShelf" "journalDeeds" "I") (by decide +kernel)
  have fk51 := hts (.fieldLink RX0 51 "JournalShelf" "flushBlocks" "I") (by decide +kernel)
  have fk54 := hts (.fieldLink RX0 54 "JournalShelf" "crashes" "I") (by decide +kernel)
  subst hsz
  have hD := hD0.self (sz := s.heap.size)
  generalize hAe : va_A (ja_wX h a1 a2 a3 a4 cA sv js jv jd cc oc sd jn fb fl cr) s.heap.size = A at hD ⊢
  have hA : ∀ q : Nat, s.heap.size ≤ q → A q := fun q h => by rw [← hAe]; exact Or.inr h
  refine ja_st0 s.heap [] hP (va_S.rf (A := A)) (fun H locs hP hS => ?_)
  have hl := lv_entry ([.ref h, .int mask, .int part]) (n := 5) (Nat.le_of_ble_eq_true rfl)
  rw [lg_entry_eq]
  generalize (lg_sl ([.ref h, .int mask, .int part]) ++ List.replicate (5 - (lg_sl ([.ref h, .int mask, .int part])).length) Slot.unset).toArray = ls at hl ⊢
  have hl : lv_has ls 5 [(0, .ref h), (1, .int mask), (2, .int part)] := hl
  refine lv_iload_n hx hb dX0_crash_0 rfl (lv_at hl 2 rfl) ?_
  refine lv_if_lt hx hb dX0_crash_1 (tgt := 11) (by decide) (fun h1 => ?_) (fun h1 => ?_)
  · refine lv_iconst (v := (-1)) hx hb dX0_crash_11 (by decide +kernel) ?_
    exact W.iret (v := (-1)) hx hb hr (fun t ht hW => ⟨⟨(-1), (sv, js, jv, jd, cc, oc, sd, jn, fb, fl, cr), rfl, Or.inl ⟨Or.inl h1, rfl, rfl⟩, by rw [ht]; exact hP, hD⟩, hS.F ht⟩) hS.2.2 dX0_crash_12
  · have hp0 := h1
    refine lv_iload_n hx hb dX0_crash_4 rfl (lv_at hl 2 rfl) ?_
    refine lv_sipush (v := nI 500) hx hb dX0_crash_5 (by decide +kernel) ?_
    refine lv_icmp_le hx hb dX0_crash_8 (tgt := 13) (by decide) (fun h8 => ?_) (fun h8 => ?_)
    · have hp1 := Int32.not_lt.mpr h8
      refine lv_aload_n hx hb dX0_crash_13 rfl (lv_at hl 0 rfl) ?_
      refine lv_iload_n hx hb dX0_crash_14 rfl (lv_at hl 1 rfl) ?_
      refine ja_cR (As := [.int mask]) (rest := []) ⟨hx, hb, hml, hown, hts⟩ (cX_wholeDeeds l dC dI h a1 a2 a3 a4 cA sv js jv jd cc oc sd jn fb fl cr mask hcc) (cwV 1 hts gX0_crash_X0_wholeDeeds rfl rfl rfl (by decide +kernel) ⟨Nat.le_of_ble_eq_true rfl, Nat.le_of_ble_eq_true rfl⟩) hK hP (ja_rcv (ci := 0) (q0 := 0) hK hP rfl rfl rfl) rfl hl.1 rfl (Nat.le_of_ble_eq_true rfl) dX0_crash_15 ⟨Nat.zero_le _, Nat.zero_le _⟩ (fun r15 hr15 => ?_)
      refine lv_istore_n (lv' := [(3, .int r15), (0, .ref h), (1, .int mask), (2, .int part)]) hx hb dX0_crash_18 rfl hl (by decide) rfl (fun ls hl => ?_)
      refine lv_aload_n hx hb dX0_crash_19 rfl (lv_at hl 1 rfl) ?_
      refine va_get (D := (dC, dI)) (ci := 0) (v := .int jn) (C := RX0) (T := TX0) (N := 11) hx hb hts hin hown hK hP 0 rfl rfl 7 (by decide) fk40 (fun _ h9 => h9) rfl dX0_crash_20 ?_
      refine lv_iload_n hx hb dX0_crash_23 rfl (lv_at hl 0 rfl) ?_
      refine lv_isub hx hb dX0_crash_24 ?_
      refine lv_istore (lv' := [(4, .int (jn - r15)), (3, .int r15), (0, .ref h), (1, .int mask), (2, .int part)]) hx hb dX0_crash_25 hl (by decide) rfl (fun ls hl => ?_)
      refine lv_aload_n hx hb dX0_crash_27 rfl (lv_at hl 2 rfl) ?_
      refine lv_iload_n hx hb dX0_crash_28 rfl (lv_at hl 1 rfl) ?_
      refine ja_cV (wr := []) (As := [.int r15]) (rest := []) ⟨hx, hb, hml, hown, hts⟩ (cX_makeSafe l dC dI h a1 a2 a3 a4 cA H.size sv js jv jd cc oc sd jn fb fl cr r15 hcc hjs) (cwV 1 hts gX0_crash_X0_makeSafe rfl rfl rfl (by decide +kernel) ⟨Nat.le_of_ble_eq_true rfl, Nat.le_of_ble_eq_true rfl⟩) hK hP hP hD hS hA [0, 1, 2, 3, 4] [] rfl rfl (by decide) (by decide) (by decide) (ja_rcv (ci := 0) (q0 := 0) hK hP rfl rfl rfl) rfl hl.1 rfl (Nat.le_of_ble_eq_true rfl) dX0_crash_29 ⟨Nat.zero_le _, Nat.zero_le _⟩ (fun u H locs hu hP hD hS => ?_)
      obtain ⟨n, hn, rfl⟩ := hu
      have hP : va_P (dC, dI) vwCl (ja_wX h a1 a2 a3 a4 cA (ja_ap js jv sv n) js jv jd 0 0 (sd + r15) (nI 0) fb fl cr) H := hP
      have hD : va_D A (ja_wX h a1 a2 a3 a4 cA (ja_ap js jv sv n) js jv jd 0 0 (sd + r15) (nI 0) fb fl cr) := hD
      refine lv_aload_n hx hb dX0_crash_32 rfl (lv_at hl 2 rfl) ?_
      refine lv_iconst (v := nI 0) hx hb dX0_crash_33 (by decide +kernel) ?_
      refine va_put (D := (dC, dI)) (ci := 0) (v := .int (nI 0)) (ty := .int) (C := RX0) (T := TX0) (N := 11) hx hb hts hin tyX0 tyX0_ok nmX0 hown hK hP hD hS 0 rfl rfl 8 (by decide) fk51 (fun _ h9 => h9) rfl (by decide +kernel) rfl rfl (Nat.le_of_ble_eq_true rfl) dX0_crash_34 (fun H locs hP hD hS => ?_)
      have hP : va_P (dC, dI) vwCl (ja_wX h a1 a2 a3 a4 cA (ja_ap js jv sv n) js jv jd 0 0 (sd + r15) (nI 0) (nI 0) fl cr) H := hP
      have hD : va_D A (ja_wX h a1 a2 a3 a4 cA (ja_ap js jv sv n) js jv jd 0 0 (sd + r15) (nI 0) (nI 0) fl cr) := hD
      refine lv_aload_n hx hb dX0_crash_37 rfl (lv_at hl 2 rfl) ?_
      refine lv_dup hx hb dX0_crash_38 rfl ?_
      refine va_get (D := (dC, dI)) (ci := 0) (v := .int cr) (C := RX0) (T := TX0) (N := 11) hx hb hts hin hown hK hP 0 rfl rfl 10 (by decide) fk54 (fun _ h9 => h9) rfl dX0_crash_39 ?_
      refine lv_iconst (v := nI 1) hx hb dX0_crash_42 (by decide +kernel) ?_
      refine lv_iadd hx hb dX0_crash_43 ?_
      refine va_put (D := (dC, dI)) (ci := 0) (v := .int (cr + nI 1)) (ty := .int) (C := RX0) (T := TX0) (N := 11) hx hb hts hin tyX0 tyX0_ok nmX0 hown hK hP hD hS 0 rfl rfl 10 (by decide) fk54 (fun _ h9 => h9) rfl (by decide +kernel) rfl rfl (Nat.le_of_ble_eq_true rfl) dX0_crash_44 (fun H locs hP hD hS => ?_)
      have hP : va_P (dC, dI) vwCl (ja_wX h a1 a2 a3 a4 cA (ja_ap js jv sv n) js jv jd 0 0 (sd + r15) (nI 0) (nI 0) fl (cr + nI 1)) H := hP
      have hD : va_D A (ja_wX h a1 a2 a3 a4 cA (ja_ap js jv sv n) js jv jd 0 0 (sd + r15) (nI 0) (nI 0) fl (cr + nI 1)) := hD
      refine lv_iload hx hb dX0_crash_47 (lv_at hl 0 rfl) ?_
      exact W.iret (v := (jn - r15)) hx hb hr (fun t ht hW => ⟨⟨(jn - r15), ((ja_ap js jv sv n), js, jv, jd, 0, 0, (sd + r15), nI 0, nI 0, fl, (cr + nI 1)), rfl, Or.inr ⟨hp0, hp1, r15, n, hr15, hn, rfl, rfl⟩, by rw [ht]; exact hP, hD⟩, hS.F ht⟩) hS.2.2 dX0_crash_49
    · refine lv_iconst (v := (-1)) hx hb dX0_crash_11 (by decide +kernel) ?_
      exact W.iret (v := (-1)) hx hb hr (fun t ht hW => ⟨⟨(-1), (sv, js, jv, jd, cc, oc, sd, jn, fb, fl, cr), rfl, Or.inl ⟨Or.inr (Int32.not_le.mp h8), rfl, rfl⟩, by rw [ht]; exact hP, hD⟩, hS.F ht⟩) hS.2.2 dX0_crash_12
set_option maxHeartbeats 1000000 in
set_option maxRecDepth 100000 in
/-- get -/
theorem cX_get (l : Launch) (dC : Nat → ClassId) (dI : Nat → Nat → Nat) (h a1 a2 a3 a4 : Nat) (cA : ClassId) (sv js jv jd : Nat → Int32) (cc : Nat) (oc : Nat) (sd : Int32) (jn : Int32) (fb : Int32) (fl : Int32) (cr : Int32) (x : Int32) (hcc : cc ≤ 24) : Met l yX0_get wsX0_get ({ frames := 1, cells := 0, slots := 0, locals := 20 }) (ja_Pr (dC, dI) vwCl (ja_wX h a1 a2 a3 a4 cA sv js jv jd cc oc sd jn fb fl cr) [(cA, .int)] [.ref h, .int x]) (vp_Si (fun r => (¬ vp_in x 212 ∧ r = nI 0) ∨ (vp_in x 212 ∧ ((∃ i, i < cc ∧ js i = x ∧ (∀ j, i < j → j < cc → js j ≠ x) ∧ r = jv i) ∨ ((∀ j, j < cc → js j ≠ x) ∧ r = sv x.toNatClampNeg))))) 0 0 (fun _ => False) := by
  refine Met.ofW (cc := cX0_get) (maxL := 3) (ret := (some .int)) (by decide) rfl ?_
  intro p e s m args below meth c s₁ B hml hv
  obtain ⟨rfl, hP, hK⟩ := hv
  have hx := B.exec
  have hb := B.bytes
  have hr := B.returns
  have hts := atoms_spec (ws := wsX0_get) B.pre
  have hown : s.vm.findClass RX0 = some m.cls := findClass_of_methodNamed B.named
  have hlocks := B.notSynchronized
  have hin : ∀ w ∈ u_ws RX0 TX0 11, w ∈ wsX0_get := by decide +kernel
  have fk9 := hts (.fieldLink RX0 9 "JournalShelf" "safeValue" "[I") (by decide +kernel)
  have fk13 := hts (.fieldLink RX0 13 "JournalShelf" "journalSlot" "[I") (by decide +kernel)
  have fk16 := hts (.fieldLink RX0 16 "JournalShelf" "journalValue" "[I") (by decide +kernel)
  have fk30 := hts (.fieldLink RX0 30 "JournalShelf" "committedChanges" "I") (by decide +kernel)
  have hl := lv_entry ([.ref h, .int x]) (n := 3) (Nat.le_of_ble_eq_true rfl)
  rw [lg_entry_eq]
  generalize (lg_sl ([.ref h, .int x]) ++ List.replicate (3 - (lg_sl ([.ref h, .int x])).length) Slot.unset).toArray = ls at hl ⊢
  have hl : lv_has ls 3 [(0, .ref h), (1, .int x)] := hl
  refine lv_iload_n hx hb dX0_get_0 rfl (lv_at hl 1 rfl) ?_
  refine ja_cS (As := [.int x]) (rest := []) ⟨hx, hb, hml, hown, hts⟩ (cX_isSlot l x) (va_cwS 1 hts gX0_get_X0_isSlot rfl rfl rfl (by decide +kernel) ⟨Nat.le_of_ble_eq_true rfl, Nat.le_of_ble_eq_true rfl⟩) rfl hl.1 rfl (Nat.le_of_ble_eq_true rfl) dX0_get_1 ⟨Nat.zero_le _, Nat.zero_le _⟩ (fun r1 hr1 => ?_)
  refine lv_if_ne hx hb dX0_get_4 (tgt := 9) (by decide) (fun h4 => ?_) (fun h4 => ?_)
  · have hsl : vp_in x 212 := Or.elim hr1 (fun q => q.2) (fun q => absurd (q.1.trans nI_0) h4)
    refine lv_aload_n hx hb dX0_get_9 rfl (lv_at hl 0 rfl) ?_
    refine va_get (D := (dC, dI)) (ci := 0) (v := .int (nI cc)) (C := RX0) (T := TX0) (N := 11) hx hb hts hin hown hK hP 0 rfl rfl 4 (by decide) fk30 (fun _ h9 => h9) rfl dX0_get_10 ?_
    refine lv_iconst (v := nI 1) hx hb dX0_get_13 (by decide +kernel) ?_
    refine lv_isub hx hb dX0_get_14 ?_
    refine ja_top (y := nI cc - 1) (congrArg (nI cc - ·) (by decide +kernel)) ?_
    refine lv_istore_n (lv' := [(2, .int (nI cc - 1)), (0, .ref h), (1, .int x)]) hx hb dX0_get_15 rfl hl (by decide) rfl (fun ls hl => ?_)
    refine ja_lpR 16 (fun (k : Nat) ls => lv_has ls 3 [(2, .int (nI k - 1)), (0, .ref h), (1, .int x)] ∧ k ≤ cc ∧ (∀ j, k ≤ j → j < cc → js j ≠ x)) (fun k => k) ?_ cc ls ⟨lv_sub hl [0, 1, 2] rfl, Nat.le_refl _, (fun j h1 h2 => absurd h1 (by omega))⟩
    intro k ls hI ih0
    obtain ⟨hl, hi, hq⟩ := hI
    have hl : lv_has ls 3 [(2, .int (nI k - 1)), (0, .ref h), (1, .int x)] := hl
    refine lv_iload_n hx hb dX0_get_16 rfl (lv_at hl 0 rfl) ?_
    refine lv_if_lt hx hb dX0_get_17 (tgt := 43) (by decide) (fun h17 => ?_) (fun h17 => ?_)
    · have hk0 : k = 0 := ja_pneg (by omega) h17
      refine lv_aload_n hx hb dX0_get_43 rfl (lv_at hl 1 rfl) ?_
      refine va_get (D := (dC, dI)) (ci := 0) (v := .ref a1) (C := RX0) (T := TX0) (N := 11) hx hb hts hin hown hK hP 0 rfl rfl 0 (by decide) fk9 (fun _ h9 => h9) rfl dX0_get_44 ?_
      refine lv_iload_n hx hb dX0_get_47 rfl (lv_at hl 2 rfl) ?_
      refine va_iald hx hb hK hP 1 0 rfl rfl hsl dX0_get_48 ?_
      exact W.iret (v := (sv x.toNatClampNeg)) hx hb hr (fun t ht hW => ⟨_, rfl, Or.inr ⟨hsl, Or.inr ⟨fun j hj => hq j (by omega) hj, rfl⟩⟩, ht⟩) (fun q h => by cases h) dX0_get_49
    · obtain ⟨kk, rfl⟩ : ∃ kk, k = kk + 1 := ja_ppos (by omega) h17
      have hl : lv_has ls 3 [(2, .int (nI kk)), (0, .ref h), (1, .int x)] := by have h9 := hl; rw [nI_pred kk] at h9; exact h9
      refine lv_aload_n hx hb dX0_get_20 rfl (lv_at hl 1 rfl) ?_
      refine va_get (D := (dC, dI)) (ci := 0) (v := .ref a2) (C := RX0) (T := TX0) (N := 11) hx hb hts hin hown hK hP 0 rfl rfl 1 (by decide) fk13 (fun _ h9 => h9) rfl dX0_get_21 ?_
      refine lv_iload_n hx hb dX0_get_24 rfl (lv_at hl 0 rfl) ?_
      refine ja_ald hx hb hK hP 2 0 rfl rfl (by omega) (by decide) dX0_get_25 ?_
      refine lv_iload_n hx hb dX0_get_26 rfl (lv_at hl 2 rfl) ?_
      refine lv_icmp_ne hx hb dX0_get_27 (tgt := 37) (by decide) (fun h27 => ?_) (fun h27 => ?_)
      · have hne := h27
        -- iinc
        refine lv_iinc (k := 0) (v := (nI kk - 1)) (lv' := [(2, .int (nI kk - 1)), (0, .ref h), (1, .int x)]) hx hb dX0_get_37 hl rfl (ja_dec _) (by decide) rfl (fun ls hl => ?_)
        refine lv_goto (tgt := 16) hx hb dX0_get_40 (by decide) ?_
        exact ih0 kk ls ⟨lv_sub hl [0, 1, 2] rfl, (by omega), (fun j h1 h2 => by rcases Nat.lt_or_eq_of_le h1 with h3 | h3; exact hq j h3 h2; rw [← h3]; exact hne)⟩ (show kk < (kk + 1) by omega)
      · refine lv_aload_n hx hb dX0_get_30 rfl (lv_at hl 1 rfl) ?_
        refine va_get (D := (dC, dI)) (ci := 0) (v := .ref a3) (C := RX0) (T := TX0) (N := 11) hx hb hts hin hown hK hP 0 rfl rfl 2 (by decide) fk16 (fun _ h9 => h9) rfl dX0_get_31 ?_
        refine lv_iload_n hx hb dX0_get_34 rfl (lv_at hl 0 rfl) ?_
        refine ja_ald hx hb hK hP 3 0 rfl rfl (by omega) (by decide) dX0_get_35 ?_
        exact W.iret (v := (jv kk)) hx hb hr (fun t ht hW => ⟨_, rfl, Or.inr ⟨hsl, Or.inl ⟨kk, by omega, h27, fun j h1 h2 => hq j h1 h2, rfl⟩⟩, ht⟩) (fun q h => by cases h) dX0_get_36
  · refine lv_iconst (v := nI 0) hx hb dX0_get_7 (by decide +kernel) ?_
    exact W.iret (v := nI 0) hx hb hr (fun t ht hW => ⟨_, rfl, Or.inl ⟨Or.elim hr1 (fun q => absurd (q.1.symm.trans h4) ja_n10) (fun q => q.2), rfl⟩, ht⟩) (fun q h => by cases h) dX0_get_8
set_option maxHeartbeats 1000000 in
set_option maxRecDepth 100000 in
/-- torn -/
theorem cX_torn (l : Launch) (dC : Nat → ClassId) (dI : Nat → Nat → Nat) (h a1 a2 a3 a4 : Nat) (cA : ClassId) (sv js jv jd : Nat → Int32) (cc : Nat) (oc : Nat) (sd : Int32) (jn : Int32) (fb : Int32) (fl : Int32) (cr : Int32)   : Met l yX0_torn wsX0_torn ({ frames := 0, cells := 0, slots := 0, locals := 0 }) (ja_Pr (dC, dI) vwCl (ja_wX h a1 a2 a3 a4 cA sv js jv jd cc oc sd jn fb fl cr) [(cA, .int)] [.ref h]) (vp_Si (fun r => r = nI 0)) 0 0 (fun _ => False) := by
  refine Met.ofW (cc := cX0_torn) (maxL := 1) (ret := (some .int)) (by decide) rfl ?_
  intro p e s m args below meth c s₁ B hml hv
  obtain ⟨rfl, hP, hK⟩ := hv
  have hx := B.exec
  have hb := B.bytes
  have hr := B.returns
  have hts := atoms_spec (ws := wsX0_torn) B.pre
  have hown : s.vm.findClass RX0 = some m.cls := findClass_of_methodNamed B.named
  have hlocks := B.notSynchronized
  have hl := lv_entry ([.ref h]) (n := 1) (Nat.le_of_ble_eq_true rfl)
  rw [lg_entry_eq]
  generalize (lg_sl ([.ref h]) ++ List.replicate (1 - (lg_sl ([.ref h])).length) Slot.unset).toArray = ls at hl ⊢
  have hl : lv_has ls 1 [(0, .ref h)] := hl
  refine lv_iconst (v := nI 0) hx hb dX0_torn_0 (by decide +kernel) ?_
  exact W.iret (v := nI 0) hx hb hr (fun t ht hW => ⟨_, rfl, rfl, ht⟩) (fun q h => by cases h) dX0_torn_1
set_option maxHeartbeats 1000000 in
set_option maxRecDepth 100000 in
/-- count -/
theorem cX_count (l : Launch) (dC : Nat → ClassId) (dI : Nat → Nat → Nat) (h a1 a2 a3 a4 : Nat) (cA : ClassId) (sv js jv jd : Nat → Int32) (cc : Nat) (oc : Nat) (sd : Int32) (jn : Int32) (fb : Int32) (fl : Int32) (cr : Int32) (x : Int32)  : Met l yX0_count wsX0_count ({ frames := 0, cells := 0, slots := 0, locals := 0 }) (ja_Pr (dC, dI) vwCl (ja_wX h a1 a2 a3 a4 cA sv js jv jd cc oc sd jn fb fl cr) [(cA, .int)] [.ref h, .int x]) (vp_Si (fun r => r = ja_sel x (sd + jn) jn (fb + nI cc) (nI oc) fl cr)) 0 0 (fun _ => False) := by
  refine Met.ofW (cc := cX0_count) (maxL := 2) (ret := (some .int)) (by decide) rfl ?_
  intro p e s m args below meth c s₁ B hml hv
  obtain ⟨rfl, hP, hK⟩ := hv
  have hx := B.exec
  have hb := B.bytes
  have hr := B.returns
  have hts := atoms_spec (ws := wsX0_count) B.pre
  have hown : s.vm.findClass RX0 = some m.cls := findClass_of_methodNamed B.named
  have hlocks := B.notSynchronized
  have hin : ∀ w ∈ u_ws RX0 TX0 11, w ∈ wsX0_count := by decide +kernel
  have fk26 := hts (.fieldLink RX0 26 "JournalShelf" "openChanges" "I") (by decide +kernel)
  have fk30 := hts (.fieldLink RX0 30 "JournalShelf" "committedChanges" "I") (by decide +kernel)
  have fk40 := hts (.fieldLink RX0 40 "JournalShelf" "journalDeeds" "I") (by decide +kernel)
  have fk51 := hts (.fieldLink RX0 51 "JournalShelf" "flushBlocks" "I") (by decide +kernel)
  have fk54 := hts (.fieldLink RX0 54 "JournalShelf" "crashes" "I") (by decide +kernel)
  have fk57 := hts (.fieldLink RX0 57 "JournalShelf" "safeDeeds" "I") (by decide +kernel)
  have fk60 := hts (.fieldLink RX0 60 "JournalShelf" "flushes" "I") (by decide +kernel)
  have hl := lv_entry ([.ref h, .int x]) (n := 2) (Nat.le_of_ble_eq_true rfl)
  rw [lg_entry_eq]
  generalize (lg_sl ([.ref h, .int x]) ++ List.replicate (2 - (lg_sl ([.ref h, .int x])).length) Slot.unset).toArray = ls at hl ⊢
  have hl : lv_has ls 2 [(0, .ref h), (1, .int x)] := hl
  refine lv_iload_n hx hb dX0_count_0 rfl (lv_at hl 1 rfl) ?_
  rcases pk_ix x (n := 6) (by decide) with hw | hw | ⟨j, hj, rfl⟩
  · refine lv_tableOut (tgt := 80) hx hb dX0_count_1 (Or.inl (by have := Int32.lt_iff_toInt_lt.mp hw; simpa using this)) (by decide) ?_
    refine lv_iconst (v := (-1)) hx hb dX0_count_80 (by decide +kernel) ?_
    exact W.iret (v := (-1)) hx hb hr (fun t ht hW => ⟨_, rfl, (ja_selD (Or.inl hw)).symm, ht⟩) (fun q h => by cases h) dX0_count_81
  · refine lv_tableOut (tgt := 80) hx hb dX0_count_1 (Or.inr (by have h := Int32.le_iff_toInt_le.mp hw; rw [nI_toInt (by decide)] at h; omega)) (by decide) ?_
    refine lv_iconst (v := (-1)) hx hb dX0_count_80 (by decide +kernel) ?_
    exact W.iret (v := (-1)) hx hb hr (fun t ht hW => ⟨_, rfl, (ja_selD (Or.inr hw)).symm, ht⟩) (fun q h => by cases h) dX0_count_81
  · obtain rfl | rfl | rfl | rfl | rfl | rfl : j = 0 ∨ j = 1 ∨ j = 2 ∨ j = 3 ∨ j = 4 ∨ j = 5 := by omega
    · refine lv_tableIn (off := 39) (tgt := 40) hx hb dX0_count_1 (by decide +kernel) (by decide +kernel) (by decide +kernel) (by decide) ?_
      refine lv_aload_n hx hb dX0_count_40 rfl (lv_at hl 0 rfl) ?_
      refine va_get (D := (dC, dI)) (ci := 0) (v := .int sd) (C := RX0) (T := TX0) (N := 11) hx hb hts hin hown hK hP 0 rfl rfl 6 (by decide) fk57 (fun _ h9 => h9) rfl dX0_count_41 ?_
      refine lv_aload_n hx hb dX0_count_44 rfl (lv_at hl 0 rfl) ?_
      refine va_get (D := (dC, dI)) (ci := 0) (v := .int jn) (C := RX0) (T := TX0) (N := 11) hx hb hts hin hown hK hP 0 rfl rfl 7 (by decide) fk40 (fun _ h9 => h9) rfl dX0_count_45 ?_
      refine lv_iadd hx hb dX0_count_48 ?_
      exact W.iret (v := (sd + jn)) hx hb hr (fun t ht hW => ⟨_, rfl, ja_sel0.symm, ht⟩) (fun q h => by cases h) dX0_count_49
    · refine lv_tableIn (off := 49) (tgt := 50) hx hb dX0_count_1 (by decide +kernel) (by decide +kernel) (by decide +kernel) (by decide) ?_
      refine lv_aload_n hx hb dX0_count_50 rfl (lv_at hl 0 rfl) ?_
      refine va_get (D := (dC, dI)) (ci := 0) (v := .int jn) (C := RX0) (T := TX0) (N := 11) hx hb hts hin hown hK hP 0 rfl rfl 7 (by decide) fk40 (fun _ h9 => h9) rfl dX0_count_51 ?_
      exact W.iret (v := jn) hx hb hr (fun t ht hW => ⟨_, rfl, ja_sel1.symm, ht⟩) (fun q h => by cases h) dX0_count_54
    · refine lv_tableIn (off := 54) (tgt := 55) hx hb dX0_count_1 (by decide +kernel) (by decide +kernel) (by decide +kernel) (by decide) ?_
      refine lv_aload_n hx hb dX0_count_55 rfl (lv_at hl 0 rfl) ?_
      refine va_get (D := (dC, dI)) (ci := 0) (v := .int fb) (C := RX0) (T := TX0) (N := 11) hx hb hts hin hown hK hP 0 rfl rfl 8 (by decide) fk51 (fun _ h9 => h9) rfl dX0_count_56 ?_
      refine lv_aload_n hx hb dX0_count_59 rfl (lv_at hl 0 rfl) ?_
      refine va_get (D := (dC, dI)) (ci := 0) (v := .int (nI cc)) (C := RX0) (T := TX0) (N := 11) hx hb hts hin hown hK hP 0 rfl rfl 4 (by decide) fk30 (fun _ h9 => h9) rfl dX0_count_60 ?_
      refine lv_iadd hx hb dX0_count_63 ?_
      exact W.iret (v := (fb + nI cc)) hx hb hr (fun t ht hW => ⟨_, rfl, ja_sel2.symm, ht⟩) (fun q h => by cases h) dX0_count_64
    · refine lv_tableIn (off := 64) (tgt := 65) hx hb dX0_count_1 (by decide +kernel) (by decide +kernel) (by decide +kernel) (by decide) ?_
      refine lv_aload_n hx hb dX0_count_65 rfl (lv_at hl 0 rfl) ?_
      refine va_get (D := (dC, dI)) (ci := 0) (v := .int (nI oc)) (C := RX0) (T := TX0) (N := 11) hx hb hts hin hown hK hP 0 rfl rfl 5 (by decide) fk26 (fun _ h9 => h9) rfl dX0_count_66 ?_
      exact W.iret (v := nI oc) hx hb hr (fun t ht hW => ⟨_, rfl, ja_sel3.symm, ht⟩) (fun q h => by cases h) dX0_count_69
    · refine lv_tableIn (off := 69) (tgt := 70) hx hb dX0_count_1 (by decide +kernel) (by decide +kernel) (by decide +kernel) (by decide) ?_
      refine lv_aload_n hx hb dX0_count_70 rfl (lv_at hl 0 rfl) ?_
      refine va_get (D := (dC, dI)) (ci := 0) (v := .int fl) (C := RX0) (T := TX0) (N := 11) hx hb hts hin hown hK hP 0 rfl rfl 9 (by decide) fk60 (fun _ h9 => h9) rfl dX0_count_71 ?_
      exact W.iret (v := fl) hx hb hr (fun t ht hW => ⟨_, rfl, ja_sel4.symm, ht⟩) (fun q h => by cases h) dX0_count_74
    · refine lv_tableIn (off := 74) (tgt := 75) hx hb dX0_count_1 (by decide +kernel) (by decide +kernel) (by decide +kernel) (by decide) ?_
      refine lv_aload_n hx hb dX0_count_75 rfl (lv_at hl 0 rfl) ?_
      refine va_get (D := (dC, dI)) (ci := 0) (v := .int cr) (C := RX0) (T := TX0) (N := 11) hx hb hts hin hown hK hP 0 rfl rfl 10 (by decide) fk54 (fun _ h9 => h9) rfl dX0_count_76 ?_
      exact W.iret (v := cr) hx hb hr (fun t ht hW => ⟨_, rfl, ja_sel5.symm, ht⟩) (fun q h => by cases h) dX0_count_79
