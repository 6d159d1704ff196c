theorem ja_zero (cA : ClassId) (n : Nat) : vp_cell cA (n, .inl (fun _ => 0)) = arrV cA n (fun _ => defaultValue .int) := rfl
set_option maxHeartbeats 1000000 in
set_option maxRecDepth 100000 in
theorem cX_init (l : Launch) (dC : Nat → ClassId) (dI : Nat → Nat → Nat) (h : Nat) (sz : Nat) : Met l yX0_init wsX0_init ({ frames := 1, cells := 4, slots := 284, locals := 12 }) (ja_Pw (dC, dI) vwCl [(h, .inr (0, [.null, .null, .null, .null, .int 0, .int 0, .int 0, .int 0, .int 0, .int 0, .int 0]))] [] sz [.ref h]) (va_Qv (fun _ : Nat × Nat × Nat × Nat × ClassId => True) (fun u t => va_P (dC, dI) vwCl (ja_wX h u.1 u.2.1 u.2.2.1 u.2.2.2.1 u.2.2.2.2 (fun _ => 0) (fun _ => 0) (fun _ => 0) (fun _ => 0) 0 0 0 0 0 0 0) t.heap ∧ va_K (dC, dI) vwCl [(u.2.2.2.2, .int)] t ∧ va_D (va_A [(h, .inr (0, [.null, .null, .null, .null, .int 0, .int 0, .int 0, .int 0, .int 0, .int 0, .int 0]))] sz) (ja_wX h u.1 u.2.1 u.2.2.1 u.2.2.2.1 u.2.2.2.2 (fun _ => 0) (fun _ => 0) (fun _ => 0) (fun _ => 0) 0 0 0 0 0 0 0)) (va_A [(h, .inr (0, [.null, .null, .null, .null, .int 0, .int 0, .int 0, .int 0, .int 0, .int 0, .int 0]))] sz)) 4 284 (va_A [(h, .inr (0, [.null, .null, .null, .null, .int 0, .int 0, .int 0, .int 0, .int 0, .int 0, .int 0]))] sz) := by
  refine Met.ofW (cc := cX0_init) (maxL := 1) (ret := none) (by decide) rfl ?_
  intro p e s m args below meth c s₁ B hml hv
  obtain ⟨rfl, hsz, hP, hK, hD0⟩ := hv
  have hx := B.exec
  have hb := B.bytes
  have hr := B.returns
  have hts := atoms_spec (ws := wsX0_init) B.pre
  have hown : s.vm.findClass RX0 = some m.cls := findClass_of_methodNamed B.named
  have hlocks := B.notSynchronized
  have hin2 : meth.name = "<init>" := (name_of_methodNamed B.named B.method).1
  have hin : ∀ w ∈ u_ws RX0 TX0 11, w ∈ wsX0_init := by decide +kernel
  subst hsz
  have hD := hD0.self (sz := s.heap.size)
  generalize hAe : va_A [(h, .inr (0, [.null, .null, .null, .null, .int 0, .int 0, .int 0, .int 0, .int 0, .int 0, .int 0]))] s.heap.size = A at hD ⊢
  have hA : ∀ q : Nat, s.heap.size ≤ q → A q := fun q h => by rw [← hAe]; exact Or.inr h
  refine ja_st0 s.heap [] hP (va_S.rf (A := A)) (fun H locs hP hS => ?_)
  have hl := lv_entry ([.ref h]) (n := 1) (Nat.le_of_ble_eq_true rfl)
  rw [lg_entry_eq]
  generalize (lg_sl ([.ref h]) ++ List.replicate (1 - (lg_sl ([.ref h])).length) Slot.unset).toArray = ls at hl ⊢
  have hl : lv_has ls 1 [(0, .ref h)] := hl
  refine lv_aload_n hx hb dX0_init_0 rfl (lv_at hl 0 rfl) ?_
  refine W.objInit hx hb hown (hts (.methodLink RX0 3 objectInit) (by decide +kernel)) (hts (.instanceMethod objectInit) (by decide +kernel)) (hts (.code objectInit ⟨#[0xb1]⟩ 1 none) (List.mem_of_getElem? (i := 3) rfl)) rfl (by rw [hml]; exact hl.1) rfl dX0_init_1 (Nat.le_of_ble_eq_true rfl) (Nat.le_of_ble_eq_true rfl) ?_
  refine W.eq (g2 := F0 m 4 ls []) rfl ?_
  refine lv_aload_n hx hb dX0_init_4 rfl (lv_at hl 0 rfl) ?_
  refine lv_sipush (v := nI 212) hx hb dX0_init_5 (by decide +kernel) ?_
  have hc9 : 1 ≤ 4 := by decide
  have hs9 : 212 ≤ 284 := by decide
  refine va_newa (atype := .int) (ty := .int) (N' := 212) (a0 := (212, .inl (fun _ => 0))) hx hb (hts (.arrayClass .int) (by decide +kernel)) rfl hK hP hD hS hA (fun _ => ja_zero _ _) (by decide +kernel) (by decide +kernel) (by decide +kernel) hc9 hs9 dX0_init_8 (fun a1 ca1 H hK hP hD hS => ?_)
  have hK : va_K (dC, dI) vwCl [(ca1, .int)] s := hK
  have hP : va_P (dC, dI) vwCl [(h, .inr (0, [.null, .null, .null, .null, .int 0, .int 0, .int 0, .int 0, .int 0, .int 0, .int 0])), (a1, .inl (ca1, 212, .inl (fun _ => 0)))] H := hP
  have hD : va_D A [(h, .inr (0, [.null, .null, .null, .null, .int 0, .int 0, .int 0, .int 0, .int 0, .int 0, .int 0])), (a1, .inl (ca1, 212, .inl (fun _ => 0)))] := hD
  refine W.widen (k := 1) (n := 212) (by omega) (by omega) ?_
  refine va_putF (D := (dC, dI)) (ci := 0) (v := .ref a1) (ty := .array .int) (C := RX0) (T := TX0) (N := 11) hx hb hts hin tyX0 tyX0_ok nmX0 hown hK hP hD hS 0 rfl rfl 0 (by decide) (hts (.fieldLink RX0 9 "JournalShelf" "safeValue" "[I") (by decide +kernel)) (fun _ h9 => h9) rfl hin2 rfl (by decide +kernel) rfl rfl (Nat.le_of_ble_eq_true rfl) dX0_init_10 (fun H locs hP hD hS => ?_)
  have hP : va_P (dC, dI) vwCl [(h, .inr (0, [.ref a1, .null, .null, .null, .int 0, .int 0, .int 0, .int 0, .int 0, .int 0, .int 0])), (a1, .inl (ca1, 212, .inl (fun _ => 0)))] H := hP
  have hD : va_D A [(h, .inr (0, [.ref a1, .null, .null, .null, .int 0, .int 0, .int 0, .int 0, .int 0, .int 0, .int 0])), (a1, .inl (ca1, 212, .inl (fun _ => 0)))] := hD
  refine lv_aload_n hx hb dX0_init_13 rfl (lv_at hl 0 rfl) ?_
  refine lv_bipush (v := nI 24) hx hb dX0_init_14 (by decide +kernel) ?_
  have hc9 : 2 ≤ 4 := by decide
  have hs9 : 236 ≤ 284 := by decide
  refine va_newa (atype := .int) (ty := .int) (N' := 24) (a0 := (24, .inl (fun _ => 0))) hx hb (hts (.arrayClass .int) (by decide +kernel)) rfl hK hP hD hS hA (fun _ => ja_zero _ _) (by decide +kernel) (by decide +kernel) (by decide +kernel) hc9 hs9 dX0_init_16 (fun a2 ca2 H hK hP hD hS => ?_)
  have hK : va_K (dC, dI) vwCl [(ca1, .int), (ca2, .int)] s := hK
  have hP : va_P (dC, dI) vwCl [(h, .inr (0, [.ref a1, .null, .null, .null, .int 0, .int 0, .int 0, .int 0, .int 0, .int 0, .int 0])), (a1, .inl (ca1, 212, .inl (fun _ => 0))), (a2, .inl (ca2, 24, .inl (fun _ => 0)))] H := hP
  have hD : va_D A [(h, .inr (0, [.ref a1, .null, .null, .null, .int 0, .int 0, .int 0, .int 0, .int 0, .int 0, .int 0])), (a1, .inl (ca1, 212, .inl (fun _ => 0))), (a2, .inl (ca2, 24, .inl (fun _ => 0)))] := hD
  refine W.widen (k := 2) (n := 236) (by omega) (by omega) ?_
  refine va_putF (D := (dC, dI)) (ci := 0) (v := .ref a2) (ty := .array .int) (C := RX0) (T := TX0) (N := 11) hx hb hts hin tyX0 tyX0_ok nmX0 hown hK hP hD hS 0 rfl rfl 1 (by decide) (hts (.fieldLink RX0 13 "JournalShelf" "journalSlot" "[I") (by decide +kernel)) (fun _ h9 => h9) rfl hin2 rfl (by decide +kernel) rfl rfl (Nat.le_of_ble_eq_true rfl) dX0_init_18 (fun H locs hP hD hS => ?_)
  have hP : va_P (dC, dI) vwCl [(h, .inr (0, [.ref a1, .ref a2, .null, .null, .int 0, .int 0, .int 0, .int 0, .int 0, .int 0, .int 0])), (a1, .inl (ca1, 212, .inl (fun _ => 0))), (a2, .inl (ca2, 24, .inl (fun _ => 0)))] H := hP
  have hD : va_D A [(h, .inr (0, [.ref a1, .ref a2, .null, .null, .int 0, .int 0, .int 0, .int 0, .int 0, .int 0, .int 0])), (a1, .inl (ca1, 212, .inl (fun _ => 0))), (a2, .inl (ca2, 24, .inl (fun _ => 0)))] := hD
  refine lv_aload_n hx hb dX0_init_21 rfl (lv_at hl 0 rfl) ?_
  refine lv_bipush (v := nI 24) hx hb dX0_init_22 (by decide +kernel) ?_
  have hc9 : 3 ≤ 4 := by decide
  have hs9 : 260 ≤ 284 := by decide
  refine va_newa (atype := .int) (ty := .int) (N' := 24) (a0 := (24, .inl (fun _ => 0))) hx hb (hts (.arrayClass .int) (by decide +kernel)) rfl hK hP hD hS hA (fun _ => ja_zero _ _) (by decide +kernel) (by decide +kernel) (by decide +kernel) hc9 hs9 dX0_init_24 (fun a3 ca3 H hK hP hD hS => ?_)
  have hK : va_K (dC, dI) vwCl [(ca1, .int), (ca2, .int), (ca3, .int)] s := hK
  have hP : va_P (dC, dI) vwCl [(h, .inr (0, [.ref a1, .ref a2, .null, .null, .int 0, .int 0, .int 0, .int 0, .int 0, .int 0, .int 0])), (a1, .inl (ca1, 212, .inl (fun _ => 0))), (a2, .inl (ca2, 24, .inl (fun _ => 0))), (a3, .inl (ca3, 24, .inl (fun _ => 0)))] H := hP
  have hD : va_D A [(h, .inr (0, [.ref a1, .ref a2, .null, .null, .int 0, .int 0, .int 0, .int 0, .int 0, .int 0, .int 0])), (a1, .inl (ca1, 212, .inl (fun _ => 0))), (a2, .inl (ca2, 24, .inl (fun _ => 0))), (a3, .inl (ca3, 24, .inl (fun _ => 0)))] := hD
  refine W.widen (k := 3) (n := 260) (by omega) (by omega) ?_
  refine va_putF (D := (dC, dI)) (ci := 0) (v := .ref a3) (ty := .array .int) (C := RX0) (T := TX0) (N := 11) hx hb hts hin tyX0 tyX0_ok nmX0 hown hK hP hD hS 0 rfl rfl 2 (by decide) (hts (.fieldLink RX0 16 "JournalShelf" "journalValue" "[I") (by decide +kernel)) (fun _ h9 => h9) rfl hin2 rfl (by decide +kernel) rfl rfl (Nat.le_of_ble_eq_true rfl) dX0_init_26 (fun H locs hP hD hS => ?_)
  have hP : va_P (dC, dI) vwCl [(h, .inr (0, [.ref a1, .ref a2, .ref a3, .null, .int 0, .int 0, .int 0, .int 0, .int 0, .int 0, .int 0])), (a1, .inl (ca1, 212, .inl (fun _ => 0))), (a2, .inl (ca2, 24, .inl (fun _ => 0))), (a3, .inl (ca3, 24, .inl (fun _ => 0)))] H := hP
  have hD : va_D A [(h, .inr (0, [.ref a1, .ref a2, .ref a3, .null, .int 0, .int 0, .int 0, .int 0, .int 0, .int 0, .int 0])), (a1, .inl (ca1, 212, .inl (fun _ => 0))), (a2, .inl (ca2, 24, .inl (fun _ => 0))), (a3, .inl (ca3, 24, .inl (fun _ => 0)))] := hD
  refine lv_aload_n hx hb dX0_init_29 rfl (lv_at hl 0 rfl) ?_
  refine lv_bipush (v := nI 24) hx hb dX0_init_30 (by decide +kernel) ?_
  have hc9 : 4 ≤ 4 := by decide
  have hs9 : 284 ≤ 284 := by decide
  refine va_newa (atype := .int) (ty := .int) (N' := 24) (a0 := (24, .inl (fun _ => 0))) hx hb (hts (.arrayClass .int) (by decide +kernel)) rfl hK hP hD hS hA (fun _ => ja_zero _ _) (by decide +kernel) (by decide +kernel) (by decide +kernel) hc9 hs9 dX0_init_32 (fun a4 ca4 H hK hP hD hS => ?_)
  have hK : va_K (dC, dI) vwCl [(ca1, .int), (ca2, .int), (ca3, .int), (ca4, .int)] s := hK
  have hP : va_P (dC, dI) vwCl [(h, .inr (0, [.ref a1, .ref a2, .ref a3, .null, .int 0, .int 0, .int 0, .int 0, .int 0, .int 0, .int 0])), (a1, .inl (ca1, 212, .inl (fun _ => 0))), (a2, .inl (ca2, 24, .inl (fun _ => 0))), (a3, .inl (ca3, 24, .inl (fun _ => 0))), (a4, .inl (ca4, 24, .inl (fun _ => 0)))] H := hP
  have hD : va_D A [(h, .inr (0, [.ref a1, .ref a2, .ref a3, .null, .int 0, .int 0, .int 0, .int 0, .int 0, .int 0, .int 0])), (a1, .inl (ca1, 212, .inl (fun _ => 0))), (a2, .inl (ca2, 24, .inl (fun _ => 0))), (a3, .inl (ca3, 24, .inl (fun _ => 0))), (a4, .inl (ca4, 24, .inl (fun _ => 0)))] := hD
  refine W.widen (k := 4) (n := 284) (by omega) (by omega) ?_
  refine va_putF (D := (dC, dI)) (ci := 0) (v := .ref a4) (ty := .array .int) (C := RX0) (T := TX0) (N := 11) hx hb hts hin tyX0 tyX0_ok nmX0 hown hK hP hD hS 0 rfl rfl 3 (by decide) (hts (.fieldLink RX0 19 "JournalShelf" "journalDeed" "[I") (by decide +kernel)) (fun _ h9 => h9) rfl hin2 rfl (by decide +kernel) rfl rfl (Nat.le_of_ble_eq_true rfl) dX0_init_34 (fun H locs hP hD hS => ?_)
  have hP : va_P (dC, dI) vwCl [(h, .inr (0, [.ref a1, .ref a2, .ref a3, .ref a4, .int 0, .int 0, .int 0, .int 0, .int 0, .int 0, .int 0])), (a1, .inl (ca1, 212, .inl (fun _ => 0))), (a2, .inl (ca2, 24, .inl (fun _ => 0))), (a3, .inl (ca3, 24, .inl (fun _ => 0))), (a4, .inl (ca4, 24, .inl (fun _ => 0)))] H := hP
  have hD : va_D A [(h, .inr (0, [.ref a1, .ref a2, .ref a3, .ref a4, .int 0, .int 0, .int 0, .int 0, .int 0, .int 0, .int 0])), (a1, .inl (ca1, 212, .inl (fun _ => 0))), (a2, .inl (ca2, 24, .inl (fun _ => 0))), (a3, .inl (ca3, 24, .inl (fun _ => 0))), (a4, .inl (ca4, 24, .inl (fun _ => 0)))] := hD
  have f0 : s.vm.findClass ("[" ++ FieldType.int.toString) = some ca1 := (hK.2 0 _ rfl).2
  have f1 : s.vm.findClass ("[" ++ FieldType.int.toString) = some ca2 := (hK.2 1 _ rfl).2
  have g1 : ca1 = ca2 := Option.some.inj (f0.symm.trans f1)
  have f2 : s.vm.findClass ("[" ++ FieldType.int.toString) = some ca3 := (hK.2 2 _ rfl).2
  have g2 : ca1 = ca3 := Option.some.inj (f0.symm.trans f2)
  have f3 : s.vm.findClass ("[" ++ FieldType.int.toString) = some ca4 := (hK.2 3 _ rfl).2
  have g3 : ca1 = ca4 := Option.some.inj (f0.symm.trans f3)
  subst g1
  subst g2
  subst g3
  have hK9 := hK.sub (tys' := [(ca1, .int)]) [0] rfl
  exact W.vret hx hb hr (fun t ht hW => ⟨⟨(a1, a2, a3, a4, ca1), rfl, trivial, by rw [ht]; exact hP, va_K.moved hW.alike hK9, hD⟩, hS.F ht⟩) hS.2.2 dX0_init_37
set_option maxHeartbeats 1000000 in
set_option maxRecDepth 100000 in
theorem cM_init (l : Launch) (dC : Nat → ClassId) (dI : Nat → Nat → Nat) (h : Nat) (sz : Nat) : Met l yX1_init wsX1_init ({ frames := 1, cells := 7, slots := 530, locals := 12 }) (ja_Pw (dC, dI) vwCl [(h, .inr (1, [.null, .null, .null, .null, .null, .int 0, .int 0, .null, .null, .int 0, .int 0, .int 0, .int 0, .int 0]))] [] sz [.ref h]) (va_Qv (fun _ : Nat × Nat × Nat × Nat × Nat × Nat × Nat × ClassId => True) (fun u t => va_P (dC, dI) vwCl (ja_wM h u.1 u.2.1 u.2.2.1 u.2.2.2.1 u.2.2.2.2.1 u.2.2.2.2.2.1 u.2.2.2.2.2.2.1 u.2.2.2.2.2.2.2 (fun _ => 0) (fun _ => 0) (fun _ => 0) (fun _ => 0) (fun _ => 0) (fun _ => 0) (fun _ => 0) 0 0 0 0 0 0 0) t.heap ∧ va_K (dC, dI) vwCl [(u.2.2.2.2.2.2.2, .int)] t ∧ va_D (va_A [(h, .inr (1, [.null, .null, .null, .null, .null, .int 0, .int 0, .null, .null, .int 0, .int 0, .int 0, .int 0, .int 0]))] sz) (ja_wM h u.1 u.2.1 u.2.2.1 u.2.2.2.1 u.2.2.2.2.1 u.2.2.2.2.2.1 u.2.2.2.2.2.2.1 u.2.2.2.2.2.2.2 (fun _ => 0) (fun _ => 0) (fun _ => 0) (fun _ => 0) (fun _ => 0) (fun _ => 0) (fun _ => 0) 0 0 0 0 0 0 0)) (va_A [(h, .inr (1, [.null, .null, .null, .null, .null, .int 0, .int 0, .null, .null, .int 0, .int 0, .int 0, .int 0, .int 0]))] sz)) 7 530 (va_A [(h, .inr (1, [.null, .null, .null, .null, .null, .int 0, .int 0, .null, .null, .int 0, .int 0, .int 0, .int 0, .int 0]))] sz) := by
  refine Met.ofW (cc := cX1_init) (maxL := 1) (ret := none) (by decide) rfl ?_
  intro p e s m args below meth c s₁ B hml hv
  obtain ⟨rfl, hsz, hP, hK, hD0⟩ := hv
  have hx := B.exec
  have hb := B.bytes
  have hr := B.returns
  have hts := atoms_spec (ws := wsX1_init) B.pre
  have hown : s.vm.findClass RX1 = some m.cls := findClass_of_methodNamed B.named
  have hlocks := B.notSynchronized
  have hin2 : meth.name = "<init>" := (name_of_methodNamed B.named B.method).1
  have hin : ∀ w ∈ u_ws RX1 TX1 14, w ∈ wsX1_init := by decide +kernel
  subst hsz
  have hD := hD0.self (sz := s.heap.size)
  generalize hAe : va_A [(h, .inr (1, [.null, .null, .null, .null, .null, .int 0, .int 0, .null, .null, .int 0, .int 0, .int 0, .int 0, .int 0]))] s.heap.size = A at hD ⊢
  have hA : ∀ q : Nat, s.heap.size ≤ q → A q := fun q h => by rw [← hAe]; exact Or.inr h
  refine ja_st0 s.heap [] hP (va_S.rf (A := A)) (fun H locs hP hS => ?_)
  have hl := lv_entry ([.ref h]) (n := 1) (Nat.le_of_ble_eq_true rfl)
  rw [lg_entry_eq]
  generalize (lg_sl ([.ref h]) ++ List.replicate (1 - (lg_sl ([.ref h])).length) Slot.unset).toArray = ls at hl ⊢
  have hl : lv_has ls 1 [(0, .ref h)] := hl
  refine lv_aload_n hx hb dX1_init_0 rfl (lv_at hl 0 rfl) ?_
  refine W.objInit hx hb hown (hts (.methodLink RX1 1 objectInit) (by decide +kernel)) (hts (.instanceMethod objectInit) (by decide +kernel)) (hts (.code objectInit ⟨#[0xb1]⟩ 1 none) (List.mem_of_getElem? (i := 3) rfl)) rfl (by rw [hml]; exact hl.1) rfl dX1_init_1 (Nat.le_of_ble_eq_true rfl) (Nat.le_of_ble_eq_true rfl) ?_
  refine W.eq (g2 := F0 m 4 ls []) rfl ?_
  refine lv_aload_n hx hb dX1_init_4 rfl (lv_at hl 0 rfl) ?_
  refine lv_sipush (v := nI 212) hx hb dX1_init_5 (by decide +kernel) ?_
  have hc9 : 1 ≤ 7 := by decide
  have hs9 : 212 ≤ 530 := by decide
  refine va_newa (atype := .int) (ty := .int) (N' := 212) (a0 := (212, .inl (fun _ => 0))) hx hb (hts (.arrayClass .int) (by decide +kernel)) rfl hK hP hD hS hA (fun _ => ja_zero _ _) (by decide +kernel) (by decide +kernel) (by decide +kernel) hc9 hs9 dX1_init_8 (fun a1 ca1 H hK hP hD hS => ?_)
  have hK : va_K (dC, dI) vwCl [(ca1, .int)] s := hK
  have hP : va_P (dC, dI) vwCl [(h, .inr (1, [.null, .null, .null, .null, .null, .int 0, .int 0, .null, .null, .int 0, .int 0, .int 0, .int 0, .int 0])), (a1, .inl (ca1, 212, .inl (fun _ => 0)))] H := hP
  have hD : va_D A [(h, .inr (1, [.null, .null, .null, .null, .null, .int 0, .int 0, .null, .null, .int 0, .int 0, .int 0, .int 0, .int 0])), (a1, .inl (ca1, 212, .inl (fun _ => 0)))] := hD
  refine W.widen (k := 1) (n := 212) (by omega) (by omega) ?_
  refine va_putF (D := (dC, dI)) (ci := 1) (v := .ref a1) (ty := .array .int) (C := RX1) (T := TX1) (N := 14) hx hb hts hin tyX1 tyX1_ok nmX1 hown hK hP hD hS 0 rfl rfl 0 (by decide) (hts (.fieldLink RX1 9 "JournalShelfModel" "flushed" "[I") (by decide +kernel)) (fun _ h9 => h9) rfl hin2 rfl (by decide +kernel) rfl rfl (Nat.le_of_ble_eq_true rfl) dX1_init_10 (fun H locs hP hD hS => ?_)
  have hP : va_P (dC, dI) vwCl [(h, .inr (1, [.ref a1, .null, .null, .null, .null, .int 0, .int 0, .null, .null, .int 0, .int 0, .int 0, .int 0, .int 0])), (a1, .inl (ca1, 212, .inl (fun _ => 0)))] H := hP
  have hD : va_D A [(h, .inr (1, [.ref a1, .null, .null, .null, .null, .int 0, .int 0, .null, .null, .int 0, .int 0, .int 0, .int 0, .int 0])), (a1, .inl (ca1, 212, .inl (fun _ => 0)))] := hD
  refine lv_aload_n hx hb dX1_init_13 rfl (lv_at hl 0 rfl) ?_
  refine lv_sipush (v := nI 212) hx hb dX1_init_14 (by decide +kernel) ?_
  have hc9 : 2 ≤ 7 := by decide
  have hs9 : 424 ≤ 530 := by decide
  refine va_newa (atype := .int) (ty := .int) (N' := 212) (a0 := (212, .inl (fun _ => 0))) hx hb (hts (.arrayClass .int) (by decide +kernel)) rfl hK hP hD hS hA (fun _ => ja_zero _ _) (by decide +kernel) (by decide +kernel) (by decide +kernel) hc9 hs9 dX1_init_17 (fun a2 ca2 H hK hP hD hS => ?_)
  have hK : va_K (dC, dI) vwCl [(ca1, .int), (ca2, .int)] s := hK
  have hP : va_P (dC, dI) vwCl [(h, .inr (1, [.ref a1, .null, .null, .null, .null, .int 0, .int 0, .null, .null, .int 0, .int 0, .int 0, .int 0, .int 0])), (a1, .inl (ca1, 212, .inl (fun _ => 0))), (a2, .inl (ca2, 212, .inl (fun _ => 0)))] H := hP
  have hD : va_D A [(h, .inr (1, [.ref a1, .null, .null, .null, .null, .int 0, .int 0, .null, .null, .int 0, .int 0, .int 0, .int 0, .int 0])), (a1, .inl (ca1, 212, .inl (fun _ => 0))), (a2, .inl (ca2, 212, .inl (fun _ => 0)))] := hD
  refine W.widen (k := 2) (n := 424) (by omega) (by omega) ?_
  refine va_putF (D := (dC, dI)) (ci := 1) (v := .ref a2) (ty := .array .int) (C := RX1) (T := TX1) (N := 14) hx hb hts hin tyX1 tyX1_ok nmX1 hown hK hP hD hS 0 rfl rfl 1 (by decide) (hts (.fieldLink RX1 13 "JournalShelfModel" "now" "[I") (by decide +kernel)) (fun _ h9 => h9) rfl hin2 rfl (by decide +kernel) rfl rfl (Nat.le_of_ble_eq_true rfl) dX1_init_19 (fun H locs hP hD hS => ?_)
  have hP : va_P (dC, dI) vwCl [(h, .inr (1, [.ref a1, .ref a2, .null, .null, .null, .int 0, .int 0, .null, .null, .int 0, .int 0, .int 0, .int 0, .int 0])), (a1, .inl (ca1, 212, .inl (fun _ => 0))), (a2, .inl (ca2, 212, .inl (fun _ => 0)))] H := hP
  have hD : va_D A [(h, .inr (1, [.ref a1, .ref a2, .null, .null, .null, .int 0, .int 0, .null, .null, .int 0, .int 0, .int 0, .int 0, .int 0])), (a1, .inl (ca1, 212, .inl (fun _ => 0))), (a2, .inl (ca2, 212, .inl (fun _ => 0)))] := hD
  refine lv_aload_n hx hb dX1_init_22 rfl (lv_at hl 0 rfl) ?_
  refine lv_bipush (v := nI 24) hx hb dX1_init_23 (by decide +kernel) ?_
  have hc9 : 3 ≤ 7 := by decide
  have hs9 : 448 ≤ 530 := by decide
  refine va_newa (atype := .int) (ty := .int) (N' := 24) (a0 := (24, .inl (fun _ => 0))) hx hb (hts (.arrayClass .int) (by decide +kernel)) rfl hK hP hD hS hA (fun _ => ja_zero _ _) (by decide +kernel) (by decide +kernel) (by decide +kernel) hc9 hs9 dX1_init_25 (fun a3 ca3 H hK hP hD hS => ?_)
  have hK : va_K (dC, dI) vwCl [(ca1, .int), (ca2, .int), (ca3, .int)] s := hK
  have hP : va_P (dC, dI) vwCl [(h, .inr (1, [.ref a1, .ref a2, .null, .null, .null, .int 0, .int 0, .null, .null, .int 0, .int 0, .int 0, .int 0, .int 0])), (a1, .inl (ca1, 212, .inl (fun _ => 0))), (a2, .inl (ca2, 212, .inl (fun _ => 0))), (a3, .inl (ca3, 24, .inl (fun _ => 0)))] H := hP
  have hD : va_D A [(h, .inr (1, [.ref a1, .ref a2, .null, .null, .null, .int 0, .int 0, .null, .null, .int 0, .int 0, .int 0, .int 0, .int 0])), (a1, .inl (ca1, 212, .inl (fun _ => 0))), (a2, .inl (ca2, 212, .inl (fun _ => 0))), (a3, .inl (ca3, 24, .inl (fun _ => 0)))] := hD
  refine W.widen (k := 3) (n := 448) (by omega) (by omega) ?_
  refine va_putF (D := (dC, dI)) (ci := 1) (v := .ref a3) (ty := .array .int) (C := RX1) (T := TX1) (N := 14) hx hb hts hin tyX1 tyX1_ok nmX1 hown hK hP hD hS 0 rfl rfl 2 (by decide) (hts (.fieldLink RX1 16 "JournalShelfModel" "slot" "[I") (by decide +kernel)) (fun _ h9 => h9) rfl hin2 rfl (by decide +kernel) rfl rfl (Nat.le_of_ble_eq_true rfl) dX1_init_27 (fun H locs hP hD hS => ?_)
  have hP : va_P (dC, dI) vwCl [(h, .inr (1, [.ref a1, .ref a2, .ref a3, .null, .null, .int 0, .int 0, .null, .null, .int 0, .int 0, .int 0, .int 0, .int 0])), (a1, .inl (ca1, 212, .inl (fun _ => 0))), (a2, .inl (ca2, 212, .inl (fun _ => 0))), (a3, .inl (ca3, 24, .inl (fun _ => 0)))] H := hP
  have hD : va_D A [(h, .inr (1, [.ref a1, .ref a2, .ref a3, .null, .null, .int 0, .int 0, .null, .null, .int 0, .int 0, .int 0, .int 0, .int 0])), (a1, .inl (ca1, 212, .inl (fun _ => 0))), (a2, .inl (ca2, 212, .inl (fun _ => 0))), (a3, .inl (ca3, 24, .inl (fun _ => 0)))] := hD
  refine lv_aload_n hx hb dX1_init_30 rfl (lv_at hl 0 rfl) ?_
  refine lv_bipush (v := nI 24) hx hb dX1_init_31 (by decide +kernel) ?_
  have hc9 : 4 ≤ 7 := by decide
  have hs9 : 472 ≤ 530 := by decide
  refine va_newa (atype := .int) (ty := .int) (N' := 24) (a0 := (24, .inl (fun _ => 0))) hx hb (hts (.arrayClass .int) (by decide +kernel)) rfl hK hP hD hS hA (fun _ => ja_zero _ _) (by decide +kernel) (by decide +kernel) (by decide +kernel) hc9 hs9 dX1_init_33 (fun a4 ca4 H hK hP hD hS => ?_)
  have hK : va_K (dC, dI) vwCl [(ca1, .int), (ca2, .int), (ca3, .int), (ca4, .int)] s := hK
  have hP : va_P (dC, dI) vwCl [(h, .inr (1, [.ref a1, .ref a2, .ref a3, .null, .null, .int 0, .int 0, .null, .null, .int 0, .int 0, .int 0, .int 0, .int 0])), (a1, .inl (ca1, 212, .inl (fun _ => 0))), (a2, .inl (ca2, 212, .inl (fun _ => 0))), (a3, .inl (ca3, 24, .inl (fun _ => 0))), (a4, .inl (ca4, 24, .inl (fun _ => 0)))] H := hP
  have hD : va_D A [(h, .inr (1, [.ref a1, .ref a2, .ref a3, .null, .null, .int 0, .int 0, .null, .null, .int 0, .int 0, .int 0, .int 0, .int 0])), (a1, .inl (ca1, 212, .inl (fun _ => 0))), (a2, .inl (ca2, 212, .inl (fun _ => 0))), (a3, .inl (ca3, 24, .inl (fun _ => 0))), (a4, .inl (ca4, 24, .inl (fun _ => 0)))] := hD
  refine W.widen (k := 4) (n := 472) (by omega) (by omega) ?_
  refine va_putF (D := (dC, dI)) (ci := 1) (v := .ref a4) (ty := .array .int) (C := RX1) (T := TX1) (N := 14) hx hb hts hin tyX1 tyX1_ok nmX1 hown hK hP hD hS 0 rfl rfl 3 (by decide) (hts (.fieldLink RX1 19 "JournalShelfModel" "value" "[I") (by decide +kernel)) (fun _ h9 => h9) rfl hin2 rfl (by decide +kernel) rfl rfl (Nat.le_of_ble_eq_true rfl) dX1_init_35 (fun H locs hP hD hS => ?_)
  have hP : va_P (dC, dI) vwCl [(h, .inr (1, [.ref a1, .ref a2, .ref a3, .ref a4, .null, .int 0, .int 0, .null, .null, .int 0, .int 0, .int 0, .int 0, .int 0])), (a1, .inl (ca1, 212, .inl (fun _ => 0))), (a2, .inl (ca2, 212, .inl (fun _ => 0))), (a3, .inl (ca3, 24, .inl (fun _ => 0))), (a4, .inl (ca4, 24, .inl (fun _ => 0)))] H := hP
  have hD : va_D A [(h, .inr (1, [.ref a1, .ref a2, .ref a3, .ref a4, .null, .int 0, .int 0, .null, .null, .int 0, .int 0, .int 0, .int 0, .int 0])), (a1, .inl (ca1, 212, .inl (fun _ => 0))), (a2, .inl (ca2, 212, .inl (fun _ => 0))), (a3, .inl (ca3, 24, .inl (fun _ => 0))), (a4, .inl (ca4, 24, .inl (fun _ => 0)))] := hD
  refine lv_aload_n hx hb dX1_init_38 rfl (lv_at hl 0 rfl) ?_
  refine lv_bipush (v := nI 24) hx hb dX1_init_39 (by decide +kernel) ?_
  have hc9 : 5 ≤ 7 := by decide
  have hs9 : 496 ≤ 530 := by decide
  refine va_newa (atype := .int) (ty := .int) (N' := 24) (a0 := (24, .inl (fun _ => 0))) hx hb (hts (.arrayClass .int) (by decide +kernel)) rfl hK hP hD hS hA (fun _ => ja_zero _ _) (by decide +kernel) (by decide +kernel) (by decide +kernel) hc9 hs9 dX1_init_41 (fun a5 ca5 H hK hP hD hS => ?_)
  have hK : va_K (dC, dI) vwCl [(ca1, .int), (ca2, .int), (ca3, .int), (ca4, .int), (ca5, .int)] s := hK
  have hP : va_P (dC, dI) vwCl [(h, .inr (1, [.ref a1, .ref a2, .ref a3, .ref a4, .null, .int 0, .int 0, .null, .null, .int 0, .int 0, .int 0, .int 0, .int 0])), (a1, .inl (ca1, 212, .inl (fun _ => 0))), (a2, .inl (ca2, 212, .inl (fun _ => 0))), (a3, .inl (ca3, 24, .inl (fun _ => 0))), (a4, .inl (ca4, 24, .inl (fun _ => 0))), (a5, .inl (ca5, 24, .inl (fun _ => 0)))] H := hP
  have hD : va_D A [(h, .inr (1, [.ref a1, .ref a2, .ref a3, .ref a4, .null, .int 0, .int 0, .null, .null, .int 0, .int 0, .int 0, .int 0, .int 0])), (a1, .inl (ca1, 212, .inl (fun _ => 0))), (a2, .inl (ca2, 212, .inl (fun _ => 0))), (a3, .inl (ca3, 24, .inl (fun _ => 0))), (a4, .inl (ca4, 24, .inl (fun _ => 0))), (a5, .inl (ca5, 24, .inl (fun _ => 0)))] := hD
  refine W.widen (k := 5) (n := 496) (by omega) (by omega) ?_
  refine va_putF (D := (dC, dI)) (ci := 1) (v := .ref a5) (ty := .array .int) (C := RX1) (T := TX1) (N := 14) hx hb hts hin tyX1 tyX1_ok nmX1 hown hK hP hD hS 0 rfl rfl 4 (by decide) (hts (.fieldLink RX1 22 "JournalShelfModel" "lastOf" "[I") (by decide +kernel)) (fun _ h9 => h9) rfl hin2 rfl (by decide +kernel) rfl rfl (Nat.le_of_ble_eq_true rfl) dX1_init_43 (fun H locs hP hD hS => ?_)
  have hP : va_P (dC, dI) vwCl [(h, .inr (1, [.ref a1, .ref a2, .ref a3, .ref a4, .ref a5, .int 0, .int 0, .null, .null, .int 0, .int 0, .int 0, .int 0, .int 0])), (a1, .inl (ca1, 212, .inl (fun _ => 0))), (a2, .inl (ca2, 212, .inl (fun _ => 0))), (a3, .inl (ca3, 24, .inl (fun _ => 0))), (a4, .inl (ca4, 24, .inl (fun _ => 0))), (a5, .inl (ca5, 24, .inl (fun _ => 0)))] H := hP
  have hD : va_D A [(h, .inr (1, [.ref a1, .ref a2, .ref a3, .ref a4, .ref a5, .int 0, .int 0, .null, .null, .int 0, .int 0, .int 0, .int 0, .int 0])), (a1, .inl (ca1, 212, .inl (fun _ => 0))), (a2, .inl (ca2, 212, .inl (fun _ => 0))), (a3, .inl (ca3, 24, .inl (fun _ => 0))), (a4, .inl (ca4, 24, .inl (fun _ => 0))), (a5, .inl (ca5, 24, .inl (fun _ => 0)))] := hD
  refine lv_aload_n hx hb dX1_init_46 rfl (lv_at hl 0 rfl) ?_
  refine lv_bipush (v := nI 17) hx hb dX1_init_47 (by decide +kernel) ?_
  have hc9 : 6 ≤ 7 := by decide
  have hs9 : 513 ≤ 530 := by decide
  refine va_newa (atype := .int) (ty := .int) (N' := 17) (a0 := (17, .inl (fun _ => 0))) hx hb (hts (.arrayClass .int) (by decide +kernel)) rfl hK hP hD hS hA (fun _ => ja_zero _ _) (by decide +kernel) (by decide +kernel) (by decide +kernel) hc9 hs9 dX1_init_49 (fun a6 ca6 H hK hP hD hS => ?_)
  have hK : va_K (dC, dI) vwCl [(ca1, .int), (ca2, .int), (ca3, .int), (ca4, .int), (ca5, .int), (ca6, .int)] s := hK
  have hP : va_P (dC, dI) vwCl [(h, .inr (1, [.ref a1, .ref a2, .ref a3, .ref a4, .ref a5, .int 0, .int 0, .null, .null, .int 0, .int 0, .int 0, .int 0, .int 0])), (a1, .inl (ca1, 212, .inl (fun _ => 0))), (a2, .inl (ca2, 212, .inl (fun _ => 0))), (a3, .inl (ca3, 24, .inl (fun _ => 0))), (a4, .inl (ca4, 24, .inl (fun _ => 0))), (a5, .inl (ca5, 24, .inl (fun _ => 0))), (a6, .inl (ca6, 17, .inl (fun _ => 0)))] H := hP
  have hD : va_D A [(h, .inr (1, [.ref a1, .ref a2, .ref a3, .ref a4, .ref a5, .int 0, .int 0, .null, .null, .int 0, .int 0, .int 0, .int 0, .int 0])), (a1, .inl (ca1, 212, .inl (fun _ => 0))), (a2, .inl (ca2, 212, .inl (fun _ => 0))), (a3, .inl (ca3, 24, .inl (fun _ => 0))), (a4, .inl (ca4, 24, .inl (fun _ => 0))), (a5, .inl (ca5, 24, .inl (fun _ => 0))), (a6, .inl (ca6, 17, .inl (fun _ => 0)))] := hD
  refine W.widen (k := 6) (n := 513) (by omega) (by omega) ?_
  refine va_putF (D := (dC, dI)) (ci := 1) (v := .ref a6) (ty := .array .int) (C := RX1) (T := TX1) (N := 14) hx hb hts hin tyX1 tyX1_ok nmX1 hown hK hP hD hS 0 rfl rfl 7 (by decide) (hts (.fieldLink RX1 25 "JournalShelfModel" "ownSlot" "[I") (by decide +kernel)) (fun _ h9 => h9) rfl hin2 rfl (by decide +kernel) rfl rfl (Nat.le_of_ble_eq_true rfl) dX1_init_51 (fun H locs hP hD hS => ?_)
  have hP : va_P (dC, dI) vwCl [(h, .inr (1, [.ref a1, .ref a2, .ref a3, .ref a4, .ref a5, .int 0, .int 0, .ref a6, .null, .int 0, .int 0, .int 0, .int 0, .int 0])), (a1, .inl (ca1, 212, .inl (fun _ => 0))), (a2, .inl (ca2, 212, .inl (fun _ => 0))), (a3, .inl (ca3, 24, .inl (fun _ => 0))), (a4, .inl (ca4, 24, .inl (fun _ => 0))), (a5, .inl (ca5, 24, .inl (fun _ => 0))), (a6, .inl (ca6, 17, .inl (fun _ => 0)))] H := hP
  have hD : va_D A [(h, .inr (1, [.ref a1, .ref a2, .ref a3, .ref a4, .ref a5, .int 0, .int 0, .ref a6, .null, .int 0, .int 0, .int 0, .int 0, .int 0])), (a1, .inl (ca1, 212, .inl (fun _ => 0))), (a2, .inl (ca2, 212, .inl (fun _ => 0))), (a3, .inl (ca3, 24, .inl (fun _ => 0))), (a4, .inl (ca4, 24, .inl (fun _ => 0))), (a5, .inl (ca5, 24, .inl (fun _ => 0))), (a6, .inl (ca6, 17, .inl (fun _ => 0)))] := hD
  refine lv_aload_n hx hb dX1_init_54 rfl (lv_at hl 0 rfl) ?_
  refine lv_bipush (v := nI 17) hx hb dX1_init_55 (by decide +kernel) ?_
  have hc9 : 7 ≤ 7 := by decide
  have hs9 : 530 ≤ 530 := by decide
  refine va_newa (atype := .int) (ty := .int) (N' := 17) (a0 := (17, .inl (fun _ => 0))) hx hb (hts (.arrayClass .int) (by decide +kernel)) rfl hK hP hD hS hA (fun _ => ja_zero _ _) (by decide +kernel) (by decide +kernel) (by decide +kernel) hc9 hs9 dX1_init_57 (fun a7 ca7 H hK hP hD hS => ?_)
  have hK : va_K (dC, dI) vwCl [(ca1, .int), (ca2, .int), (ca3, .int), (ca4, .int), (ca5, .int), (ca6, .int), (ca7, .int)] s := hK
  have hP : va_P (dC, dI) vwCl [(h, .inr (1, [.ref a1, .ref a2, .ref a3, .ref a4, .ref a5, .int 0, .int 0, .ref a6, .null, .int 0, .int 0, .int 0, .int 0, .int 0])), (a1, .inl (ca1, 212, .inl (fun _ => 0))), (a2, .inl (ca2, 212, .inl (fun _ => 0))), (a3, .inl (ca3, 24, .inl (fun _ => 0))), (a4, .inl (ca4, 24, .inl (fun _ => 0))), (a5, .inl (ca5, 24, .inl (fun _ => 0))), (a6, .inl (ca6, 17, .inl (fun _ => 0))), (a7, .inl (ca7, 17, .inl (fun _ => 0)))] H := hP
  have hD : va_D A [(h, .inr (1, [.ref a1, .ref a2, .ref a3, .ref a4, .ref a5, .int 0, .int 0, .ref a6, .null, .int 0, .int 0, .int 0, .int 0, .int 0])), (a1, .inl (ca1, 212, .inl (fun _ => 0))), (a2, .inl (ca2, 212, .inl (fun _ => 0))), (a3, .inl (ca3, 24, .inl (fun _ => 0))), (a4, .inl (ca4, 24, .inl (fun _ => 0))), (a5, .inl (ca5, 24, .inl (fun _ => 0))), (a6, .inl (ca6, 17, .inl (fun _ => 0))), (a7, .inl (ca7, 17, .inl (fun _ => 0)))] := hD
  refine W.widen (k := 7) (n := 530) (by omega) (by omega) ?_
  refine va_putF (D := (dC, dI)) (ci := 1) (v := .ref a7) (ty := .array .int) (C := RX1) (T := TX1) (N := 14) hx hb hts hin tyX1 tyX1_ok nmX1 hown hK hP hD hS 0 rfl rfl 8 (by decide) (hts (.fieldLink RX1 28 "JournalShelfModel" "ownValue" "[I") (by decide +kernel)) (fun _ h9 => h9) rfl hin2 rfl (by decide +kernel) rfl rfl (Nat.le_of_ble_eq_true rfl) dX1_init_59 (fun H locs hP hD hS => ?_)
  have hP : va_P (dC, dI) vwCl [(h, .inr (1, [.ref a1, .ref a2, .ref a3, .ref a4, .ref a5, .int 0, .int 0, .ref a6, .ref a7, .int 0, .int 0, .int 0, .int 0, .int 0])), (a1, .inl (ca1, 212, .inl (fun _ => 0))), (a2, .inl (ca2, 212, .inl (fun _ => 0))), (a3, .inl (ca3, 24, .inl (fun _ => 0))), (a4, .inl (ca4, 24, .inl (fun _ => 0))), (a5, .inl (ca5, 24, .inl (fun _ => 0))), (a6, .inl (ca6, 17, .inl (fun _ => 0))), (a7, .inl (ca7, 17, .inl (fun _ => 0)))] H := hP
  have hD : va_D A [(h, .inr (1, [.ref a1, .ref a2, .ref a3, .ref a4, .ref a5, .int 0, .int 0, .ref a6, .ref a7, .int 0, .int 0, .int 0, .int 0, .int 0])), (a1, .inl (ca1, 212, .inl (fun _ => 0))), (a2, .inl (ca2, 212, .inl (fun _ => 0))), (a3, .inl (ca3, 24, .inl (fun _ => 0))), (a4, .inl (ca4, 24, .inl (fun _ => 0))), (a5, .inl (ca5, 24, .inl (fun _ => 0))), (a6, .inl (ca6, 17, .inl (fun _ => 0))), (a7, .inl (ca7, 17, .inl (fun _ => 0)))] := hD
  have f0 : s.vm.findClass ("[" ++ FieldType.int.toString) = some ca1 := (hK.2 0 _ rfl).2
  have f1 : s.vm.findClass ("[" ++ FieldType.int.toString) = some ca2 := (hK.2 1 _ rfl).2
  have g1 : ca1 = ca2 := Option.some.inj (f0.symm.trans f1)
  have f2 : s.vm.findClass ("[" ++ FieldType.int.toString) = some ca3 := (hK.2 2 _ rfl).2
  have g2 : ca1 = ca3 := Option.some.inj (f0.symm.trans f2)
  have f3 : s.vm.findClass ("[" ++ FieldType.int.toString) = some ca4 := (hK.2 3 _ rfl).2
  have g3 : ca1 = ca4 := Option.some.inj (f0.symm.trans f3)
  have f4 : s.vm.findClass ("[" ++ FieldType.int.toString) = some ca5 := (hK.2 4 _ rfl).2
  have g4 : ca1 = ca5 := Option.some.inj (f0.symm.trans f4)
  have f5 : s.vm.findClass ("[" ++ FieldType.int.toString) = some ca6 := (hK.2 5 _ rfl).2
  have g5 : ca1 = ca6 := Option.some.inj (f0.symm.trans f5)
  have f6 : s.vm.findClass ("[" ++ FieldType.int.toString) = some ca7 := (hK.2 6 _ rfl).2
  have g6 : ca1 = ca7 := Option.some.inj (f0.symm.trans f6)
  subst g1
  subst g2
  subst g3
  subst g4
  subst g5
  subst g6
  have hK9 := hK.sub (tys' := [(ca1, .int)]) [0] rfl
  exact W.vret hx hb hr (fun t ht hW => ⟨⟨(a1, a2, a3, a4, a5, a6, a7, ca1), rfl, trivial, by rw [ht]; exact hP, va_K.moved hW.alike hK9, hD⟩, hS.F ht⟩) hS.2.2 dX1_init_62
