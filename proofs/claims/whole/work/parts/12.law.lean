/-! THE CLAIM OUT OF ONE WALK OF THE LAW'S BODY. Your part is whole_start (and what it stands on); all else here is the same for every law, but numbers. -/
def R_law : String := "JournalShelfLaw"
def lw_P (b : Addr) (xs : List Int32) (args : Array Value) (s : State) : Prop := args = #[.ref b] ∧ s.IntsAt b xs ∧ xs.length ≤ 1536 ∧ (Jvm.Cond.and given_1 narrow_1).before args s = true
def lw_Q (_ : Array Value) (s : State) (o : Outcome) (t : State) : Prop := o = .returned (some (.int 1)) ∧ Framed s o t [] 13 839
def lw_Z (below : List Frame) (a : Array Value) (s : State) : State → Prop := fun t => ∃ o, t.status = .running ∧ Ended t below o ∧ lw_Q a s o t
/-- the law's own end, with 1 on the stack, nothing written that was there before, its room as the claim has it -/
theorem lw_ret {p : Program} {l : Launch} {e : Env} {s : State} {m : MethodId} {below : List Frame} {meth : Method} {c : Code} {b : Nat} (hx : p.tables.exec = Jvm.exec) (hb : c.code = code) (hr : meth.sig.returnType = ret) (hlocks : meth.locks = false) {pc : Nat} {H : Heap} {ls : Array Slot} (hdg : decode code pc = .ok (.ireturn, 1)) : W p l e room_1 s m #[Value.ref b] below meth c H [] 13 839 (lw_Z below #[Value.ref b] s) (F0 m pc ls [.int 1]) := by
  intro T hT X
  obtain ⟨fs, hret, hrun, hended, hW, hframe⟩ := X.leave (v := some (.int 1)) (hlocks := hlocks) (fun h => by rw [hr] at h; cases h)
  have hmeth' : T.vm.method? m = some meth := X.method'
  refine ⟨T.setFrames fs, ?_, .returned (some (.int 1)), hrun, hended, rfl, ⟨_, rfl⟩, hW, hframe⟩
  jvm_step X.here [X.here.top, hx, hb, hdg, hmeth', hr, ret, narrow_b1]
  (try refine ⟨rfl, ?_⟩); (try refine ⟨rfl, ?_⟩)
  first | (intro acts; rw [hret _ acts rfl rfl rfl]) | rw [hret _ _ rfl rfl rfl]
  exact Steps.refl _
/-- what holds at the law's entry: the machine, the code, the tables' words (any of lw_tbl by 'hts w (by decide +kernel)'), the script of L ints xs at the cell b, what the Statement gives of the start (any of its parts by flat_of_before) -/
def lw_At (p : Program) (s : State) (m : MethodId) (meth : Method) (c : Code) (b L : Nat) (xs : Nat → Int32) : Prop :=
  p.tables.exec = Jvm.exec ∧ c.code = code ∧ meth.sig.returnType = ret ∧ c.maxLocals = 4 ∧ s.vm.findClass R_law = some m.cls ∧ (∀ w ∈ lw_tbl, w.before #[Value.ref b] s = true) ∧ va_X b L xs s s.heap ∧ b < s.heap.size ∧ meth.locks = false ∧ (Jvm.Cond.and given_1 narrow_1).before #[Value.ref b] s = true
set_option maxHeartbeats 1000000 in
set_option maxRecDepth 100000 in
theorem whole_start {p : Program} {e : Env} {s : State} {m : MethodId} {below : List Frame} {meth : Method} {c : Code} (l : Launch) {b L : Nat} {xs : Nat → Int32} (hL : L ≤ 1536) (C0 : lw_At p s m meth c b L xs) : W p l e room_1 s m #[Value.ref b] below meth c s.heap [] 0 0 (lw_Z below #[Value.ref b] s) (entryFrame m ([Value.ref b] : List Value).toArray 4) := by
  obtain ⟨hx, hb, hr, hml, hown, hts0, hX, hbl, hlocks, hgv⟩ := C0
  have hts : ∀ w ∈ wsL_law, w.before #[Value.ref b] s = true := fun w h => hts0 w (wsL_law_in w h)
  have hn0 : ∀ w ∈ u_ws RX0 TX0 11, w ∈ wsL_law := by decide +kernel
  obtain ⟨dc0, di0, hKn0⟩ := u_known (C := RX0) (T := TX0) (N := 11) hts hn0 (hts (.instantiable RX0 11) (by decide +kernel))
  have hn1 : ∀ w ∈ u_ws RX1 TX1 14, w ∈ wsL_law := by decide +kernel
  obtain ⟨dc1, di1, hKn1⟩ := u_known (C := RX1) (T := TX1) (N := 14) hts hn1 (hts (.instantiable RX1 14) (by decide +kernel))
  have hK : va_K ((fun k : Nat => if k = 0 then dc0 else dc1), (fun k : Nat => if k = 0 then di0 else di1)) vwCl [] s := ja_K2 (cl := vwCl) rfl rfl rfl hKn0 hKn1
  generalize (fun k : Nat => if k = 0 then dc0 else dc1) = dC at hK
  generalize (fun k : Nat => if k = 0 then di0 else di1) = dI at hK
  have hP : va_P (dC, dI) vwCl [] s.heap := fun k q h => by simp at h
  have hD : va_D (fun q : Nat => s.heap.size ≤ q) [] := ⟨fun i j p q h => by simp at h, fun k q h => by simp at h⟩
  obtain ⟨A, hAe⟩ : ∃ A : Nat → Prop, A = (fun q : Nat => s.heap.size ≤ q) := ⟨_, rfl⟩
  rw [← hAe] at hD
  have hA : ∀ q : Nat, s.heap.size ≤ q → A q := fun q h => by rw [hAe]; exact h
  have hAb : ∀ q : Nat, A q → s.heap.size ≤ q := fun q h => by rw [hAe] at h; exact h
  have hbA : ¬ A b := fun h => absurd (hAb b h) (Nat.not_le.mpr hbl)
  refine ja_st0 s.heap [] hP (va_S.rf (A := A)) (fun H locs hP hS => ?_)
  have hl := lv_entry ([.ref b]) (n := 4) (Nat.le_of_ble_eq_true rfl)
  rw [lg_entry_eq]
  generalize (lg_sl ([.ref b]) ++ List.replicate (4 - (lg_sl ([.ref b])).length) Slot.unset).toArray = ls at hl ⊢
  have hl : lv_has ls 4 [(0, .ref b)] := hl
  have hc9 : 1 ≤ 13 := by decide
  have hs9 : 11 ≤ 839 := by decide
  refine va_new (ci := 0) (fs := [.null, .null, .null, .null, .int 0, .int 0, .int 0, .int 0, .int 0, .int 0, .int 0]) (C := RX0) (T := TX0) (N := 11) hx hb hts hn0 tyX0 tyX0_ok hown (hts (.classLink RL 7 RX0) (by decide +kernel)) (hts (.instantiable RX0 11) (by decide +kernel)) (hts (.initialized RX0) (by decide +kernel)) hK hP hD hS hA rfl (fun j hj => by rcases (show j = 0 ∨ j = 1 ∨ j = 2 ∨ j = 3 ∨ j = 4 ∨ j = 5 ∨ j = 6 ∨ j = 7 ∨ j = 8 ∨ j = 9 ∨ j = 10 by omega) with rfl | rfl | rfl | rfl | rfl | rfl | rfl | rfl | rfl | rfl | rfl <;> rfl) hc9 hs9 dL_law_0 (fun xh H hP hD hS => ?_)
  have hP : va_P (dC, dI) vwCl ([(xh, .inr (0, [.null, .null, .null, .null, .int 0, .int 0, .int 0, .int 0, .int 0, .int 0, .int 0]))]) H := hP
  have hD : va_D A ([(xh, .inr (0, [.null, .null, .null, .null, .int 0, .int 0, .int 0, .int 0, .int 0, .int 0, .int 0]))]) := hD
  refine W.widen (k := 1) (n := 11) (by omega) (by omega) ?_
  refine lv_dup hx hb dL_law_3 rfl ?_
  have hPc := hP.sub (ws' := [(xh, .inr (0, [.null, .null, .null, .null, .int 0, .int 0, .int 0, .int 0, .int 0, .int 0, .int 0]))]) [0] rfl
  have hDc := hD.sub (ws' := [(xh, .inr (0, [.null, .null, .null, .null, .int 0, .int 0, .int 0, .int 0, .int 0, .int 0, .int 0]))]) [0] (by decide) rfl
  have hFc := va_free (wc := [(xh, .inr (0, [.null, .null, .null, .null, .int 0, .int 0, .int 0, .int 0, .int 0, .int 0, .int 0]))]) hD hS hA [0] rfl
  have hc8 : 5 ≤ 13 := by decide
  have hs8 : 295 ≤ 839 := by decide
  refine va_callv (va_runI (As := []) (rest := [.ref xh]) ⟨hx, hb, hml, hown, hts⟩ (cX_init l dC dI xh H.size) (cwI 0 hts gL_law_X0_init rfl rfl rfl (hts (.initialized RX0) (by decide +kernel)) (hts (.methodLink RL 9 yX0_init) (by decide +kernel)) (hts (.instanceMethod yX0_init) (by decide +kernel)) rfl (by decide +kernel) ⟨Nat.le_of_ble_eq_true rfl, Nat.le_of_ble_eq_true rfl⟩) ⟨ja_blW, fun U hU hW => ⟨rfl, by rw [hU], by rw [hU]; exact hPc, va_K.moved hW.alike hK, hDc.weaken (fun _ _ _ _ => trivial)⟩⟩ rfl rfl hl.1 rfl (lv_room (Nat.le_of_ble_eq_true rfl)) dL_law_4 ⟨hc8, hs8⟩) hS (fun q _ h => hFc q h) hFc (fun u t H1 locs ht hvm hw hB hz1 hk1 hS => ?_)
  obtain ⟨x1, x2, x3, x4, cA⟩ := u
  obtain ⟨hP1, hK1, hD1⟩ := hB
  rw [ht] at hP1
  obtain ⟨hP, hD⟩ := va_join (wr := []) (w1 := ja_wX xh x1 x2 x3 x4 cA (fun _ => 0) (fun _ => 0) (fun _ => 0) (fun _ => 0) 0 0 0 0 0 0 0) hP hD [0] [] rfl rfl (by decide) (by decide) hk1 hFc hP1 hD1
  have hK : va_K (dC, dI) vwCl [(cA, .int)] s := va_K.moved hvm.symm hK1
  have hP : va_P (dC, dI) vwCl (ja_wX xh x1 x2 x3 x4 cA (fun _ => 0) (fun _ => 0) (fun _ => 0) (fun _ => 0) 0 0 0 0 0 0 0) H1 := hP
  have hD : va_D A (ja_wX xh x1 x2 x3 x4 cA (fun _ => 0) (fun _ => 0) (fun _ => 0) (fun _ => 0) 0 0 0 0 0 0 0) := hD
  refine W.widen (k := 5) (n := 295) (by omega) (by omega) ?_
  refine lv_astore_n (lv' := [(1, .ref xh), (0, .ref b)]) hx hb dL_law_7 rfl hl (by decide) rfl (fun ls hl => ?_)
  have hc9 : 6 ≤ 13 := by decide
  have hs9 : 309 ≤ 839 := by decide
  refine va_new (ci := 1) (fs := [.null, .null, .null, .null, .null, .int 0, .int 0, .null, .null, .int 0, .int 0, .int 0, .int 0, .int 0]) (C := RX1) (T := TX1) (N := 14) hx hb hts hn1 tyX1 tyX1_ok hown (hts (.classLink RL 10 RX1) (by decide +kernel)) (hts (.instantiable RX1 14) (by decide +kernel)) (hts (.initialized RX1) (by decide +kernel)) hK hP hD hS hA rfl (fun j hj => by rcases (show j = 0 ∨ j = 1 ∨ j = 2 ∨ j = 3 ∨ j = 4 ∨ j = 5 ∨ j = 6 ∨ j = 7 ∨ j = 8 ∨ j = 9 ∨ j = 10 ∨ j = 11 ∨ j = 12 ∨ j = 13 by omega) with rfl | rfl | rfl | rfl | rfl | rfl | rfl | rfl | rfl | rfl | rfl | rfl | rfl | rfl <;> rfl) hc9 hs9 dL_law_8 (fun mh H hP hD hS => ?_)
  have hP : va_P (dC, dI) vwCl (ja_wX xh x1 x2 x3 x4 cA (fun _ => 0) (fun _ => 0) (fun _ => 0) (fun _ => 0) 0 0 0 0 0 0 0 ++ [(mh, .inr (1, [.null, .null, .null, .null, .null, .int 0, .int 0, .null, .null, .int 0, .int 0, .int 0, .int 0, .int 0]))]) H := hP
  have hD : va_D A (ja_wX xh x1 x2 x3 x4 cA (fun _ => 0) (fun _ => 0) (fun _ => 0) (fun _ => 0) 0 0 0 0 0 0 0 ++ [(mh, .inr (1, [.null, .null, .null, .null, .null, .int 0, .int 0, .null, .null, .int 0, .int 0, .int 0, .int 0, .int 0]))]) := hD
  refine W.widen (k := 6) (n := 309) (by omega) (by omega) ?_
  refine lv_dup hx hb dL_law_11 rfl ?_
  have hK0 := hK.sub (tys' := []) [] rfl
  have hPc := hP.sub (ws' := [(mh, .inr (1, [.null, .null, .null, .null, .null, .int 0, .int 0, .null, .null, .int 0, .int 0, .int 0, .int 0, .int 0]))]) [5] rfl
  have hDc := hD.sub (ws' := [(mh, .inr (1, [.null, .null, .null, .null, .null, .int 0, .int 0, .null, .null, .int 0, .int 0, .int 0, .int 0, .int 0]))]) [5] (by decide) rfl
  have hFc := va_free (wc := [(mh, .inr (1, [.null, .null, .null, .null, .null, .int 0, .int 0, .null, .null, .int 0, .int 0, .int 0, .int 0, .int 0]))]) hD hS hA [5] rfl
  have hc8 : 13 ≤ 13 := by decide
  have hs8 : 839 ≤ 839 := by decide
  refine va_callv (va_runI (As := []) (rest := [.ref mh]) ⟨hx, hb, hml, hown, hts⟩ (cM_init l dC dI mh H.size) (cwI 0 hts gL_law_X1_init rfl rfl rfl (hts (.initialized RX1) (by decide +kernel)) (hts (.methodLink RL 12 yX1_init) (by decide +kernel)) (hts (.instanceMethod yX1_init) (by decide +kernel)) rfl (by decide +kernel) ⟨Nat.le_of_ble_eq_true rfl, Nat.le_of_ble_eq_true rfl⟩) ⟨ja_blW, fun U hU hW => ⟨rfl, by rw [hU], by rw [hU]; exact hPc, va_K.moved hW.alike hK0, hDc.weaken (fun _ _ _ _ => trivial)⟩⟩ rfl rfl hl.1 rfl (lv_room (Nat.le_of_ble_eq_true rfl)) dL_law_12 ⟨hc8, hs8⟩) hS (fun q _ h => hFc q h) hFc (fun u t H1 locs ht hvm hw hB hz1 hk1 hS => ?_)
  obtain ⟨m1, m2, m3, m4, m5, m6, m7, cB⟩ := u
  obtain ⟨hP1, hK1, hD1⟩ := hB
  rw [ht] at hP1
  obtain ⟨hP, hD⟩ := va_join (wr := ja_wX xh x1 x2 x3 x4 cA (fun _ => 0) (fun _ => 0) (fun _ => 0) (fun _ => 0) 0 0 0 0 0 0 0) (w1 := ja_wM mh m1 m2 m3 m4 m5 m6 m7 cB (fun _ => 0) (fun _ => 0) (fun _ => 0) (fun _ => 0) (fun _ => 0) (fun _ => 0) (fun _ => 0) 0 0 0 0 0 0 0) hP hD [5] [0, 1, 2, 3, 4] rfl rfl (by decide) (by decide) hk1 hFc hP1 hD1
  have hK2 : va_K (dC, dI) vwCl [(cB, .int)] s := va_K.moved hvm.symm hK1
  have f0 : s.vm.findClass ("[" ++ FieldType.int.toString) = some cA := (hK.2 0 _ rfl).2
  have f1 : s.vm.findClass ("[" ++ FieldType.int.toString) = some cB := (hK2.2 0 _ rfl).2
  have g1 : cA = cB := Option.some.inj (f0.symm.trans f1)
  subst g1
  have hP : va_P (dC, dI) vwCl (ja_wX xh x1 x2 x3 x4 cA (fun _ => 0) (fun _ => 0) (fun _ => 0) (fun _ => 0) 0 0 0 0 0 0 0 ++ ja_wM mh m1 m2 m3 m4 m5 m6 m7 cA (fun _ => 0) (fun _ => 0) (fun _ => 0) (fun _ => 0) (fun _ => 0) (fun _ => 0) (fun _ => 0) 0 0 0 0 0 0 0) H1 := hP
  have hD : va_D A (ja_wX xh x1 x2 x3 x4 cA (fun _ => 0) (fun _ => 0) (fun _ => 0) (fun _ => 0) 0 0 0 0 0 0 0 ++ ja_wM mh m1 m2 m3 m4 m5 m6 m7 cA (fun _ => 0) (fun _ => 0) (fun _ => 0) (fun _ => 0) (fun _ => 0) (fun _ => 0) (fun _ => 0) 0 0 0 0 0 0 0) := hD
  refine W.widen (k := 13) (n := 839) (by omega) (by omega) ?_
  refine lv_astore_n (lv' := [(2, .ref mh), (1, .ref xh), (0, .ref b)]) hx hb dL_law_15 rfl hl (by decide) rfl (fun ls hl => ?_)
  refine lv_iconst (v := nI 0) hx hb dL_law_16 (by decide +kernel) ?_
  refine lv_istore_n (lv' := [(3, .int (nI 0)), (2, .ref mh), (1, .ref xh), (0, .ref b)]) hx hb dL_law_17 rfl hl (by decide) rfl (fun ls hl => ?_)
  refine ja_lpW (A1 := Nat × ja_SX × ja_SM) 18 (fun x ls H locs => lv_has ls 4 [(3, .int (nI x.1)), (2, .ref mh), (1, .ref xh), (0, .ref b)] ∧ va_P (dC, dI) vwCl (ja_uX xh x1 x2 x3 x4 cA x.2.1 ++ ja_uM mh m1 m2 m3 m4 m5 m6 m7 cA x.2.2) H ∧ va_D A (ja_uX xh x1 x2 x3 x4 cA x.2.1 ++ ja_uM mh m1 m2 m3 m4 m5 m6 m7 cA x.2.2) ∧ va_S A s.heap H locs ∧ ja_Rel x.2.1 x.2.2 ∧ x.1 ≤ 1536) (fun x => 2000 - x.1) ?_ (0, ((fun _ => 0), (fun _ => 0), (fun _ => 0), (fun _ => 0), 0, 0, 0, 0, 0, 0, 0), ((fun _ => 0), (fun _ => 0), (fun _ => 0), (fun _ => 0), (fun _ => 0), (fun _ => 0), (fun _ => 0), 0, 0, 0, 0, 0, 0, 0)) ls H1 locs ⟨hl, hP, hD, hS, ja_R_new, Nat.zero_le _⟩
  have hc7 : 13 ≤ 13 := by decide
  have hs7 : 839 ≤ 839 := by decide
  intro x ls H locs hI ih
  obtain ⟨hl, hP, hD, hS, hR, hi⟩ := hI
  obtain ⟨i, ⟨sv, js, jv, jd, cc, oc, sd, jn, fb, fl, cr⟩, fd, nw, sl, vl, la, os, ov, ch, hm, ow, de, si, fm, cm⟩ := x
  have hi : i ≤ 1536 := hi
  have hl : lv_has ls 4 [(3, .int (nI i)), (2, .ref mh), (1, .ref xh), (0, .ref b)] := hl
  have hP : va_P (dC, dI) vwCl (ja_wX xh x1 x2 x3 x4 cA sv js jv jd cc oc sd jn fb fl cr ++ ja_wM mh m1 m2 m3 m4 m5 m6 m7 cA fd nw sl vl la os ov ch hm ow de si fm cm) H := hP
  have hD : va_D A (ja_wX xh x1 x2 x3 x4 cA sv js jv jd cc oc sd jn fb fl cr ++ ja_wM mh m1 m2 m3 m4 m5 m6 m7 cA fd nw sl vl la os ov ch hm ow de si fm cm) := hD
  have hR : ja_R sv js jv jd cc oc sd jn fb fl cr fd nw sl vl la os ov ch hm ow de si fm cm := hR
  have q1 : ch = cc := hR.1
  have q2 : ow = oc := hR.2.1
  have q3 : oc ≤ 17 := hR.2.2.1
  have q4 : cc ≤ 24 := hR.2.2.2.1
  have q5 : oc = 0 ∨ cc ≤ 7 := hR.2.2.2.2.1
  have q6 : ∀ k, k < cc → vp_in (js k) 212 := fun k hk => (hR.2.2.2.2.2.1 k hk).2.2.1
  have q7 : ∀ k, k < ch → vp_in (sl k) 212 := fun k hk => by rw [(hR.2.2.2.2.2.1 k (by omega)).1]; exact q6 k (by omega)
  have q8 : ∀ k, k < ow → vp_in (os k) 212 := fun k hk => (hR.2.2.2.2.2.2.1 k (by omega)).2.2.1
  refine lv_iload_n hx hb dL_law_18 rfl (lv_at hl 0 rfl) ?_
  refine lv_aload_n hx hb dL_law_19 rfl (lv_at hl 3 rfl) ?_
  refine va_slen hx hb hX hbl hbA hS dL_law_20 ?_
  refine lv_iconst (v := nI 3) hx hb dL_law_21 (by decide +kernel) ?_
  refine lv_isub hx hb dL_law_22 ?_
  refine lv_icmp_gt hx hb dL_law_23 (tgt := 250) (by decide) (fun h23 => ?_) (fun h23 => ?_)
  · refine lv_iconst (v := nI 1) hx hb dL_law_250 (by decide +kernel) ?_
    refine ja_top (y := 1) (by decide +kernel) ?_
    refine va_forget (fun q hq => hAb _ (hS.2.2 q hq)) ?_
    refine W.widen (k := 13) (n := 839) (by decide) (by decide) ?_
    exact lw_ret hx hb hr hlocks dL_law_251
  · have hi3 : i + 3 ≤ L := ja_law_in hL hi h23
    refine lv_aload_n hx hb dL_law_26 rfl (lv_at hl 3 rfl) ?_
    refine lv_iload_n hx hb dL_law_27 rfl (lv_at hl 0 rfl) ?_
    refine ja_sld hx hb hX hbl hbA hS (k := i) (by omega) (by omega) dL_law_28 ?_
    refine lv_bipush (v := nI 7) hx hb dL_law_29 (by decide +kernel) ?_
    refine lv_iand hx hb dL_law_31 ?_
    obtain ⟨j, hj, hsw⟩ := pk_andE (xs i) (m := nI 7) 3 (by decide +kernel)
    refine ja_top hsw ?_
    obtain rfl | rfl | rfl | rfl | rfl | rfl | rfl | rfl : j = 0 ∨ j = 1 ∨ j = 2 ∨ j = 3 ∨ j = 4 ∨ j = 5 ∨ j = 6 ∨ j = 7 := by omega
    · refine lv_tableIn (off := 48) (tgt := 80) hx hb dL_law_32 (by decide +kernel) (by decide +kernel) (by decide +kernel) (by decide) ?_
      refine lv_aload_n hx hb dL_law_80 rfl (lv_at hl 2 rfl) ?_
      refine lv_aload_n hx hb dL_law_81 rfl (lv_at hl 3 rfl) ?_
      refine lv_iload_n hx hb dL_law_82 rfl (lv_at hl 0 rfl) ?_
      refine lv_iconst (v := nI 1) hx hb dL_law_83 (by decide +kernel) ?_
      refine lv_iadd hx hb dL_law_84 ?_
      refine ja_top (y := nI (i + 1)) (nI_add _ _) ?_
      refine ja_sld hx hb hX hbl hbA hS (k := (i + 1)) (by omega) (by omega) dL_law_85 ?_
      refine lv_aload_n hx hb dL_law_86 rfl (lv_at hl 3 rfl) ?_
      refine lv_iload_n hx hb dL_law_87 rfl (lv_at hl 0 rfl) ?_
      refine lv_iconst (v := nI 2) hx hb dL_law_88 (by decide +kernel) ?_
      refine lv_iadd hx hb dL_law_89 ?_
      refine ja_top (y := nI (i + 2)) (nI_add _ _) ?_
      refine ja_sld hx hb hX hbl hbA hS (k := (i + 2)) (by omega) (by omega) dL_law_90 ?_
      have hPcX := hP.sub (ws' := ja_wX xh x1 x2 x3 x4 cA sv js jv jd cc oc sd jn fb fl cr) [0, 1, 2, 3, 4] rfl
      refine ja_cW (wr := ja_wM mh m1 m2 m3 m4 m5 m6 m7 cA fd nw sl vl la os ov ch hm ow de si fm cm) (wc := ja_wX xh x1 x2 x3 x4 cA sv js jv jd cc oc sd jn fb fl cr) (As := [.int (xs (i + 1)), .int (xs (i + 2))]) (rest := []) ⟨hx, hb, hml, hown, hts⟩ (cX_change l dC dI xh x1 x2 x3 x4 cA H.size sv js jv jd cc oc sd jn fb fl cr (xs (i + 1)) (xs (i + 2)) q4 q3 q5 q6) (cwV 2 hts gL_law_X0_change rfl rfl rfl (by decide +kernel) ⟨Nat.le_of_ble_eq_true rfl, Nat.le_of_ble_eq_true rfl⟩) hK hP hPcX hD hS hA [0, 1, 2, 3, 4] [5, 6, 7, 8, 9, 10, 11, 12] rfl rfl (by decide) (by decide) (by decide) (ja_rcv (ci := 0) (q0 := 0) hK hPcX rfl rfl rfl) rfl hl.1 rfl (Nat.le_of_ble_eq_true rfl) dL_law_91 ⟨hc7, hs7⟩ (fun rX ux H locs hrX hP hD hS => ?_)
      have hP : va_P (dC, dI) vwCl (ja_wM mh m1 m2 m3 m4 m5 m6 m7 cA fd nw sl vl la os ov ch hm ow de si fm cm ++ ja_uX xh x1 x2 x3 x4 cA ux) H := hP
      have hD : va_D A (ja_wM mh m1 m2 m3 m4 m5 m6 m7 cA fd nw sl vl la os ov ch hm ow de si fm cm ++ ja_uX xh x1 x2 x3 x4 cA ux) := hD
      refine lv_aload_n hx hb dL_law_94 rfl (lv_at hl 1 rfl) ?_
      refine lv_aload_n hx hb dL_law_95 rfl (lv_at hl 3 rfl) ?_
      refine lv_iload_n hx hb dL_law_96 rfl (lv_at hl 0 rfl) ?_
      refine lv_iconst (v := nI 1) hx hb dL_law_97 (by decide +kernel) ?_
      refine lv_iadd hx hb dL_law_98 ?_
      refine ja_top (y := nI (i + 1)) (nI_add _ _) ?_
      refine ja_sld hx hb hX hbl hbA hS (k := (i + 1)) (by omega) (by omega) dL_law_99 ?_
      refine lv_aload_n hx hb dL_law_100 rfl (lv_at hl 3 rfl) ?_
      refine lv_iload_n hx hb dL_law_101 rfl (lv_at hl 0 rfl) ?_
      refine lv_iconst (v := nI 2) hx hb dL_law_102 (by decide +kernel) ?_
      refine lv_iadd hx hb dL_law_103 ?_
      refine ja_top (y := nI (i + 2)) (nI_add _ _) ?_
      refine ja_sld hx hb hX hbl hbA hS (k := (i + 2)) (by omega) (by omega) dL_law_104 ?_
      have hPcM := hP.sub (ws' := ja_wM mh m1 m2 m3 m4 m5 m6 m7 cA fd nw sl vl la os ov ch hm ow de si fm cm) [0, 1, 2, 3, 4, 5, 6, 7] rfl
      refine ja_cW (wr := ja_uX xh x1 x2 x3 x4 cA ux) (wc := ja_wM mh m1 m2 m3 m4 m5 m6 m7 cA fd nw sl vl la os ov ch hm ow de si fm cm) (As := [.int (xs (i + 1)), .int (xs (i + 2))]) (rest := [.int rX]) ⟨hx, hb, hml, hown, hts⟩ (cM_change l dC dI mh m1 m2 m3 m4 m5 m6 m7 cA H.size fd nw sl vl la os ov ch hm ow de si fm cm (xs (i + 1)) (xs (i + 2)) (by omega) (by omega)) (cwV 2 hts gL_law_X1_change rfl rfl rfl (by decide +kernel) ⟨Nat.le_of_ble_eq_true rfl, Nat.le_of_ble_eq_true rfl⟩) hK hP hPcM hD hS hA [0, 1, 2, 3, 4, 5, 6, 7] [8, 9, 10, 11, 12] rfl rfl (by decide) (by decide) (by decide) (ja_rcv (ci := 1) (q0 := 0) hK hPcM rfl rfl rfl) rfl hl.1 rfl (Nat.le_of_ble_eq_true rfl) dL_law_105 ⟨hc7, hs7⟩ (fun rM um H locs hrM hP hD hS => ?_)
      have hP : va_P (dC, dI) vwCl (ja_uX xh x1 x2 x3 x4 cA ux ++ ja_uM mh m1 m2 m3 m4 m5 m6 m7 cA um) H := hP
      have hD : va_D A (ja_uX xh x1 x2 x3 x4 cA ux ++ ja_uM mh m1 m2 m3 m4 m5 m6 m7 cA um) := hD
      obtain ⟨he, hR2⟩ := ja_p_change hR hrX hrM
      refine lv_icmp_eq hx hb dL_law_108 (tgt := 244) (by decide) (fun h108 => ?_) (fun h108 => ?_)
      · -- iinc
        refine lv_iinc (k := 0) (v := nI (i + 3)) (lv' := [(3, .int (nI (i + 3))), (2, .ref mh), (1, .ref xh), (0, .ref b)]) hx hb dL_law_244 hl rfl (ja_inc3 _) (by decide) rfl (fun ls hl => ?_)
        refine lv_goto (tgt := 18) hx hb dL_law_247 (by decide) ?_
        exact ih (i + 3, ux, um) ls H locs ⟨lv_sub hl [0, 1, 2, 3] rfl, hP, hD, hS, hR2, (show i + 3 ≤ 1536 by omega)⟩ (show 2000 - (i + 3) < 2000 - i by omega)
      · exact absurd he h108
    · refine lv_tableIn (off := 81) (tgt := 113) hx hb dL_law_32 (by decide +kernel) (by decide +kernel) (by decide +kernel) (by decide) ?_
      refine lv_aload_n hx hb dL_law_113 rfl (lv_at hl 2 rfl) ?_
      have hPcX := hP.sub (ws' := ja_wX xh x1 x2 x3 x4 cA sv js jv jd cc oc sd jn fb fl cr) [0, 1, 2, 3, 4] rfl
      refine ja_cW (wr := ja_wM mh m1 m2 m3 m4 m5 m6 m7 cA fd nw sl vl la os ov ch hm ow de si fm cm) (wc := ja_wX xh x1 x2 x3 x4 cA sv js jv jd cc oc sd jn fb fl cr) (As := []) (rest := []) ⟨hx, hb, hml, hown, hts⟩ (cX_commit l dC dI xh x1 x2 x3 x4 cA H.size sv js jv jd cc oc sd jn fb fl cr  q4 q3) (cwV 0 hts gL_law_X0_commit rfl rfl rfl (by decide +kernel) ⟨Nat.le_of_ble_eq_true rfl, Nat.le_of_ble_eq_true rfl⟩) hK hP hPcX hD hS hA [0, 1, 2, 3, 4] [5, 6, 7, 8, 9, 10, 11, 12] rfl rfl (by decide) (by decide) (by decide) (ja_rcv (ci := 0) (q0 := 0) hK hPcX rfl rfl rfl) rfl hl.1 rfl (Nat.le_of_ble_eq_true rfl) dL_law_114 ⟨hc7, hs7⟩ (fun rX ux H locs hrX hP hD hS => ?_)
      have hP : va_P (dC, dI) vwCl (ja_wM mh m1 m2 m3 m4 m5 m6 m7 cA fd nw sl vl la os ov ch hm ow de si fm cm ++ ja_uX xh x1 x2 x3 x4 cA ux) H := hP
      have hD : va_D A (ja_wM mh m1 m2 m3 m4 m5 m6 m7 cA fd nw sl vl la os ov ch hm ow de si fm cm ++ ja_uX xh x1 x2 x3 x4 cA ux) := hD
      refine lv_aload_n hx hb dL_law_117 rfl (lv_at hl 1 rfl) ?_
      have hPcM := hP.sub (ws' := ja_wM mh m1 m2 m3 m4 m5 m6 m7 cA fd nw sl vl la os ov ch hm ow de si fm cm) [0, 1, 2, 3, 4, 5, 6, 7] rfl
      refine ja_cW (wr := ja_uX xh x1 x2 x3 x4 cA ux) (wc := ja_wM mh m1 m2 m3 m4 m5 m6 m7 cA fd nw sl vl la os ov ch hm ow de si fm cm) (As := []) (rest := [.int rX]) ⟨hx, hb, hml, hown, hts⟩ (cM_commit l dC dI mh m1 m2 m3 m4 m5 m6 m7 cA H.size fd nw sl vl la os ov ch hm ow de si fm cm  (by omega) (by omega) q8) (cwV 0 hts gL_law_X1_commit rfl rfl rfl (by decide +kernel) ⟨Nat.le_of_ble_eq_true rfl, Nat.le_of_ble_eq_true rfl⟩) hK hP hPcM hD hS hA [0, 1, 2, 3, 4, 5, 6, 7] [8, 9, 10, 11, 12] rfl rfl (by decide) (by decide) (by decide) (ja_rcv (ci := 1) (q0 := 0) hK hPcM rfl rfl rfl) rfl hl.1 rfl (Nat.le_of_ble_eq_true rfl) dL_law_118 ⟨hc7, hs7⟩ (fun rM um H locs hrM hP hD hS => ?_)
      have hP : va_P (dC, dI) vwCl (ja_uX xh x1 x2 x3 x4 cA ux ++ ja_uM mh m1 m2 m3 m4 m5 m6 m7 cA um) H := hP
      have hD : va_D A (ja_uX xh x1 x2 x3 x4 cA ux ++ ja_uM mh m1 m2 m3 m4 m5 m6 m7 cA um) := hD
      obtain ⟨he, hR2⟩ := ja_p_commit hR hrX hrM
      refine lv_icmp_eq hx hb dL_law_121 (tgt := 244) (by decide) (fun h121 => ?_) (fun h121 => ?_)
      · -- iinc
        refine lv_iinc (k := 0) (v := nI (i + 3)) (lv' := [(3, .int (nI (i + 3))), (2, .ref mh), (1, .ref xh), (0, .ref b)]) hx hb dL_law_244 hl rfl (ja_inc3 _) (by decide) rfl (fun ls hl => ?_)
        refine lv_goto (tgt := 18) hx hb dL_law_247 (by decide) ?_
        exact ih (i + 3, ux, um) ls H locs ⟨lv_sub hl [0, 1, 2, 3] rfl, hP, hD, hS, hR2, (show i + 3 ≤ 1536 by omega)⟩ (show 2000 - (i + 3) < 2000 - i by omega)
      · exact absurd he h121
    · refine lv_tableIn (off := 94) (tgt := 126) hx hb dL_law_32 (by decide +kernel) (by decide +kernel) (by decide +kernel) (by decide) ?_
      refine lv_aload_n hx hb dL_law_126 rfl (lv_at hl 2 rfl) ?_
      have hPcX := hP.sub (ws' := ja_wX xh x1 x2 x3 x4 cA sv js jv jd cc oc sd jn fb fl cr) [0, 1, 2, 3, 4] rfl
      refine ja_cW (wr := ja_wM mh m1 m2 m3 m4 m5 m6 m7 cA fd nw sl vl la os ov ch hm ow de si fm cm) (wc := ja_wX xh x1 x2 x3 x4 cA sv js jv jd cc oc sd jn fb fl cr) (As := []) (rest := []) ⟨hx, hb, hml, hown, hts⟩ (cX_forget l dC dI xh x1 x2 x3 x4 cA H.size sv js jv jd cc oc sd jn fb fl cr  ) (cwV 0 hts gL_law_X0_forget rfl rfl rfl (by decide +kernel) ⟨Nat.le_of_ble_eq_true rfl, Nat.le_of_ble_eq_true rfl⟩) hK hP hPcX hD hS hA [0, 1, 2, 3, 4] [5, 6, 7, 8, 9, 10, 11, 12] rfl rfl (by decide) (by decide) (by decide) (ja_rcv (ci := 0) (q0 := 0) hK hPcX rfl rfl rfl) rfl hl.1 rfl (Nat.le_of_ble_eq_true rfl) dL_law_127 ⟨hc7, hs7⟩ (fun rX ux H locs hrX hP hD hS => ?_)
      have hP : va_P (dC, dI) vwCl (ja_wM mh m1 m2 m3 m4 m5 m6 m7 cA fd nw sl vl la os ov ch hm ow de si fm cm ++ ja_uX xh x1 x2 x3 x4 cA ux) H := hP
      have hD : va_D A (ja_wM mh m1 m2 m3 m4 m5 m6 m7 cA fd nw sl vl la os ov ch hm ow de si fm cm ++ ja_uX xh x1 x2 x3 x4 cA ux) := hD
      refine lv_aload_n hx hb dL_law_130 rfl (lv_at hl 1 rfl) ?_
      have hPcM := hP.sub (ws' := ja_wM mh m1 m2 m3 m4 m5 m6 m7 cA fd nw sl vl la os ov ch hm ow de si fm cm) [0, 1, 2, 3, 4, 5, 6, 7] rfl
      refine ja_cW (wr := ja_uX xh x1 x2 x3 x4 cA ux) (wc := ja_wM mh m1 m2 m3 m4 m5 m6 m7 cA fd nw sl vl la os ov ch hm ow de si fm cm) (As := []) (rest := [.int rX]) ⟨hx, hb, hml, hown, hts⟩ (cM_forget l dC dI mh m1 m2 m3 m4 m5 m6 m7 cA H.size fd nw sl vl la os ov ch hm ow de si fm cm  ) (cwV 0 hts gL_law_X1_forget rfl rfl rfl (by decide +kernel) ⟨Nat.le_of_ble_eq_true rfl, Nat.le_of_ble_eq_true rfl⟩) hK hP hPcM hD hS hA [0, 1, 2, 3, 4, 5, 6, 7] [8, 9, 10, 11, 12] rfl rfl (by decide) (by decide) (by decide) (ja_rcv (ci := 1) (q0 := 0) hK hPcM rfl rfl rfl) rfl hl.1 rfl (Nat.le_of_ble_eq_true rfl) dL_law_131 ⟨hc7, hs7⟩ (fun rM um H locs hrM hP hD hS => ?_)
      have hP : va_P (dC, dI) vwCl (ja_uX xh x1 x2 x3 x4 cA ux ++ ja_uM mh m1 m2 m3 m4 m5 m6 m7 cA um) H := hP
      have hD : va_D A (ja_uX xh x1 x2 x3 x4 cA ux ++ ja_uM mh m1 m2 m3 m4 m5 m6 m7 cA um) := hD
      obtain ⟨he, hR2⟩ := ja_p_forget hR hrX hrM
      refine lv_icmp_eq hx hb dL_law_134 (tgt := 244) (by decide) (fun h134 => ?_) (fun h134 => ?_)
      · -- iinc
        refine lv_iinc (k := 0) (v := nI (i + 3)) (lv' := [(3, .int (nI (i + 3))), (2, .ref mh), (1, .ref xh), (0, .ref b)]) hx hb dL_law_244 hl rfl (ja_inc3 _) (by decide) rfl (fun ls hl => ?_)
        refine lv_goto (tgt := 18) hx hb dL_law_247 (by decide) ?_
        exact ih (i + 3, ux, um) ls H locs ⟨lv_sub hl [0, 1, 2, 3] rfl, hP, hD, hS, hR2, (show i + 3 ≤ 1536 by omega)⟩ (show 2000 - (i + 3) < 2000 - i by omega)
      · exact absurd he h134
    · refine lv_tableIn (off := 107) (tgt := 139) hx hb dL_law_32 (by decide +kernel) (by decide +kernel) (by decide +kernel) (by decide) ?_
      refine lv_aload_n hx hb dL_law_139 rfl (lv_at hl 2 rfl) ?_
      have hPcX := hP.sub (ws' := ja_wX xh x1 x2 x3 x4 cA sv js jv jd cc oc sd jn fb fl cr) [0, 1, 2, 3, 4] rfl
      refine ja_cW (wr := ja_wM mh m1 m2 m3 m4 m5 m6 m7 cA fd nw sl vl la os ov ch hm ow de si fm cm) (wc := ja_wX xh x1 x2 x3 x4 cA sv js jv jd cc oc sd jn fb fl cr) (As := []) (rest := []) ⟨hx, hb, hml, hown, hts⟩ (cX_flush l dC dI xh x1 x2 x3 x4 cA H.size sv js jv jd cc oc sd jn fb fl cr  q4 q6) (cwV 0 hts gL_law_X0_flush rfl rfl rfl (by decide +kernel) ⟨Nat.le_of_ble_eq_true rfl, Nat.le_of_ble_eq_true rfl⟩) hK hP hPcX hD hS hA [0, 1, 2, 3, 4] [5, 6, 7, 8, 9, 10, 11, 12] rfl rfl (by decide) (by decide) (by decide) (ja_rcv (ci := 0) (q0 := 0) hK hPcX rfl rfl rfl) rfl hl.1 rfl (Nat.le_of_ble_eq_true rfl) dL_law_140 ⟨hc7, hs7⟩ (fun rX ux H locs hrX hP hD hS => ?_)
      have hP : va_P (dC, dI) vwCl (ja_wM mh m1 m2 m3 m4 m5 m6 m7 cA fd nw sl vl la os ov ch hm ow de si fm cm ++ ja_uX xh x1 x2 x3 x4 cA ux) H := hP
      have hD : va_D A (ja_wM mh m1 m2 m3 m4 m5 m6 m7 cA fd nw sl vl la os ov ch hm ow de si fm cm ++ ja_uX xh x1 x2 x3 x4 cA ux) := hD
      refine lv_aload_n hx hb dL_law_143 rfl (lv_at hl 1 rfl) ?_
      have hPcM := hP.sub (ws' := ja_wM mh m1 m2 m3 m4 m5 m6 m7 cA fd nw sl vl la os ov ch hm ow de si fm cm) [0, 1, 2, 3, 4, 5, 6, 7] rfl
      refine ja_cW (wr := ja_uX xh x1 x2 x3 x4 cA ux) (wc := ja_wM mh m1 m2 m3 m4 m5 m6 m7 cA fd nw sl vl la os ov ch hm ow de si fm cm) (As := []) (rest := [.int rX]) ⟨hx, hb, hml, hown, hts⟩ (cM_flush l dC dI mh m1 m2 m3 m4 m5 m6 m7 cA H.size fd nw sl vl la os ov ch hm ow de si fm cm  (by omega)) (cwV 0 hts gL_law_X1_flush rfl rfl rfl (by decide +kernel) ⟨Nat.le_of_ble_eq_true rfl, Nat.le_of_ble_eq_true rfl⟩) hK hP hPcM hD hS hA [0, 1, 2, 3, 4, 5, 6, 7] [8, 9, 10, 11, 12] rfl rfl (by decide) (by decide) (by decide) (ja_rcv (ci := 1) (q0 := 0) hK hPcM rfl rfl rfl) rfl hl.1 rfl (Nat.le_of_ble_eq_true rfl) dL_law_144 ⟨hc7, hs7⟩ (fun rM um H locs hrM hP hD hS => ?_)
      have hP : va_P (dC, dI) vwCl (ja_uX xh x1 x2 x3 x4 cA ux ++ ja_uM mh m1 m2 m3 m4 m5 m6 m7 cA um) H := hP
      have hD : va_D A (ja_uX xh x1 x2 x3 x4 cA ux ++ ja_uM mh m1 m2 m3 m4 m5 m6 m7 cA um) := hD
      obtain ⟨he, hR2⟩ := ja_p_flush hR hrX hrM
      refine lv_icmp_eq hx hb dL_law_147 (tgt := 244) (by decide) (fun h147 => ?_) (fun h147 => ?_)
      · -- iinc
        refine lv_iinc (k := 0) (v := nI (i + 3)) (lv' := [(3, .int (nI (i + 3))), (2, .ref mh), (1, .ref xh), (0, .ref b)]) hx hb dL_law_244 hl rfl (ja_inc3 _) (by decide) rfl (fun ls hl => ?_)
        refine lv_goto (tgt := 18) hx hb dL_law_247 (by decide) ?_
        exact ih (i + 3, ux, um) ls H locs ⟨lv_sub hl [0, 1, 2, 3] rfl, hP, hD, hS, hR2, (show i + 3 ≤ 1536 by omega)⟩ (show 2000 - (i + 3) < 2000 - i by omega)
      · exact absurd he h147
    · refine lv_tableIn (off := 120) (tgt := 152) hx hb dL_law_32 (by decide +kernel) (by decide +kernel) (by decide +kernel) (by decide) ?_
      refine lv_aload_n hx hb dL_law_152 rfl (lv_at hl 2 rfl) ?_
      refine lv_aload_n hx hb dL_law_153 rfl (lv_at hl 3 rfl) ?_
      refine lv_iload_n hx hb dL_law_154 rfl (lv_at hl 0 rfl) ?_
      refine lv_iconst (v := nI 1) hx hb dL_law_155 (by decide +kernel) ?_
      refine lv_iadd hx hb dL_law_156 ?_
      refine ja_top (y := nI (i + 1)) (nI_add _ _) ?_
      refine ja_sld hx hb hX hbl hbA hS (k := (i + 1)) (by omega) (by omega) dL_law_157 ?_
      refine lv_aload_n hx hb dL_law_158 rfl (lv_at hl 3 rfl) ?_
      refine lv_iload_n hx hb dL_law_159 rfl (lv_at hl 0 rfl) ?_
      refine lv_iconst (v := nI 2) hx hb dL_law_160 (by decide +kernel) ?_
      refine lv_iadd hx hb dL_law_161 ?_
      refine ja_top (y := nI (i + 2)) (nI_add _ _) ?_
      refine ja_sld hx hb hX hbl hbA hS (k := (i + 2)) (by omega) (by omega) dL_law_162 ?_
      have hPcX := hP.sub (ws' := ja_wX xh x1 x2 x3 x4 cA sv js jv jd cc oc sd jn fb fl cr) [0, 1, 2, 3, 4] rfl
      refine ja_cW (wr := ja_wM mh m1 m2 m3 m4 m5 m6 m7 cA fd nw sl vl la os ov ch hm ow de si fm cm) (wc := ja_wX xh x1 x2 x3 x4 cA sv js jv jd cc oc sd jn fb fl cr) (As := [.int (xs (i + 1)), .int (xs (i + 2))]) (rest := []) ⟨hx, hb, hml, hown, hts⟩ (cX_crash l dC dI xh x1 x2 x3 x4 cA H.size sv js jv jd cc oc sd jn fb fl cr (xs (i + 1)) (xs (i + 2)) q4 q6) (cwV 2 hts gL_law_X0_crash rfl rfl rfl (by decide +kernel) ⟨Nat.le_of_ble_eq_true rfl, Nat.le_of_ble_eq_true rfl⟩) hK hP hPcX hD hS hA [0, 1, 2, 3, 4] [5, 6, 7, 8, 9, 10, 11, 12] rfl rfl (by decide) (by decide) (by decide) (ja_rcv (ci := 0) (q0 := 0) hK hPcX rfl rfl rfl) rfl hl.1 rfl (Nat.le_of_ble_eq_true rfl) dL_law_163 ⟨hc7, hs7⟩ (fun rX ux H locs hrX hP hD hS => ?_)
      have hP : va_P (dC, dI) vwCl (ja_wM mh m1 m2 m3 m4 m5 m6 m7 cA fd nw sl vl la os ov ch hm ow de si fm cm ++ ja_uX xh x1 x2 x3 x4 cA ux) H := hP
      have hD : va_D A (ja_wM mh m1 m2 m3 m4 m5 m6 m7 cA fd nw sl vl la os ov ch hm ow de si fm cm ++ ja_uX xh x1 x2 x3 x4 cA ux) := hD
      refine lv_aload_n hx hb dL_law_166 rfl (lv_at hl 1 rfl) ?_
      refine lv_aload_n hx hb dL_law_167 rfl (lv_at hl 3 rfl) ?_
      refine lv_iload_n hx hb dL_law_168 rfl (lv_at hl 0 rfl) ?_
      refine lv_iconst (v := nI 1) hx hb dL_law_169 (by decide +kernel) ?_
      refine lv_iadd hx hb dL_law_170 ?_
      refine ja_top (y := nI (i + 1)) (nI_add _ _) ?_
      refine ja_sld hx hb hX hbl hbA hS (k := (i + 1)) (by omega) (by omega) dL_law_171 ?_
      refine lv_aload_n hx hb dL_law_172 rfl (lv_at hl 3 rfl) ?_
      refine lv_iload_n hx hb dL_law_173 rfl (lv_at hl 0 rfl) ?_
      refine lv_iconst (v := nI 2) hx hb dL_law_174 (by decide +kernel) ?_
      refine lv_iadd hx hb dL_law_175 ?_
      refine ja_top (y := nI (i + 2)) (nI_add _ _) ?_
      refine ja_sld hx hb hX hbl hbA hS (k := (i + 2)) (by omega) (by omega) dL_law_176 ?_
      have hPcM := hP.sub (ws' := ja_wM mh m1 m2 m3 m4 m5 m6 m7 cA fd nw sl vl la os ov ch hm ow de si fm cm) [0, 1, 2, 3, 4, 5, 6, 7] rfl
      refine ja_cW (wr := ja_uX xh x1 x2 x3 x4 cA ux) (wc := ja_wM mh m1 m2 m3 m4 m5 m6 m7 cA fd nw sl vl la os ov ch hm ow de si fm cm) (As := [.int (xs (i + 1)), .int (xs (i + 2))]) (rest := [.int rX]) ⟨hx, hb, hml, hown, hts⟩ (cM_crash l dC dI mh m1 m2 m3 m4 m5 m6 m7 cA H.size fd nw sl vl la os ov ch hm ow de si fm cm (xs (i + 1)) (xs (i + 2)) (by omega) q7) (cwV 2 hts gL_law_X1_crash rfl rfl rfl (by decide +kernel) ⟨Nat.le_of_ble_eq_true rfl, Nat.le_of_ble_eq_true rfl⟩) hK hP hPcM hD hS hA [0, 1, 2, 3, 4, 5, 6, 7] [8, 9, 10, 11, 12] rfl rfl (by decide) (by decide) (by decide) (ja_rcv (ci := 1) (q0 := 0) hK hPcM rfl rfl rfl) rfl hl.1 rfl (Nat.le_of_ble_eq_true rfl) dL_law_177 ⟨hc7, hs7⟩ (fun rM um H locs hrM hP hD hS => ?_)
      have hP : va_P (dC, dI) vwCl (ja_uX xh x1 x2 x3 x4 cA ux ++ ja_uM mh m1 m2 m3 m4 m5 m6 m7 cA um) H := hP
      have hD : va_D A (ja_uX xh x1 x2 x3 x4 cA ux ++ ja_uM mh m1 m2 m3 m4 m5 m6 m7 cA um) := hD
      obtain ⟨he, hR2⟩ := ja_p_crash hR hrX hrM
      refine lv_icmp_eq hx hb dL_law_180 (tgt := 244) (by decide) (fun h180 => ?_) (fun h180 => ?_)
      · -- iinc
        refine lv_iinc (k := 0) (v := nI (i + 3)) (lv' := [(3, .int (nI (i + 3))), (2, .ref mh), (1, .ref xh), (0, .ref b)]) hx hb dL_law_244 hl rfl (ja_inc3 _) (by decide) rfl (fun ls hl => ?_)
        refine lv_goto (tgt := 18) hx hb dL_law_247 (by decide) ?_
        exact ih (i + 3, ux, um) ls H locs ⟨lv_sub hl [0, 1, 2, 3] rfl, hP, hD, hS, hR2, (show i + 3 ≤ 1536 by omega)⟩ (show 2000 - (i + 3) < 2000 - i by omega)
      · exact absurd he h180
    · refine lv_tableIn (off := 153) (tgt := 185) hx hb dL_law_32 (by decide +kernel) (by decide +kernel) (by decide +kernel) (by decide) ?_
      refine lv_aload_n hx hb dL_law_185 rfl (lv_at hl 2 rfl) ?_
      refine lv_aload_n hx hb dL_law_186 rfl (lv_at hl 3 rfl) ?_
      refine lv_iload_n hx hb dL_law_187 rfl (lv_at hl 0 rfl) ?_
      refine lv_iconst (v := nI 1) hx hb dL_law_188 (by decide +kernel) ?_
      refine lv_iadd hx hb dL_law_189 ?_
      refine ja_top (y := nI (i + 1)) (nI_add _ _) ?_
      refine ja_sld hx hb hX hbl hbA hS (k := (i + 1)) (by omega) (by omega) dL_law_190 ?_
      have hPcX := hP.sub (ws' := ja_wX xh x1 x2 x3 x4 cA sv js jv jd cc oc sd jn fb fl cr) [0, 1, 2, 3, 4] rfl
      refine ja_cR (As := [.int (xs (i + 1))]) (rest := []) ⟨hx, hb, hml, hown, hts⟩ (cX_get l dC dI xh x1 x2 x3 x4 cA sv js jv jd cc oc sd jn fb fl cr (xs (i + 1)) q4) (cwV 1 hts gL_law_X0_get rfl rfl rfl (by decide +kernel) ⟨Nat.le_of_ble_eq_true rfl, Nat.le_of_ble_eq_true rfl⟩) hK hPcX (ja_rcv (ci := 0) (q0 := 0) hK hPcX rfl rfl rfl) rfl hl.1 rfl (Nat.le_of_ble_eq_true rfl) dL_law_191 ⟨hc7, hs7⟩ (fun rX hrX => ?_)
      refine lv_aload_n hx hb dL_law_194 rfl (lv_at hl 1 rfl) ?_
      refine lv_aload_n hx hb dL_law_195 rfl (lv_at hl 3 rfl) ?_
      refine lv_iload_n hx hb dL_law_196 rfl (lv_at hl 0 rfl) ?_
      refine lv_iconst (v := nI 1) hx hb dL_law_197 (by decide +kernel) ?_
      refine lv_iadd hx hb dL_law_198 ?_
      refine ja_top (y := nI (i + 1)) (nI_add _ _) ?_
      refine ja_sld hx hb hX hbl hbA hS (k := (i + 1)) (by omega) (by omega) dL_law_199 ?_
      have hPcM := hP.sub (ws' := ja_wM mh m1 m2 m3 m4 m5 m6 m7 cA fd nw sl vl la os ov ch hm ow de si fm cm) [5, 6, 7, 8, 9, 10, 11, 12] rfl
      refine ja_cR (As := [.int (xs (i + 1))]) (rest := [.int rX]) ⟨hx, hb, hml, hown, hts⟩ (cM_get l dC dI mh m1 m2 m3 m4 m5 m6 m7 cA fd nw sl vl la os ov ch hm ow de si fm cm (xs (i + 1)) ) (cwV 1 hts gL_law_X1_get rfl rfl rfl (by decide +kernel) ⟨Nat.le_of_ble_eq_true rfl, Nat.le_of_ble_eq_true rfl⟩) hK hPcM (ja_rcv (ci := 1) (q0 := 0) hK hPcM rfl rfl rfl) rfl hl.1 rfl (Nat.le_of_ble_eq_true rfl) dL_law_200 ⟨hc7, hs7⟩ (fun rM hrM => ?_)
      have he : rX = rM := ja_p_get hR hrX hrM
      refine lv_icmp_eq hx hb dL_law_203 (tgt := 244) (by decide) (fun h203 => ?_) (fun h203 => ?_)
      · -- iinc
        refine lv_iinc (k := 0) (v := nI (i + 3)) (lv' := [(3, .int (nI (i + 3))), (2, .ref mh), (1, .ref xh), (0, .ref b)]) hx hb dL_law_244 hl rfl (ja_inc3 _) (by decide) rfl (fun ls hl => ?_)
        refine lv_goto (tgt := 18) hx hb dL_law_247 (by decide) ?_
        exact ih (i + 3, (sv, js, jv, jd, cc, oc, sd, jn, fb, fl, cr), (fd, nw, sl, vl, la, os, ov, ch, hm, ow, de, si, fm, cm)) ls H locs ⟨lv_sub hl [0, 1, 2, 3] rfl, hP, hD, hS, hR, (show i + 3 ≤ 1536 by omega)⟩ (show 2000 - (i + 3) < 2000 - i by omega)
      · exact absurd he h203
    · refine lv_tableIn (off := 176) (tgt := 208) hx hb dL_law_32 (by decide +kernel) (by decide +kernel) (by decide +kernel) (by decide) ?_
      refine lv_aload_n hx hb dL_law_208 rfl (lv_at hl 2 rfl) ?_
      have hPcX := hP.sub (ws' := ja_wX xh x1 x2 x3 x4 cA sv js jv jd cc oc sd jn fb fl cr) [0, 1, 2, 3, 4] rfl
      refine ja_cR (As := []) (rest := []) ⟨hx, hb, hml, hown, hts⟩ (cX_torn l dC dI xh x1 x2 x3 x4 cA sv js jv jd cc oc sd jn fb fl cr  ) (cwV 0 hts gL_law_X0_torn rfl rfl rfl (by decide +kernel) ⟨Nat.le_of_ble_eq_true rfl, Nat.le_of_ble_eq_true rfl⟩) hK hPcX (ja_rcv (ci := 0) (q0 := 0) hK hPcX rfl rfl rfl) rfl hl.1 rfl (Nat.le_of_ble_eq_true rfl) dL_law_209 ⟨hc7, hs7⟩ (fun rX hrX => ?_)
      refine lv_aload_n hx hb dL_law_212 rfl (lv_at hl 1 rfl) ?_
      have hPcM := hP.sub (ws' := ja_wM mh m1 m2 m3 m4 m5 m6 m7 cA fd nw sl vl la os ov ch hm ow de si fm cm) [5, 6, 7, 8, 9, 10, 11, 12] rfl
      refine ja_cR (As := []) (rest := [.int rX]) ⟨hx, hb, hml, hown, hts⟩ (cM_torn l dC dI mh m1 m2 m3 m4 m5 m6 m7 cA fd nw sl vl la os ov ch hm ow de si fm cm  ) (cwV 0 hts gL_law_X1_torn rfl rfl rfl (by decide +kernel) ⟨Nat.le_of_ble_eq_true rfl, Nat.le_of_ble_eq_true rfl⟩) hK hPcM (ja_rcv (ci := 1) (q0 := 0) hK hPcM rfl rfl rfl) rfl hl.1 rfl (Nat.le_of_ble_eq_true rfl) dL_law_213 ⟨hc7, hs7⟩ (fun rM hrM => ?_)
      have he : rX = rM := hrX.trans hrM.symm
      refine lv_icmp_eq hx hb dL_law_216 (tgt := 244) (by decide) (fun h216 => ?_) (fun h216 => ?_)
      · -- iinc
        refine lv_iinc (k := 0) (v := nI (i + 3)) (lv' := [(3, .int (nI (i + 3))), (2, .ref mh), (1, .ref xh), (0, .ref b)]) hx hb dL_law_244 hl rfl (ja_inc3 _) (by decide) rfl (fun ls hl => ?_)
        refine lv_goto (tgt := 18) hx hb dL_law_247 (by decide) ?_
        exact ih (i + 3, (sv, js, jv, jd, cc, oc, sd, jn, fb, fl, cr), (fd, nw, sl, vl, la, os, ov, ch, hm, ow, de, si, fm, cm)) ls H locs ⟨lv_sub hl [0, 1, 2, 3] rfl, hP, hD, hS, hR, (show i + 3 ≤ 1536 by omega)⟩ (show 2000 - (i + 3) < 2000 - i by omega)
      · exact absurd he h216
    · refine lv_tableIn (off := 189) (tgt := 221) hx hb dL_law_32 (by decide +kernel) (by decide +kernel) (by decide +kernel) (by decide) ?_
      refine lv_aload_n hx hb dL_law_221 rfl (lv_at hl 2 rfl) ?_
      refine lv_aload_n hx hb dL_law_222 rfl (lv_at hl 3 rfl) ?_
      refine lv_iload_n hx hb dL_law_223 rfl (lv_at hl 0 rfl) ?_
      refine lv_iconst (v := nI 1) hx hb dL_law_224 (by decide +kernel) ?_
      refine lv_iadd hx hb dL_law_225 ?_
      refine ja_top (y := nI (i + 1)) (nI_add _ _) ?_
      refine ja_sld hx hb hX hbl hbA hS (k := (i + 1)) (by omega) (by omega) dL_law_226 ?_
      have hPcX := hP.sub (ws' := ja_wX xh x1 x2 x3 x4 cA sv js jv jd cc oc sd jn fb fl cr) [0, 1, 2, 3, 4] rfl
      refine ja_cR (As := [.int (xs (i + 1))]) (rest := []) ⟨hx, hb, hml, hown, hts⟩ (cX_count l dC dI xh x1 x2 x3 x4 cA sv js jv jd cc oc sd jn fb fl cr (xs (i + 1)) ) (cwV 1 hts gL_law_X0_count rfl rfl rfl (by decide +kernel) ⟨Nat.le_of_ble_eq_true rfl, Nat.le_of_ble_eq_true rfl⟩) hK hPcX (ja_rcv (ci := 0) (q0 := 0) hK hPcX rfl rfl rfl) rfl hl.1 rfl (Nat.le_of_ble_eq_true rfl) dL_law_227 ⟨hc7, hs7⟩ (fun rX hrX => ?_)
      refine lv_aload_n hx hb dL_law_230 rfl (lv_at hl 1 rfl) ?_
      refine lv_aload_n hx hb dL_law_231 rfl (lv_at hl 3 rfl) ?_
      refine lv_iload_n hx hb dL_law_232 rfl (lv_at hl 0 rfl) ?_
      refine lv_iconst (v := nI 1) hx hb dL_law_233 (by decide +kernel) ?_
      refine lv_iadd hx hb dL_law_234 ?_
      refine ja_top (y := nI (i + 1)) (nI_add _ _) ?_
      refine ja_sld hx hb hX hbl hbA hS (k := (i + 1)) (by omega) (by omega) dL_law_235 ?_
      have hPcM := hP.sub (ws' := ja_wM mh m1 m2 m3 m4 m5 m6 m7 cA fd nw sl vl la os ov ch hm ow de si fm cm) [5, 6, 7, 8, 9, 10, 11, 12] rfl
      refine ja_cR (As := [.int (xs (i + 1))]) (rest := [.int rX]) ⟨hx, hb, hml, hown, hts⟩ (cM_count l dC dI mh m1 m2 m3 m4 m5 m6 m7 cA fd nw sl vl la os ov ch hm ow de si fm cm (xs (i + 1)) ) (cwV 1 hts gL_law_X1_count rfl rfl rfl (by decide +kernel) ⟨Nat.le_of_ble_eq_true rfl, Nat.le_of_ble_eq_true rfl⟩) hK hPcM (ja_rcv (ci := 1) (q0 := 0) hK hPcM rfl rfl rfl) rfl hl.1 rfl (Nat.le_of_ble_eq_true rfl) dL_law_236 ⟨hc7, hs7⟩ (fun rM hrM => ?_)
      have he : rX = rM := ja_p_count hR hrX hrM
      refine lv_icmp_eq hx hb dL_law_239 (tgt := 244) (by decide) (fun h239 => ?_) (fun h239 => ?_)
      · -- iinc
        refine lv_iinc (k := 0) (v := nI (i + 3)) (lv' := [(3, .int (nI (i + 3))), (2, .ref mh), (1, .ref xh), (0, .ref b)]) hx hb dL_law_244 hl rfl (ja_inc3 _) (by decide) rfl (fun ls hl => ?_)
        refine lv_goto (tgt := 18) hx hb dL_law_247 (by decide) ?_
        exact ih (i + 3, (sv, js, jv, jd, cc, oc, sd, jn, fb, fl, cr), (fd, nw, sl, vl, la, os, ov, ch, hm, ow, de, si, fm, cm)) ls H locs ⟨lv_sub hl [0, 1, 2, 3] rfl, hP, hD, hS, hR, (show i + 3 ≤ 1536 by omega)⟩ (show 2000 - (i + 3) < 2000 - i by omega)
      · exact absurd he h239
