/-! each pair of calls keeps the relation -/
theorem ja_i1 (a b c : Int32) : a + b - (b - c) = a + c := by
  rw [Int32.sub_eq_add_neg, Int32.neg_sub, Int32.add_assoc, Int32.sub_eq_add_neg, Int32.add_comm c, ← Int32.add_assoc b, Int32.add_right_neg, Int32.zero_add]
theorem ja_R_new : ja_R (fun _ => 0) (fun _ => 0) (fun _ => 0) (fun _ => 0) 0 0 0 0 0 0 0 (fun _ => 0) (fun _ => 0) (fun _ => 0) (fun _ => 0) (fun _ => 0) (fun _ => 0) (fun _ => 0) 0 0 0 0 0 0 0 :=
  ⟨rfl, rfl, by decide, by decide, Or.inl rfl, fun k h => absurd h (Nat.not_lt_zero k), fun k h => absurd h (Nat.not_lt_zero k), nI_0.symm, fun k h => absurd h (Nat.succ_ne_zero k), rfl, fun _ _ => rfl, fun _ _ => rfl, rfl, by decide +kernel, rfl, rfl⟩
section JR
variable {sv js jv jd : Nat → Int32} {cc oc : Nat} {sd jn fb fl cr : Int32} {fd nw sl vl la os ov : Nat → Int32} {ch : Nat} {hm : Int32} {ow : Nat} {de si fm cm : Int32}
theorem ja_R_app {x y : Int32} (h : ja_R sv js jv jd cc oc sd jn fb fl cr fd nw sl vl la os ov ch hm ow de si fm cm) (hx : vp_in x 212) (h17 : oc < 17) (h7 : cc ≤ 7) :
    ja_R sv (upd js (cc + oc) x) (upd jv (cc + oc) y) (upd jd (cc + oc) jn) cc (oc + 1) sd jn fb fl cr fd nw sl vl la (upd os ow x) (upd ov ow y) ch hm (ow + 1) de si fm cm := by
  obtain ⟨h1, h2, h3, h4, h5, hk, ho, hj, hl, hsi, hfd, hnw, e1, e2, e3, e4⟩ := h
  refine ⟨h1, by rw [h2], by omega, h4, Or.inr h7, fun k hk2 => ?_, fun k hk2 => ?_, hj, hl, hsi, hfd, fun s hs => ?_, e1, e2, e3, e4⟩
  · have e : k ≠ cc + oc := by omega
    rw [pk_un e, pk_un e, pk_un e]
    exact hk k hk2
  · by_cases e : k = oc
    · have e' : k = ow := by rw [h2]; exact e
      refine ⟨?_, ?_, ?_, ?_⟩
      · rw [e', pk_us, h2, pk_us]
      · rw [e', pk_us, h2, pk_us]
      · rw [e', pk_us]; exact hx
      · rw [e, pk_us]
    · have e1 : k ≠ ow := by rw [h2]; exact e
      have e' : cc + k ≠ cc + oc := by omega
      rw [pk_un e1, pk_un e1, pk_un e', pk_un e', pk_un e']
      exact ho k (by omega)
  · rw [hnw s hs]
    exact ja_ap_congr cc (fun k hk2 => by
      have e : k ≠ cc + oc := by omega
      rw [pk_un e, pk_un e]; exact ⟨rfl, rfl⟩) (fun _ _ => rfl) s hs
theorem ja_ctb (la : Nat → Int32) {k : Nat} (h : k ≤ 24) : ja_ct (ja_mk la) k < 2 ^ 31 := by
  have := ja_ct_le (ja_mk la) k
  omega
theorem ja_run_all {n : Nat} (h : ja_R sv js jv jd cc oc sd jn fb fl cr fd nw sl vl la os ov ch hm ow de si fm cm) (hn : ja_run jd cc jn n) : n = cc := by
  obtain ⟨h1, h2, h3, h4, h5, hk, ho, hj, hl, hsi, hfd, hnw, e1, e2, e3, e4⟩ := h
  obtain ⟨a, b, c⟩ := hn
  by_cases e : n = cc
  · exact e
  · have hlt : n < cc := by omega
    have hc := c hlt
    rw [(hk n hlt).2.2.2, hj] at hc
    refine absurd ((nI_ltI (ja_ctb la (by omega)) (ja_ctb la (by omega))).mpr ?_) hc
    exact ja_ct_lt (b := cc - 1) (by omega) (by omega) (ja_mk_t (hl (cc - 1) (by omega)))
theorem ja_fs_congr {f g : Nat → Int32} {k n : Nat} (h : ∀ i, i < n → f i = g i) (hk : k < n) : ∀ i, i ≤ n → ja_fs f k i = ja_fs g k i
  | 0, _ => rfl
  | i + 1, hi => by
    have ih := ja_fs_congr h hk i (by omega)
    show (if f i = f k then false else ja_fs f k i) = (if g i = g k then false else ja_fs g k i)
    rw [h i (by omega), h k hk, ih]
theorem ja_R_flush {n : Nat} (h : ja_R sv js jv jd cc oc sd jn fb fl cr fd nw sl vl la os ov ch hm ow de si fm cm) (hn : ja_run jd cc jn n) :
    ja_R (ja_ap js jv sv n) js jv jd 0 0 (sd + jn) (nI 0) (nI (ja_ct (ja_ls js cc) cc)) (fl + nI 1) cr (ja_cp nw fd 212) nw sl vl la os ov 0 (nI (ja_ct (fun k => ja_fs sl k k) ch)) 0 de (nI 0) (fm + nI 1) cm := by
  have hnc := ja_run_all h hn
  obtain ⟨h1, h2, h3, h4, h5, hk, ho, hj, hl, hsi, hfd, hnw, e1, e2, e3, e4⟩ := h
  refine ⟨rfl, rfl, by decide, by decide, Or.inl rfl, fun k h => absurd h (Nat.not_lt_zero k), fun k h => absurd h (Nat.not_lt_zero k), rfl, fun k h => absurd h (Nat.succ_ne_zero k), rfl, fun s hs => ?_, fun s hs => ?_, ?_, ?_, by rw [e3], e4⟩
  · unfold ja_cp
    rw [if_pos hs, hnw s hs, hnc]
  · show nw s = ja_ap js jv sv n s
    rw [hnw s hs, hnc]
  · rw [← ja_first_last js cc, h1]
    rw [ja_ct_congr cc (fun k hk2 => ja_fs_congr (n := cc) (fun i hi => (hk i hi).1) hk2 k (by omega))]
  · rw [e2, nI_0, Int32.add_zero]
theorem ja_R_forget (h : ja_R sv js jv jd cc oc sd jn fb fl cr fd nw sl vl la os ov ch hm ow de si fm cm) : ja_R sv js jv jd cc 0 sd jn fb fl cr fd nw sl vl la os ov ch hm 0 de si fm cm := by
  obtain ⟨h1, h2, h3, h4, h5, hk, ho, hj, hl, hsi, hfd, hnw, e1, e2, e3, e4⟩ := h
  exact ⟨h1, rfl, by decide, h4, Or.inl rfl, hk, fun k h => absurd h (Nat.not_lt_zero k), hj, hl, hsi, hfd, hnw, e1, e2, e3, e4⟩
theorem ja_R_commit (h : ja_R sv js jv jd cc oc sd jn fb fl cr fd nw sl vl la os ov ch hm ow de si fm cm) (h0 : oc ≠ 0) :
    ja_R sv js jv jd (cc + oc) 0 sd (jn + nI 1) fb fl cr fd (ja_ap os ov nw ow) (ja_pt sl os ch ow) (ja_pt vl ov ch ow) (ja_pt la (ja_lm ow) ch ow) os ov (ch + ow) hm 0 (de + nI 1) (si + nI 1) fm cm := by
  obtain ⟨h1, h2, h3, h4, h5, hk, ho, hj, hl, hsi, hfd, hnw, e1, e2, e3, e4⟩ := h
  rw [h1, h2]
  have f1 : ∀ k, k ≤ cc → ja_ct (ja_mk (ja_pt la (ja_lm oc) cc oc)) k = ja_ct (ja_mk la) k := fun k hk2 => ja_ct_congr k (fun j hj2 => ja_mk_c (ja_pt_lo (by omega) oc))
  have f2 : ∀ k, k < oc → ja_ct (ja_mk (ja_pt la (ja_lm oc) cc oc)) (cc + k) = ja_ct (ja_mk la) cc := fun k hk2 => by
    rw [ja_ct_z k (fun j hj2 => ja_mk_f (by rw [ja_pt_hi oc j (by omega), ← ja_lm_f (by omega)]; decide +kernel))]
    exact f1 cc (Nat.le_refl _)
  have f3 : ja_ct (ja_mk (ja_pt la (ja_lm oc) cc oc)) (cc + oc) = ja_ct (ja_mk la) cc + 1 := by
    obtain ⟨w, rfl⟩ : ∃ w, oc = w + 1 := ⟨oc - 1, by omega⟩
    have h9 := ja_ct_t (q := ja_mk (ja_pt la (ja_lm (w + 1)) cc (w + 1))) (n := cc + w) (ja_mk_t (by rw [ja_pt_hi (w + 1) w (by omega), ← ja_lm_t rfl]))
    rw [f2 w (by omega)] at h9
    exact h9
  refine ⟨rfl, rfl, by decide, by omega, Or.inl rfl, fun k hk2 => ?_, fun k h => absurd h (Nat.not_lt_zero k), ?_, fun k hk2 => ?_, by rw [hsi], hfd, fun s hs => ?_, e1, ?_, e3, e4⟩
  · by_cases e : k < cc
    · rw [ja_pt_lo e, ja_pt_lo e, f1 k (by omega)]
      exact hk k e
    · obtain ⟨j, rfl⟩ : ∃ j, k = cc + j := ⟨k - cc, by omega⟩
      have hj2 : j < oc := by omega
      obtain ⟨a1, a2, a3, a4⟩ := ho j hj2
      rw [ja_pt_hi oc j hj2, ja_pt_hi oc j hj2, f2 j hj2]
      exact ⟨a1, a2, by rw [← a1]; exact a3, by rw [a4, hj]⟩
  · rw [f3, hj, nI_add]
  · obtain ⟨j, rfl⟩ : ∃ j, k = cc + j := ⟨k - cc, by omega⟩
    rw [ja_pt_hi oc j (by omega), ← ja_lm_t (by omega)]
  · rw [ja_ap_add]
    exact ja_ap_congr oc (fun k hk2 => ⟨(ho k hk2).1, (ho k hk2).2.1⟩) hnw s hs
  · rw [e2, Int32.add_assoc]
theorem ja_sd_t {z : Nat → Bool} {p : Nat} (h : ∀ j, j < p → z j = false) : ∀ k, k ≤ p → ja_sd z k = true
  | 0, _ => rfl
  | k + 1, hk => by rw [ja_bsd_n (h k (by omega))]; exact ja_sd_t h k (by omega)
theorem ja_sd_f {z : Nat → Bool} {p : Nat} (h : z p = true) : ∀ d, ja_sd z (p + 1 + d) = false
  | 0 => ja_bsd_z h
  | d + 1 => by
    have ih := ja_sd_f h d
    show ja_sd z ((p + 1 + d) + 1) = false
    cases hz : z (p + 1 + d) with
    | true => exact ja_bsd_z hz
    | false => rw [ja_bsd_n hz]; exact ih
/-- what stands whole: the first loop of the reference's crash -/
theorem ja_whole {z : Nat → Bool} {la : Nat → Int32} {p cc : Nat} (hp : ∀ j, j < p → z j = false) (hq : p < cc → z p = true) : ∀ k, k ≤ cc → ja_kp z la k = ja_ct (ja_mk la) (min k p) ∧ ja_wh z la k ≤ min k p ∧ (ja_wh z la k = 0 ∨ ∃ j, ja_wh z la k = j + 1 ∧ la j = nI 1) ∧ ja_ct (ja_mk la) (ja_wh z la k) = ja_ct (ja_mk la) (min k p)
  | 0, _ => by
    rw [Nat.zero_min]
    exact ⟨rfl, Nat.le_refl _, Or.inl rfl, rfl⟩
  | k + 1, hk => by
    obtain ⟨i1, i2, i3, i4⟩ := ja_whole (la := la) hp hq k (by omega)
    by_cases e : k + 1 ≤ p
    · have hs : ja_sd z (k + 1) = true := ja_sd_t hp (k + 1) e
      rw [show min (k + 1) p = k + 1 by omega]
      have hm1 : min k p = k := Nat.min_eq_left (by omega)
      rw [hm1] at i1 i2 i4
      by_cases hl : la k = nI 1
      · rw [ja_kp_t hs hl, ja_wh_t hs hl, ja_ct_t (ja_mk_t hl), i1]
        exact ⟨rfl, Nat.le_refl _, Or.inr ⟨k, rfl, hl⟩, rfl⟩
      · rw [ja_kp_f (fun q => hl q.2), ja_wh_f (fun q => hl q.2), ja_ct_f (ja_mk_f hl)]
        exact ⟨i1, by omega, i3, i4⟩
    · have hs : ja_sd z (k + 1) = false := by
        have h9 := ja_sd_f (hq (by omega)) (k - p)
        rw [show p + 1 + (k - p) = k + 1 by omega] at h9
        exact h9
      have hn : ¬ (ja_sd z (k + 1) = true ∧ la k = nI 1) := fun q => absurd q.1 (by rw [hs]; decide)
      rw [ja_kp_f hn, ja_wh_f hn, show min (k + 1) p = p by omega]
      have hm1 : min k p = p := Nat.min_eq_right (by omega)
      rw [hm1] at i1 i2 i4
      exact ⟨i1, i2, i3, i4⟩
theorem ja_R_crash {mask w : Int32} {n : Nat} (h : ja_R sv js jv jd cc oc sd jn fb fl cr fd nw sl vl la os ov ch hm ow de si fm cm) (hw : ja_wd jd cc fb jn mask w) (hn : ja_run jd cc w n) :
    w = nI (ja_kp (ja_z mask hm) la ch) ∧ ja_R (ja_ap js jv sv n) js jv jd 0 0 (sd + w) (nI 0) (nI 0) fl (cr + nI 1) (ja_cp (ja_ap sl vl (ja_cp fd nw 212) (ja_wh (ja_z mask hm) la ch)) fd 212) (ja_ap sl vl (ja_cp fd nw 212) (ja_wh (ja_z mask hm) la ch)) sl vl la os ov 0 (nI 0) 0 (de - (si - nI (ja_kp (ja_z mask hm) la ch))) (nI 0) fm (cm + nI 1) := by
  obtain ⟨h1, h2, h3, h4, h5, hk, ho, hj, hl, hsi, hfd, hnw, e1, e2, e3, e4⟩ := h
  obtain ⟨p, hp, hp1, hp2, hp3⟩ : ∃ p, p ≤ cc ∧ (∀ j, j < p → ja_z mask hm j = false) ∧ (p < cc → ja_z mask hm p = true) ∧ w = nI (ja_ct (ja_mk la) p) := by
    rw [e1]
    rcases hw with ⟨i, hi, ha, hb, rfl⟩ | ⟨ha, rfl⟩
    · exact ⟨i, by omega, fun j hj2 => ja_z_f (by rw [ha j hj2]; exact ja_n10), fun _ => ja_z_t (ja_bt_0 hb), (hk i hi).2.2.2⟩
    · exact ⟨cc, Nat.le_refl _, fun j hj2 => ja_z_f (by rw [ha j hj2]; exact ja_n10), fun q => absurd q (by omega), hj⟩
  obtain ⟨i1, i2, i3, i4⟩ := ja_whole (la := la) hp1 hp2 cc (Nat.le_refl _)
  have hm1 : min cc p = p := Nat.min_eq_right hp
  rw [hm1] at i1 i2 i4
  rw [h1]
  have hwk : w = nI (ja_kp (ja_z mask hm) la cc) := by rw [i1]; exact hp3
  have hnw2 : n = ja_wh (ja_z mask hm) la cc := by
    obtain ⟨a, b, c⟩ := hn
    have lt_iff : ∀ i, i < cc → (jd i < w ↔ ja_ct (ja_mk la) i < ja_ct (ja_mk la) p) := fun i hi => by
      rw [(hk i hi).2.2.2, hp3]
      exact nI_ltI (ja_ctb la (by omega)) (ja_ctb la (by omega))
    rcases Nat.lt_trichotomy n (ja_wh (ja_z mask hm) la cc) with q | q | q
    · exfalso
      have hnc : n < cc := by omega
      rcases i3 with i3 | ⟨j, i3, hlj⟩
      · omega
      · refine c hnc ((lt_iff n hnc).mpr ?_)
        exact ja_ct_lt (b := j) (by omega) (by omega) (ja_mk_t hlj)
    · exact q
    · exfalso
      have h9 := (lt_iff _ (by omega)).mp (b _ q)
      omega
  have hval : ∀ s, s < 212 → ja_ap sl vl (ja_cp fd nw 212) (ja_wh (ja_z mask hm) la cc) s = ja_ap js jv sv n s := fun s hs => by
    rw [← hnw2]
    refine ja_ap_congr n (fun k hk2 => ?_) (fun t ht => ?_) s hs
    · have := hk k (by have := hn.1; omega)
      exact ⟨this.1, this.2.1⟩
    · unfold ja_cp
      rw [if_pos ht]
      exact hfd t ht
  refine ⟨hwk, rfl, rfl, by decide, by decide, Or.inl rfl, fun k h => absurd h (Nat.not_lt_zero k), fun k h => absurd h (Nat.not_lt_zero k), rfl, fun k h => absurd h (Nat.succ_ne_zero k), rfl, fun s hs => ?_, fun s hs => ?_, rfl, ?_, e3, by rw [e4]⟩
  · show (if s < 212 then ja_ap sl vl (ja_cp fd nw 212) (ja_wh (ja_z mask hm) la cc) s else fd s) = ja_ap js jv sv n s
    rw [if_pos hs]
    exact hval s hs
  · show _ = ja_ap js jv sv n s
    exact hval s hs
  · rw [← hwk, e2, hsi, ja_i1, nI_0, Int32.add_zero]
theorem ja_cl_ne {a b : Int32} (ha : vp_in a 212) (hb : vp_in b 212) (h : a ≠ b) : b.toNatClampNeg ≠ a.toNatClampNeg := by
  obtain ⟨i, hi, rfl⟩ := vp_in_of ha (by decide)
  obtain ⟨j, hj, rfl⟩ := vp_in_of hb (by decide)
  rw [nI_clamp (by omega), nI_clamp (by omega)]
  exact fun e => h (by rw [e])
theorem ja_ap_none {sl vl f : Nat → Int32} {j : Nat} : ∀ n, (∀ k, k < n → j ≠ (sl k).toNatClampNeg) → ja_ap sl vl f n j = f j
  | 0, _ => rfl
  | n + 1, h => by
    show upd (ja_ap sl vl f n) (sl n).toNatClampNeg (vl n) j = f j
    rw [pk_un (h n (Nat.lt_succ_self n))]
    exact ja_ap_none n (fun k hk => h k (Nat.lt_succ_of_lt hk))
theorem ja_ap_last {sl vl f : Nat → Int32} {j i : Nat} (hj : (sl i).toNatClampNeg = j) : ∀ n, i < n → (∀ k, i < k → k < n → j ≠ (sl k).toNatClampNeg) → ja_ap sl vl f n j = vl i
  | 0, h, _ => absurd h (Nat.not_lt_zero i)
  | n + 1, h, hq => by
    show upd (ja_ap sl vl f n) (sl n).toNatClampNeg (vl n) j = vl i
    by_cases e : i = n
    · rw [← e, hj, pk_us]
    · rw [pk_un (hq n (by omega) (Nat.lt_succ_self n))]
      exact ja_ap_last hj n (by omega) (fun k h1 h2 => hq k h1 (Nat.lt_succ_of_lt h2))
end JR
