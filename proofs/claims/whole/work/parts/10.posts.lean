/-! the answers of both sides, and the relation behind them -/
section JP
variable {sv js jv jd : Nat → Int32} {cc oc : Nat} {sd jn fb fl cr : Int32} {fd nw sl vl la os ov : Nat → Int32} {ch : Nat} {hm : Int32} {ow : Nat} {de si fm cm : Int32}
theorem ja_p_change {x y rx rm : Int32} {ux : ja_SX} {um : ja_SM} (h : ja_R sv js jv jd cc oc sd jn fb fl cr fd nw sl vl la os ov ch hm ow de si fm cm) (h1 : (¬ vp_in x 212 ∧ rx = -1 ∧ ux = (sv, js, jv, jd, cc, oc, sd, jn, fb, fl, cr)) ∨ (vp_in x 212 ∧ oc = 17 ∧ rx = -2 ∧ ux = (sv, js, jv, jd, cc, oc, sd, jn, fb, fl, cr)) ∨ (vp_in x 212 ∧ oc < 17 ∧ ¬ (oc = 0 ∧ 7 < cc) ∧ rx = nI (oc + 1) ∧ ux = (sv, upd js (cc + oc) x, upd jv (cc + oc) y, upd jd (cc + oc) jn, cc, oc + 1, sd, jn, fb, fl, cr)) ∨ (vp_in x 212 ∧ oc = 0 ∧ 7 < cc ∧ rx = nI 1 ∧ ∃ n, ja_run jd cc jn n ∧ ux = (ja_ap js jv sv n, upd js 0 x, upd jv 0 y, upd jd 0 (nI 0), 0, 1, sd + jn, nI 0, nI (ja_ct (ja_ls js cc) cc), fl + nI 1, cr))) (h2 : (¬ vp_in x 212 ∧ rm = -1 ∧ um = (fd, nw, sl, vl, la, os, ov, ch, hm, ow, de, si, fm, cm)) ∨ (vp_in x 212 ∧ ow = 17 ∧ rm = -2 ∧ um = (fd, nw, sl, vl, la, os, ov, ch, hm, ow, de, si, fm, cm)) ∨ (vp_in x 212 ∧ ow < 17 ∧ ¬ (ow = 0 ∧ 7 < ch) ∧ rm = nI (ow + 1) ∧ um = (fd, nw, sl, vl, la, upd os ow x, upd ov ow y, ch, hm, ow + 1, de, si, fm, cm)) ∨ (vp_in x 212 ∧ ow = 0 ∧ 7 < ch ∧ rm = nI 1 ∧ um = (ja_cp nw fd 212, nw, sl, vl, la, upd os 0 x, upd ov 0 y, 0, nI (ja_ct (fun k => ja_fs sl k k) ch), 1, de, nI 0, fm + nI 1, cm))) : rx = rm ∧ ja_Rel ux um := by
  have e1 : ch = cc := h.1
  have e2 : ow = oc := h.2.1
  have h5 : oc = 0 ∨ cc ≤ 7 := h.2.2.2.2.1
  rcases h1 with ⟨a1, rfl, rfl⟩ | ⟨a1, a2, rfl, rfl⟩ | ⟨a1, a2, a3, rfl, rfl⟩ | ⟨a1, a2, a3, rfl, n, hn, rfl⟩
  · rcases h2 with ⟨b1, rfl, rfl⟩ | ⟨b1, -⟩ | ⟨b1, -⟩ | ⟨b1, -⟩
    · exact ⟨rfl, h⟩
    · exact absurd b1 a1
    · exact absurd b1 a1
    · exact absurd b1 a1
  · rcases h2 with ⟨b1, -⟩ | ⟨b1, b2, rfl, rfl⟩ | ⟨b1, b2, -⟩ | ⟨b1, b2, -⟩
    · exact absurd a1 b1
    · exact ⟨rfl, h⟩
    · omega
    · omega
  · rcases h2 with ⟨b1, -⟩ | ⟨b1, b2, -⟩ | ⟨b1, b2, b3, rfl, rfl⟩ | ⟨b1, b2, b3, -⟩
    · exact absurd a1 b1
    · omega
    · exact ⟨by rw [e2], ja_R_app h a1 a2 (by omega)⟩
    · omega
  · rcases h2 with ⟨b1, -⟩ | ⟨b1, b2, -⟩ | ⟨b1, b2, b3, -⟩ | ⟨b1, b2, b3, rfl, rfl⟩
    · exact absurd a1 b1
    · omega
    · omega
    · exact ⟨rfl, ja_R_app (ja_R_flush h hn) a1 (by decide) (by decide)⟩
theorem ja_p_commit {rx rm : Int32} {ux : ja_SX} {um : ja_SM} (h : ja_R sv js jv jd cc oc sd jn fb fl cr fd nw sl vl la os ov ch hm ow de si fm cm) (h1 : (oc = 0 ∧ rx = -1 ∧ ux = (sv, js, jv, jd, cc, oc, sd, jn, fb, fl, cr)) ∨ (oc ≠ 0 ∧ rx = nI oc ∧ ux = (sv, js, jv, jd, cc + oc, 0, sd, jn + nI 1, fb, fl, cr))) (h2 : (ow = 0 ∧ rm = -1 ∧ um = (fd, nw, sl, vl, la, os, ov, ch, hm, ow, de, si, fm, cm)) ∨ (ow ≠ 0 ∧ rm = nI ow ∧ um = (fd, ja_ap os ov nw ow, ja_pt sl os ch ow, ja_pt vl ov ch ow, ja_pt la (ja_lm ow) ch ow, os, ov, ch + ow, hm, 0, de + nI 1, si + nI 1, fm, cm))) : rx = rm ∧ ja_Rel ux um := by
  have e2 : ow = oc := h.2.1
  rcases h1 with ⟨a1, rfl, rfl⟩ | ⟨a1, rfl, rfl⟩
  · rcases h2 with ⟨b1, rfl, rfl⟩ | ⟨b1, -⟩
    · exact ⟨rfl, h⟩
    · exact absurd (e2.trans a1) b1
  · rcases h2 with ⟨b1, -⟩ | ⟨b1, rfl, rfl⟩
    · exact absurd (e2.symm.trans b1) a1
    · exact ⟨by rw [e2], ja_R_commit h a1⟩
theorem ja_p_forget {rx rm : Int32} {ux : ja_SX} {um : ja_SM} (h : ja_R sv js jv jd cc oc sd jn fb fl cr fd nw sl vl la os ov ch hm ow de si fm cm) (h1 : rx = nI oc ∧ ux = (sv, js, jv, jd, cc, 0, sd, jn, fb, fl, cr)) (h2 : rm = nI ow ∧ um = (fd, nw, sl, vl, la, os, ov, ch, hm, 0, de, si, fm, cm)) : rx = rm ∧ ja_Rel ux um := by
  have e2 : ow = oc := h.2.1
  obtain ⟨rfl, rfl⟩ := h1
  obtain ⟨rfl, rfl⟩ := h2
  exact ⟨by rw [e2], ja_R_forget h⟩
theorem ja_p_flush {rx rm : Int32} {ux : ja_SX} {um : ja_SM} (h : ja_R sv js jv jd cc oc sd jn fb fl cr fd nw sl vl la os ov ch hm ow de si fm cm) (h1 : rx = jn ∧ ∃ n, ja_run jd cc jn n ∧ ux = (ja_ap js jv sv n, js, jv, jd, 0, 0, sd + jn, nI 0, nI (ja_ct (ja_ls js cc) cc), fl + nI 1, cr)) (h2 : rm = si ∧ um = (ja_cp nw fd 212, nw, sl, vl, la, os, ov, 0, nI (ja_ct (fun k => ja_fs sl k k) ch), 0, de, nI 0, fm + nI 1, cm)) : rx = rm ∧ ja_Rel ux um := by
  have e2 : si = jn := h.2.2.2.2.2.2.2.2.2.1
  obtain ⟨rfl, n, hn, rfl⟩ := h1
  obtain ⟨rfl, rfl⟩ := h2
  exact ⟨e2.symm, ja_R_flush h hn⟩
theorem ja_p_crash {mask part rx rm : Int32} {ux : ja_SX} {um : ja_SM} (h : ja_R sv js jv jd cc oc sd jn fb fl cr fd nw sl vl la os ov ch hm ow de si fm cm) (h1 : ((part < 0 ∨ nI 500 < part) ∧ rx = -1 ∧ ux = (sv, js, jv, jd, cc, oc, sd, jn, fb, fl, cr)) ∨ (¬ part < 0 ∧ ¬ nI 500 < part ∧ ∃ w n, ja_wd jd cc fb jn mask w ∧ ja_run jd cc w n ∧ rx = jn - w ∧ ux = (ja_ap js jv sv n, js, jv, jd, 0, 0, sd + w, nI 0, nI 0, fl, cr + nI 1))) (h2 : ((part < 0 ∨ nI 500 < part) ∧ rm = -1 ∧ um = (fd, nw, sl, vl, la, os, ov, ch, hm, ow, de, si, fm, cm)) ∨ (¬ part < 0 ∧ ¬ nI 500 < part ∧ rm = si - nI (ja_kp (ja_z mask hm) la ch) ∧ um = (ja_cp (ja_ap sl vl (ja_cp fd nw 212) (ja_wh (ja_z mask hm) la ch)) fd 212, ja_ap sl vl (ja_cp fd nw 212) (ja_wh (ja_z mask hm) la ch), sl, vl, la, os, ov, 0, nI 0, 0, de - (si - nI (ja_kp (ja_z mask hm) la ch)), nI 0, fm, cm + nI 1))) : rx = rm ∧ ja_Rel ux um := by
  have e2 : si = jn := h.2.2.2.2.2.2.2.2.2.1
  rcases h1 with ⟨a1, rfl, rfl⟩ | ⟨a1, a2, w, n, hw, hn, rfl, rfl⟩
  · rcases h2 with ⟨b1, rfl, rfl⟩ | ⟨b1, b2, -⟩
    · exact ⟨rfl, h⟩
    · exact absurd a1 (fun q => q.elim b1 b2)
  · rcases h2 with ⟨b1, -⟩ | ⟨b1, b2, rfl, rfl⟩
    · exact absurd b1 (fun q => q.elim a1 a2)
    · obtain ⟨c1, c2⟩ := ja_R_crash h hw hn
      exact ⟨by rw [e2, ← c1], c2⟩
theorem ja_p_get {x rx rm : Int32} (h : ja_R sv js jv jd cc oc sd jn fb fl cr fd nw sl vl la os ov ch hm ow de si fm cm) (h1 : (¬ vp_in x 212 ∧ rx = nI 0) ∨ (vp_in x 212 ∧ ((∃ i, i < cc ∧ js i = x ∧ (∀ j, i < j → j < cc → js j ≠ x) ∧ rx = jv i) ∨ ((∀ j, j < cc → js j ≠ x) ∧ rx = sv x.toNatClampNeg)))) (h2 : (¬ vp_in x 212 ∧ rm = nI 0) ∨ (vp_in x 212 ∧ rm = nw x.toNatClampNeg)) : rx = rm := by
  obtain ⟨g1, g2, g3, g4, g5, hk, ho, hj, hl, hsi, hfd, hnw, e1, e2, e3, e4⟩ := h
  rcases h1 with ⟨a1, rfl⟩ | ⟨a1, h1⟩
  · rcases h2 with ⟨-, rfl⟩ | ⟨b1, -⟩
    · rfl
    · exact absurd b1 a1
  · rcases h2 with ⟨b1, -⟩ | ⟨b1, rfl⟩
    · exact absurd a1 b1
    · have hx : x.toNatClampNeg < 212 := by
        obtain ⟨j, hj2, rfl⟩ := vp_in_of a1 (by decide)
        rw [nI_clamp (by omega)]; exact hj2
      rw [hnw _ hx]
      rcases h1 with ⟨i, hi, hjs, hlast, rfl⟩ | ⟨hnone, rfl⟩
      · exact (ja_ap_last (by rw [hjs]) cc hi (fun k h1 h2 => ja_cl_ne (hk k h2).2.2.1 a1 (hlast k h1 h2))).symm
      · exact (ja_ap_none cc (fun k h1 => ja_cl_ne (hk k h1).2.2.1 a1 (hnone k h1))).symm
theorem ja_p_count {x rx rm : Int32} (h : ja_R sv js jv jd cc oc sd jn fb fl cr fd nw sl vl la os ov ch hm ow de si fm cm) (h1 : rx = ja_sel x (sd + jn) jn (fb + nI cc) (nI oc) fl cr) (h2 : rm = ja_sel x de si (hm + nI ch) (nI ow) fm cm) : rx = rm := by
  obtain ⟨g1, g2, g3, g4, g5, hk, ho, hj, hl, hsi, hfd, hnw, e1, e2, e3, e4⟩ := h
  rw [h1, h2, g1, g2, hsi, e1, e2, e3, e4]
end JP
