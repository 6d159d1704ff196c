/-! The relation between the states of both sides, and that each pair of calls keeps it -/
theorem ja_ct_congr {p q : Nat → Bool} : ∀ n, (∀ k, k < n → p k = q k) → ja_ct p n = ja_ct q n
  | 0, _ => rfl
  | n + 1, h => by
    have ih := ja_ct_congr n (fun k hk => h k (Nat.lt_succ_of_lt hk))
    have hn := h n (Nat.lt_succ_self n)
    show (if p n = true then ja_ct p n + 1 else ja_ct p n) = (if q n = true then ja_ct q n + 1 else ja_ct q n)
    rw [ih, hn]
theorem ja_ct_s (q : Nat → Bool) (n : Nat) : ja_ct q n ≤ ja_ct q (n + 1) ∧ ja_ct q (n + 1) ≤ ja_ct q n + 1 := by
  cases h : q n with
  | true => rw [ja_ct_t h]; omega
  | false => rw [ja_ct_f h]; omega
theorem ja_ct_mono (q : Nat → Bool) : ∀ d a, ja_ct q a ≤ ja_ct q (a + d)
  | 0, a => Nat.le_refl _
  | d + 1, a => Nat.le_trans (ja_ct_mono q d a) (ja_ct_s q (a + d)).1
theorem ja_ct_le (q : Nat → Bool) : ∀ n, ja_ct q n ≤ n
  | 0 => Nat.le_refl _
  | n + 1 => by
    have h1 := ja_ct_le q n
    have h2 := (ja_ct_s q n).2
    omega
theorem ja_ct_lt {q : Nat → Bool} {i b n : Nat} (hi : i ≤ b) (hb : b < n) (hq : q b = true) : ja_ct q i < ja_ct q n := by
  have h1 := ja_ct_mono q (b - i) i
  rw [Nat.add_sub_cancel' hi] at h1
  have h2 := ja_ct_t hq
  have h3 := ja_ct_mono q (n - (b + 1)) (b + 1)
  rw [Nat.add_sub_cancel' hb] at h3
  omega
theorem ja_ct_z {q : Nat → Bool} {a : Nat} : ∀ d, (∀ k, k < d → q (a + k) = false) → ja_ct q (a + d) = ja_ct q a
  | 0, _ => rfl
  | d + 1, h => by
    have ih := ja_ct_z d (fun k hk => h k (Nat.lt_succ_of_lt hk))
    have h1 := ja_ct_f (q := q) (n := a + d) (h d (Nat.lt_succ_self d))
    exact h1.trans ih
theorem ja_ap_congr {sl vl sl2 vl2 f g : Nat → Int32} : ∀ n, (∀ k, k < n → sl k = sl2 k ∧ vl k = vl2 k) → (∀ s, s < 212 → f s = g s) → ∀ s, s < 212 → ja_ap sl vl f n s = ja_ap sl2 vl2 g n s
  | 0, _, h, s, hs => h s hs
  | n + 1, hk, h, s, hs => by
    have ih := ja_ap_congr n (fun k q => hk k (Nat.lt_succ_of_lt q)) h s hs
    obtain ⟨e1, e2⟩ := hk n (Nat.lt_succ_self n)
    show upd (ja_ap sl vl f n) (sl n).toNatClampNeg (vl n) s = upd (ja_ap sl2 vl2 g n) (sl2 n).toNatClampNeg (vl2 n) s
    rw [e1, e2]
    unfold upd
    rw [ih]
theorem ja_ap_add (sl vl f : Nat → Int32) (c : Nat) : ∀ n, ja_ap sl vl f (c + n) = ja_ap (fun k => sl (c + k)) (fun k => vl (c + k)) (ja_ap sl vl f c) n
  | 0 => rfl
  | n + 1 => by
    show upd (ja_ap sl vl f (c + n)) (sl (c + n)).toNatClampNeg (vl (c + n)) = upd (ja_ap (fun k => sl (c + k)) (fun k => vl (c + k)) (ja_ap sl vl f c) n) (sl (c + n)).toNatClampNeg (vl (c + n))
    rw [ja_ap_add sl vl f c n]
theorem ja_pt_lo {f g : Nat → Int32} {c j : Nat} (h : j < c) : ∀ n, ja_pt f g c n j = f j
  | 0 => rfl
  | n + 1 => by
    show upd (ja_pt f g c n) (c + n) (g n) j = f j
    unfold upd
    rw [if_neg (by omega)]
    exact ja_pt_lo h n
theorem ja_pt_hi {f g : Nat → Int32} {c : Nat} : ∀ n k, k < n → ja_pt f g c n (c + k) = g k
  | 0, k, h => absurd h (Nat.not_lt_zero k)
  | n + 1, k, h => by
    show upd (ja_pt f g c n) (c + n) (g n) (c + k) = g k
    unfold upd
    by_cases e : k = n
    · subst e; rw [if_pos rfl]
    · rw [if_neg (by omega)]
      exact ja_pt_hi n k (by omega)
/-- in how many places below n, last of what they have, stands v: one, if any does -/
theorem ja_one (f : Nat → Int32) (v : Int32) : ∀ n, ja_ct (fun i => ja_ls f n i && decide (f i = v)) n = if (∃ j, j < n ∧ f j = v) then 1 else 0 := by
  intro n
  induction n with
  | zero => rw [if_neg (by rintro ⟨j, h, -⟩; exact absurd h (Nat.not_lt_zero j))]; rfl
  | succ n ih =>
    by_cases hv : f n = v
    · rw [if_pos ⟨n, Nat.lt_succ_self n, hv⟩]
      have h1 : (fun i => ja_ls f (n + 1) i && decide (f i = v)) n = true := by
        show (ja_ls f (n + 1) n && decide (f n = v)) = true
        rw [ja_ls_t (fun j h1 h2 => absurd h1 (by omega)), decide_eq_true hv]; rfl
      rw [ja_ct_t h1]
      have h2 : ja_ct (fun i => ja_ls f (n + 1) i && decide (f i = v)) (0 + n) = ja_ct (fun i => ja_ls f (n + 1) i && decide (f i = v)) 0 := ja_ct_z n (fun k hk => by
        show (ja_ls f (n + 1) (0 + k) && decide (f (0 + k) = v)) = false
        by_cases hk2 : f (0 + k) = v
        · rw [ja_ls_f ⟨n, by omega, Nat.lt_succ_self n, by rw [hv, hk2]⟩]; rfl
        · rw [decide_eq_false hk2, Bool.and_false])
      rw [Nat.zero_add] at h2
      rw [h2]; rfl
    · have h1 : (fun i => ja_ls f (n + 1) i && decide (f i = v)) n = false := by
        show (ja_ls f (n + 1) n && decide (f n = v)) = false
        rw [decide_eq_false hv, Bool.and_false]
      rw [ja_ct_f h1]
      have h2 : ja_ct (fun i => ja_ls f (n + 1) i && decide (f i = v)) n = ja_ct (fun i => ja_ls f n i && decide (f i = v)) n := ja_ct_congr n (fun k hk => by
        show (ja_ls f (n + 1) k && decide (f k = v)) = (ja_ls f n k && decide (f k = v))
        by_cases hk2 : f k = v
        · have : ja_ls f (n + 1) k = ja_ls f n k := by
            unfold ja_ls
            refine decide_eq_decide.mpr ⟨fun h j h1 h2 => h j (Nat.lt_succ_of_lt h1) h2, fun h j h1 h2 => ?_⟩
            by_cases e : j = n
            · subst e; rw [hk2]; exact hv
            · exact h j (by omega) h2
          rw [this]
        · rw [decide_eq_false hk2, Bool.and_false, Bool.and_false])
      rw [h2, ih]
      by_cases hq : ∃ j, j < n ∧ f j = v
      · rw [if_pos hq, if_pos (by obtain ⟨j, a, b⟩ := hq; exact ⟨j, Nat.lt_succ_of_lt a, b⟩)]
      · rw [if_neg hq, if_neg (by
          rintro ⟨j, a, b⟩
          by_cases e : j = n
          · subst e; exact hv b
          · exact hq ⟨j, by omega, b⟩)]
theorem ja_fs_iff (f : Nat → Int32) (k : Nat) : ∀ i, ja_fs f k i = true ↔ ∀ j, j < i → f j ≠ f k
  | 0 => ⟨fun _ j h => absurd h (Nat.not_lt_zero j), fun _ => rfl⟩
  | i + 1 => by
    have ih := ja_fs_iff f k i
    show (if f i = f k then false else ja_fs f k i) = true ↔ _
    by_cases h : f i = f k
    · rw [if_pos h]
      exact ⟨fun q => absurd q (by decide), fun q => absurd h (q i (Nat.lt_succ_self i))⟩
    · rw [if_neg h, ih]
      exact ⟨fun q j hj => by
        by_cases e : j = i
        · subst e; exact h
        · exact q j (by omega), fun q j hj => q j (Nat.lt_succ_of_lt hj)⟩
theorem ja_ct_split {p q : Nat → Bool} : ∀ n, ja_ct p n = ja_ct (fun i => p i && !q i) n + ja_ct (fun i => p i && q i) n
  | 0 => rfl
  | n + 1 => by
    have ih := ja_ct_split (p := p) (q := q) n
    show (if p n = true then ja_ct p n + 1 else ja_ct p n) = (if (p n && !q n) = true then ja_ct (fun i => p i && !q i) n + 1 else ja_ct (fun i => p i && !q i) n) + (if (p n && q n) = true then ja_ct (fun i => p i && q i) n + 1 else ja_ct (fun i => p i && q i) n)
    cases h1 : p n <;> cases h2 : q n <;> simp <;> omega
/-- as many first places as last ones -/
theorem ja_first_last (f : Nat → Int32) : ∀ n, ja_ct (fun k => ja_fs f k k) n = ja_ct (ja_ls f n) n := by
  intro n
  induction n with
  | zero => rfl
  | succ n ih =>
    have hl : ja_ls f (n + 1) n = true := ja_ls_t (fun j h1 h2 => absurd h1 (by omega))
    rw [ja_ct_t (q := ja_ls f (n + 1)) hl]
    have h1 : ja_ct (ja_ls f (n + 1)) n = ja_ct (fun i => ja_ls f n i && !decide (f i = f n)) n := ja_ct_congr n (fun k hk => by
      by_cases e : f k = f n
      · rw [ja_ls_f ⟨n, hk, Nat.lt_succ_self n, e.symm⟩]
        show false = (ja_ls f n k && !decide (f k = f n))
        rw [decide_eq_true e]; simp
      · show ja_ls f (n + 1) k = (ja_ls f n k && !decide (f k = f n))
        rw [decide_eq_false e]
        have : ja_ls f (n + 1) k = ja_ls f n k := by
          unfold ja_ls
          refine decide_eq_decide.mpr ⟨fun h j h1 h2 => h j (Nat.lt_succ_of_lt h1) h2, fun h j h1 h2 => ?_⟩
          by_cases e2 : j = n
          · subst e2; exact fun q => e q.symm
          · exact h j (by omega) h2
        rw [this]; simp)
    have h2 := ja_ct_split (p := ja_ls f n) (q := fun i => decide (f i = f n)) n
    have h3 := ja_one f (f n) n
    rw [h1]
    by_cases hq : ∃ j, j < n ∧ f j = f n
    · rw [if_pos hq] at h3
      have h4 : (fun k => ja_fs f k k) n = false := by
        show ja_fs f n n = false
        cases h : ja_fs f n n with
        | false => rfl
        | true =>
          obtain ⟨j, a, b⟩ := hq
          exact absurd b ((ja_fs_iff f n n).mp h j a)
      rw [ja_ct_f (q := fun k => ja_fs f k k) h4, ih]
      omega
    · rw [if_neg hq] at h3
      have h4 : (fun k => ja_fs f k k) n = true := (ja_fs_iff f n n).mpr (fun j hj e => hq ⟨j, hj, e⟩)
      rw [ja_ct_t (q := fun k => ja_fs f k k) h4, ih]
      omega
theorem ja_mk_t {la : Nat → Int32} {k : Nat} (h : la k = nI 1) : ja_mk la k = true := decide_eq_true h
theorem ja_mk_f {la : Nat → Int32} {k : Nat} (h : ¬ la k = nI 1) : ja_mk la k = false := decide_eq_false h
theorem ja_mk_c {la lb : Nat → Int32} {k : Nat} (h : la k = lb k) : ja_mk la k = ja_mk lb k := by unfold ja_mk; rw [h]
/-- the relation -/
def ja_R (sv js jv jd : Nat → Int32) (cc oc : Nat) (sd jn fb fl cr : Int32) (fd nw sl vl la os ov : Nat → Int32) (ch : Nat) (hm : Int32) (ow : Nat) (de si fm cm : Int32) : Prop :=
  ch = cc ∧ ow = oc ∧ oc ≤ 17 ∧ cc ≤ 24 ∧ (oc = 0 ∨ cc ≤ 7) ∧
  (∀ k, k < cc → sl k = js k ∧ vl k = jv k ∧ vp_in (js k) 212 ∧ jd k = nI (ja_ct (ja_mk la) k)) ∧
  (∀ k, k < oc → os k = js (cc + k) ∧ ov k = jv (cc + k) ∧ vp_in (os k) 212 ∧ jd (cc + k) = jn) ∧
  jn = nI (ja_ct (ja_mk la) cc) ∧ (∀ k, k + 1 = cc → la k = nI 1) ∧ si = jn ∧
  (∀ s, s < 212 → fd s = sv s) ∧ (∀ s, s < 212 → nw s = ja_ap js jv sv cc s) ∧ hm = fb ∧ de = sd + jn ∧ fm = fl ∧ cm = cr
def ja_Rel (x : ja_SX) (y : ja_SM) : Prop := match x, y with
  | (sv, js, jv, jd, cc, oc, sd, jn, fb, fl, cr), (fd, nw, sl, vl, la, os, ov, ch, hm, ow, de, si, fm, cm) => ja_R sv js jv jd cc oc sd jn fb fl cr fd nw sl vl la os ov ch hm ow de si fm cm
