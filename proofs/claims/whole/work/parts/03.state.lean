/-! The words of the state: pure functions that the loops of both sides compute -/
theorem ja_inc1 (a : Nat) : nI a + Int32.ofInt 1 = nI (a + 1) := by
  rw [show Int32.ofInt 1 = 1 by decide +kernel]; exact nI_1 a
theorem ja_inc3 (a : Nat) : nI a + Int32.ofInt 3 = nI (a + 3) := by
  rw [show Int32.ofInt 3 = nI 3 by decide +kernel]; exact nI_add a 3
theorem ja_dec (a : Nat) : nI a + Int32.ofInt (-1) = nI a - 1 := by
  rw [show Int32.ofInt (-1) = -1 by decide +kernel, Int32.sub_eq_add_neg]
theorem ja_in {x : Int32} (h0 : ¬ x < 0) (h1 : ¬ nI 212 ≤ x) : vp_in x 212 := by
  rcases pk_ix x (n := 212) (by decide) with h | h | ⟨j, hj, rfl⟩
  · exact absurd h h0
  · exact absurd h h1
  · exact vp_in_nI hj (by decide)
theorem ja_out {x : Int32} (h1 : nI 212 ≤ x) : ¬ vp_in x 212 := by
  intro h
  obtain ⟨j, hj, rfl⟩ := vp_in_of h (by decide)
  exact absurd ((nI_leI (by decide) (by omega)).mp h1) (by omega)
theorem ja_neg {x : Int32} (h1 : x < 0) : ¬ vp_in x 212 := fun h => h (Or.inl h1)
theorem ja_inL {x : Int32} (h0 : ¬ x < 0) (h1 : x < nI 212) : vp_in x 212 := ja_in h0 (fun h => absurd h (Int32.not_le.mpr h1))
/-- the first n entries (slot, value) laid over f -/
def ja_ap (sl vl f : Nat → Int32) : Nat → (Nat → Int32)
  | 0 => f
  | n + 1 => upd (ja_ap sl vl f n) (sl n).toNatClampNeg (vl n)
/-- the first n of g put into f from place c on -/
def ja_pt (f g : Nat → Int32) (c : Nat) : Nat → (Nat → Int32)
  | 0 => f
  | n + 1 => upd (ja_pt f g c n) (c + n) (g n)
/-- the first n of f over g -/
def ja_cp (f g : Nat → Int32) (n : Nat) : Nat → Int32 := fun j => if j < n then f j else g j
theorem ja_cp_0 (f g : Nat → Int32) : ja_cp f g 0 = g := by
  funext j; unfold ja_cp; rw [if_neg (Nat.not_lt_zero j)]
theorem ja_cp_s (f g : Nat → Int32) (n : Nat) : upd (ja_cp f g n) n (f n) = ja_cp f g (n + 1) := by
  funext j
  unfold upd ja_cp
  by_cases h : j = n
  · subst h; rw [if_pos rfl, if_pos (Nat.lt_succ_self _)]
  · rw [if_neg h]
    by_cases h2 : j < n
    · rw [if_pos h2, if_pos (by omega)]
    · rw [if_neg h2, if_neg (by omega)]
/-- the bit of a block -/
def ja_bt (mask blk : Int32) : Int32 := (mask >>> ((blk - blk / nI 31 * nI 31) &&& 31)) &&& nI 1
theorem ja_bt_or (mask blk : Int32) : ja_bt mask blk = 0 ∨ ja_bt mask blk = nI 1 := by
  unfold ja_bt
  obtain ⟨j, hj, h⟩ := pk_andE (mask >>> ((blk - blk / nI 31 * nI 31) &&& 31)) (m := nI 1) 1 (by decide +kernel)
  rw [h]
  have : j = 0 ∨ j = 1 := by omega
  rcases this with rfl | rfl
  · exact Or.inl nI_0
  · exact Or.inr rfl
theorem ja_n10 : ¬ nI 1 = 0 := by decide +kernel
theorem ja_bt_0 {mask blk : Int32} (h : ¬ ja_bt mask blk = nI 1) : ja_bt mask blk = 0 := (ja_bt_or mask blk).elim id (fun q => absurd q h)
theorem ja_bt_1 {mask blk : Int32} (h : ¬ ja_bt mask blk = 0) : ja_bt mask blk = nI 1 := (ja_bt_or mask blk).elim (fun q => absurd q h) id
/-- how many places below n have q -/
def ja_ct (q : Nat → Bool) : Nat → Nat
  | 0 => 0
  | n + 1 => if q n = true then ja_ct q n + 1 else ja_ct q n
theorem ja_ct_t {q : Nat → Bool} {n : Nat} (h : q n = true) : ja_ct q (n + 1) = ja_ct q n + 1 := by
  show (if q n = true then ja_ct q n + 1 else ja_ct q n) = _
  rw [if_pos h]
theorem ja_ct_f {q : Nat → Bool} {n : Nat} (h : q n = false) : ja_ct q (n + 1) = ja_ct q n := by
  show (if q n = true then ja_ct q n + 1 else ja_ct q n) = _
  rw [if_neg (by rw [h]; decide)]
def ja_b (q : Bool) : Int32 := if q = true then nI 1 else nI 0
theorem ja_b_0 {q : Bool} (h : ja_b q = 0) : q = false := by
  cases q with
  | false => rfl
  | true => exact absurd h ja_n10
theorem ja_b_1 {q : Bool} (h : ¬ ja_b q = 0) : q = true := by
  cases q with
  | false => exact absurd nI_0 h
  | true => rfl
/-- no place below i has what k has -/
def ja_fs (f : Nat → Int32) (k : Nat) : Nat → Bool
  | 0 => true
  | i + 1 => if f i = f k then false else ja_fs f k i
theorem ja_bfs_e {f : Nat → Int32} {k i : Nat} (h : f i = f k) : ja_b (ja_fs f k (i + 1)) = nI 0 := by
  show ja_b (if f i = f k then false else ja_fs f k i) = _
  rw [if_pos h]; rfl
theorem ja_bfs_n {f : Nat → Int32} {k i : Nat} (h : ¬ f i = f k) : ja_b (ja_fs f k (i + 1)) = ja_b (ja_fs f k i) := by
  show ja_b (if f i = f k then false else ja_fs f k i) = _
  rw [if_neg h]
/-- no place behind i, below n, has what i has -/
def ja_ls (f : Nat → Int32) (n i : Nat) : Bool := decide (∀ j, j < n → i < j → f j ≠ f i)
theorem ja_ls_t {f : Nat → Int32} {n i : Nat} (h : ∀ j, i < j → j < n → f j ≠ f i) : ja_ls f n i = true := decide_eq_true (fun j h1 h2 => h j h2 h1)
theorem ja_ls_f {f : Nat → Int32} {n i : Nat} (h : ∃ j, i < j ∧ j < n ∧ f j = f i) : ja_ls f n i = false := decide_eq_false (fun q => by
  obtain ⟨j, h1, h2, h3⟩ := h
  exact q j h2 h1 h3)
/-- all blocks below k stand (z: those that don't) -/
def ja_sd (z : Nat → Bool) : Nat → Bool
  | 0 => true
  | k + 1 => if z k = true then false else ja_sd z k
theorem ja_bsd_z {z : Nat → Bool} {k : Nat} (h : z k = true) : ja_sd z (k + 1) = false := by
  show (if z k = true then false else ja_sd z k) = _
  rw [if_pos h]
theorem ja_bsd_n {z : Nat → Bool} {k : Nat} (h : z k = false) : ja_sd z (k + 1) = ja_sd z k := by
  show (if z k = true then false else ja_sd z k) = _
  rw [if_neg (by rw [h]; decide)]
def ja_mk (la : Nat → Int32) (k : Nat) : Bool := decide (la k = nI 1)
def ja_wh (z : Nat → Bool) (la : Nat → Int32) : Nat → Nat
  | 0 => 0
  | k + 1 => if ja_sd z (k + 1) = true ∧ la k = nI 1 then k + 1 else ja_wh z la k
def ja_kp (z : Nat → Bool) (la : Nat → Int32) : Nat → Nat
  | 0 => 0
  | k + 1 => if ja_sd z (k + 1) = true ∧ la k = nI 1 then ja_kp z la k + 1 else ja_kp z la k
theorem ja_wh_t {z : Nat → Bool} {la : Nat → Int32} {k : Nat} (h : ja_sd z (k + 1) = true) (h2 : la k = nI 1) : ja_wh z la (k + 1) = k + 1 := by
  show (if ja_sd z (k + 1) = true ∧ la k = nI 1 then k + 1 else ja_wh z la k) = _
  rw [if_pos ⟨h, h2⟩]
theorem ja_wh_f {z : Nat → Bool} {la : Nat → Int32} {k : Nat} (h : ¬ (ja_sd z (k + 1) = true ∧ la k = nI 1)) : ja_wh z la (k + 1) = ja_wh z la k := by
  show (if ja_sd z (k + 1) = true ∧ la k = nI 1 then k + 1 else ja_wh z la k) = _
  rw [if_neg h]
theorem ja_kp_t {z : Nat → Bool} {la : Nat → Int32} {k : Nat} (h : ja_sd z (k + 1) = true) (h2 : la k = nI 1) : ja_kp z la (k + 1) = ja_kp z la k + 1 := by
  show (if ja_sd z (k + 1) = true ∧ la k = nI 1 then ja_kp z la k + 1 else ja_kp z la k) = _
  rw [if_pos ⟨h, h2⟩]
theorem ja_kp_f {z : Nat → Bool} {la : Nat → Int32} {k : Nat} (h : ¬ (ja_sd z (k + 1) = true ∧ la k = nI 1)) : ja_kp z la (k + 1) = ja_kp z la k := by
  show (if ja_sd z (k + 1) = true ∧ la k = nI 1 then ja_kp z la k + 1 else ja_kp z la k) = _
  rw [if_neg h]
theorem ja_wh_le (z : Nat → Bool) (la : Nat → Int32) : ∀ k, ja_wh z la k ≤ k
  | 0 => Nat.le_refl 0
  | k + 1 => by
    have ih := ja_wh_le z la k
    by_cases h : ja_sd z (k + 1) = true ∧ la k = nI 1
    · rw [ja_wh_t h.1 h.2]; exact Nat.le_refl _
    · rw [ja_wh_f h]; omega
/-- block k of the reference's journal doesn't stand -/
def ja_z (mask hm : Int32) (k : Nat) : Bool := decide (ja_bt mask (hm + nI k) = 0)
theorem ja_z_t {mask hm : Int32} {k : Nat} (h : ja_bt mask (hm + nI k) = 0) : ja_z mask hm k = true := decide_eq_true h
theorem ja_z_f {mask hm : Int32} {k : Nat} (h : ¬ ja_bt mask (hm + nI k) = 0) : ja_z mask hm k = false := decide_eq_false h
/-- the mark of a deed's k-th change, of n -/
def ja_lm (n k : Nat) : Int32 := if k + 1 = n then nI 1 else nI 0
theorem ja_lm_t {n k : Nat} (h : k + 1 = n) : nI 1 = ja_lm n k := by unfold ja_lm; rw [if_pos h]
theorem ja_lm_f {n k : Nat} (h : ¬ k + 1 = n) : nI 0 = ja_lm n k := by unfold ja_lm; rw [if_neg h]
/-- the longest run of entries of deeds below dd -/
def ja_run (jd : Nat → Int32) (cc : Nat) (dd : Int32) (n : Nat) : Prop := n ≤ cc ∧ (∀ i, i < n → jd i < dd) ∧ (n < cc → ¬ jd n < dd)
/-- the deeds that stand whole -/
def ja_wd (jd : Nat → Int32) (cc : Nat) (fb jn mask r : Int32) : Prop := (∃ i, i < cc ∧ (∀ j, j < i → ja_bt mask (fb + nI j) = nI 1) ∧ ¬ ja_bt mask (fb + nI i) = nI 1 ∧ r = jd i) ∨ ((∀ j, j < cc → ja_bt mask (fb + nI j) = nI 1) ∧ r = jn)
/-- the state of X: safe values, journal (slots, values, deeds), committed, begun, safe deeds, journal deeds, flush blocks, flushes, crashes -/
abbrev ja_SX : Type := (Nat → Int32) × (Nat → Int32) × (Nat → Int32) × (Nat → Int32) × Nat × Nat × Int32 × Int32 × Int32 × Int32 × Int32
/-- the reference's state: flushed, now, slots, values, marks, own slots, own values, changes, homes, own, deeds, since, flushes, crashes -/
abbrev ja_SM : Type := (Nat → Int32) × (Nat → Int32) × (Nat → Int32) × (Nat → Int32) × (Nat → Int32) × (Nat → Int32) × (Nat → Int32) × Nat × Int32 × Nat × Int32 × Int32 × Int32 × Int32
theorem ja_pneg {k : Nat} (hk : k ≤ 24) (h : nI k - 1 < 0) : k = 0 := by
  cases k with
  | zero => rfl
  | succ j => rw [nI_pred] at h; exact absurd h (nI_pos (by omega))
theorem ja_ppos {k : Nat} (hk : k ≤ 24) (h : ¬ nI k - 1 < 0) : ∃ j, k = j + 1 := by
  cases k with
  | zero => exact absurd (by decide +kernel) h
  | succ j => exact ⟨j, rfl⟩
/-- the answer of count -/
def ja_sel (w a b c d f g : Int32) : Int32 := if w = nI 0 then a else if w = nI 1 then b else if w = nI 2 then c else if w = nI 3 then d else if w = nI 4 then f else if w = nI 5 then g else -1
theorem ja_sel0 {a b c d f g : Int32} : ja_sel (nI 0) a b c d f g = a := by
  unfold ja_sel; rw [if_pos rfl]
theorem ja_sel1 {a b c d f g : Int32} : ja_sel (nI 1) a b c d f g = b := by
  unfold ja_sel; rw [if_neg (by decide +kernel), if_pos rfl]
theorem ja_sel2 {a b c d f g : Int32} : ja_sel (nI 2) a b c d f g = c := by
  unfold ja_sel; rw [if_neg (by decide +kernel), if_neg (by decide +kernel), if_pos rfl]
theorem ja_sel3 {a b c d f g : Int32} : ja_sel (nI 3) a b c d f g = d := by
  unfold ja_sel; rw [if_neg (by decide +kernel), if_neg (by decide +kernel), if_neg (by decide +kernel), if_pos rfl]
theorem ja_sel4 {a b c d f g : Int32} : ja_sel (nI 4) a b c d f g = f := by
  unfold ja_sel; rw [if_neg (by decide +kernel), if_neg (by decide +kernel), if_neg (by decide +kernel), if_neg (by decide +kernel), if_pos rfl]
theorem ja_sel5 {a b c d f g : Int32} : ja_sel (nI 5) a b c d f g = g := by
  unfold ja_sel; rw [if_neg (by decide +kernel), if_neg (by decide +kernel), if_neg (by decide +kernel), if_neg (by decide +kernel), if_neg (by decide +kernel), if_pos rfl]
theorem ja_selD {w a b c d f g : Int32} (h : w < 0 ∨ nI 6 ≤ w) : ja_sel w a b c d f g = -1 := by
  have key : ∀ k, k < 6 → ¬ w = nI k := by
    intro k hk e
    subst e
    rcases h with h | h
    · exact absurd h (nI_pos (by omega))
    · exact absurd ((nI_leI (by decide) (by omega)).mp h) (by omega)
  unfold ja_sel
  rw [if_neg (key 0 (by decide)), if_neg (key 1 (by decide)), if_neg (key 2 (by decide)), if_neg (key 3 (by decide)), if_neg (key 4 (by decide)), if_neg (key 5 (by decide))]
