/-! the reference's costs and packing -/
theorem bare_first {sz ev b m : Nat} (hs : 1 ≤ sz) (hm : m < sz) (h : (b * sz + m) % (sz * ev) = 0) : m = 0 := by
  have h1 : sz ∣ b * sz + m := Nat.dvd_trans (Nat.dvd_mul_right sz ev) (Nat.dvd_of_mod_eq_zero h)
  have h2 : sz ∣ m := (Nat.dvd_add_right (Nat.dvd_mul_left sz b)).mp h1
  exact Nat.eq_zero_of_dvd_of_lt h2 hm
def mPS (w hb code : Nat) (ff : Nat → Nat) (m : Nat) : Nat := (if m = 0 then 0 else hb * w) + sumR (fun j => fbC w code (ff j)) (m - hb)
def mPL (w hb ba code : Nat) (ff : Nat → Nat) (m : Nat) : List Nat := (if m = 0 then [] else if hb = 1 then nb ba w else []) ++ fL w code ff (m - hb)
theorem mPL_len {w hb ba code m : Nat} {ff : Nat → Nat} (h : hb ≤ 1) : (mPL w hb ba code ff m).length = mPS w hb code ff m := by
  unfold mPL mPS
  rw [List.length_append, fL_len]
  congr 1
  rcases (show hb = 0 ∨ hb = 1 by omega) with rfl | rfl
  · split <;> simp
  · split <;> simp [nb_length]
theorem mPL_0 (w hb ba code : Nat) (ff : Nat → Nat) : mPL w hb ba code ff 0 = [] := by
  unfold mPL
  rw [if_pos rfl, Nat.zero_sub]
  rfl
theorem mPS_0 (w hb code : Nat) (ff : Nat → Nat) : mPS w hb code ff 0 = 0 := by
  unfold mPS
  rw [if_pos rfl, Nat.zero_sub]
  rfl
theorem mPL_bare (w ba code : Nat) (ff : Nat → Nat) : mPL w 1 ba code ff 1 = nb ba w := by
  unfold mPL
  rw [if_neg (by omega), if_pos rfl]
  exact List.append_nil _
theorem mPS_bare (w code : Nat) (ff : Nat → Nat) : mPS w 1 code ff 1 = w := by
  unfold mPS
  rw [if_neg (by omega), Nat.one_mul]
  rfl
theorem mPL_step {w hb ba code m : Nat} {ff : Nat → Nat} (h : hb ≤ m) (hb1 : hb ≤ 1) : mPL w hb ba code ff (m + 1) = mPL w hb ba code ff m ++ fbL w code (ff (m - hb)) := by
  unfold mPL
  rw [if_neg (by omega), show m + 1 - hb = (m - hb) + 1 by omega, fL]
  rcases Nat.eq_zero_or_pos m with h0 | h0
  · subst h0
    have : hb = 0 := by omega
    subst this
    rfl
  · rw [if_neg (show ¬ m = 0 by omega), List.append_assoc]
theorem mPS_step {w hb code m : Nat} {ff : Nat → Nat} (h : hb ≤ m) (hb1 : hb ≤ 1) : mPS w hb code ff (m + 1) = mPS w hb code ff m + fbC w code (ff (m - hb)) := by
  have h1 := mPL_len (w := w) (ba := 0) (code := code) (m := m + 1) (ff := ff) hb1
  rw [mPL_step h hb1, List.length_append, mPL_len hb1, fbL_len] at h1
  exact h1.symm
theorem mPL_end {w hb way code ba m : Nat} {ff : Nat → Nat} (h : 1 ≤ m) : nb way 2 ++ nb code 4 ++ mPL w hb ba code ff m = bH w hb way code ba ++ fL w code ff (m - hb) := by
  unfold mPL bH
  rw [if_neg (by omega), ← List.append_assoc]
theorem mPS_mono {w hb code m k : Nat} {ff : Nat → Nat} (h : m ≤ k) : mPS w hb code ff m ≤ mPS w hb code ff k := by
  unfold mPS
  have h1 := sumR_mono (fun j => fbC w code (ff j)) (show m - hb ≤ k - hb by omega)
  split
  · split <;> omega
  · rw [if_neg (by omega)]
    omega
theorem mPS_end {w hb code m : Nat} {ff : Nat → Nat} (h : 1 ≤ m) : mPS w hb code ff m = hb * w + sumR (fun j => fbC w code (ff j)) (m - hb) := by
  unfold mPS
  rw [if_neg (by omega)]
def bsI : Option (Nat × Nat × Nat) → Int32
  | none => -6
  | some q => nI (16 * q.2.1 + q.2.2)
def lsN : Option (Nat × Nat × Nat) → Nat
  | none => 0
  | some q => q.1
/-- the reference's rows when k blocks are packed -/
def MPI (w sz ev : Nat) (g : Nat → Nat) (n k : Nat) (hf lf bf : Nat → Nat) (bm : Nat) : Prop := k ≤ nbk sz n ∧ bm = (pks (blkL w sz ev g n) k).length ∧ (∀ j, j < bm → bf j = (pks (blkL w sz ev g n) k).getD j 0) ∧ (∀ j, j < k → hf j = 16 * (chQ w sz ev g n j).2.1 + (chQ w sz ev g n j).2.2) ∧ (∀ j, j < k → lf j = (pks (blkL w sz ev g n) j).length)
theorem MPI_step {w sz ev n k bm : Nat} {g hf lf bf : Nat → Nat} (h : MPI w sz ev g n k hf lf bf bm) (hk : k < nbk sz n) : MPI w sz ev g n (k + 1) (va_up hf k (16 * (chQ w sz ev g n k).2.1 + (chQ w sz ev g n k).2.2)) (va_up lf k bm) (putL bf bm (blkL w sz ev g n k)) (bm + (chQ w sz ev g n k).1) := by
  obtain ⟨h1, h2, h3, h4, h5⟩ := h
  refine ⟨hk, ?_, ?_, ?_, ?_⟩
  · rw [pks, List.length_append, blkL_len, h2]
  · intro j hj
    simp only [putL, blkL_len, pks, List.getD_eq_getElem?_getD]
    rcases Nat.lt_or_ge j bm with h6 | h6
    · rw [if_neg (by omega), List.getElem?_append_left (by omega), h3 j h6, List.getD_eq_getElem?_getD]
    · rw [if_pos ⟨h6, hj⟩, List.getElem?_append_right (by omega), h2]
  · intro j hj
    simp only [va_up]
    rcases Nat.lt_or_ge j k with h6 | h6
    · rw [if_neg (by omega)]
      exact h4 j h6
    · have : j = k := by omega
      subst this
      rw [if_pos rfl]
  · intro j hj
    simp only [va_up]
    rcases Nat.lt_or_ge j k with h6 | h6
    · rw [if_neg (by omega)]
      exact h5 j h6
    · have : j = k := by omega
      subst this
      rw [if_pos rfl, h2]
theorem notbare_le {sz ev b k : Nat} (hs : 1 ≤ sz) (h : ¬ (b * sz + k) % (sz * ev) = 0) : bq sz ev (b * sz) ≤ k := by
  rcases Nat.eq_zero_or_pos k with h0 | h0
  · subst h0
    unfold bq
    rw [if_neg (show ¬ b * sz % (sz * ev) = 0 from h)]
    exact Nat.le_refl _
  · exact Nat.le_trans (bq_le _ _ _) h0
