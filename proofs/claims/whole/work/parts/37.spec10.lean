/-! the reference's state -/
def stT (c : HT) : Nat → Int32 := stA c.1 c.2.1 c.2.2.1 c.2.2.2.1 c.2.2.2.2.1 c.2.2.2.2.2.1 c.2.2.2.2.2.2.1 c.2.2.2.2.2.2.2.1 c.2.2.2.2.2.2.2.2.1 c.2.2.2.2.2.2.2.2.2
/-- now, images, kept, row, bits, how many, block at, chosen, next, wrong, its place, got -/
abbrev MT : Type := HT × (Nat → Int32) × (Nat → Int32) × (Nat → Nat) × (Nat → Nat) × Nat × (Nat → Nat) × (Nat → Nat) × Nat × Nat × Nat × Nat
def IRel (b : HT) (im : Nat → Int32) (base : Nat) : Prop := HOk b ∧ ∃ c : HT, HAg b c ∧ ∀ j, j < 1072 → im (base + j) = stT c j
def MRel (A : AT) (Y : MT) : Prop := HOk A.1 ∧ HAg A.1 Y.1 ∧ (A.2.2.2 % 2 = 1 → IRel A.2.1 Y.2.1 (1072 * 0)) ∧ (A.2.2.2 / 2 % 2 = 1 → IRel A.2.2.1 Y.2.1 (1072 * 1)) ∧ Y.2.2.1 0 = nI (A.2.2.2 % 2) ∧ Y.2.2.1 1 = nI (A.2.2.2 / 2 % 2) ∧ A.2.2.2 < 4
def upI (h f : Nat → Int32) (base m : Nat) : Nat → Int32 := fun j => if base ≤ j ∧ j < base + m then h (j - base) else f j
theorem upI_0 (h f : Nat → Int32) (base : Nat) : upI h f base 0 = f := by
  funext j
  unfold upI
  rw [if_neg (by omega)]
theorem upI_s (h f : Nat → Int32) (base m : Nat) : upd (upI h f base m) (base + m) (h m) = upI h f base (m + 1) := by
  funext j
  simp only [upd, upI]
  by_cases h1 : j = base + m
  · subst h1
    rw [if_pos rfl, if_pos (by omega), show base + m - base = m by omega]
  · rw [if_neg h1]
    by_cases h2 : base ≤ j ∧ j < base + m
    · rw [if_pos h2, if_pos (by omega)]
    · rw [if_neg h2, if_neg (by omega)]
theorem upI_in {h f : Nat → Int32} {base m j : Nat} (hj : j < m) : upI h f base m (base + j) = h j := by
  unfold upI
  rw [if_pos (by omega), show base + j - base = j by omega]
theorem upI_out {h f : Nat → Int32} {base m j : Nat} (hj : j < base ∨ base + m ≤ j) : upI h f base m j = f j := by
  unfold upI
  rw [if_neg (by omega)]
theorem stA_far {w sz ev n L x j : Nat} {g t : Nat → Nat} {y z : Int32} (h : 1072 ≤ j) : stA w sz ev n g L t x y z j = 0 := by
  unfold stA
  rw [if_neg (by omega), if_neg (by omega), if_neg (by omega), if_neg (by omega), if_neg (by omega), if_neg (by omega), if_neg (by omega), if_neg (by omega), if_neg (by omega), if_neg (by omega)]
theorem upI_st {im : Nat → Int32} {base : Nat} {c : HT} {w sz ev n L x : Nat} {g t : Nat → Nat} {y z : Int32} (h : ∀ j, j < 1072 → im (base + j) = stT c j) : upI (fun j => im (base + j)) (stA w sz ev n g L t x y z) 0 1072 = stT c := by
  funext j
  rcases Nat.lt_or_ge j 1072 with h1 | h1
  · have := upI_in (h := fun j => im (base + j)) (f := stA w sz ev n g L t x y z) (base := 0) (m := 1072) h1
    rw [Nat.zero_add] at this
    rw [this, h j h1]
  · rw [upI_out (by omega), stA_far h1]
    exact (stA_far h1).symm
theorem MPI_la {w sz ev n b bm : Nat} {g hf lf bf : Nat → Nat} (h : MPI w sz ev g n (nbk sz n) hf lf bf bm) (h6 : lf (nbk sz n) = bm) (hb : b < nbk sz n) : lf (b + 1) = (pks (blkL w sz ev g n) (b + 1)).length := by
  rcases Nat.lt_or_ge (b + 1) (nbk sz n) with h9 | h9
  · exact h.2.2.2.2 _ h9
  · have h8 : b + 1 = nbk sz n := by omega
    rw [h8, h6]
    exact h.2.1
theorem upI_s0 (h f : Nat → Int32) (m : Nat) : upd (upI h f 0 m) m (h m) = upI h f 0 (m + 1) := by
  have h9 := upI_s h f 0 m
  rw [Nat.zero_add] at h9
  exact h9
/-- the reference's 8 cells -/
def wM (cI cZ : ClassId) (am : Nat → Nat) (Y : MT) : va_W := [(am 0, .inr (9, [.ref (am 1), .ref (am 2), .ref (am 3), .ref (am 4), .ref (am 5), .int (nI (Y.2.2.2.2.2.1)), .ref (am 6), .ref (am 7), .int (nI (Y.2.2.2.2.2.2.2.2.1)), .int (nI (Y.2.2.2.2.2.2.2.2.2.1)), .int (nI (Y.2.2.2.2.2.2.2.2.2.2.1)), .int (nI (Y.2.2.2.2.2.2.2.2.2.2.2))])), (am 1, .inl (cI, 1072, .inl (stA (Y.1.1) (Y.1.2.1) (Y.1.2.2.1) (Y.1.2.2.2.1) (Y.1.2.2.2.2.1) (Y.1.2.2.2.2.2.1) (Y.1.2.2.2.2.2.2.1) (Y.1.2.2.2.2.2.2.2.1) (Y.1.2.2.2.2.2.2.2.2.1) (Y.1.2.2.2.2.2.2.2.2.2)))), (am 2, .inl (cI, 2144, .inl (Y.2.1))), (am 3, .inl (cZ, 2, .inl (Y.2.2.1))), (am 4, .inl (cI, 64, .inl (aN (Y.2.2.2.1)))), (am 5, .inl (cI, 1000, .inl (aN (Y.2.2.2.2.1)))), (am 6, .inl (cI, 65, .inl (aN (Y.2.2.2.2.2.2.1)))), (am 7, .inl (cI, 64, .inl (aN (Y.2.2.2.2.2.2.2.1))))]
