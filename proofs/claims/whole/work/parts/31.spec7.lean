/-! the reference's row of numbers -/
def stA (w sz ev n : Nat) (g : Nat → Nat) (L : Nat) (t : Nat → Nat) (x : Nat) (y z : Int32) : Nat → Int32 := fun j => if j < 64 then nI (g j) else if j < 1064 then nI (t (j - 64)) else if j = 1064 then nI n else if j = 1065 then nI L else if j = 1066 then nI w else if j = 1067 then nI sz else if j = 1068 then nI ev else if j = 1069 then nI x else if j = 1070 then y else if j = 1071 then z else 0
section ST
variable {w sz ev n L x v i : Nat} {g t : Nat → Nat} {y z u : Int32}
theorem stA_row (h : i < 64) : stA w sz ev n g L t x y z i = nI (g i) := by
  unfold stA
  rw [if_pos h]
theorem stA_tape (h : i < 1000) : stA w sz ev n g L t x y z (64 + i) = nI (t i) := by
  unfold stA
  rw [if_neg (by omega), if_pos (by omega), show 64 + i - 64 = i by omega]
theorem stA_upr (h : i < 64) : upd (stA w sz ev n g L t x y z) i (nI v) = stA w sz ev n (va_up g i v) L t x y z := by
  funext j
  simp only [upd, stA, va_up]
  by_cases h1 : j = i
  · subst h1
    rw [if_pos rfl, if_pos h, if_pos rfl]
  · rw [if_neg h1, if_neg h1]
theorem stA_upt (h : i < 1000) : upd (stA w sz ev n g L t x y z) (64 + i) (nI v) = stA w sz ev n g L (va_up t i v) x y z := by
  funext j
  simp only [upd, stA, va_up]
  by_cases h1 : j = 64 + i
  · subst h1
    rw [if_pos rfl, if_neg (by omega), if_pos (by omega), if_pos (by omega)]
  · rw [if_neg h1]
    by_cases h2 : j < 64
    · rw [if_pos h2, if_pos h2]
    · rw [if_neg h2, if_neg h2]
      by_cases h3 : j < 1064
      · rw [if_pos h3, if_pos h3, if_neg (by omega)]
      · rw [if_neg h3, if_neg h3]
theorem stA_up1064 : upd (stA w sz ev n g L t x y z) 1064 (nI v) = stA w sz ev v g L t x y z := by
  funext j
  simp only [upd, stA]
  by_cases h1 : j = 1064
  · subst h1
    rfl
  · rw [if_neg h1]
    (repeat' split) <;> first | rfl | (exfalso; omega)
theorem stA_up1065 : upd (stA w sz ev n g L t x y z) 1065 (nI v) = stA w sz ev n g v t x y z := by
  funext j
  simp only [upd, stA]
  by_cases h1 : j = 1065
  · subst h1
    rfl
  · rw [if_neg h1]
    (repeat' split) <;> first | rfl | (exfalso; omega)
theorem stA_up1066 : upd (stA w sz ev n g L t x y z) 1066 (nI v) = stA v sz ev n g L t x y z := by
  funext j
  simp only [upd, stA]
  by_cases h1 : j = 1066
  · subst h1
    rfl
  · rw [if_neg h1]
    (repeat' split) <;> first | rfl | (exfalso; omega)
theorem stA_up1067 : upd (stA w sz ev n g L t x y z) 1067 (nI v) = stA w v ev n g L t x y z := by
  funext j
  simp only [upd, stA]
  by_cases h1 : j = 1067
  · subst h1
    rfl
  · rw [if_neg h1]
    (repeat' split) <;> first | rfl | (exfalso; omega)
theorem stA_up1068 : upd (stA w sz ev n g L t x y z) 1068 (nI v) = stA w sz v n g L t x y z := by
  funext j
  simp only [upd, stA]
  by_cases h1 : j = 1068
  · subst h1
    rfl
  · rw [if_neg h1]
    (repeat' split) <;> first | rfl | (exfalso; omega)
theorem stA_up1069 : upd (stA w sz ev n g L t x y z) 1069 (nI v) = stA w sz ev n g L t v y z := by
  funext j
  simp only [upd, stA]
  by_cases h1 : j = 1069
  · subst h1
    rfl
  · rw [if_neg h1]
    (repeat' split) <;> first | rfl | (exfalso; omega)
theorem stA_up1070 : upd (stA w sz ev n g L t x y z) 1070 (u) = stA w sz ev n g L t x u z := by
  funext j
  simp only [upd, stA]
  by_cases h1 : j = 1070
  · subst h1
    rfl
  · rw [if_neg h1]
    (repeat' split) <;> first | rfl | (exfalso; omega)
theorem stA_up1071 : upd (stA w sz ev n g L t x y z) 1071 u = stA w sz ev n g L t x y u := by
  funext j
  simp only [upd, stA]
  by_cases h1 : j = 1071
  · subst h1
    rfl
  · rw [if_neg h1]
    (repeat' split) <;> first | rfl | (exfalso; omega)
end ST
theorem nb_mod (v k : Nat) : nb (v % 2 ^ k) k = nb v k := by
  have key : ∀ m, m ≤ k → nb (v % 2 ^ k) m = nb v m := by
    intro m
    induction m with
    | zero => intro _; rfl
    | succ m ih =>
      intro hm
      rw [nb, nb, ih (by omega)]
      congr 1
      obtain ⟨d, rfl⟩ : ∃ d, k = m + 1 + d := ⟨k - m - 1, by omega⟩
      rw [show (2 : Nat) ^ (m + 1 + d) = 2 ^ m * (2 * 2 ^ d) by rw [Nat.pow_add, Nat.pow_succ, Nat.mul_assoc], Nat.mod_mul_right_div_self, Nat.mod_mul_right_mod]
  exact key k (Nat.le_refl k)
theorem q_andm {f k : Nat} (hf : f < 2 ^ 32) (hk : k ≤ 31) : nI f &&& nI (2 ^ k - 1) = nI (f % 2 ^ k) := pk_andN hf k (by
  have h1 : 2 ^ k ≤ 2 ^ 31 := Nat.pow_le_pow_right (by omega) hk
  exact pk_tn (by omega))
