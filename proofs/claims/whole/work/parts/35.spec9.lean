theorem rn_add (t : Nat → Nat) (a j k : Nat) : rn t a (j + k) = rn t a j * 2 ^ k + rn t (a + j) k := by
  induction k with
  | zero => simp [rn]
  | succ k ih =>
    rw [← Nat.add_assoc, rn, ih, rn, Nat.pow_succ, Nat.mul_add, Nat.add_assoc a j k, ← Nat.mul_assoc (rn t a j) (2 ^ k) 2, Nat.mul_comm (rn t a j * 2 ^ k) 2]
    omega
theorem rn_head {t : Nat → Nat} {L ax : Nat} (ht : ∀ j, j < L → t j ≤ 1) (h : ax + 6 ≤ L) : rn t ax 6 / 16 = rn t ax 2 ∧ rn t ax 6 % 16 = rn t (ax + 2) 4 ∧ rn t ax 2 ≤ 3 ∧ rn t (ax + 2) 4 < 16 := by
  have h1 := rn_add t ax 2 4
  have h2 : rn t (ax + 2) 4 < 2 ^ 4 := rn_lt ht (by omega)
  have h3 : rn t ax 2 < 2 ^ 2 := rn_lt ht (by omega)
  rw [show 2 + 4 = 6 from rfl] at h1
  omega
