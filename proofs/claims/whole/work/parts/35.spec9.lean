theorem rn_add (t : Nat → Nat) (a j k : Nat) : rn t a (j + k) = rn t a j * 2 ^ k + rn t (a + j) k := by
  induction k with
  | zero => simp [rn]
  | succ k ih =>
    rw [← Nat.add_assoc, rn, ih, rn, Nat.pow_succ, Nat.mul_add, Nat.add_assoc a j k, ← Nat.mul_assoc (rn t a j) (2 ^ k) 2, Nat.mul_comm (rn t a j * 2 ^ k) 2]
    omega
theorem rn_head {t : Nat → Nat} {L ax : Nat} (ht : ∀ j, j < L → t j ≤ 1) (h : ax + 6 ≤ L) : rn t ax 6 / 16 = rn t ax 2 ∧ rn t ax 6 % 16 = rn t (ax + 2) 4 ∧ rn t ax 2 ≤ 3 ∧ rn t (ax + 2) 4 < 16 := by
  have h1 := rn_add t ax 2 4
  have h2 : rn t (ax + 2) 4 < 2 ^ 4 := rn_lt ht (by omega)
  have h3 : rn t ax 2 < 2 ^ 2 := rn_lt ht (by omega)
  rw [show 2 + 4 = 6 from rfl] at h1
  omega
section CG
variable {b t : Nat → Nat} {L : Nat}
theorem rn_c (h : ∀ j, j < L → b j = t j) {ax k : Nat} (hk : ax + k ≤ L) : rn b ax k = rn t ax k := by
  induction k with
  | zero => rfl
  | succ k ih => rw [rn, rn, ih (by omega), h _ (by omega)]
theorem rnum_c (h : ∀ j, j < L → b j = t j) (ax k : Nat) : rnum b L ax k = rnum t L ax k := by
  unfold rnum
  split
  · next h1 => rw [rn_c h h1]
  · rfl
theorem zc_c (h : ∀ j, j < L → b j = t j) (m p : Nat) : zc b L m p = zc t L m p := by
  induction m generalizing p with
  | zero => rfl
  | succ m ih =>
    rw [zc, zc]
    by_cases h1 : p < L
    · rw [h p h1, ih]
    · rw [if_neg (fun q => h1 q.1), if_neg (fun q => h1 q.1)]
theorem rnou_c (h : ∀ j, j < L → b j = t j) (w ax k : Nat) : rnou b L w ax k = rnou t L w ax k := by
  unfold rnou
  rw [zc_c h]
  split
  · rfl
  · split
    · rfl
    · split
      · next h1 => rw [rn_c h h1]
      · rfl
theorem rfold_c (h : ∀ j, j < L → b j = t j) (w ax code : Nat) : rfold b L w ax code = rfold t L w ax code := by
  unfold rfold
  rw [rnum_c h, rnou_c h]
theorem rsam_c (h : ∀ j, j < L → b j = t j) (w sz ev : Nat) (g : Nat → Nat) (ax i way code : Nat) : rsam b L w sz ev g ax i way code = rsam t L w sz ev g ax i way code := by
  unfold rsam
  rw [rnum_c h, rfold_c h]
theorem rS_c (h : ∀ j, j < L → b j = t j) (w sz ev way code : Nat) (s : RSt) (m : Nat) : rS b L w sz ev way code s m = rS t L w sz ev way code s m := by
  induction m with
  | zero => rfl
  | succ m ih =>
    rw [rS, rS, ih]
    unfold rstep
    rw [rsam_c h]
theorem rblk_c (h : ∀ j, j < L → b j = t j) (w sz ev ax : Nat) (g : Nat → Nat) (i en : Nat) : rblk b L w sz ev ax g i en = rblk t L w sz ev ax g i en := by
  unfold rblk
  split
  · next h1 => rw [rn_c h h1, rS_c h]
  · rfl
end CG
