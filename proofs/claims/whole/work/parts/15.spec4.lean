/-! reading a tape -/
def rn (t : Nat → Nat) (ax : Nat) : Nat → Nat
  | 0 => 0
  | k + 1 => 2 * rn t ax k + t (ax + k)
theorem rn_lt {t : Nat → Nat} {ax k L : Nat} (ht : ∀ j, j < L → t j ≤ 1) (h : ax + k ≤ L) : rn t ax k < 2 ^ k := by
  induction k with
  | zero => simp [rn]
  | succ k ih =>
    have h1 := ih (by omega)
    have h2 := ht (ax + k) (by omega)
    rw [rn, Nat.pow_succ]
    omega
def rnum (t : Nat → Nat) (L ax k : Nat) : Nat × Nat × Nat := if ax + k ≤ L then (0, rn t ax k, ax + k) else (1, L, 0)
theorem rnum_ok {t : Nat → Nat} {L ax k : Nat} (h : ax + k ≤ L) : rnum t L ax k = (0, rn t ax k, ax + k) := if_pos h
theorem rnum_no {t : Nat → Nat} {L ax k : Nat} (h : L < ax + k) : rnum t L ax k = (1, L, 0) := if_neg (by omega)
def zc (t : Nat → Nat) (L : Nat) : Nat → Nat → Nat
  | 0, _ => 0
  | m + 1, p => if p < L ∧ t p = 0 then zc t L m (p + 1) + 1 else 0
theorem zc_stop {t : Nat → Nat} {L m p : Nat} (h : ¬ (p < L ∧ t p = 0)) : zc t L m p = 0 := by
  cases m with
  | zero => rfl
  | succ m => rw [zc, if_neg h]
theorem zc_go {t : Nat → Nat} {L m p : Nat} (h1 : p < L) (h2 : t p = 0) : zc t L (m + 1) p = zc t L m (p + 1) + 1 := by rw [zc, if_pos ⟨h1, h2⟩]
def rnou (t : Nat → Nat) (L w ax k : Nat) : Nat × Nat × Nat := if tpW w / 2 ^ k < zc t L (tpW w / 2 ^ k + 1) ax then (3, ax, 0) else if L ≤ ax + zc t L (tpW w / 2 ^ k + 1) ax then (1, L, 0) else if ax + zc t L (tpW w / 2 ^ k + 1) ax + 1 + k ≤ L then (0, zc t L (tpW w / 2 ^ k + 1) ax * 2 ^ k + rn t (ax + zc t L (tpW w / 2 ^ k + 1) ax + 1) k, ax + zc t L (tpW w / 2 ^ k + 1) ax + 1 + k) else (1, L, 0)
theorem rnou_3 {t : Nat → Nat} {L w ax k z : Nat} (hz : zc t L (tpW w / 2 ^ k + 1) ax = z) (h : tpW w / 2 ^ k < z) : rnou t L w ax k = (3, ax, 0) := by
  unfold rnou
  rw [hz, if_pos h]
theorem rnou_1 {t : Nat → Nat} {L w ax k z : Nat} (hz : zc t L (tpW w / 2 ^ k + 1) ax = z) (h : z ≤ tpW w / 2 ^ k) (h2 : L ≤ ax + z) : rnou t L w ax k = (1, L, 0) := by
  unfold rnou
  rw [hz, if_neg (by omega), if_pos h2]
theorem rnou_1b {t : Nat → Nat} {L w ax k z : Nat} (hz : zc t L (tpW w / 2 ^ k + 1) ax = z) (h : z ≤ tpW w / 2 ^ k) (h2 : ax + z < L) (h3 : L < ax + z + 1 + k) : rnou t L w ax k = (1, L, 0) := by
  unfold rnou
  rw [hz, if_neg (by omega), if_neg (by omega), if_neg (by omega)]
theorem rnou_0 {t : Nat → Nat} {L w ax k z : Nat} (hz : zc t L (tpW w / 2 ^ k + 1) ax = z) (h : z ≤ tpW w / 2 ^ k) (h2 : ax + z < L) (h3 : ax + z + 1 + k ≤ L) : rnou t L w ax k = (0, z * 2 ^ k + rn t (ax + z + 1) k, ax + z + 1 + k) := by
  unfold rnou
  rw [hz, if_neg (by omega), if_neg (by omega), if_pos (by omega)]
def rfold (t : Nat → Nat) (L w ax code : Nat) : Nat × Nat × Nat := if code = 8 then rnum t L ax w else if code = 0 then (0, 0, ax) else rnou t L w ax (code - 1)
theorem top_split {w k : Nat} (h : k < w) : tpW w / 2 ^ k * 2 ^ k + 2 ^ k = tpW w + 1 := by
  obtain ⟨d, rfl⟩ : ∃ d, w = k + d := ⟨w - k, by omega⟩
  have h1 : 1 ≤ 2 ^ d := Nat.one_le_two_pow
  have h2 : 1 ≤ 2 ^ k := Nat.one_le_two_pow
  have h3 : tpW (k + d) / 2 ^ k = 2 ^ d - 1 := by
    unfold tpW
    rw [Nat.pow_add]
    apply Nat.div_eq_of_lt_le
    · rw [Nat.sub_mul, Nat.mul_comm]
      omega
    · rw [Nat.sub_add_cancel h1, Nat.mul_comm (2 ^ d) (2 ^ k)]
      have : 1 ≤ 2 ^ k * 2 ^ d := Nat.mul_le_mul h2 h1
      omega
  rw [h3]
  unfold tpW
  rw [Nat.pow_add, Nat.sub_mul, Nat.mul_comm]
  have : 2 ^ k * 1 ≤ 2 ^ k * 2 ^ d := Nat.mul_le_mul (Nat.le_refl _) h1
  omega
theorem rfold_le {t : Nat → Nat} {L w ax code : Nat} (ht : ∀ j, j < L → t j ≤ 1) (hax : ax ≤ L) (hc : okC w code) (h : (rfold t L w ax code).1 = 0) : (rfold t L w ax code).2.1 ≤ tpW w ∧ (rfold t L w ax code).2.2 ≤ L := by
  unfold rfold at h ⊢
  split at h
  · next h8 =>
    rw [if_pos h8]
    unfold rnum at h ⊢
    split at h
    · next h9 =>
      rw [if_pos h9]
      have := rn_lt ht h9
      unfold tpW
      exact ⟨by simp only; omega, h9⟩
    · simp at h
  · next h8 =>
    rw [if_neg h8]
    split at h
    · next h0 =>
      rw [if_pos h0]
      exact ⟨Nat.zero_le _, hax⟩
    · next h0 =>
      rw [if_neg h0]
      unfold rnou at h ⊢
      split at h
      · simp at h
      · next q1 =>
        rw [if_neg q1]
        split at h
        · simp at h
        · next q2 =>
          rw [if_neg q2]
          split at h
          · next q3 =>
            rw [if_pos q3]
            have hk : code - 1 < w := by omega
            have q4 := rn_lt ht q3
            have q5 := top_split hk
            have q6 : zc t L (tpW w / 2 ^ (code - 1) + 1) ax * 2 ^ (code - 1) ≤ tpW w / 2 ^ (code - 1) * 2 ^ (code - 1) := Nat.mul_le_mul (by omega) (Nat.le_refl _)
            exact ⟨by simp only; omega, q3⟩
          · simp at h
theorem unfoldN_le {f e t : Nat} (hf : f ≤ t) (he : e ≤ t) : unfoldN f e t ≤ t := by
  unfold unfoldN
  (repeat' split) <;> omega
def rsam (t : Nat → Nat) (L w sz ev : Nat) (g : Nat → Nat) (ax i way code : Nat) : Nat × Nat × Nat := if i % (sz * ev) = 0 then rnum t L ax w else if (rfold t L w ax code).1 = 0 then (0, unfoldN (rfold t L w ax code).2.1 (told w sz ev g i way) (tpW w), (rfold t L w ax code).2.2) else rfold t L w ax code
theorem rsam_le {t : Nat → Nat} {L w sz ev ax i way code : Nat} {g : Nat → Nat} (hw : 2 ≤ w) (ht : ∀ j, j < L → t j ≤ 1) (hax : ax ≤ L) (hc : okC w code) (hg : ∀ j, j < i → g j ≤ tpW w) (h : (rsam t L w sz ev g ax i way code).1 = 0) : (rsam t L w sz ev g ax i way code).2.1 ≤ tpW w ∧ (rsam t L w sz ev g ax i way code).2.2 ≤ L := by
  unfold rsam at h ⊢
  split at h
  · next h1 =>
    rw [if_pos h1]
    unfold rnum at h ⊢
    split at h
    · next h9 =>
      rw [if_pos h9]
      have := rn_lt ht h9
      unfold tpW
      exact ⟨by simp only; omega, h9⟩
    · simp at h
  · next h1 =>
    rw [if_neg h1]
    split at h
    · next h2 =>
      rw [if_pos h2]
      have h3 := rfold_le ht hax hc h2
      have h4 : 1 ≤ i := by
        rcases Nat.eq_zero_or_pos i with h5 | h5
        · subst h5
          exact absurd (Nat.zero_mod _) h1
        · exact h5
      exact ⟨unfoldN_le h3.1 (told_le hw hg h4 (Nat.le_refl _)), h3.2⟩
    · next h2 => exact absurd h h2
/-- error, place, next bit, samples, how many -/
abbrev RSt : Type := Nat × Nat × Nat × (Nat → Nat) × Nat
def rstep (t : Nat → Nat) (L w sz ev way code : Nat) (s : RSt) : RSt :=
  if s.1 = 0 then
    (if (rsam t L w sz ev s.2.2.2.1 s.2.2.1 s.2.2.2.2 way code).1 = 0 then (0, 0, (rsam t L w sz ev s.2.2.2.1 s.2.2.1 s.2.2.2.2 way code).2.2, va_up s.2.2.2.1 s.2.2.2.2 (rsam t L w sz ev s.2.2.2.1 s.2.2.1 s.2.2.2.2 way code).2.1, s.2.2.2.2 + 1)
     else ((rsam t L w sz ev s.2.2.2.1 s.2.2.1 s.2.2.2.2 way code).1, (rsam t L w sz ev s.2.2.2.1 s.2.2.1 s.2.2.2.2 way code).2.1, s.2.2.1, s.2.2.2.1, s.2.2.2.2))
  else s
def rS (t : Nat → Nat) (L w sz ev way code : Nat) (s : RSt) : Nat → RSt
  | 0 => s
  | m + 1 => rstep t L w sz ev way code (rS t L w sz ev way code s m)
theorem rS_stay {t : Nat → Nat} {L w sz ev way code : Nat} {s : RSt} {m k : Nat} (h : (rS t L w sz ev way code s m).1 ≠ 0) (hk : m ≤ k) : rS t L w sz ev way code s k = rS t L w sz ev way code s m := by
  induction k with
  | zero =>
    have : m = 0 := by omega
    subst this
    rfl
  | succ k ih =>
    rcases Nat.lt_or_ge k m with h1 | h1
    · have : m = k + 1 := by omega
      subst this
      rfl
    · rw [rS, ih h1, rstep, if_neg h]
theorem rS_go {t : Nat → Nat} {L w sz ev way code ax i m : Nat} {g : Nat → Nat} {s : RSt} {r : Nat × Nat × Nat} (h : rS t L w sz ev way code s m = (0, 0, ax, g, i)) (hr : rsam t L w sz ev g ax i way code = r) (h0 : r.1 = 0) : rS t L w sz ev way code s (m + 1) = (0, 0, r.2.2, va_up g i r.2.1, i + 1) := by
  rw [rS, h, rstep]
  simp only [hr, h0, if_true]
theorem rS_no {t : Nat → Nat} {L w sz ev way code ax i m k : Nat} {g : Nat → Nat} {s : RSt} {r : Nat × Nat × Nat} (h : rS t L w sz ev way code s m = (0, 0, ax, g, i)) (hr : rsam t L w sz ev g ax i way code = r) (h0 : r.1 ≠ 0) (hk : m < k) : rS t L w sz ev way code s k = (r.1, r.2.1, ax, g, i) := by
  have h1 : rS t L w sz ev way code s (m + 1) = (r.1, r.2.1, ax, g, i) := by
    rw [rS, h, rstep]
    simp only [hr, h0, if_true, if_false]
  rw [rS_stay (m := m + 1) (by rw [h1]; exact h0) hk, h1]
def rblk (t : Nat → Nat) (L w sz ev ax : Nat) (g : Nat → Nat) (i en : Nat) : RSt :=
  if ax + 6 ≤ L then (if okC w (rn t ax 6 % 16) then rS t L w sz ev (rn t ax 6 / 16) (rn t ax 6 % 16) (0, 0, ax + 6, g, i) (en - i) else (2, ax, ax, g, i)) else (1, L, ax, g, i)
theorem rblk_1 {t : Nat → Nat} {L w sz ev ax i en : Nat} {g : Nat → Nat} (h : L < ax + 6) : rblk t L w sz ev ax g i en = (1, L, ax, g, i) := if_neg (by omega)
theorem rblk_2 {t : Nat → Nat} {L w sz ev ax i en : Nat} {g : Nat → Nat} (h : ax + 6 ≤ L) (h2 : ¬ okC w (rn t ax 6 % 16)) : rblk t L w sz ev ax g i en = (2, ax, ax, g, i) := by
  unfold rblk
  rw [if_pos h, if_neg h2]
theorem rblk_0 {t : Nat → Nat} {L w sz ev ax i en : Nat} {g : Nat → Nat} (h : ax + 6 ≤ L) (h2 : okC w (rn t ax 6 % 16)) : rblk t L w sz ev ax g i en = rS t L w sz ev (rn t ax 6 / 16) (rn t ax 6 % 16) (0, 0, ax + 6, g, i) (en - i) := by
  unfold rblk
  rw [if_pos h, if_pos h2]
/-- a good state of reading -/
def GSt (L w i0 : Nat) (s : RSt) : Prop := s.2.2.1 ≤ L ∧ i0 ≤ s.2.2.2.2 ∧ (∀ j, j < s.2.2.2.2 → s.2.2.2.1 j ≤ tpW w) ∧ s.1 < 5 ∧ (s.1 ≠ 0 → s.2.1 ≤ L)
theorem rsam_err {t : Nat → Nat} {L w sz ev ax i way code : Nat} {g : Nat → Nat} (hax : ax ≤ L) : (rsam t L w sz ev g ax i way code).1 < 5 ∧ ((rsam t L w sz ev g ax i way code).1 ≠ 0 → (rsam t L w sz ev g ax i way code).2.1 ≤ L) := by
  have hn : ∀ k, (rnum t L ax k).1 < 5 ∧ ((rnum t L ax k).1 ≠ 0 → (rnum t L ax k).2.1 ≤ L) := by
    intro k
    unfold rnum
    split
    · exact ⟨by simp, fun h => absurd rfl h⟩
    · exact ⟨by simp, fun _ => Nat.le_refl _⟩
  have hf : (rfold t L w ax code).1 < 5 ∧ ((rfold t L w ax code).1 ≠ 0 → (rfold t L w ax code).2.1 ≤ L) := by
    unfold rfold
    split
    · exact hn w
    · split
      · exact ⟨by simp, fun h => absurd rfl h⟩
      · unfold rnou
        split
        · exact ⟨by simp, fun _ => hax⟩
        · split
          · exact ⟨by simp, fun _ => Nat.le_refl _⟩
          · split
            · exact ⟨by simp, fun h => absurd rfl h⟩
            · exact ⟨by simp, fun _ => Nat.le_refl _⟩
  unfold rsam
  split
  · exact hn w
  · split
    · exact ⟨by simp, fun h => absurd rfl h⟩
    · exact hf
theorem rS_good {t : Nat → Nat} {L w sz ev way code : Nat} {s : RSt} (hw : 2 ≤ w) (ht : ∀ j, j < L → t j ≤ 1) (hc : okC w code) (hs : GSt L w s.2.2.2.2 s) (m : Nat) : GSt L w s.2.2.2.2 (rS t L w sz ev way code s m) ∧ ((rS t L w sz ev way code s m).1 = 0 → (rS t L w sz ev way code s m).2.2.2.2 = s.2.2.2.2 + m) ∧ (rS t L w sz ev way code s m).2.2.2.2 ≤ s.2.2.2.2 + m := by
  induction m with
  | zero => exact ⟨hs, fun _ => rfl, Nat.le_refl _⟩
  | succ m ih =>
    obtain ⟨⟨h1, h2, h3, h4, h5⟩, h6, h7⟩ := ih
    rw [rS]
    generalize rS t L w sz ev way code s m = u at h1 h2 h3 h4 h5 h6 h7
    unfold rstep
    split
    · next hu =>
      split
      · next hr =>
        have h8 := rsam_le (sz := sz) (ev := ev) (way := way) hw ht h1 hc h3 hr
        refine ⟨⟨h8.2, by simp only; omega, ?_, by simp only; omega, fun h => absurd rfl h⟩, fun _ => by simp only; have := h6 hu; omega, by simp only; omega⟩
        intro j hj
        simp only [va_up] at hj ⊢
        split
        · exact h8.1
        · exact h3 j (by omega)
      · next hr =>
        have h8 := rsam_err (t := t) (w := w) (sz := sz) (ev := ev) (i := u.2.2.2.2) (way := way) (code := code) (g := u.2.2.2.1) h1
        exact ⟨⟨h1, h2, h3, h8.1, h8.2⟩, fun h => absurd h hr, by simp only; omega⟩
    · next hu => exact ⟨⟨h1, h2, h3, h4, h5⟩, fun h => absurd h hu, by omega⟩
theorem rblk_good {t : Nat → Nat} {L w sz ev ax i en : Nat} {g : Nat → Nat} (hw : 2 ≤ w) (ht : ∀ j, j < L → t j ≤ 1) (hax : ax ≤ L) (hg : ∀ j, j < i → g j ≤ tpW w) (hen : i ≤ en) : GSt L w i (rblk t L w sz ev ax g i en) ∧ ((rblk t L w sz ev ax g i en).1 = 0 → (rblk t L w sz ev ax g i en).2.2.2.2 = en) ∧ (rblk t L w sz ev ax g i en).2.2.2.2 ≤ en := by
  unfold rblk
  split
  · next h1 =>
    split
    · next h2 =>
      have h3 := rS_good (sz := sz) (ev := ev) (way := rn t ax 6 / 16) (s := (0, 0, ax + 6, g, i)) hw ht h2 ⟨h1, Nat.le_refl _, hg, by simp, fun h => absurd rfl h⟩ (en - i)
      exact ⟨h3.1, fun h => by have := h3.2.1 h; simp only at this; omega, by have := h3.2.2; simp only at this; omega⟩
    · exact ⟨⟨hax, Nat.le_refl _, hg, by simp, fun _ => hax⟩, fun h => by simp at h, hen⟩
  · exact ⟨⟨hax, Nat.le_refl _, hg, by simp, fun _ => Nat.le_refl _⟩, fun h => by simp at h, hen⟩
/-- the state after b blocks of n samples -/
def rA (t : Nat → Nat) (L w sz ev n : Nat) : Nat → RSt
  | 0 => (0, 0, 0, fun _ => 0, 0)
  | b + 1 => if (rA t L w sz ev n b).1 = 0 then rblk t L w sz ev (rA t L w sz ev n b).2.2.1 (rA t L w sz ev n b).2.2.2.1 (b * sz) (min n ((b + 1) * sz)) else rA t L w sz ev n b
theorem rA_stay {t : Nat → Nat} {L w sz ev n m k : Nat} (h : (rA t L w sz ev n m).1 ≠ 0) (hk : m ≤ k) : rA t L w sz ev n k = rA t L w sz ev n m := by
  induction k with
  | zero =>
    have : m = 0 := by omega
    subst this
    rfl
  | succ k ih =>
    rcases Nat.lt_or_ge k m with h1 | h1
    · have : m = k + 1 := by omega
      subst this
      rfl
    · rw [rA, ih h1, if_neg h]
theorem rA_good {t : Nat → Nat} {L w sz ev n b : Nat} (hw : 2 ≤ w) (hs : 1 ≤ sz) (ht : ∀ j, j < L → t j ≤ 1) (hb : b ≤ (n + sz - 1) / sz) : GSt L w 0 (rA t L w sz ev n b) ∧ ((rA t L w sz ev n b).1 = 0 → (rA t L w sz ev n b).2.2.2.2 = min n (b * sz)) ∧ (rA t L w sz ev n b).2.2.2.2 ≤ n := by
  induction b with
  | zero => exact ⟨⟨Nat.zero_le _, Nat.le_refl _, fun j hj => by simp [rA] at hj, by simp [rA], fun h => absurd rfl h⟩, fun _ => by simp [rA], by simp [rA]⟩
  | succ b ih =>
    obtain ⟨⟨h1, h2, h3, h4, h5⟩, h6, h7⟩ := ih (by omega)
    have hlt := (blk_lt hs).mp hb
    have hmul : (b + 1) * sz = b * sz + sz := Nat.succ_mul b sz
    rw [rA]
    split
    · next hu =>
      have hi := h6 hu
      rw [Nat.min_eq_right (by omega)] at hi
      have h8 := rblk_good (sz := sz) (ev := ev) (i := b * sz) (en := min n ((b + 1) * sz)) hw ht h1 (fun j hj => h3 j (by omega)) (by omega)
      exact ⟨⟨h8.1.1, Nat.zero_le _, h8.1.2.2.1, h8.1.2.2.2.1, h8.1.2.2.2.2⟩, h8.2.1, by have := h8.2.2; omega⟩
    · next hu => exact ⟨⟨h1, h2, h3, h4, h5⟩, fun h => absurd h hu, h7⟩
/-- what read tells: number, place, samples, and how many -/
def rdF (t : Nat → Nat) (L w sz ev n : Nat) : RSt := if (rA t L w sz ev n ((n + sz - 1) / sz)).1 = 0 ∧ (rA t L w sz ev n ((n + sz - 1) / sz)).2.2.1 < L then (4, (rA t L w sz ev n ((n + sz - 1) / sz)).2.2.1, (rA t L w sz ev n ((n + sz - 1) / sz)).2.2) else rA t L w sz ev n ((n + sz - 1) / sz)
theorem rnou_lt (t : Nat → Nat) (L w ax k : Nat) : (rnou t L w ax k).1 < 5 := by
  unfold rnou
  (repeat' split) <;> simp
theorem rfold_lt (t : Nat → Nat) (L w ax code : Nat) : (rfold t L w ax code).1 < 5 := by
  unfold rfold
  split
  · unfold rnum
    split <;> simp
  · split
    · simp
    · exact rnou_lt _ _ _ _ _
theorem pos_of_mod {a k : Nat} (h : ¬ a % k = 0) : 1 ≤ a := by
  rcases Nat.eq_zero_or_pos a with h9 | h9
  · subst h9
    exact absurd (Nat.zero_mod _) h
  · exact h9
