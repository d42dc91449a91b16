/-! the mathematics of the document: numbers from 0 on -/
def tpW (w : Nat) : Nat := 2 ^ w - 1
theorem p2le {w : Nat} (h : w ≤ 8) : 1 ≤ 2 ^ w ∧ 2 ^ w ≤ 256 := ⟨Nat.one_le_two_pow, Nat.le_trans (Nat.pow_le_pow_right (by omega) h) (by decide)⟩
theorem tpW_le {w : Nat} (h : w ≤ 8) : tpW w ≤ 255 := by
  have := p2le h
  unfold tpW
  omega
theorem tpW_ge {w : Nat} (h : 2 ≤ w) : 3 ≤ tpW w := by
  have : 2 ^ 2 ≤ 2 ^ w := Nat.pow_le_pow_right (by omega) h
  unfold tpW
  omega
theorem seB {sz ev : Nat} (h1 : 1 ≤ sz) (h2 : sz ≤ 8) (h3 : 1 ≤ ev) (h4 : ev ≤ 8) : 1 ≤ sz * ev ∧ sz * ev ≤ 64 := ⟨Nat.mul_le_mul h1 h3, Nat.mul_le_mul h2 h4⟩
theorem mulB {a b A B : Nat} (h1 : a ≤ A) (h2 : b ≤ B) : a * b ≤ A * B := Nat.mul_le_mul h1 h2
/-- what is told ahead -/
def told (w sz ev : Nat) (g : Nat → Nat) (i way : Nat) : Nat :=
  if way = 0 then (tpW w + 1) / 2 else if way = 1 then g (i - 1) else if way = 2 then min (tpW w) (2 * g (i - 1) - (if (i - 1) % (sz * ev) = 0 then g (i - 1) else g (i - 2))) else (g (i - 1) + (if (i - 1) % (sz * ev) = 0 then g (i - 1) else g (i - 2))) / 2
def foldN (v e t : Nat) : Nat := if e ≤ v ∧ v ≤ e + min e (t - e) then 2 * (v - e) else if v < e ∧ e - min e (t - e) ≤ v then 2 * (e - v) - 1 else min e (t - e) + (if v < e then e - v else v - e)
def unfoldN (f e t : Nat) : Nat := if f ≤ 2 * min e (t - e) then (if f % 2 = 0 then e + f / 2 else e - (f + 1) / 2) else if t - e ≤ e then e - (f - min e (t - e)) else e + (f - min e (t - e))
def mxN (g : Nat → Nat) : Nat → Nat
  | 0 => 0
  | k + 1 => max (mxN g k) (g k)
theorem mxN_le {g : Nat → Nat} {n B : Nat} (h : ∀ j, j < n → g j ≤ B) : mxN g n ≤ B := by
  induction n with
  | zero => exact Nat.zero_le _
  | succ n ih =>
    have h1 := ih (fun j hj => h j (Nat.lt_succ_of_lt hj))
    have h2 := h n (Nat.lt_succ_self n)
    simp only [mxN]
    omega
/-- the k lowest bits of v, the highest first -/
def nb (v : Nat) : Nat → List Nat
  | 0 => []
  | k + 1 => (v / 2 ^ k % 2) :: nb v k
theorem nb_length (v k : Nat) : (nb v k).length = k := by
  induction k with
  | zero => rfl
  | succ k ih => simp only [nb, List.length_cons, ih]
def putL (f : Nat → Nat) (n : Nat) (L : List Nat) : Nat → Nat := fun j => if n ≤ j ∧ j < n + L.length then L.getD (j - n) 0 else f j
theorem putL_nil (f : Nat → Nat) (n : Nat) : putL f n [] = f := by
  funext j
  simp only [putL, List.length_nil]
  rw [if_neg (by omega)]
theorem putL_snoc (f : Nat → Nat) (n : Nat) (L : List Nat) (x : Nat) : va_up (putL f n L) (n + L.length) x = putL f n (L ++ [x]) := by
  funext j
  simp only [va_up, putL, List.length_append, List.length_cons, List.length_nil]
  by_cases h1 : j = n + L.length
  · subst h1
    rw [if_pos rfl, if_pos (by omega)]
    simp [List.getD_eq_getElem?_getD]
  · rw [if_neg h1]
    by_cases h2 : n ≤ j ∧ j < n + L.length
    · rw [if_pos h2, if_pos (by omega)]
      simp only [List.getD_eq_getElem?_getD]
      rw [List.getElem?_append_left (by omega)]
    · rw [if_neg h2, if_neg (by omega)]
theorem putL_app (f : Nat → Nat) (n : Nat) (L M : List Nat) : putL (putL f n L) (n + L.length) M = putL f n (L ++ M) := by
  funext j
  simp only [putL, List.length_append]
  by_cases h1 : n + L.length ≤ j ∧ j < n + L.length + M.length
  · rw [if_pos h1, if_pos (by omega)]
    simp only [List.getD_eq_getElem?_getD]
    rw [List.getElem?_append_right (by omega)]
    congr 2
    omega
  · rw [if_neg h1]
    by_cases h2 : n ≤ j ∧ j < n + L.length
    · rw [if_pos h2, if_pos (by omega)]
      simp only [List.getD_eq_getElem?_getD]
      rw [List.getElem?_append_left (by omega)]
    · rw [if_neg h2, if_neg (by omega)]
/-- a number of the script inside a row -/
theorem q_nn {i : Int32} (h : 0 ≤ i.toInt) : i = nI i.toInt.toNat := by
  apply Int32.toInt_inj.mp
  rw [nI_toInt (by have := i.toInt_lt; omega)]
  omega
theorem q_cl {i : Int32} {n : Nat} (h : i.toInt < (n : Int)) (h0 : 0 ≤ i.toInt) : i.toInt.toNat < n := by omega
theorem q_m1t {k : Nat} (h : k < 2 ^ 30) : (nI k - nI 1).toInt = (k : Int) - 1 := pk_sub_toInt h (by decide)
theorem q_dec (x : Int32) : x + Int32.ofInt (-1) = x - nI 1 := by
  rw [Int32.sub_eq_add_neg]
  rfl
theorem q_abs {v e : Nat} (hv : v < 2 ^ 30) (he : e < 2 ^ 30) : (if 0 ≤ nI v - nI e then nI v - nI e else 0 - (nI v - nI e)) = nI (if v < e then e - v else v - e) := by
  have h := pk_sub_toInt hv he
  by_cases hlt : v < e
  · rw [if_neg (by rw [Int32.le_iff_toInt_le, h]; simp only [Int32.toInt_zero]; omega), if_pos hlt]
    have : (0 : Int32) - (nI v - nI e) = nI e - nI v := by
      rw [Int32.zero_sub, Int32.neg_sub]
    rw [this, pk_sub (by omega)]
  · rw [if_pos (by rw [Int32.le_iff_toInt_le, h]; simp only [Int32.toInt_zero]; omega), if_neg hlt, pk_sub (by omega)]
/-- the sample i of n, as g has it; none: -6 -/
def rAt (g : Nat → Nat) (n : Nat) (i : Int32) : Int32 := if 0 ≤ i.toInt ∧ i.toInt < (n : Int) then nI (g i.toInt.toNat) else -6
