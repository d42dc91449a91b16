/-! blocks: folds, costs, bits -/
def upT (h f : Nat → Nat) (m : Nat) : Nat → Nat := fun j => if j < m then h j else f j
theorem upT_0 (h f : Nat → Nat) : upT h f 0 = f := by
  funext j
  simp only [upT, Nat.not_lt_zero, if_false]
theorem upT_s (h f : Nat → Nat) (m : Nat) : va_up (upT h f m) m (h m) = upT h f (m + 1) := by
  funext j
  simp only [va_up, upT]
  by_cases h1 : j = m
  · subst h1
    rw [if_pos rfl, if_pos (by omega)]
  · rw [if_neg h1]
    by_cases h2 : j < m
    · rw [if_pos h2, if_pos (by omega)]
    · rw [if_neg h2, if_neg (by omega)]
theorem upT_in {h f : Nat → Nat} {m j : Nat} (hj : j < m) : upT h f m j = h j := by simp only [upT, if_pos hj]
def bq (sz ev i : Nat) : Nat := if i % (sz * ev) = 0 then 1 else 0
theorem bq_le (sz ev i : Nat) : bq sz ev i ≤ 1 := by
  unfold bq
  split <;> omega
theorem bq_pos (sz ev i : Nat) : 1 ≤ i + bq sz ev i := by
  unfold bq
  split
  · omega
  · next h =>
    rcases Nat.eq_zero_or_pos i with h0 | h0
    · subst h0
      exact absurd (Nat.zero_mod _) h
    · omega
theorem bq_i (sz ev i : Nat) : (if i % (sz * ev) = 0 then (1 : Int32) else 0) = nI (bq sz ev i) := by
  unfold bq
  split <;> rfl
theorem told_le {w sz ev n i way : Nat} {g : Nat → Nat} (hw : 2 ≤ w) (hg : ∀ j, j < n → g j ≤ tpW w) (h1 : 1 ≤ i) (h2 : i ≤ n) : told w sz ev g i way ≤ tpW w := by
  have ht := tpW_ge hw
  have ha := hg (i - 1) (by omega)
  have hb : (if (i - 1) % (sz * ev) = 0 then g (i - 1) else g (i - 2)) ≤ tpW w := by
    split
    · exact ha
    · exact hg (i - 2) (by omega)
  unfold told
  split
  · omega
  · split
    · omega
    · split
      · omega
      · omega
theorem foldN_le {v e t : Nat} (hv : v ≤ t) (he : e ≤ t) : foldN v e t ≤ t := by
  unfold foldN
  (repeat' split) <;> omega
def Fx (w sz ev : Nat) (g : Nat → Nat) (way i : Nat) : Nat := foldN (g i) (told w sz ev g i way) (tpW w)
def Fs (w sz ev : Nat) (g : Nat → Nat) (way s0 : Nat) : Nat → Nat := fun j => Fx w sz ev g way (s0 + j)
def sumR (h : Nat → Nat) : Nat → Nat
  | 0 => 0
  | k + 1 => sumR h k + h k
theorem sumR_ge (h : Nat → Nat) {i k : Nat} (hi : i < k) : h i ≤ sumR h k := by
  induction k with
  | zero => omega
  | succ k ih =>
    simp only [sumR]
    rcases Nat.lt_or_ge i k with h1 | h1
    · have := ih h1
      omega
    · have : i = k := by omega
      subst this
      omega
theorem sumR_congr {h h' : Nat → Nat} {k : Nat} (e : ∀ j, j < k → h j = h' j) : sumR h k = sumR h' k := by
  induction k with
  | zero => rfl
  | succ k ih => simp only [sumR, ih (fun j hj => e j (by omega)), e k (by omega)]
theorem sumR_const (c k : Nat) : sumR (fun _ => c) k = k * c := by
  induction k with
  | zero => simp [sumR]
  | succ k ih => rw [sumR, ih, Nat.succ_mul]
theorem sumR_le {h : Nat → Nat} {k B : Nat} (e : ∀ j, j < k → h j ≤ B) : sumR h k ≤ k * B := by
  induction k with
  | zero => simp [sumR]
  | succ k ih =>
    have h1 := ih (fun j hj => e j (by omega))
    have h2 := e k (by omega)
    simp only [sumR, Nat.succ_mul]
    omega
theorem sumR_mono (h : Nat → Nat) {m k : Nat} (hm : m ≤ k) : sumR h m ≤ sumR h k := by
  induction k with
  | zero =>
    have : m = 0 := by omega
    subst this
    exact Nat.le_refl _
  | succ k ih =>
    rcases Nat.lt_or_ge k m with h1 | h1
    · have : m = k + 1 := by omega
      subst this
      exact Nat.le_refl _
    · have := ih h1
      simp only [sumR]
      omega
theorem sumR_step (h : Nat → Nat) {m k : Nat} (hm : m ≤ k) : sumR h m + (if m < k then h m else 0) ≤ sumR h k := by
  split
  · next h1 => exact sumR_mono h (show m + 1 ≤ k from h1)
  · exact sumR_mono h hm
def cntB (sz n b : Nat) : Nat := min n ((b + 1) * sz) - b * sz
abbrev okC (w code : Nat) : Prop := code = 0 ∨ code = 8 ∨ (1 ≤ code ∧ code < 8 ∧ code - 1 < w)
def fbC (w code f : Nat) : Nat := if code = 0 then 0 else if code = 8 then w else f / 2 ^ (code - 1) + code
def cF (w hb fl : Nat) (ff : Nat → Nat) (code : Nat) : Option Nat := if okC w code ∧ (code = 0 → sumR ff fl = 0) then some (6 + hb * w + sumR (fun j => fbC w code (ff j)) fl) else none
def oI : Option Nat → Int32
  | none => -6
  | some c => nI c
theorem cF_none {w hb fl code : Nat} {ff : Nat → Nat} (h : ¬ okC w code) : cF w hb fl ff code = none := by
  unfold cF
  rw [if_neg (fun q => h q.1)]
theorem cF_none0 {w hb fl code : Nat} {ff : Nat → Nat} (h : code = 0) (h2 : ¬ sumR ff fl = 0) : cF w hb fl ff code = none := by
  unfold cF
  rw [if_neg (fun q => h2 (q.2 h))]
theorem cF_some {w hb fl code : Nat} {ff : Nat → Nat} (h : okC w code) (h2 : code = 0 → sumR ff fl = 0) : cF w hb fl ff code = some (6 + hb * w + sumR (fun j => fbC w code (ff j)) fl) := by
  unfold cF
  rw [if_pos ⟨h, h2⟩]
theorem cF_congr {w hb fl code : Nat} {ff ff' : Nat → Nat} (e : ∀ j, j < fl → ff j = ff' j) : cF w hb fl ff code = cF w hb fl ff' code := by
  unfold cF
  rw [sumR_congr e, sumR_congr (h := fun j => fbC w code (ff j)) (h' := fun j => fbC w code (ff' j)) (fun j hj => by simp only [e j hj])]
def costB (w sz ev : Nat) (g : Nat → Nat) (n b way code : Nat) : Option Nat := cF w (bq sz ev (b * sz)) (cntB sz n b - bq sz ev (b * sz)) (Fs w sz ev g way (b * sz + bq sz ev (b * sz))) code
/-- the bits of a fold -/
def fbL (w code f : Nat) : List Nat := if code = 0 then [] else if code = 8 then nb f w else List.replicate (f / 2 ^ (code - 1)) 0 ++ 1 :: nb f (code - 1)
theorem fbL_len {w code f : Nat} : (fbL w code f).length = fbC w code f := by
  unfold fbL fbC
  split
  · rfl
  · split
    · exact nb_length f w
    · simp only [List.length_append, List.length_replicate, List.length_cons, nb_length]
      omega
def fL (w code : Nat) (ff : Nat → Nat) : Nat → List Nat
  | 0 => []
  | m + 1 => fL w code ff m ++ fbL w code (ff m)
theorem fL_len {w code : Nat} {ff : Nat → Nat} (m : Nat) : (fL w code ff m).length = sumR (fun j => fbC w code (ff j)) m := by
  induction m with
  | zero => rfl
  | succ m ih => simp only [fL, sumR, List.length_append, ih, fbL_len]
theorem fL_zero {w : Nat} {ff : Nat → Nat} (m : Nat) : fL w 0 ff m = [] := by
  induction m with
  | zero => rfl
  | succ m ih => simp only [fL, ih, fbL, if_true, List.append_nil]
theorem fL_congr {w code : Nat} {ff ff' : Nat → Nat} {m : Nat} (e : ∀ j, j < m → ff j = ff' j) : fL w code ff m = fL w code ff' m := by
  induction m with
  | zero => rfl
  | succ m ih => simp only [fL, ih (fun j hj => e j (by omega)), e m (by omega)]
theorem sumR_fb0 {w : Nat} {ff : Nat → Nat} (m : Nat) : sumR (fun j => fbC w 0 (ff j)) m = 0 := by
  rw [← fL_len, fL_zero]
  rfl
theorem sumR_fb8 {w : Nat} {ff : Nat → Nat} (m : Nat) : sumR (fun j => fbC w 8 (ff j)) m = m * w := by
  rw [sumR_congr (h' := fun _ => w) (fun j _ => by simp [fbC]), sumR_const]
def bH (w hb way code ba : Nat) : List Nat := nb way 2 ++ nb code 4 ++ (if hb = 1 then nb ba w else [])
theorem bH_len {w hb way code ba : Nat} (h : hb ≤ 1) : (bH w hb way code ba).length = 6 + hb * w := by
  unfold bH
  rcases (show hb = 0 ∨ hb = 1 by omega) with rfl | rfl
  · simp [nb_length]
  · simp only [if_true, List.length_append, nb_length]
    omega
theorem putL_app' {f : Nat → Nat} {n m : Nat} {L M : List Nat} (h : m = n + L.length) : putL (putL f n L) m M = putL f n (L ++ M) := by
  subst h
  exact putL_app f n L M
theorem putL_snoc' {f : Nat → Nat} {n m : Nat} {L : List Nat} {x : Nat} (h : m = n + L.length) : va_up (putL f n L) m x = putL f n (L ++ [x]) := by
  subst h
  exact putL_snoc f n L x
theorem putL_noughts (f : Nat → Nat) (n q x k : Nat) : putL (va_up (putL f n (List.replicate q 0)) (n + q) 1) (n + q + 1) (nb x k) = putL f n (List.replicate q 0 ++ 1 :: nb x k) := by
  rw [putL_snoc' (by simp), putL_app' (by simp; omega), List.append_assoc]
  rfl
theorem putL_rep (f : Nat → Nat) (n m : Nat) : va_up (putL f n (List.replicate m 0)) (n + m) 0 = putL f n (List.replicate (m + 1) 0) := by
  rw [putL_snoc' (by simp), List.replicate_succ']
theorem q_clip {a b t : Nat} (ha : a < 2 ^ 30) (hb : b < 2 ^ 30) (ht : t < 2 ^ 30) : (if nI 0 < (if nI a - nI b < nI t then nI a - nI b else nI t) then (if nI a - nI b < nI t then nI a - nI b else nI t) else nI 0) = nI (min t (a - b)) := by
  have h := pk_sub_toInt ha hb
  rcases Nat.lt_or_ge a b with hlt | hge
  · rw [if_pos (show nI a - nI b < nI t by rw [Int32.lt_iff_toInt_lt, h, nI_toInt (by omega)]; omega), if_neg (show ¬ nI 0 < nI a - nI b by rw [Int32.lt_iff_toInt_lt, h, nI_toInt (by omega)]; omega)]
    congr 1
    omega
  · rw [pk_sub hge]
    simp only [nI_ltI (show a - b < 2 ^ 31 by omega) (show t < 2 ^ 31 by omega)]
    split
    · simp only [nI_ltI (show 0 < 2 ^ 31 by omega) (show a - b < 2 ^ 31 by omega)]
      split <;> congr 1 <;> omega
    · simp only [nI_ltI (show 0 < 2 ^ 31 by omega) (show t < 2 ^ 31 by omega)]
      split <;> congr 1 <;> omega
def ctN (co : Nat → Nat) (x : Nat) : Nat → Nat
  | 0 => 0
  | k + 1 => ctN co x k + (if co k = x then 1 else 0)
theorem ctN_le (co : Nat → Nat) (x k : Nat) : ctN co x k ≤ k := by
  induction k with
  | zero => exact Nat.le_refl 0
  | succ k ih =>
    simp only [ctN]
    split <;> omega
/-- what ahead answers -/
def aheadR (w sz ev : Nat) (g : Nat → Nat) (n : Nat) (i way what : Int32) : Int32 := if ¬ (0 ≤ way.toInt ∧ way.toInt < 4) ∨ ¬ (0 ≤ what.toInt ∧ what.toInt ≤ 1) then -2 else if ¬ (0 ≤ i.toInt ∧ i.toInt < (n : Int)) ∨ i.toInt.toNat % (sz * ev) = 0 then -6 else if what.toInt = 0 then nI (told w sz ev g i.toInt.toNat way.toInt.toNat) else nI (foldN (g i.toInt.toNat) (told w sz ev g i.toInt.toNat way.toInt.toNat) (tpW w))
