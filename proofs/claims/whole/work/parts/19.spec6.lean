theorem nb_bit (v k : Nat) : ∀ x ∈ nb v k, x ≤ 1 := by
  induction k with
  | zero => intro x hx; cases hx
  | succ k ih =>
    intro x hx
    rw [nb] at hx
    rcases List.mem_cons.mp hx with h | h
    · omega
    · exact ih x h
theorem fbL_bit (w code f : Nat) : ∀ x ∈ fbL w code f, x ≤ 1 := by
  intro x hx
  unfold fbL at hx
  split at hx
  · cases hx
  · split at hx
    · exact nb_bit _ _ x hx
    · rcases List.mem_append.mp hx with h | h
      · have := (List.mem_replicate.mp h).2
        omega
      · rcases List.mem_cons.mp h with h | h
        · omega
        · exact nb_bit _ _ x h
theorem fL_bit (w code : Nat) (ff : Nat → Nat) (m : Nat) : ∀ x ∈ fL w code ff m, x ≤ 1 := by
  induction m with
  | zero => intro x hx; cases hx
  | succ m ih =>
    intro x hx
    rw [fL] at hx
    rcases List.mem_append.mp hx with h | h
    · exact ih x h
    · exact fbL_bit _ _ _ x h
theorem bH_bit (w hb way code ba : Nat) : ∀ x ∈ bH w hb way code ba, x ≤ 1 := by
  intro x hx
  unfold bH at hx
  rcases List.mem_append.mp hx with h | h
  · rcases List.mem_append.mp h with h | h
    · exact nb_bit _ _ x h
    · exact nb_bit _ _ x h
  · split at h
    · exact nb_bit _ _ x h
    · cases h
theorem pks_bit {B : Nat → List Nat} (hB : ∀ b, ∀ x ∈ B b, x ≤ 1) (k : Nat) : ∀ x ∈ pks B k, x ≤ 1 := by
  induction k with
  | zero => intro x hx; cases hx
  | succ k ih =>
    intro x hx
    rw [pks] at hx
    rcases List.mem_append.mp hx with h | h
    · exact ih x h
    · exact hB k x h
theorem getD_bit {l : List Nat} (h : ∀ x ∈ l, x ≤ 1) (j : Nat) : l.getD j 0 ≤ 1 := by
  rw [List.getD_eq_getElem?_getD]
  cases hj : l[j]? with
  | none => exact Nat.zero_le _
  | some x => exact h x (List.mem_of_getElem? hj)
theorem pkL_bit (w sz ev n : Nat) (g : Nat → Nat) (j : Nat) : (pkL w sz ev n g).getD j 0 ≤ 1 := getD_bit (pks_bit (fun b x hx => by
  unfold blkL at hx
  rcases List.mem_append.mp hx with h | h
  · exact bH_bit _ _ _ _ _ x h
  · exact fL_bit _ _ _ _ x h) _) j
theorem rdF_good {t : Nat → Nat} {L w sz ev n : Nat} (hw : 2 ≤ w) (hs : 1 ≤ sz) (ht : ∀ j, j < L → t j ≤ 1) : (rdF t L w sz ev n).1 < 5 ∧ (∀ j, j < (rdF t L w sz ev n).2.2.2.2 → (rdF t L w sz ev n).2.2.2.1 j ≤ tpW w) ∧ ((rdF t L w sz ev n).1 = 0 → (rdF t L w sz ev n).2.2.2.2 = n) ∧ (rdF t L w sz ev n).2.2.2.2 ≤ n ∧ ((rdF t L w sz ev n).1 ≠ 0 → (rdF t L w sz ev n).2.1 ≤ L) := by
  have h := rA_good (ev := ev) (n := n) hw hs ht (Nat.le_refl ((n + sz - 1) / sz))
  have h9 : n ≤ (n + sz - 1) / sz * sz := by
    rcases Nat.lt_or_ge ((n + sz - 1) / sz * sz) n with h1 | h1
    · have := (blk_lt hs).mpr h1
      omega
    · exact h1
  unfold rdF
  split
  · next h1 => exact ⟨by simp, h.1.2.2.1, fun h2 => by simp at h2, h.2.2, fun _ => h.1.1⟩
  · next h1 => exact ⟨h.1.2.2.2.1, h.1.2.2.1, fun h2 => by rw [h.2.1 h2]; omega, h.2.2, h.1.2.2.2.2⟩
theorem PI_0 {w sz ev n st bl : Nat} {g wf cf fi bt : Nat → Nat} (h : PI w sz ev g n st wf cf fi bt bl) (w' sz' ev' n' : Nat) (g' : Nat → Nat) : PI w' sz' ev' g' n' (if 0 < st then 0 else st) wf cf fi bt (if 0 < st then fi 0 else bl) := by
  obtain ⟨h1, h2, h3, h4, h5⟩ := h
  have hf : fi 0 = 0 := h5 0 (Nat.zero_le _)
  have hst : (if 0 < st then 0 else st) = 0 := by split <;> omega
  have hbl : (if 0 < st then fi 0 else bl) = 0 := by
    split
    · exact hf
    · have : st = 0 := by omega
      subst this
      exact h2
  rw [hst, hbl]
  exact ⟨Nat.zero_le _, rfl, fun j hj => by omega, fun j hj => by omega, fun j hj => by
    have : j = 0 := by omega
    subst this
    exact hf⟩
theorem told_congr {w sz ev i way : Nat} {g g' : Nat → Nat} (h : ∀ j, j < i → g j = g' j) (hi : 1 ≤ i) : told w sz ev g i way = told w sz ev g' i way := by
  unfold told
  rw [h (i - 1) (by omega)]
  split
  · rfl
  · split
    · rfl
    · by_cases hb : (i - 1) % (sz * ev) = 0
      · rw [if_pos hb, if_pos hb]
      · have : 1 ≤ i - 1 := pos_of_mod hb
        rw [if_neg hb, if_neg hb, h (i - 2) (by omega)]
theorem Fx_congr {w sz ev i way : Nat} {g g' : Nat → Nat} (h : ∀ j, j ≤ i → g j = g' j) (hi : 1 ≤ i) : Fx w sz ev g way i = Fx w sz ev g' way i := by
  unfold Fx
  rw [h i (Nat.le_refl _), told_congr (fun j hj => h j (by omega)) hi]
theorem Fs_congr {w sz ev n b way : Nat} {g g' : Nat → Nat} (h : ∀ j, j < n → g j = g' j) : ∀ j, j < cntB sz n b - bq sz ev (b * sz) → Fs w sz ev g way (b * sz + bq sz ev (b * sz)) j = Fs w sz ev g' way (b * sz + bq sz ev (b * sz)) j := by
  intro j hj
  have h1 := bq_pos sz ev (b * sz)
  have h2 : cntB sz n b = min n ((b + 1) * sz) - b * sz := rfl
  exact Fx_congr (fun i hi => h i (by omega)) (by omega)
theorem costB_congr {w sz ev n n' b : Nat} {g g' : Nat → Nat} (hc : cntB sz n b = cntB sz n' b) (h : ∀ j, j < n → g j = g' j) : costB w sz ev g n b = costB w sz ev g' n' b := by
  funext way code
  unfold costB
  rw [← hc]
  exact cF_congr (Fs_congr h)
theorem chQ_congr {w sz ev n n' b : Nat} {g g' : Nat → Nat} (hc : cntB sz n b = cntB sz n' b) (h : ∀ j, j < n → g j = g' j) : chQ w sz ev g n b = chQ w sz ev g' n' b := by
  unfold chQ
  rw [costB_congr hc h]
theorem blkL_congr {w sz ev n n' b : Nat} {g g' : Nat → Nat} (hb : b * sz < n) (hc : cntB sz n b = cntB sz n' b) (h : ∀ j, j < n → g j = g' j) : blkL w sz ev g n b = blkL w sz ev g' n' b := by
  unfold blkL
  rw [← chQ_congr hc h, ← hc, h _ hb, fL_congr (Fs_congr h)]
theorem pks_congr {B B' : Nat → List Nat} {k : Nat} (h : ∀ b, b < k → B b = B' b) : pks B k = pks B' k := by
  induction k with
  | zero => rfl
  | succ k ih => rw [pks, pks, ih (fun b hb => h b (by omega)), h k (by omega)]
theorem PI_grow {w sz ev n k bl v : Nat} {g wf cf fi bt : Nat → Nat} (hs : 1 ≤ sz) (h : PI w sz ev g n k wf cf fi bt bl) (hk : k * sz ≤ n) : PI w sz ev (va_up g n v) (n + 1) k wf cf fi bt bl := by
  obtain ⟨h1, h2, h3, h4, h5⟩ := h
  have hg : ∀ j, j < n → g j = va_up g n v j := fun j hj => by simp only [va_up]; rw [if_neg (by omega)]
  have key : ∀ b, b < k → b * sz < n ∧ cntB sz n b = cntB sz (n + 1) b := by
    intro b hb
    have hm : (b + 1) * sz ≤ k * sz := Nat.mul_le_mul hb (Nat.le_refl _)
    have hmul : (b + 1) * sz = b * sz + sz := Nat.succ_mul b sz
    refine ⟨by omega, ?_⟩
    unfold cntB
    omega
  have hB : ∀ j, j ≤ k → pks (blkL w sz ev g n) j = pks (blkL w sz ev (va_up g n v) (n + 1)) j := fun j hj => pks_congr (fun b hb => blkL_congr (key b (by omega)).1 (key b (by omega)).2 hg)
  refine ⟨?_, ?_, ?_, ?_, ?_⟩
  · rcases Nat.eq_zero_or_pos k with h9 | h9
    · rw [h9]
      exact Nat.zero_le _
    · have : k - 1 < (n + 1 + sz - 1) / sz := (blk_lt hs).mpr (by have := (key (k - 1) (by omega)).1; omega)
      omega
  · rw [← hB k (Nat.le_refl _)]
    exact h2
  · intro j hj
    rw [← hB k (Nat.le_refl _)]
    exact h3 j hj
  · intro j hj
    rw [← chQ_congr (key j hj).2 hg]
    exact h4 j hj
  · intro j hj
    rw [← hB j hj]
    exact h5 j hj
theorem PI_add {w sz ev n st bl : Nat} {g wf cf fi bt : Nat → Nat} (hs : 1 ≤ sz) (h : PI w sz ev g n st wf cf fi bt bl) (v : Nat) : PI w sz ev (va_up g n v) (n + 1) (if n / sz < st then n / sz else st) wf cf fi bt (if n / sz < st then fi (n / sz) else bl) := by
  have hd : n / sz * sz ≤ n := Nat.div_mul_le_self n sz
  split
  · next h1 => exact PI_grow hs (PI_cut h (by omega)) hd
  · next h1 => exact PI_grow hs h (Nat.le_trans (Nat.mul_le_mul (by omega) (Nat.le_refl _)) hd)
theorem lost_low {b sz ev n : Nat} (he : 1 ≤ ev) (h : b * sz ≤ n) : b * sz ≤ min n ((b / ev + 1) * (sz * ev)) := by
  have h1 : b ≤ (b / ev + 1) * ev := by
    have := Nat.div_add_mod b ev
    have h2 := Nat.mod_lt b he
    rw [Nat.add_mul, Nat.one_mul, Nat.mul_comm]
    omega
  have h3 : b * sz ≤ (b / ev + 1) * ev * sz := Nat.mul_le_mul h1 (Nat.le_refl _)
  rw [Nat.mul_assoc, Nat.mul_comm ev sz] at h3
  omega
theorem q_or1 {k : Nat} (h : k < 4) : nI k ||| nI 1 = nI (if k % 2 = 1 then k else k + 1) := by
  rcases (show k = 0 ∨ k = 1 ∨ k = 2 ∨ k = 3 by omega) with rfl | rfl | rfl | rfl <;> rfl
theorem q_or2 {k : Nat} (h : k < 4) : nI k ||| nI 2 = nI (if k / 2 % 2 = 1 then k else k + 2) := by
  rcases (show k = 0 ∨ k = 1 ∨ k = 2 ∨ k = 3 by omega) with rfl | rfl | rfl | rfl <;> rfl
theorem mxN_ge (g : Nat → Nat) {j n : Nat} (h : j < n) : g j ≤ mxN g n := by
  induction n with
  | zero => omega
  | succ n ih =>
    simp only [mxN]
    rcases Nat.lt_or_ge j n with h1 | h1
    · have := ih h1
      omega
    · have : j = n := by omega
      subst this
      omega
theorem ctN_congr {co co' : Nat → Nat} {x k : Nat} (h : ∀ j, j < k → co j = co' j) : ctN co x k = ctN co' x k := by
  induction k with
  | zero => rfl
  | succ k ih => simp only [ctN, ih (fun j hj => h j (by omega)), h k (by omega)]
