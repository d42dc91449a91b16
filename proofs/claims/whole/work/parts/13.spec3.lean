/-! the choice of a block, what is packed -/
def chStep (o : Option (Nat × Nat × Nat)) (c : Option Nat) (way code : Nat) : Option (Nat × Nat × Nat) :=
  match c with
  | none => o
  | some c => match o with
    | none => some (c, way, code)
    | some q => if c < q.1 then some (c, way, code) else some q
def chs (co : Nat → Nat → Option Nat) : Nat → Option (Nat × Nat × Nat)
  | 0 => none
  | k + 1 => chStep (chs co k) (co (k / 9) (k % 9)) (k / 9) (k % 9)
theorem chs_s (co : Nat → Nat → Option Nat) {way code : Nat} (h : code < 9) : chs co (way * 9 + (code + 1)) = chStep (chs co (way * 9 + code)) (co way code) way code := by
  rw [← Nat.add_assoc, chs, show (way * 9 + code) / 9 = way by omega, show (way * 9 + code) % 9 = code by omega]
theorem chs_spec {co : Nat → Nat → Option Nat} {k : Nat} {q : Nat × Nat × Nat} (h : chs co k = some q) : co q.2.1 q.2.2 = some q.1 ∧ q.2.1 * 9 + q.2.2 < k ∧ q.2.2 < 9 := by
  induction k generalizing q with
  | zero => cases h
  | succ k ih =>
    rw [chs] at h
    cases hc : co (k / 9) (k % 9) with
    | none =>
      rw [hc] at h
      have := ih h
      exact ⟨this.1, by omega, this.2.2⟩
    | some c =>
      rw [hc] at h
      cases ho : chs co k with
      | none =>
        rw [ho] at h
        simp only [chStep, Option.some.injEq] at h
        subst h
        exact ⟨hc, by simp only; omega, by simp only; omega⟩
      | some q2 =>
        rw [ho] at h
        simp only [chStep] at h
        split at h
        · simp only [Option.some.injEq] at h
          subst h
          exact ⟨hc, by simp only; omega, by simp only; omega⟩
        · simp only [Option.some.injEq] at h
          subst h
          have := ih ho
          exact ⟨this.1, by omega, this.2.2⟩
theorem chs_min {co : Nat → Nat → Option Nat} {k j c : Nat} (hj : j < k) (hc : co (j / 9) (j % 9) = some c) : ∃ q, chs co k = some q ∧ q.1 ≤ c := by
  induction k with
  | zero => omega
  | succ k ih =>
    rw [chs]
    rcases Nat.lt_or_ge j k with h1 | h1
    · obtain ⟨q, hq, hle⟩ := ih h1
      rw [hq]
      cases co (k / 9) (k % 9) with
      | none => exact ⟨q, rfl, hle⟩
      | some c2 =>
        simp only [chStep]
        split
        · exact ⟨_, rfl, by simp only; omega⟩
        · exact ⟨q, rfl, hle⟩
    · have : j = k := by omega
      subst this
      rw [hc]
      cases ho : chs co j with
      | none => exact ⟨_, rfl, Nat.le_refl _⟩
      | some q2 =>
        simp only [chStep]
        split
        · exact ⟨_, rfl, Nat.le_refl _⟩
        · exact ⟨q2, rfl, by omega⟩
theorem oc (x : Option Nat) : x = none ∨ ∃ c, x = some c := by
  cases x with
  | none => exact Or.inl rfl
  | some c => exact Or.inr ⟨c, rfl⟩
theorem oc3 (x : Option (Nat × Nat × Nat)) : x = none ∨ ∃ c, x = some c := by
  cases x with
  | none => exact Or.inl rfl
  | some c => exact Or.inr ⟨c, rfl⟩
def lsI : Option (Nat × Nat × Nat) → Int32
  | none => -6
  | some q => nI q.1
def wUp (f : Nat → Nat) (b : Nat) : Option (Nat × Nat × Nat) → Nat → Nat
  | none => f
  | some q => va_up f b q.2.1
def cUp (f : Nat → Nat) (b : Nat) : Option (Nat × Nat × Nat) → Nat → Nat
  | none => f
  | some q => va_up f b q.2.2
theorem wUp_up (f : Nat → Nat) (b x : Nat) (o : Option (Nat × Nat × Nat)) : va_up (wUp f b o) b x = va_up f b x := by
  cases o with
  | none => rfl
  | some q => exact bx_uu _ _ _ _
theorem cUp_up (f : Nat → Nat) (b x : Nat) (o : Option (Nat × Nat × Nat)) : va_up (cUp f b o) b x = va_up f b x := by
  cases o with
  | none => rfl
  | some q => exact bx_uu _ _ _ _
def chQ (w sz ev : Nat) (g : Nat → Nat) (n b : Nat) : Nat × Nat × Nat := (chs (costB w sz ev g n b) 36).getD (0, 0, 0)
theorem chQ_is (w sz ev : Nat) (g : Nat → Nat) (n b : Nat) : chs (costB w sz ev g n b) 36 = some (chQ w sz ev g n b) ∧ (chQ w sz ev g n b).1 ≤ 6 + bq sz ev (b * sz) * w + (cntB sz n b - bq sz ev (b * sz)) * w := by
  have h : costB w sz ev g n b (8 / 9) (8 % 9) = some (6 + bq sz ev (b * sz) * w + (cntB sz n b - bq sz ev (b * sz)) * w) := by
    unfold costB
    rw [show 8 % 9 = 8 from rfl, cF_some (Or.inr (Or.inl rfl)) (fun h => by omega), sumR_fb8]
  obtain ⟨q, hq, hle⟩ := chs_min (k := 36) (by omega) h
  unfold chQ
  rw [hq]
  exact ⟨rfl, hle⟩
theorem chQ_spec (w sz ev : Nat) (g : Nat → Nat) (n b : Nat) : costB w sz ev g n b (chQ w sz ev g n b).2.1 (chQ w sz ev g n b).2.2 = some (chQ w sz ev g n b).1 ∧ (chQ w sz ev g n b).2.1 ≤ 3 ∧ (chQ w sz ev g n b).2.2 ≤ 8 := by
  have h := chs_spec (chQ_is w sz ev g n b).1
  exact ⟨h.1, by omega, by omega⟩
theorem wUp_ch (f : Nat → Nat) (w sz ev : Nat) (g : Nat → Nat) (n b : Nat) : wUp f b (chs (costB w sz ev g n b) 36) = va_up f b (chQ w sz ev g n b).2.1 := by
  rw [(chQ_is w sz ev g n b).1]
  rfl
theorem cUp_ch (f : Nat → Nat) (w sz ev : Nat) (g : Nat → Nat) (n b : Nat) : cUp f b (chs (costB w sz ev g n b) 36) = va_up f b (chQ w sz ev g n b).2.2 := by
  rw [(chQ_is w sz ev g n b).1]
  rfl
theorem cF_is {w hb fl code c : Nat} {ff : Nat → Nat} (h : cF w hb fl ff code = some c) : okC w code ∧ (code = 0 → sumR ff fl = 0) ∧ c = 6 + hb * w + sumR (fun j => fbC w code (ff j)) fl := by
  unfold cF at h
  split at h
  · next h1 =>
    simp only [Option.some.injEq] at h
    exact ⟨h1.1, h1.2, h.symm⟩
  · cases h
theorem Fx_le {w sz ev n way i : Nat} {g : Nat → Nat} (hw : 2 ≤ w) (hg : ∀ j, j < n → g j ≤ tpW w) (h1 : 1 ≤ i) (h2 : i < n) : Fx w sz ev g way i ≤ tpW w := foldN_le (hg i h2) (told_le hw hg h1 (by omega))
theorem fbC_le {w code f : Nat} (hw : w ≤ 8) (hc : code ≤ 8) (hf : f ≤ 255) : fbC w code f ≤ 263 := by
  have := Nat.div_le_self f (2 ^ (code - 1))
  unfold fbC
  split
  · omega
  · split <;> omega
theorem cnt_le {sz n b : Nat} (h : sz ≤ 8) : cntB sz n b ≤ 8 := by
  have hmul : (b + 1) * sz = b * sz + sz := Nat.succ_mul b sz
  unfold cntB
  omega
theorem Fs_le {w sz ev n b way : Nat} {g : Nat → Nat} (hw : 2 ≤ w ∧ w ≤ 8) (hg : ∀ j, j < n → g j ≤ tpW w) : ∀ j, j < cntB sz n b - bq sz ev (b * sz) → Fs w sz ev g way (b * sz + bq sz ev (b * sz)) j ≤ 255 := by
  intro j hj
  have h1 := bq_pos sz ev (b * sz)
  have h2 : cntB sz n b = min n ((b + 1) * sz) - b * sz := rfl
  have h3 := Fx_le (sz := sz) (ev := ev) (way := way) (i := b * sz + bq sz ev (b * sz) + j) hw.1 hg (by omega) (by omega)
  exact Nat.le_trans h3 (tpW_le hw.2)
theorem costB_lt {w sz ev n b way code c : Nat} {g : Nat → Nat} (hw : 2 ≤ w ∧ w ≤ 8) (hsz : sz ≤ 8) (hg : ∀ j, j < n → g j ≤ tpW w) (hc : code ≤ 8) (h : costB w sz ev g n b way code = some c) : c < 3000 := by
  obtain ⟨-, -, rfl⟩ := cF_is h
  have h1 := mulB (bq_le sz ev (b * sz)) hw.2
  have h2 := cnt_le (n := n) (b := b) hsz
  have h3 := sumR_le (h := fun j => fbC w code (Fs w sz ev g way (b * sz + bq sz ev (b * sz)) j)) (k := cntB sz n b - bq sz ev (b * sz)) (B := 263) (fun j hj => fbC_le hw.2 hc (Fs_le hw hg j hj))
  have h4 : (cntB sz n b - bq sz ev (b * sz)) * 263 ≤ 8 * 263 := Nat.mul_le_mul (by omega) (Nat.le_refl _)
  omega
/-- the bits of block b by its choice -/
def blkL (w sz ev : Nat) (g : Nat → Nat) (n b : Nat) : List Nat := bH w (bq sz ev (b * sz)) (chQ w sz ev g n b).2.1 (chQ w sz ev g n b).2.2 (g (b * sz)) ++ fL w (chQ w sz ev g n b).2.2 (Fs w sz ev g (chQ w sz ev g n b).2.1 (b * sz + bq sz ev (b * sz))) (cntB sz n b - bq sz ev (b * sz))
theorem blkL_len (w sz ev : Nat) (g : Nat → Nat) (n b : Nat) : (blkL w sz ev g n b).length = (chQ w sz ev g n b).1 := by
  obtain ⟨-, -, h⟩ := cF_is (chQ_spec w sz ev g n b).1
  rw [blkL, List.length_append, bH_len (bq_le _ _ _), fL_len, h]
def pks (B : Nat → List Nat) : Nat → List Nat
  | 0 => []
  | k + 1 => pks B k ++ B k
theorem blk_lt {sz n b : Nat} (h : 1 ≤ sz) : b < (n + sz - 1) / sz ↔ b * sz < n := by
  rw [Nat.lt_div_iff_mul_lt h]
  omega
theorem nbk_le {sz n : Nat} (h : 1 ≤ sz) (hn : n ≤ 64) : (n + sz - 1) / sz ≤ 64 := by
  rcases Nat.lt_or_ge 64 ((n + sz - 1) / sz) with h1 | h1
  · have := (blk_lt h).mp h1
    have h2 : 64 * 1 ≤ 64 * sz := Nat.mul_le_mul (Nat.le_refl _) h
    omega
  · exact h1
theorem chQ_le {w sz ev n b : Nat} {g : Nat → Nat} (hw : w ≤ 8) (hb : b * sz < n) (hs : 1 ≤ sz) : (chQ w sz ev g n b).1 ≤ 6 + cntB sz n b * 8 := by
  have h1 := (chQ_is w sz ev g n b).2
  have h2 := bq_le sz ev (b * sz)
  have hmul : (b + 1) * sz = b * sz + sz := Nat.succ_mul b sz
  have h3 : bq sz ev (b * sz) ≤ cntB sz n b := by
    unfold cntB
    omega
  have h4 : bq sz ev (b * sz) * w + (cntB sz n b - bq sz ev (b * sz)) * w = cntB sz n b * w := by
    rw [← Nat.add_mul]
    congr 1
    omega
  have h5 : cntB sz n b * w ≤ cntB sz n b * 8 := Nat.mul_le_mul (Nat.le_refl _) hw
  omega
theorem pks_le {w sz ev n : Nat} {g : Nat → Nat} (hw : w ≤ 8) (hs : 1 ≤ sz) (hn : n ≤ 64) : ∀ k, k ≤ (n + sz - 1) / sz → (pks (blkL w sz ev g n) k).length ≤ 6 * k + 8 * min n (k * sz) := by
  intro k
  induction k with
  | zero => intro _; exact Nat.zero_le _
  | succ k ih =>
    intro hk
    have h1 := ih (by omega)
    have h2 := (blk_lt hs).mp hk
    have h3 := chQ_le (ev := ev) (g := g) hw h2 hs
    have hmul : (k + 1) * sz = k * sz + sz := Nat.succ_mul k sz
    rw [pks, List.length_append, blkL_len]
    unfold cntB at h3
    omega
theorem pks_1000 {w sz ev n k : Nat} {g : Nat → Nat} (hw : w ≤ 8) (hs : 1 ≤ sz) (hn : n ≤ 64) (hk : k ≤ (n + sz - 1) / sz) : (pks (blkL w sz ev g n) k).length ≤ 896 := by
  have h1 := pks_le (ev := ev) (g := g) hw hs hn k hk
  have h2 := nbk_le hs hn
  omega
/-- the packer's rows as they must be when k blocks are settled -/
def PI (w sz ev : Nat) (g : Nat → Nat) (n k : Nat) (wf cf fi bt : Nat → Nat) (bl : Nat) : Prop := k ≤ (n + sz - 1) / sz ∧ bl = (pks (blkL w sz ev g n) k).length ∧ (∀ j, j < bl → bt j = (pks (blkL w sz ev g n) k).getD j 0) ∧ (∀ j, j < k → wf j = (chQ w sz ev g n j).2.1 ∧ cf j = (chQ w sz ev g n j).2.2) ∧ (∀ j, j ≤ k → fi j = (pks (blkL w sz ev g n) j).length)
theorem PI_step {w sz ev n k bl : Nat} {g wf cf fi bt : Nat → Nat} (h : PI w sz ev g n k wf cf fi bt bl) (hk : k < (n + sz - 1) / sz) : PI w sz ev g n (k + 1) (va_up wf k (chQ w sz ev g n k).2.1) (va_up cf k (chQ w sz ev g n k).2.2) (va_up fi (k + 1) (bl + (chQ w sz ev g n k).1)) (putL bt bl (blkL w sz ev g n k)) (bl + (chQ w sz ev g n k).1) := by
  obtain ⟨h1, h2, h3, h4, h5⟩ := h
  refine ⟨hk, ?_, ?_, ?_, ?_⟩
  · rw [pks, List.length_append, blkL_len, h2]
  · intro j hj
    simp only [putL, blkL_len, pks, List.getD_eq_getElem?_getD]
    rcases Nat.lt_or_ge j bl with h6 | h6
    · rw [if_neg (by omega), List.getElem?_append_left (by omega), h3 j h6, List.getD_eq_getElem?_getD]
    · rw [if_pos ⟨h6, hj⟩, List.getElem?_append_right (by omega), h2]
  · intro j hj
    simp only [va_up]
    rcases Nat.lt_or_ge j k with h6 | h6
    · rw [if_neg (by omega), if_neg (by omega)]
      exact h4 j h6
    · have : j = k := by omega
      subst this
      rw [if_pos rfl, if_pos rfl]
      exact ⟨rfl, rfl⟩
  · intro j hj
    simp only [va_up]
    rcases Nat.lt_or_ge j (k + 1) with h6 | h6
    · rw [if_neg (by omega)]
      exact h5 j (by omega)
    · have : j = k + 1 := by omega
      subst this
      rw [if_pos rfl, pks, List.length_append, blkL_len, h2]
theorem pks_pre (B : Nat → List Nat) {j k : Nat} (h : j ≤ k) : ∃ M, pks B k = pks B j ++ M := by
  induction k with
  | zero =>
    have : j = 0 := by omega
    subst this
    exact ⟨[], rfl⟩
  | succ k ih =>
    rcases Nat.lt_or_ge k j with h1 | h1
    · have : j = k + 1 := by omega
      subst this
      exact ⟨[], (List.append_nil _).symm⟩
    · obtain ⟨M, hM⟩ := ih h1
      exact ⟨M ++ B k, by rw [pks, hM, List.append_assoc]⟩
theorem PI_cut {w sz ev n k j bl : Nat} {g wf cf fi bt : Nat → Nat} (h : PI w sz ev g n k wf cf fi bt bl) (hj : j ≤ k) : PI w sz ev g n j wf cf fi bt (fi j) := by
  obtain ⟨h1, h2, h3, h4, h5⟩ := h
  have h6 := h5 j hj
  obtain ⟨M, hM⟩ := pks_pre (blkL w sz ev g n) hj
  refine ⟨by omega, h6, ?_, fun i hi => h4 i (by omega), fun i hi => h5 i (by omega)⟩
  intro i hi
  have h7 : (pks (blkL w sz ev g n) k).length = (pks (blkL w sz ev g n) j).length + M.length := by rw [hM, List.length_append]
  rw [h3 i (by omega), hM]
  simp only [List.getD_eq_getElem?_getD]
  rw [List.getElem?_append_left (by omega)]
