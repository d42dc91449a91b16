set_option maxHeartbeats 4000000 in
set_option maxRecDepth 100000 in
theorem law_loop {p : Program} {l : Launch} {e : Env} {s : State} {m : MethodId} {below : List Frame} {meth : Method} {c : Code} {D : va_G} {cI cZ cH : ClassId} {b L : Nat} {xs : Nat → Int32} {ad am : Nat → Nat} (C : Cx RL wsL_law code 4 ret D cI cZ cH (fun q : Nat => s.heap.size ≤ q) p s m #[Value.ref b] meth c) (hX : va_X b L xs s s.heap) (hbl : b < s.heap.size) (hL : L ≤ 2048) (A0 : AT) (X0 : CS) (Y0 : MT) (h1 : CRel A0 X0) (h2 : MRel A0 Y0) : J D (fun q : Nat => s.heap.size ≤ q) p l e room_1 s m #[Value.ref b] below meth c 43 8951 (lw_Z below #[Value.ref b] s) 4 (wC cI cH ad X0 ++ wM cI cZ am Y0) [(3, .int (nI 0)), (2, .ref (am 0)), (1, .ref (ad 0)), (0, .ref b)] 18 [] := by
  refine j_loop4 (fun (i : Nat) (A : AT) (X : CS) (Y : MT) => i ≤ L + 4 ∧ CRel A X ∧ MRel A Y) (fun (i : Nat) (A : AT) (X : CS) (Y : MT) => L + 8 - i) (fun (i : Nat) (A : AT) (X : CS) (Y : MT) => wC cI cH ad X ++ wM cI cZ am Y) (fun (i : Nat) (A : AT) (X : CS) (Y : MT) => [(3, .int (nI i)), (2, .ref (am 0)), (1, .ref (ad 0)), (0, .ref b)]) ?_ 0 A0 X0 Y0 ⟨Nat.zero_le _, h1, h2⟩ rfl rfl
  intro i A X Y hI ih
  obtain ⟨hiL, hR, hM⟩ := hI
  show J D (fun q : Nat => s.heap.size ≤ q) p l e room_1 s m #[Value.ref b] below meth c 43 8951 (lw_Z below #[Value.ref b] s) 4 (wC cI cH ad X ++ wM cI cZ am Y) [(3, .int (nI i)), (2, .ref (am 0)), (1, .ref (ad 0)), (0, .ref b)] 18 []
  refine j_iload_n C dL_law_18 0 rfl 19 rfl ?_
  refine j_aload_n C dL_law_19 3 rfl 20 rfl ?_
  refine l_len C hX hbl dL_law_20 21 rfl ?_
  refine j_iconst C dL_law_21 (nI 4) (by decide) 22 rfl ?_
  refine j_isub C dL_law_22 (nI L - nI 4) rfl 23 rfl ?_
  refine j_icmp_gt C dL_law_23 607 (by decide) (q_t (show i < 2 ^ 31 by omega)) (pk_sub_toInt (by omega) (by omega)) 26 rfl (fun h23 => ?_) (fun h23 => ?_)
  · refine j_iconst C dL_law_607 (nI 1) (by decide) 608 rfl ?_
    exact l_ret C dL_law_608
  · have kk : ∀ (A1 : AT) (X1 : CS) (Y1 : MT), CRel A1 X1 → MRel A1 Y1 → J D (fun q : Nat => s.heap.size ≤ q) p l e room_1 s m #[Value.ref b] below meth c 43 8951 (lw_Z below #[Value.ref b] s) 4 (wC cI cH ad X1 ++ wM cI cZ am Y1) [(3, .int (nI i)), (2, .ref (am 0)), (1, .ref (ad 0)), (0, .ref b)] 601 [] := by
      intro A1 X1 Y1 hR1 hM1
      refine j_iinc C dL_law_601 0 rfl (nI (i + 4)) (nI_add i 4) [(3, .int (nI (i + 4))), (2, .ref (am 0)), (1, .ref (ad 0)), (0, .ref b)] (by decide) rfl 604 rfl ?_
      refine j_goto C dL_law_604 18 (by decide) ?_
      exact ih (i + 4) A1 X1 Y1 ⟨by omega, hR1, hM1⟩ (by omega)
    have hi4 : i + 4 ≤ L := by omega
    refine j_aload_n C dL_law_26 3 rfl 27 rfl ?_
    refine j_iload_n C dL_law_27 0 rfl 28 rfl ?_
    refine l_ld C hX hbl (show i < L by omega) (show L < 2 ^ 31 by omega) dL_law_28 29 rfl ?_
    refine j_bipush C dL_law_29 (nI 31) (by decide) 31 rfl ?_
    obtain ⟨k, hk, ek⟩ := pk_andE (xs i) (m := nI 31) 5 rfl
    refine j_iand C dL_law_31 (nI k) ek 32 rfl ?_
    have hsw : ((k : Nat) : Int) = 0 ∨ ((k : Nat) : Int) = 1 ∨ ((k : Nat) : Int) = 2 ∨ ((k : Nat) : Int) = 3 ∨ ((k : Nat) : Int) = 4 ∨ ((k : Nat) : Int) = 5 ∨ ((k : Nat) : Int) = 6 ∨ ((k : Nat) : Int) = 7 ∨ ((k : Nat) : Int) = 8 ∨ ((k : Nat) : Int) = 9 ∨ ((k : Nat) : Int) = 10 ∨ ((k : Nat) : Int) = 11 ∨ ((k : Nat) : Int) = 12 ∨ ((k : Nat) : Int) = 13 ∨ ((k : Nat) : Int) = 14 ∨ ((k : Nat) : Int) = 15 ∨ ((k : Nat) : Int) = 16 ∨ ((k : Nat) : Int) = 17 ∨ ((k : Nat) : Int) = 18 ∨ (((k : Nat) : Int) < 0 ∨ 18 < ((k : Nat) : Int)) := by omega
    rcases hsw with h32 | h32 | h32 | h32 | h32 | h32 | h32 | h32 | h32 | h32 | h32 | h32 | h32 | h32 | h32 | h32 | h32 | h32 | h32 | h32
    · refine j_tabIn C dL_law_32 0 ((q_t (show k < 2 ^ 31 by omega)).trans h32) (by decide) (by decide) (92) rfl 124 (by decide) ?_
      exact law_rule C hX hbl hL A X Y hR hM i hi4 kk
    · refine j_tabIn C dL_law_32 1 ((q_t (show k < 2 ^ 31 by omega)).trans h32) (by decide) (by decide) (125) rfl 157 (by decide) ?_
      exact law_add C hX hbl hL A X Y hR hM i hi4 kk
    · refine j_tabIn C dL_law_32 2 ((q_t (show k < 2 ^ 31 by omega)).trans h32) (by decide) (by decide) (148) rfl 180 (by decide) ?_
      exact law_clear C hX hbl hL A X Y hR hM i hi4 kk
    · refine j_tabIn C dL_law_32 3 ((q_t (show k < 2 ^ 31 by omega)).trans h32) (by decide) (by decide) (161) rfl 193 (by decide) ?_
      exact law_sample C hX hbl hL A X Y hR hM i hi4 kk
    · refine j_tabIn C dL_law_32 4 ((q_t (show k < 2 ^ 31 by omega)).trans h32) (by decide) (by decide) (184) rfl 216 (by decide) ?_
      exact law_ahead C hX hbl hL A X Y hR hM i hi4 kk
    · refine j_tabIn C dL_law_32 5 ((q_t (show k < 2 ^ 31 by omega)).trans h32) (by decide) (by decide) (227) rfl 259 (by decide) ?_
      exact law_cost C hX hbl hL A X Y hR hM i hi4 kk
    · refine j_tabIn C dL_law_32 6 ((q_t (show k < 2 ^ 31 by omega)).trans h32) (by decide) (by decide) (270) rfl 302 (by decide) ?_
      exact law_block C hX hbl hL A X Y hR hM i hi4 kk
    · refine j_tabIn C dL_law_32 7 ((q_t (show k < 2 ^ 31 by omega)).trans h32) (by decide) (by decide) (303) rfl 335 (by decide) ?_
      exact law_packed C hX hbl hL A X Y hR hM i hi4 kk
    · refine j_tabIn C dL_law_32 8 ((q_t (show k < 2 ^ 31 by omega)).trans h32) (by decide) (by decide) (326) rfl 358 (by decide) ?_
      exact law_lost C hX hbl hL A X Y hR hM i hi4 kk
    · refine j_tabIn C dL_law_32 9 ((q_t (show k < 2 ^ 31 by omega)).trans h32) (by decide) (by decide) (349) rfl 381 (by decide) ?_
      exact law_tape C hX hbl hL A X Y hR hM i hi4 kk
    · refine j_tabIn C dL_law_32 10 ((q_t (show k < 2 ^ 31 by omega)).trans h32) (by decide) (by decide) (362) rfl 394 (by decide) ?_
      exact law_push C hX hbl hL A X Y hR hM i hi4 kk
    · refine j_tabIn C dL_law_32 11 ((q_t (show k < 2 ^ 31 by omega)).trans h32) (by decide) (by decide) (385) rfl 417 (by decide) ?_
      exact law_flip C hX hbl hL A X Y hR hM i hi4 kk
    · refine j_tabIn C dL_law_32 12 ((q_t (show k < 2 ^ 31 by omega)).trans h32) (by decide) (by decide) (408) rfl 440 (by decide) ?_
      exact law_cut C hX hbl hL A X Y hR hM i hi4 kk
    · refine j_tabIn C dL_law_32 13 ((q_t (show k < 2 ^ 31 by omega)).trans h32) (by decide) (by decide) (431) rfl 463 (by decide) ?_
      exact law_bit C hX hbl hL A X Y hR hM i hi4 kk
    · refine j_tabIn C dL_law_32 14 ((q_t (show k < 2 ^ 31 by omega)).trans h32) (by decide) (by decide) (454) rfl 486 (by decide) ?_
      exact law_read C hX hbl hL A X Y hR hM i hi4 kk
    · refine j_tabIn C dL_law_32 15 ((q_t (show k < 2 ^ 31 by omega)).trans h32) (by decide) (by decide) (477) rfl 509 (by decide) ?_
      exact law_fault C hX hbl hL A X Y hR hM i hi4 kk
    · refine j_tabIn C dL_law_32 16 ((q_t (show k < 2 ^ 31 by omega)).trans h32) (by decide) (by decide) (500) rfl 532 (by decide) ?_
      exact law_image C hX hbl hL A X Y hR hM i hi4 kk
    · refine j_tabIn C dL_law_32 17 ((q_t (show k < 2 ^ 31 by omega)).trans h32) (by decide) (by decide) (523) rfl 555 (by decide) ?_
      exact law_restore C hX hbl hL A X Y hR hM i hi4 kk
    · refine j_tabIn C dL_law_32 18 ((q_t (show k < 2 ^ 31 by omega)).trans h32) (by decide) (by decide) (546) rfl 578 (by decide) ?_
      exact law_count C hX hbl hL A X Y hR hM i hi4 kk
    · refine j_tabOut C dL_law_32 ((k : Nat) : Int) (q_t (show k < 2 ^ 31 by omega)) h32 601 (by decide) ?_
      exact kk A X Y hR hM
theorem HOk00 : HOk H00 := ⟨⟨by decide, by decide⟩, ⟨by decide, by decide⟩, ⟨by decide, by decide⟩, by decide, fun j hj => absurd hj (Nat.not_lt_zero j), by decide, fun j hj => absurd hj (Nat.not_lt_zero j), by decide⟩
theorem HAg_rf (a : HT) : HAg a a := ⟨rfl, rfl, rfl, rfl, fun _ _ => rfl, rfl, fun _ _ => rfl, rfl, rfl, rfl⟩
theorem CRel00 : CRel A00 X00 := ⟨HOk00, HAg_rf _, fun h => absurd h (by decide), fun h => absurd h (by decide), rfl, by decide, ⟨Nat.zero_le _, rfl, fun j hj => absurd hj (Nat.not_lt_zero j), fun j hj => absurd hj (Nat.not_lt_zero j), fun j hj => by
  have h9 : j = 0 := Nat.le_zero.mp hj
  subst h9
  rfl⟩⟩
theorem MRel00 : MRel A00 Y00 := ⟨HOk00, HAg_rf _, fun h => absurd h (by decide), fun h => absurd h (by decide), rfl, rfl, by decide⟩
def nestC : List Cond := nestL.map (fun q => Cond.methodLinkNest q.1 q.2.1 q.2.2.1 q.2.2.2)
set_option maxRecDepth 20000 in
theorem nestC_in : ∀ w ∈ nestC, w ∈ lw_tbl := mem_pl [53, 59, 82, 99, 115, 155, 160, 163, 211, 216, 218, 281, 286, 364, 366, 371, 478, 497, 498, 509, 511] (by decide +kernel)
theorem nest_in : ∀ q ∈ nestL, Cond.methodLinkNest q.1 q.2.1 q.2.2.1 q.2.2.2 ∈ lw_tbl := fun q hq => nestC_in _ (List.mem_map.mpr ⟨q, hq, rfl⟩)
set_option maxHeartbeats 4000000 in
set_option maxRecDepth 100000 in
theorem whole_start {p : Program} {e : Env} {s : State} {m : MethodId} {below : List Frame} {meth : Method} {c : Code} (l : Launch) (hflags : l.flags = flags0) {b L : Nat} {xs : Nat → Int32} (hL : L ≤ 2048) (C0 : lw_At p s m meth c b L xs) : W p l e room_1 s m #[Value.ref b] below meth c s.heap [] 0 0 (lw_Z below #[Value.ref b] s) (entryFrame m ([Value.ref b] : List Value).toArray 4) := by
  obtain ⟨hx, hb, hr, hml, hown, hts0, hX, hbl, hlocks, hgv⟩ := id C0
  have hts : ∀ w ∈ wsL_law, w.before #[Value.ref b] s = true := fun w h => hts0 w (wsL_law_in w h)
  obtain ⟨c0, iS0, hKn0⟩ := u_known (C := RX0) (T := TX0) (N := 2) (n := 2) hts inlX0 (hts (.instantiable RX0 2) (List.mem_of_getElem? (i := 37) rfl))
  obtain ⟨c1, iS1, hKn1⟩ := u_known (C := RX1) (T := TX1) (N := 3) (n := 3) hts inlX1 (hts (.instantiable RX1 3) (List.mem_of_getElem? (i := 41) rfl))
  obtain ⟨c2, iS2, hKn2⟩ := u_known (C := RX2) (T := TX2) (N := 6) (n := 6) hts inlX2 (hts (.instantiable RX2 6) (List.mem_of_getElem? (i := 74) rfl))
  obtain ⟨c3, iS3, hKn3⟩ := u_known (C := RX3) (T := TX3) (N := 4) (n := 4) hts inlX3 (hts (.instantiable RX3 4) (List.mem_of_getElem? (i := 13) rfl))
  obtain ⟨c4, iS4, hKn4⟩ := u_known (C := RX4) (T := TX4) (N := 6) (n := 6) hts inlX4 (hts (.instantiable RX4 6) (List.mem_of_getElem? (i := 18) rfl))
  obtain ⟨c5, iS5, hKn5⟩ := u_known (C := RX5) (T := TX5) (N := 3) (n := 3) hts inlX5 (hts (.instantiable RX5 3) (List.mem_of_getElem? (i := 22) rfl))
  obtain ⟨c6, iS6, hKn6⟩ := u_known (C := RX6) (T := TX6) (N := 2) (n := 2) hts inlX6 (hts (.instantiable RX6 2) (List.mem_of_getElem? (i := 33) rfl))
  obtain ⟨c7, iS7, hKn7⟩ := u_known (C := RX7) (T := TX7) (N := 3) (n := 3) hts inlX7 (hts (.instantiable RX7 3) (List.mem_of_getElem? (i := 29) rfl))
  obtain ⟨c8, iS8, hKn8⟩ := u_known (C := RX8) (T := TX8) (N := 5) (n := 5) hts inlX8 (hts (.instantiable RX8 5) (List.mem_of_getElem? (i := 1) rfl))
  obtain ⟨c9, iS9, hKn9⟩ := u_known (C := RX9) (T := TX9) (N := 12) (n := 12) hts inlX9 (hts (.instantiable RX9 12) (List.mem_of_getElem? (i := 4) rfl))
  obtain ⟨dC, dI, hKc⟩ : ∃ (dC : Nat → ClassId) (dI : Nat → Nat → Nat), ∀ (k : Nat) (q : vw_C), vwCl[k]? = some q → u_Kn s q.1 q.2.1 q.2.2 (dC k) (dI k) := by
    refine ⟨fun k => if k = 0 then c0 else if k = 1 then c1 else if k = 2 then c2 else if k = 3 then c3 else if k = 4 then c4 else if k = 5 then c5 else if k = 6 then c6 else if k = 7 then c7 else if k = 8 then c8 else c9, fun k => if k = 0 then iS0 else if k = 1 then iS1 else if k = 2 then iS2 else if k = 3 then iS3 else if k = 4 then iS4 else if k = 5 then iS5 else if k = 6 then iS6 else if k = 7 then iS7 else if k = 8 then iS8 else iS9, ?_⟩
    intro k q hq
    match k, hq with
    | 0, hq => cases hq; exact hKn0
    | 1, hq => cases hq; exact hKn1
    | 2, hq => cases hq; exact hKn2
    | 3, hq => cases hq; exact hKn3
    | 4, hq => cases hq; exact hKn4
    | 5, hq => cases hq; exact hKn5
    | 6, hq => cases hq; exact hKn6
    | 7, hq => cases hq; exact hKn7
    | 8, hq => cases hq; exact hKn8
    | 9, hq => cases hq; exact hKn9
    | k + 10, hq => simp [vwCl] at hq
  obtain ⟨cI, kI, pI, aI1, aI2, aI3⟩ := Cond.arrayClass_spec (hts0 (.arrayClass .int) (List.mem_of_getElem? (i := 96) (by decide +kernel)))
  obtain ⟨cZ, kZ, pZ, aZ1, aZ2, aZ3⟩ := Cond.arrayClass_spec (hts0 (.arrayClass .boolean) (List.mem_of_getElem? (i := 602) (by decide +kernel)))
  have hover := hts0 (.arrayOver (.object RX3)) (List.mem_of_getElem? (i := 152) (by decide +kernel))
  obtain ⟨pH, cH, kH, aH4, aH5, aH2, aH3, aH1⟩ := Cond.arrayOver_spec hover
  have hAO : va_AO RX3 s := va_AO.of hover
  have hK : va_K (dC, dI) vwCl (ty3 cI cZ cH) s := by
    refine ⟨hKc, fun k q hq => ?_⟩
    match k, hq with
    | 0, hq => cases hq; exact ⟨fun n z => ⟨fun k h => (by cases h), kI, aI2, pI, aI3⟩, aI1⟩
    | 1, hq => cases hq; exact ⟨fun n z => ⟨fun k h => (by cases h), kZ, aZ2, pZ, aZ3⟩, aZ1⟩
    | 2, hq => cases hq; exact ⟨fun n z => ⟨fun k h => (by cases h), kH, aH2, pH, aH3⟩, kH, pH, aH2, aH3, aH4, aH1⟩
    | k + 3, hq => simp [ty3] at hq
  have hN : Nz s := fun q hq => va_Nw.of rfl (hts0 _ (nest_in q hq))
  have C : Cx RL wsL_law code 4 ret (dC, dI) cI cZ cH (fun q : Nat => s.heap.size ≤ q) p s m #[Value.ref b] meth c := ⟨⟨hx, hb, hr, hml, hown⟩, hts, hK, hN, fun _ h => h, hlocks⟩
  have hl := lv_entry ([.ref b]) (n := 4) (Nat.le_of_ble_eq_true rfl)
  rw [lg_entry_eq]
  refine (show J (dC, dI) (fun q : Nat => s.heap.size ≤ q) p l e room_1 s m #[Value.ref b] below meth c 0 0 (lw_Z below #[Value.ref b] s) 4 [] [(0, .ref b)] 0 [] from ?_) s.heap [] _ (fun k q h => by simp at h) ⟨fun i j p q h => by simp at h, fun k q h => by simp at h⟩ va_S.rf hl
  refine j_new (ci := 8) C dL_law_0 0 1 2 inlX8 tyX8 tyX8_ok rfl rfl rfl rfl [.null, .null, .int (nI 0), .null, .null] (fun j hj => by rcases (show j = 0 ∨ j = 1 ∨ j = 2 ∨ j = 3 ∨ j = 4 by omega) with rfl | rfl | rfl | rfl | rfl <;> rfl) (Nat.le_of_ble_eq_true rfl) (Nat.le_of_ble_eq_true rfl) (fun q0 => [(q0, .inr (8, [.null, .null, .int (nI 0), .null, .null]))]) (fun _ => rfl) 1 5 rfl rfl 3 rfl (fun q0 => ?_)
  show J (dC, dI) (fun q : Nat => s.heap.size ≤ q) p l e room_1 s m #[Value.ref b] below meth c 1 5 (lw_Z below #[Value.ref b] s) 4 [(q0, .inr (8, [.null, .null, .int (nI 0), .null, .null]))] [(0, .ref b)] 3 [.ref q0]
  refine j_dup C dL_law_3 rfl 4 rfl ?_
  refine j_callKL (rest := [.ref q0]) (wr := []) C hAO (k_X8_init l (dC, dI) cI cZ cH q0) gL_law_X8_init 6 rfl 7 2 rfl rfl rfl dL_law_4 rfl yd_X8_init.2 (Nat.le_of_ble_eq_true rfl) (Nat.le_of_ble_eq_true rfl) (Nat.le_of_ble_eq_true rfl) (Nat.le_of_ble_eq_true rfl) (Nat.le_of_ble_eq_true rfl) [0] [] rfl rfl rfl rfl rfl (by decide) (fun ad => wC cI cH ad X00) (fun _ => rfl) 35 4528 rfl rfl 7 rfl (fun ad had => ?_)
  have had0 : ad 0 = q0 := had
  subst had0
  show J (dC, dI) (fun q : Nat => s.heap.size ≤ q) p l e room_1 s m #[Value.ref b] below meth c 35 4528 (lw_Z below #[Value.ref b] s) 4 (wC cI cH ad X00) [(0, .ref b)] 7 [.ref (ad 0)]
  refine j_astore_n C dL_law_7 [(1, .ref (ad 0)), (0, .ref b)] (by decide) rfl 8 rfl ?_
  refine j_new (ci := 9) C dL_law_8 3 4 5 inlX9 tyX9 tyX9_ok rfl rfl rfl rfl [.null, .null, .null, .null, .null, .int (nI 0), .null, .null, .int (nI 0), .int (nI 0), .int (nI 0), .int (nI 0)] (fun j hj => by rcases (show j = 0 ∨ j = 1 ∨ j = 2 ∨ j = 3 ∨ j = 4 ∨ j = 5 ∨ j = 6 ∨ j = 7 ∨ j = 8 ∨ j = 9 ∨ j = 10 ∨ j = 11 by omega) with rfl | rfl | rfl | rfl | rfl | rfl | rfl | rfl | rfl | rfl | rfl | rfl <;> rfl) (Nat.le_of_ble_eq_true rfl) (Nat.le_of_ble_eq_true rfl) (fun q8 => wC cI cH ad X00 ++ [(q8, .inr (9, [.null, .null, .null, .null, .null, .int (nI 0), .null, .null, .int (nI 0), .int (nI 0), .int (nI 0), .int (nI 0)]))]) (fun _ => rfl) 36 4540 rfl rfl 11 rfl (fun q8 => ?_)
  show J (dC, dI) (fun q : Nat => s.heap.size ≤ q) p l e room_1 s m #[Value.ref b] below meth c 36 4540 (lw_Z below #[Value.ref b] s) 4 (wC cI cH ad X00 ++ [(q8, .inr (9, [.null, .null, .null, .null, .null, .int (nI 0), .null, .null, .int (nI 0), .int (nI 0), .int (nI 0), .int (nI 0)]))]) [(1, .ref (ad 0)), (0, .ref b)] 11 [.ref q8]
  refine j_dup C dL_law_11 rfl 12 rfl ?_
  refine j_callKL (rest := [.ref q8]) (wr := (wC cI cH ad X00)) C hAO (k_X9_init l (dC, dI) cI cZ cH q8) gL_law_X9_init 88 rfl 89 5 rfl rfl rfl dL_law_12 rfl yd_X9_init.2 (Nat.le_of_ble_eq_true rfl) (Nat.le_of_ble_eq_true rfl) (Nat.le_of_ble_eq_true rfl) (Nat.le_of_ble_eq_true rfl) (Nat.le_of_ble_eq_true rfl) [35] [0, 1, 2, 3, 4, 5, 6, 7, 8, 9, 10, 11, 12, 13, 14, 15, 16, 17, 18, 19, 20, 21, 22, 23, 24, 25, 26, 27, 28, 29, 30, 31, 32, 33, 34] rfl rfl rfl rfl rfl (by decide) (fun am => wC cI cH ad X00 ++ wM cI cZ am Y00) (fun _ => rfl) 43 8951 rfl rfl 15 rfl (fun am ham => ?_)
  have ham0 : am 0 = q8 := ham
  subst ham0
  show J (dC, dI) (fun q : Nat => s.heap.size ≤ q) p l e room_1 s m #[Value.ref b] below meth c 43 8951 (lw_Z below #[Value.ref b] s) 4 (wC cI cH ad X00 ++ wM cI cZ am Y00) [(1, .ref (ad 0)), (0, .ref b)] 15 [.ref (am 0)]
  refine j_astore_n C dL_law_15 [(2, .ref (am 0)), (1, .ref (ad 0)), (0, .ref b)] (by decide) rfl 16 rfl ?_
  refine j_iconst C dL_law_16 (nI 0) (by decide) 17 rfl ?_
  refine j_istore_n C dL_law_17 [(3, .int (nI 0)), (2, .ref (am 0)), (1, .ref (ad 0)), (0, .ref b)] (by decide) rfl 18 rfl ?_
  exact law_loop C hX hbl hL A00 X00 Y00 CRel00 MRel00
