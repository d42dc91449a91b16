set_option maxHeartbeats 4000000 in
set_option maxRecDepth 100000 in
theorem c_X9_packedM1 (l : Launch) (D : va_G) (cI cZ cH : ClassId) (m sa ia ka ra ba bm la ha ap wr wa go : Nat) (w sz ev n : Nat) (g : Nat → Nat) (L : Nat) (t : Nat → Nat) (x : Nat) (y z : Int32) (rf bf lf hf q : Nat → Nat) (hw : 2 ≤ w ∧ w ≤ 8) (hsz : 1 ≤ sz ∧ sz ≤ 8) (hev : 1 ≤ ev ∧ ev ≤ 8) (hn : n ≤ 64) (hgq : ∀ j, j < n → g j = q j) (hq : ∀ j, j < n → q j ≤ tpW w) : Mi l D cI cZ cH yX9_packed wsX9_packed 6 142 [.ref m, .int (-1)] [(m, .inr (9, [.ref sa, .ref ia, .ref ka, .ref ra, .ref ba, .int (nI bm), .ref la, .ref ha, .int (nI ap), .int (nI wr), .int (nI wa), .int (nI go)])), (sa, .inl (cI, 1072, .inl (stA w sz ev n g L t x y z))), (ra, .inl (cI, 64, .inl (aN rf))), (ba, .inl (cI, 1000, .inl (aN bf))), (la, .inl (cI, 65, .inl (aN lf))), (ha, .inl (cI, 64, .inl (aN hf)))] (fun (r9 : Int32) (u9 : Nat × (Nat → Nat) × (Nat → Nat) × (Nat → Nat)) => (r9 = nI (pkL w sz ev n q).length) ∧ MPI w sz ev q n (nbk sz n) (u9.2.2.2) (u9.2.2.1) (u9.2.1) (u9.1) ∧ (u9.2.2.1) (nbk sz n) = (u9.1)) (fun (u9 : Nat × (Nat → Nat) × (Nat → Nat) × (Nat → Nat)) => [(m, .inr (9, [.ref sa, .ref ia, .ref ka, .ref ra, .ref ba, .int (nI (u9.1)), .ref la, .ref ha, .int (nI ap), .int (nI wr), .int (nI wa), .int (nI go)])), (sa, .inl (cI, 1072, .inl (stA w sz ev n g L t x y z))), (ra, .inl (cI, 64, .inl (aN (upT g rf n)))), (ba, .inl (cI, 1000, .inl (aN (u9.2.1)))), (la, .inl (cI, 65, .inl (aN (u9.2.2.1)))), (ha, .inl (cI, 64, .inl (aN (u9.2.2.2))))]) := by
  refine Mi.start (cc := cX9_packed) (nL := 2) (ret := (some .int)) (lv0 := [(0, .ref m), (1, .int (-1))]) (by decide) rfl (Nat.le_of_ble_eq_true rfl) rfl ?_
  intro pX eX sX mX bX methX cX AX C
  refine j_iload_n C dX9_packed_0 1 rfl 1 rfl ?_
  refine j_iconst C dX9_packed_1 (-1) (by decide) 2 rfl ?_
  refine j_icmp_ge C dX9_packed_2 8 (by decide) (show (-1 : Int32).toInt = (-1 : Int) from rfl) (show (-1 : Int32).toInt = (-1 : Int) from rfl) 5 rfl (fun h2 => ?_) (fun h9 => by exfalso; omega)
  refine j_aload_n C dX9_packed_8 0 rfl 9 rfl ?_
  refine j_callVv (As := []) (rest := []) (wr := []) C (c_X9_pack l D cI cZ cH m sa ia ka ra ba bm la ha ap wr wa go w sz ev n g L t x y z rf bf lf hf q hw hsz hev (by omega) hgq hq) gX9_packed_X9_pack dX9_packed_9 rfl yd_X9_pack (Nat.le_of_ble_eq_true rfl) (Nat.le_of_ble_eq_true rfl) rfl rfl rfl _ rfl (Nat.le_of_ble_eq_true rfl) (Nat.zero_le _) (Nat.zero_le _) [0, 1, 2, 3, 4, 5] [] rfl rfl rfl rfl rfl (by decide) [0, 1, 2, 3, 4, 5] (fun u9 => [(m, .inr (9, [.ref sa, .ref ia, .ref ka, .ref ra, .ref ba, .int (nI (u9.1)), .ref la, .ref ha, .int (nI ap), .int (nI wr), .int (nI wa), .int (nI go)])), (sa, .inl (cI, 1072, .inl (stA w sz ev n g L t x y z))), (ra, .inl (cI, 64, .inl (aN (upT g rf n)))), (ba, .inl (cI, 1000, .inl (aN (u9.2.1)))), (la, .inl (cI, 65, .inl (aN (u9.2.2.1)))), (ha, .inl (cI, 64, .inl (aN (u9.2.2.2))))]) (fun _ => rfl) (fun _ => rfl) rfl 12 rfl (fun u9 hpo9 => ?_)
  obtain ⟨bm29, bf29, lf29, hf29⟩ := u9
  replace hpo9 : MPI w sz ev q n (nbk sz n) hf29 lf29 bf29 bm29 ∧ lf29 (nbk sz n) = bm29 := hpo9
  show J D AX pX l eX _ sX mX _ bX methX cX 0 0 _ 2 [(m, .inr (9, [.ref sa, .ref ia, .ref ka, .ref ra, .ref ba, .int (nI bm29), .ref la, .ref ha, .int (nI ap), .int (nI wr), .int (nI wa), .int (nI go)])), (sa, .inl (cI, 1072, .inl (stA w sz ev n g L t x y z))), (ra, .inl (cI, 64, .inl (aN (upT g rf n)))), (ba, .inl (cI, 1000, .inl (aN bf29))), (la, .inl (cI, 65, .inl (aN lf29))), (ha, .inl (cI, 64, .inl (aN hf29)))] [(0, .ref m), (1, .int (-1))] 12 []
  refine j_iload_n C dX9_packed_12 1 rfl 13 rfl ?_
  refine j_iconst C dX9_packed_13 (-1) (by decide) 14 rfl ?_
  refine j_icmp_ne C dX9_packed_14 24 (by decide) (show (-1 : Int32).toInt = (-1 : Int) from rfl) (show (-1 : Int32).toInt = (-1 : Int) from rfl) 17 rfl (fun h9 => by exfalso; omega) (fun h14 => ?_)
  refine j_aload_n C dX9_packed_17 0 rfl 18 rfl ?_
  refine j_get C dX9_packed_18 0 5 1 inX9_packed_9 rfl rfl (by decide) rfl rfl rfl 21 rfl ?_
  refine j_goto C dX9_packed_21 43 (by decide) ?_
  exact j_iret C dX9_packed_43 (bm29, bf29, lf29, hf29) ⟨by rw [hpo9.1.2.1]; rfl, hpo9⟩ rfl
set_option maxHeartbeats 4000000 in
set_option maxRecDepth 100000 in
theorem c_X9_plainBlocks (l : Launch) (D : va_G) (cI cZ cH : ClassId) (m sa ia ka ra ba bm la ha ap wr wa go : Nat) (w sz ev n : Nat) (g : Nat → Nat) (L : Nat) (t : Nat → Nat) (x : Nat) (y z : Int32) (rf bf lf hf q : Nat → Nat) (hw : 2 ≤ w ∧ w ≤ 8) (hsz : 1 ≤ sz ∧ sz ≤ 8) (hev : 1 ≤ ev ∧ ev ≤ 8) (hn : n ≤ 64) (hgq : ∀ j, j < n → g j = q j) (hq : ∀ j, j < n → q j ≤ tpW w) : Mi l D cI cZ cH yX9_plainBlocks wsX9_plainBlocks 6 142 [.ref m] [(m, .inr (9, [.ref sa, .ref ia, .ref ka, .ref ra, .ref ba, .int (nI bm), .ref la, .ref ha, .int (nI ap), .int (nI wr), .int (nI wa), .int (nI go)])), (sa, .inl (cI, 1072, .inl (stA w sz ev n g L t x y z))), (ra, .inl (cI, 64, .inl (aN rf))), (ba, .inl (cI, 1000, .inl (aN bf))), (la, .inl (cI, 65, .inl (aN lf))), (ha, .inl (cI, 64, .inl (aN hf)))] (fun (r9 : Int32) (u9 : Nat × (Nat → Nat) × (Nat → Nat) × (Nat → Nat)) => (r9 = nI (ctN (fun b => (chQ w sz ev q n b).2.2) 0 (nbk sz n))) ∧ MPI w sz ev q n (nbk sz n) (u9.2.2.2) (u9.2.2.1) (u9.2.1) (u9.1) ∧ (u9.2.2.1) (nbk sz n) = (u9.1)) (fun (u9 : Nat × (Nat → Nat) × (Nat → Nat) × (Nat → Nat)) => [(m, .inr (9, [.ref sa, .ref ia, .ref ka, .ref ra, .ref ba, .int (nI (u9.1)), .ref la, .ref ha, .int (nI ap), .int (nI wr), .int (nI wa), .int (nI go)])), (sa, .inl (cI, 1072, .inl (stA w sz ev n g L t x y z))), (ra, .inl (cI, 64, .inl (aN (upT g rf n)))), (ba, .inl (cI, 1000, .inl (aN (u9.2.1)))), (la, .inl (cI, 65, .inl (aN (u9.2.2.1)))), (ha, .inl (cI, 64, .inl (aN (u9.2.2.2))))]) := by
  refine Mi.start (cc := cX9_plainBlocks) (nL := 3) (ret := (some .int)) (lv0 := [(0, .ref m)]) (by decide) rfl (Nat.le_of_ble_eq_true rfl) rfl ?_
  intro pX eX sX mX bX methX cX AX C
  have hn64 : nbk sz n ≤ 64 := nbk_le hsz.1 hn
  refine j_aload_n C dX9_plainBlocks_0 0 rfl 1 rfl ?_
  refine j_callVv (As := []) (rest := []) (wr := []) C (c_X9_pack l D cI cZ cH m sa ia ka ra ba bm la ha ap wr wa go w sz ev n g L t x y z rf bf lf hf q hw hsz hev (by omega) hgq hq) gX9_plainBlocks_X9_pack dX9_plainBlocks_1 rfl yd_X9_pack (Nat.le_of_ble_eq_true rfl) (Nat.le_of_ble_eq_true rfl) rfl rfl rfl _ rfl (Nat.le_of_ble_eq_true rfl) (Nat.zero_le _) (Nat.zero_le _) [0, 1, 2, 3, 4, 5] [] rfl rfl rfl rfl rfl (by decide) [0, 1, 2, 3, 4, 5] (fun u9 => [(m, .inr (9, [.ref sa, .ref ia, .ref ka, .ref ra, .ref ba, .int (nI (u9.1)), .ref la, .ref ha, .int (nI ap), .int (nI wr), .int (nI wa), .int (nI go)])), (sa, .inl (cI, 1072, .inl (stA w sz ev n g L t x y z))), (ra, .inl (cI, 64, .inl (aN (upT g rf n)))), (ba, .inl (cI, 1000, .inl (aN (u9.2.1)))), (la, .inl (cI, 65, .inl (aN (u9.2.2.1)))), (ha, .inl (cI, 64, .inl (aN (u9.2.2.2))))]) (fun _ => rfl) (fun _ => rfl) rfl 4 rfl (fun u9 hpo1 => ?_)
  obtain ⟨bm29, bf29, lf29, hf29⟩ := u9
  replace hpo1 : MPI w sz ev q n (nbk sz n) hf29 lf29 bf29 bm29 ∧ lf29 (nbk sz n) = bm29 := hpo1
  show J D AX pX l eX _ sX mX _ bX methX cX 0 0 _ 3 [(m, .inr (9, [.ref sa, .ref ia, .ref ka, .ref ra, .ref ba, .int (nI bm29), .ref la, .ref ha, .int (nI ap), .int (nI wr), .int (nI wa), .int (nI go)])), (sa, .inl (cI, 1072, .inl (stA w sz ev n g L t x y z))), (ra, .inl (cI, 64, .inl (aN (upT g rf n)))), (ba, .inl (cI, 1000, .inl (aN bf29))), (la, .inl (cI, 65, .inl (aN lf29))), (ha, .inl (cI, 64, .inl (aN hf29)))] [(0, .ref m)] 4 []
  refine j_iconst C dX9_plainBlocks_4 (nI 0) (by decide) 5 rfl ?_
  refine j_istore_n C dX9_plainBlocks_5 [(1, .int (nI 0)), (0, .ref m)] (by decide) rfl 6 rfl ?_
  refine j_iconst C dX9_plainBlocks_6 (nI 0) (by decide) 7 rfl ?_
  refine j_istore_n C dX9_plainBlocks_7 [(2, .int (nI 0)), (1, .int (nI 0)), (0, .ref m)] (by decide) rfl 8 rfl ?_
  refine j_loop2 (fun (b : Nat) (acc : Nat) => b ≤ nbk sz n ∧ acc = ctN (fun b => (chQ w sz ev q n b).2.2) 0 b) (fun (b : Nat) (acc : Nat) => nbk sz n - b) (fun (b : Nat) (acc : Nat) => [(m, .inr (9, [.ref sa, .ref ia, .ref ka, .ref ra, .ref ba, .int (nI bm29), .ref la, .ref ha, .int (nI ap), .int (nI wr), .int (nI wa), .int (nI go)])), (sa, .inl (cI, 1072, .inl (stA w sz ev n g L t x y z))), (ra, .inl (cI, 64, .inl (aN (upT g rf n)))), (ba, .inl (cI, 1000, .inl (aN bf29))), (la, .inl (cI, 65, .inl (aN lf29))), (ha, .inl (cI, 64, .inl (aN hf29)))]) (fun (b : Nat) (acc : Nat) => [(2, .int (nI b)), (1, .int (nI acc)), (0, .ref m)]) ?_ 0 0 ⟨Nat.zero_le _, rfl⟩ rfl rfl
  intro b acc hI8 ih8
  obtain ⟨hb, hacc⟩ := hI8
  show J D AX pX l eX _ sX mX _ bX methX cX 0 0 _ 3 [(m, .inr (9, [.ref sa, .ref ia, .ref ka, .ref ra, .ref ba, .int (nI bm29), .ref la, .ref ha, .int (nI ap), .int (nI wr), .int (nI wa), .int (nI go)])), (sa, .inl (cI, 1072, .inl (stA w sz ev n g L t x y z))), (ra, .inl (cI, 64, .inl (aN (upT g rf n)))), (ba, .inl (cI, 1000, .inl (aN bf29))), (la, .inl (cI, 65, .inl (aN lf29))), (ha, .inl (cI, 64, .inl (aN hf29)))] [(2, .int (nI b)), (1, .int (nI acc)), (0, .ref m)] 8 []
  refine j_iload_n C dX9_plainBlocks_8 0 rfl 9 rfl ?_
  refine j_aload_n C dX9_plainBlocks_9 2 rfl 10 rfl ?_
  refine j_callVi1 (As := []) (rest := [.int (nI b)]) (wr := [(ra, .inl (cI, 64, .inl (aN (upT g rf n)))), (ba, .inl (cI, 1000, .inl (aN bf29))), (la, .inl (cI, 65, .inl (aN lf29))), (ha, .inl (cI, 64, .inl (aN hf29)))]) C (c_X9_blocks l D cI cZ cH m sa ia ka ra ba bm29 la ha ap wr wa go w sz ev n g L t x y z (by omega) (by omega)) gX9_plainBlocks_X9_blocks dX9_plainBlocks_10 rfl yd_X9_blocks (Nat.le_of_ble_eq_true rfl) (Nat.le_of_ble_eq_true rfl) rfl rfl rfl _ rfl (Nat.le_of_ble_eq_true rfl) (Nat.zero_le _) (Nat.zero_le _) [0, 1] [2, 3, 4, 5] rfl rfl rfl rfl rfl (by decide) [4, 5, 0, 1, 2, 3] [(m, .inr (9, [.ref sa, .ref ia, .ref ka, .ref ra, .ref ba, .int (nI bm29), .ref la, .ref ha, .int (nI ap), .int (nI wr), .int (nI wa), .int (nI go)])), (sa, .inl (cI, 1072, .inl (stA w sz ev n g L t x y z))), (ra, .inl (cI, 64, .inl (aN (upT g rf n)))), (ba, .inl (cI, 1000, .inl (aN bf29))), (la, .inl (cI, 65, .inl (aN lf29))), (ha, .inl (cI, 64, .inl (aN hf29)))] rfl rfl rfl 13 rfl ?_
  refine j_icmp_ge C dX9_plainBlocks_13 42 (by decide) (q_t (by omega)) (q_t (by omega)) 16 rfl (fun h13 => ?_) (fun h13 => ?_)
  · refine j_iload_n C dX9_plainBlocks_42 1 rfl 43 rfl ?_
    exact j_iret C dX9_plainBlocks_43 (bm29, bf29, lf29, hf29) ⟨by rw [hacc, show b = nbk sz n by omega], hpo1⟩ rfl
  · refine j_iload_n C dX9_plainBlocks_16 1 rfl 17 rfl ?_
    refine j_aload_n C dX9_plainBlocks_17 2 rfl 18 rfl ?_
    refine j_get C dX9_plainBlocks_18 0 7 1 inX9_plainBlocks_9 rfl rfl (by decide) rfl rfl rfl 21 rfl ?_
    refine j_iload_n C dX9_plainBlocks_21 0 rfl 22 rfl ?_
    refine j_iald C dX9_plainBlocks_22 5 rfl (by omega) (Nat.le_of_ble_eq_true rfl) 23 rfl ?_
    refine j_top (nI (16 * (chQ w sz ev q n b).2.1 + (chQ w sz ev q n b).2.2)) (by rw [hpo1.1.2.2.2.1 b (by omega)]) ?_
    have hch := chQ_spec w sz ev q n b
    refine j_bipush C dX9_plainBlocks_23 (nI 16) (by decide) 25 rfl ?_
    refine j_irem C dX9_plainBlocks_25 (nz (by omega) (by omega)) (nI ((16 * (chQ w sz ev q n b).2.1 + (chQ w sz ev q n b).2.2) % 16)) (pk_rem (by omega) (by omega) (by omega)) 26 rfl ?_
    refine j_top (nI ((chQ w sz ev q n b).2.2)) (by congr 1; omega) ?_
    refine j_if_ne C dX9_plainBlocks_26 33 (by decide) (q_t (by omega)) 29 rfl (fun h26 => ?_) (fun h26 => ?_)
    · refine j_iconst C dX9_plainBlocks_33 (nI 0) (by decide) 34 rfl ?_
      refine j_iadd C dX9_plainBlocks_34 (nI (acc + 0)) (nI_add acc 0) 35 rfl ?_
      refine j_istore_n C dX9_plainBlocks_35 [(1, .int (nI (acc + 0))), (2, .int (nI b)), (0, .ref m)] (by decide) rfl 36 rfl ?_
      refine j_iinc C dX9_plainBlocks_36 1 rfl (nI (b + 1)) (nI_1 (b)) [(2, .int (nI (b + 1))), (1, .int (nI (acc + 0))), (0, .ref m)] (by decide) rfl 39 rfl ?_
      refine j_goto C dX9_plainBlocks_39 8 (by decide) ?_
      exact ih8 (b + 1) (acc + 0) ⟨by omega, by simp only [ctN]; first | (rw [if_pos (by omega)]; omega) | (rw [if_neg (by omega)]; omega)⟩ (by omega)
    · refine j_iconst C dX9_plainBlocks_29 (nI 1) (by decide) 30 rfl ?_
      refine j_goto C dX9_plainBlocks_30 34 (by decide) ?_
      refine j_iadd C dX9_plainBlocks_34 (nI (acc + 1)) (nI_add acc 1) 35 rfl ?_
      refine j_istore_n C dX9_plainBlocks_35 [(1, .int (nI (acc + 1))), (2, .int (nI b)), (0, .ref m)] (by decide) rfl 36 rfl ?_
      refine j_iinc C dX9_plainBlocks_36 1 rfl (nI (b + 1)) (nI_1 (b)) [(2, .int (nI (b + 1))), (1, .int (nI (acc + 1))), (0, .ref m)] (by decide) rfl 39 rfl ?_
      refine j_goto C dX9_plainBlocks_39 8 (by decide) ?_
      exact ih8 (b + 1) (acc + 1) ⟨by omega, by simp only [ctN]; first | (rw [if_pos (by omega)]; omega) | (rw [if_neg (by omega)]; omega)⟩ (by omega)
