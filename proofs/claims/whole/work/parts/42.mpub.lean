set_option maxHeartbeats 4000000 in
set_option maxRecDepth 100000 in
theorem k_X9_block (l : Launch) (D : va_G) (cI cZ cH : ClassId) (am : Nat → Nat) (A : AT) (Y : MT) (hR : MRel A Y) (bi : Int32) (what : Int32) : Mi l D cI cZ cH yX9_block wsX9_block 6 142 [.ref (am 0), .int bi, .int what] (wM cI cZ am Y) (fun (r9 : Int32) (Y9 : MT) => r9 = (opBlock A bi what).1 ∧ MRel (opBlock A bi what).2 Y9) (wM cI cZ am) := by
  obtain ⟨⟨w, sz, ev, n, f, L, b, x, y, z⟩, im, kf, rf, bf, bm, lf, hf, ap, wr, wa, go⟩ := Y
  obtain ⟨⟨w2, sz2, ev2, n2, g, L2, t, x2, y2, z2⟩, b0, b1, kp⟩ := A
  have hR0 := hR
  obtain ⟨⟨hw, hsz, hev, hn, hg, hL, ht, hx5⟩, ⟨e1, e2, e3, e4, hfg, e6, hbt, e8, e9, e10⟩, hi0, hi1, hk0, hk1, hk4⟩ := hR
  dsimp only at hw hsz hev hn hg hL ht hx5 e1 e2 e3 e4 hfg e6 hbt e8 e9 e10 hi0 hi1 hk0 hk1 hk4
  subst e1 e2 e3 e4 e6 e8 e9 e10
  have hnb : nbk sz n ≤ 64 := nbk_le hsz.1 hn
  have ht255 := tpW_le hw.2
  refine Mi.start (cc := cX9_block) (nL := 3) (ret := (some .int)) (lv0 := [(0, .ref (am 0)), (1, .int bi), (2, .int what)]) (by decide) rfl (Nat.le_of_ble_eq_true rfl) rfl ?_
  intro pX eX sX mX bX methX cX AX C
  show J D AX pX l eX _ sX mX _ bX methX cX 0 0 _ 3 [(am 0, .inr (9, [.ref (am 1), .ref (am 2), .ref (am 3), .ref (am 4), .ref (am 5), .int (nI bm), .ref (am 6), .ref (am 7), .int (nI ap), .int (nI wr), .int (nI wa), .int (nI go)])), (am 1, .inl (cI, 1072, .inl (stA w sz ev n f L b x y z))), (am 2, .inl (cI, 2144, .inl im)), (am 3, .inl (cZ, 2, .inl kf)), (am 4, .inl (cI, 64, .inl (aN rf))), (am 5, .inl (cI, 1000, .inl (aN bf))), (am 6, .inl (cI, 65, .inl (aN lf))), (am 7, .inl (cI, 64, .inl (aN hf)))] [(0, .ref (am 0)), (1, .int bi), (2, .int what)] 0 []
  refine j_iload_n C dX9_block_0 2 rfl 1 rfl ?_
  refine j_iconst C dX9_block_1 (nI 0) (by decide) 2 rfl ?_
  refine j_iconst C dX9_block_2 (nI 5) (by decide) 3 rfl ?_
  refine j_callSi1 (As := [.int what, .int (nI 0), .int (nI 5)]) (rest := []) (wr := [(am 0, .inr (9, [.ref (am 1), .ref (am 2), .ref (am 3), .ref (am 4), .ref (am 5), .int (nI bm), .ref (am 6), .ref (am 7), .int (nI ap), .int (nI wr), .int (nI wa), .int (nI go)])), (am 1, .inl (cI, 1072, .inl (stA w sz ev n f L b x y z))), (am 2, .inl (cI, 2144, .inl im)), (am 3, .inl (cZ, 2, .inl kf)), (am 4, .inl (cI, 64, .inl (aN rf))), (am 5, .inl (cI, 1000, .inl (aN bf))), (am 6, .inl (cI, 65, .inl (aN lf))), (am 7, .inl (cI, 64, .inl (aN hf)))]) C (c_X9_in l D cI cZ cH what (nI 0) (nI 5) ((what).toInt) (((0 : Nat) : Int)) (((5 : Nat) : Int)) rfl (q_t (n := 0) (Nat.le_of_ble_eq_true rfl)) (q_t (n := 5) (Nat.le_of_ble_eq_true rfl))) gX9_block_X9_in dX9_block_3 rfl yd_X9_in.2 (Nat.le_of_ble_eq_true rfl) (Nat.le_of_ble_eq_true rfl) rfl _ rfl (Nat.le_of_ble_eq_true rfl) (Nat.zero_le _) (Nat.zero_le _) [] [0, 1, 2, 3, 4, 5, 6, 7] rfl rfl rfl rfl rfl (by decide) [0, 1, 2, 3, 4, 5, 6, 7] [(am 0, .inr (9, [.ref (am 1), .ref (am 2), .ref (am 3), .ref (am 4), .ref (am 5), .int (nI bm), .ref (am 6), .ref (am 7), .int (nI ap), .int (nI wr), .int (nI wa), .int (nI go)])), (am 1, .inl (cI, 1072, .inl (stA w sz ev n f L b x y z))), (am 2, .inl (cI, 2144, .inl im)), (am 3, .inl (cZ, 2, .inl kf)), (am 4, .inl (cI, 64, .inl (aN rf))), (am 5, .inl (cI, 1000, .inl (aN bf))), (am 6, .inl (cI, 65, .inl (aN lf))), (am 7, .inl (cI, 64, .inl (aN hf)))] rfl rfl rfl 6 rfl ?_
  refine j_ifb_ne C dX9_block_6 12 (by decide) 9 rfl (fun h6 => ?_) (fun h6 => ?_)
  · refine j_aload_n C dX9_block_12 0 rfl 13 rfl ?_
    refine j_iload_n C dX9_block_13 1 rfl 14 rfl ?_
    refine j_callVi1 (As := [.int bi]) (rest := []) (wr := [(am 2, .inl (cI, 2144, .inl im)), (am 3, .inl (cZ, 2, .inl kf)), (am 4, .inl (cI, 64, .inl (aN rf))), (am 5, .inl (cI, 1000, .inl (aN bf))), (am 6, .inl (cI, 65, .inl (aN lf))), (am 7, .inl (cI, 64, .inl (aN hf)))]) C (c_X9_isBlock l D cI cZ cH (am 0) (am 1) (am 2) (am 3) (am 4) (am 5) bm (am 6) (am 7) ap wr wa go w sz ev n f L b x y z bi (by omega) (by omega)) gX9_block_X9_isBlock dX9_block_14 rfl yd_X9_isBlock (Nat.le_of_ble_eq_true rfl) (Nat.le_of_ble_eq_true rfl) rfl rfl rfl _ rfl (Nat.le_of_ble_eq_true rfl) (Nat.zero_le _) (Nat.zero_le _) [0, 1] [2, 3, 4, 5, 6, 7] rfl rfl rfl rfl rfl (by decide) [6, 7, 0, 1, 2, 3, 4, 5] [(am 0, .inr (9, [.ref (am 1), .ref (am 2), .ref (am 3), .ref (am 4), .ref (am 5), .int (nI bm), .ref (am 6), .ref (am 7), .int (nI ap), .int (nI wr), .int (nI wa), .int (nI go)])), (am 1, .inl (cI, 1072, .inl (stA w sz ev n f L b x y z))), (am 2, .inl (cI, 2144, .inl im)), (am 3, .inl (cZ, 2, .inl kf)), (am 4, .inl (cI, 64, .inl (aN rf))), (am 5, .inl (cI, 1000, .inl (aN bf))), (am 6, .inl (cI, 65, .inl (aN lf))), (am 7, .inl (cI, 64, .inl (aN hf)))] rfl rfl rfl 17 rfl ?_
    refine j_ifb_ne C dX9_block_17 23 (by decide) 20 rfl (fun h17 => ?_) (fun h17 => ?_)
    · refine j_lveq [(0, .ref (am 0)), (1, .int (nI (bi.toInt.toNat))), (2, .int what)] (by rw [← q_nn (i := bi) h17.1]) ?_
      have hbl1 : bi.toInt.toNat * sz < n := (blk_lt hsz.1).mp (show bi.toInt.toNat < nbk sz n by omega)
      refine j_aload_n C dX9_block_23 0 rfl 24 rfl ?_
      refine j_callVv (As := []) (rest := []) (wr := [(am 2, .inl (cI, 2144, .inl im)), (am 3, .inl (cZ, 2, .inl kf))]) C (c_X9_pack l D cI cZ cH (am 0) (am 1) (am 2) (am 3) (am 4) (am 5) bm (am 6) (am 7) ap wr wa go w sz ev n f L b x y z rf bf lf hf g hw hsz hev (by omega) hfg hg) gX9_block_X9_pack dX9_block_24 rfl yd_X9_pack (Nat.le_of_ble_eq_true rfl) (Nat.le_of_ble_eq_true rfl) rfl rfl rfl _ rfl (Nat.le_of_ble_eq_true rfl) (Nat.zero_le _) (Nat.zero_le _) [0, 1, 4, 5, 6, 7] [2, 3] rfl rfl rfl rfl rfl (by decide) [2, 3, 0, 1, 4, 5, 6, 7] (fun u9 => [(am 0, .inr (9, [.ref (am 1), .ref (am 2), .ref (am 3), .ref (am 4), .ref (am 5), .int (nI (u9.1)), .ref (am 6), .ref (am 7), .int (nI ap), .int (nI wr), .int (nI wa), .int (nI go)])), (am 1, .inl (cI, 1072, .inl (stA w sz ev n f L b x y z))), (am 2, .inl (cI, 2144, .inl im)), (am 3, .inl (cZ, 2, .inl kf)), (am 4, .inl (cI, 64, .inl (aN (upT f rf n)))), (am 5, .inl (cI, 1000, .inl (aN (u9.2.1)))), (am 6, .inl (cI, 65, .inl (aN (u9.2.2.1)))), (am 7, .inl (cI, 64, .inl (aN (u9.2.2.2))))]) (fun _ => rfl) (fun _ => rfl) rfl 27 rfl (fun u9 hpo24 => ?_)
      obtain ⟨bm29, bf29, lf29, hf29⟩ := u9
      replace hpo24 : MPI w sz ev g n (nbk sz n) hf29 lf29 bf29 bm29 ∧ lf29 (nbk sz n) = bm29 := hpo24
      show J D AX pX l eX _ sX mX _ bX methX cX 0 0 _ 3 [(am 0, .inr (9, [.ref (am 1), .ref (am 2), .ref (am 3), .ref (am 4), .ref (am 5), .int (nI bm29), .ref (am 6), .ref (am 7), .int (nI ap), .int (nI wr), .int (nI wa), .int (nI go)])), (am 1, .inl (cI, 1072, .inl (stA w sz ev n f L b x y z))), (am 2, .inl (cI, 2144, .inl im)), (am 3, .inl (cZ, 2, .inl kf)), (am 4, .inl (cI, 64, .inl (aN (upT f rf n)))), (am 5, .inl (cI, 1000, .inl (aN bf29))), (am 6, .inl (cI, 65, .inl (aN lf29))), (am 7, .inl (cI, 64, .inl (aN hf29)))] [(0, .ref (am 0)), (1, .int (nI (bi.toInt.toNat))), (2, .int what)] 27 []
      obtain ⟨⟨q1, q2, q3, q4, q5⟩, q6⟩ := id hpo24
      have hpl := pks_1000 (ev := ev) (g := g) hw.2 hsz.1 hn (Nat.le_refl ((n + sz - 1) / sz))
      have hbl9 : bm29 = (pkL w sz ev n g).length := q2
      have hble : bm29 ≤ 896 := by rw [q2]; exact hpl
      have hch := chQ_spec w sz ev g n bi.toInt.toNat
      have hps : (pks (blkL w sz ev g n) (bi.toInt.toNat + 1)).length = (pks (blkL w sz ev g n) bi.toInt.toNat).length + (chQ w sz ev g n bi.toInt.toNat).1 := by rw [pks, List.length_append, blkL_len]
      have hla := MPI_la hpo24.1 hpo24.2 (show bi.toInt.toNat < nbk sz n by omega)
      have hlb := q5 bi.toInt.toNat (by omega)
      have hpl2 := pks_1000 (ev := ev) (g := g) hw.2 hsz.1 hn (show bi.toInt.toNat + 1 ≤ (n + sz - 1) / sz from by have : bi.toInt.toNat < nbk sz n := (by omega); exact this)
      have hmul : (bi.toInt.toNat + 1) * sz = bi.toInt.toNat * sz + sz := Nat.succ_mul _ sz
      have hcn : cntB sz n bi.toInt.toNat = min n ((bi.toInt.toNat + 1) * sz) - bi.toInt.toNat * sz := rfl
      refine j_iload_n C dX9_block_27 2 rfl 28 rfl ?_
      have hsw28 : (what).toInt = 0 ∨ (what).toInt = 1 ∨ (what).toInt = 2 ∨ (what).toInt = 3 ∨ (what).toInt = 4 ∨ ((what).toInt < 0 ∨ 4 < (what).toInt) := by omega
      rcases hsw28 with h28 | h28 | h28 | h28 | h28 | h28
      · refine j_tabIn C dX9_block_28 0 (rfl.trans h28) (by decide) (by decide) (36) rfl 64 (by decide) ?_
        refine j_aload_n C dX9_block_64 0 rfl 65 rfl ?_
        refine j_get C dX9_block_65 0 7 1 inX9_block_9 rfl rfl (by decide) rfl rfl rfl 68 rfl ?_
        refine j_iload_n C dX9_block_68 1 rfl 69 rfl ?_
        refine j_iald C dX9_block_69 7 rfl (by omega) (Nat.le_of_ble_eq_true rfl) 70 rfl ?_
        refine j_top (nI (16 * (chQ w sz ev g n bi.toInt.toNat).2.1 + (chQ w sz ev g n bi.toInt.toNat).2.2)) (by rw [q4 _ (by omega)]) ?_
        refine j_bipush C dX9_block_70 (nI 16) (by decide) 72 rfl ?_
        refine j_idiv C dX9_block_72 (nz (by omega) (by omega)) (nI ((16 * (chQ w sz ev g n bi.toInt.toNat).2.1 + (chQ w sz ev g n bi.toInt.toNat).2.2) / 16)) (pk_div (by omega) (by omega) (by omega)) 73 rfl ?_
        refine j_top (nI ((chQ w sz ev g n bi.toInt.toNat).2.1)) (by congr 1; omega) ?_
        exact j_iret C dX9_block_73 ((w, sz, ev, n, f, L, b, x, y, z), im, kf, upT f rf n, bf29, bm29, lf29, hf29, ap, wr, wa, go) (by rw [show opBlock ((w, sz, ev, n, g, L, t, x, y, z), b0, b1, kp) bi what = (nI ((chQ w sz ev g n bi.toInt.toNat).2.1), ((w, sz, ev, n, g, L, t, x, y, z), b0, b1, kp)) from (by first | rfl | (simp only [opBlock]; (repeat' split) <;> first | rfl | (exfalso; omega)))]; exact ⟨rfl, hR0⟩) rfl
      · refine j_tabIn C dX9_block_28 1 (rfl.trans h28) (by decide) (by decide) (46) rfl 74 (by decide) ?_
        refine j_aload_n C dX9_block_74 0 rfl 75 rfl ?_
        refine j_get C dX9_block_75 0 7 1 inX9_block_9 rfl rfl (by decide) rfl rfl rfl 78 rfl ?_
        refine j_iload_n C dX9_block_78 1 rfl 79 rfl ?_
        refine j_iald C dX9_block_79 7 rfl (by omega) (Nat.le_of_ble_eq_true rfl) 80 rfl ?_
        refine j_top (nI (16 * (chQ w sz ev g n bi.toInt.toNat).2.1 + (chQ w sz ev g n bi.toInt.toNat).2.2)) (by rw [q4 _ (by omega)]) ?_
        refine j_bipush C dX9_block_80 (nI 16) (by decide) 82 rfl ?_
        refine j_irem C dX9_block_82 (nz (by omega) (by omega)) (nI ((16 * (chQ w sz ev g n bi.toInt.toNat).2.1 + (chQ w sz ev g n bi.toInt.toNat).2.2) % 16)) (pk_rem (by omega) (by omega) (by omega)) 83 rfl ?_
        refine j_top (nI ((chQ w sz ev g n bi.toInt.toNat).2.2)) (by congr 1; omega) ?_
        exact j_iret C dX9_block_83 ((w, sz, ev, n, f, L, b, x, y, z), im, kf, upT f rf n, bf29, bm29, lf29, hf29, ap, wr, wa, go) (by rw [show opBlock ((w, sz, ev, n, g, L, t, x, y, z), b0, b1, kp) bi what = (nI ((chQ w sz ev g n bi.toInt.toNat).2.2), ((w, sz, ev, n, g, L, t, x, y, z), b0, b1, kp)) from (by first | rfl | (simp only [opBlock]; (repeat' split) <;> first | rfl | (exfalso; omega)))]; exact ⟨rfl, hR0⟩) rfl
      · refine j_tabIn C dX9_block_28 2 (rfl.trans h28) (by decide) (by decide) (56) rfl 84 (by decide) ?_
        refine j_aload_n C dX9_block_84 0 rfl 85 rfl ?_
        refine j_get C dX9_block_85 0 6 2 inX9_block_9 rfl rfl (by decide) rfl rfl rfl 88 rfl ?_
        refine j_iload_n C dX9_block_88 1 rfl 89 rfl ?_
        refine j_iconst C dX9_block_89 (nI 1) (by decide) 90 rfl ?_
        refine j_iadd C dX9_block_90 (nI (bi.toInt.toNat + 1)) (nI_add (bi.toInt.toNat) 1) 91 rfl ?_
        refine j_iald C dX9_block_91 6 rfl (by omega) (Nat.le_of_ble_eq_true rfl) 92 rfl ?_
        refine j_top (nI ((pks (blkL w sz ev g n) (bi.toInt.toNat + 1)).length)) (by rw [hla]) ?_
        refine j_aload_n C dX9_block_92 0 rfl 93 rfl ?_
        refine j_get C dX9_block_93 0 6 2 inX9_block_9 rfl rfl (by decide) rfl rfl rfl 96 rfl ?_
        refine j_iload_n C dX9_block_96 1 rfl 97 rfl ?_
        refine j_iald C dX9_block_97 6 rfl (by omega) (Nat.le_of_ble_eq_true rfl) 98 rfl ?_
        refine j_top (nI ((pks (blkL w sz ev g n) bi.toInt.toNat).length)) (by rw [hlb]) ?_
        refine j_isub C dX9_block_98 (nI (((pks (blkL w sz ev g n) (bi.toInt.toNat + 1)).length) - ((pks (blkL w sz ev g n) bi.toInt.toNat).length))) (pk_sub (by omega)) 99 rfl ?_
        refine j_top (nI ((chQ w sz ev g n bi.toInt.toNat).1)) (by congr 1; omega) ?_
        exact j_iret C dX9_block_99 ((w, sz, ev, n, f, L, b, x, y, z), im, kf, upT f rf n, bf29, bm29, lf29, hf29, ap, wr, wa, go) (by rw [show opBlock ((w, sz, ev, n, g, L, t, x, y, z), b0, b1, kp) bi what = (nI ((chQ w sz ev g n bi.toInt.toNat).1), ((w, sz, ev, n, g, L, t, x, y, z), b0, b1, kp)) from (by first | rfl | (simp only [opBlock]; (repeat' split) <;> first | rfl | (exfalso; omega)))]; exact ⟨rfl, hR0⟩) rfl
      · refine j_tabIn C dX9_block_28 3 (rfl.trans h28) (by decide) (by decide) (72) rfl 100 (by decide) ?_
        refine j_aload_n C dX9_block_100 0 rfl 101 rfl ?_
        refine j_iload_n C dX9_block_101 1 rfl 102 rfl ?_
        refine j_callVi1 (As := [.int (nI (bi.toInt.toNat))]) (rest := []) (wr := [(am 2, .inl (cI, 2144, .inl im)), (am 3, .inl (cZ, 2, .inl kf)), (am 4, .inl (cI, 64, .inl (aN (upT f rf n)))), (am 5, .inl (cI, 1000, .inl (aN bf29))), (am 6, .inl (cI, 65, .inl (aN lf29))), (am 7, .inl (cI, 64, .inl (aN hf29)))]) C (c_X9_endOf l D cI cZ cH (am 0) (am 1) (am 2) (am 3) (am 4) (am 5) bm29 (am 6) (am 7) ap wr wa go w sz ev n f L b x y z (bi.toInt.toNat) (by omega) (by omega) (by omega)) gX9_block_X9_endOf dX9_block_102 rfl yd_X9_endOf (Nat.le_of_ble_eq_true rfl) (Nat.le_of_ble_eq_true rfl) rfl rfl rfl _ rfl (Nat.le_of_ble_eq_true rfl) (Nat.zero_le _) (Nat.zero_le _) [0, 1] [2, 3, 4, 5, 6, 7] rfl rfl rfl rfl rfl (by decide) [6, 7, 0, 1, 2, 3, 4, 5] [(am 0, .inr (9, [.ref (am 1), .ref (am 2), .ref (am 3), .ref (am 4), .ref (am 5), .int (nI bm29), .ref (am 6), .ref (am 7), .int (nI ap), .int (nI wr), .int (nI wa), .int (nI go)])), (am 1, .inl (cI, 1072, .inl (stA w sz ev n f L b x y z))), (am 2, .inl (cI, 2144, .inl im)), (am 3, .inl (cZ, 2, .inl kf)), (am 4, .inl (cI, 64, .inl (aN (upT f rf n)))), (am 5, .inl (cI, 1000, .inl (aN bf29))), (am 6, .inl (cI, 65, .inl (aN lf29))), (am 7, .inl (cI, 64, .inl (aN hf29)))] rfl rfl rfl 105 rfl ?_
        refine j_aload_n C dX9_block_105 0 rfl 106 rfl ?_
        refine j_iload_n C dX9_block_106 1 rfl 107 rfl ?_
        refine j_callVi1 (As := [.int (nI (bi.toInt.toNat))]) (rest := [.int (nI (min n (((bi.toInt.toNat) + 1) * sz)))]) (wr := [(am 2, .inl (cI, 2144, .inl im)), (am 3, .inl (cZ, 2, .inl kf)), (am 4, .inl (cI, 64, .inl (aN (upT f rf n)))), (am 5, .inl (cI, 1000, .inl (aN bf29))), (am 6, .inl (cI, 65, .inl (aN lf29))), (am 7, .inl (cI, 64, .inl (aN hf29)))]) C (c_X9_firstOf l D cI cZ cH (am 0) (am 1) (am 2) (am 3) (am 4) (am 5) bm29 (am 6) (am 7) ap wr wa go w sz ev n f L b x y z (bi.toInt.toNat) ) gX9_block_X9_firstOf dX9_block_107 rfl yd_X9_firstOf (Nat.le_of_ble_eq_true rfl) (Nat.le_of_ble_eq_true rfl) rfl rfl rfl _ rfl (Nat.le_of_ble_eq_true rfl) (Nat.zero_le _) (Nat.zero_le _) [0, 1] [2, 3, 4, 5, 6, 7] rfl rfl rfl rfl rfl (by decide) [6, 7, 0, 1, 2, 3, 4, 5] [(am 0, .inr (9, [.ref (am 1), .ref (am 2), .ref (am 3), .ref (am 4), .ref (am 5), .int (nI bm29), .ref (am 6), .ref (am 7), .int (nI ap), .int (nI wr), .int (nI wa), .int (nI go)])), (am 1, .inl (cI, 1072, .inl (stA w sz ev n f L b x y z))), (am 2, .inl (cI, 2144, .inl im)), (am 3, .inl (cZ, 2, .inl kf)), (am 4, .inl (cI, 64, .inl (aN (upT f rf n)))), (am 5, .inl (cI, 1000, .inl (aN bf29))), (am 6, .inl (cI, 65, .inl (aN lf29))), (am 7, .inl (cI, 64, .inl (aN hf29)))] rfl rfl rfl 110 rfl ?_
        refine j_isub C dX9_block_110 (nI ((min n (((bi.toInt.toNat) + 1) * sz)) - ((bi.toInt.toNat) * sz))) (pk_sub (by omega)) 111 rfl ?_
        refine j_top (nI (cntB sz n bi.toInt.toNat)) rfl ?_
        exact j_iret C dX9_block_111 ((w, sz, ev, n, f, L, b, x, y, z), im, kf, upT f rf n, bf29, bm29, lf29, hf29, ap, wr, wa, go) (by rw [show opBlock ((w, sz, ev, n, g, L, t, x, y, z), b0, b1, kp) bi what = (nI (cntB sz n bi.toInt.toNat), ((w, sz, ev, n, g, L, t, x, y, z), b0, b1, kp)) from (by first | rfl | (simp only [opBlock]; (repeat' split) <;> first | rfl | (exfalso; omega)))]; exact ⟨rfl, hR0⟩) rfl
      · refine j_tabIn C dX9_block_28 4 (rfl.trans h28) (by decide) (by decide) (84) rfl 112 (by decide) ?_
        refine j_aload_n C dX9_block_112 0 rfl 113 rfl ?_
        refine j_get C dX9_block_113 0 6 2 inX9_block_9 rfl rfl (by decide) rfl rfl rfl 116 rfl ?_
        refine j_iload_n C dX9_block_116 1 rfl 117 rfl ?_
        refine j_iald C dX9_block_117 6 rfl (by omega) (Nat.le_of_ble_eq_true rfl) 118 rfl ?_
        refine j_top (nI ((pks (blkL w sz ev g n) bi.toInt.toNat).length)) (by rw [hlb]) ?_
        exact j_iret C dX9_block_118 ((w, sz, ev, n, f, L, b, x, y, z), im, kf, upT f rf n, bf29, bm29, lf29, hf29, ap, wr, wa, go) (by rw [show opBlock ((w, sz, ev, n, g, L, t, x, y, z), b0, b1, kp) bi what = (nI ((pks (blkL w sz ev g n) bi.toInt.toNat).length), ((w, sz, ev, n, g, L, t, x, y, z), b0, b1, kp)) from (by first | rfl | (simp only [opBlock]; (repeat' split) <;> first | rfl | (exfalso; omega)))]; exact ⟨rfl, hR0⟩) rfl
      · refine j_tabOut C dX9_block_28 ((what).toInt) rfl h28 119 (by decide) ?_
        refine j_iload_n C dX9_block_119 1 rfl 120 rfl ?_
        refine j_aload_n C dX9_block_120 0 rfl 121 rfl ?_
        refine j_get C dX9_block_121 0 0 3 inX9_block_9 rfl rfl (by decide) rfl rfl rfl 124 rfl ?_
        refine j_sipush C dX9_block_124 (nI 1068) (by decide) 127 rfl ?_
        refine j_ialdI C dX9_block_127 1 rfl (Nat.le_of_ble_eq_true rfl) (Nat.le_of_ble_eq_true rfl) (nI ev) rfl 128 rfl ?_
        refine j_idiv C dX9_block_128 (nz (by omega) (by omega)) (nI ((bi.toInt.toNat) / ev)) (pk_div (by omega) (by omega) (by omega)) 129 rfl ?_
        have hdiv128 := Nat.div_le_self (bi.toInt.toNat) ev
        exact j_iret C dX9_block_129 ((w, sz, ev, n, f, L, b, x, y, z), im, kf, upT f rf n, bf29, bm29, lf29, hf29, ap, wr, wa, go) (by rw [show opBlock ((w, sz, ev, n, g, L, t, x, y, z), b0, b1, kp) bi what = (nI ((bi.toInt.toNat) / ev), ((w, sz, ev, n, g, L, t, x, y, z), b0, b1, kp)) from (by first | rfl | (simp only [opBlock]; (repeat' split) <;> first | rfl | (exfalso; omega)))]; exact ⟨rfl, hR0⟩) rfl
    · refine j_bipush C dX9_block_20 (-6) (by decide) 22 rfl ?_
      exact j_iret C dX9_block_22 ((w, sz, ev, n, f, L, b, x, y, z), im, kf, rf, bf, bm, lf, hf, ap, wr, wa, go) (by rw [show opBlock ((w, sz, ev, n, g, L, t, x, y, z), b0, b1, kp) bi what = (-6, ((w, sz, ev, n, g, L, t, x, y, z), b0, b1, kp)) from (by first | rfl | (simp only [opBlock]; (repeat' split) <;> first | rfl | (exfalso; omega)))]; exact ⟨rfl, hR0⟩) rfl
  · refine j_bipush C dX9_block_9 (-2) (by decide) 11 rfl ?_
    exact j_iret C dX9_block_11 ((w, sz, ev, n, f, L, b, x, y, z), im, kf, rf, bf, bm, lf, hf, ap, wr, wa, go) (by rw [show opBlock ((w, sz, ev, n, g, L, t, x, y, z), b0, b1, kp) bi what = (-2, ((w, sz, ev, n, g, L, t, x, y, z), b0, b1, kp)) from (by first | rfl | (simp only [opBlock]; (repeat' split) <;> first | rfl | (exfalso; omega)))]; exact ⟨rfl, hR0⟩) rfl
set_option maxHeartbeats 4000000 in
set_option maxRecDepth 100000 in
theorem k_X9_packed (l : Launch) (D : va_G) (cI cZ cH : ClassId) (am : Nat → Nat) (A : AT) (Y : MT) (hR : MRel A Y) (i : Int32) : Mi l D cI cZ cH yX9_packed wsX9_packed 6 142 [.ref (am 0), .int i] (wM cI cZ am Y) (fun (r9 : Int32) (Y9 : MT) => r9 = (opPacked A i).1 ∧ MRel (opPacked A i).2 Y9) (wM cI cZ am) := by
  obtain ⟨⟨w, sz, ev, n, f, L, b, x, y, z⟩, im, kf, rf, bf, bm, lf, hf, ap, wr, wa, go⟩ := Y
  obtain ⟨⟨w2, sz2, ev2, n2, g, L2, t, x2, y2, z2⟩, b0, b1, kp⟩ := A
  have hR0 := hR
  obtain ⟨⟨hw, hsz, hev, hn, hg, hL, ht, hx5⟩, ⟨e1, e2, e3, e4, hfg, e6, hbt, e8, e9, e10⟩, hi0, hi1, hk0, hk1, hk4⟩ := hR
  dsimp only at hw hsz hev hn hg hL ht hx5 e1 e2 e3 e4 hfg e6 hbt e8 e9 e10 hi0 hi1 hk0 hk1 hk4
  subst e1 e2 e3 e4 e6 e8 e9 e10
  have hnb : nbk sz n ≤ 64 := nbk_le hsz.1 hn
  have ht255 := tpW_le hw.2
  refine Mi.start (cc := cX9_packed) (nL := 2) (ret := (some .int)) (lv0 := [(0, .ref (am 0)), (1, .int i)]) (by decide) rfl (Nat.le_of_ble_eq_true rfl) rfl ?_
  intro pX eX sX mX bX methX cX AX C
  show J D AX pX l eX _ sX mX _ bX methX cX 0 0 _ 2 [(am 0, .inr (9, [.ref (am 1), .ref (am 2), .ref (am 3), .ref (am 4), .ref (am 5), .int (nI bm), .ref (am 6), .ref (am 7), .int (nI ap), .int (nI wr), .int (nI wa), .int (nI go)])), (am 1, .inl (cI, 1072, .inl (stA w sz ev n f L b x y z))), (am 2, .inl (cI, 2144, .inl im)), (am 3, .inl (cZ, 2, .inl kf)), (am 4, .inl (cI, 64, .inl (aN rf))), (am 5, .inl (cI, 1000, .inl (aN bf))), (am 6, .inl (cI, 65, .inl (aN lf))), (am 7, .inl (cI, 64, .inl (aN hf)))] [(0, .ref (am 0)), (1, .int i)] 0 []
  refine j_iload_n C dX9_packed_0 1 rfl 1 rfl ?_
  refine j_iconst C dX9_packed_1 (-1) (by decide) 2 rfl ?_
  refine j_icmp_ge C dX9_packed_2 8 (by decide) rfl (show (-1 : Int32).toInt = (-1 : Int) from rfl) 5 rfl (fun h2 => ?_) (fun h2 => ?_)
  · refine j_aload_n C dX9_packed_8 0 rfl 9 rfl ?_
    refine j_callVv (As := []) (rest := []) (wr := [(am 2, .inl (cI, 2144, .inl im)), (am 3, .inl (cZ, 2, .inl kf))]) C (c_X9_pack l D cI cZ cH (am 0) (am 1) (am 2) (am 3) (am 4) (am 5) bm (am 6) (am 7) ap wr wa go w sz ev n f L b x y z rf bf lf hf g hw hsz hev (by omega) hfg hg) gX9_packed_X9_pack dX9_packed_9 rfl yd_X9_pack (Nat.le_of_ble_eq_true rfl) (Nat.le_of_ble_eq_true rfl) rfl rfl rfl _ rfl (Nat.le_of_ble_eq_true rfl) (Nat.zero_le _) (Nat.zero_le _) [0, 1, 4, 5, 6, 7] [2, 3] rfl rfl rfl rfl rfl (by decide) [2, 3, 0, 1, 4, 5, 6, 7] (fun u9 => [(am 0, .inr (9, [.ref (am 1), .ref (am 2), .ref (am 3), .ref (am 4), .ref (am 5), .int (nI (u9.1)), .ref (am 6), .ref (am 7), .int (nI ap), .int (nI wr), .int (nI wa), .int (nI go)])), (am 1, .inl (cI, 1072, .inl (stA w sz ev n f L b x y z))), (am 2, .inl (cI, 2144, .inl im)), (am 3, .inl (cZ, 2, .inl kf)), (am 4, .inl (cI, 64, .inl (aN (upT f rf n)))), (am 5, .inl (cI, 1000, .inl (aN (u9.2.1)))), (am 6, .inl (cI, 65, .inl (aN (u9.2.2.1)))), (am 7, .inl (cI, 64, .inl (aN (u9.2.2.2))))]) (fun _ => rfl) (fun _ => rfl) rfl 12 rfl (fun u9 hpo9 => ?_)
    obtain ⟨bm29, bf29, lf29, hf29⟩ := u9
    replace hpo9 : MPI w sz ev g n (nbk sz n) hf29 lf29 bf29 bm29 ∧ lf29 (nbk sz n) = bm29 := hpo9
    show J D AX pX l eX _ sX mX _ bX methX cX 0 0 _ 2 [(am 0, .inr (9, [.ref (am 1), .ref (am 2), .ref (am 3), .ref (am 4), .ref (am 5), .int (nI bm29), .ref (am 6), .ref (am 7), .int (nI ap), .int (nI wr), .int (nI wa), .int (nI go)])), (am 1, .inl (cI, 1072, .inl (stA w sz ev n f L b x y z))), (am 2, .inl (cI, 2144, .inl im)), (am 3, .inl (cZ, 2, .inl kf)), (am 4, .inl (cI, 64, .inl (aN (upT f rf n)))), (am 5, .inl (cI, 1000, .inl (aN bf29))), (am 6, .inl (cI, 65, .inl (aN lf29))), (am 7, .inl (cI, 64, .inl (aN hf29)))] [(0, .ref (am 0)), (1, .int i)] 12 []
    obtain ⟨⟨q1, q2, q3, q4, q5⟩, q6⟩ := id hpo9
    have hpl := pks_1000 (ev := ev) (g := g) hw.2 hsz.1 hn (Nat.le_refl ((n + sz - 1) / sz))
    have hbl9 : bm29 = (pkL w sz ev n g).length := q2
    have hble : bm29 ≤ 896 := by rw [q2]; exact hpl
    refine j_iload_n C dX9_packed_12 1 rfl 13 rfl ?_
    refine j_iconst C dX9_packed_13 (-1) (by decide) 14 rfl ?_
    refine j_icmp_ne C dX9_packed_14 24 (by decide) rfl (show (-1 : Int32).toInt = (-1 : Int) from rfl) 17 rfl (fun h14 => ?_) (fun h14 => ?_)
    · refine j_iload_n C dX9_packed_24 1 rfl 25 rfl ?_
      refine j_aload_n C dX9_packed_25 0 rfl 26 rfl ?_
      refine j_get C dX9_packed_26 0 5 1 inX9_packed_9 rfl rfl (by decide) rfl rfl rfl 29 rfl ?_
      refine j_icmp_ge C dX9_packed_29 41 (by decide) rfl (q_t (by omega)) 32 rfl (fun h29 => ?_) (fun h29 => ?_)
      · refine j_bipush C dX9_packed_41 (-6) (by decide) 43 rfl ?_
        exact j_iret C dX9_packed_43 ((w, sz, ev, n, f, L, b, x, y, z), im, kf, upT f rf n, bf29, bm29, lf29, hf29, ap, wr, wa, go) (by rw [show opPacked ((w, sz, ev, n, g, L, t, x, y, z), b0, b1, kp) i = (-6, ((w, sz, ev, n, g, L, t, x, y, z), b0, b1, kp)) from (by simp only [opPacked, bitR, ← hbl9]; (repeat' split) <;> first | rfl | (exfalso; omega))]; exact ⟨rfl, hR0⟩) rfl
      · refine j_lveq [(0, .ref (am 0)), (1, .int (nI (i.toInt.toNat)))] (by rw [← q_nn (i := i) (by omega)]) ?_
        refine j_aload_n C dX9_packed_32 0 rfl 33 rfl ?_
        refine j_get C dX9_packed_33 0 4 2 inX9_packed_9 rfl rfl (by decide) rfl rfl rfl 36 rfl ?_
        refine j_iload_n C dX9_packed_36 1 rfl 37 rfl ?_
        refine j_iald C dX9_packed_37 5 rfl (by omega) (Nat.le_of_ble_eq_true rfl) 38 rfl ?_
        refine j_top (nI ((pkL w sz ev n g).getD i.toInt.toNat 0)) (by rw [q3 _ (by omega)]; rfl) ?_
        refine j_goto C dX9_packed_38 43 (by decide) ?_
        exact j_iret C dX9_packed_43 ((w, sz, ev, n, f, L, b, x, y, z), im, kf, upT f rf n, bf29, bm29, lf29, hf29, ap, wr, wa, go) (by rw [show opPacked ((w, sz, ev, n, g, L, t, x, y, z), b0, b1, kp) i = (nI ((pkL w sz ev n g).getD i.toInt.toNat 0), ((w, sz, ev, n, g, L, t, x, y, z), b0, b1, kp)) from (by simp only [opPacked, bitR, ← hbl9]; (repeat' split) <;> first | rfl | (exfalso; omega))]; exact ⟨rfl, hR0⟩) rfl
    · refine j_aload_n C dX9_packed_17 0 rfl 18 rfl ?_
      refine j_get C dX9_packed_18 0 5 1 inX9_packed_9 rfl rfl (by decide) rfl rfl rfl 21 rfl ?_
      refine j_goto C dX9_packed_21 43 (by decide) ?_
      exact j_iret C dX9_packed_43 ((w, sz, ev, n, f, L, b, x, y, z), im, kf, upT f rf n, bf29, bm29, lf29, hf29, ap, wr, wa, go) (by rw [show opPacked ((w, sz, ev, n, g, L, t, x, y, z), b0, b1, kp) i = (nI bm29, ((w, sz, ev, n, g, L, t, x, y, z), b0, b1, kp)) from (by simp only [opPacked, bitR, ← hbl9]; (repeat' split) <;> first | rfl | (exfalso; omega))]; exact ⟨rfl, hR0⟩) rfl
  · refine j_bipush C dX9_packed_5 (-2) (by decide) 7 rfl ?_
    exact j_iret C dX9_packed_7 ((w, sz, ev, n, f, L, b, x, y, z), im, kf, rf, bf, bm, lf, hf, ap, wr, wa, go) (by rw [show opPacked ((w, sz, ev, n, g, L, t, x, y, z), b0, b1, kp) i = (-2, ((w, sz, ev, n, g, L, t, x, y, z), b0, b1, kp)) from (by simp only [opPacked, bitR]; (repeat' split) <;> first | rfl | (exfalso; omega))]; exact ⟨rfl, hR0⟩) rfl
set_option maxHeartbeats 4000000 in
set_option maxRecDepth 100000 in
theorem k_X9_tape (l : Launch) (D : va_G) (cI cZ cH : ClassId) (am : Nat → Nat) (A : AT) (Y : MT) (hR : MRel A Y) : Mi l D cI cZ cH yX9_tape wsX9_tape 6 142 [.ref (am 0)] (wM cI cZ am Y) (fun (r9 : Int32) (Y9 : MT) => r9 = (opTape A ).1 ∧ MRel (opTape A ).2 Y9) (wM cI cZ am) := by
  obtain ⟨⟨w, sz, ev, n, f, L, b, x, y, z⟩, im, kf, rf, bf, bm, lf, hf, ap, wr, wa, go⟩ := Y
  obtain ⟨⟨w2, sz2, ev2, n2, g, L2, t, x2, y2, z2⟩, b0, b1, kp⟩ := A
  have hR0 := hR
  obtain ⟨⟨hw, hsz, hev, hn, hg, hL, ht, hx5⟩, ⟨e1, e2, e3, e4, hfg, e6, hbt, e8, e9, e10⟩, hi0, hi1, hk0, hk1, hk4⟩ := hR
  dsimp only at hw hsz hev hn hg hL ht hx5 e1 e2 e3 e4 hfg e6 hbt e8 e9 e10 hi0 hi1 hk0 hk1 hk4
  subst e1 e2 e3 e4 e6 e8 e9 e10
  have hnb : nbk sz n ≤ 64 := nbk_le hsz.1 hn
  have ht255 := tpW_le hw.2
  refine Mi.start (cc := cX9_tape) (nL := 2) (ret := (some .int)) (lv0 := [(0, .ref (am 0))]) (by decide) rfl (Nat.le_of_ble_eq_true rfl) rfl ?_
  intro pX eX sX mX bX methX cX AX C
  show J D AX pX l eX _ sX mX _ bX methX cX 0 0 _ 2 [(am 0, .inr (9, [.ref (am 1), .ref (am 2), .ref (am 3), .ref (am 4), .ref (am 5), .int (nI bm), .ref (am 6), .ref (am 7), .int (nI ap), .int (nI wr), .int (nI wa), .int (nI go)])), (am 1, .inl (cI, 1072, .inl (stA w sz ev n f L b x y z))), (am 2, .inl (cI, 2144, .inl im)), (am 3, .inl (cZ, 2, .inl kf)), (am 4, .inl (cI, 64, .inl (aN rf))), (am 5, .inl (cI, 1000, .inl (aN bf))), (am 6, .inl (cI, 65, .inl (aN lf))), (am 7, .inl (cI, 64, .inl (aN hf)))] [(0, .ref (am 0))] 0 []
  refine j_aload_n C dX9_tape_0 0 rfl 1 rfl ?_
  refine j_callVv (As := []) (rest := []) (wr := [(am 2, .inl (cI, 2144, .inl im)), (am 3, .inl (cZ, 2, .inl kf))]) C (c_X9_pack l D cI cZ cH (am 0) (am 1) (am 2) (am 3) (am 4) (am 5) bm (am 6) (am 7) ap wr wa go w sz ev n f L b x y z rf bf lf hf g hw hsz hev (by omega) hfg hg) gX9_tape_X9_pack dX9_tape_1 rfl yd_X9_pack (Nat.le_of_ble_eq_true rfl) (Nat.le_of_ble_eq_true rfl) rfl rfl rfl _ rfl (Nat.le_of_ble_eq_true rfl) (Nat.zero_le _) (Nat.zero_le _) [0, 1, 4, 5, 6, 7] [2, 3] rfl rfl rfl rfl rfl (by decide) [2, 3, 0, 1, 4, 5, 6, 7] (fun u9 => [(am 0, .inr (9, [.ref (am 1), .ref (am 2), .ref (am 3), .ref (am 4), .ref (am 5), .int (nI (u9.1)), .ref (am 6), .ref (am 7), .int (nI ap), .int (nI wr), .int (nI wa), .int (nI go)])), (am 1, .inl (cI, 1072, .inl (stA w sz ev n f L b x y z))), (am 2, .inl (cI, 2144, .inl im)), (am 3, .inl (cZ, 2, .inl kf)), (am 4, .inl (cI, 64, .inl (aN (upT f rf n)))), (am 5, .inl (cI, 1000, .inl (aN (u9.2.1)))), (am 6, .inl (cI, 65, .inl (aN (u9.2.2.1)))), (am 7, .inl (cI, 64, .inl (aN (u9.2.2.2))))]) (fun _ => rfl) (fun _ => rfl) rfl 4 rfl (fun u9 hpo1 => ?_)
  obtain ⟨bm29, bf29, lf29, hf29⟩ := u9
  replace hpo1 : MPI w sz ev g n (nbk sz n) hf29 lf29 bf29 bm29 ∧ lf29 (nbk sz n) = bm29 := hpo1
  show J D AX pX l eX _ sX mX _ bX methX cX 0 0 _ 2 [(am 0, .inr (9, [.ref (am 1), .ref (am 2), .ref (am 3), .ref (am 4), .ref (am 5), .int (nI bm29), .ref (am 6), .ref (am 7), .int (nI ap), .int (nI wr), .int (nI wa), .int (nI go)])), (am 1, .inl (cI, 1072, .inl (stA w sz ev n f L b x y z))), (am 2, .inl (cI, 2144, .inl im)), (am 3, .inl (cZ, 2, .inl kf)), (am 4, .inl (cI, 64, .inl (aN (upT f rf n)))), (am 5, .inl (cI, 1000, .inl (aN bf29))), (am 6, .inl (cI, 65, .inl (aN lf29))), (am 7, .inl (cI, 64, .inl (aN hf29)))] [(0, .ref (am 0))] 4 []
  obtain ⟨⟨q1, q2, q3, q4, q5⟩, q6⟩ := id hpo1
  have hpl := pks_1000 (ev := ev) (g := g) hw.2 hsz.1 hn (Nat.le_refl ((n + sz - 1) / sz))
  have hbl9 : bm29 = (pkL w sz ev n g).length := q2
  have hble : bm29 ≤ 896 := by rw [q2]; exact hpl
  refine j_iconst C dX9_tape_4 (nI 0) (by decide) 5 rfl ?_
  refine j_istore_n C dX9_tape_5 [(1, .int (nI 0)), (0, .ref (am 0))] (by decide) rfl 6 rfl ?_
  refine j_loop1 (fun (k : Nat) => k ≤ bm29) (fun (k : Nat) => bm29 - k) (fun (k : Nat) => [(am 0, .inr (9, [.ref (am 1), .ref (am 2), .ref (am 3), .ref (am 4), .ref (am 5), .int (nI bm29), .ref (am 6), .ref (am 7), .int (nI ap), .int (nI wr), .int (nI wa), .int (nI go)])), (am 1, .inl (cI, 1072, .inl (stA w sz ev n f L (upT bf29 b k) x y z))), (am 2, .inl (cI, 2144, .inl im)), (am 3, .inl (cZ, 2, .inl kf)), (am 4, .inl (cI, 64, .inl (aN (upT f rf n)))), (am 5, .inl (cI, 1000, .inl (aN bf29))), (am 6, .inl (cI, 65, .inl (aN lf29))), (am 7, .inl (cI, 64, .inl (aN hf29)))]) (fun (k : Nat) => [(1, .int (nI k)), (0, .ref (am 0))]) ?_ 0 (Nat.zero_le _) (by rw [upT_0]) rfl
  intro k hI6 ih6
  have hk : k ≤ bm29 := hI6
  show J D AX pX l eX _ sX mX _ bX methX cX 0 0 _ 2 [(am 0, .inr (9, [.ref (am 1), .ref (am 2), .ref (am 3), .ref (am 4), .ref (am 5), .int (nI bm29), .ref (am 6), .ref (am 7), .int (nI ap), .int (nI wr), .int (nI wa), .int (nI go)])), (am 1, .inl (cI, 1072, .inl (stA w sz ev n f L (upT bf29 b k) x y z))), (am 2, .inl (cI, 2144, .inl im)), (am 3, .inl (cZ, 2, .inl kf)), (am 4, .inl (cI, 64, .inl (aN (upT f rf n)))), (am 5, .inl (cI, 1000, .inl (aN bf29))), (am 6, .inl (cI, 65, .inl (aN lf29))), (am 7, .inl (cI, 64, .inl (aN hf29)))] [(1, .int (nI k)), (0, .ref (am 0))] 6 []
  refine j_iload_n C dX9_tape_6 0 rfl 7 rfl ?_
  refine j_aload_n C dX9_tape_7 1 rfl 8 rfl ?_
  refine j_get C dX9_tape_8 0 5 1 inX9_tape_9 rfl rfl (by decide) rfl rfl rfl 11 rfl ?_
  refine j_icmp_ge C dX9_tape_11 35 (by decide) (q_t (by omega)) (q_t (by omega)) 14 rfl (fun h11 => ?_) (fun h11 => ?_)
  · refine j_aload_n C dX9_tape_35 1 rfl 36 rfl ?_
    refine j_get C dX9_tape_36 0 0 2 inX9_tape_9 rfl rfl (by decide) rfl rfl rfl 39 rfl ?_
    refine j_sipush C dX9_tape_39 (nI 1065) (by decide) 42 rfl ?_
    refine j_aload_n C dX9_tape_42 1 rfl 43 rfl ?_
    refine j_get C dX9_tape_43 0 5 1 inX9_tape_9 rfl rfl (by decide) rfl rfl rfl 46 rfl ?_
    refine j_iastI C dX9_tape_46 1 rfl (Nat.le_of_ble_eq_true rfl) (Nat.le_of_ble_eq_true rfl) (stA w sz ev n f bm29 (upT bf29 b k) x y z) (stA_up1065 ..) [(am 0, .inr (9, [.ref (am 1), .ref (am 2), .ref (am 3), .ref (am 4), .ref (am 5), .int (nI bm29), .ref (am 6), .ref (am 7), .int (nI ap), .int (nI wr), .int (nI wa), .int (nI go)])), (am 1, .inl (cI, 1072, .inl (stA w sz ev n f bm29 (upT bf29 b k) x y z))), (am 2, .inl (cI, 2144, .inl im)), (am 3, .inl (cZ, 2, .inl kf)), (am 4, .inl (cI, 64, .inl (aN (upT f rf n)))), (am 5, .inl (cI, 1000, .inl (aN bf29))), (am 6, .inl (cI, 65, .inl (aN lf29))), (am 7, .inl (cI, 64, .inl (aN hf29)))] rfl 47 rfl ?_
    refine j_aload_n C dX9_tape_47 1 rfl 48 rfl ?_
    refine j_get C dX9_tape_48 0 5 1 inX9_tape_9 rfl rfl (by decide) rfl rfl rfl 51 rfl ?_
    exact j_iret C dX9_tape_51 ((w, sz, ev, n, f, bm29, upT bf29 b k, x, y, z), im, kf, upT f rf n, bf29, bm29, lf29, hf29, ap, wr, wa, go) (by rw [show opTape ((w, sz, ev, n, g, L, t, x, y, z), b0, b1, kp) = (nI (pkL w sz ev n g).length, ((w, sz, ev, n, g, (pkL w sz ev n g).length, (fun j => (pkL w sz ev n g).getD j 0), x, y, z), b0, b1, kp)) from (by rfl)]; exact ⟨(by rw [hbl9]), ⟨⟨hw, hsz, hev, hn, hg, by show (pkL w sz ev n g).length ≤ 1000; omega, fun j _ => pkL_bit w sz ev n g j, hx5⟩, ⟨rfl, rfl, rfl, rfl, hfg, hbl9, (fun j hj => by have hj9 : j < bm29 := (by rw [hbl9]; exact hj); show upT bf29 b k j = _; rw [upT_in (by omega)]; exact q3 j hj9), rfl, rfl, rfl⟩, hi0, hi1, hk0, hk1, hk4⟩⟩) rfl
  · refine j_aload_n C dX9_tape_14 1 rfl 15 rfl ?_
    refine j_get C dX9_tape_15 0 0 2 inX9_tape_9 rfl rfl (by decide) rfl rfl rfl 18 rfl ?_
    refine j_bipush C dX9_tape_18 (nI 64) (by decide) 20 rfl ?_
    refine j_iload_n C dX9_tape_20 0 rfl 21 rfl ?_
    refine j_iadd C dX9_tape_21 (nI (64 + k)) (nI_add 64 k) 22 rfl ?_
    refine j_aload_n C dX9_tape_22 1 rfl 23 rfl ?_
    refine j_get C dX9_tape_23 0 4 3 inX9_tape_9 rfl rfl (by decide) rfl rfl rfl 26 rfl ?_
    refine j_iload_n C dX9_tape_26 0 rfl 27 rfl ?_
    refine j_iald C dX9_tape_27 5 rfl (by omega) (Nat.le_of_ble_eq_true rfl) 28 rfl ?_
    refine j_iastI C dX9_tape_28 1 rfl (by omega) (Nat.le_of_ble_eq_true rfl) (stA w sz ev n f L (va_up (upT bf29 b k) k (bf29 k)) x y z) (stA_upt (by omega)) [(am 0, .inr (9, [.ref (am 1), .ref (am 2), .ref (am 3), .ref (am 4), .ref (am 5), .int (nI bm29), .ref (am 6), .ref (am 7), .int (nI ap), .int (nI wr), .int (nI wa), .int (nI go)])), (am 1, .inl (cI, 1072, .inl (stA w sz ev n f L (va_up (upT bf29 b k) k (bf29 k)) x y z))), (am 2, .inl (cI, 2144, .inl im)), (am 3, .inl (cZ, 2, .inl kf)), (am 4, .inl (cI, 64, .inl (aN (upT f rf n)))), (am 5, .inl (cI, 1000, .inl (aN bf29))), (am 6, .inl (cI, 65, .inl (aN lf29))), (am 7, .inl (cI, 64, .inl (aN hf29)))] rfl 29 rfl ?_
    refine j_iinc C dX9_tape_29 0 rfl (nI (k + 1)) (nI_1 (k)) [(1, .int (nI (k + 1))), (0, .ref (am 0))] (by decide) rfl 32 rfl ?_
    refine j_goto C dX9_tape_32 6 (by decide) ?_
    refine j_world [(am 0, .inr (9, [.ref (am 1), .ref (am 2), .ref (am 3), .ref (am 4), .ref (am 5), .int (nI bm29), .ref (am 6), .ref (am 7), .int (nI ap), .int (nI wr), .int (nI wa), .int (nI go)])), (am 1, .inl (cI, 1072, .inl (stA w sz ev n f L (upT bf29 b (k + 1)) x y z))), (am 2, .inl (cI, 2144, .inl im)), (am 3, .inl (cZ, 2, .inl kf)), (am 4, .inl (cI, 64, .inl (aN (upT f rf n)))), (am 5, .inl (cI, 1000, .inl (aN bf29))), (am 6, .inl (cI, 65, .inl (aN lf29))), (am 7, .inl (cI, 64, .inl (aN hf29)))] (by rw [upT_s]) ?_
    exact ih6 (k + 1) (by omega) (by omega)
