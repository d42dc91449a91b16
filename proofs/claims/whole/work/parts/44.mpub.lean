set_option maxHeartbeats 4000000 in
set_option maxRecDepth 100000 in
theorem k_X9_read (l : Launch) (D : va_G) (cI cZ cH : ClassId) (am : Nat → Nat) (A : AT) (Y : MT) (hR : MRel A Y) (v : Int32) : Mi l D cI cZ cH yX9_read wsX9_read 5 120 [.ref (am 0), .int v] (wM cI cZ am Y) (fun (r9 : Int32) (Y9 : MT) => r9 = (opRead A v).1 ∧ MRel (opRead A v).2 Y9) (wM cI cZ am) := by
  obtain ⟨⟨w, sz, ev, n, f, L, b, x, y, z⟩, im, kf, rf, bf, bm, lf, hf, ap, wr, wa, go⟩ := Y
  obtain ⟨⟨w2, sz2, ev2, n2, g, L2, t, x2, y2, z2⟩, b0, b1, kp⟩ := A
  have hR0 := hR
  obtain ⟨⟨hw, hsz, hev, hn, hg, hL, ht, hx5⟩, ⟨e1, e2, e3, e4, hfg, e6, hbt, e8, e9, e10⟩, hi0, hi1, hk0, hk1, hk4⟩ := hR
  dsimp only at hw hsz hev hn hg hL ht hx5 e1 e2 e3 e4 hfg e6 hbt e8 e9 e10 hi0 hi1 hk0 hk1 hk4
  subst e1 e2 e3 e4 e6 e8 e9 e10
  have hnb : nbk sz n ≤ 64 := nbk_le hsz.1 hn
  have ht255 := tpW_le hw.2
  refine Mi.start (cc := cX9_read) (nL := 3) (ret := (some .int)) (lv0 := [(0, .ref (am 0)), (1, .int v)]) (by decide) rfl (Nat.le_of_ble_eq_true rfl) rfl ?_
  intro pX eX sX mX bX methX cX AX C
  show J D AX pX l eX _ sX mX _ bX methX cX 0 0 _ 3 [(am 0, .inr (9, [.ref (am 1), .ref (am 2), .ref (am 3), .ref (am 4), .ref (am 5), .int (nI bm), .ref (am 6), .ref (am 7), .int (nI ap), .int (nI wr), .int (nI wa), .int (nI go)])), (am 1, .inl (cI, 1072, .inl (stA w sz ev n f L b x y z))), (am 2, .inl (cI, 2144, .inl im)), (am 3, .inl (cZ, 2, .inl kf)), (am 4, .inl (cI, 64, .inl (aN rf))), (am 5, .inl (cI, 1000, .inl (aN bf))), (am 6, .inl (cI, 65, .inl (aN lf))), (am 7, .inl (cI, 64, .inl (aN hf)))] [(0, .ref (am 0)), (1, .int v)] 0 []
  refine j_iload_n C dX9_read_0 1 rfl 1 rfl ?_
  refine j_iconst C dX9_read_1 (nI 0) (by decide) 2 rfl ?_
  refine j_bipush C dX9_read_2 (nI 64) (by decide) 4 rfl ?_
  refine j_callSi1 (As := [.int v, .int (nI 0), .int (nI 64)]) (rest := []) (wr := [(am 0, .inr (9, [.ref (am 1), .ref (am 2), .ref (am 3), .ref (am 4), .ref (am 5), .int (nI bm), .ref (am 6), .ref (am 7), .int (nI ap), .int (nI wr), .int (nI wa), .int (nI go)])), (am 1, .inl (cI, 1072, .inl (stA w sz ev n f L b x y z))), (am 2, .inl (cI, 2144, .inl im)), (am 3, .inl (cZ, 2, .inl kf)), (am 4, .inl (cI, 64, .inl (aN rf))), (am 5, .inl (cI, 1000, .inl (aN bf))), (am 6, .inl (cI, 65, .inl (aN lf))), (am 7, .inl (cI, 64, .inl (aN hf)))]) C (c_X9_in l D cI cZ cH v (nI 0) (nI 64) ((v).toInt) (((0 : Nat) : Int)) (((64 : Nat) : Int)) rfl (q_t (n := 0) (Nat.le_of_ble_eq_true rfl)) (q_t (n := 64) (Nat.le_of_ble_eq_true rfl))) gX9_read_X9_in dX9_read_4 rfl yd_X9_in.2 (Nat.le_of_ble_eq_true rfl) (Nat.le_of_ble_eq_true rfl) rfl _ rfl (Nat.le_of_ble_eq_true rfl) (Nat.zero_le _) (Nat.zero_le _) [] [0, 1, 2, 3, 4, 5, 6, 7] rfl rfl rfl rfl rfl (by decide) [0, 1, 2, 3, 4, 5, 6, 7] [(am 0, .inr (9, [.ref (am 1), .ref (am 2), .ref (am 3), .ref (am 4), .ref (am 5), .int (nI bm), .ref (am 6), .ref (am 7), .int (nI ap), .int (nI wr), .int (nI wa), .int (nI go)])), (am 1, .inl (cI, 1072, .inl (stA w sz ev n f L b x y z))), (am 2, .inl (cI, 2144, .inl im)), (am 3, .inl (cZ, 2, .inl kf)), (am 4, .inl (cI, 64, .inl (aN rf))), (am 5, .inl (cI, 1000, .inl (aN bf))), (am 6, .inl (cI, 65, .inl (aN lf))), (am 7, .inl (cI, 64, .inl (aN hf)))] rfl rfl rfl 7 rfl ?_
  refine j_ifb_ne C dX9_read_7 13 (by decide) 10 rfl (fun h7 => ?_) (fun h7 => ?_)
  · refine j_lveq [(0, .ref (am 0)), (1, .int (nI (v.toInt.toNat)))] (by rw [← q_nn (i := v) (by omega)]) ?_
    have hgF := rdF_good (ev := ev) (n := v.toInt.toNat) hw.1 hsz.1 ht
    have hnv := nbk_le (n := v.toInt.toNat) hsz.1 (by omega)
    refine j_aload_n C dX9_read_13 0 rfl 14 rfl ?_
    refine j_iconst C dX9_read_14 (nI 0) (by decide) 15 rfl ?_
    refine j_put C dX9_read_15 0 8 1 inX9_read_9 tyX9 tyX9_ok nmX9 rfl rfl (by decide) rfl rfl rfl rfl rfl (Nat.le_of_ble_eq_true rfl) [(am 0, .inr (9, [.ref (am 1), .ref (am 2), .ref (am 3), .ref (am 4), .ref (am 5), .int (nI bm), .ref (am 6), .ref (am 7), .int (nI 0), .int (nI wr), .int (nI wa), .int (nI go)])), (am 1, .inl (cI, 1072, .inl (stA w sz ev n f L b x y z))), (am 2, .inl (cI, 2144, .inl im)), (am 3, .inl (cZ, 2, .inl kf)), (am 4, .inl (cI, 64, .inl (aN rf))), (am 5, .inl (cI, 1000, .inl (aN bf))), (am 6, .inl (cI, 65, .inl (aN lf))), (am 7, .inl (cI, 64, .inl (aN hf)))] rfl 18 rfl ?_
    refine j_aload_n C dX9_read_18 0 rfl 19 rfl ?_
    refine j_iconst C dX9_read_19 (nI 0) (by decide) 20 rfl ?_
    refine j_put C dX9_read_20 0 9 2 inX9_read_9 tyX9 tyX9_ok nmX9 rfl rfl (by decide) rfl rfl rfl rfl rfl (Nat.le_of_ble_eq_true rfl) [(am 0, .inr (9, [.ref (am 1), .ref (am 2), .ref (am 3), .ref (am 4), .ref (am 5), .int (nI bm), .ref (am 6), .ref (am 7), .int (nI 0), .int (nI 0), .int (nI wa), .int (nI go)])), (am 1, .inl (cI, 1072, .inl (stA w sz ev n f L b x y z))), (am 2, .inl (cI, 2144, .inl im)), (am 3, .inl (cZ, 2, .inl kf)), (am 4, .inl (cI, 64, .inl (aN rf))), (am 5, .inl (cI, 1000, .inl (aN bf))), (am 6, .inl (cI, 65, .inl (aN lf))), (am 7, .inl (cI, 64, .inl (aN hf)))] rfl 23 rfl ?_
    refine j_aload_n C dX9_read_23 0 rfl 24 rfl ?_
    refine j_iconst C dX9_read_24 (nI 0) (by decide) 25 rfl ?_
    refine j_put C dX9_read_25 0 11 3 inX9_read_9 tyX9 tyX9_ok nmX9 rfl rfl (by decide) rfl rfl rfl rfl rfl (Nat.le_of_ble_eq_true rfl) [(am 0, .inr (9, [.ref (am 1), .ref (am 2), .ref (am 3), .ref (am 4), .ref (am 5), .int (nI bm), .ref (am 6), .ref (am 7), .int (nI 0), .int (nI 0), .int (nI wa), .int (nI 0)])), (am 1, .inl (cI, 1072, .inl (stA w sz ev n f L b x y z))), (am 2, .inl (cI, 2144, .inl im)), (am 3, .inl (cZ, 2, .inl kf)), (am 4, .inl (cI, 64, .inl (aN rf))), (am 5, .inl (cI, 1000, .inl (aN bf))), (am 6, .inl (cI, 65, .inl (aN lf))), (am 7, .inl (cI, 64, .inl (aN hf)))] rfl 28 rfl ?_
    refine j_iconst C dX9_read_28 (nI 0) (by decide) 29 rfl ?_
    refine j_istore_n C dX9_read_29 [(2, .int (nI 0)), (0, .ref (am 0)), (1, .int (nI (v.toInt.toNat)))] (by decide) rfl 30 rfl ?_
    refine j_loop6 (fun (bk : Nat) (ap1 : Nat) (rf1 : Nat → Nat) (wr1 : Nat) (wa1 : Nat) (go1 : Nat) => bk ≤ (v.toInt.toNat + sz - 1) / sz ∧ wr1 = (rA t L w sz ev v.toInt.toNat (bk)).1 ∧ go1 = (rA t L w sz ev v.toInt.toNat (bk)).2.2.2.2 ∧ (∀ j, j < go1 → rf1 j = (rA t L w sz ev v.toInt.toNat (bk)).2.2.2.1 j) ∧ ((rA t L w sz ev v.toInt.toNat (bk)).1 = 0 → ap1 = (rA t L w sz ev v.toInt.toNat (bk)).2.2.1) ∧ (¬ (rA t L w sz ev v.toInt.toNat (bk)).1 = 0 → wa1 = (rA t L w sz ev v.toInt.toNat (bk)).2.1)) (fun (bk : Nat) (ap1 : Nat) (rf1 : Nat → Nat) (wr1 : Nat) (wa1 : Nat) (go1 : Nat) => (v.toInt.toNat + sz - 1) / sz - bk) (fun (bk : Nat) (ap1 : Nat) (rf1 : Nat → Nat) (wr1 : Nat) (wa1 : Nat) (go1 : Nat) => [(am 0, .inr (9, [.ref (am 1), .ref (am 2), .ref (am 3), .ref (am 4), .ref (am 5), .int (nI bm), .ref (am 6), .ref (am 7), .int (nI ap1), .int (nI wr1), .int (nI wa1), .int (nI go1)])), (am 1, .inl (cI, 1072, .inl (stA w sz ev n f L b x y z))), (am 2, .inl (cI, 2144, .inl im)), (am 3, .inl (cZ, 2, .inl kf)), (am 4, .inl (cI, 64, .inl (aN rf1))), (am 5, .inl (cI, 1000, .inl (aN bf))), (am 6, .inl (cI, 65, .inl (aN lf))), (am 7, .inl (cI, 64, .inl (aN hf)))]) (fun (bk : Nat) (ap1 : Nat) (rf1 : Nat → Nat) (wr1 : Nat) (wa1 : Nat) (go1 : Nat) => [(2, .int (nI (bk * sz))), (0, .ref (am 0)), (1, .int (nI (v.toInt.toNat)))]) ?_ 0 0 rf 0 wa 0 ⟨Nat.zero_le _, rfl, rfl, fun j hj => absurd hj (Nat.not_lt_zero j), fun _ => rfl, fun h => absurd rfl h⟩ rfl (by rw [Nat.zero_mul])
    intro bk ap1 rf1 wr1 wa1 go1 hI30 ih30
    obtain ⟨hb, e1, e2, e3, e4, e5⟩ := hI30
    show J D AX pX l eX _ sX mX _ bX methX cX 0 0 _ 3 [(am 0, .inr (9, [.ref (am 1), .ref (am 2), .ref (am 3), .ref (am 4), .ref (am 5), .int (nI bm), .ref (am 6), .ref (am 7), .int (nI ap1), .int (nI wr1), .int (nI wa1), .int (nI go1)])), (am 1, .inl (cI, 1072, .inl (stA w sz ev n f L b x y z))), (am 2, .inl (cI, 2144, .inl im)), (am 3, .inl (cZ, 2, .inl kf)), (am 4, .inl (cI, 64, .inl (aN rf1))), (am 5, .inl (cI, 1000, .inl (aN bf))), (am 6, .inl (cI, 65, .inl (aN lf))), (am 7, .inl (cI, 64, .inl (aN hf)))] [(2, .int (nI (bk * sz))), (0, .ref (am 0)), (1, .int (nI (v.toInt.toNat)))] 30 []
    have hgd := rA_good (ev := ev) hw.1 hsz.1 ht hb
    have hx4 := hgd.1.2.2.2.1
    have hil := hgd.2.2
    have hb64 : bk ≤ 64 := Nat.le_trans hb hnv
    have hbsz := mulB hb64 hsz.2
    refine j_iload_n C dX9_read_30 0 rfl 31 rfl ?_
    refine j_iload_n C dX9_read_31 2 rfl 32 rfl ?_
    refine j_icmp_ge C dX9_read_32 75 (by decide) (q_t (by omega)) (q_t (by omega)) 35 rfl (fun h32 => ?_) (fun h32 => ?_)
    · have hAn : rA t L w sz ev v.toInt.toNat ((v.toInt.toNat + sz - 1) / sz) = rA t L w sz ev v.toInt.toNat (bk) := by
          have h9 : (v.toInt.toNat + sz - 1) / sz = bk := by
            rcases Nat.lt_or_ge bk ((v.toInt.toNat + sz - 1) / sz) with h8 | h8
            · have h7 := (blk_lt hsz.1).mp h8; omega
            · omega
          rw [h9]
      have hAn2 : rA t L w sz ev v.toInt.toNat ((v.toInt.toNat + sz - 1) / sz) = rA t L w sz ev v.toInt.toNat (bk) := by first | exact hAn | exact rA_stay (by omega) hb
      refine j_aload_n C dX9_read_75 1 rfl 76 rfl ?_
      refine j_get C dX9_read_76 0 9 2 inX9_read_9 rfl rfl (by decide) rfl rfl rfl 79 rfl ?_
      refine j_if_ne C dX9_read_79 106 (by decide) (q_t (by omega)) 82 rfl (fun h79 => ?_) (fun h79 => ?_)
      · have hF9 : rdF t L w sz ev v.toInt.toNat = rA t L w sz ev v.toInt.toNat (bk) := by rw [show rdF t L w sz ev v.toInt.toNat = _ from if_neg (by rw [hAn2]; first | (intro h9; have h8 := h9.1; omega) | (intro h9; have h8 := h9.2; omega)), hAn2]
        refine j_aload_n C dX9_read_106 1 rfl 107 rfl ?_
        refine j_get C dX9_read_107 0 0 4 inX9_read_9 rfl rfl (by decide) rfl rfl rfl 110 rfl ?_
        refine j_sipush C dX9_read_110 (nI 1069) (by decide) 113 rfl ?_
        refine j_aload_n C dX9_read_113 1 rfl 114 rfl ?_
        refine j_get C dX9_read_114 0 9 2 inX9_read_9 rfl rfl (by decide) rfl rfl rfl 117 rfl ?_
        refine j_iastI C dX9_read_117 1 rfl (Nat.le_of_ble_eq_true rfl) (Nat.le_of_ble_eq_true rfl) (stA w sz ev n f L b wr1 y z) (stA_up1069 ..) [(am 0, .inr (9, [.ref (am 1), .ref (am 2), .ref (am 3), .ref (am 4), .ref (am 5), .int (nI bm), .ref (am 6), .ref (am 7), .int (nI ap1), .int (nI wr1), .int (nI wa1), .int (nI go1)])), (am 1, .inl (cI, 1072, .inl (stA w sz ev n f L b wr1 y z))), (am 2, .inl (cI, 2144, .inl im)), (am 3, .inl (cZ, 2, .inl kf)), (am 4, .inl (cI, 64, .inl (aN rf1))), (am 5, .inl (cI, 1000, .inl (aN bf))), (am 6, .inl (cI, 65, .inl (aN lf))), (am 7, .inl (cI, 64, .inl (aN hf)))] rfl 118 rfl ?_
        refine j_aload_n C dX9_read_118 1 rfl 119 rfl ?_
        refine j_get C dX9_read_119 0 0 4 inX9_read_9 rfl rfl (by decide) rfl rfl rfl 122 rfl ?_
        refine j_sipush C dX9_read_122 (nI 1070) (by decide) 125 rfl ?_
        refine j_aload_n C dX9_read_125 1 rfl 126 rfl ?_
        refine j_get C dX9_read_126 0 9 2 inX9_read_9 rfl rfl (by decide) rfl rfl rfl 129 rfl ?_
        refine j_if_ne C dX9_read_129 137 (by decide) (q_t (by omega)) 132 rfl (fun h129 => ?_) (fun h9 => by exfalso; omega)
        refine j_aload_n C dX9_read_137 1 rfl 138 rfl ?_
        refine j_get C dX9_read_138 0 10 5 inX9_read_9 rfl rfl (by decide) rfl rfl rfl 141 rfl ?_
        refine j_iastI C dX9_read_141 1 rfl (Nat.le_of_ble_eq_true rfl) (Nat.le_of_ble_eq_true rfl) (stA w sz ev n f L b wr1 (nI wa1) z) (stA_up1070 ..) [(am 0, .inr (9, [.ref (am 1), .ref (am 2), .ref (am 3), .ref (am 4), .ref (am 5), .int (nI bm), .ref (am 6), .ref (am 7), .int (nI ap1), .int (nI wr1), .int (nI wa1), .int (nI go1)])), (am 1, .inl (cI, 1072, .inl (stA w sz ev n f L b wr1 (nI wa1) z))), (am 2, .inl (cI, 2144, .inl im)), (am 3, .inl (cZ, 2, .inl kf)), (am 4, .inl (cI, 64, .inl (aN rf1))), (am 5, .inl (cI, 1000, .inl (aN bf))), (am 6, .inl (cI, 65, .inl (aN lf))), (am 7, .inl (cI, 64, .inl (aN hf)))] rfl 142 rfl ?_
        refine j_aload_n C dX9_read_142 1 rfl 143 rfl ?_
        refine j_get C dX9_read_143 0 0 4 inX9_read_9 rfl rfl (by decide) rfl rfl rfl 146 rfl ?_
        refine j_sipush C dX9_read_146 (nI 1071) (by decide) 149 rfl ?_
        refine j_aload_n C dX9_read_149 1 rfl 150 rfl ?_
        refine j_get C dX9_read_150 0 9 2 inX9_read_9 rfl rfl (by decide) rfl rfl rfl 153 rfl ?_
        refine j_if_ne C dX9_read_153 161 (by decide) (q_t (by omega)) 156 rfl (fun h153 => ?_) (fun h9 => by exfalso; omega)
        refine j_aload_n C dX9_read_161 1 rfl 162 rfl ?_
        refine j_get C dX9_read_162 0 11 3 inX9_read_9 rfl rfl (by decide) rfl rfl rfl 165 rfl ?_
        refine j_iastI C dX9_read_165 1 rfl (Nat.le_of_ble_eq_true rfl) (Nat.le_of_ble_eq_true rfl) (stA w sz ev n f L b wr1 (nI wa1) (nI go1)) (stA_up1071 ..) [(am 0, .inr (9, [.ref (am 1), .ref (am 2), .ref (am 3), .ref (am 4), .ref (am 5), .int (nI bm), .ref (am 6), .ref (am 7), .int (nI ap1), .int (nI wr1), .int (nI wa1), .int (nI go1)])), (am 1, .inl (cI, 1072, .inl (stA w sz ev n f L b wr1 (nI wa1) (nI go1)))), (am 2, .inl (cI, 2144, .inl im)), (am 3, .inl (cZ, 2, .inl kf)), (am 4, .inl (cI, 64, .inl (aN rf1))), (am 5, .inl (cI, 1000, .inl (aN bf))), (am 6, .inl (cI, 65, .inl (aN lf))), (am 7, .inl (cI, 64, .inl (aN hf)))] rfl 166 rfl ?_
        refine j_aload_n C dX9_read_166 1 rfl 167 rfl ?_
        refine j_get C dX9_read_167 0 9 2 inX9_read_9 rfl rfl (by decide) rfl rfl rfl 170 rfl ?_
        refine j_if_le C dX9_read_170 176 (by decide) (q_t (by omega)) 173 rfl (fun h9 => by exfalso; omega) (fun h170 => ?_)
        refine j_bipush C dX9_read_173 (-7) (by decide) 175 rfl ?_
        exact j_iret C dX9_read_175 ((w, sz, ev, n, f, L, b, wr1, nI wa1, nI go1), im, kf, rf1, bf, bm, lf, hf, ap1, wr1, wa1, go1) (by rw [show opRead ((w, sz, ev, n, g, L, t, x, y, z), b0, b1, kp) v = (-7, ((w, sz, ev, n, g, L, t, (rdF t L w sz ev v.toInt.toNat).1, nI (rdF t L w sz ev v.toInt.toNat).2.1, nI (rdF t L w sz ev v.toInt.toNat).2.2.2.2), b0, b1, kp)) from (by simp only [opRead]; rw [if_neg (by omega), if_neg (by rw [hF9]; first | omega | simp)])]; exact ⟨rfl, ⟨⟨hw, hsz, hev, hn, hg, hL, ht, hgF.1⟩, ⟨rfl, rfl, rfl, rfl, hfg, rfl, hbt, (by rw [hF9]; exact e1), (by rw [hF9, ← e5 (by omega)]), (by rw [hF9, ← e2])⟩, hi0, hi1, hk0, hk1, hk4⟩⟩) rfl
      · have hq9 := e4 (by omega)
        have hql := hgd.1.1
        refine j_aload_n C dX9_read_82 1 rfl 83 rfl ?_
        refine j_get C dX9_read_83 0 8 1 inX9_read_9 rfl rfl (by decide) rfl rfl rfl 86 rfl ?_
        refine j_aload_n C dX9_read_86 1 rfl 87 rfl ?_
        refine j_get C dX9_read_87 0 0 4 inX9_read_9 rfl rfl (by decide) rfl rfl rfl 90 rfl ?_
        refine j_sipush C dX9_read_90 (nI 1065) (by decide) 93 rfl ?_
        refine j_ialdI C dX9_read_93 1 rfl (Nat.le_of_ble_eq_true rfl) (Nat.le_of_ble_eq_true rfl) (nI L) rfl 94 rfl ?_
        refine j_icmp_ge C dX9_read_94 106 (by decide) (q_t (by omega)) (q_t (by omega)) 97 rfl (fun h94 => ?_) (fun h94 => ?_)
        · have hF9 : rdF t L w sz ev v.toInt.toNat = rA t L w sz ev v.toInt.toNat (bk) := by rw [show rdF t L w sz ev v.toInt.toNat = _ from if_neg (by rw [hAn2]; first | (intro h9; have h8 := h9.1; omega) | (intro h9; have h8 := h9.2; omega)), hAn2]
          have hgo : go1 = v.toInt.toNat := by rw [e2, ← hF9]; exact hgF.2.2.1 (by rw [hF9]; omega)
          refine j_aload_n C dX9_read_106 1 rfl 107 rfl ?_
          refine j_get C dX9_read_107 0 0 4 inX9_read_9 rfl rfl (by decide) rfl rfl rfl 110 rfl ?_
          refine j_sipush C dX9_read_110 (nI 1069) (by decide) 113 rfl ?_
          refine j_aload_n C dX9_read_113 1 rfl 114 rfl ?_
          refine j_get C dX9_read_114 0 9 2 inX9_read_9 rfl rfl (by decide) rfl rfl rfl 117 rfl ?_
          refine j_iastI C dX9_read_117 1 rfl (Nat.le_of_ble_eq_true rfl) (Nat.le_of_ble_eq_true rfl) (stA w sz ev n f L b wr1 y z) (stA_up1069 ..) [(am 0, .inr (9, [.ref (am 1), .ref (am 2), .ref (am 3), .ref (am 4), .ref (am 5), .int (nI bm), .ref (am 6), .ref (am 7), .int (nI ap1), .int (nI wr1), .int (nI wa1), .int (nI go1)])), (am 1, .inl (cI, 1072, .inl (stA w sz ev n f L b wr1 y z))), (am 2, .inl (cI, 2144, .inl im)), (am 3, .inl (cZ, 2, .inl kf)), (am 4, .inl (cI, 64, .inl (aN rf1))), (am 5, .inl (cI, 1000, .inl (aN bf))), (am 6, .inl (cI, 65, .inl (aN lf))), (am 7, .inl (cI, 64, .inl (aN hf)))] rfl 118 rfl ?_
          refine j_aload_n C dX9_read_118 1 rfl 119 rfl ?_
          refine j_get C dX9_read_119 0 0 4 inX9_read_9 rfl rfl (by decide) rfl rfl rfl 122 rfl ?_
          refine j_sipush C dX9_read_122 (nI 1070) (by decide) 125 rfl ?_
          refine j_aload_n C dX9_read_125 1 rfl 126 rfl ?_
          refine j_get C dX9_read_126 0 9 2 inX9_read_9 rfl rfl (by decide) rfl rfl rfl 129 rfl ?_
          refine j_if_ne C dX9_read_129 137 (by decide) (q_t (by omega)) 132 rfl (fun h9 => by exfalso; omega) (fun h129 => ?_)
          refine j_bipush C dX9_read_132 (-6) (by decide) 134 rfl ?_
          refine j_goto C dX9_read_134 141 (by decide) ?_
          refine j_iastI C dX9_read_141 1 rfl (Nat.le_of_ble_eq_true rfl) (Nat.le_of_ble_eq_true rfl) (stA w sz ev n f L b wr1 (-6) z) (stA_up1070 ..) [(am 0, .inr (9, [.ref (am 1), .ref (am 2), .ref (am 3), .ref (am 4), .ref (am 5), .int (nI bm), .ref (am 6), .ref (am 7), .int (nI ap1), .int (nI wr1), .int (nI wa1), .int (nI go1)])), (am 1, .inl (cI, 1072, .inl (stA w sz ev n f L b wr1 (-6) z))), (am 2, .inl (cI, 2144, .inl im)), (am 3, .inl (cZ, 2, .inl kf)), (am 4, .inl (cI, 64, .inl (aN rf1))), (am 5, .inl (cI, 1000, .inl (aN bf))), (am 6, .inl (cI, 65, .inl (aN lf))), (am 7, .inl (cI, 64, .inl (aN hf)))] rfl 142 rfl ?_
          refine j_aload_n C dX9_read_142 1 rfl 143 rfl ?_
          refine j_get C dX9_read_143 0 0 4 inX9_read_9 rfl rfl (by decide) rfl rfl rfl 146 rfl ?_
          refine j_sipush C dX9_read_146 (nI 1071) (by decide) 149 rfl ?_
          refine j_aload_n C dX9_read_149 1 rfl 150 rfl ?_
          refine j_get C dX9_read_150 0 9 2 inX9_read_9 rfl rfl (by decide) rfl rfl rfl 153 rfl ?_
          refine j_if_ne C dX9_read_153 161 (by decide) (q_t (by omega)) 156 rfl (fun h9 => by exfalso; omega) (fun h153 => ?_)
          refine j_bipush C dX9_read_156 (-6) (by decide) 158 rfl ?_
          refine j_goto C dX9_read_158 165 (by decide) ?_
          refine j_iastI C dX9_read_165 1 rfl (Nat.le_of_ble_eq_true rfl) (Nat.le_of_ble_eq_true rfl) (stA w sz ev n f L b wr1 (-6) (-6)) (stA_up1071 ..) [(am 0, .inr (9, [.ref (am 1), .ref (am 2), .ref (am 3), .ref (am 4), .ref (am 5), .int (nI bm), .ref (am 6), .ref (am 7), .int (nI ap1), .int (nI wr1), .int (nI wa1), .int (nI go1)])), (am 1, .inl (cI, 1072, .inl (stA w sz ev n f L b wr1 (-6) (-6)))), (am 2, .inl (cI, 2144, .inl im)), (am 3, .inl (cZ, 2, .inl kf)), (am 4, .inl (cI, 64, .inl (aN rf1))), (am 5, .inl (cI, 1000, .inl (aN bf))), (am 6, .inl (cI, 65, .inl (aN lf))), (am 7, .inl (cI, 64, .inl (aN hf)))] rfl 166 rfl ?_
          refine j_aload_n C dX9_read_166 1 rfl 167 rfl ?_
          refine j_get C dX9_read_167 0 9 2 inX9_read_9 rfl rfl (by decide) rfl rfl rfl 170 rfl ?_
          refine j_if_le C dX9_read_170 176 (by decide) (q_t (by omega)) 173 rfl (fun h170 => ?_) (fun h9 => by exfalso; omega)
          refine j_iconst C dX9_read_176 (nI 0) (by decide) 177 rfl ?_
          refine j_istore_n C dX9_read_177 [(2, .int (nI 0)), (0, .ref (am 0)), (1, .int (nI (v.toInt.toNat)))] (by decide) rfl 178 rfl ?_
          refine j_loop1 (fun (i : Nat) => i ≤ v.toInt.toNat) (fun (i : Nat) => v.toInt.toNat - i) (fun (i : Nat) => [(am 0, .inr (9, [.ref (am 1), .ref (am 2), .ref (am 3), .ref (am 4), .ref (am 5), .int (nI bm), .ref (am 6), .ref (am 7), .int (nI ap1), .int (nI wr1), .int (nI wa1), .int (nI go1)])), (am 1, .inl (cI, 1072, .inl (stA w sz ev n (upT rf1 f i) L b wr1 (-6) (-6)))), (am 2, .inl (cI, 2144, .inl im)), (am 3, .inl (cZ, 2, .inl kf)), (am 4, .inl (cI, 64, .inl (aN rf1))), (am 5, .inl (cI, 1000, .inl (aN bf))), (am 6, .inl (cI, 65, .inl (aN lf))), (am 7, .inl (cI, 64, .inl (aN hf)))]) (fun (i : Nat) => [(2, .int (nI i)), (0, .ref (am 0)), (1, .int (nI (v.toInt.toNat)))]) ?_ 0 (Nat.zero_le _) (by rw [upT_0]) rfl
          intro i hI178 ih178
          have hi9 : i ≤ v.toInt.toNat := hI178
          show J D AX pX l eX _ sX mX _ bX methX cX 0 0 _ 3 [(am 0, .inr (9, [.ref (am 1), .ref (am 2), .ref (am 3), .ref (am 4), .ref (am 5), .int (nI bm), .ref (am 6), .ref (am 7), .int (nI ap1), .int (nI wr1), .int (nI wa1), .int (nI go1)])), (am 1, .inl (cI, 1072, .inl (stA w sz ev n (upT rf1 f i) L b wr1 (-6) (-6)))), (am 2, .inl (cI, 2144, .inl im)), (am 3, .inl (cZ, 2, .inl kf)), (am 4, .inl (cI, 64, .inl (aN rf1))), (am 5, .inl (cI, 1000, .inl (aN bf))), (am 6, .inl (cI, 65, .inl (aN lf))), (am 7, .inl (cI, 64, .inl (aN hf)))] [(2, .int (nI i)), (0, .ref (am 0)), (1, .int (nI (v.toInt.toNat)))] 178 []
          refine j_iload_n C dX9_read_178 0 rfl 179 rfl ?_
          refine j_iload_n C dX9_read_179 2 rfl 180 rfl ?_
          refine j_icmp_ge C dX9_read_180 201 (by decide) (q_t (by omega)) (q_t (by omega)) 183 rfl (fun h180 => ?_) (fun h180 => ?_)
          · refine j_aload_n C dX9_read_201 1 rfl 202 rfl ?_
            refine j_get C dX9_read_202 0 0 4 inX9_read_9 rfl rfl (by decide) rfl rfl rfl 205 rfl ?_
            refine j_sipush C dX9_read_205 (nI 1064) (by decide) 208 rfl ?_
            refine j_iload_n C dX9_read_208 2 rfl 209 rfl ?_
            refine j_iastI C dX9_read_209 1 rfl (Nat.le_of_ble_eq_true rfl) (Nat.le_of_ble_eq_true rfl) (stA w sz ev (v.toInt.toNat) (upT rf1 f i) L b wr1 (-6) (-6)) (stA_up1064 ..) [(am 0, .inr (9, [.ref (am 1), .ref (am 2), .ref (am 3), .ref (am 4), .ref (am 5), .int (nI bm), .ref (am 6), .ref (am 7), .int (nI ap1), .int (nI wr1), .int (nI wa1), .int (nI go1)])), (am 1, .inl (cI, 1072, .inl (stA w sz ev (v.toInt.toNat) (upT rf1 f i) L b wr1 (-6) (-6)))), (am 2, .inl (cI, 2144, .inl im)), (am 3, .inl (cZ, 2, .inl kf)), (am 4, .inl (cI, 64, .inl (aN rf1))), (am 5, .inl (cI, 1000, .inl (aN bf))), (am 6, .inl (cI, 65, .inl (aN lf))), (am 7, .inl (cI, 64, .inl (aN hf)))] rfl 210 rfl ?_
            refine j_iload_n C dX9_read_210 2 rfl 211 rfl ?_
            exact j_iret C dX9_read_211 ((w, sz, ev, v.toInt.toNat, upT rf1 f i, L, b, wr1, -6, -6), im, kf, rf1, bf, bm, lf, hf, ap1, wr1, wa1, go1) (by rw [show opRead ((w, sz, ev, n, g, L, t, x, y, z), b0, b1, kp) v = (nI (v.toInt.toNat), ((w, sz, ev, v.toInt.toNat, (rdF t L w sz ev v.toInt.toNat).2.2.2.1, L, t, 0, -6, -6), b0, b1, kp)) from (by simp only [opRead]; rw [if_neg (by omega), if_pos (by rw [hF9]; omega)])]; exact ⟨rfl, ⟨⟨hw, hsz, hev, by show v.toInt.toNat ≤ 64; omega, (fun j hj => hgF.2.1 j (by rw [hgF.2.2.1 (by rw [hF9]; omega)]; exact hj)), hL, ht, by show 0 < 5; omega⟩, ⟨rfl, rfl, rfl, rfl, (fun j hj => by have hj9 : j < v.toInt.toNat := hj; show upT rf1 f i j = _; rw [upT_in (by omega), hF9]; exact e3 j (by omega)), rfl, hbt, (show wr1 = 0 by omega), rfl, rfl⟩, hi0, hi1, hk0, hk1, hk4⟩⟩) rfl
          · refine j_aload_n C dX9_read_183 1 rfl 184 rfl ?_
            refine j_get C dX9_read_184 0 0 4 inX9_read_9 rfl rfl (by decide) rfl rfl rfl 187 rfl ?_
            refine j_iload_n C dX9_read_187 0 rfl 188 rfl ?_
            refine j_aload_n C dX9_read_188 1 rfl 189 rfl ?_
            refine j_get C dX9_read_189 0 3 6 inX9_read_9 rfl rfl (by decide) rfl rfl rfl 192 rfl ?_
            refine j_iload_n C dX9_read_192 0 rfl 193 rfl ?_
            refine j_iald C dX9_read_193 4 rfl (by omega) (Nat.le_of_ble_eq_true rfl) 194 rfl ?_
            refine j_iastI C dX9_read_194 1 rfl (by omega) (Nat.le_of_ble_eq_true rfl) (stA w sz ev n (va_up (upT rf1 f i) i (rf1 i)) L b wr1 (-6) (-6)) (stA_upr (by omega)) [(am 0, .inr (9, [.ref (am 1), .ref (am 2), .ref (am 3), .ref (am 4), .ref (am 5), .int (nI bm), .ref (am 6), .ref (am 7), .int (nI ap1), .int (nI wr1), .int (nI wa1), .int (nI go1)])), (am 1, .inl (cI, 1072, .inl (stA w sz ev n (va_up (upT rf1 f i) i (rf1 i)) L b wr1 (-6) (-6)))), (am 2, .inl (cI, 2144, .inl im)), (am 3, .inl (cZ, 2, .inl kf)), (am 4, .inl (cI, 64, .inl (aN rf1))), (am 5, .inl (cI, 1000, .inl (aN bf))), (am 6, .inl (cI, 65, .inl (aN lf))), (am 7, .inl (cI, 64, .inl (aN hf)))] rfl 195 rfl ?_
            refine j_iinc C dX9_read_195 0 rfl (nI (i + 1)) (nI_1 (i)) [(2, .int (nI (i + 1))), (0, .ref (am 0)), (1, .int (nI (v.toInt.toNat)))] (by decide) rfl 198 rfl ?_
            refine j_goto C dX9_read_198 178 (by decide) ?_
            refine j_world [(am 0, .inr (9, [.ref (am 1), .ref (am 2), .ref (am 3), .ref (am 4), .ref (am 5), .int (nI bm), .ref (am 6), .ref (am 7), .int (nI ap1), .int (nI wr1), .int (nI wa1), .int (nI go1)])), (am 1, .inl (cI, 1072, .inl (stA w sz ev n (upT rf1 f (i + 1)) L b wr1 (-6) (-6)))), (am 2, .inl (cI, 2144, .inl im)), (am 3, .inl (cZ, 2, .inl kf)), (am 4, .inl (cI, 64, .inl (aN rf1))), (am 5, .inl (cI, 1000, .inl (aN bf))), (am 6, .inl (cI, 65, .inl (aN lf))), (am 7, .inl (cI, 64, .inl (aN hf)))] (by rw [upT_s]) ?_
            exact ih178 (i + 1) (by omega) (by omega)
        · have hF9 : rdF t L w sz ev v.toInt.toNat = (4, (rA t L w sz ev v.toInt.toNat (bk)).2.2.1, (rA t L w sz ev v.toInt.toNat (bk)).2.2) := by rw [show rdF t L w sz ev v.toInt.toNat = _ from if_pos (by rw [hAn2]; exact ⟨by omega, by omega⟩), hAn2]
          refine j_aload_n C dX9_read_97 1 rfl 98 rfl ?_
          refine j_iconst C dX9_read_98 (nI 4) (by decide) 99 rfl ?_
          refine j_aload_n C dX9_read_99 1 rfl 100 rfl ?_
          refine j_get C dX9_read_100 0 8 1 inX9_read_9 rfl rfl (by decide) rfl rfl rfl 103 rfl ?_
          refine j_callVv1 (As := [.int (nI 4), .int (nI ap1)]) (rest := []) (wr := [(am 1, .inl (cI, 1072, .inl (stA w sz ev n f L b x y z))), (am 2, .inl (cI, 2144, .inl im)), (am 3, .inl (cZ, 2, .inl kf)), (am 4, .inl (cI, 64, .inl (aN rf1))), (am 5, .inl (cI, 1000, .inl (aN bf))), (am 6, .inl (cI, 65, .inl (aN lf))), (am 7, .inl (cI, 64, .inl (aN hf)))]) C (c_X9_fail l D cI cZ cH (am 0) (am 1) (am 2) (am 3) (am 4) (am 5) bm (am 6) (am 7) ap1 wr1 wa1 go1 4 ap1 ) gX9_read_X9_fail dX9_read_103 rfl yd_X9_fail (Nat.le_of_ble_eq_true rfl) (Nat.le_of_ble_eq_true rfl) rfl rfl rfl _ rfl (Nat.le_of_ble_eq_true rfl) (Nat.zero_le _) (Nat.zero_le _) [0] [1, 2, 3, 4, 5, 6, 7] rfl rfl rfl rfl rfl (by decide) [7, 0, 1, 2, 3, 4, 5, 6] [(am 0, .inr (9, [.ref (am 1), .ref (am 2), .ref (am 3), .ref (am 4), .ref (am 5), .int (nI bm), .ref (am 6), .ref (am 7), .int (nI ap1), .int (nI 4), .int (nI ap1), .int (nI go1)])), (am 1, .inl (cI, 1072, .inl (stA w sz ev n f L b x y z))), (am 2, .inl (cI, 2144, .inl im)), (am 3, .inl (cZ, 2, .inl kf)), (am 4, .inl (cI, 64, .inl (aN rf1))), (am 5, .inl (cI, 1000, .inl (aN bf))), (am 6, .inl (cI, 65, .inl (aN lf))), (am 7, .inl (cI, 64, .inl (aN hf)))] rfl rfl rfl 106 rfl ?_
          refine j_aload_n C dX9_read_106 1 rfl 107 rfl ?_
          refine j_get C dX9_read_107 0 0 4 inX9_read_9 rfl rfl (by decide) rfl rfl rfl 110 rfl ?_
          refine j_sipush C dX9_read_110 (nI 1069) (by decide) 113 rfl ?_
          refine j_aload_n C dX9_read_113 1 rfl 114 rfl ?_
          refine j_get C dX9_read_114 0 9 2 inX9_read_9 rfl rfl (by decide) rfl rfl rfl 117 rfl ?_
          refine j_iastI C dX9_read_117 1 rfl (Nat.le_of_ble_eq_true rfl) (Nat.le_of_ble_eq_true rfl) (stA w sz ev n f L b 4 y z) (stA_up1069 ..) [(am 0, .inr (9, [.ref (am 1), .ref (am 2), .ref (am 3), .ref (am 4), .ref (am 5), .int (nI bm), .ref (am 6), .ref (am 7), .int (nI ap1), .int (nI 4), .int (nI ap1), .int (nI go1)])), (am 1, .inl (cI, 1072, .inl (stA w sz ev n f L b 4 y z))), (am 2, .inl (cI, 2144, .inl im)), (am 3, .inl (cZ, 2, .inl kf)), (am 4, .inl (cI, 64, .inl (aN rf1))), (am 5, .inl (cI, 1000, .inl (aN bf))), (am 6, .inl (cI, 65, .inl (aN lf))), (am 7, .inl (cI, 64, .inl (aN hf)))] rfl 118 rfl ?_
          refine j_aload_n C dX9_read_118 1 rfl 119 rfl ?_
          refine j_get C dX9_read_119 0 0 4 inX9_read_9 rfl rfl (by decide) rfl rfl rfl 122 rfl ?_
          refine j_sipush C dX9_read_122 (nI 1070) (by decide) 125 rfl ?_
          refine j_aload_n C dX9_read_125 1 rfl 126 rfl ?_
          refine j_get C dX9_read_126 0 9 2 inX9_read_9 rfl rfl (by decide) rfl rfl rfl 129 rfl ?_
          refine j_if_ne C dX9_read_129 137 (by decide) (q_t (n := 4) (Nat.le_of_ble_eq_true rfl)) 132 rfl (fun h129 => ?_) (fun h9 => by exfalso; omega)
          refine j_aload_n C dX9_read_137 1 rfl 138 rfl ?_
          refine j_get C dX9_read_138 0 10 5 inX9_read_9 rfl rfl (by decide) rfl rfl rfl 141 rfl ?_
          refine j_iastI C dX9_read_141 1 rfl (Nat.le_of_ble_eq_true rfl) (Nat.le_of_ble_eq_true rfl) (stA w sz ev n f L b 4 (nI ap1) z) (stA_up1070 ..) [(am 0, .inr (9, [.ref (am 1), .ref (am 2), .ref (am 3), .ref (am 4), .ref (am 5), .int (nI bm), .ref (am 6), .ref (am 7), .int (nI ap1), .int (nI 4), .int (nI ap1), .int (nI go1)])), (am 1, .inl (cI, 1072, .inl (stA w sz ev n f L b 4 (nI ap1) z))), (am 2, .inl (cI, 2144, .inl im)), (am 3, .inl (cZ, 2, .inl kf)), (am 4, .inl (cI, 64, .inl (aN rf1))), (am 5, .inl (cI, 1000, .inl (aN bf))), (am 6, .inl (cI, 65, .inl (aN lf))), (am 7, .inl (cI, 64, .inl (aN hf)))] rfl 142 rfl ?_
          refine j_aload_n C dX9_read_142 1 rfl 143 rfl ?_
          refine j_get C dX9_read_143 0 0 4 inX9_read_9 rfl rfl (by decide) rfl rfl rfl 146 rfl ?_
          refine j_sipush C dX9_read_146 (nI 1071) (by decide) 149 rfl ?_
          refine j_aload_n C dX9_read_149 1 rfl 150 rfl ?_
          refine j_get C dX9_read_150 0 9 2 inX9_read_9 rfl rfl (by decide) rfl rfl rfl 153 rfl ?_
          refine j_if_ne C dX9_read_153 161 (by decide) (q_t (n := 4) (Nat.le_of_ble_eq_true rfl)) 156 rfl (fun h153 => ?_) (fun h9 => by exfalso; omega)
          refine j_aload_n C dX9_read_161 1 rfl 162 rfl ?_
          refine j_get C dX9_read_162 0 11 3 inX9_read_9 rfl rfl (by decide) rfl rfl rfl 165 rfl ?_
          refine j_iastI C dX9_read_165 1 rfl (Nat.le_of_ble_eq_true rfl) (Nat.le_of_ble_eq_true rfl) (stA w sz ev n f L b 4 (nI ap1) (nI go1)) (stA_up1071 ..) [(am 0, .inr (9, [.ref (am 1), .ref (am 2), .ref (am 3), .ref (am 4), .ref (am 5), .int (nI bm), .ref (am 6), .ref (am 7), .int (nI ap1), .int (nI 4), .int (nI ap1), .int (nI go1)])), (am 1, .inl (cI, 1072, .inl (stA w sz ev n f L b 4 (nI ap1) (nI go1)))), (am 2, .inl (cI, 2144, .inl im)), (am 3, .inl (cZ, 2, .inl kf)), (am 4, .inl (cI, 64, .inl (aN rf1))), (am 5, .inl (cI, 1000, .inl (aN bf))), (am 6, .inl (cI, 65, .inl (aN lf))), (am 7, .inl (cI, 64, .inl (aN hf)))] rfl 166 rfl ?_
          refine j_aload_n C dX9_read_166 1 rfl 167 rfl ?_
          refine j_get C dX9_read_167 0 9 2 inX9_read_9 rfl rfl (by decide) rfl rfl rfl 170 rfl ?_
          refine j_if_le C dX9_read_170 176 (by decide) (q_t (n := 4) (Nat.le_of_ble_eq_true rfl)) 173 rfl (fun h9 => by exfalso; omega) (fun h170 => ?_)
          refine j_bipush C dX9_read_173 (-7) (by decide) 175 rfl ?_
          exact j_iret C dX9_read_175 ((w, sz, ev, n, f, L, b, 4, nI ap1, nI go1), im, kf, rf1, bf, bm, lf, hf, ap1, 4, ap1, go1) (by rw [show opRead ((w, sz, ev, n, g, L, t, x, y, z), b0, b1, kp) v = (-7, ((w, sz, ev, n, g, L, t, (rdF t L w sz ev v.toInt.toNat).1, nI (rdF t L w sz ev v.toInt.toNat).2.1, nI (rdF t L w sz ev v.toInt.toNat).2.2.2.2), b0, b1, kp)) from (by simp only [opRead]; rw [if_neg (by omega), if_neg (by rw [hF9]; first | omega | simp)])]; exact ⟨rfl, ⟨⟨hw, hsz, hev, hn, hg, hL, ht, hgF.1⟩, ⟨rfl, rfl, rfl, rfl, hfg, rfl, hbt, (by rw [hF9]), (by rw [hF9, ← hq9]), (by rw [hF9, ← e2])⟩, hi0, hi1, hk0, hk1, hk4⟩⟩) rfl
    · refine j_aload_n C dX9_read_35 1 rfl 36 rfl ?_
      refine j_get C dX9_read_36 0 9 2 inX9_read_9 rfl rfl (by decide) rfl rfl rfl 39 rfl ?_
      refine j_if_ne C dX9_read_39 75 (by decide) (q_t (by omega)) 42 rfl (fun h39 => ?_) (fun h39 => ?_)
      · have hAn2 : rA t L w sz ev v.toInt.toNat ((v.toInt.toNat + sz - 1) / sz) = rA t L w sz ev v.toInt.toNat (bk) := by first | exact hAn | exact rA_stay (by omega) hb
        refine j_aload_n C dX9_read_75 1 rfl 76 rfl ?_
        refine j_get C dX9_read_76 0 9 2 inX9_read_9 rfl rfl (by decide) rfl rfl rfl 79 rfl ?_
        refine j_if_ne C dX9_read_79 106 (by decide) (q_t (by omega)) 82 rfl (fun h79 => ?_) (fun h79 => ?_)
        · have hF9 : rdF t L w sz ev v.toInt.toNat = rA t L w sz ev v.toInt.toNat (bk) := by rw [show rdF t L w sz ev v.toInt.toNat = _ from if_neg (by rw [hAn2]; first | (intro h9; have h8 := h9.1; omega) | (intro h9; have h8 := h9.2; omega)), hAn2]
          refine j_aload_n C dX9_read_106 1 rfl 107 rfl ?_
          refine j_get C dX9_read_107 0 0 4 inX9_read_9 rfl rfl (by decide) rfl rfl rfl 110 rfl ?_
          refine j_sipush C dX9_read_110 (nI 1069) (by decide) 113 rfl ?_
          refine j_aload_n C dX9_read_113 1 rfl 114 rfl ?_
          refine j_get C dX9_read_114 0 9 2 inX9_read_9 rfl rfl (by decide) rfl rfl rfl 117 rfl ?_
          refine j_iastI C dX9_read_117 1 rfl (Nat.le_of_ble_eq_true rfl) (Nat.le_of_ble_eq_true rfl) (stA w sz ev n f L b wr1 y z) (stA_up1069 ..) [(am 0, .inr (9, [.ref (am 1), .ref (am 2), .ref (am 3), .ref (am 4), .ref (am 5), .int (nI bm), .ref (am 6), .ref (am 7), .int (nI ap1), .int (nI wr1), .int (nI wa1), .int (nI go1)])), (am 1, .inl (cI, 1072, .inl (stA w sz ev n f L b wr1 y z))), (am 2, .inl (cI, 2144, .inl im)), (am 3, .inl (cZ, 2, .inl kf)), (am 4, .inl (cI, 64, .inl (aN rf1))), (am 5, .inl (cI, 1000, .inl (aN bf))), (am 6, .inl (cI, 65, .inl (aN lf))), (am 7, .inl (cI, 64, .inl (aN hf)))] rfl 118 rfl ?_
          refine j_aload_n C dX9_read_118 1 rfl 119 rfl ?_
          refine j_get C dX9_read_119 0 0 4 inX9_read_9 rfl rfl (by decide) rfl rfl rfl 122 rfl ?_
          refine j_sipush C dX9_read_122 (nI 1070) (by decide) 125 rfl ?_
          refine j_aload_n C dX9_read_125 1 rfl 126 rfl ?_
          refine j_get C dX9_read_126 0 9 2 inX9_read_9 rfl rfl (by decide) rfl rfl rfl 129 rfl ?_
          refine j_if_ne C dX9_read_129 137 (by decide) (q_t (by omega)) 132 rfl (fun h129 => ?_) (fun h9 => by exfalso; omega)
          refine j_aload_n C dX9_read_137 1 rfl 138 rfl ?_
          refine j_get C dX9_read_138 0 10 5 inX9_read_9 rfl rfl (by decide) rfl rfl rfl 141 rfl ?_
          refine j_iastI C dX9_read_141 1 rfl (Nat.le_of_ble_eq_true rfl) (Nat.le_of_ble_eq_true rfl) (stA w sz ev n f L b wr1 (nI wa1) z) (stA_up1070 ..) [(am 0, .inr (9, [.ref (am 1), .ref (am 2), .ref (am 3), .ref (am 4), .ref (am 5), .int (nI bm), .ref (am 6), .ref (am 7), .int (nI ap1), .int (nI wr1), .int (nI wa1), .int (nI go1)])), (am 1, .inl (cI, 1072, .inl (stA w sz ev n f L b wr1 (nI wa1) z))), (am 2, .inl (cI, 2144, .inl im)), (am 3, .inl (cZ, 2, .inl kf)), (am 4, .inl (cI, 64, .inl (aN rf1))), (am 5, .inl (cI, 1000, .inl (aN bf))), (am 6, .inl (cI, 65, .inl (aN lf))), (am 7, .inl (cI, 64, .inl (aN hf)))] rfl 142 rfl ?_
          refine j_aload_n C dX9_read_142 1 rfl 143 rfl ?_
          refine j_get C dX9_read_143 0 0 4 inX9_read_9 rfl rfl (by decide) rfl rfl rfl 146 rfl ?_
          refine j_sipush C dX9_read_146 (nI 1071) (by decide) 149 rfl ?_
          refine j_aload_n C dX9_read_149 1 rfl 150 rfl ?_
          refine j_get C dX9_read_150 0 9 2 inX9_read_9 rfl rfl (by decide) rfl rfl rfl 153 rfl ?_
          refine j_if_ne C dX9_read_153 161 (by decide) (q_t (by omega)) 156 rfl (fun h153 => ?_) (fun h9 => by exfalso; omega)
          refine j_aload_n C dX9_read_161 1 rfl 162 rfl ?_
          refine j_get C dX9_read_162 0 11 3 inX9_read_9 rfl rfl (by decide) rfl rfl rfl 165 rfl ?_
          refine j_iastI C dX9_read_165 1 rfl (Nat.le_of_ble_eq_true rfl) (Nat.le_of_ble_eq_true rfl) (stA w sz ev n f L b wr1 (nI wa1) (nI go1)) (stA_up1071 ..) [(am 0, .inr (9, [.ref (am 1), .ref (am 2), .ref (am 3), .ref (am 4), .ref (am 5), .int (nI bm), .ref (am 6), .ref (am 7), .int (nI ap1), .int (nI wr1), .int (nI wa1), .int (nI go1)])), (am 1, .inl (cI, 1072, .inl (stA w sz ev n f L b wr1 (nI wa1) (nI go1)))), (am 2, .inl (cI, 2144, .inl im)), (am 3, .inl (cZ, 2, .inl kf)), (am 4, .inl (cI, 64, .inl (aN rf1))), (am 5, .inl (cI, 1000, .inl (aN bf))), (am 6, .inl (cI, 65, .inl (aN lf))), (am 7, .inl (cI, 64, .inl (aN hf)))] rfl 166 rfl ?_
          refine j_aload_n C dX9_read_166 1 rfl 167 rfl ?_
          refine j_get C dX9_read_167 0 9 2 inX9_read_9 rfl rfl (by decide) rfl rfl rfl 170 rfl ?_
          refine j_if_le C dX9_read_170 176 (by decide) (q_t (by omega)) 173 rfl (fun h9 => by exfalso; omega) (fun h170 => ?_)
          refine j_bipush C dX9_read_173 (-7) (by decide) 175 rfl ?_
          exact j_iret C dX9_read_175 ((w, sz, ev, n, f, L, b, wr1, nI wa1, nI go1), im, kf, rf1, bf, bm, lf, hf, ap1, wr1, wa1, go1) (by rw [show opRead ((w, sz, ev, n, g, L, t, x, y, z), b0, b1, kp) v = (-7, ((w, sz, ev, n, g, L, t, (rdF t L w sz ev v.toInt.toNat).1, nI (rdF t L w sz ev v.toInt.toNat).2.1, nI (rdF t L w sz ev v.toInt.toNat).2.2.2.2), b0, b1, kp)) from (by simp only [opRead]; rw [if_neg (by omega), if_neg (by rw [hF9]; first | omega | simp)])]; exact ⟨rfl, ⟨⟨hw, hsz, hev, hn, hg, hL, ht, hgF.1⟩, ⟨rfl, rfl, rfl, rfl, hfg, rfl, hbt, (by rw [hF9]; exact e1), (by rw [hF9, ← e5 (by omega)]), (by rw [hF9, ← e2])⟩, hi0, hi1, hk0, hk1, hk4⟩⟩) rfl
        · have hq9 := e4 (by omega)
          have hql := hgd.1.1
          refine j_aload_n C dX9_read_82 1 rfl 83 rfl ?_
          refine j_get C dX9_read_83 0 8 1 inX9_read_9 rfl rfl (by decide) rfl rfl rfl 86 rfl ?_
          refine j_aload_n C dX9_read_86 1 rfl 87 rfl ?_
          refine j_get C dX9_read_87 0 0 4 inX9_read_9 rfl rfl (by decide) rfl rfl rfl 90 rfl ?_
          refine j_sipush C dX9_read_90 (nI 1065) (by decide) 93 rfl ?_
          refine j_ialdI C dX9_read_93 1 rfl (Nat.le_of_ble_eq_true rfl) (Nat.le_of_ble_eq_true rfl) (nI L) rfl 94 rfl ?_
          refine j_icmp_ge C dX9_read_94 106 (by decide) (q_t (by omega)) (q_t (by omega)) 97 rfl (fun h94 => ?_) (fun h94 => ?_)
          · have hF9 : rdF t L w sz ev v.toInt.toNat = rA t L w sz ev v.toInt.toNat (bk) := by rw [show rdF t L w sz ev v.toInt.toNat = _ from if_neg (by rw [hAn2]; first | (intro h9; have h8 := h9.1; omega) | (intro h9; have h8 := h9.2; omega)), hAn2]
            have hgo : go1 = v.toInt.toNat := by rw [e2, ← hF9]; exact hgF.2.2.1 (by rw [hF9]; omega)
            refine j_aload_n C dX9_read_106 1 rfl 107 rfl ?_
            refine j_get C dX9_read_107 0 0 4 inX9_read_9 rfl rfl (by decide) rfl rfl rfl 110 rfl ?_
            refine j_sipush C dX9_read_110 (nI 1069) (by decide) 113 rfl ?_
            refine j_aload_n C dX9_read_113 1 rfl 114 rfl ?_
            refine j_get C dX9_read_114 0 9 2 inX9_read_9 rfl rfl (by decide) rfl rfl rfl 117 rfl ?_
            refine j_iastI C dX9_read_117 1 rfl (Nat.le_of_ble_eq_true rfl) (Nat.le_of_ble_eq_true rfl) (stA w sz ev n f L b wr1 y z) (stA_up1069 ..) [(am 0, .inr (9, [.ref (am 1), .ref (am 2), .ref (am 3), .ref (am 4), .ref (am 5), .int (nI bm), .ref (am 6), .ref (am 7), .int (nI ap1), .int (nI wr1), .int (nI wa1), .int (nI go1)])), (am 1, .inl (cI, 1072, .inl (stA w sz ev n f L b wr1 y z))), (am 2, .inl (cI, 2144, .inl im)), (am 3, .inl (cZ, 2, .inl kf)), (am 4, .inl (cI, 64, .inl (aN rf1))), (am 5, .inl (cI, 1000, .inl (aN bf))), (am 6, .inl (cI, 65, .inl (aN lf))), (am 7, .inl (cI, 64, .inl (aN hf)))] rfl 118 rfl ?_
            refine j_aload_n C dX9_read_118 1 rfl 119 rfl ?_
            refine j_get C dX9_read_119 0 0 4 inX9_read_9 rfl rfl (by decide) rfl rfl rfl 122 rfl ?_
            refine j_sipush C dX9_read_122 (nI 1070) (by decide) 125 rfl ?_
            refine j_aload_n C dX9_read_125 1 rfl 126 rfl ?_
            refine j_get C dX9_read_126 0 9 2 inX9_read_9 rfl rfl (by decide) rfl rfl rfl 129 rfl ?_
            refine j_if_ne C dX9_read_129 137 (by decide) (q_t (by omega)) 132 rfl (fun h9 => by exfalso; omega) (fun h129 => ?_)
            refine j_bipush C dX9_read_132 (-6) (by decide) 134 rfl ?_
            refine j_goto C dX9_read_134 141 (by decide) ?_
            refine j_iastI C dX9_read_141 1 rfl (Nat.le_of_ble_eq_true rfl) (Nat.le_of_ble_eq_true rfl) (stA w sz ev n f L b wr1 (-6) z) (stA_up1070 ..) [(am 0, .inr (9, [.ref (am 1), .ref (am 2), .ref (am 3), .ref (am 4), .ref (am 5), .int (nI bm), .ref (am 6), .ref (am 7), .int (nI ap1), .int (nI wr1), .int (nI wa1), .int (nI go1)])), (am 1, .inl (cI, 1072, .inl (stA w sz ev n f L b wr1 (-6) z))), (am 2, .inl (cI, 2144, .inl im)), (am 3, .inl (cZ, 2, .inl kf)), (am 4, .inl (cI, 64, .inl (aN rf1))), (am 5, .inl (cI, 1000, .inl (aN bf))), (am 6, .inl (cI, 65, .inl (aN lf))), (am 7, .inl (cI, 64, .inl (aN hf)))] rfl 142 rfl ?_
            refine j_aload_n C dX9_read_142 1 rfl 143 rfl ?_
            refine j_get C dX9_read_143 0 0 4 inX9_read_9 rfl rfl (by decide) rfl rfl rfl 146 rfl ?_
            refine j_sipush C dX9_read_146 (nI 1071) (by decide) 149 rfl ?_
            refine j_aload_n C dX9_read_149 1 rfl 150 rfl ?_
            refine j_get C dX9_read_150 0 9 2 inX9_read_9 rfl rfl (by decide) rfl rfl rfl 153 rfl ?_
            refine j_if_ne C dX9_read_153 161 (by decide) (q_t (by omega)) 156 rfl (fun h9 => by exfalso; omega) (fun h153 => ?_)
            refine j_bipush C dX9_read_156 (-6) (by decide) 158 rfl ?_
            refine j_goto C dX9_read_158 165 (by decide) ?_
            refine j_iastI C dX9_read_165 1 rfl (Nat.le_of_ble_eq_true rfl) (Nat.le_of_ble_eq_true rfl) (stA w sz ev n f L b wr1 (-6) (-6)) (stA_up1071 ..) [(am 0, .inr (9, [.ref (am 1), .ref (am 2), .ref (am 3), .ref (am 4), .ref (am 5), .int (nI bm), .ref (am 6), .ref (am 7), .int (nI ap1), .int (nI wr1), .int (nI wa1), .int (nI go1)])), (am 1, .inl (cI, 1072, .inl (stA w sz ev n f L b wr1 (-6) (-6)))), (am 2, .inl (cI, 2144, .inl im)), (am 3, .inl (cZ, 2, .inl kf)), (am 4, .inl (cI, 64, .inl (aN rf1))), (am 5, .inl (cI, 1000, .inl (aN bf))), (am 6, .inl (cI, 65, .inl (aN lf))), (am 7, .inl (cI, 64, .inl (aN hf)))] rfl 166 rfl ?_
            refine j_aload_n C dX9_read_166 1 rfl 167 rfl ?_
            refine j_get C dX9_read_167 0 9 2 inX9_read_9 rfl rfl (by decide) rfl rfl rfl 170 rfl ?_
            refine j_if_le C dX9_read_170 176 (by decide) (q_t (by omega)) 173 rfl (fun h170 => ?_) (fun h9 => by exfalso; omega)
            refine j_iconst C dX9_read_176 (nI 0) (by decide) 177 rfl ?_
            refine j_istore_n C dX9_read_177 [(2, .int (nI 0)), (0, .ref (am 0)), (1, .int (nI (v.toInt.toNat)))] (by decide) rfl 178 rfl ?_
            refine j_loop1 (fun (i : Nat) => i ≤ v.toInt.toNat) (fun (i : Nat) => v.toInt.toNat - i) (fun (i : Nat) => [(am 0, .inr (9, [.ref (am 1), .ref (am 2), .ref (am 3), .ref (am 4), .ref (am 5), .int (nI bm), .ref (am 6), .ref (am 7), .int (nI ap1), .int (nI wr1), .int (nI wa1), .int (nI go1)])), (am 1, .inl (cI, 1072, .inl (stA w sz ev n (upT rf1 f i) L b wr1 (-6) (-6)))), (am 2, .inl (cI, 2144, .inl im)), (am 3, .inl (cZ, 2, .inl kf)), (am 4, .inl (cI, 64, .inl (aN rf1))), (am 5, .inl (cI, 1000, .inl (aN bf))), (am 6, .inl (cI, 65, .inl (aN lf))), (am 7, .inl (cI, 64, .inl (aN hf)))]) (fun (i : Nat) => [(2, .int (nI i)), (0, .ref (am 0)), (1, .int (nI (v.toInt.toNat)))]) ?_ 0 (Nat.zero_le _) (by rw [upT_0]) rfl
            intro i hI178 ih178
            have hi9 : i ≤ v.toInt.toNat := hI178
            show J D AX pX l eX _ sX mX _ bX methX cX 0 0 _ 3 [(am 0, .inr (9, [.ref (am 1), .ref (am 2), .ref (am 3), .ref (am 4), .ref (am 5), .int (nI bm), .ref (am 6), .ref (am 7), .int (nI ap1), .int (nI wr1), .int (nI wa1), .int (nI go1)])), (am 1, .inl (cI, 1072, .inl (stA w sz ev n (upT rf1 f i) L b wr1 (-6) (-6)))), (am 2, .inl (cI, 2144, .inl im)), (am 3, .inl (cZ, 2, .inl kf)), (am 4, .inl (cI, 64, .inl (aN rf1))), (am 5, .inl (cI, 1000, .inl (aN bf))), (am 6, .inl (cI, 65, .inl (aN lf))), (am 7, .inl (cI, 64, .inl (aN hf)))] [(2, .int (nI i)), (0, .ref (am 0)), (1, .int (nI (v.toInt.toNat)))] 178 []
            refine j_iload_n C dX9_read_178 0 rfl 179 rfl ?_
            refine j_iload_n C dX9_read_179 2 rfl 180 rfl ?_
            refine j_icmp_ge C dX9_read_180 201 (by decide) (q_t (by omega)) (q_t (by omega)) 183 rfl (fun h180 => ?_) (fun h180 => ?_)
            · refine j_aload_n C dX9_read_201 1 rfl 202 rfl ?_
              refine j_get C dX9_read_202 0 0 4 inX9_read_9 rfl rfl (by decide) rfl rfl rfl 205 rfl ?_
              refine j_sipush C dX9_read_205 (nI 1064) (by decide) 208 rfl ?_
              refine j_iload_n C dX9_read_208 2 rfl 209 rfl ?_
              refine j_iastI C dX9_read_209 1 rfl (Nat.le_of_ble_eq_true rfl) (Nat.le_of_ble_eq_true rfl) (stA w sz ev (v.toInt.toNat) (upT rf1 f i) L b wr1 (-6) (-6)) (stA_up1064 ..) [(am 0, .inr (9, [.ref (am 1), .ref (am 2), .ref (am 3), .ref (am 4), .ref (am 5), .int (nI bm), .ref (am 6), .ref (am 7), .int (nI ap1), .int (nI wr1), .int (nI wa1), .int (nI go1)])), (am 1, .inl (cI, 1072, .inl (stA w sz ev (v.toInt.toNat) (upT rf1 f i) L b wr1 (-6) (-6)))), (am 2, .inl (cI, 2144, .inl im)), (am 3, .inl (cZ, 2, .inl kf)), (am 4, .inl (cI, 64, .inl (aN rf1))), (am 5, .inl (cI, 1000, .inl (aN bf))), (am 6, .inl (cI, 65, .inl (aN lf))), (am 7, .inl (cI, 64, .inl (aN hf)))] rfl 210 rfl ?_
              refine j_iload_n C dX9_read_210 2 rfl 211 rfl ?_
              exact j_iret C dX9_read_211 ((w, sz, ev, v.toInt.toNat, upT rf1 f i, L, b, wr1, -6, -6), im, kf, rf1, bf, bm, lf, hf, ap1, wr1, wa1, go1) (by rw [show opRead ((w, sz, ev, n, g, L, t, x, y, z), b0, b1, kp) v = (nI (v.toInt.toNat), ((w, sz, ev, v.toInt.toNat, (rdF t L w sz ev v.toInt.toNat).2.2.2.1, L, t, 0, -6, -6), b0, b1, kp)) from (by simp only [opRead]; rw [if_neg (by omega), if_pos (by rw [hF9]; omega)])]; exact ⟨rfl, ⟨⟨hw, hsz, hev, by show v.toInt.toNat ≤ 64; omega, (fun j hj => hgF.2.1 j (by rw [hgF.2.2.1 (by rw [hF9]; omega)]; exact hj)), hL, ht, by show 0 < 5; omega⟩, ⟨rfl, rfl, rfl, rfl, (fun j hj => by have hj9 : j < v.toInt.toNat := hj; show upT rf1 f i j = _; rw [upT_in (by omega), hF9]; exact e3 j (by omega)), rfl, hbt, (show wr1 = 0 by omega), rfl, rfl⟩, hi0, hi1, hk0, hk1, hk4⟩⟩) rfl
            · refine j_aload_n C dX9_read_183 1 rfl 184 rfl ?_
              refine j_get C dX9_read_184 0 0 4 inX9_read_9 rfl rfl (by decide) rfl rfl rfl 187 rfl ?_
              refine j_iload_n C dX9_read_187 0 rfl 188 rfl ?_
              refine j_aload_n C dX9_read_188 1 rfl 189 rfl ?_
              refine j_get C dX9_read_189 0 3 6 inX9_read_9 rfl rfl (by decide) rfl rfl rfl 192 rfl ?_
              refine j_iload_n C dX9_read_192 0 rfl 193 rfl ?_
              refine j_iald C dX9_read_193 4 rfl (by omega) (Nat.le_of_ble_eq_true rfl) 194 rfl ?_
              refine j_iastI C dX9_read_194 1 rfl (by omega) (Nat.le_of_ble_eq_true rfl) (stA w sz ev n (va_up (upT rf1 f i) i (rf1 i)) L b wr1 (-6) (-6)) (stA_upr (by omega)) [(am 0, .inr (9, [.ref (am 1), .ref (am 2), .ref (am 3), .ref (am 4), .ref (am 5), .int (nI bm), .ref (am 6), .ref (am 7), .int (nI ap1), .int (nI wr1), .int (nI wa1), .int (nI go1)])), (am 1, .inl (cI, 1072, .inl (stA w sz ev n (va_up (upT rf1 f i) i (rf1 i)) L b wr1 (-6) (-6)))), (am 2, .inl (cI, 2144, .inl im)), (am 3, .inl (cZ, 2, .inl kf)), (am 4, .inl (cI, 64, .inl (aN rf1))), (am 5, .inl (cI, 1000, .inl (aN bf))), (am 6, .inl (cI, 65, .inl (aN lf))), (am 7, .inl (cI, 64, .inl (aN hf)))] rfl 195 rfl ?_
              refine j_iinc C dX9_read_195 0 rfl (nI (i + 1)) (nI_1 (i)) [(2, .int (nI (i + 1))), (0, .ref (am 0)), (1, .int (nI (v.toInt.toNat)))] (by decide) rfl 198 rfl ?_
              refine j_goto C dX9_read_198 178 (by decide) ?_
              refine j_world [(am 0, .inr (9, [.ref (am 1), .ref (am 2), .ref (am 3), .ref (am 4), .ref (am 5), .int (nI bm), .ref (am 6), .ref (am 7), .int (nI ap1), .int (nI wr1), .int (nI wa1), .int (nI go1)])), (am 1, .inl (cI, 1072, .inl (stA w sz ev n (upT rf1 f (i + 1)) L b wr1 (-6) (-6)))), (am 2, .inl (cI, 2144, .inl im)), (am 3, .inl (cZ, 2, .inl kf)), (am 4, .inl (cI, 64, .inl (aN rf1))), (am 5, .inl (cI, 1000, .inl (aN bf))), (am 6, .inl (cI, 65, .inl (aN lf))), (am 7, .inl (cI, 64, .inl (aN hf)))] (by rw [upT_s]) ?_
              exact ih178 (i + 1) (by omega) (by omega)
          · have hF9 : rdF t L w sz ev v.toInt.toNat = (4, (rA t L w sz ev v.toInt.toNat (bk)).2.2.1, (rA t L w sz ev v.toInt.toNat (bk)).2.2) := by rw [show rdF t L w sz ev v.toInt.toNat = _ from if_pos (by rw [hAn2]; exact ⟨by omega, by omega⟩), hAn2]
            refine j_aload_n C dX9_read_97 1 rfl 98 rfl ?_
            refine j_iconst C dX9_read_98 (nI 4) (by decide) 99 rfl ?_
            refine j_aload_n C dX9_read_99 1 rfl 100 rfl ?_
            refine j_get C dX9_read_100 0 8 1 inX9_read_9 rfl rfl (by decide) rfl rfl rfl 103 rfl ?_
            refine j_callVv1 (As := [.int (nI 4), .int (nI ap1)]) (rest := []) (wr := [(am 1, .inl (cI, 1072, .inl (stA w sz ev n f L b x y z))), (am 2, .inl (cI, 2144, .inl im)), (am 3, .inl (cZ, 2, .inl kf)), (am 4, .inl (cI, 64, .inl (aN rf1))), (am 5, .inl (cI, 1000, .inl (aN bf))), (am 6, .inl (cI, 65, .inl (aN lf))), (am 7, .inl (cI, 64, .inl (aN hf)))]) C (c_X9_fail l D cI cZ cH (am 0) (am 1) (am 2) (am 3) (am 4) (am 5) bm (am 6) (am 7) ap1 wr1 wa1 go1 4 ap1 ) gX9_read_X9_fail dX9_read_103 rfl yd_X9_fail (Nat.le_of_ble_eq_true rfl) (Nat.le_of_ble_eq_true rfl) rfl rfl rfl _ rfl (Nat.le_of_ble_eq_true rfl) (Nat.zero_le _) (Nat.zero_le _) [0] [1, 2, 3, 4, 5, 6, 7] rfl rfl rfl rfl rfl (by decide) [7, 0, 1, 2, 3, 4, 5, 6] [(am 0, .inr (9, [.ref (am 1), .ref (am 2), .ref (am 3), .ref (am 4), .ref (am 5), .int (nI bm), .ref (am 6), .ref (am 7), .int (nI ap1), .int (nI 4), .int (nI ap1), .int (nI go1)])), (am 1, .inl (cI, 1072, .inl (stA w sz ev n f L b x y z))), (am 2, .inl (cI, 2144, .inl im)), (am 3, .inl (cZ, 2, .inl kf)), (am 4, .inl (cI, 64, .inl (aN rf1))), (am 5, .inl (cI, 1000, .inl (aN bf))), (am 6, .inl (cI, 65, .inl (aN lf))), (am 7, .inl (cI, 64, .inl (aN hf)))] rfl rfl rfl 106 rfl ?_
            refine j_aload_n C dX9_read_106 1 rfl 107 rfl ?_
            refine j_get C dX9_read_107 0 0 4 inX9_read_9 rfl rfl (by decide) rfl rfl rfl 110 rfl ?_
            refine j_sipush C dX9_read_110 (nI 1069) (by decide) 113 rfl ?_
            refine j_aload_n C dX9_read_113 1 rfl 114 rfl ?_
            refine j_get C dX9_read_114 0 9 2 inX9_read_9 rfl rfl (by decide) rfl rfl rfl 117 rfl ?_
            refine j_iastI C dX9_read_117 1 rfl (Nat.le_of_ble_eq_true rfl) (Nat.le_of_ble_eq_true rfl) (stA w sz ev n f L b 4 y z) (stA_up1069 ..) [(am 0, .inr (9, [.ref (am 1), .ref (am 2), .ref (am 3), .ref (am 4), .ref (am 5), .int (nI bm), .ref (am 6), .ref (am 7), .int (nI ap1), .int (nI 4), .int (nI ap1), .int (nI go1)])), (am 1, .inl (cI, 1072, .inl (stA w sz ev n f L b 4 y z))), (am 2, .inl (cI, 2144, .inl im)), (am 3, .inl (cZ, 2, .inl kf)), (am 4, .inl (cI, 64, .inl (aN rf1))), (am 5, .inl (cI, 1000, .inl (aN bf))), (am 6, .inl (cI, 65, .inl (aN lf))), (am 7, .inl (cI, 64, .inl (aN hf)))] rfl 118 rfl ?_
            refine j_aload_n C dX9_read_118 1 rfl 119 rfl ?_
            refine j_get C dX9_read_119 0 0 4 inX9_read_9 rfl rfl (by decide) rfl rfl rfl 122 rfl ?_
            refine j_sipush C dX9_read_122 (nI 1070) (by decide) 125 rfl ?_
            refine j_aload_n C dX9_read_125 1 rfl 126 rfl ?_
            refine j_get C dX9_read_126 0 9 2 inX9_read_9 rfl rfl (by decide) rfl rfl rfl 129 rfl ?_
            refine j_if_ne C dX9_read_129 137 (by decide) (q_t (n := 4) (Nat.le_of_ble_eq_true rfl)) 132 rfl (fun h129 => ?_) (fun h9 => by exfalso; omega)
            refine j_aload_n C dX9_read_137 1 rfl 138 rfl ?_
            refine j_get C dX9_read_138 0 10 5 inX9_read_9 rfl rfl (by decide) rfl rfl rfl 141 rfl ?_
            refine j_iastI C dX9_read_141 1 rfl (Nat.le_of_ble_eq_true rfl) (Nat.le_of_ble_eq_true rfl) (stA w sz ev n f L b 4 (nI ap1) z) (stA_up1070 ..) [(am 0, .inr (9, [.ref (am 1), .ref (am 2), .ref (am 3), .ref (am 4), .ref (am 5), .int (nI bm), .ref (am 6), .ref (am 7), .int (nI ap1), .int (nI 4), .int (nI ap1), .int (nI go1)])), (am 1, .inl (cI, 1072, .inl (stA w sz ev n f L b 4 (nI ap1) z))), (am 2, .inl (cI, 2144, .inl im)), (am 3, .inl (cZ, 2, .inl kf)), (am 4, .inl (cI, 64, .inl (aN rf1))), (am 5, .inl (cI, 1000, .inl (aN bf))), (am 6, .inl (cI, 65, .inl (aN lf))), (am 7, .inl (cI, 64, .inl (aN hf)))] rfl 142 rfl ?_
            refine j_aload_n C dX9_read_142 1 rfl 143 rfl ?_
            refine j_get C dX9_read_143 0 0 4 inX9_read_9 rfl rfl (by decide) rfl rfl rfl 146 rfl ?_
            refine j_sipush C dX9_read_146 (nI 1071) (by decide) 149 rfl ?_
            refine j_aload_n C dX9_read_149 1 rfl 150 rfl ?_
            refine j_get C dX9_read_150 0 9 2 inX9_read_9 rfl rfl (by decide) rfl rfl rfl 153 rfl ?_
            refine j_if_ne C dX9_read_153 161 (by decide) (q_t (n := 4) (Nat.le_of_ble_eq_true rfl)) 156 rfl (fun h153 => ?_) (fun h9 => by exfalso; omega)
            refine j_aload_n C dX9_read_161 1 rfl 162 rfl ?_
            refine j_get C dX9_read_162 0 11 3 inX9_read_9 rfl rfl (by decide) rfl rfl rfl 165 rfl ?_
            refine j_iastI C dX9_read_165 1 rfl (Nat.le_of_ble_eq_true rfl) (Nat.le_of_ble_eq_true rfl) (stA w sz ev n f L b 4 (nI ap1) (nI go1)) (stA_up1071 ..) [(am 0, .inr (9, [.ref (am 1), .ref (am 2), .ref (am 3), .ref (am 4), .ref (am 5), .int (nI bm), .ref (am 6), .ref (am 7), .int (nI ap1), .int (nI 4), .int (nI ap1), .int (nI go1)])), (am 1, .inl (cI, 1072, .inl (stA w sz ev n f L b 4 (nI ap1) (nI go1)))), (am 2, .inl (cI, 2144, .inl im)), (am 3, .inl (cZ, 2, .inl kf)), (am 4, .inl (cI, 64, .inl (aN rf1))), (am 5, .inl (cI, 1000, .inl (aN bf))), (am 6, .inl (cI, 65, .inl (aN lf))), (am 7, .inl (cI, 64, .inl (aN hf)))] rfl 166 rfl ?_
            refine j_aload_n C dX9_read_166 1 rfl 167 rfl ?_
            refine j_get C dX9_read_167 0 9 2 inX9_read_9 rfl rfl (by decide) rfl rfl rfl 170 rfl ?_
            refine j_if_le C dX9_read_170 176 (by decide) (q_t (n := 4) (Nat.le_of_ble_eq_true rfl)) 173 rfl (fun h9 => by exfalso; omega) (fun h170 => ?_)
            refine j_bipush C dX9_read_173 (-7) (by decide) 175 rfl ?_
            exact j_iret C dX9_read_175 ((w, sz, ev, n, f, L, b, 4, nI ap1, nI go1), im, kf, rf1, bf, bm, lf, hf, ap1, 4, ap1, go1) (by rw [show opRead ((w, sz, ev, n, g, L, t, x, y, z), b0, b1, kp) v = (-7, ((w, sz, ev, n, g, L, t, (rdF t L w sz ev v.toInt.toNat).1, nI (rdF t L w sz ev v.toInt.toNat).2.1, nI (rdF t L w sz ev v.toInt.toNat).2.2.2.2), b0, b1, kp)) from (by simp only [opRead]; rw [if_neg (by omega), if_neg (by rw [hF9]; first | omega | simp)])]; exact ⟨rfl, ⟨⟨hw, hsz, hev, hn, hg, hL, ht, hgF.1⟩, ⟨rfl, rfl, rfl, rfl, hfg, rfl, hbt, (by rw [hF9]), (by rw [hF9, ← hq9]), (by rw [hF9, ← e2])⟩, hi0, hi1, hk0, hk1, hk4⟩⟩) rfl
      · have hA0 : (rA t L w sz ev v.toInt.toNat (bk)).1 = 0 := by omega
        have hax9 := e4 hA0
        have hx9 : wr1 = 0 := by omega
        have hblt : bk * sz < v.toInt.toNat := by omega
        have hbn : bk < (v.toInt.toNat + sz - 1) / sz := (blk_lt hsz.1).mpr hblt
        have hmul : (bk + 1) * sz = bk * sz + sz := Nat.succ_mul bk sz
        have hi9 : go1 = bk * sz := by rw [e2, hgd.2.1 hA0]; omega
        clear e4 e5
        subst hx9 hax9 hi9
        refine j_aload_n C dX9_read_42 1 rfl 43 rfl ?_
        refine j_iload_n C dX9_read_43 0 rfl 44 rfl ?_
        refine j_iload_n C dX9_read_44 0 rfl 45 rfl ?_
        refine j_aload_n C dX9_read_45 1 rfl 46 rfl ?_
        refine j_get C dX9_read_46 0 0 4 inX9_read_9 rfl rfl (by decide) rfl rfl rfl 49 rfl ?_
        refine j_sipush C dX9_read_49 (nI 1067) (by decide) 52 rfl ?_
        refine j_ialdI C dX9_read_52 1 rfl (Nat.le_of_ble_eq_true rfl) (Nat.le_of_ble_eq_true rfl) (nI sz) rfl 53 rfl ?_
        refine j_iadd C dX9_read_53 (nI (bk * sz + sz)) (nI_add (bk * sz) sz) 54 rfl ?_
        refine j_iload_n C dX9_read_54 2 rfl 55 rfl ?_
        refine j_callSi1 (As := [.int (nI (bk * sz + sz)), .int (nI (v.toInt.toNat))]) (rest := [.int (nI (bk * sz)), .ref (am 0)]) (wr := [(am 0, .inr (9, [.ref (am 1), .ref (am 2), .ref (am 3), .ref (am 4), .ref (am 5), .int (nI bm), .ref (am 6), .ref (am 7), .int (nI ((rA t L w sz ev v.toInt.toNat (bk)).2.2.1)), .int (nI 0), .int (nI wa1), .int (nI (bk * sz))])), (am 1, .inl (cI, 1072, .inl (stA w sz ev n f L b x y z))), (am 2, .inl (cI, 2144, .inl im)), (am 3, .inl (cZ, 2, .inl kf)), (am 4, .inl (cI, 64, .inl (aN rf1))), (am 5, .inl (cI, 1000, .inl (aN bf))), (am 6, .inl (cI, 65, .inl (aN lf))), (am 7, .inl (cI, 64, .inl (aN hf)))]) C (c_X9_less l D cI cZ cH (bk * sz + sz) (v.toInt.toNat) (by omega) (by omega)) gX9_read_X9_less dX9_read_55 rfl yd_X9_less.2 (Nat.le_of_ble_eq_true rfl) (Nat.le_of_ble_eq_true rfl) rfl _ rfl (Nat.le_of_ble_eq_true rfl) (Nat.zero_le _) (Nat.zero_le _) [] [0, 1, 2, 3, 4, 5, 6, 7] rfl rfl rfl rfl rfl (by decide) [0, 1, 2, 3, 4, 5, 6, 7] [(am 0, .inr (9, [.ref (am 1), .ref (am 2), .ref (am 3), .ref (am 4), .ref (am 5), .int (nI bm), .ref (am 6), .ref (am 7), .int (nI ((rA t L w sz ev v.toInt.toNat (bk)).2.2.1)), .int (nI 0), .int (nI wa1), .int (nI (bk * sz))])), (am 1, .inl (cI, 1072, .inl (stA w sz ev n f L b x y z))), (am 2, .inl (cI, 2144, .inl im)), (am 3, .inl (cZ, 2, .inl kf)), (am 4, .inl (cI, 64, .inl (aN rf1))), (am 5, .inl (cI, 1000, .inl (aN bf))), (am 6, .inl (cI, 65, .inl (aN lf))), (am 7, .inl (cI, 64, .inl (aN hf)))] rfl rfl rfl 58 rfl ?_
        refine j_top (nI (min v.toInt.toNat ((bk + 1) * sz))) (by congr 1; omega) ?_
        refine j_callVv (As := [.int (nI (bk * sz)), .int (nI (min v.toInt.toNat ((bk + 1) * sz)))]) (rest := []) (wr := [(am 2, .inl (cI, 2144, .inl im)), (am 3, .inl (cZ, 2, .inl kf)), (am 5, .inl (cI, 1000, .inl (aN bf))), (am 6, .inl (cI, 65, .inl (aN lf))), (am 7, .inl (cI, 64, .inl (aN hf)))]) C (c_X9_readBlock l D cI cZ cH (am 0) (am 1) (am 2) (am 3) (am 4) (am 5) bm (am 6) (am 7) ((rA t L w sz ev v.toInt.toNat (bk)).2.2.1) wa1 w sz ev n f L b x y z rf1 ((rA t L w sz ev v.toInt.toNat (bk)).2.2.2.1) (bk * sz) (min v.toInt.toNat ((bk + 1) * sz)) hw hsz hev (by omega) (fun j hj => by rw [hbt j hj]; exact ht j hj) hgd.1.1 (by omega) (by omega) e3 (fun j hj => hgd.1.2.2.1 j (by omega))) gX9_read_X9_readBlock dX9_read_58 rfl yd_X9_readBlock (Nat.le_of_ble_eq_true rfl) (Nat.le_of_ble_eq_true rfl) rfl rfl rfl _ rfl (Nat.le_of_ble_eq_true rfl) (Nat.zero_le _) (Nat.zero_le _) [0, 1, 4] [2, 3, 5, 6, 7] rfl rfl rfl rfl rfl (by decide) [5, 6, 0, 1, 7, 2, 3, 4] (fun u9 => [(am 0, .inr (9, [.ref (am 1), .ref (am 2), .ref (am 3), .ref (am 4), .ref (am 5), .int (nI bm), .ref (am 6), .ref (am 7), .int (nI (u9.1)), .int (nI (u9.2.2.1)), .int (nI (u9.2.2.2.1)), .int (nI (u9.2.2.2.2))])), (am 1, .inl (cI, 1072, .inl (stA w sz ev n f L b x y z))), (am 2, .inl (cI, 2144, .inl im)), (am 3, .inl (cZ, 2, .inl kf)), (am 4, .inl (cI, 64, .inl (aN (u9.2.1)))), (am 5, .inl (cI, 1000, .inl (aN bf))), (am 6, .inl (cI, 65, .inl (aN lf))), (am 7, .inl (cI, 64, .inl (aN hf)))]) (fun _ => rfl) (fun _ => rfl) rfl 61 rfl (fun u9 hpo58 => ?_)
        obtain ⟨ap2_58, rf2_58, wr2_58, wa2_58, go2_58⟩ := u9
        replace hpo58 : wr2_58 = (rblk b L w sz ev ((rA t L w sz ev v.toInt.toNat (bk)).2.2.1) ((rA t L w sz ev v.toInt.toNat (bk)).2.2.2.1) (bk * sz) (min v.toInt.toNat ((bk + 1) * sz))).1 ∧ go2_58 = (rblk b L w sz ev ((rA t L w sz ev v.toInt.toNat (bk)).2.2.1) ((rA t L w sz ev v.toInt.toNat (bk)).2.2.2.1) (bk * sz) (min v.toInt.toNat ((bk + 1) * sz))).2.2.2.2 ∧ (∀ j, j < go2_58 → rf2_58 j = (rblk b L w sz ev ((rA t L w sz ev v.toInt.toNat (bk)).2.2.1) ((rA t L w sz ev v.toInt.toNat (bk)).2.2.2.1) (bk * sz) (min v.toInt.toNat ((bk + 1) * sz))).2.2.2.1 j) ∧ ((rblk b L w sz ev ((rA t L w sz ev v.toInt.toNat (bk)).2.2.1) ((rA t L w sz ev v.toInt.toNat (bk)).2.2.2.1) (bk * sz) (min v.toInt.toNat ((bk + 1) * sz))).1 = 0 → ap2_58 = (rblk b L w sz ev ((rA t L w sz ev v.toInt.toNat (bk)).2.2.1) ((rA t L w sz ev v.toInt.toNat (bk)).2.2.2.1) (bk * sz) (min v.toInt.toNat ((bk + 1) * sz))).2.2.1) ∧ (¬ (rblk b L w sz ev ((rA t L w sz ev v.toInt.toNat (bk)).2.2.1) ((rA t L w sz ev v.toInt.toNat (bk)).2.2.2.1) (bk * sz) (min v.toInt.toNat ((bk + 1) * sz))).1 = 0 → wa2_58 = (rblk b L w sz ev ((rA t L w sz ev v.toInt.toNat (bk)).2.2.1) ((rA t L w sz ev v.toInt.toNat (bk)).2.2.2.1) (bk * sz) (min v.toInt.toNat ((bk + 1) * sz))).2.1) := hpo58
        show J D AX pX l eX _ sX mX _ bX methX cX 0 0 _ 3 [(am 0, .inr (9, [.ref (am 1), .ref (am 2), .ref (am 3), .ref (am 4), .ref (am 5), .int (nI bm), .ref (am 6), .ref (am 7), .int (nI ap2_58), .int (nI wr2_58), .int (nI wa2_58), .int (nI go2_58)])), (am 1, .inl (cI, 1072, .inl (stA w sz ev n f L b x y z))), (am 2, .inl (cI, 2144, .inl im)), (am 3, .inl (cZ, 2, .inl kf)), (am 4, .inl (cI, 64, .inl (aN rf2_58))), (am 5, .inl (cI, 1000, .inl (aN bf))), (am 6, .inl (cI, 65, .inl (aN lf))), (am 7, .inl (cI, 64, .inl (aN hf)))] [(2, .int (nI (bk * sz))), (0, .ref (am 0)), (1, .int (nI (v.toInt.toNat)))] 61 []
        have hA1 : rA t L w sz ev v.toInt.toNat (bk + 1) = rblk t L w sz ev ((rA t L w sz ev v.toInt.toNat (bk)).2.2.1) ((rA t L w sz ev v.toInt.toNat (bk)).2.2.2.1) (bk * sz) (min v.toInt.toNat ((bk + 1) * sz)) := by rw [rA, if_pos hA0]
        rw [rblk_c hbt, ← hA1] at hpo58
        have hst : wr2_58 = (rA t L w sz ev v.toInt.toNat (bk + 1)).1 ∧ go2_58 = (rA t L w sz ev v.toInt.toNat (bk + 1)).2.2.2.2 ∧ (∀ j, j < go2_58 → rf2_58 j = (rA t L w sz ev v.toInt.toNat (bk + 1)).2.2.2.1 j) ∧ ((rA t L w sz ev v.toInt.toNat (bk + 1)).1 = 0 → ap2_58 = (rA t L w sz ev v.toInt.toNat (bk + 1)).2.2.1) ∧ (¬ (rA t L w sz ev v.toInt.toNat (bk + 1)).1 = 0 → wa2_58 = (rA t L w sz ev v.toInt.toNat (bk + 1)).2.1) := hpo58
        refine j_iload_n C dX9_read_61 0 rfl 62 rfl ?_
        refine j_aload_n C dX9_read_62 1 rfl 63 rfl ?_
        refine j_get C dX9_read_63 0 0 4 inX9_read_9 rfl rfl (by decide) rfl rfl rfl 66 rfl ?_
        refine j_sipush C dX9_read_66 (nI 1067) (by decide) 69 rfl ?_
        refine j_ialdI C dX9_read_69 1 rfl (Nat.le_of_ble_eq_true rfl) (Nat.le_of_ble_eq_true rfl) (nI sz) rfl 70 rfl ?_
        refine j_iadd C dX9_read_70 (nI (bk * sz + sz)) (nI_add (bk * sz) sz) 71 rfl ?_
        refine j_istore_n C dX9_read_71 [(2, .int (nI (bk * sz + sz))), (0, .ref (am 0)), (1, .int (nI (v.toInt.toNat)))] (by decide) rfl 72 rfl ?_
        refine j_goto C dX9_read_72 30 (by decide) ?_
        refine j_lveq [(2, .int (nI ((bk + 1) * sz))), (0, .ref (am 0)), (1, .int (nI (v.toInt.toNat)))] (by rw [Nat.succ_mul]) ?_
        exact ih30 (bk + 1) ap2_58 rf2_58 wr2_58 wa2_58 go2_58 ⟨by omega, hst.1, hst.2.1, hst.2.2.1, hst.2.2.2.1, hst.2.2.2.2⟩ (by omega)
  · refine j_bipush C dX9_read_10 (-2) (by decide) 12 rfl ?_
    exact j_iret C dX9_read_12 ((w, sz, ev, n, f, L, b, x, y, z), im, kf, rf, bf, bm, lf, hf, ap, wr, wa, go) (by rw [show opRead ((w, sz, ev, n, g, L, t, x, y, z), b0, b1, kp) v = (-2, ((w, sz, ev, n, g, L, t, x, y, z), b0, b1, kp)) from (by first | rfl | (simp only [opRead]; (repeat' split) <;> first | rfl | (exfalso; omega)))]; exact ⟨rfl, hR0⟩) rfl
