set_option maxHeartbeats 4000000 in
set_option maxRecDepth 100000 in
theorem k_X9_sample (l : Launch) (D : va_G) (cI cZ cH : ClassId) (am : Nat → Nat) (A : AT) (Y : MT) (hR : MRel A Y) (i : Int32) : Mi l D cI cZ cH yX9_sample wsX9_sample 1 22 [.ref (am 0), .int i] (wM cI cZ am Y) (fun (r9 : Int32) (Y9 : MT) => r9 = (opSample A i).1 ∧ MRel (opSample A i).2 Y9) (wM cI cZ am) := by
  obtain ⟨⟨w, sz, ev, n, f, L, b, x, y, z⟩, im, kf, rf, bf, bm, lf, hf, ap, wr, wa, go⟩ := Y
  obtain ⟨⟨w2, sz2, ev2, n2, g, L2, t, x2, y2, z2⟩, b0, b1, kp⟩ := A
  have hR0 := hR
  obtain ⟨⟨hw, hsz, hev, hn, hg, hL, ht, hx5⟩, ⟨e1, e2, e3, e4, hfg, e6, hbt, e8, e9, e10⟩, hi0, hi1, hk0, hk1, hk4⟩ := hR
  dsimp only at hw hsz hev hn hg hL ht hx5 e1 e2 e3 e4 hfg e6 hbt e8 e9 e10 hi0 hi1 hk0 hk1 hk4
  subst e1 e2 e3 e4 e6 e8 e9 e10
  have hnb : nbk sz n ≤ 64 := nbk_le hsz.1 hn
  have ht255 := tpW_le hw.2
  refine Mi.start (cc := cX9_sample) (nL := 2) (ret := (some .int)) (lv0 := [(0, .ref (am 0)), (1, .int i)]) (by decide) rfl (Nat.le_of_ble_eq_true rfl) rfl ?_
  intro pX eX sX mX bX methX cX AX C
  show J D AX pX l eX _ sX mX _ bX methX cX 0 0 _ 2 [(am 0, .inr (9, [.ref (am 1), .ref (am 2), .ref (am 3), .ref (am 4), .ref (am 5), .int (nI bm), .ref (am 6), .ref (am 7), .int (nI ap), .int (nI wr), .int (nI wa), .int (nI go)])), (am 1, .inl (cI, 1072, .inl (stA w sz ev n f L b x y z))), (am 2, .inl (cI, 2144, .inl im)), (am 3, .inl (cZ, 2, .inl kf)), (am 4, .inl (cI, 64, .inl (aN rf))), (am 5, .inl (cI, 1000, .inl (aN bf))), (am 6, .inl (cI, 65, .inl (aN lf))), (am 7, .inl (cI, 64, .inl (aN hf)))] [(0, .ref (am 0)), (1, .int i)] 0 []
  refine j_iload_n C dX9_sample_0 1 rfl 1 rfl ?_
  refine j_iconst C dX9_sample_1 (nI 0) (by decide) 2 rfl ?_
  refine j_aload_n C dX9_sample_2 0 rfl 3 rfl ?_
  refine j_callVi1 (As := []) (rest := [.int (nI 0), .int i]) (wr := [(am 2, .inl (cI, 2144, .inl im)), (am 3, .inl (cZ, 2, .inl kf)), (am 4, .inl (cI, 64, .inl (aN rf))), (am 5, .inl (cI, 1000, .inl (aN bf))), (am 6, .inl (cI, 65, .inl (aN lf))), (am 7, .inl (cI, 64, .inl (aN hf)))]) C (c_X9_many l D cI cZ cH (am 0) (am 1) (am 2) (am 3) (am 4) (am 5) bm (am 6) (am 7) ap wr wa go w sz ev n f L b x y z ) gX9_sample_X9_many dX9_sample_3 rfl yd_X9_many (Nat.le_of_ble_eq_true rfl) (Nat.le_of_ble_eq_true rfl) rfl rfl rfl _ rfl (Nat.le_of_ble_eq_true rfl) (Nat.zero_le _) (Nat.zero_le _) [0, 1] [2, 3, 4, 5, 6, 7] rfl rfl rfl rfl rfl (by decide) [6, 7, 0, 1, 2, 3, 4, 5] [(am 0, .inr (9, [.ref (am 1), .ref (am 2), .ref (am 3), .ref (am 4), .ref (am 5), .int (nI bm), .ref (am 6), .ref (am 7), .int (nI ap), .int (nI wr), .int (nI wa), .int (nI go)])), (am 1, .inl (cI, 1072, .inl (stA w sz ev n f L b x y z))), (am 2, .inl (cI, 2144, .inl im)), (am 3, .inl (cZ, 2, .inl kf)), (am 4, .inl (cI, 64, .inl (aN rf))), (am 5, .inl (cI, 1000, .inl (aN bf))), (am 6, .inl (cI, 65, .inl (aN lf))), (am 7, .inl (cI, 64, .inl (aN hf)))] rfl rfl rfl 6 rfl ?_
  refine j_iconst C dX9_sample_6 (nI 1) (by decide) 7 rfl ?_
  refine j_isub C dX9_sample_7 (nI n - nI 1) rfl 8 rfl ?_
  refine j_callSi1 (As := [.int i, .int (nI 0), .int (nI n - nI 1)]) (rest := []) (wr := [(am 0, .inr (9, [.ref (am 1), .ref (am 2), .ref (am 3), .ref (am 4), .ref (am 5), .int (nI bm), .ref (am 6), .ref (am 7), .int (nI ap), .int (nI wr), .int (nI wa), .int (nI go)])), (am 1, .inl (cI, 1072, .inl (stA w sz ev n f L b x y z))), (am 2, .inl (cI, 2144, .inl im)), (am 3, .inl (cZ, 2, .inl kf)), (am 4, .inl (cI, 64, .inl (aN rf))), (am 5, .inl (cI, 1000, .inl (aN bf))), (am 6, .inl (cI, 65, .inl (aN lf))), (am 7, .inl (cI, 64, .inl (aN hf)))]) C (c_X9_in l D cI cZ cH i (nI 0) (nI n - nI 1) ((i).toInt) (((0 : Nat) : Int)) ((n : Int) - 1) rfl (q_t (n := 0) (Nat.le_of_ble_eq_true rfl)) (q_m1t (by omega))) gX9_sample_X9_in dX9_sample_8 rfl yd_X9_in.2 (Nat.le_of_ble_eq_true rfl) (Nat.le_of_ble_eq_true rfl) rfl _ rfl (Nat.le_of_ble_eq_true rfl) (Nat.zero_le _) (Nat.zero_le _) [] [0, 1, 2, 3, 4, 5, 6, 7] rfl rfl rfl rfl rfl (by decide) [0, 1, 2, 3, 4, 5, 6, 7] [(am 0, .inr (9, [.ref (am 1), .ref (am 2), .ref (am 3), .ref (am 4), .ref (am 5), .int (nI bm), .ref (am 6), .ref (am 7), .int (nI ap), .int (nI wr), .int (nI wa), .int (nI go)])), (am 1, .inl (cI, 1072, .inl (stA w sz ev n f L b x y z))), (am 2, .inl (cI, 2144, .inl im)), (am 3, .inl (cZ, 2, .inl kf)), (am 4, .inl (cI, 64, .inl (aN rf))), (am 5, .inl (cI, 1000, .inl (aN bf))), (am 6, .inl (cI, 65, .inl (aN lf))), (am 7, .inl (cI, 64, .inl (aN hf)))] rfl rfl rfl 11 rfl ?_
  refine j_ifb_eq C dX9_sample_11 23 (by decide) 14 rfl (fun h11 => ?_) (fun h11 => ?_)
  · refine j_bipush C dX9_sample_23 (-6) (by decide) 25 rfl ?_
    exact j_iret C dX9_sample_25 ((w, sz, ev, n, f, L, b, x, y, z), im, kf, rf, bf, bm, lf, hf, ap, wr, wa, go) (by rw [show opSample ((w, sz, ev, n, g, L, t, x, y, z), b0, b1, kp) i = (-6, ((w, sz, ev, n, g, L, t, x, y, z), b0, b1, kp)) from (by simp only [opSample, rAt]; (repeat' split) <;> first | rfl | (exfalso; omega))]; exact ⟨rfl, hR0⟩) rfl
  · refine j_lveq [(0, .ref (am 0)), (1, .int (nI (i.toInt.toNat)))] (by rw [← q_nn (i := i) (by omega)]) ?_
    refine j_aload_n C dX9_sample_14 0 rfl 15 rfl ?_
    refine j_get C dX9_sample_15 0 0 1 inX9_sample_9 rfl rfl (by decide) rfl rfl rfl 18 rfl ?_
    refine j_iload_n C dX9_sample_18 1 rfl 19 rfl ?_
    refine j_ialdI C dX9_sample_19 1 rfl (by omega) (Nat.le_of_ble_eq_true rfl) (nI (f (i.toInt.toNat))) (stA_row (by omega)) 20 rfl ?_
    refine j_top (nI (g i.toInt.toNat)) (by rw [hfg _ (by omega)]) ?_
    refine j_goto C dX9_sample_20 25 (by decide) ?_
    exact j_iret C dX9_sample_25 ((w, sz, ev, n, f, L, b, x, y, z), im, kf, rf, bf, bm, lf, hf, ap, wr, wa, go) (by rw [show opSample ((w, sz, ev, n, g, L, t, x, y, z), b0, b1, kp) i = (nI (g i.toInt.toNat), ((w, sz, ev, n, g, L, t, x, y, z), b0, b1, kp)) from (by simp only [opSample, rAt]; (repeat' split) <;> first | rfl | (exfalso; omega))]; exact ⟨rfl, hR0⟩) rfl
set_option maxHeartbeats 4000000 in
set_option maxRecDepth 100000 in
theorem k_X9_ahead (l : Launch) (D : va_G) (cI cZ cH : ClassId) (am : Nat → Nat) (A : AT) (Y : MT) (hR : MRel A Y) (i : Int32) (way : Int32) (what : Int32) : Mi l D cI cZ cH yX9_ahead wsX9_ahead 3 66 [.ref (am 0), .int i, .int way, .int what] (wM cI cZ am Y) (fun (r9 : Int32) (Y9 : MT) => r9 = (opAhead A i way what).1 ∧ MRel (opAhead A i way what).2 Y9) (wM cI cZ am) := by
  obtain ⟨⟨w, sz, ev, n, f, L, b, x, y, z⟩, im, kf, rf, bf, bm, lf, hf, ap, wr, wa, go⟩ := Y
  obtain ⟨⟨w2, sz2, ev2, n2, g, L2, t, x2, y2, z2⟩, b0, b1, kp⟩ := A
  have hR0 := hR
  obtain ⟨⟨hw, hsz, hev, hn, hg, hL, ht, hx5⟩, ⟨e1, e2, e3, e4, hfg, e6, hbt, e8, e9, e10⟩, hi0, hi1, hk0, hk1, hk4⟩ := hR
  dsimp only at hw hsz hev hn hg hL ht hx5 e1 e2 e3 e4 hfg e6 hbt e8 e9 e10 hi0 hi1 hk0 hk1 hk4
  subst e1 e2 e3 e4 e6 e8 e9 e10
  have hnb : nbk sz n ≤ 64 := nbk_le hsz.1 hn
  have ht255 := tpW_le hw.2
  refine Mi.start (cc := cX9_ahead) (nL := 5) (ret := (some .int)) (lv0 := [(0, .ref (am 0)), (1, .int i), (2, .int way), (3, .int what)]) (by decide) rfl (Nat.le_of_ble_eq_true rfl) rfl ?_
  intro pX eX sX mX bX methX cX AX C
  show J D AX pX l eX _ sX mX _ bX methX cX 0 0 _ 5 [(am 0, .inr (9, [.ref (am 1), .ref (am 2), .ref (am 3), .ref (am 4), .ref (am 5), .int (nI bm), .ref (am 6), .ref (am 7), .int (nI ap), .int (nI wr), .int (nI wa), .int (nI go)])), (am 1, .inl (cI, 1072, .inl (stA w sz ev n f L b x y z))), (am 2, .inl (cI, 2144, .inl im)), (am 3, .inl (cZ, 2, .inl kf)), (am 4, .inl (cI, 64, .inl (aN rf))), (am 5, .inl (cI, 1000, .inl (aN bf))), (am 6, .inl (cI, 65, .inl (aN lf))), (am 7, .inl (cI, 64, .inl (aN hf)))] [(0, .ref (am 0)), (1, .int i), (2, .int way), (3, .int what)] 0 []
  refine j_iload_n C dX9_ahead_0 2 rfl 1 rfl ?_
  refine j_iconst C dX9_ahead_1 (nI 0) (by decide) 2 rfl ?_
  refine j_iconst C dX9_ahead_2 (nI 3) (by decide) 3 rfl ?_
  refine j_callSi1 (As := [.int way, .int (nI 0), .int (nI 3)]) (rest := []) (wr := [(am 0, .inr (9, [.ref (am 1), .ref (am 2), .ref (am 3), .ref (am 4), .ref (am 5), .int (nI bm), .ref (am 6), .ref (am 7), .int (nI ap), .int (nI wr), .int (nI wa), .int (nI go)])), (am 1, .inl (cI, 1072, .inl (stA w sz ev n f L b x y z))), (am 2, .inl (cI, 2144, .inl im)), (am 3, .inl (cZ, 2, .inl kf)), (am 4, .inl (cI, 64, .inl (aN rf))), (am 5, .inl (cI, 1000, .inl (aN bf))), (am 6, .inl (cI, 65, .inl (aN lf))), (am 7, .inl (cI, 64, .inl (aN hf)))]) C (c_X9_in l D cI cZ cH way (nI 0) (nI 3) ((way).toInt) (((0 : Nat) : Int)) (((3 : Nat) : Int)) rfl (q_t (n := 0) (Nat.le_of_ble_eq_true rfl)) (q_t (n := 3) (Nat.le_of_ble_eq_true rfl))) gX9_ahead_X9_in dX9_ahead_3 rfl yd_X9_in.2 (Nat.le_of_ble_eq_true rfl) (Nat.le_of_ble_eq_true rfl) rfl _ rfl (Nat.le_of_ble_eq_true rfl) (Nat.zero_le _) (Nat.zero_le _) [] [0, 1, 2, 3, 4, 5, 6, 7] rfl rfl rfl rfl rfl (by decide) [0, 1, 2, 3, 4, 5, 6, 7] [(am 0, .inr (9, [.ref (am 1), .ref (am 2), .ref (am 3), .ref (am 4), .ref (am 5), .int (nI bm), .ref (am 6), .ref (am 7), .int (nI ap), .int (nI wr), .int (nI wa), .int (nI go)])), (am 1, .inl (cI, 1072, .inl (stA w sz ev n f L b x y z))), (am 2, .inl (cI, 2144, .inl im)), (am 3, .inl (cZ, 2, .inl kf)), (am 4, .inl (cI, 64, .inl (aN rf))), (am 5, .inl (cI, 1000, .inl (aN bf))), (am 6, .inl (cI, 65, .inl (aN lf))), (am 7, .inl (cI, 64, .inl (aN hf)))] rfl rfl rfl 6 rfl ?_
  refine j_ifb_eq C dX9_ahead_6 18 (by decide) 9 rfl (fun h6 => ?_) (fun h6 => ?_)
  · refine j_bipush C dX9_ahead_18 (-2) (by decide) 20 rfl ?_
    exact j_iret C dX9_ahead_20 ((w, sz, ev, n, f, L, b, x, y, z), im, kf, rf, bf, bm, lf, hf, ap, wr, wa, go) (by rw [show opAhead ((w, sz, ev, n, g, L, t, x, y, z), b0, b1, kp) i way what = (-2, ((w, sz, ev, n, g, L, t, x, y, z), b0, b1, kp)) from (by simp only [opAhead, aheadR]; (repeat' split) <;> first | rfl | (exfalso; omega))]; exact ⟨rfl, hR0⟩) rfl
  · refine j_iload_n C dX9_ahead_9 3 rfl 10 rfl ?_
    refine j_iconst C dX9_ahead_10 (nI 0) (by decide) 11 rfl ?_
    refine j_iconst C dX9_ahead_11 (nI 1) (by decide) 12 rfl ?_
    refine j_callSi1 (As := [.int what, .int (nI 0), .int (nI 1)]) (rest := []) (wr := [(am 0, .inr (9, [.ref (am 1), .ref (am 2), .ref (am 3), .ref (am 4), .ref (am 5), .int (nI bm), .ref (am 6), .ref (am 7), .int (nI ap), .int (nI wr), .int (nI wa), .int (nI go)])), (am 1, .inl (cI, 1072, .inl (stA w sz ev n f L b x y z))), (am 2, .inl (cI, 2144, .inl im)), (am 3, .inl (cZ, 2, .inl kf)), (am 4, .inl (cI, 64, .inl (aN rf))), (am 5, .inl (cI, 1000, .inl (aN bf))), (am 6, .inl (cI, 65, .inl (aN lf))), (am 7, .inl (cI, 64, .inl (aN hf)))]) C (c_X9_in l D cI cZ cH what (nI 0) (nI 1) ((what).toInt) (((0 : Nat) : Int)) (((1 : Nat) : Int)) rfl (q_t (n := 0) (Nat.le_of_ble_eq_true rfl)) (q_t (n := 1) (Nat.le_of_ble_eq_true rfl))) gX9_ahead_X9_in dX9_ahead_12 rfl yd_X9_in.2 (Nat.le_of_ble_eq_true rfl) (Nat.le_of_ble_eq_true rfl) rfl _ rfl (Nat.le_of_ble_eq_true rfl) (Nat.zero_le _) (Nat.zero_le _) [] [0, 1, 2, 3, 4, 5, 6, 7] rfl rfl rfl rfl rfl (by decide) [0, 1, 2, 3, 4, 5, 6, 7] [(am 0, .inr (9, [.ref (am 1), .ref (am 2), .ref (am 3), .ref (am 4), .ref (am 5), .int (nI bm), .ref (am 6), .ref (am 7), .int (nI ap), .int (nI wr), .int (nI wa), .int (nI go)])), (am 1, .inl (cI, 1072, .inl (stA w sz ev n f L b x y z))), (am 2, .inl (cI, 2144, .inl im)), (am 3, .inl (cZ, 2, .inl kf)), (am 4, .inl (cI, 64, .inl (aN rf))), (am 5, .inl (cI, 1000, .inl (aN bf))), (am 6, .inl (cI, 65, .inl (aN lf))), (am 7, .inl (cI, 64, .inl (aN hf)))] rfl rfl rfl 15 rfl ?_
    refine j_ifb_ne C dX9_ahead_15 21 (by decide) 18 rfl (fun h15 => ?_) (fun h15 => ?_)
    · refine j_iload_n C dX9_ahead_21 1 rfl 22 rfl ?_
      refine j_iconst C dX9_ahead_22 (nI 0) (by decide) 23 rfl ?_
      refine j_aload_n C dX9_ahead_23 0 rfl 24 rfl ?_
      refine j_callVi1 (As := []) (rest := [.int (nI 0), .int i]) (wr := [(am 2, .inl (cI, 2144, .inl im)), (am 3, .inl (cZ, 2, .inl kf)), (am 4, .inl (cI, 64, .inl (aN rf))), (am 5, .inl (cI, 1000, .inl (aN bf))), (am 6, .inl (cI, 65, .inl (aN lf))), (am 7, .inl (cI, 64, .inl (aN hf)))]) C (c_X9_many l D cI cZ cH (am 0) (am 1) (am 2) (am 3) (am 4) (am 5) bm (am 6) (am 7) ap wr wa go w sz ev n f L b x y z ) gX9_ahead_X9_many dX9_ahead_24 rfl yd_X9_many (Nat.le_of_ble_eq_true rfl) (Nat.le_of_ble_eq_true rfl) rfl rfl rfl _ rfl (Nat.le_of_ble_eq_true rfl) (Nat.zero_le _) (Nat.zero_le _) [0, 1] [2, 3, 4, 5, 6, 7] rfl rfl rfl rfl rfl (by decide) [6, 7, 0, 1, 2, 3, 4, 5] [(am 0, .inr (9, [.ref (am 1), .ref (am 2), .ref (am 3), .ref (am 4), .ref (am 5), .int (nI bm), .ref (am 6), .ref (am 7), .int (nI ap), .int (nI wr), .int (nI wa), .int (nI go)])), (am 1, .inl (cI, 1072, .inl (stA w sz ev n f L b x y z))), (am 2, .inl (cI, 2144, .inl im)), (am 3, .inl (cZ, 2, .inl kf)), (am 4, .inl (cI, 64, .inl (aN rf))), (am 5, .inl (cI, 1000, .inl (aN bf))), (am 6, .inl (cI, 65, .inl (aN lf))), (am 7, .inl (cI, 64, .inl (aN hf)))] rfl rfl rfl 27 rfl ?_
      refine j_iconst C dX9_ahead_27 (nI 1) (by decide) 28 rfl ?_
      refine j_isub C dX9_ahead_28 (nI n - nI 1) rfl 29 rfl ?_
      refine j_callSi1 (As := [.int i, .int (nI 0), .int (nI n - nI 1)]) (rest := []) (wr := [(am 0, .inr (9, [.ref (am 1), .ref (am 2), .ref (am 3), .ref (am 4), .ref (am 5), .int (nI bm), .ref (am 6), .ref (am 7), .int (nI ap), .int (nI wr), .int (nI wa), .int (nI go)])), (am 1, .inl (cI, 1072, .inl (stA w sz ev n f L b x y z))), (am 2, .inl (cI, 2144, .inl im)), (am 3, .inl (cZ, 2, .inl kf)), (am 4, .inl (cI, 64, .inl (aN rf))), (am 5, .inl (cI, 1000, .inl (aN bf))), (am 6, .inl (cI, 65, .inl (aN lf))), (am 7, .inl (cI, 64, .inl (aN hf)))]) C (c_X9_in l D cI cZ cH i (nI 0) (nI n - nI 1) ((i).toInt) (((0 : Nat) : Int)) ((n : Int) - 1) rfl (q_t (n := 0) (Nat.le_of_ble_eq_true rfl)) (q_m1t (by omega))) gX9_ahead_X9_in dX9_ahead_29 rfl yd_X9_in.2 (Nat.le_of_ble_eq_true rfl) (Nat.le_of_ble_eq_true rfl) rfl _ rfl (Nat.le_of_ble_eq_true rfl) (Nat.zero_le _) (Nat.zero_le _) [] [0, 1, 2, 3, 4, 5, 6, 7] rfl rfl rfl rfl rfl (by decide) [0, 1, 2, 3, 4, 5, 6, 7] [(am 0, .inr (9, [.ref (am 1), .ref (am 2), .ref (am 3), .ref (am 4), .ref (am 5), .int (nI bm), .ref (am 6), .ref (am 7), .int (nI ap), .int (nI wr), .int (nI wa), .int (nI go)])), (am 1, .inl (cI, 1072, .inl (stA w sz ev n f L b x y z))), (am 2, .inl (cI, 2144, .inl im)), (am 3, .inl (cZ, 2, .inl kf)), (am 4, .inl (cI, 64, .inl (aN rf))), (am 5, .inl (cI, 1000, .inl (aN bf))), (am 6, .inl (cI, 65, .inl (aN lf))), (am 7, .inl (cI, 64, .inl (aN hf)))] rfl rfl rfl 32 rfl ?_
      refine j_ifb_eq C dX9_ahead_32 43 (by decide) 35 rfl (fun h32 => ?_) (fun h32 => ?_)
      · refine j_bipush C dX9_ahead_43 (-6) (by decide) 45 rfl ?_
        exact j_iret C dX9_ahead_45 ((w, sz, ev, n, f, L, b, x, y, z), im, kf, rf, bf, bm, lf, hf, ap, wr, wa, go) (by rw [show opAhead ((w, sz, ev, n, g, L, t, x, y, z), b0, b1, kp) i way what = (-6, ((w, sz, ev, n, g, L, t, x, y, z), b0, b1, kp)) from (by simp only [opAhead, aheadR]; (repeat' split) <;> first | rfl | (exfalso; omega))]; exact ⟨rfl, hR0⟩) rfl
      · refine j_lveq [(0, .ref (am 0)), (1, .int (nI (i.toInt.toNat))), (2, .int way), (3, .int what)] (by rw [← q_nn (i := i) (by omega)]) ?_
        refine j_aload_n C dX9_ahead_35 0 rfl 36 rfl ?_
        refine j_iload_n C dX9_ahead_36 1 rfl 37 rfl ?_
        refine j_callVi1 (As := [.int (nI (i.toInt.toNat))]) (rest := []) (wr := [(am 2, .inl (cI, 2144, .inl im)), (am 3, .inl (cZ, 2, .inl kf)), (am 4, .inl (cI, 64, .inl (aN rf))), (am 5, .inl (cI, 1000, .inl (aN bf))), (am 6, .inl (cI, 65, .inl (aN lf))), (am 7, .inl (cI, 64, .inl (aN hf)))]) C (c_X9_isBare l D cI cZ cH (am 0) (am 1) (am 2) (am 3) (am 4) (am 5) bm (am 6) (am 7) ap wr wa go w sz ev n f L b x y z (i.toInt.toNat) (by omega) (by omega) (by omega)) gX9_ahead_X9_isBare dX9_ahead_37 rfl yd_X9_isBare (Nat.le_of_ble_eq_true rfl) (Nat.le_of_ble_eq_true rfl) rfl rfl rfl _ rfl (Nat.le_of_ble_eq_true rfl) (Nat.zero_le _) (Nat.zero_le _) [0, 1] [2, 3, 4, 5, 6, 7] rfl rfl rfl rfl rfl (by decide) [6, 7, 0, 1, 2, 3, 4, 5] [(am 0, .inr (9, [.ref (am 1), .ref (am 2), .ref (am 3), .ref (am 4), .ref (am 5), .int (nI bm), .ref (am 6), .ref (am 7), .int (nI ap), .int (nI wr), .int (nI wa), .int (nI go)])), (am 1, .inl (cI, 1072, .inl (stA w sz ev n f L b x y z))), (am 2, .inl (cI, 2144, .inl im)), (am 3, .inl (cZ, 2, .inl kf)), (am 4, .inl (cI, 64, .inl (aN rf))), (am 5, .inl (cI, 1000, .inl (aN bf))), (am 6, .inl (cI, 65, .inl (aN lf))), (am 7, .inl (cI, 64, .inl (aN hf)))] rfl rfl rfl 40 rfl ?_
        refine j_ifb_eq C dX9_ahead_40 46 (by decide) 43 rfl (fun h40 => ?_) (fun h40 => ?_)
        · have hi1 := pos_of_mod h40
          refine j_lveq [(0, .ref (am 0)), (1, .int (nI (i.toInt.toNat))), (2, .int (nI (way.toInt.toNat))), (3, .int what)] (by rw [← q_nn (i := way) (by omega)]) ?_
          refine j_aload_n C dX9_ahead_46 0 rfl 47 rfl ?_
          refine j_callVv1 (As := []) (rest := []) (wr := [(am 2, .inl (cI, 2144, .inl im)), (am 3, .inl (cZ, 2, .inl kf)), (am 5, .inl (cI, 1000, .inl (aN bf))), (am 6, .inl (cI, 65, .inl (aN lf))), (am 7, .inl (cI, 64, .inl (aN hf)))]) C (c_X9_takeRow l D cI cZ cH (am 0) (am 1) (am 2) (am 3) (am 4) (am 5) bm (am 6) (am 7) ap wr wa go w sz ev n f L b x y z rf (by omega)) gX9_ahead_X9_takeRow dX9_ahead_47 rfl yd_X9_takeRow (Nat.le_of_ble_eq_true rfl) (Nat.le_of_ble_eq_true rfl) rfl rfl rfl _ rfl (Nat.le_of_ble_eq_true rfl) (Nat.zero_le _) (Nat.zero_le _) [0, 1, 4] [2, 3, 5, 6, 7] rfl rfl rfl rfl rfl (by decide) [5, 6, 0, 1, 7, 2, 3, 4] [(am 0, .inr (9, [.ref (am 1), .ref (am 2), .ref (am 3), .ref (am 4), .ref (am 5), .int (nI bm), .ref (am 6), .ref (am 7), .int (nI ap), .int (nI wr), .int (nI wa), .int (nI go)])), (am 1, .inl (cI, 1072, .inl (stA w sz ev n f L b x y z))), (am 2, .inl (cI, 2144, .inl im)), (am 3, .inl (cZ, 2, .inl kf)), (am 4, .inl (cI, 64, .inl (aN (upT f rf n)))), (am 5, .inl (cI, 1000, .inl (aN bf))), (am 6, .inl (cI, 65, .inl (aN lf))), (am 7, .inl (cI, 64, .inl (aN hf)))] rfl rfl rfl 50 rfl ?_
          have hrq : ∀ j, j < n → upT f rf n j = g j := fun j hj => by rw [upT_in hj]; exact hfg j hj
          refine j_aload_n C dX9_ahead_50 0 rfl 51 rfl ?_
          refine j_iload_n C dX9_ahead_51 1 rfl 52 rfl ?_
          refine j_iload_n C dX9_ahead_52 2 rfl 53 rfl ?_
          refine j_callVi1 (As := [.int (nI (i.toInt.toNat)), .int (nI (way.toInt.toNat))]) (rest := []) (wr := [(am 2, .inl (cI, 2144, .inl im)), (am 3, .inl (cZ, 2, .inl kf)), (am 5, .inl (cI, 1000, .inl (aN bf))), (am 6, .inl (cI, 65, .inl (aN lf))), (am 7, .inl (cI, 64, .inl (aN hf)))]) C (c_X9_expected l D cI cZ cH (am 0) (am 1) (am 2) (am 3) (am 4) (am 5) bm (am 6) (am 7) ap wr wa go w sz ev n f L b x y z (upT f rf n) g (i.toInt.toNat) (way.toInt.toNat) hw hsz hev (fun j hj => hrq j (by omega)) (fun j hj => hg j (by omega)) (by omega) (by omega) (by omega)) gX9_ahead_X9_expected dX9_ahead_53 rfl yd_X9_expected (Nat.le_of_ble_eq_true rfl) (Nat.le_of_ble_eq_true rfl) rfl rfl rfl _ rfl (Nat.le_of_ble_eq_true rfl) (Nat.zero_le _) (Nat.zero_le _) [0, 1, 4] [2, 3, 5, 6, 7] rfl rfl rfl rfl rfl (by decide) [5, 6, 0, 1, 7, 2, 3, 4] [(am 0, .inr (9, [.ref (am 1), .ref (am 2), .ref (am 3), .ref (am 4), .ref (am 5), .int (nI bm), .ref (am 6), .ref (am 7), .int (nI ap), .int (nI wr), .int (nI wa), .int (nI go)])), (am 1, .inl (cI, 1072, .inl (stA w sz ev n f L b x y z))), (am 2, .inl (cI, 2144, .inl im)), (am 3, .inl (cZ, 2, .inl kf)), (am 4, .inl (cI, 64, .inl (aN (upT f rf n)))), (am 5, .inl (cI, 1000, .inl (aN bf))), (am 6, .inl (cI, 65, .inl (aN lf))), (am 7, .inl (cI, 64, .inl (aN hf)))] rfl rfl rfl 56 rfl ?_
          have hto := told_le (sz := sz) (ev := ev) (way := way.toInt.toNat) hw.1 hg hi1 (by omega)
          refine j_istore C dX9_ahead_56 [(4, .int (nI (told w sz ev g (i.toInt.toNat) (way.toInt.toNat)))), (0, .ref (am 0)), (1, .int (nI (i.toInt.toNat))), (2, .int (nI (way.toInt.toNat))), (3, .int what)] (by decide) rfl 58 rfl ?_
          refine j_iload_n C dX9_ahead_58 4 rfl 59 rfl ?_
          refine j_if_ne C dX9_ahead_59 67 (by decide) rfl 62 rfl (fun h59 => ?_) (fun h59 => ?_)
          · refine j_aload_n C dX9_ahead_67 1 rfl 68 rfl ?_
            refine j_aload_n C dX9_ahead_68 1 rfl 69 rfl ?_
            refine j_get C dX9_ahead_69 0 3 1 inX9_ahead_9 rfl rfl (by decide) rfl rfl rfl 72 rfl ?_
            refine j_iload_n C dX9_ahead_72 2 rfl 73 rfl ?_
            refine j_iald C dX9_ahead_73 4 rfl (by omega) (Nat.le_of_ble_eq_true rfl) 74 rfl ?_
            refine j_top (nI (g i.toInt.toNat)) (by rw [hrq _ (by omega)]) ?_
            have hgi := hg i.toInt.toNat (by omega)
            refine j_iload C dX9_ahead_74 0 rfl 76 rfl ?_
            refine j_callVi1 (As := [.int (nI (g i.toInt.toNat)), .int (nI (told w sz ev g (i.toInt.toNat) (way.toInt.toNat)))]) (rest := []) (wr := [(am 2, .inl (cI, 2144, .inl im)), (am 3, .inl (cZ, 2, .inl kf)), (am 4, .inl (cI, 64, .inl (aN (upT f rf n)))), (am 5, .inl (cI, 1000, .inl (aN bf))), (am 6, .inl (cI, 65, .inl (aN lf))), (am 7, .inl (cI, 64, .inl (aN hf)))]) C (c_X9_fold l D cI cZ cH (am 0) (am 1) (am 2) (am 3) (am 4) (am 5) bm (am 6) (am 7) ap wr wa go w sz ev n f L b x y z (g i.toInt.toNat) (told w sz ev g (i.toInt.toNat) (way.toInt.toNat)) (by omega) (by omega) (by omega)) gX9_ahead_X9_fold dX9_ahead_76 rfl yd_X9_fold (Nat.le_of_ble_eq_true rfl) (Nat.le_of_ble_eq_true rfl) rfl rfl rfl _ rfl (Nat.le_of_ble_eq_true rfl) (Nat.zero_le _) (Nat.zero_le _) [0, 1] [2, 3, 4, 5, 6, 7] rfl rfl rfl rfl rfl (by decide) [6, 7, 0, 1, 2, 3, 4, 5] [(am 0, .inr (9, [.ref (am 1), .ref (am 2), .ref (am 3), .ref (am 4), .ref (am 5), .int (nI bm), .ref (am 6), .ref (am 7), .int (nI ap), .int (nI wr), .int (nI wa), .int (nI go)])), (am 1, .inl (cI, 1072, .inl (stA w sz ev n f L b x y z))), (am 2, .inl (cI, 2144, .inl im)), (am 3, .inl (cZ, 2, .inl kf)), (am 4, .inl (cI, 64, .inl (aN (upT f rf n)))), (am 5, .inl (cI, 1000, .inl (aN bf))), (am 6, .inl (cI, 65, .inl (aN lf))), (am 7, .inl (cI, 64, .inl (aN hf)))] rfl rfl rfl 79 rfl ?_
            exact j_iret C dX9_ahead_79 ((w, sz, ev, n, f, L, b, x, y, z), im, kf, upT f rf n, bf, bm, lf, hf, ap, wr, wa, go) (by rw [show opAhead ((w, sz, ev, n, g, L, t, x, y, z), b0, b1, kp) i way what = (nI (foldN (g i.toInt.toNat) (told w sz ev g (i.toInt.toNat) (way.toInt.toNat)) (tpW w)), ((w, sz, ev, n, g, L, t, x, y, z), b0, b1, kp)) from (by simp only [opAhead, aheadR]; (repeat' split) <;> first | rfl | (exfalso; omega))]; exact ⟨rfl, hR0⟩) rfl
          · refine j_iload C dX9_ahead_62 0 rfl 64 rfl ?_
            refine j_goto C dX9_ahead_64 79 (by decide) ?_
            exact j_iret C dX9_ahead_79 ((w, sz, ev, n, f, L, b, x, y, z), im, kf, upT f rf n, bf, bm, lf, hf, ap, wr, wa, go) (by rw [show opAhead ((w, sz, ev, n, g, L, t, x, y, z), b0, b1, kp) i way what = (nI (told w sz ev g (i.toInt.toNat) (way.toInt.toNat)), ((w, sz, ev, n, g, L, t, x, y, z), b0, b1, kp)) from (by simp only [opAhead, aheadR]; (repeat' split) <;> first | rfl | (exfalso; omega))]; exact ⟨rfl, hR0⟩) rfl
        · refine j_bipush C dX9_ahead_43 (-6) (by decide) 45 rfl ?_
          exact j_iret C dX9_ahead_45 ((w, sz, ev, n, f, L, b, x, y, z), im, kf, rf, bf, bm, lf, hf, ap, wr, wa, go) (by rw [show opAhead ((w, sz, ev, n, g, L, t, x, y, z), b0, b1, kp) i way what = (-6, ((w, sz, ev, n, g, L, t, x, y, z), b0, b1, kp)) from (by simp only [opAhead, aheadR]; (repeat' split) <;> first | rfl | (exfalso; omega))]; exact ⟨rfl, hR0⟩) rfl
    · refine j_bipush C dX9_ahead_18 (-2) (by decide) 20 rfl ?_
      exact j_iret C dX9_ahead_20 ((w, sz, ev, n, f, L, b, x, y, z), im, kf, rf, bf, bm, lf, hf, ap, wr, wa, go) (by rw [show opAhead ((w, sz, ev, n, g, L, t, x, y, z), b0, b1, kp) i way what = (-2, ((w, sz, ev, n, g, L, t, x, y, z), b0, b1, kp)) from (by simp only [opAhead, aheadR]; (repeat' split) <;> first | rfl | (exfalso; omega))]; exact ⟨rfl, hR0⟩) rfl
set_option maxHeartbeats 4000000 in
set_option maxRecDepth 100000 in
theorem k_X9_cost (l : Launch) (D : va_G) (cI cZ cH : ClassId) (am : Nat → Nat) (A : AT) (Y : MT) (hR : MRel A Y) (bi : Int32) (way : Int32) (code : Int32) : Mi l D cI cZ cH yX9_cost wsX9_cost 4 92 [.ref (am 0), .int bi, .int way, .int code] (wM cI cZ am Y) (fun (r9 : Int32) (Y9 : MT) => r9 = (opCost A bi way code).1 ∧ MRel (opCost A bi way code).2 Y9) (wM cI cZ am) := by
  obtain ⟨⟨w, sz, ev, n, f, L, b, x, y, z⟩, im, kf, rf, bf, bm, lf, hf, ap, wr, wa, go⟩ := Y
  obtain ⟨⟨w2, sz2, ev2, n2, g, L2, t, x2, y2, z2⟩, b0, b1, kp⟩ := A
  have hR0 := hR
  obtain ⟨⟨hw, hsz, hev, hn, hg, hL, ht, hx5⟩, ⟨e1, e2, e3, e4, hfg, e6, hbt, e8, e9, e10⟩, hi0, hi1, hk0, hk1, hk4⟩ := hR
  dsimp only at hw hsz hev hn hg hL ht hx5 e1 e2 e3 e4 hfg e6 hbt e8 e9 e10 hi0 hi1 hk0 hk1 hk4
  subst e1 e2 e3 e4 e6 e8 e9 e10
  have hnb : nbk sz n ≤ 64 := nbk_le hsz.1 hn
  have ht255 := tpW_le hw.2
  refine Mi.start (cc := cX9_cost) (nL := 4) (ret := (some .int)) (lv0 := [(0, .ref (am 0)), (1, .int bi), (2, .int way), (3, .int code)]) (by decide) rfl (Nat.le_of_ble_eq_true rfl) rfl ?_
  intro pX eX sX mX bX methX cX AX C
  show J D AX pX l eX _ sX mX _ bX methX cX 0 0 _ 4 [(am 0, .inr (9, [.ref (am 1), .ref (am 2), .ref (am 3), .ref (am 4), .ref (am 5), .int (nI bm), .ref (am 6), .ref (am 7), .int (nI ap), .int (nI wr), .int (nI wa), .int (nI go)])), (am 1, .inl (cI, 1072, .inl (stA w sz ev n f L b x y z))), (am 2, .inl (cI, 2144, .inl im)), (am 3, .inl (cZ, 2, .inl kf)), (am 4, .inl (cI, 64, .inl (aN rf))), (am 5, .inl (cI, 1000, .inl (aN bf))), (am 6, .inl (cI, 65, .inl (aN lf))), (am 7, .inl (cI, 64, .inl (aN hf)))] [(0, .ref (am 0)), (1, .int bi), (2, .int way), (3, .int code)] 0 []
  refine j_iload_n C dX9_cost_0 2 rfl 1 rfl ?_
  refine j_iconst C dX9_cost_1 (nI 0) (by decide) 2 rfl ?_
  refine j_iconst C dX9_cost_2 (nI 3) (by decide) 3 rfl ?_
  refine j_callSi1 (As := [.int way, .int (nI 0), .int (nI 3)]) (rest := []) (wr := [(am 0, .inr (9, [.ref (am 1), .ref (am 2), .ref (am 3), .ref (am 4), .ref (am 5), .int (nI bm), .ref (am 6), .ref (am 7), .int (nI ap), .int (nI wr), .int (nI wa), .int (nI go)])), (am 1, .inl (cI, 1072, .inl (stA w sz ev n f L b x y z))), (am 2, .inl (cI, 2144, .inl im)), (am 3, .inl (cZ, 2, .inl kf)), (am 4, .inl (cI, 64, .inl (aN rf))), (am 5, .inl (cI, 1000, .inl (aN bf))), (am 6, .inl (cI, 65, .inl (aN lf))), (am 7, .inl (cI, 64, .inl (aN hf)))]) C (c_X9_in l D cI cZ cH way (nI 0) (nI 3) ((way).toInt) (((0 : Nat) : Int)) (((3 : Nat) : Int)) rfl (q_t (n := 0) (Nat.le_of_ble_eq_true rfl)) (q_t (n := 3) (Nat.le_of_ble_eq_true rfl))) gX9_cost_X9_in dX9_cost_3 rfl yd_X9_in.2 (Nat.le_of_ble_eq_true rfl) (Nat.le_of_ble_eq_true rfl) rfl _ rfl (Nat.le_of_ble_eq_true rfl) (Nat.zero_le _) (Nat.zero_le _) [] [0, 1, 2, 3, 4, 5, 6, 7] rfl rfl rfl rfl rfl (by decide) [0, 1, 2, 3, 4, 5, 6, 7] [(am 0, .inr (9, [.ref (am 1), .ref (am 2), .ref (am 3), .ref (am 4), .ref (am 5), .int (nI bm), .ref (am 6), .ref (am 7), .int (nI ap), .int (nI wr), .int (nI wa), .int (nI go)])), (am 1, .inl (cI, 1072, .inl (stA w sz ev n f L b x y z))), (am 2, .inl (cI, 2144, .inl im)), (am 3, .inl (cZ, 2, .inl kf)), (am 4, .inl (cI, 64, .inl (aN rf))), (am 5, .inl (cI, 1000, .inl (aN bf))), (am 6, .inl (cI, 65, .inl (aN lf))), (am 7, .inl (cI, 64, .inl (aN hf)))] rfl rfl rfl 6 rfl ?_
  refine j_ifb_eq C dX9_cost_6 19 (by decide) 9 rfl (fun h6 => ?_) (fun h6 => ?_)
  · refine j_bipush C dX9_cost_19 (-2) (by decide) 21 rfl ?_
    exact j_iret C dX9_cost_21 ((w, sz, ev, n, f, L, b, x, y, z), im, kf, rf, bf, bm, lf, hf, ap, wr, wa, go) (by rw [show opCost ((w, sz, ev, n, g, L, t, x, y, z), b0, b1, kp) bi way code = (-2, ((w, sz, ev, n, g, L, t, x, y, z), b0, b1, kp)) from (by first | rfl | (simp only [opCost]; (repeat' split) <;> first | rfl | (exfalso; omega)))]; exact ⟨rfl, hR0⟩) rfl
  · refine j_iload_n C dX9_cost_9 3 rfl 10 rfl ?_
    refine j_iconst C dX9_cost_10 (nI 0) (by decide) 11 rfl ?_
    refine j_bipush C dX9_cost_11 (nI 8) (by decide) 13 rfl ?_
    refine j_callSi1 (As := [.int code, .int (nI 0), .int (nI 8)]) (rest := []) (wr := [(am 0, .inr (9, [.ref (am 1), .ref (am 2), .ref (am 3), .ref (am 4), .ref (am 5), .int (nI bm), .ref (am 6), .ref (am 7), .int (nI ap), .int (nI wr), .int (nI wa), .int (nI go)])), (am 1, .inl (cI, 1072, .inl (stA w sz ev n f L b x y z))), (am 2, .inl (cI, 2144, .inl im)), (am 3, .inl (cZ, 2, .inl kf)), (am 4, .inl (cI, 64, .inl (aN rf))), (am 5, .inl (cI, 1000, .inl (aN bf))), (am 6, .inl (cI, 65, .inl (aN lf))), (am 7, .inl (cI, 64, .inl (aN hf)))]) C (c_X9_in l D cI cZ cH code (nI 0) (nI 8) ((code).toInt) (((0 : Nat) : Int)) (((8 : Nat) : Int)) rfl (q_t (n := 0) (Nat.le_of_ble_eq_true rfl)) (q_t (n := 8) (Nat.le_of_ble_eq_true rfl))) gX9_cost_X9_in dX9_cost_13 rfl yd_X9_in.2 (Nat.le_of_ble_eq_true rfl) (Nat.le_of_ble_eq_true rfl) rfl _ rfl (Nat.le_of_ble_eq_true rfl) (Nat.zero_le _) (Nat.zero_le _) [] [0, 1, 2, 3, 4, 5, 6, 7] rfl rfl rfl rfl rfl (by decide) [0, 1, 2, 3, 4, 5, 6, 7] [(am 0, .inr (9, [.ref (am 1), .ref (am 2), .ref (am 3), .ref (am 4), .ref (am 5), .int (nI bm), .ref (am 6), .ref (am 7), .int (nI ap), .int (nI wr), .int (nI wa), .int (nI go)])), (am 1, .inl (cI, 1072, .inl (stA w sz ev n f L b x y z))), (am 2, .inl (cI, 2144, .inl im)), (am 3, .inl (cZ, 2, .inl kf)), (am 4, .inl (cI, 64, .inl (aN rf))), (am 5, .inl (cI, 1000, .inl (aN bf))), (am 6, .inl (cI, 65, .inl (aN lf))), (am 7, .inl (cI, 64, .inl (aN hf)))] rfl rfl rfl 16 rfl ?_
    refine j_ifb_ne C dX9_cost_16 22 (by decide) 19 rfl (fun h16 => ?_) (fun h16 => ?_)
    · refine j_aload_n C dX9_cost_22 0 rfl 23 rfl ?_
      refine j_iload_n C dX9_cost_23 1 rfl 24 rfl ?_
      refine j_callVi1 (As := [.int bi]) (rest := []) (wr := [(am 2, .inl (cI, 2144, .inl im)), (am 3, .inl (cZ, 2, .inl kf)), (am 4, .inl (cI, 64, .inl (aN rf))), (am 5, .inl (cI, 1000, .inl (aN bf))), (am 6, .inl (cI, 65, .inl (aN lf))), (am 7, .inl (cI, 64, .inl (aN hf)))]) C (c_X9_isBlock l D cI cZ cH (am 0) (am 1) (am 2) (am 3) (am 4) (am 5) bm (am 6) (am 7) ap wr wa go w sz ev n f L b x y z bi (by omega) (by omega)) gX9_cost_X9_isBlock dX9_cost_24 rfl yd_X9_isBlock (Nat.le_of_ble_eq_true rfl) (Nat.le_of_ble_eq_true rfl) rfl rfl rfl _ rfl (Nat.le_of_ble_eq_true rfl) (Nat.zero_le _) (Nat.zero_le _) [0, 1] [2, 3, 4, 5, 6, 7] rfl rfl rfl rfl rfl (by decide) [6, 7, 0, 1, 2, 3, 4, 5] [(am 0, .inr (9, [.ref (am 1), .ref (am 2), .ref (am 3), .ref (am 4), .ref (am 5), .int (nI bm), .ref (am 6), .ref (am 7), .int (nI ap), .int (nI wr), .int (nI wa), .int (nI go)])), (am 1, .inl (cI, 1072, .inl (stA w sz ev n f L b x y z))), (am 2, .inl (cI, 2144, .inl im)), (am 3, .inl (cZ, 2, .inl kf)), (am 4, .inl (cI, 64, .inl (aN rf))), (am 5, .inl (cI, 1000, .inl (aN bf))), (am 6, .inl (cI, 65, .inl (aN lf))), (am 7, .inl (cI, 64, .inl (aN hf)))] rfl rfl rfl 27 rfl ?_
      refine j_ifb_ne C dX9_cost_27 33 (by decide) 30 rfl (fun h27 => ?_) (fun h27 => ?_)
      · refine j_lveq [(0, .ref (am 0)), (1, .int (nI (bi.toInt.toNat))), (2, .int way), (3, .int code)] (by rw [← q_nn (i := bi) h27.1]) ?_
        refine j_lveq [(0, .ref (am 0)), (1, .int (nI (bi.toInt.toNat))), (2, .int (nI (way.toInt.toNat))), (3, .int code)] (by rw [← q_nn (i := way) (by omega)]) ?_
        refine j_lveq [(0, .ref (am 0)), (1, .int (nI (bi.toInt.toNat))), (2, .int (nI (way.toInt.toNat))), (3, .int (nI (code.toInt.toNat)))] (by rw [← q_nn (i := code) (by omega)]) ?_
        have hbl1 : bi.toInt.toNat * sz < n := (blk_lt hsz.1).mp (show bi.toInt.toNat < nbk sz n by omega)
        refine j_aload_n C dX9_cost_33 0 rfl 34 rfl ?_
        refine j_callVv1 (As := []) (rest := []) (wr := [(am 2, .inl (cI, 2144, .inl im)), (am 3, .inl (cZ, 2, .inl kf)), (am 5, .inl (cI, 1000, .inl (aN bf))), (am 6, .inl (cI, 65, .inl (aN lf))), (am 7, .inl (cI, 64, .inl (aN hf)))]) C (c_X9_takeRow l D cI cZ cH (am 0) (am 1) (am 2) (am 3) (am 4) (am 5) bm (am 6) (am 7) ap wr wa go w sz ev n f L b x y z rf (by omega)) gX9_cost_X9_takeRow dX9_cost_34 rfl yd_X9_takeRow (Nat.le_of_ble_eq_true rfl) (Nat.le_of_ble_eq_true rfl) rfl rfl rfl _ rfl (Nat.le_of_ble_eq_true rfl) (Nat.zero_le _) (Nat.zero_le _) [0, 1, 4] [2, 3, 5, 6, 7] rfl rfl rfl rfl rfl (by decide) [5, 6, 0, 1, 7, 2, 3, 4] [(am 0, .inr (9, [.ref (am 1), .ref (am 2), .ref (am 3), .ref (am 4), .ref (am 5), .int (nI bm), .ref (am 6), .ref (am 7), .int (nI ap), .int (nI wr), .int (nI wa), .int (nI go)])), (am 1, .inl (cI, 1072, .inl (stA w sz ev n f L b x y z))), (am 2, .inl (cI, 2144, .inl im)), (am 3, .inl (cZ, 2, .inl kf)), (am 4, .inl (cI, 64, .inl (aN (upT f rf n)))), (am 5, .inl (cI, 1000, .inl (aN bf))), (am 6, .inl (cI, 65, .inl (aN lf))), (am 7, .inl (cI, 64, .inl (aN hf)))] rfl rfl rfl 37 rfl ?_
        have hrq : ∀ j, j < n → upT f rf n j = g j := fun j hj => by rw [upT_in hj]; exact hfg j hj
        refine j_aload_n C dX9_cost_37 0 rfl 38 rfl ?_
        refine j_iload_n C dX9_cost_38 1 rfl 39 rfl ?_
        refine j_iload_n C dX9_cost_39 2 rfl 40 rfl ?_
        refine j_iload_n C dX9_cost_40 3 rfl 41 rfl ?_
        refine j_callVi1 (As := [.int (nI (bi.toInt.toNat)), .int (nI (way.toInt.toNat)), .int (nI (code.toInt.toNat))]) (rest := []) (wr := [(am 2, .inl (cI, 2144, .inl im)), (am 3, .inl (cZ, 2, .inl kf)), (am 5, .inl (cI, 1000, .inl (aN bf))), (am 6, .inl (cI, 65, .inl (aN lf))), (am 7, .inl (cI, 64, .inl (aN hf)))]) C (c_X9_costOf l D cI cZ cH (am 0) (am 1) (am 2) (am 3) (am 4) (am 5) bm (am 6) (am 7) ap wr wa go w sz ev n f L b x y z (upT f rf n) g (bi.toInt.toNat) (way.toInt.toNat) (code.toInt.toNat) hw hsz hev (by omega) hrq hg (by omega) (by omega) (by omega)) gX9_cost_X9_costOf dX9_cost_41 rfl yd_X9_costOf (Nat.le_of_ble_eq_true rfl) (Nat.le_of_ble_eq_true rfl) rfl rfl rfl _ rfl (Nat.le_of_ble_eq_true rfl) (Nat.zero_le _) (Nat.zero_le _) [0, 1, 4] [2, 3, 5, 6, 7] rfl rfl rfl rfl rfl (by decide) [5, 6, 0, 1, 7, 2, 3, 4] [(am 0, .inr (9, [.ref (am 1), .ref (am 2), .ref (am 3), .ref (am 4), .ref (am 5), .int (nI bm), .ref (am 6), .ref (am 7), .int (nI ap), .int (nI wr), .int (nI wa), .int (nI go)])), (am 1, .inl (cI, 1072, .inl (stA w sz ev n f L b x y z))), (am 2, .inl (cI, 2144, .inl im)), (am 3, .inl (cZ, 2, .inl kf)), (am 4, .inl (cI, 64, .inl (aN (upT f rf n)))), (am 5, .inl (cI, 1000, .inl (aN bf))), (am 6, .inl (cI, 65, .inl (aN lf))), (am 7, .inl (cI, 64, .inl (aN hf)))] rfl rfl rfl 44 rfl ?_
        exact j_iret C dX9_cost_44 ((w, sz, ev, n, f, L, b, x, y, z), im, kf, upT f rf n, bf, bm, lf, hf, ap, wr, wa, go) (by rw [show opCost ((w, sz, ev, n, g, L, t, x, y, z), b0, b1, kp) bi way code = (oI (costB w sz ev g n (bi.toInt.toNat) (way.toInt.toNat) (code.toInt.toNat)), ((w, sz, ev, n, g, L, t, x, y, z), b0, b1, kp)) from (by first | rfl | (simp only [opCost]; (repeat' split) <;> first | rfl | (exfalso; omega)))]; exact ⟨rfl, hR0⟩) rfl
      · refine j_bipush C dX9_cost_30 (-6) (by decide) 32 rfl ?_
        exact j_iret C dX9_cost_32 ((w, sz, ev, n, f, L, b, x, y, z), im, kf, rf, bf, bm, lf, hf, ap, wr, wa, go) (by rw [show opCost ((w, sz, ev, n, g, L, t, x, y, z), b0, b1, kp) bi way code = (-6, ((w, sz, ev, n, g, L, t, x, y, z), b0, b1, kp)) from (by first | rfl | (simp only [opCost]; (repeat' split) <;> first | rfl | (exfalso; omega)))]; exact ⟨rfl, hR0⟩) rfl
    · refine j_bipush C dX9_cost_19 (-2) (by decide) 21 rfl ?_
      exact j_iret C dX9_cost_21 ((w, sz, ev, n, f, L, b, x, y, z), im, kf, rf, bf, bm, lf, hf, ap, wr, wa, go) (by rw [show opCost ((w, sz, ev, n, g, L, t, x, y, z), b0, b1, kp) bi way code = (-2, ((w, sz, ev, n, g, L, t, x, y, z), b0, b1, kp)) from (by first | rfl | (simp only [opCost]; (repeat' split) <;> first | rfl | (exfalso; omega)))]; exact ⟨rfl, hR0⟩) rfl
set_option maxHeartbeats 4000000 in
set_option maxRecDepth 100000 in
theorem k_X9_lost (l : Launch) (D : va_G) (cI cZ cH : ClassId) (am : Nat → Nat) (A : AT) (Y : MT) (hR : MRel A Y) (bi : Int32) : Mi l D cI cZ cH yX9_lost wsX9_lost 3 61 [.ref (am 0), .int bi] (wM cI cZ am Y) (fun (r9 : Int32) (Y9 : MT) => r9 = (opLost A bi).1 ∧ MRel (opLost A bi).2 Y9) (wM cI cZ am) := by
  obtain ⟨⟨w, sz, ev, n, f, L, b, x, y, z⟩, im, kf, rf, bf, bm, lf, hf, ap, wr, wa, go⟩ := Y
  obtain ⟨⟨w2, sz2, ev2, n2, g, L2, t, x2, y2, z2⟩, b0, b1, kp⟩ := A
  have hR0 := hR
  obtain ⟨⟨hw, hsz, hev, hn, hg, hL, ht, hx5⟩, ⟨e1, e2, e3, e4, hfg, e6, hbt, e8, e9, e10⟩, hi0, hi1, hk0, hk1, hk4⟩ := hR
  dsimp only at hw hsz hev hn hg hL ht hx5 e1 e2 e3 e4 hfg e6 hbt e8 e9 e10 hi0 hi1 hk0 hk1 hk4
  subst e1 e2 e3 e4 e6 e8 e9 e10
  have hnb : nbk sz n ≤ 64 := nbk_le hsz.1 hn
  have ht255 := tpW_le hw.2
  refine Mi.start (cc := cX9_lost) (nL := 3) (ret := (some .int)) (lv0 := [(0, .ref (am 0)), (1, .int bi)]) (by decide) rfl (Nat.le_of_ble_eq_true rfl) rfl ?_
  intro pX eX sX mX bX methX cX AX C
  show J D AX pX l eX _ sX mX _ bX methX cX 0 0 _ 3 [(am 0, .inr (9, [.ref (am 1), .ref (am 2), .ref (am 3), .ref (am 4), .ref (am 5), .int (nI bm), .ref (am 6), .ref (am 7), .int (nI ap), .int (nI wr), .int (nI wa), .int (nI go)])), (am 1, .inl (cI, 1072, .inl (stA w sz ev n f L b x y z))), (am 2, .inl (cI, 2144, .inl im)), (am 3, .inl (cZ, 2, .inl kf)), (am 4, .inl (cI, 64, .inl (aN rf))), (am 5, .inl (cI, 1000, .inl (aN bf))), (am 6, .inl (cI, 65, .inl (aN lf))), (am 7, .inl (cI, 64, .inl (aN hf)))] [(0, .ref (am 0)), (1, .int bi)] 0 []
  refine j_aload_n C dX9_lost_0 0 rfl 1 rfl ?_
  refine j_iload_n C dX9_lost_1 1 rfl 2 rfl ?_
  refine j_callVi1 (As := [.int bi]) (rest := []) (wr := [(am 2, .inl (cI, 2144, .inl im)), (am 3, .inl (cZ, 2, .inl kf)), (am 4, .inl (cI, 64, .inl (aN rf))), (am 5, .inl (cI, 1000, .inl (aN bf))), (am 6, .inl (cI, 65, .inl (aN lf))), (am 7, .inl (cI, 64, .inl (aN hf)))]) C (c_X9_isBlock l D cI cZ cH (am 0) (am 1) (am 2) (am 3) (am 4) (am 5) bm (am 6) (am 7) ap wr wa go w sz ev n f L b x y z bi (by omega) (by omega)) gX9_lost_X9_isBlock dX9_lost_2 rfl yd_X9_isBlock (Nat.le_of_ble_eq_true rfl) (Nat.le_of_ble_eq_true rfl) rfl rfl rfl _ rfl (Nat.le_of_ble_eq_true rfl) (Nat.zero_le _) (Nat.zero_le _) [0, 1] [2, 3, 4, 5, 6, 7] rfl rfl rfl rfl rfl (by decide) [6, 7, 0, 1, 2, 3, 4, 5] [(am 0, .inr (9, [.ref (am 1), .ref (am 2), .ref (am 3), .ref (am 4), .ref (am 5), .int (nI bm), .ref (am 6), .ref (am 7), .int (nI ap), .int (nI wr), .int (nI wa), .int (nI go)])), (am 1, .inl (cI, 1072, .inl (stA w sz ev n f L b x y z))), (am 2, .inl (cI, 2144, .inl im)), (am 3, .inl (cZ, 2, .inl kf)), (am 4, .inl (cI, 64, .inl (aN rf))), (am 5, .inl (cI, 1000, .inl (aN bf))), (am 6, .inl (cI, 65, .inl (aN lf))), (am 7, .inl (cI, 64, .inl (aN hf)))] rfl rfl rfl 5 rfl ?_
  refine j_ifb_ne C dX9_lost_5 11 (by decide) 8 rfl (fun h5 => ?_) (fun h5 => ?_)
  · refine j_lveq [(0, .ref (am 0)), (1, .int (nI (bi.toInt.toNat)))] (by rw [← q_nn (i := bi) h5.1]) ?_
    have hbl1 : bi.toInt.toNat * sz < n := (blk_lt hsz.1).mp (show bi.toInt.toNat < nbk sz n by omega)
    have hdv := Nat.div_le_self bi.toInt.toNat ev
    have hse := seB hsz.1 hsz.2 hev.1 hev.2
    have hm3 := mulB (show bi.toInt.toNat / ev + 1 ≤ 65 by omega) hse.2
    have hlow : bi.toInt.toNat * sz ≤ min n ((bi.toInt.toNat / ev + 1) * (sz * ev)) := lost_low hev.1 (Nat.le_of_lt hbl1)
    refine j_iload_n C dX9_lost_11 1 rfl 12 rfl ?_
    refine j_aload_n C dX9_lost_12 0 rfl 13 rfl ?_
    refine j_get C dX9_lost_13 0 0 1 inX9_lost_9 rfl rfl (by decide) rfl rfl rfl 16 rfl ?_
    refine j_sipush C dX9_lost_16 (nI 1068) (by decide) 19 rfl ?_
    refine j_ialdI C dX9_lost_19 1 rfl (Nat.le_of_ble_eq_true rfl) (Nat.le_of_ble_eq_true rfl) (nI ev) rfl 20 rfl ?_
    refine j_idiv C dX9_lost_20 (nz (by omega) (by omega)) (nI ((bi.toInt.toNat) / ev)) (pk_div (by omega) (by omega) (by omega)) 21 rfl ?_
    have hdiv20 := Nat.div_le_self (bi.toInt.toNat) ev
    refine j_iconst C dX9_lost_21 (nI 1) (by decide) 22 rfl ?_
    refine j_iadd C dX9_lost_22 (nI ((bi.toInt.toNat) / ev + 1)) (nI_add ((bi.toInt.toNat) / ev) 1) 23 rfl ?_
    refine j_aload_n C dX9_lost_23 0 rfl 24 rfl ?_
    refine j_callVi1 (As := []) (rest := [.int (nI ((bi.toInt.toNat) / ev + 1))]) (wr := [(am 2, .inl (cI, 2144, .inl im)), (am 3, .inl (cZ, 2, .inl kf)), (am 4, .inl (cI, 64, .inl (aN rf))), (am 5, .inl (cI, 1000, .inl (aN bf))), (am 6, .inl (cI, 65, .inl (aN lf))), (am 7, .inl (cI, 64, .inl (aN hf)))]) C (c_X9_segmentLong l D cI cZ cH (am 0) (am 1) (am 2) (am 3) (am 4) (am 5) bm (am 6) (am 7) ap wr wa go w sz ev n f L b x y z ) gX9_lost_X9_segmentLong dX9_lost_24 rfl yd_X9_segmentLong (Nat.le_of_ble_eq_true rfl) (Nat.le_of_ble_eq_true rfl) rfl rfl rfl _ rfl (Nat.le_of_ble_eq_true rfl) (Nat.zero_le _) (Nat.zero_le _) [0, 1] [2, 3, 4, 5, 6, 7] rfl rfl rfl rfl rfl (by decide) [6, 7, 0, 1, 2, 3, 4, 5] [(am 0, .inr (9, [.ref (am 1), .ref (am 2), .ref (am 3), .ref (am 4), .ref (am 5), .int (nI bm), .ref (am 6), .ref (am 7), .int (nI ap), .int (nI wr), .int (nI wa), .int (nI go)])), (am 1, .inl (cI, 1072, .inl (stA w sz ev n f L b x y z))), (am 2, .inl (cI, 2144, .inl im)), (am 3, .inl (cZ, 2, .inl kf)), (am 4, .inl (cI, 64, .inl (aN rf))), (am 5, .inl (cI, 1000, .inl (aN bf))), (am 6, .inl (cI, 65, .inl (aN lf))), (am 7, .inl (cI, 64, .inl (aN hf)))] rfl rfl rfl 27 rfl ?_
    refine j_imul C dX9_lost_27 (nI (((bi.toInt.toNat) / ev + 1) * (sz * ev))) (pk_mul ((bi.toInt.toNat) / ev + 1) (sz * ev)) 28 rfl ?_
    refine j_aload_n C dX9_lost_28 0 rfl 29 rfl ?_
    refine j_callVi1 (As := []) (rest := [.int (nI (((bi.toInt.toNat) / ev + 1) * (sz * ev)))]) (wr := [(am 2, .inl (cI, 2144, .inl im)), (am 3, .inl (cZ, 2, .inl kf)), (am 4, .inl (cI, 64, .inl (aN rf))), (am 5, .inl (cI, 1000, .inl (aN bf))), (am 6, .inl (cI, 65, .inl (aN lf))), (am 7, .inl (cI, 64, .inl (aN hf)))]) C (c_X9_many l D cI cZ cH (am 0) (am 1) (am 2) (am 3) (am 4) (am 5) bm (am 6) (am 7) ap wr wa go w sz ev n f L b x y z ) gX9_lost_X9_many dX9_lost_29 rfl yd_X9_many (Nat.le_of_ble_eq_true rfl) (Nat.le_of_ble_eq_true rfl) rfl rfl rfl _ rfl (Nat.le_of_ble_eq_true rfl) (Nat.zero_le _) (Nat.zero_le _) [0, 1] [2, 3, 4, 5, 6, 7] rfl rfl rfl rfl rfl (by decide) [6, 7, 0, 1, 2, 3, 4, 5] [(am 0, .inr (9, [.ref (am 1), .ref (am 2), .ref (am 3), .ref (am 4), .ref (am 5), .int (nI bm), .ref (am 6), .ref (am 7), .int (nI ap), .int (nI wr), .int (nI wa), .int (nI go)])), (am 1, .inl (cI, 1072, .inl (stA w sz ev n f L b x y z))), (am 2, .inl (cI, 2144, .inl im)), (am 3, .inl (cZ, 2, .inl kf)), (am 4, .inl (cI, 64, .inl (aN rf))), (am 5, .inl (cI, 1000, .inl (aN bf))), (am 6, .inl (cI, 65, .inl (aN lf))), (am 7, .inl (cI, 64, .inl (aN hf)))] rfl rfl rfl 32 rfl ?_
    refine j_callSi1 (As := [.int (nI (((bi.toInt.toNat) / ev + 1) * (sz * ev))), .int (nI n)]) (rest := []) (wr := [(am 0, .inr (9, [.ref (am 1), .ref (am 2), .ref (am 3), .ref (am 4), .ref (am 5), .int (nI bm), .ref (am 6), .ref (am 7), .int (nI ap), .int (nI wr), .int (nI wa), .int (nI go)])), (am 1, .inl (cI, 1072, .inl (stA w sz ev n f L b x y z))), (am 2, .inl (cI, 2144, .inl im)), (am 3, .inl (cZ, 2, .inl kf)), (am 4, .inl (cI, 64, .inl (aN rf))), (am 5, .inl (cI, 1000, .inl (aN bf))), (am 6, .inl (cI, 65, .inl (aN lf))), (am 7, .inl (cI, 64, .inl (aN hf)))]) C (c_X9_less l D cI cZ cH (((bi.toInt.toNat) / ev + 1) * (sz * ev)) n (by omega) (by omega)) gX9_lost_X9_less dX9_lost_32 rfl yd_X9_less.2 (Nat.le_of_ble_eq_true rfl) (Nat.le_of_ble_eq_true rfl) rfl _ rfl (Nat.le_of_ble_eq_true rfl) (Nat.zero_le _) (Nat.zero_le _) [] [0, 1, 2, 3, 4, 5, 6, 7] rfl rfl rfl rfl rfl (by decide) [0, 1, 2, 3, 4, 5, 6, 7] [(am 0, .inr (9, [.ref (am 1), .ref (am 2), .ref (am 3), .ref (am 4), .ref (am 5), .int (nI bm), .ref (am 6), .ref (am 7), .int (nI ap), .int (nI wr), .int (nI wa), .int (nI go)])), (am 1, .inl (cI, 1072, .inl (stA w sz ev n f L b x y z))), (am 2, .inl (cI, 2144, .inl im)), (am 3, .inl (cZ, 2, .inl kf)), (am 4, .inl (cI, 64, .inl (aN rf))), (am 5, .inl (cI, 1000, .inl (aN bf))), (am 6, .inl (cI, 65, .inl (aN lf))), (am 7, .inl (cI, 64, .inl (aN hf)))] rfl rfl rfl 35 rfl ?_
    refine j_istore_n C dX9_lost_35 [(2, .int (nI (min (((bi.toInt.toNat) / ev + 1) * (sz * ev)) n))), (0, .ref (am 0)), (1, .int (nI (bi.toInt.toNat)))] (by decide) rfl 36 rfl ?_
    refine j_iload_n C dX9_lost_36 0 rfl 37 rfl ?_
    refine j_aload_n C dX9_lost_37 1 rfl 38 rfl ?_
    refine j_iload_n C dX9_lost_38 2 rfl 39 rfl ?_
    refine j_callVi1 (As := [.int (nI (bi.toInt.toNat))]) (rest := [.int (nI (min (((bi.toInt.toNat) / ev + 1) * (sz * ev)) n))]) (wr := [(am 2, .inl (cI, 2144, .inl im)), (am 3, .inl (cZ, 2, .inl kf)), (am 4, .inl (cI, 64, .inl (aN rf))), (am 5, .inl (cI, 1000, .inl (aN bf))), (am 6, .inl (cI, 65, .inl (aN lf))), (am 7, .inl (cI, 64, .inl (aN hf)))]) C (c_X9_firstOf l D cI cZ cH (am 0) (am 1) (am 2) (am 3) (am 4) (am 5) bm (am 6) (am 7) ap wr wa go w sz ev n f L b x y z (bi.toInt.toNat) ) gX9_lost_X9_firstOf dX9_lost_39 rfl yd_X9_firstOf (Nat.le_of_ble_eq_true rfl) (Nat.le_of_ble_eq_true rfl) rfl rfl rfl _ rfl (Nat.le_of_ble_eq_true rfl) (Nat.zero_le _) (Nat.zero_le _) [0, 1] [2, 3, 4, 5, 6, 7] rfl rfl rfl rfl rfl (by decide) [6, 7, 0, 1, 2, 3, 4, 5] [(am 0, .inr (9, [.ref (am 1), .ref (am 2), .ref (am 3), .ref (am 4), .ref (am 5), .int (nI bm), .ref (am 6), .ref (am 7), .int (nI ap), .int (nI wr), .int (nI wa), .int (nI go)])), (am 1, .inl (cI, 1072, .inl (stA w sz ev n f L b x y z))), (am 2, .inl (cI, 2144, .inl im)), (am 3, .inl (cZ, 2, .inl kf)), (am 4, .inl (cI, 64, .inl (aN rf))), (am 5, .inl (cI, 1000, .inl (aN bf))), (am 6, .inl (cI, 65, .inl (aN lf))), (am 7, .inl (cI, 64, .inl (aN hf)))] rfl rfl rfl 42 rfl ?_
    refine j_isub C dX9_lost_42 (nI (min n ((bi.toInt.toNat / ev + 1) * (sz * ev)) - bi.toInt.toNat * sz)) (by rw [pk_sub (by omega), Nat.min_comm]) 43 rfl ?_
    exact j_iret C dX9_lost_43 ((w, sz, ev, n, f, L, b, x, y, z), im, kf, rf, bf, bm, lf, hf, ap, wr, wa, go) (by rw [show opLost ((w, sz, ev, n, g, L, t, x, y, z), b0, b1, kp) bi = (nI (min n ((bi.toInt.toNat / ev + 1) * (sz * ev)) - bi.toInt.toNat * sz), ((w, sz, ev, n, g, L, t, x, y, z), b0, b1, kp)) from (by first | rfl | (simp only [opLost]; (repeat' split) <;> first | rfl | (exfalso; omega)))]; exact ⟨rfl, hR0⟩) rfl
  · refine j_bipush C dX9_lost_8 (-6) (by decide) 10 rfl ?_
    exact j_iret C dX9_lost_10 ((w, sz, ev, n, f, L, b, x, y, z), im, kf, rf, bf, bm, lf, hf, ap, wr, wa, go) (by rw [show opLost ((w, sz, ev, n, g, L, t, x, y, z), b0, b1, kp) bi = (-6, ((w, sz, ev, n, g, L, t, x, y, z), b0, b1, kp)) from (by first | rfl | (simp only [opLost]; (repeat' split) <;> first | rfl | (exfalso; omega)))]; exact ⟨rfl, hR0⟩) rfl
set_option maxHeartbeats 4000000 in
set_option maxRecDepth 100000 in
theorem k_X9_push (l : Launch) (D : va_G) (cI cZ cH : ClassId) (am : Nat → Nat) (A : AT) (Y : MT) (hR : MRel A Y) (v : Int32) : Mi l D cI cZ cH yX9_push wsX9_push 1 22 [.ref (am 0), .int v] (wM cI cZ am Y) (fun (r9 : Int32) (Y9 : MT) => r9 = (opPush A v).1 ∧ MRel (opPush A v).2 Y9) (wM cI cZ am) := by
  obtain ⟨⟨w, sz, ev, n, f, L, b, x, y, z⟩, im, kf, rf, bf, bm, lf, hf, ap, wr, wa, go⟩ := Y
  obtain ⟨⟨w2, sz2, ev2, n2, g, L2, t, x2, y2, z2⟩, b0, b1, kp⟩ := A
  have hR0 := hR
  obtain ⟨⟨hw, hsz, hev, hn, hg, hL, ht, hx5⟩, ⟨e1, e2, e3, e4, hfg, e6, hbt, e8, e9, e10⟩, hi0, hi1, hk0, hk1, hk4⟩ := hR
  dsimp only at hw hsz hev hn hg hL ht hx5 e1 e2 e3 e4 hfg e6 hbt e8 e9 e10 hi0 hi1 hk0 hk1 hk4
  subst e1 e2 e3 e4 e6 e8 e9 e10
  have hnb : nbk sz n ≤ 64 := nbk_le hsz.1 hn
  have ht255 := tpW_le hw.2
  refine Mi.start (cc := cX9_push) (nL := 2) (ret := (some .int)) (lv0 := [(0, .ref (am 0)), (1, .int v)]) (by decide) rfl (Nat.le_of_ble_eq_true rfl) rfl ?_
  intro pX eX sX mX bX methX cX AX C
  show J D AX pX l eX _ sX mX _ bX methX cX 0 0 _ 2 [(am 0, .inr (9, [.ref (am 1), .ref (am 2), .ref (am 3), .ref (am 4), .ref (am 5), .int (nI bm), .ref (am 6), .ref (am 7), .int (nI ap), .int (nI wr), .int (nI wa), .int (nI go)])), (am 1, .inl (cI, 1072, .inl (stA w sz ev n f L b x y z))), (am 2, .inl (cI, 2144, .inl im)), (am 3, .inl (cZ, 2, .inl kf)), (am 4, .inl (cI, 64, .inl (aN rf))), (am 5, .inl (cI, 1000, .inl (aN bf))), (am 6, .inl (cI, 65, .inl (aN lf))), (am 7, .inl (cI, 64, .inl (aN hf)))] [(0, .ref (am 0)), (1, .int v)] 0 []
  refine j_iload_n C dX9_push_0 1 rfl 1 rfl ?_
  refine j_iconst C dX9_push_1 (nI 0) (by decide) 2 rfl ?_
  refine j_iconst C dX9_push_2 (nI 1) (by decide) 3 rfl ?_
  refine j_callSi1 (As := [.int v, .int (nI 0), .int (nI 1)]) (rest := []) (wr := [(am 0, .inr (9, [.ref (am 1), .ref (am 2), .ref (am 3), .ref (am 4), .ref (am 5), .int (nI bm), .ref (am 6), .ref (am 7), .int (nI ap), .int (nI wr), .int (nI wa), .int (nI go)])), (am 1, .inl (cI, 1072, .inl (stA w sz ev n f L b x y z))), (am 2, .inl (cI, 2144, .inl im)), (am 3, .inl (cZ, 2, .inl kf)), (am 4, .inl (cI, 64, .inl (aN rf))), (am 5, .inl (cI, 1000, .inl (aN bf))), (am 6, .inl (cI, 65, .inl (aN lf))), (am 7, .inl (cI, 64, .inl (aN hf)))]) C (c_X9_in l D cI cZ cH v (nI 0) (nI 1) ((v).toInt) (((0 : Nat) : Int)) (((1 : Nat) : Int)) rfl (q_t (n := 0) (Nat.le_of_ble_eq_true rfl)) (q_t (n := 1) (Nat.le_of_ble_eq_true rfl))) gX9_push_X9_in dX9_push_3 rfl yd_X9_in.2 (Nat.le_of_ble_eq_true rfl) (Nat.le_of_ble_eq_true rfl) rfl _ rfl (Nat.le_of_ble_eq_true rfl) (Nat.zero_le _) (Nat.zero_le _) [] [0, 1, 2, 3, 4, 5, 6, 7] rfl rfl rfl rfl rfl (by decide) [0, 1, 2, 3, 4, 5, 6, 7] [(am 0, .inr (9, [.ref (am 1), .ref (am 2), .ref (am 3), .ref (am 4), .ref (am 5), .int (nI bm), .ref (am 6), .ref (am 7), .int (nI ap), .int (nI wr), .int (nI wa), .int (nI go)])), (am 1, .inl (cI, 1072, .inl (stA w sz ev n f L b x y z))), (am 2, .inl (cI, 2144, .inl im)), (am 3, .inl (cZ, 2, .inl kf)), (am 4, .inl (cI, 64, .inl (aN rf))), (am 5, .inl (cI, 1000, .inl (aN bf))), (am 6, .inl (cI, 65, .inl (aN lf))), (am 7, .inl (cI, 64, .inl (aN hf)))] rfl rfl rfl 6 rfl ?_
  refine j_ifb_ne C dX9_push_6 12 (by decide) 9 rfl (fun h6 => ?_) (fun h6 => ?_)
  · refine j_aload_n C dX9_push_12 0 rfl 13 rfl ?_
    refine j_get C dX9_push_13 0 0 1 inX9_push_9 rfl rfl (by decide) rfl rfl rfl 16 rfl ?_
    refine j_sipush C dX9_push_16 (nI 1065) (by decide) 19 rfl ?_
    refine j_ialdI C dX9_push_19 1 rfl (Nat.le_of_ble_eq_true rfl) (Nat.le_of_ble_eq_true rfl) (nI L) rfl 20 rfl ?_
    refine j_sipush C dX9_push_20 (nI 1000) (by decide) 23 rfl ?_
    refine j_icmp_ne C dX9_push_23 29 (by decide) (q_t (by omega)) (q_t (n := 1000) (Nat.le_of_ble_eq_true rfl)) 26 rfl (fun h23 => ?_) (fun h23 => ?_)
    · refine j_lveq [(0, .ref (am 0)), (1, .int (nI (v.toInt.toNat)))] (by rw [← q_nn (i := v) (by omega)]) ?_
      refine j_aload_n C dX9_push_29 0 rfl 30 rfl ?_
      refine j_get C dX9_push_30 0 0 1 inX9_push_9 rfl rfl (by decide) rfl rfl rfl 33 rfl ?_
      refine j_bipush C dX9_push_33 (nI 64) (by decide) 35 rfl ?_
      refine j_aload_n C dX9_push_35 0 rfl 36 rfl ?_
      refine j_get C dX9_push_36 0 0 1 inX9_push_9 rfl rfl (by decide) rfl rfl rfl 39 rfl ?_
      refine j_sipush C dX9_push_39 (nI 1065) (by decide) 42 rfl ?_
      refine j_ialdI C dX9_push_42 1 rfl (Nat.le_of_ble_eq_true rfl) (Nat.le_of_ble_eq_true rfl) (nI L) rfl 43 rfl ?_
      refine j_iadd C dX9_push_43 (nI (64 + L)) (nI_add 64 L) 44 rfl ?_
      refine j_iload_n C dX9_push_44 1 rfl 45 rfl ?_
      refine j_iastI C dX9_push_45 1 rfl (by omega) (Nat.le_of_ble_eq_true rfl) (stA w sz ev n f L (va_up b L (v.toInt.toNat)) x y z) (stA_upt (by omega)) [(am 0, .inr (9, [.ref (am 1), .ref (am 2), .ref (am 3), .ref (am 4), .ref (am 5), .int (nI bm), .ref (am 6), .ref (am 7), .int (nI ap), .int (nI wr), .int (nI wa), .int (nI go)])), (am 1, .inl (cI, 1072, .inl (stA w sz ev n f L (va_up b L (v.toInt.toNat)) x y z))), (am 2, .inl (cI, 2144, .inl im)), (am 3, .inl (cZ, 2, .inl kf)), (am 4, .inl (cI, 64, .inl (aN rf))), (am 5, .inl (cI, 1000, .inl (aN bf))), (am 6, .inl (cI, 65, .inl (aN lf))), (am 7, .inl (cI, 64, .inl (aN hf)))] rfl 46 rfl ?_
      refine j_aload_n C dX9_push_46 0 rfl 47 rfl ?_
      refine j_get C dX9_push_47 0 0 1 inX9_push_9 rfl rfl (by decide) rfl rfl rfl 50 rfl ?_
      refine j_sipush C dX9_push_50 (nI 1065) (by decide) 53 rfl ?_
      refine j_dup2 C dX9_push_53 rfl rfl 54 rfl ?_
      refine j_ialdI C dX9_push_54 1 rfl (Nat.le_of_ble_eq_true rfl) (Nat.le_of_ble_eq_true rfl) (nI L) rfl 55 rfl ?_
      refine j_iconst C dX9_push_55 (nI 1) (by decide) 56 rfl ?_
      refine j_iadd C dX9_push_56 (nI (L + 1)) (nI_add L 1) 57 rfl ?_
      refine j_iastI C dX9_push_57 1 rfl (Nat.le_of_ble_eq_true rfl) (Nat.le_of_ble_eq_true rfl) (stA w sz ev n f (L + 1) (va_up b L (v.toInt.toNat)) x y z) (stA_up1065 ..) [(am 0, .inr (9, [.ref (am 1), .ref (am 2), .ref (am 3), .ref (am 4), .ref (am 5), .int (nI bm), .ref (am 6), .ref (am 7), .int (nI ap), .int (nI wr), .int (nI wa), .int (nI go)])), (am 1, .inl (cI, 1072, .inl (stA w sz ev n f (L + 1) (va_up b L (v.toInt.toNat)) x y z))), (am 2, .inl (cI, 2144, .inl im)), (am 3, .inl (cZ, 2, .inl kf)), (am 4, .inl (cI, 64, .inl (aN rf))), (am 5, .inl (cI, 1000, .inl (aN bf))), (am 6, .inl (cI, 65, .inl (aN lf))), (am 7, .inl (cI, 64, .inl (aN hf)))] rfl 58 rfl ?_
      refine j_aload_n C dX9_push_58 0 rfl 59 rfl ?_
      refine j_get C dX9_push_59 0 0 1 inX9_push_9 rfl rfl (by decide) rfl rfl rfl 62 rfl ?_
      refine j_sipush C dX9_push_62 (nI 1065) (by decide) 65 rfl ?_
      refine j_ialdI C dX9_push_65 1 rfl (Nat.le_of_ble_eq_true rfl) (Nat.le_of_ble_eq_true rfl) (nI (L + 1)) rfl 66 rfl ?_
      exact j_iret C dX9_push_66 ((w, sz, ev, n, f, L + 1, va_up b L (v.toInt.toNat), x, y, z), im, kf, rf, bf, bm, lf, hf, ap, wr, wa, go) (by rw [show opPush ((w, sz, ev, n, g, L, t, x, y, z), b0, b1, kp) v = (nI (L + 1), ((w, sz, ev, n, g, L + 1, va_up t L v.toInt.toNat, x, y, z), b0, b1, kp)) from (by first | rfl | (simp only [opPush]; (repeat' split) <;> first | rfl | (exfalso; omega)))]; exact ⟨rfl, ⟨⟨hw, hsz, hev, hn, hg, by show L + 1 ≤ 1000; omega, (fun j hj => by have hj9 : j < L + 1 := hj; show va_up t L v.toInt.toNat j ≤ 1; simp only [va_up]; split; omega; exact ht j (by omega)), hx5⟩, ⟨rfl, rfl, rfl, rfl, hfg, rfl, (fun j hj => by have hj9 : j < L + 1 := hj; show va_up b L v.toInt.toNat j = va_up t L v.toInt.toNat j; simp only [va_up]; split; rfl; exact hbt j (by omega)), rfl, rfl, rfl⟩, hi0, hi1, hk0, hk1, hk4⟩⟩) rfl
    · refine j_bipush C dX9_push_26 (-4) (by decide) 28 rfl ?_
      exact j_iret C dX9_push_28 ((w, sz, ev, n, f, L, b, x, y, z), im, kf, rf, bf, bm, lf, hf, ap, wr, wa, go) (by rw [show opPush ((w, sz, ev, n, g, L, t, x, y, z), b0, b1, kp) v = (-4, ((w, sz, ev, n, g, L, t, x, y, z), b0, b1, kp)) from (by first | rfl | (simp only [opPush]; (repeat' split) <;> first | rfl | (exfalso; omega)))]; exact ⟨rfl, hR0⟩) rfl
  · refine j_bipush C dX9_push_9 (-2) (by decide) 11 rfl ?_
    exact j_iret C dX9_push_11 ((w, sz, ev, n, f, L, b, x, y, z), im, kf, rf, bf, bm, lf, hf, ap, wr, wa, go) (by rw [show opPush ((w, sz, ev, n, g, L, t, x, y, z), b0, b1, kp) v = (-2, ((w, sz, ev, n, g, L, t, x, y, z), b0, b1, kp)) from (by first | rfl | (simp only [opPush]; (repeat' split) <;> first | rfl | (exfalso; omega)))]; exact ⟨rfl, hR0⟩) rfl
set_option maxHeartbeats 4000000 in
set_option maxRecDepth 100000 in
theorem k_X9_flip (l : Launch) (D : va_G) (cI cZ cH : ClassId) (am : Nat → Nat) (A : AT) (Y : MT) (hR : MRel A Y) (i : Int32) : Mi l D cI cZ cH yX9_flip wsX9_flip 1 22 [.ref (am 0), .int i] (wM cI cZ am Y) (fun (r9 : Int32) (Y9 : MT) => r9 = (opFlip A i).1 ∧ MRel (opFlip A i).2 Y9) (wM cI cZ am) := by
  obtain ⟨⟨w, sz, ev, n, f, L, b, x, y, z⟩, im, kf, rf, bf, bm, lf, hf, ap, wr, wa, go⟩ := Y
  obtain ⟨⟨w2, sz2, ev2, n2, g, L2, t, x2, y2, z2⟩, b0, b1, kp⟩ := A
  have hR0 := hR
  obtain ⟨⟨hw, hsz, hev, hn, hg, hL, ht, hx5⟩, ⟨e1, e2, e3, e4, hfg, e6, hbt, e8, e9, e10⟩, hi0, hi1, hk0, hk1, hk4⟩ := hR
  dsimp only at hw hsz hev hn hg hL ht hx5 e1 e2 e3 e4 hfg e6 hbt e8 e9 e10 hi0 hi1 hk0 hk1 hk4
  subst e1 e2 e3 e4 e6 e8 e9 e10
  have hnb : nbk sz n ≤ 64 := nbk_le hsz.1 hn
  have ht255 := tpW_le hw.2
  refine Mi.start (cc := cX9_flip) (nL := 2) (ret := (some .int)) (lv0 := [(0, .ref (am 0)), (1, .int i)]) (by decide) rfl (Nat.le_of_ble_eq_true rfl) rfl ?_
  intro pX eX sX mX bX methX cX AX C
  show J D AX pX l eX _ sX mX _ bX methX cX 0 0 _ 2 [(am 0, .inr (9, [.ref (am 1), .ref (am 2), .ref (am 3), .ref (am 4), .ref (am 5), .int (nI bm), .ref (am 6), .ref (am 7), .int (nI ap), .int (nI wr), .int (nI wa), .int (nI go)])), (am 1, .inl (cI, 1072, .inl (stA w sz ev n f L b x y z))), (am 2, .inl (cI, 2144, .inl im)), (am 3, .inl (cZ, 2, .inl kf)), (am 4, .inl (cI, 64, .inl (aN rf))), (am 5, .inl (cI, 1000, .inl (aN bf))), (am 6, .inl (cI, 65, .inl (aN lf))), (am 7, .inl (cI, 64, .inl (aN hf)))] [(0, .ref (am 0)), (1, .int i)] 0 []
  refine j_iload_n C dX9_flip_0 1 rfl 1 rfl ?_
  refine j_iconst C dX9_flip_1 (nI 0) (by decide) 2 rfl ?_
  refine j_aload_n C dX9_flip_2 0 rfl 3 rfl ?_
  refine j_get C dX9_flip_3 0 0 1 inX9_flip_9 rfl rfl (by decide) rfl rfl rfl 6 rfl ?_
  refine j_sipush C dX9_flip_6 (nI 1065) (by decide) 9 rfl ?_
  refine j_ialdI C dX9_flip_9 1 rfl (Nat.le_of_ble_eq_true rfl) (Nat.le_of_ble_eq_true rfl) (nI L) rfl 10 rfl ?_
  refine j_iconst C dX9_flip_10 (nI 1) (by decide) 11 rfl ?_
  refine j_isub C dX9_flip_11 (nI L - nI 1) rfl 12 rfl ?_
  refine j_callSi1 (As := [.int i, .int (nI 0), .int (nI L - nI 1)]) (rest := []) (wr := [(am 0, .inr (9, [.ref (am 1), .ref (am 2), .ref (am 3), .ref (am 4), .ref (am 5), .int (nI bm), .ref (am 6), .ref (am 7), .int (nI ap), .int (nI wr), .int (nI wa), .int (nI go)])), (am 1, .inl (cI, 1072, .inl (stA w sz ev n f L b x y z))), (am 2, .inl (cI, 2144, .inl im)), (am 3, .inl (cZ, 2, .inl kf)), (am 4, .inl (cI, 64, .inl (aN rf))), (am 5, .inl (cI, 1000, .inl (aN bf))), (am 6, .inl (cI, 65, .inl (aN lf))), (am 7, .inl (cI, 64, .inl (aN hf)))]) C (c_X9_in l D cI cZ cH i (nI 0) (nI L - nI 1) ((i).toInt) (((0 : Nat) : Int)) ((L : Int) - 1) rfl (q_t (n := 0) (Nat.le_of_ble_eq_true rfl)) (q_m1t (by omega))) gX9_flip_X9_in dX9_flip_12 rfl yd_X9_in.2 (Nat.le_of_ble_eq_true rfl) (Nat.le_of_ble_eq_true rfl) rfl _ rfl (Nat.le_of_ble_eq_true rfl) (Nat.zero_le _) (Nat.zero_le _) [] [0, 1, 2, 3, 4, 5, 6, 7] rfl rfl rfl rfl rfl (by decide) [0, 1, 2, 3, 4, 5, 6, 7] [(am 0, .inr (9, [.ref (am 1), .ref (am 2), .ref (am 3), .ref (am 4), .ref (am 5), .int (nI bm), .ref (am 6), .ref (am 7), .int (nI ap), .int (nI wr), .int (nI wa), .int (nI go)])), (am 1, .inl (cI, 1072, .inl (stA w sz ev n f L b x y z))), (am 2, .inl (cI, 2144, .inl im)), (am 3, .inl (cZ, 2, .inl kf)), (am 4, .inl (cI, 64, .inl (aN rf))), (am 5, .inl (cI, 1000, .inl (aN bf))), (am 6, .inl (cI, 65, .inl (aN lf))), (am 7, .inl (cI, 64, .inl (aN hf)))] rfl rfl rfl 15 rfl ?_
  refine j_ifb_ne C dX9_flip_15 21 (by decide) 18 rfl (fun h15 => ?_) (fun h15 => ?_)
  · refine j_lveq [(0, .ref (am 0)), (1, .int (nI (i.toInt.toNat)))] (by rw [← q_nn (i := i) (by omega)]) ?_
    have hti := ht i.toInt.toNat (by omega)
    have hbi := hbt i.toInt.toNat (by omega)
    refine j_aload_n C dX9_flip_21 0 rfl 22 rfl ?_
    refine j_get C dX9_flip_22 0 0 1 inX9_flip_9 rfl rfl (by decide) rfl rfl rfl 25 rfl ?_
    refine j_bipush C dX9_flip_25 (nI 64) (by decide) 27 rfl ?_
    refine j_iload_n C dX9_flip_27 1 rfl 28 rfl ?_
    refine j_iadd C dX9_flip_28 (nI (64 + i.toInt.toNat)) (nI_add 64 (i.toInt.toNat)) 29 rfl ?_
    refine j_iconst C dX9_flip_29 (nI 1) (by decide) 30 rfl ?_
    refine j_aload_n C dX9_flip_30 0 rfl 31 rfl ?_
    refine j_get C dX9_flip_31 0 0 1 inX9_flip_9 rfl rfl (by decide) rfl rfl rfl 34 rfl ?_
    refine j_bipush C dX9_flip_34 (nI 64) (by decide) 36 rfl ?_
    refine j_iload_n C dX9_flip_36 1 rfl 37 rfl ?_
    refine j_iadd C dX9_flip_37 (nI (64 + i.toInt.toNat)) (nI_add 64 (i.toInt.toNat)) 38 rfl ?_
    refine j_ialdI C dX9_flip_38 1 rfl (by omega) (Nat.le_of_ble_eq_true rfl) (nI (b (i.toInt.toNat))) (stA_tape (by omega)) 39 rfl ?_
    refine j_isub C dX9_flip_39 (nI (1 - (b (i.toInt.toNat)))) (pk_sub (by omega)) 40 rfl ?_
    refine j_iastI C dX9_flip_40 1 rfl (by omega) (Nat.le_of_ble_eq_true rfl) (stA w sz ev n f L (va_up b (i.toInt.toNat) (1 - (b (i.toInt.toNat)))) x y z) (stA_upt (by omega)) [(am 0, .inr (9, [.ref (am 1), .ref (am 2), .ref (am 3), .ref (am 4), .ref (am 5), .int (nI bm), .ref (am 6), .ref (am 7), .int (nI ap), .int (nI wr), .int (nI wa), .int (nI go)])), (am 1, .inl (cI, 1072, .inl (stA w sz ev n f L (va_up b (i.toInt.toNat) (1 - (b (i.toInt.toNat)))) x y z))), (am 2, .inl (cI, 2144, .inl im)), (am 3, .inl (cZ, 2, .inl kf)), (am 4, .inl (cI, 64, .inl (aN rf))), (am 5, .inl (cI, 1000, .inl (aN bf))), (am 6, .inl (cI, 65, .inl (aN lf))), (am 7, .inl (cI, 64, .inl (aN hf)))] rfl 41 rfl ?_
    refine j_aload_n C dX9_flip_41 0 rfl 42 rfl ?_
    refine j_get C dX9_flip_42 0 0 1 inX9_flip_9 rfl rfl (by decide) rfl rfl rfl 45 rfl ?_
    refine j_bipush C dX9_flip_45 (nI 64) (by decide) 47 rfl ?_
    refine j_iload_n C dX9_flip_47 1 rfl 48 rfl ?_
    refine j_iadd C dX9_flip_48 (nI (64 + i.toInt.toNat)) (nI_add 64 (i.toInt.toNat)) 49 rfl ?_
    refine j_ialdI C dX9_flip_49 1 rfl (by omega) (Nat.le_of_ble_eq_true rfl) (nI ((va_up b (i.toInt.toNat) (1 - (b (i.toInt.toNat)))) (i.toInt.toNat))) (stA_tape (by omega)) 50 rfl ?_
    refine j_top (nI (1 - t i.toInt.toNat)) (by simp only [va_up, if_true]; rw [hbi]) ?_
    exact j_iret C dX9_flip_50 ((w, sz, ev, n, f, L, va_up b (i.toInt.toNat) (1 - (b (i.toInt.toNat))), x, y, z), im, kf, rf, bf, bm, lf, hf, ap, wr, wa, go) (by rw [show opFlip ((w, sz, ev, n, g, L, t, x, y, z), b0, b1, kp) i = (nI (1 - t i.toInt.toNat), ((w, sz, ev, n, g, L, va_up t i.toInt.toNat (1 - t i.toInt.toNat), x, y, z), b0, b1, kp)) from (by first | rfl | (simp only [opFlip]; (repeat' split) <;> first | rfl | (exfalso; omega)))]; exact ⟨rfl, ⟨⟨hw, hsz, hev, hn, hg, hL, (fun j hj => by show va_up t i.toInt.toNat (1 - t i.toInt.toNat) j ≤ 1; simp only [va_up]; split; omega; exact ht j hj), hx5⟩, ⟨rfl, rfl, rfl, rfl, hfg, rfl, (fun j hj => by show va_up b i.toInt.toNat (1 - b i.toInt.toNat) j = va_up t i.toInt.toNat (1 - t i.toInt.toNat) j; simp only [va_up]; split; rw [hbi]; exact hbt j hj), rfl, rfl, rfl⟩, hi0, hi1, hk0, hk1, hk4⟩⟩) rfl
  · refine j_bipush C dX9_flip_18 (-2) (by decide) 20 rfl ?_
    exact j_iret C dX9_flip_20 ((w, sz, ev, n, f, L, b, x, y, z), im, kf, rf, bf, bm, lf, hf, ap, wr, wa, go) (by rw [show opFlip ((w, sz, ev, n, g, L, t, x, y, z), b0, b1, kp) i = (-2, ((w, sz, ev, n, g, L, t, x, y, z), b0, b1, kp)) from (by first | rfl | (simp only [opFlip]; (repeat' split) <;> first | rfl | (exfalso; omega)))]; exact ⟨rfl, hR0⟩) rfl
set_option maxHeartbeats 4000000 in
set_option maxRecDepth 100000 in
theorem k_X9_cut (l : Launch) (D : va_G) (cI cZ cH : ClassId) (am : Nat → Nat) (A : AT) (Y : MT) (hR : MRel A Y) (v : Int32) : Mi l D cI cZ cH yX9_cut wsX9_cut 1 22 [.ref (am 0), .int v] (wM cI cZ am Y) (fun (r9 : Int32) (Y9 : MT) => r9 = (opCut A v).1 ∧ MRel (opCut A v).2 Y9) (wM cI cZ am) := by
  obtain ⟨⟨w, sz, ev, n, f, L, b, x, y, z⟩, im, kf, rf, bf, bm, lf, hf, ap, wr, wa, go⟩ := Y
  obtain ⟨⟨w2, sz2, ev2, n2, g, L2, t, x2, y2, z2⟩, b0, b1, kp⟩ := A
  have hR0 := hR
  obtain ⟨⟨hw, hsz, hev, hn, hg, hL, ht, hx5⟩, ⟨e1, e2, e3, e4, hfg, e6, hbt, e8, e9, e10⟩, hi0, hi1, hk0, hk1, hk4⟩ := hR
  dsimp only at hw hsz hev hn hg hL ht hx5 e1 e2 e3 e4 hfg e6 hbt e8 e9 e10 hi0 hi1 hk0 hk1 hk4
  subst e1 e2 e3 e4 e6 e8 e9 e10
  have hnb : nbk sz n ≤ 64 := nbk_le hsz.1 hn
  have ht255 := tpW_le hw.2
  refine Mi.start (cc := cX9_cut) (nL := 3) (ret := (some .int)) (lv0 := [(0, .ref (am 0)), (1, .int v)]) (by decide) rfl (Nat.le_of_ble_eq_true rfl) rfl ?_
  intro pX eX sX mX bX methX cX AX C
  show J D AX pX l eX _ sX mX _ bX methX cX 0 0 _ 3 [(am 0, .inr (9, [.ref (am 1), .ref (am 2), .ref (am 3), .ref (am 4), .ref (am 5), .int (nI bm), .ref (am 6), .ref (am 7), .int (nI ap), .int (nI wr), .int (nI wa), .int (nI go)])), (am 1, .inl (cI, 1072, .inl (stA w sz ev n f L b x y z))), (am 2, .inl (cI, 2144, .inl im)), (am 3, .inl (cZ, 2, .inl kf)), (am 4, .inl (cI, 64, .inl (aN rf))), (am 5, .inl (cI, 1000, .inl (aN bf))), (am 6, .inl (cI, 65, .inl (aN lf))), (am 7, .inl (cI, 64, .inl (aN hf)))] [(0, .ref (am 0)), (1, .int v)] 0 []
  refine j_iload_n C dX9_cut_0 1 rfl 1 rfl ?_
  refine j_iconst C dX9_cut_1 (nI 0) (by decide) 2 rfl ?_
  refine j_aload_n C dX9_cut_2 0 rfl 3 rfl ?_
  refine j_get C dX9_cut_3 0 0 1 inX9_cut_9 rfl rfl (by decide) rfl rfl rfl 6 rfl ?_
  refine j_sipush C dX9_cut_6 (nI 1065) (by decide) 9 rfl ?_
  refine j_ialdI C dX9_cut_9 1 rfl (Nat.le_of_ble_eq_true rfl) (Nat.le_of_ble_eq_true rfl) (nI L) rfl 10 rfl ?_
  refine j_callSi1 (As := [.int v, .int (nI 0), .int (nI L)]) (rest := []) (wr := [(am 0, .inr (9, [.ref (am 1), .ref (am 2), .ref (am 3), .ref (am 4), .ref (am 5), .int (nI bm), .ref (am 6), .ref (am 7), .int (nI ap), .int (nI wr), .int (nI wa), .int (nI go)])), (am 1, .inl (cI, 1072, .inl (stA w sz ev n f L b x y z))), (am 2, .inl (cI, 2144, .inl im)), (am 3, .inl (cZ, 2, .inl kf)), (am 4, .inl (cI, 64, .inl (aN rf))), (am 5, .inl (cI, 1000, .inl (aN bf))), (am 6, .inl (cI, 65, .inl (aN lf))), (am 7, .inl (cI, 64, .inl (aN hf)))]) C (c_X9_in l D cI cZ cH v (nI 0) (nI L) ((v).toInt) (((0 : Nat) : Int)) (((L : Nat) : Int)) rfl (q_t (n := 0) (Nat.le_of_ble_eq_true rfl)) (q_t (by omega))) gX9_cut_X9_in dX9_cut_10 rfl yd_X9_in.2 (Nat.le_of_ble_eq_true rfl) (Nat.le_of_ble_eq_true rfl) rfl _ rfl (Nat.le_of_ble_eq_true rfl) (Nat.zero_le _) (Nat.zero_le _) [] [0, 1, 2, 3, 4, 5, 6, 7] rfl rfl rfl rfl rfl (by decide) [0, 1, 2, 3, 4, 5, 6, 7] [(am 0, .inr (9, [.ref (am 1), .ref (am 2), .ref (am 3), .ref (am 4), .ref (am 5), .int (nI bm), .ref (am 6), .ref (am 7), .int (nI ap), .int (nI wr), .int (nI wa), .int (nI go)])), (am 1, .inl (cI, 1072, .inl (stA w sz ev n f L b x y z))), (am 2, .inl (cI, 2144, .inl im)), (am 3, .inl (cZ, 2, .inl kf)), (am 4, .inl (cI, 64, .inl (aN rf))), (am 5, .inl (cI, 1000, .inl (aN bf))), (am 6, .inl (cI, 65, .inl (aN lf))), (am 7, .inl (cI, 64, .inl (aN hf)))] rfl rfl rfl 13 rfl ?_
  refine j_ifb_ne C dX9_cut_13 19 (by decide) 16 rfl (fun h13 => ?_) (fun h13 => ?_)
  · refine j_lveq [(0, .ref (am 0)), (1, .int (nI (v.toInt.toNat)))] (by rw [← q_nn (i := v) (by omega)]) ?_
    refine j_aload_n C dX9_cut_19 0 rfl 20 rfl ?_
    refine j_get C dX9_cut_20 0 0 1 inX9_cut_9 rfl rfl (by decide) rfl rfl rfl 23 rfl ?_
    refine j_sipush C dX9_cut_23 (nI 1065) (by decide) 26 rfl ?_
    refine j_ialdI C dX9_cut_26 1 rfl (Nat.le_of_ble_eq_true rfl) (Nat.le_of_ble_eq_true rfl) (nI L) rfl 27 rfl ?_
    refine j_iload_n C dX9_cut_27 1 rfl 28 rfl ?_
    refine j_isub C dX9_cut_28 (nI (L - (v.toInt.toNat))) (pk_sub (by omega)) 29 rfl ?_
    refine j_istore_n C dX9_cut_29 [(2, .int (nI (L - (v.toInt.toNat)))), (0, .ref (am 0)), (1, .int (nI (v.toInt.toNat)))] (by decide) rfl 30 rfl ?_
    refine j_aload_n C dX9_cut_30 1 rfl 31 rfl ?_
    refine j_get C dX9_cut_31 0 0 1 inX9_cut_9 rfl rfl (by decide) rfl rfl rfl 34 rfl ?_
    refine j_sipush C dX9_cut_34 (nI 1065) (by decide) 37 rfl ?_
    refine j_iload_n C dX9_cut_37 2 rfl 38 rfl ?_
    refine j_iastI C dX9_cut_38 1 rfl (Nat.le_of_ble_eq_true rfl) (Nat.le_of_ble_eq_true rfl) (stA w sz ev n f (v.toInt.toNat) b x y z) (stA_up1065 ..) [(am 0, .inr (9, [.ref (am 1), .ref (am 2), .ref (am 3), .ref (am 4), .ref (am 5), .int (nI bm), .ref (am 6), .ref (am 7), .int (nI ap), .int (nI wr), .int (nI wa), .int (nI go)])), (am 1, .inl (cI, 1072, .inl (stA w sz ev n f (v.toInt.toNat) b x y z))), (am 2, .inl (cI, 2144, .inl im)), (am 3, .inl (cZ, 2, .inl kf)), (am 4, .inl (cI, 64, .inl (aN rf))), (am 5, .inl (cI, 1000, .inl (aN bf))), (am 6, .inl (cI, 65, .inl (aN lf))), (am 7, .inl (cI, 64, .inl (aN hf)))] rfl 39 rfl ?_
    refine j_iload_n C dX9_cut_39 0 rfl 40 rfl ?_
    exact j_iret C dX9_cut_40 ((w, sz, ev, n, f, v.toInt.toNat, b, x, y, z), im, kf, rf, bf, bm, lf, hf, ap, wr, wa, go) (by rw [show opCut ((w, sz, ev, n, g, L, t, x, y, z), b0, b1, kp) v = (nI (L - (v.toInt.toNat)), ((w, sz, ev, n, g, v.toInt.toNat, t, x, y, z), b0, b1, kp)) from (by first | rfl | (simp only [opCut]; (repeat' split) <;> first | rfl | (exfalso; omega)))]; exact ⟨rfl, ⟨⟨hw, hsz, hev, hn, hg, by show v.toInt.toNat ≤ 1000; omega, (fun j hj => ht j (by have hj9 : j < v.toInt.toNat := hj; omega)), hx5⟩, ⟨rfl, rfl, rfl, rfl, hfg, rfl, (fun j hj => hbt j (by have hj9 : j < v.toInt.toNat := hj; omega)), rfl, rfl, rfl⟩, hi0, hi1, hk0, hk1, hk4⟩⟩) rfl
  · refine j_bipush C dX9_cut_16 (-2) (by decide) 18 rfl ?_
    exact j_iret C dX9_cut_18 ((w, sz, ev, n, f, L, b, x, y, z), im, kf, rf, bf, bm, lf, hf, ap, wr, wa, go) (by rw [show opCut ((w, sz, ev, n, g, L, t, x, y, z), b0, b1, kp) v = (-2, ((w, sz, ev, n, g, L, t, x, y, z), b0, b1, kp)) from (by first | rfl | (simp only [opCut]; (repeat' split) <;> first | rfl | (exfalso; omega)))]; exact ⟨rfl, hR0⟩) rfl
set_option maxHeartbeats 4000000 in
set_option maxRecDepth 100000 in
theorem k_X9_bit (l : Launch) (D : va_G) (cI cZ cH : ClassId) (am : Nat → Nat) (A : AT) (Y : MT) (hR : MRel A Y) (i : Int32) : Mi l D cI cZ cH yX9_bit wsX9_bit 0 0 [.ref (am 0), .int i] (wM cI cZ am Y) (fun (r9 : Int32) (Y9 : MT) => r9 = (opBit A i).1 ∧ MRel (opBit A i).2 Y9) (wM cI cZ am) := by
  obtain ⟨⟨w, sz, ev, n, f, L, b, x, y, z⟩, im, kf, rf, bf, bm, lf, hf, ap, wr, wa, go⟩ := Y
  obtain ⟨⟨w2, sz2, ev2, n2, g, L2, t, x2, y2, z2⟩, b0, b1, kp⟩ := A
  have hR0 := hR
  obtain ⟨⟨hw, hsz, hev, hn, hg, hL, ht, hx5⟩, ⟨e1, e2, e3, e4, hfg, e6, hbt, e8, e9, e10⟩, hi0, hi1, hk0, hk1, hk4⟩ := hR
  dsimp only at hw hsz hev hn hg hL ht hx5 e1 e2 e3 e4 hfg e6 hbt e8 e9 e10 hi0 hi1 hk0 hk1 hk4
  subst e1 e2 e3 e4 e6 e8 e9 e10
  have hnb : nbk sz n ≤ 64 := nbk_le hsz.1 hn
  have ht255 := tpW_le hw.2
  refine Mi.start (cc := cX9_bit) (nL := 2) (ret := (some .int)) (lv0 := [(0, .ref (am 0)), (1, .int i)]) (by decide) rfl (Nat.le_of_ble_eq_true rfl) rfl ?_
  intro pX eX sX mX bX methX cX AX C
  show J D AX pX l eX _ sX mX _ bX methX cX 0 0 _ 2 [(am 0, .inr (9, [.ref (am 1), .ref (am 2), .ref (am 3), .ref (am 4), .ref (am 5), .int (nI bm), .ref (am 6), .ref (am 7), .int (nI ap), .int (nI wr), .int (nI wa), .int (nI go)])), (am 1, .inl (cI, 1072, .inl (stA w sz ev n f L b x y z))), (am 2, .inl (cI, 2144, .inl im)), (am 3, .inl (cZ, 2, .inl kf)), (am 4, .inl (cI, 64, .inl (aN rf))), (am 5, .inl (cI, 1000, .inl (aN bf))), (am 6, .inl (cI, 65, .inl (aN lf))), (am 7, .inl (cI, 64, .inl (aN hf)))] [(0, .ref (am 0)), (1, .int i)] 0 []
  refine j_iload_n C dX9_bit_0 1 rfl 1 rfl ?_
  refine j_iconst C dX9_bit_1 (-1) (by decide) 2 rfl ?_
  refine j_icmp_ge C dX9_bit_2 8 (by decide) rfl (show (-1 : Int32).toInt = (-1 : Int) from rfl) 5 rfl (fun h2 => ?_) (fun h2 => ?_)
  · refine j_iload_n C dX9_bit_8 1 rfl 9 rfl ?_
    refine j_iconst C dX9_bit_9 (-1) (by decide) 10 rfl ?_
    refine j_icmp_ne C dX9_bit_10 24 (by decide) rfl (show (-1 : Int32).toInt = (-1 : Int) from rfl) 13 rfl (fun h10 => ?_) (fun h10 => ?_)
    · refine j_iload_n C dX9_bit_24 1 rfl 25 rfl ?_
      refine j_aload_n C dX9_bit_25 0 rfl 26 rfl ?_
      refine j_get C dX9_bit_26 0 0 1 inX9_bit_9 rfl rfl (by decide) rfl rfl rfl 29 rfl ?_
      refine j_sipush C dX9_bit_29 (nI 1065) (by decide) 32 rfl ?_
      refine j_ialdI C dX9_bit_32 1 rfl (Nat.le_of_ble_eq_true rfl) (Nat.le_of_ble_eq_true rfl) (nI L) rfl 33 rfl ?_
      refine j_icmp_ge C dX9_bit_33 48 (by decide) rfl (q_t (by omega)) 36 rfl (fun h33 => ?_) (fun h33 => ?_)
      · refine j_bipush C dX9_bit_48 (-6) (by decide) 50 rfl ?_
        exact j_iret C dX9_bit_50 ((w, sz, ev, n, f, L, b, x, y, z), im, kf, rf, bf, bm, lf, hf, ap, wr, wa, go) (by rw [show opBit ((w, sz, ev, n, g, L, t, x, y, z), b0, b1, kp) i = (-6, ((w, sz, ev, n, g, L, t, x, y, z), b0, b1, kp)) from (by simp only [opBit, bitR]; (repeat' split) <;> first | rfl | (exfalso; omega))]; exact ⟨rfl, hR0⟩) rfl
      · refine j_lveq [(0, .ref (am 0)), (1, .int (nI (i.toInt.toNat)))] (by rw [← q_nn (i := i) (by omega)]) ?_
        refine j_aload_n C dX9_bit_36 0 rfl 37 rfl ?_
        refine j_get C dX9_bit_37 0 0 1 inX9_bit_9 rfl rfl (by decide) rfl rfl rfl 40 rfl ?_
        refine j_bipush C dX9_bit_40 (nI 64) (by decide) 42 rfl ?_
        refine j_iload_n C dX9_bit_42 1 rfl 43 rfl ?_
        refine j_iadd C dX9_bit_43 (nI (64 + i.toInt.toNat)) (nI_add 64 (i.toInt.toNat)) 44 rfl ?_
        refine j_ialdI C dX9_bit_44 1 rfl (by omega) (Nat.le_of_ble_eq_true rfl) (nI (b (i.toInt.toNat))) (stA_tape (by omega)) 45 rfl ?_
        refine j_top (nI (t i.toInt.toNat)) (by rw [hbt _ (by omega)]) ?_
        refine j_goto C dX9_bit_45 50 (by decide) ?_
        exact j_iret C dX9_bit_50 ((w, sz, ev, n, f, L, b, x, y, z), im, kf, rf, bf, bm, lf, hf, ap, wr, wa, go) (by rw [show opBit ((w, sz, ev, n, g, L, t, x, y, z), b0, b1, kp) i = (nI (t i.toInt.toNat), ((w, sz, ev, n, g, L, t, x, y, z), b0, b1, kp)) from (by simp only [opBit, bitR]; (repeat' split) <;> first | rfl | (exfalso; omega))]; exact ⟨rfl, hR0⟩) rfl
    · refine j_aload_n C dX9_bit_13 0 rfl 14 rfl ?_
      refine j_get C dX9_bit_14 0 0 1 inX9_bit_9 rfl rfl (by decide) rfl rfl rfl 17 rfl ?_
      refine j_sipush C dX9_bit_17 (nI 1065) (by decide) 20 rfl ?_
      refine j_ialdI C dX9_bit_20 1 rfl (Nat.le_of_ble_eq_true rfl) (Nat.le_of_ble_eq_true rfl) (nI L) rfl 21 rfl ?_
      refine j_goto C dX9_bit_21 50 (by decide) ?_
      exact j_iret C dX9_bit_50 ((w, sz, ev, n, f, L, b, x, y, z), im, kf, rf, bf, bm, lf, hf, ap, wr, wa, go) (by rw [show opBit ((w, sz, ev, n, g, L, t, x, y, z), b0, b1, kp) i = (nI L, ((w, sz, ev, n, g, L, t, x, y, z), b0, b1, kp)) from (by simp only [opBit, bitR]; (repeat' split) <;> first | rfl | (exfalso; omega))]; exact ⟨rfl, hR0⟩) rfl
  · refine j_bipush C dX9_bit_5 (-2) (by decide) 7 rfl ?_
    exact j_iret C dX9_bit_7 ((w, sz, ev, n, f, L, b, x, y, z), im, kf, rf, bf, bm, lf, hf, ap, wr, wa, go) (by rw [show opBit ((w, sz, ev, n, g, L, t, x, y, z), b0, b1, kp) i = (-2, ((w, sz, ev, n, g, L, t, x, y, z), b0, b1, kp)) from (by simp only [opBit, bitR]; (repeat' split) <;> first | rfl | (exfalso; omega))]; exact ⟨rfl, hR0⟩) rfl
set_option maxHeartbeats 4000000 in
set_option maxRecDepth 100000 in
theorem k_X9_clear (l : Launch) (D : va_G) (cI cZ cH : ClassId) (am : Nat → Nat) (A : AT) (Y : MT) (hR : MRel A Y) : Mi l D cI cZ cH yX9_clear wsX9_clear 1 20 [.ref (am 0)] (wM cI cZ am Y) (fun (r9 : Int32) (Y9 : MT) => r9 = (opClear A ).1 ∧ MRel (opClear A ).2 Y9) (wM cI cZ am) := by
  obtain ⟨⟨w, sz, ev, n, f, L, b, x, y, z⟩, im, kf, rf, bf, bm, lf, hf, ap, wr, wa, go⟩ := Y
  obtain ⟨⟨w2, sz2, ev2, n2, g, L2, t, x2, y2, z2⟩, b0, b1, kp⟩ := A
  have hR0 := hR
  obtain ⟨⟨hw, hsz, hev, hn, hg, hL, ht, hx5⟩, ⟨e1, e2, e3, e4, hfg, e6, hbt, e8, e9, e10⟩, hi0, hi1, hk0, hk1, hk4⟩ := hR
  dsimp only at hw hsz hev hn hg hL ht hx5 e1 e2 e3 e4 hfg e6 hbt e8 e9 e10 hi0 hi1 hk0 hk1 hk4
  subst e1 e2 e3 e4 e6 e8 e9 e10
  have hnb : nbk sz n ≤ 64 := nbk_le hsz.1 hn
  have ht255 := tpW_le hw.2
  refine Mi.start (cc := cX9_clear) (nL := 2) (ret := (some .int)) (lv0 := [(0, .ref (am 0))]) (by decide) rfl (Nat.le_of_ble_eq_true rfl) rfl ?_
  intro pX eX sX mX bX methX cX AX C
  show J D AX pX l eX _ sX mX _ bX methX cX 0 0 _ 2 [(am 0, .inr (9, [.ref (am 1), .ref (am 2), .ref (am 3), .ref (am 4), .ref (am 5), .int (nI bm), .ref (am 6), .ref (am 7), .int (nI ap), .int (nI wr), .int (nI wa), .int (nI go)])), (am 1, .inl (cI, 1072, .inl (stA w sz ev n f L b x y z))), (am 2, .inl (cI, 2144, .inl im)), (am 3, .inl (cZ, 2, .inl kf)), (am 4, .inl (cI, 64, .inl (aN rf))), (am 5, .inl (cI, 1000, .inl (aN bf))), (am 6, .inl (cI, 65, .inl (aN lf))), (am 7, .inl (cI, 64, .inl (aN hf)))] [(0, .ref (am 0))] 0 []
  refine j_aload_n C dX9_clear_0 0 rfl 1 rfl ?_
  refine j_callVi1 (As := []) (rest := []) (wr := [(am 2, .inl (cI, 2144, .inl im)), (am 3, .inl (cZ, 2, .inl kf)), (am 4, .inl (cI, 64, .inl (aN rf))), (am 5, .inl (cI, 1000, .inl (aN bf))), (am 6, .inl (cI, 65, .inl (aN lf))), (am 7, .inl (cI, 64, .inl (aN hf)))]) C (c_X9_many l D cI cZ cH (am 0) (am 1) (am 2) (am 3) (am 4) (am 5) bm (am 6) (am 7) ap wr wa go w sz ev n f L b x y z ) gX9_clear_X9_many dX9_clear_1 rfl yd_X9_many (Nat.le_of_ble_eq_true rfl) (Nat.le_of_ble_eq_true rfl) rfl rfl rfl _ rfl (Nat.le_of_ble_eq_true rfl) (Nat.zero_le _) (Nat.zero_le _) [0, 1] [2, 3, 4, 5, 6, 7] rfl rfl rfl rfl rfl (by decide) [6, 7, 0, 1, 2, 3, 4, 5] [(am 0, .inr (9, [.ref (am 1), .ref (am 2), .ref (am 3), .ref (am 4), .ref (am 5), .int (nI bm), .ref (am 6), .ref (am 7), .int (nI ap), .int (nI wr), .int (nI wa), .int (nI go)])), (am 1, .inl (cI, 1072, .inl (stA w sz ev n f L b x y z))), (am 2, .inl (cI, 2144, .inl im)), (am 3, .inl (cZ, 2, .inl kf)), (am 4, .inl (cI, 64, .inl (aN rf))), (am 5, .inl (cI, 1000, .inl (aN bf))), (am 6, .inl (cI, 65, .inl (aN lf))), (am 7, .inl (cI, 64, .inl (aN hf)))] rfl rfl rfl 4 rfl ?_
  refine j_istore_n C dX9_clear_4 [(1, .int (nI n)), (0, .ref (am 0))] (by decide) rfl 5 rfl ?_
  refine j_aload_n C dX9_clear_5 1 rfl 6 rfl ?_
  refine j_get C dX9_clear_6 0 0 1 inX9_clear_9 rfl rfl (by decide) rfl rfl rfl 9 rfl ?_
  refine j_sipush C dX9_clear_9 (nI 1064) (by decide) 12 rfl ?_
  refine j_iconst C dX9_clear_12 (nI 0) (by decide) 13 rfl ?_
  refine j_iastI C dX9_clear_13 1 rfl (Nat.le_of_ble_eq_true rfl) (Nat.le_of_ble_eq_true rfl) (stA w sz ev 0 f L b x y z) (stA_up1064 ..) [(am 0, .inr (9, [.ref (am 1), .ref (am 2), .ref (am 3), .ref (am 4), .ref (am 5), .int (nI bm), .ref (am 6), .ref (am 7), .int (nI ap), .int (nI wr), .int (nI wa), .int (nI go)])), (am 1, .inl (cI, 1072, .inl (stA w sz ev 0 f L b x y z))), (am 2, .inl (cI, 2144, .inl im)), (am 3, .inl (cZ, 2, .inl kf)), (am 4, .inl (cI, 64, .inl (aN rf))), (am 5, .inl (cI, 1000, .inl (aN bf))), (am 6, .inl (cI, 65, .inl (aN lf))), (am 7, .inl (cI, 64, .inl (aN hf)))] rfl 14 rfl ?_
  refine j_iload_n C dX9_clear_14 0 rfl 15 rfl ?_
  exact j_iret C dX9_clear_15 ((w, sz, ev, 0, f, L, b, x, y, z), im, kf, rf, bf, bm, lf, hf, ap, wr, wa, go) (by rw [show opClear ((w, sz, ev, n, g, L, t, x, y, z), b0, b1, kp) = (nI n, ((w, sz, ev, 0, g, L, t, x, y, z), b0, b1, kp)) from (by rfl)]; exact ⟨rfl, ⟨⟨hw, hsz, hev, Nat.zero_le _, (fun j hj => absurd hj (Nat.not_lt_zero j)), hL, ht, hx5⟩, ⟨rfl, rfl, rfl, rfl, (fun j hj => absurd hj (Nat.not_lt_zero j)), rfl, hbt, rfl, rfl, rfl⟩, hi0, hi1, hk0, hk1, hk4⟩⟩) rfl
set_option maxHeartbeats 4000000 in
set_option maxRecDepth 100000 in
theorem k_X9_add (l : Launch) (D : va_G) (cI cZ cH : ClassId) (am : Nat → Nat) (A : AT) (Y : MT) (hR : MRel A Y) (v : Int32) : Mi l D cI cZ cH yX9_add wsX9_add 1 22 [.ref (am 0), .int v] (wM cI cZ am Y) (fun (r9 : Int32) (Y9 : MT) => r9 = (opAdd A v).1 ∧ MRel (opAdd A v).2 Y9) (wM cI cZ am) := by
  obtain ⟨⟨w, sz, ev, n, f, L, b, x, y, z⟩, im, kf, rf, bf, bm, lf, hf, ap, wr, wa, go⟩ := Y
  obtain ⟨⟨w2, sz2, ev2, n2, g, L2, t, x2, y2, z2⟩, b0, b1, kp⟩ := A
  have hR0 := hR
  obtain ⟨⟨hw, hsz, hev, hn, hg, hL, ht, hx5⟩, ⟨e1, e2, e3, e4, hfg, e6, hbt, e8, e9, e10⟩, hi0, hi1, hk0, hk1, hk4⟩ := hR
  dsimp only at hw hsz hev hn hg hL ht hx5 e1 e2 e3 e4 hfg e6 hbt e8 e9 e10 hi0 hi1 hk0 hk1 hk4
  subst e1 e2 e3 e4 e6 e8 e9 e10
  have hnb : nbk sz n ≤ 64 := nbk_le hsz.1 hn
  have ht255 := tpW_le hw.2
  refine Mi.start (cc := cX9_add) (nL := 2) (ret := (some .int)) (lv0 := [(0, .ref (am 0)), (1, .int v)]) (by decide) rfl (Nat.le_of_ble_eq_true rfl) rfl ?_
  intro pX eX sX mX bX methX cX AX C
  show J D AX pX l eX _ sX mX _ bX methX cX 0 0 _ 2 [(am 0, .inr (9, [.ref (am 1), .ref (am 2), .ref (am 3), .ref (am 4), .ref (am 5), .int (nI bm), .ref (am 6), .ref (am 7), .int (nI ap), .int (nI wr), .int (nI wa), .int (nI go)])), (am 1, .inl (cI, 1072, .inl (stA w sz ev n f L b x y z))), (am 2, .inl (cI, 2144, .inl im)), (am 3, .inl (cZ, 2, .inl kf)), (am 4, .inl (cI, 64, .inl (aN rf))), (am 5, .inl (cI, 1000, .inl (aN bf))), (am 6, .inl (cI, 65, .inl (aN lf))), (am 7, .inl (cI, 64, .inl (aN hf)))] [(0, .ref (am 0)), (1, .int v)] 0 []
  refine j_iload_n C dX9_add_0 1 rfl 1 rfl ?_
  refine j_iconst C dX9_add_1 (nI 0) (by decide) 2 rfl ?_
  refine j_aload_n C dX9_add_2 0 rfl 3 rfl ?_
  refine j_callVi1 (As := []) (rest := [.int (nI 0), .int v]) (wr := [(am 2, .inl (cI, 2144, .inl im)), (am 3, .inl (cZ, 2, .inl kf)), (am 4, .inl (cI, 64, .inl (aN rf))), (am 5, .inl (cI, 1000, .inl (aN bf))), (am 6, .inl (cI, 65, .inl (aN lf))), (am 7, .inl (cI, 64, .inl (aN hf)))]) C (c_X9_top l D cI cZ cH (am 0) (am 1) (am 2) (am 3) (am 4) (am 5) bm (am 6) (am 7) ap wr wa go w sz ev n f L b x y z hw.2) gX9_add_X9_top dX9_add_3 rfl yd_X9_top (Nat.le_of_ble_eq_true rfl) (Nat.le_of_ble_eq_true rfl) rfl rfl rfl _ rfl (Nat.le_of_ble_eq_true rfl) (Nat.zero_le _) (Nat.zero_le _) [0, 1] [2, 3, 4, 5, 6, 7] rfl rfl rfl rfl rfl (by decide) [6, 7, 0, 1, 2, 3, 4, 5] [(am 0, .inr (9, [.ref (am 1), .ref (am 2), .ref (am 3), .ref (am 4), .ref (am 5), .int (nI bm), .ref (am 6), .ref (am 7), .int (nI ap), .int (nI wr), .int (nI wa), .int (nI go)])), (am 1, .inl (cI, 1072, .inl (stA w sz ev n f L b x y z))), (am 2, .inl (cI, 2144, .inl im)), (am 3, .inl (cZ, 2, .inl kf)), (am 4, .inl (cI, 64, .inl (aN rf))), (am 5, .inl (cI, 1000, .inl (aN bf))), (am 6, .inl (cI, 65, .inl (aN lf))), (am 7, .inl (cI, 64, .inl (aN hf)))] rfl rfl rfl 6 rfl ?_
  refine j_callSi1 (As := [.int v, .int (nI 0), .int (nI (tpW w))]) (rest := []) (wr := [(am 0, .inr (9, [.ref (am 1), .ref (am 2), .ref (am 3), .ref (am 4), .ref (am 5), .int (nI bm), .ref (am 6), .ref (am 7), .int (nI ap), .int (nI wr), .int (nI wa), .int (nI go)])), (am 1, .inl (cI, 1072, .inl (stA w sz ev n f L b x y z))), (am 2, .inl (cI, 2144, .inl im)), (am 3, .inl (cZ, 2, .inl kf)), (am 4, .inl (cI, 64, .inl (aN rf))), (am 5, .inl (cI, 1000, .inl (aN bf))), (am 6, .inl (cI, 65, .inl (aN lf))), (am 7, .inl (cI, 64, .inl (aN hf)))]) C (c_X9_in l D cI cZ cH v (nI 0) (nI (tpW w)) ((v).toInt) (((0 : Nat) : Int)) (((tpW w : Nat) : Int)) rfl (q_t (n := 0) (Nat.le_of_ble_eq_true rfl)) (q_t (by omega))) gX9_add_X9_in dX9_add_6 rfl yd_X9_in.2 (Nat.le_of_ble_eq_true rfl) (Nat.le_of_ble_eq_true rfl) rfl _ rfl (Nat.le_of_ble_eq_true rfl) (Nat.zero_le _) (Nat.zero_le _) [] [0, 1, 2, 3, 4, 5, 6, 7] rfl rfl rfl rfl rfl (by decide) [0, 1, 2, 3, 4, 5, 6, 7] [(am 0, .inr (9, [.ref (am 1), .ref (am 2), .ref (am 3), .ref (am 4), .ref (am 5), .int (nI bm), .ref (am 6), .ref (am 7), .int (nI ap), .int (nI wr), .int (nI wa), .int (nI go)])), (am 1, .inl (cI, 1072, .inl (stA w sz ev n f L b x y z))), (am 2, .inl (cI, 2144, .inl im)), (am 3, .inl (cZ, 2, .inl kf)), (am 4, .inl (cI, 64, .inl (aN rf))), (am 5, .inl (cI, 1000, .inl (aN bf))), (am 6, .inl (cI, 65, .inl (aN lf))), (am 7, .inl (cI, 64, .inl (aN hf)))] rfl rfl rfl 9 rfl ?_
  refine j_ifb_ne C dX9_add_9 15 (by decide) 12 rfl (fun h9 => ?_) (fun h9 => ?_)
  · refine j_aload_n C dX9_add_15 0 rfl 16 rfl ?_
    refine j_callVi1 (As := []) (rest := []) (wr := [(am 2, .inl (cI, 2144, .inl im)), (am 3, .inl (cZ, 2, .inl kf)), (am 4, .inl (cI, 64, .inl (aN rf))), (am 5, .inl (cI, 1000, .inl (aN bf))), (am 6, .inl (cI, 65, .inl (aN lf))), (am 7, .inl (cI, 64, .inl (aN hf)))]) C (c_X9_many l D cI cZ cH (am 0) (am 1) (am 2) (am 3) (am 4) (am 5) bm (am 6) (am 7) ap wr wa go w sz ev n f L b x y z ) gX9_add_X9_many dX9_add_16 rfl yd_X9_many (Nat.le_of_ble_eq_true rfl) (Nat.le_of_ble_eq_true rfl) rfl rfl rfl _ rfl (Nat.le_of_ble_eq_true rfl) (Nat.zero_le _) (Nat.zero_le _) [0, 1] [2, 3, 4, 5, 6, 7] rfl rfl rfl rfl rfl (by decide) [6, 7, 0, 1, 2, 3, 4, 5] [(am 0, .inr (9, [.ref (am 1), .ref (am 2), .ref (am 3), .ref (am 4), .ref (am 5), .int (nI bm), .ref (am 6), .ref (am 7), .int (nI ap), .int (nI wr), .int (nI wa), .int (nI go)])), (am 1, .inl (cI, 1072, .inl (stA w sz ev n f L b x y z))), (am 2, .inl (cI, 2144, .inl im)), (am 3, .inl (cZ, 2, .inl kf)), (am 4, .inl (cI, 64, .inl (aN rf))), (am 5, .inl (cI, 1000, .inl (aN bf))), (am 6, .inl (cI, 65, .inl (aN lf))), (am 7, .inl (cI, 64, .inl (aN hf)))] rfl rfl rfl 19 rfl ?_
    refine j_bipush C dX9_add_19 (nI 64) (by decide) 21 rfl ?_
    refine j_icmp_ne C dX9_add_21 27 (by decide) (q_t (by omega)) (q_t (n := 64) (Nat.le_of_ble_eq_true rfl)) 24 rfl (fun h21 => ?_) (fun h21 => ?_)
    · refine j_lveq [(0, .ref (am 0)), (1, .int (nI (v.toInt.toNat)))] (by rw [← q_nn (i := v) (by omega)]) ?_
      refine j_aload_n C dX9_add_27 0 rfl 28 rfl ?_
      refine j_get C dX9_add_28 0 0 1 inX9_add_9 rfl rfl (by decide) rfl rfl rfl 31 rfl ?_
      refine j_aload_n C dX9_add_31 0 rfl 32 rfl ?_
      refine j_callVi1 (As := []) (rest := [.ref (am 1)]) (wr := [(am 2, .inl (cI, 2144, .inl im)), (am 3, .inl (cZ, 2, .inl kf)), (am 4, .inl (cI, 64, .inl (aN rf))), (am 5, .inl (cI, 1000, .inl (aN bf))), (am 6, .inl (cI, 65, .inl (aN lf))), (am 7, .inl (cI, 64, .inl (aN hf)))]) C (c_X9_many l D cI cZ cH (am 0) (am 1) (am 2) (am 3) (am 4) (am 5) bm (am 6) (am 7) ap wr wa go w sz ev n f L b x y z ) gX9_add_X9_many dX9_add_32 rfl yd_X9_many (Nat.le_of_ble_eq_true rfl) (Nat.le_of_ble_eq_true rfl) rfl rfl rfl _ rfl (Nat.le_of_ble_eq_true rfl) (Nat.zero_le _) (Nat.zero_le _) [0, 1] [2, 3, 4, 5, 6, 7] rfl rfl rfl rfl rfl (by decide) [6, 7, 0, 1, 2, 3, 4, 5] [(am 0, .inr (9, [.ref (am 1), .ref (am 2), .ref (am 3), .ref (am 4), .ref (am 5), .int (nI bm), .ref (am 6), .ref (am 7), .int (nI ap), .int (nI wr), .int (nI wa), .int (nI go)])), (am 1, .inl (cI, 1072, .inl (stA w sz ev n f L b x y z))), (am 2, .inl (cI, 2144, .inl im)), (am 3, .inl (cZ, 2, .inl kf)), (am 4, .inl (cI, 64, .inl (aN rf))), (am 5, .inl (cI, 1000, .inl (aN bf))), (am 6, .inl (cI, 65, .inl (aN lf))), (am 7, .inl (cI, 64, .inl (aN hf)))] rfl rfl rfl 35 rfl ?_
      refine j_iload_n C dX9_add_35 1 rfl 36 rfl ?_
      refine j_iastI C dX9_add_36 1 rfl (by omega) (Nat.le_of_ble_eq_true rfl) (stA w sz ev n (va_up f n (v.toInt.toNat)) L b x y z) (stA_upr (by omega)) [(am 0, .inr (9, [.ref (am 1), .ref (am 2), .ref (am 3), .ref (am 4), .ref (am 5), .int (nI bm), .ref (am 6), .ref (am 7), .int (nI ap), .int (nI wr), .int (nI wa), .int (nI go)])), (am 1, .inl (cI, 1072, .inl (stA w sz ev n (va_up f n (v.toInt.toNat)) L b x y z))), (am 2, .inl (cI, 2144, .inl im)), (am 3, .inl (cZ, 2, .inl kf)), (am 4, .inl (cI, 64, .inl (aN rf))), (am 5, .inl (cI, 1000, .inl (aN bf))), (am 6, .inl (cI, 65, .inl (aN lf))), (am 7, .inl (cI, 64, .inl (aN hf)))] rfl 37 rfl ?_
      refine j_aload_n C dX9_add_37 0 rfl 38 rfl ?_
      refine j_get C dX9_add_38 0 0 1 inX9_add_9 rfl rfl (by decide) rfl rfl rfl 41 rfl ?_
      refine j_sipush C dX9_add_41 (nI 1064) (by decide) 44 rfl ?_
      refine j_dup2 C dX9_add_44 rfl rfl 45 rfl ?_
      refine j_ialdI C dX9_add_45 1 rfl (Nat.le_of_ble_eq_true rfl) (Nat.le_of_ble_eq_true rfl) (nI n) rfl 46 rfl ?_
      refine j_iconst C dX9_add_46 (nI 1) (by decide) 47 rfl ?_
      refine j_iadd C dX9_add_47 (nI (n + 1)) (nI_add n 1) 48 rfl ?_
      refine j_iastI C dX9_add_48 1 rfl (Nat.le_of_ble_eq_true rfl) (Nat.le_of_ble_eq_true rfl) (stA w sz ev (n + 1) (va_up f n (v.toInt.toNat)) L b x y z) (stA_up1064 ..) [(am 0, .inr (9, [.ref (am 1), .ref (am 2), .ref (am 3), .ref (am 4), .ref (am 5), .int (nI bm), .ref (am 6), .ref (am 7), .int (nI ap), .int (nI wr), .int (nI wa), .int (nI go)])), (am 1, .inl (cI, 1072, .inl (stA w sz ev (n + 1) (va_up f n (v.toInt.toNat)) L b x y z))), (am 2, .inl (cI, 2144, .inl im)), (am 3, .inl (cZ, 2, .inl kf)), (am 4, .inl (cI, 64, .inl (aN rf))), (am 5, .inl (cI, 1000, .inl (aN bf))), (am 6, .inl (cI, 65, .inl (aN lf))), (am 7, .inl (cI, 64, .inl (aN hf)))] rfl 49 rfl ?_
      refine j_aload_n C dX9_add_49 0 rfl 50 rfl ?_
      refine j_callVi1 (As := []) (rest := []) (wr := [(am 2, .inl (cI, 2144, .inl im)), (am 3, .inl (cZ, 2, .inl kf)), (am 4, .inl (cI, 64, .inl (aN rf))), (am 5, .inl (cI, 1000, .inl (aN bf))), (am 6, .inl (cI, 65, .inl (aN lf))), (am 7, .inl (cI, 64, .inl (aN hf)))]) C (c_X9_many l D cI cZ cH (am 0) (am 1) (am 2) (am 3) (am 4) (am 5) bm (am 6) (am 7) ap wr wa go w sz ev (n + 1) (va_up f n (v.toInt.toNat)) L b x y z ) gX9_add_X9_many dX9_add_50 rfl yd_X9_many (Nat.le_of_ble_eq_true rfl) (Nat.le_of_ble_eq_true rfl) rfl rfl rfl _ rfl (Nat.le_of_ble_eq_true rfl) (Nat.zero_le _) (Nat.zero_le _) [0, 1] [2, 3, 4, 5, 6, 7] rfl rfl rfl rfl rfl (by decide) [6, 7, 0, 1, 2, 3, 4, 5] [(am 0, .inr (9, [.ref (am 1), .ref (am 2), .ref (am 3), .ref (am 4), .ref (am 5), .int (nI bm), .ref (am 6), .ref (am 7), .int (nI ap), .int (nI wr), .int (nI wa), .int (nI go)])), (am 1, .inl (cI, 1072, .inl (stA w sz ev (n + 1) (va_up f n (v.toInt.toNat)) L b x y z))), (am 2, .inl (cI, 2144, .inl im)), (am 3, .inl (cZ, 2, .inl kf)), (am 4, .inl (cI, 64, .inl (aN rf))), (am 5, .inl (cI, 1000, .inl (aN bf))), (am 6, .inl (cI, 65, .inl (aN lf))), (am 7, .inl (cI, 64, .inl (aN hf)))] rfl rfl rfl 53 rfl ?_
      exact j_iret C dX9_add_53 ((w, sz, ev, n + 1, va_up f n (v.toInt.toNat), L, b, x, y, z), im, kf, rf, bf, bm, lf, hf, ap, wr, wa, go) (by rw [show opAdd ((w, sz, ev, n, g, L, t, x, y, z), b0, b1, kp) v = (nI (n + 1), ((w, sz, ev, n + 1, va_up g n v.toInt.toNat, L, t, x, y, z), b0, b1, kp)) from (by first | rfl | (simp only [opAdd]; (repeat' split) <;> first | rfl | (exfalso; omega)))]; exact ⟨rfl, ⟨⟨hw, hsz, hev, by show n + 1 ≤ 64; omega, (fun j hj => by have hj9 : j < n + 1 := hj; show va_up g n v.toInt.toNat j ≤ tpW w; simp only [va_up]; split; omega; exact hg j (by omega)), hL, ht, hx5⟩, ⟨rfl, rfl, rfl, rfl, (fun j hj => by have hj9 : j < n + 1 := hj; show va_up f n v.toInt.toNat j = va_up g n v.toInt.toNat j; simp only [va_up]; split; rfl; exact hfg j (by omega)), rfl, hbt, rfl, rfl, rfl⟩, hi0, hi1, hk0, hk1, hk4⟩⟩) rfl
    · refine j_bipush C dX9_add_24 (-4) (by decide) 26 rfl ?_
      exact j_iret C dX9_add_26 ((w, sz, ev, n, f, L, b, x, y, z), im, kf, rf, bf, bm, lf, hf, ap, wr, wa, go) (by rw [show opAdd ((w, sz, ev, n, g, L, t, x, y, z), b0, b1, kp) v = (-4, ((w, sz, ev, n, g, L, t, x, y, z), b0, b1, kp)) from (by first | rfl | (simp only [opAdd]; (repeat' split) <;> first | rfl | (exfalso; omega)))]; exact ⟨rfl, hR0⟩) rfl
  · refine j_bipush C dX9_add_12 (-2) (by decide) 14 rfl ?_
    exact j_iret C dX9_add_14 ((w, sz, ev, n, f, L, b, x, y, z), im, kf, rf, bf, bm, lf, hf, ap, wr, wa, go) (by rw [show opAdd ((w, sz, ev, n, g, L, t, x, y, z), b0, b1, kp) v = (-2, ((w, sz, ev, n, g, L, t, x, y, z), b0, b1, kp)) from (by first | rfl | (simp only [opAdd]; (repeat' split) <;> first | rfl | (exfalso; omega)))]; exact ⟨rfl, hR0⟩) rfl
