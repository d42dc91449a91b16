set_option maxHeartbeats 4000000 in
set_option maxRecDepth 100000 in
theorem k_X9_rule (l : Launch) (D : va_G) (cI cZ cH : ClassId) (am : Nat → Nat) (A : AT) (Y : MT) (hR : MRel A Y) (what : Int32) (v : Int32) : Mi l D cI cZ cH yX9_rule wsX9_rule 2 43 [.ref (am 0), .int what, .int v] (wM cI cZ am Y) (fun (r9 : Int32) (Y9 : MT) => r9 = (opRule A what v).1 ∧ MRel (opRule A what v).2 Y9) (wM cI cZ am) := by
  obtain ⟨⟨w, sz, ev, n, f, L, b, x, y, z⟩, im, kf, rf, bf, bm, lf, hf, ap, wr, wa, go⟩ := Y
  obtain ⟨⟨w2, sz2, ev2, n2, g, L2, t, x2, y2, z2⟩, b0, b1, kp⟩ := A
  have hR0 := hR
  obtain ⟨⟨hw, hsz, hev, hn, hg, hL, ht, hx5⟩, ⟨e1, e2, e3, e4, hfg, e6, hbt, e8, e9, e10⟩, hi0, hi1, hk0, hk1, hk4⟩ := hR
  dsimp only at hw hsz hev hn hg hL ht hx5 e1 e2 e3 e4 hfg e6 hbt e8 e9 e10 hi0 hi1 hk0 hk1 hk4
  subst e1 e2 e3 e4 e6 e8 e9 e10
  have hnb : nbk sz n ≤ 64 := nbk_le hsz.1 hn
  have ht255 := tpW_le hw.2
  refine Mi.start (cc := cX9_rule) (nL := 4) (ret := (some .int)) (lv0 := [(0, .ref (am 0)), (1, .int what), (2, .int v)]) (by decide) rfl (Nat.le_of_ble_eq_true rfl) rfl ?_
  intro pX eX sX mX bX methX cX AX C
  show J D AX pX l eX _ sX mX _ bX methX cX 0 0 _ 4 [(am 0, .inr (9, [.ref (am 1), .ref (am 2), .ref (am 3), .ref (am 4), .ref (am 5), .int (nI bm), .ref (am 6), .ref (am 7), .int (nI ap), .int (nI wr), .int (nI wa), .int (nI go)])), (am 1, .inl (cI, 1072, .inl (stA w sz ev n f L b x y z))), (am 2, .inl (cI, 2144, .inl im)), (am 3, .inl (cZ, 2, .inl kf)), (am 4, .inl (cI, 64, .inl (aN rf))), (am 5, .inl (cI, 1000, .inl (aN bf))), (am 6, .inl (cI, 65, .inl (aN lf))), (am 7, .inl (cI, 64, .inl (aN hf)))] [(0, .ref (am 0)), (1, .int what), (2, .int v)] 0 []
  have hmx := mxN_le (g := g) (n := n) (B := 255) (fun j hj => Nat.le_trans (hg j hj) ht255)
  refine j_iload_n C dX9_rule_0 1 rfl 1 rfl ?_
  refine j_iconst C dX9_rule_1 (nI 0) (by decide) 2 rfl ?_
  refine j_iconst C dX9_rule_2 (nI 2) (by decide) 3 rfl ?_
  refine j_callSi1 (As := [.int what, .int (nI 0), .int (nI 2)]) (rest := []) (wr := [(am 0, .inr (9, [.ref (am 1), .ref (am 2), .ref (am 3), .ref (am 4), .ref (am 5), .int (nI bm), .ref (am 6), .ref (am 7), .int (nI ap), .int (nI wr), .int (nI wa), .int (nI go)])), (am 1, .inl (cI, 1072, .inl (stA w sz ev n f L b x y z))), (am 2, .inl (cI, 2144, .inl im)), (am 3, .inl (cZ, 2, .inl kf)), (am 4, .inl (cI, 64, .inl (aN rf))), (am 5, .inl (cI, 1000, .inl (aN bf))), (am 6, .inl (cI, 65, .inl (aN lf))), (am 7, .inl (cI, 64, .inl (aN hf)))]) C (c_X9_in l D cI cZ cH what (nI 0) (nI 2) ((what).toInt) (((0 : Nat) : Int)) (((2 : Nat) : Int)) rfl (q_t (n := 0) (Nat.le_of_ble_eq_true rfl)) (q_t (n := 2) (Nat.le_of_ble_eq_true rfl))) gX9_rule_X9_in dX9_rule_3 rfl yd_X9_in.2 (Nat.le_of_ble_eq_true rfl) (Nat.le_of_ble_eq_true rfl) rfl _ rfl (Nat.le_of_ble_eq_true rfl) (Nat.zero_le _) (Nat.zero_le _) [] [0, 1, 2, 3, 4, 5, 6, 7] rfl rfl rfl rfl rfl (by decide) [0, 1, 2, 3, 4, 5, 6, 7] [(am 0, .inr (9, [.ref (am 1), .ref (am 2), .ref (am 3), .ref (am 4), .ref (am 5), .int (nI bm), .ref (am 6), .ref (am 7), .int (nI ap), .int (nI wr), .int (nI wa), .int (nI go)])), (am 1, .inl (cI, 1072, .inl (stA w sz ev n f L b x y z))), (am 2, .inl (cI, 2144, .inl im)), (am 3, .inl (cZ, 2, .inl kf)), (am 4, .inl (cI, 64, .inl (aN rf))), (am 5, .inl (cI, 1000, .inl (aN bf))), (am 6, .inl (cI, 65, .inl (aN lf))), (am 7, .inl (cI, 64, .inl (aN hf)))] rfl rfl rfl 6 rfl ?_
  refine j_ifb_eq C dX9_rule_6 27 (by decide) 9 rfl (fun h6 => ?_) (fun h6 => ?_)
  · refine j_bipush C dX9_rule_27 (-2) (by decide) 29 rfl ?_
    exact j_iret C dX9_rule_29 ((w, sz, ev, n, f, L, b, x, y, z), im, kf, rf, bf, bm, lf, hf, ap, wr, wa, go) (by rw [show opRule ((w, sz, ev, n, g, L, t, x, y, z), b0, b1, kp) what v = (-2, ((w, sz, ev, n, g, L, t, x, y, z), b0, b1, kp)) from (by first | rfl | (simp only [opRule]; (repeat' split) <;> first | rfl | (exfalso; omega)))]; exact ⟨rfl, hR0⟩) rfl
  · refine j_iload_n C dX9_rule_9 2 rfl 10 rfl ?_
    refine j_iload_n C dX9_rule_10 1 rfl 11 rfl ?_
    refine j_if_ne C dX9_rule_11 18 (by decide) rfl 14 rfl (fun h11 => ?_) (fun h11 => ?_)
    · refine j_iconst C dX9_rule_18 (nI 1) (by decide) 19 rfl ?_
      refine j_bipush C dX9_rule_19 (nI 8) (by decide) 21 rfl ?_
      refine j_callSi1 (As := [.int v, .int (nI 1), .int (nI 8)]) (rest := []) (wr := [(am 0, .inr (9, [.ref (am 1), .ref (am 2), .ref (am 3), .ref (am 4), .ref (am 5), .int (nI bm), .ref (am 6), .ref (am 7), .int (nI ap), .int (nI wr), .int (nI wa), .int (nI go)])), (am 1, .inl (cI, 1072, .inl (stA w sz ev n f L b x y z))), (am 2, .inl (cI, 2144, .inl im)), (am 3, .inl (cZ, 2, .inl kf)), (am 4, .inl (cI, 64, .inl (aN rf))), (am 5, .inl (cI, 1000, .inl (aN bf))), (am 6, .inl (cI, 65, .inl (aN lf))), (am 7, .inl (cI, 64, .inl (aN hf)))]) C (c_X9_in l D cI cZ cH v (nI 1) (nI 8) ((v).toInt) (((1 : Nat) : Int)) (((8 : Nat) : Int)) rfl (q_t (n := 1) (Nat.le_of_ble_eq_true rfl)) (q_t (n := 8) (Nat.le_of_ble_eq_true rfl))) gX9_rule_X9_in dX9_rule_21 rfl yd_X9_in.2 (Nat.le_of_ble_eq_true rfl) (Nat.le_of_ble_eq_true rfl) rfl _ rfl (Nat.le_of_ble_eq_true rfl) (Nat.zero_le _) (Nat.zero_le _) [] [0, 1, 2, 3, 4, 5, 6, 7] rfl rfl rfl rfl rfl (by decide) [0, 1, 2, 3, 4, 5, 6, 7] [(am 0, .inr (9, [.ref (am 1), .ref (am 2), .ref (am 3), .ref (am 4), .ref (am 5), .int (nI bm), .ref (am 6), .ref (am 7), .int (nI ap), .int (nI wr), .int (nI wa), .int (nI go)])), (am 1, .inl (cI, 1072, .inl (stA w sz ev n f L b x y z))), (am 2, .inl (cI, 2144, .inl im)), (am 3, .inl (cZ, 2, .inl kf)), (am 4, .inl (cI, 64, .inl (aN rf))), (am 5, .inl (cI, 1000, .inl (aN bf))), (am 6, .inl (cI, 65, .inl (aN lf))), (am 7, .inl (cI, 64, .inl (aN hf)))] rfl rfl rfl 24 rfl ?_
      refine j_ifb_ne C dX9_rule_24 30 (by decide) 27 rfl (fun h24 => ?_) (fun h24 => ?_)
      · rcases (show what.toInt.toNat = 0 ∨ what.toInt.toNat = 1 ∨ what.toInt.toNat = 2 by omega) with hK | hK | hK
        · refine j_lveq [(0, .ref (am 0)), (1, .int what), (2, .int (nI (v.toInt.toNat)))] (by rw [← q_nn (i := v) (by omega)]) ?_
          have hv8 := tpW_le (show v.toInt.toNat ≤ 8 by omega)
          have hp8 := p2le (show v.toInt.toNat ≤ 8 by omega)
          refine j_lveq [(0, .ref (am 0)), (1, .int (nI 0)), (2, .int (nI (v.toInt.toNat)))] (by rw [← hK, ← q_nn (i := what) (by omega)]) ?_
          refine j_iload_n C dX9_rule_30 1 rfl 31 rfl ?_
          refine j_if_ne C dX9_rule_31 49 (by decide) (q_t (n := 0) (Nat.le_of_ble_eq_true rfl)) 34 rfl (fun h9 => by exfalso; omega) (fun h31 => ?_)
          refine j_aload_n C dX9_rule_34 0 rfl 35 rfl ?_
          refine j_iconst C dX9_rule_35 (nI 1) (by decide) 36 rfl ?_
          refine j_iload_n C dX9_rule_36 2 rfl 37 rfl ?_
          refine j_ishl C dX9_rule_37 (nI (1 * 2 ^ (v.toInt.toNat))) (q_shl (by omega) (by omega)) 38 rfl ?_
          refine j_iconst C dX9_rule_38 (nI 1) (by decide) 39 rfl ?_
          refine j_isub C dX9_rule_39 (nI ((1 * 2 ^ (v.toInt.toNat)) - 1)) (pk_sub (by omega)) 40 rfl ?_
          refine j_top (nI (tpW v.toInt.toNat)) (by congr 1; simp only [tpW]; omega) ?_
          refine j_callVi1 (As := [.int (nI (tpW v.toInt.toNat))]) (rest := []) (wr := [(am 2, .inl (cI, 2144, .inl im)), (am 3, .inl (cZ, 2, .inl kf)), (am 4, .inl (cI, 64, .inl (aN rf))), (am 5, .inl (cI, 1000, .inl (aN bf))), (am 6, .inl (cI, 65, .inl (aN lf))), (am 7, .inl (cI, 64, .inl (aN hf)))]) C (c_X9_fitsBelow l D cI cZ cH (am 0) (am 1) (am 2) (am 3) (am 4) (am 5) bm (am 6) (am 7) ap wr wa go w sz ev n f L b x y z g (tpW v.toInt.toNat) (by omega) hfg (fun j hj => Nat.le_trans (hg j hj) ht255) (by omega)) gX9_rule_X9_fitsBelow dX9_rule_40 rfl yd_X9_fitsBelow (Nat.le_of_ble_eq_true rfl) (Nat.le_of_ble_eq_true rfl) rfl rfl rfl _ rfl (Nat.le_of_ble_eq_true rfl) (Nat.zero_le _) (Nat.zero_le _) [0, 1] [2, 3, 4, 5, 6, 7] rfl rfl rfl rfl rfl (by decide) [6, 7, 0, 1, 2, 3, 4, 5] [(am 0, .inr (9, [.ref (am 1), .ref (am 2), .ref (am 3), .ref (am 4), .ref (am 5), .int (nI bm), .ref (am 6), .ref (am 7), .int (nI ap), .int (nI wr), .int (nI wa), .int (nI go)])), (am 1, .inl (cI, 1072, .inl (stA w sz ev n f L b x y z))), (am 2, .inl (cI, 2144, .inl im)), (am 3, .inl (cZ, 2, .inl kf)), (am 4, .inl (cI, 64, .inl (aN rf))), (am 5, .inl (cI, 1000, .inl (aN bf))), (am 6, .inl (cI, 65, .inl (aN lf))), (am 7, .inl (cI, 64, .inl (aN hf)))] rfl rfl rfl 43 rfl ?_
          refine j_ifb_ne C dX9_rule_43 49 (by decide) 46 rfl (fun h43 => ?_) (fun h43 => ?_)
          · refine j_aload_n C dX9_rule_49 0 rfl 50 rfl ?_
            refine j_get C dX9_rule_50 0 0 1 inX9_rule_9 rfl rfl (by decide) rfl rfl rfl 53 rfl ?_
            refine j_sipush C dX9_rule_53 (nI 1066) (by decide) 56 rfl ?_
            refine j_iload_n C dX9_rule_56 1 rfl 57 rfl ?_
            refine j_iadd C dX9_rule_57 (nI (1066 + 0)) (nI_add 1066 0) 58 rfl ?_
            refine j_ialdI C dX9_rule_58 1 rfl (by omega) (Nat.le_of_ble_eq_true rfl) (nI w) rfl 59 rfl ?_
            refine j_istore_n C dX9_rule_59 [(3, .int (nI w)), (0, .ref (am 0)), (1, .int (nI 0)), (2, .int (nI (v.toInt.toNat)))] (by decide) rfl 60 rfl ?_
            refine j_aload_n C dX9_rule_60 1 rfl 61 rfl ?_
            refine j_get C dX9_rule_61 0 0 1 inX9_rule_9 rfl rfl (by decide) rfl rfl rfl 64 rfl ?_
            refine j_sipush C dX9_rule_64 (nI 1066) (by decide) 67 rfl ?_
            refine j_iload_n C dX9_rule_67 2 rfl 68 rfl ?_
            refine j_iadd C dX9_rule_68 (nI (1066 + 0)) (nI_add 1066 0) 69 rfl ?_
            refine j_iload_n C dX9_rule_69 3 rfl 70 rfl ?_
            refine j_iastI C dX9_rule_70 1 rfl (by omega) (Nat.le_of_ble_eq_true rfl) (stA (v.toInt.toNat) sz ev n f L b x y z) (stA_up1066 ..) [(am 0, .inr (9, [.ref (am 1), .ref (am 2), .ref (am 3), .ref (am 4), .ref (am 5), .int (nI bm), .ref (am 6), .ref (am 7), .int (nI ap), .int (nI wr), .int (nI wa), .int (nI go)])), (am 1, .inl (cI, 1072, .inl (stA (v.toInt.toNat) sz ev n f L b x y z))), (am 2, .inl (cI, 2144, .inl im)), (am 3, .inl (cZ, 2, .inl kf)), (am 4, .inl (cI, 64, .inl (aN rf))), (am 5, .inl (cI, 1000, .inl (aN bf))), (am 6, .inl (cI, 65, .inl (aN lf))), (am 7, .inl (cI, 64, .inl (aN hf)))] rfl 71 rfl ?_
            refine j_iload_n C dX9_rule_71 0 rfl 72 rfl ?_
            exact j_iret C dX9_rule_72 ((v.toInt.toNat, sz, ev, n, f, L, b, x, y, z), im, kf, rf, bf, bm, lf, hf, ap, wr, wa, go) (by rw [show opRule ((w, sz, ev, n, g, L, t, x, y, z), b0, b1, kp) what v = (nI w, ((v.toInt.toNat, sz, ev, n, g, L, t, x, y, z), b0, b1, kp)) from (by first | rfl | (simp only [opRule]; (repeat' split) <;> first | rfl | (exfalso; omega)))]; exact ⟨rfl, ⟨⟨(show 2 ≤ v.toInt.toNat ∧ v.toInt.toNat ≤ 8 from ⟨by omega, by omega⟩), hsz, hev, hn, (fun j hj => Nat.le_trans (mxN_ge g hj) (show mxN g n ≤ tpW v.toInt.toNat by omega)), hL, ht, hx5⟩, ⟨rfl, rfl, rfl, rfl, hfg, rfl, hbt, rfl, rfl, rfl⟩, hi0, hi1, hk0, hk1, hk4⟩⟩) rfl
          · refine j_bipush C dX9_rule_46 (-3) (by decide) 48 rfl ?_
            exact j_iret C dX9_rule_48 ((w, sz, ev, n, f, L, b, x, y, z), im, kf, rf, bf, bm, lf, hf, ap, wr, wa, go) (by rw [show opRule ((w, sz, ev, n, g, L, t, x, y, z), b0, b1, kp) what v = (-3, ((w, sz, ev, n, g, L, t, x, y, z), b0, b1, kp)) from (by first | rfl | (simp only [opRule]; (repeat' split) <;> first | rfl | (exfalso; omega)))]; exact ⟨rfl, hR0⟩) rfl
        · refine j_lveq [(0, .ref (am 0)), (1, .int what), (2, .int (nI (v.toInt.toNat)))] (by rw [← q_nn (i := v) (by omega)]) ?_
          have hv8 := tpW_le (show v.toInt.toNat ≤ 8 by omega)
          have hp8 := p2le (show v.toInt.toNat ≤ 8 by omega)
          refine j_lveq [(0, .ref (am 0)), (1, .int (nI 1)), (2, .int (nI (v.toInt.toNat)))] (by rw [← hK, ← q_nn (i := what) (by omega)]) ?_
          refine j_iload_n C dX9_rule_30 1 rfl 31 rfl ?_
          refine j_if_ne C dX9_rule_31 49 (by decide) (q_t (n := 1) (Nat.le_of_ble_eq_true rfl)) 34 rfl (fun h31 => ?_) (fun h9 => by exfalso; omega)
          refine j_aload_n C dX9_rule_49 0 rfl 50 rfl ?_
          refine j_get C dX9_rule_50 0 0 1 inX9_rule_9 rfl rfl (by decide) rfl rfl rfl 53 rfl ?_
          refine j_sipush C dX9_rule_53 (nI 1066) (by decide) 56 rfl ?_
          refine j_iload_n C dX9_rule_56 1 rfl 57 rfl ?_
          refine j_iadd C dX9_rule_57 (nI (1066 + 1)) (nI_add 1066 1) 58 rfl ?_
          refine j_ialdI C dX9_rule_58 1 rfl (by omega) (Nat.le_of_ble_eq_true rfl) (nI sz) rfl 59 rfl ?_
          refine j_istore_n C dX9_rule_59 [(3, .int (nI sz)), (0, .ref (am 0)), (1, .int (nI 1)), (2, .int (nI (v.toInt.toNat)))] (by decide) rfl 60 rfl ?_
          refine j_aload_n C dX9_rule_60 1 rfl 61 rfl ?_
          refine j_get C dX9_rule_61 0 0 1 inX9_rule_9 rfl rfl (by decide) rfl rfl rfl 64 rfl ?_
          refine j_sipush C dX9_rule_64 (nI 1066) (by decide) 67 rfl ?_
          refine j_iload_n C dX9_rule_67 2 rfl 68 rfl ?_
          refine j_iadd C dX9_rule_68 (nI (1066 + 1)) (nI_add 1066 1) 69 rfl ?_
          refine j_iload_n C dX9_rule_69 3 rfl 70 rfl ?_
          refine j_iastI C dX9_rule_70 1 rfl (by omega) (Nat.le_of_ble_eq_true rfl) (stA w (v.toInt.toNat) ev n f L b x y z) (stA_up1067 ..) [(am 0, .inr (9, [.ref (am 1), .ref (am 2), .ref (am 3), .ref (am 4), .ref (am 5), .int (nI bm), .ref (am 6), .ref (am 7), .int (nI ap), .int (nI wr), .int (nI wa), .int (nI go)])), (am 1, .inl (cI, 1072, .inl (stA w (v.toInt.toNat) ev n f L b x y z))), (am 2, .inl (cI, 2144, .inl im)), (am 3, .inl (cZ, 2, .inl kf)), (am 4, .inl (cI, 64, .inl (aN rf))), (am 5, .inl (cI, 1000, .inl (aN bf))), (am 6, .inl (cI, 65, .inl (aN lf))), (am 7, .inl (cI, 64, .inl (aN hf)))] rfl 71 rfl ?_
          refine j_iload_n C dX9_rule_71 0 rfl 72 rfl ?_
          exact j_iret C dX9_rule_72 ((w, v.toInt.toNat, ev, n, f, L, b, x, y, z), im, kf, rf, bf, bm, lf, hf, ap, wr, wa, go) (by rw [show opRule ((w, sz, ev, n, g, L, t, x, y, z), b0, b1, kp) what v = (nI sz, ((w, v.toInt.toNat, ev, n, g, L, t, x, y, z), b0, b1, kp)) from (by first | rfl | (simp only [opRule]; (repeat' split) <;> first | rfl | (exfalso; omega)))]; exact ⟨rfl, ⟨⟨hw, (show 1 ≤ v.toInt.toNat ∧ v.toInt.toNat ≤ 8 from ⟨by omega, by omega⟩), hev, hn, hg, hL, ht, hx5⟩, ⟨rfl, rfl, rfl, rfl, hfg, rfl, hbt, rfl, rfl, rfl⟩, hi0, hi1, hk0, hk1, hk4⟩⟩) rfl
        · refine j_lveq [(0, .ref (am 0)), (1, .int what), (2, .int (nI (v.toInt.toNat)))] (by rw [← q_nn (i := v) (by omega)]) ?_
          have hv8 := tpW_le (show v.toInt.toNat ≤ 8 by omega)
          have hp8 := p2le (show v.toInt.toNat ≤ 8 by omega)
          refine j_lveq [(0, .ref (am 0)), (1, .int (nI 2)), (2, .int (nI (v.toInt.toNat)))] (by rw [← hK, ← q_nn (i := what) (by omega)]) ?_
          refine j_iload_n C dX9_rule_30 1 rfl 31 rfl ?_
          refine j_if_ne C dX9_rule_31 49 (by decide) (q_t (n := 2) (Nat.le_of_ble_eq_true rfl)) 34 rfl (fun h31 => ?_) (fun h9 => by exfalso; omega)
          refine j_aload_n C dX9_rule_49 0 rfl 50 rfl ?_
          refine j_get C dX9_rule_50 0 0 1 inX9_rule_9 rfl rfl (by decide) rfl rfl rfl 53 rfl ?_
          refine j_sipush C dX9_rule_53 (nI 1066) (by decide) 56 rfl ?_
          refine j_iload_n C dX9_rule_56 1 rfl 57 rfl ?_
          refine j_iadd C dX9_rule_57 (nI (1066 + 2)) (nI_add 1066 2) 58 rfl ?_
          refine j_ialdI C dX9_rule_58 1 rfl (by omega) (Nat.le_of_ble_eq_true rfl) (nI ev) rfl 59 rfl ?_
          refine j_istore_n C dX9_rule_59 [(3, .int (nI ev)), (0, .ref (am 0)), (1, .int (nI 2)), (2, .int (nI (v.toInt.toNat)))] (by decide) rfl 60 rfl ?_
          refine j_aload_n C dX9_rule_60 1 rfl 61 rfl ?_
          refine j_get C dX9_rule_61 0 0 1 inX9_rule_9 rfl rfl (by decide) rfl rfl rfl 64 rfl ?_
          refine j_sipush C dX9_rule_64 (nI 1066) (by decide) 67 rfl ?_
          refine j_iload_n C dX9_rule_67 2 rfl 68 rfl ?_
          refine j_iadd C dX9_rule_68 (nI (1066 + 2)) (nI_add 1066 2) 69 rfl ?_
          refine j_iload_n C dX9_rule_69 3 rfl 70 rfl ?_
          refine j_iastI C dX9_rule_70 1 rfl (by omega) (Nat.le_of_ble_eq_true rfl) (stA w sz (v.toInt.toNat) n f L b x y z) (stA_up1068 ..) [(am 0, .inr (9, [.ref (am 1), .ref (am 2), .ref (am 3), .ref (am 4), .ref (am 5), .int (nI bm), .ref (am 6), .ref (am 7), .int (nI ap), .int (nI wr), .int (nI wa), .int (nI go)])), (am 1, .inl (cI, 1072, .inl (stA w sz (v.toInt.toNat) n f L b x y z))), (am 2, .inl (cI, 2144, .inl im)), (am 3, .inl (cZ, 2, .inl kf)), (am 4, .inl (cI, 64, .inl (aN rf))), (am 5, .inl (cI, 1000, .inl (aN bf))), (am 6, .inl (cI, 65, .inl (aN lf))), (am 7, .inl (cI, 64, .inl (aN hf)))] rfl 71 rfl ?_
          refine j_iload_n C dX9_rule_71 0 rfl 72 rfl ?_
          exact j_iret C dX9_rule_72 ((w, sz, v.toInt.toNat, n, f, L, b, x, y, z), im, kf, rf, bf, bm, lf, hf, ap, wr, wa, go) (by rw [show opRule ((w, sz, ev, n, g, L, t, x, y, z), b0, b1, kp) what v = (nI ev, ((w, sz, v.toInt.toNat, n, g, L, t, x, y, z), b0, b1, kp)) from (by first | rfl | (simp only [opRule]; (repeat' split) <;> first | rfl | (exfalso; omega)))]; exact ⟨rfl, ⟨⟨hw, hsz, (show 1 ≤ v.toInt.toNat ∧ v.toInt.toNat ≤ 8 from ⟨by omega, by omega⟩), hn, hg, hL, ht, hx5⟩, ⟨rfl, rfl, rfl, rfl, hfg, rfl, hbt, rfl, rfl, rfl⟩, hi0, hi1, hk0, hk1, hk4⟩⟩) rfl
      · refine j_bipush C dX9_rule_27 (-2) (by decide) 29 rfl ?_
        exact j_iret C dX9_rule_29 ((w, sz, ev, n, f, L, b, x, y, z), im, kf, rf, bf, bm, lf, hf, ap, wr, wa, go) (by rw [show opRule ((w, sz, ev, n, g, L, t, x, y, z), b0, b1, kp) what v = (-2, ((w, sz, ev, n, g, L, t, x, y, z), b0, b1, kp)) from (by first | rfl | (simp only [opRule]; (repeat' split) <;> first | rfl | (exfalso; omega)))]; exact ⟨rfl, hR0⟩) rfl
    · refine j_iconst C dX9_rule_14 (nI 2) (by decide) 15 rfl ?_
      refine j_goto C dX9_rule_15 19 (by decide) ?_
      refine j_bipush C dX9_rule_19 (nI 8) (by decide) 21 rfl ?_
      refine j_callSi1 (As := [.int v, .int (nI 2), .int (nI 8)]) (rest := []) (wr := [(am 0, .inr (9, [.ref (am 1), .ref (am 2), .ref (am 3), .ref (am 4), .ref (am 5), .int (nI bm), .ref (am 6), .ref (am 7), .int (nI ap), .int (nI wr), .int (nI wa), .int (nI go)])), (am 1, .inl (cI, 1072, .inl (stA w sz ev n f L b x y z))), (am 2, .inl (cI, 2144, .inl im)), (am 3, .inl (cZ, 2, .inl kf)), (am 4, .inl (cI, 64, .inl (aN rf))), (am 5, .inl (cI, 1000, .inl (aN bf))), (am 6, .inl (cI, 65, .inl (aN lf))), (am 7, .inl (cI, 64, .inl (aN hf)))]) C (c_X9_in l D cI cZ cH v (nI 2) (nI 8) ((v).toInt) (((2 : Nat) : Int)) (((8 : Nat) : Int)) rfl (q_t (n := 2) (Nat.le_of_ble_eq_true rfl)) (q_t (n := 8) (Nat.le_of_ble_eq_true rfl))) gX9_rule_X9_in dX9_rule_21 rfl yd_X9_in.2 (Nat.le_of_ble_eq_true rfl) (Nat.le_of_ble_eq_true rfl) rfl _ rfl (Nat.le_of_ble_eq_true rfl) (Nat.zero_le _) (Nat.zero_le _) [] [0, 1, 2, 3, 4, 5, 6, 7] rfl rfl rfl rfl rfl (by decide) [0, 1, 2, 3, 4, 5, 6, 7] [(am 0, .inr (9, [.ref (am 1), .ref (am 2), .ref (am 3), .ref (am 4), .ref (am 5), .int (nI bm), .ref (am 6), .ref (am 7), .int (nI ap), .int (nI wr), .int (nI wa), .int (nI go)])), (am 1, .inl (cI, 1072, .inl (stA w sz ev n f L b x y z))), (am 2, .inl (cI, 2144, .inl im)), (am 3, .inl (cZ, 2, .inl kf)), (am 4, .inl (cI, 64, .inl (aN rf))), (am 5, .inl (cI, 1000, .inl (aN bf))), (am 6, .inl (cI, 65, .inl (aN lf))), (am 7, .inl (cI, 64, .inl (aN hf)))] rfl rfl rfl 24 rfl ?_
      refine j_ifb_ne C dX9_rule_24 30 (by decide) 27 rfl (fun h24 => ?_) (fun h24 => ?_)
      · rcases (show what.toInt.toNat = 0 ∨ what.toInt.toNat = 1 ∨ what.toInt.toNat = 2 by omega) with hK | hK | hK
        · refine j_lveq [(0, .ref (am 0)), (1, .int what), (2, .int (nI (v.toInt.toNat)))] (by rw [← q_nn (i := v) (by omega)]) ?_
          have hv8 := tpW_le (show v.toInt.toNat ≤ 8 by omega)
          have hp8 := p2le (show v.toInt.toNat ≤ 8 by omega)
          refine j_lveq [(0, .ref (am 0)), (1, .int (nI 0)), (2, .int (nI (v.toInt.toNat)))] (by rw [← hK, ← q_nn (i := what) (by omega)]) ?_
          refine j_iload_n C dX9_rule_30 1 rfl 31 rfl ?_
          refine j_if_ne C dX9_rule_31 49 (by decide) (q_t (n := 0) (Nat.le_of_ble_eq_true rfl)) 34 rfl (fun h9 => by exfalso; omega) (fun h31 => ?_)
          refine j_aload_n C dX9_rule_34 0 rfl 35 rfl ?_
          refine j_iconst C dX9_rule_35 (nI 1) (by decide) 36 rfl ?_
          refine j_iload_n C dX9_rule_36 2 rfl 37 rfl ?_
          refine j_ishl C dX9_rule_37 (nI (1 * 2 ^ (v.toInt.toNat))) (q_shl (by omega) (by omega)) 38 rfl ?_
          refine j_iconst C dX9_rule_38 (nI 1) (by decide) 39 rfl ?_
          refine j_isub C dX9_rule_39 (nI ((1 * 2 ^ (v.toInt.toNat)) - 1)) (pk_sub (by omega)) 40 rfl ?_
          refine j_top (nI (tpW v.toInt.toNat)) (by congr 1; simp only [tpW]; omega) ?_
          refine j_callVi1 (As := [.int (nI (tpW v.toInt.toNat))]) (rest := []) (wr := [(am 2, .inl (cI, 2144, .inl im)), (am 3, .inl (cZ, 2, .inl kf)), (am 4, .inl (cI, 64, .inl (aN rf))), (am 5, .inl (cI, 1000, .inl (aN bf))), (am 6, .inl (cI, 65, .inl (aN lf))), (am 7, .inl (cI, 64, .inl (aN hf)))]) C (c_X9_fitsBelow l D cI cZ cH (am 0) (am 1) (am 2) (am 3) (am 4) (am 5) bm (am 6) (am 7) ap wr wa go w sz ev n f L b x y z g (tpW v.toInt.toNat) (by omega) hfg (fun j hj => Nat.le_trans (hg j hj) ht255) (by omega)) gX9_rule_X9_fitsBelow dX9_rule_40 rfl yd_X9_fitsBelow (Nat.le_of_ble_eq_true rfl) (Nat.le_of_ble_eq_true rfl) rfl rfl rfl _ rfl (Nat.le_of_ble_eq_true rfl) (Nat.zero_le _) (Nat.zero_le _) [0, 1] [2, 3, 4, 5, 6, 7] rfl rfl rfl rfl rfl (by decide) [6, 7, 0, 1, 2, 3, 4, 5] [(am 0, .inr (9, [.ref (am 1), .ref (am 2), .ref (am 3), .ref (am 4), .ref (am 5), .int (nI bm), .ref (am 6), .ref (am 7), .int (nI ap), .int (nI wr), .int (nI wa), .int (nI go)])), (am 1, .inl (cI, 1072, .inl (stA w sz ev n f L b x y z))), (am 2, .inl (cI, 2144, .inl im)), (am 3, .inl (cZ, 2, .inl kf)), (am 4, .inl (cI, 64, .inl (aN rf))), (am 5, .inl (cI, 1000, .inl (aN bf))), (am 6, .inl (cI, 65, .inl (aN lf))), (am 7, .inl (cI, 64, .inl (aN hf)))] rfl rfl rfl 43 rfl ?_
          refine j_ifb_ne C dX9_rule_43 49 (by decide) 46 rfl (fun h43 => ?_) (fun h43 => ?_)
          · refine j_aload_n C dX9_rule_49 0 rfl 50 rfl ?_
            refine j_get C dX9_rule_50 0 0 1 inX9_rule_9 rfl rfl (by decide) rfl rfl rfl 53 rfl ?_
            refine j_sipush C dX9_rule_53 (nI 1066) (by decide) 56 rfl ?_
            refine j_iload_n C dX9_rule_56 1 rfl 57 rfl ?_
            refine j_iadd C dX9_rule_57 (nI (1066 + 0)) (nI_add 1066 0) 58 rfl ?_
            refine j_ialdI C dX9_rule_58 1 rfl (by omega) (Nat.le_of_ble_eq_true rfl) (nI w) rfl 59 rfl ?_
            refine j_istore_n C dX9_rule_59 [(3, .int (nI w)), (0, .ref (am 0)), (1, .int (nI 0)), (2, .int (nI (v.toInt.toNat)))] (by decide) rfl 60 rfl ?_
            refine j_aload_n C dX9_rule_60 1 rfl 61 rfl ?_
            refine j_get C dX9_rule_61 0 0 1 inX9_rule_9 rfl rfl (by decide) rfl rfl rfl 64 rfl ?_
            refine j_sipush C dX9_rule_64 (nI 1066) (by decide) 67 rfl ?_
            refine j_iload_n C dX9_rule_67 2 rfl 68 rfl ?_
            refine j_iadd C dX9_rule_68 (nI (1066 + 0)) (nI_add 1066 0) 69 rfl ?_
            refine j_iload_n C dX9_rule_69 3 rfl 70 rfl ?_
            refine j_iastI C dX9_rule_70 1 rfl (by omega) (Nat.le_of_ble_eq_true rfl) (stA (v.toInt.toNat) sz ev n f L b x y z) (stA_up1066 ..) [(am 0, .inr (9, [.ref (am 1), .ref (am 2), .ref (am 3), .ref (am 4), .ref (am 5), .int (nI bm), .ref (am 6), .ref (am 7), .int (nI ap), .int (nI wr), .int (nI wa), .int (nI go)])), (am 1, .inl (cI, 1072, .inl (stA (v.toInt.toNat) sz ev n f L b x y z))), (am 2, .inl (cI, 2144, .inl im)), (am 3, .inl (cZ, 2, .inl kf)), (am 4, .inl (cI, 64, .inl (aN rf))), (am 5, .inl (cI, 1000, .inl (aN bf))), (am 6, .inl (cI, 65, .inl (aN lf))), (am 7, .inl (cI, 64, .inl (aN hf)))] rfl 71 rfl ?_
            refine j_iload_n C dX9_rule_71 0 rfl 72 rfl ?_
            exact j_iret C dX9_rule_72 ((v.toInt.toNat, sz, ev, n, f, L, b, x, y, z), im, kf, rf, bf, bm, lf, hf, ap, wr, wa, go) (by rw [show opRule ((w, sz, ev, n, g, L, t, x, y, z), b0, b1, kp) what v = (nI w, ((v.toInt.toNat, sz, ev, n, g, L, t, x, y, z), b0, b1, kp)) from (by first | rfl | (simp only [opRule]; (repeat' split) <;> first | rfl | (exfalso; omega)))]; exact ⟨rfl, ⟨⟨(show 2 ≤ v.toInt.toNat ∧ v.toInt.toNat ≤ 8 from ⟨by omega, by omega⟩), hsz, hev, hn, (fun j hj => Nat.le_trans (mxN_ge g hj) (show mxN g n ≤ tpW v.toInt.toNat by omega)), hL, ht, hx5⟩, ⟨rfl, rfl, rfl, rfl, hfg, rfl, hbt, rfl, rfl, rfl⟩, hi0, hi1, hk0, hk1, hk4⟩⟩) rfl
          · refine j_bipush C dX9_rule_46 (-3) (by decide) 48 rfl ?_
            exact j_iret C dX9_rule_48 ((w, sz, ev, n, f, L, b, x, y, z), im, kf, rf, bf, bm, lf, hf, ap, wr, wa, go) (by rw [show opRule ((w, sz, ev, n, g, L, t, x, y, z), b0, b1, kp) what v = (-3, ((w, sz, ev, n, g, L, t, x, y, z), b0, b1, kp)) from (by first | rfl | (simp only [opRule]; (repeat' split) <;> first | rfl | (exfalso; omega)))]; exact ⟨rfl, hR0⟩) rfl
        · refine j_lveq [(0, .ref (am 0)), (1, .int what), (2, .int (nI (v.toInt.toNat)))] (by rw [← q_nn (i := v) (by omega)]) ?_
          have hv8 := tpW_le (show v.toInt.toNat ≤ 8 by omega)
          have hp8 := p2le (show v.toInt.toNat ≤ 8 by omega)
          refine j_lveq [(0, .ref (am 0)), (1, .int (nI 1)), (2, .int (nI (v.toInt.toNat)))] (by rw [← hK, ← q_nn (i := what) (by omega)]) ?_
          refine j_iload_n C dX9_rule_30 1 rfl 31 rfl ?_
          refine j_if_ne C dX9_rule_31 49 (by decide) (q_t (n := 1) (Nat.le_of_ble_eq_true rfl)) 34 rfl (fun h31 => ?_) (fun h9 => by exfalso; omega)
          refine j_aload_n C dX9_rule_49 0 rfl 50 rfl ?_
          refine j_get C dX9_rule_50 0 0 1 inX9_rule_9 rfl rfl (by decide) rfl rfl rfl 53 rfl ?_
          refine j_sipush C dX9_rule_53 (nI 1066) (by decide) 56 rfl ?_
          refine j_iload_n C dX9_rule_56 1 rfl 57 rfl ?_
          refine j_iadd C dX9_rule_57 (nI (1066 + 1)) (nI_add 1066 1) 58 rfl ?_
          refine j_ialdI C dX9_rule_58 1 rfl (by omega) (Nat.le_of_ble_eq_true rfl) (nI sz) rfl 59 rfl ?_
          refine j_istore_n C dX9_rule_59 [(3, .int (nI sz)), (0, .ref (am 0)), (1, .int (nI 1)), (2, .int (nI (v.toInt.toNat)))] (by decide) rfl 60 rfl ?_
          refine j_aload_n C dX9_rule_60 1 rfl 61 rfl ?_
          refine j_get C dX9_rule_61 0 0 1 inX9_rule_9 rfl rfl (by decide) rfl rfl rfl 64 rfl ?_
          refine j_sipush C dX9_rule_64 (nI 1066) (by decide) 67 rfl ?_
          refine j_iload_n C dX9_rule_67 2 rfl 68 rfl ?_
          refine j_iadd C dX9_rule_68 (nI (1066 + 1)) (nI_add 1066 1) 69 rfl ?_
          refine j_iload_n C dX9_rule_69 3 rfl 70 rfl ?_
          refine j_iastI C dX9_rule_70 1 rfl (by omega) (Nat.le_of_ble_eq_true rfl) (stA w (v.toInt.toNat) ev n f L b x y z) (stA_up1067 ..) [(am 0, .inr (9, [.ref (am 1), .ref (am 2), .ref (am 3), .ref (am 4), .ref (am 5), .int (nI bm), .ref (am 6), .ref (am 7), .int (nI ap), .int (nI wr), .int (nI wa), .int (nI go)])), (am 1, .inl (cI, 1072, .inl (stA w (v.toInt.toNat) ev n f L b x y z))), (am 2, .inl (cI, 2144, .inl im)), (am 3, .inl (cZ, 2, .inl kf)), (am 4, .inl (cI, 64, .inl (aN rf))), (am 5, .inl (cI, 1000, .inl (aN bf))), (am 6, .inl (cI, 65, .inl (aN lf))), (am 7, .inl (cI, 64, .inl (aN hf)))] rfl 71 rfl ?_
          refine j_iload_n C dX9_rule_71 0 rfl 72 rfl ?_
          exact j_iret C dX9_rule_72 ((w, v.toInt.toNat, ev, n, f, L, b, x, y, z), im, kf, rf, bf, bm, lf, hf, ap, wr, wa, go) (by rw [show opRule ((w, sz, ev, n, g, L, t, x, y, z), b0, b1, kp) what v = (nI sz, ((w, v.toInt.toNat, ev, n, g, L, t, x, y, z), b0, b1, kp)) from (by first | rfl | (simp only [opRule]; (repeat' split) <;> first | rfl | (exfalso; omega)))]; exact ⟨rfl, ⟨⟨hw, (show 1 ≤ v.toInt.toNat ∧ v.toInt.toNat ≤ 8 from ⟨by omega, by omega⟩), hev, hn, hg, hL, ht, hx5⟩, ⟨rfl, rfl, rfl, rfl, hfg, rfl, hbt, rfl, rfl, rfl⟩, hi0, hi1, hk0, hk1, hk4⟩⟩) rfl
        · refine j_lveq [(0, .ref (am 0)), (1, .int what), (2, .int (nI (v.toInt.toNat)))] (by rw [← q_nn (i := v) (by omega)]) ?_
          have hv8 := tpW_le (show v.toInt.toNat ≤ 8 by omega)
          have hp8 := p2le (show v.toInt.toNat ≤ 8 by omega)
          refine j_lveq [(0, .ref (am 0)), (1, .int (nI 2)), (2, .int (nI (v.toInt.toNat)))] (by rw [← hK, ← q_nn (i := what) (by omega)]) ?_
          refine j_iload_n C dX9_rule_30 1 rfl 31 rfl ?_
          refine j_if_ne C dX9_rule_31 49 (by decide) (q_t (n := 2) (Nat.le_of_ble_eq_true rfl)) 34 rfl (fun h31 => ?_) (fun h9 => by exfalso; omega)
          refine j_aload_n C dX9_rule_49 0 rfl 50 rfl ?_
          refine j_get C dX9_rule_50 0 0 1 inX9_rule_9 rfl rfl (by decide) rfl rfl rfl 53 rfl ?_
          refine j_sipush C dX9_rule_53 (nI 1066) (by decide) 56 rfl ?_
          refine j_iload_n C dX9_rule_56 1 rfl 57 rfl ?_
          refine j_iadd C dX9_rule_57 (nI (1066 + 2)) (nI_add 1066 2) 58 rfl ?_
          refine j_ialdI C dX9_rule_58 1 rfl (by omega) (Nat.le_of_ble_eq_true rfl) (nI ev) rfl 59 rfl ?_
          refine j_istore_n C dX9_rule_59 [(3, .int (nI ev)), (0, .ref (am 0)), (1, .int (nI 2)), (2, .int (nI (v.toInt.toNat)))] (by decide) rfl 60 rfl ?_
          refine j_aload_n C dX9_rule_60 1 rfl 61 rfl ?_
          refine j_get C dX9_rule_61 0 0 1 inX9_rule_9 rfl rfl (by decide) rfl rfl rfl 64 rfl ?_
          refine j_sipush C dX9_rule_64 (nI 1066) (by decide) 67 rfl ?_
          refine j_iload_n C dX9_rule_67 2 rfl 68 rfl ?_
          refine j_iadd C dX9_rule_68 (nI (1066 + 2)) (nI_add 1066 2) 69 rfl ?_
          refine j_iload_n C dX9_rule_69 3 rfl 70 rfl ?_
          refine j_iastI C dX9_rule_70 1 rfl (by omega) (Nat.le_of_ble_eq_true rfl) (stA w sz (v.toInt.toNat) n f L b x y z) (stA_up1068 ..) [(am 0, .inr (9, [.ref (am 1), .ref (am 2), .ref (am 3), .ref (am 4), .ref (am 5), .int (nI bm), .ref (am 6), .ref (am 7), .int (nI ap), .int (nI wr), .int (nI wa), .int (nI go)])), (am 1, .inl (cI, 1072, .inl (stA w sz (v.toInt.toNat) n f L b x y z))), (am 2, .inl (cI, 2144, .inl im)), (am 3, .inl (cZ, 2, .inl kf)), (am 4, .inl (cI, 64, .inl (aN rf))), (am 5, .inl (cI, 1000, .inl (aN bf))), (am 6, .inl (cI, 65, .inl (aN lf))), (am 7, .inl (cI, 64, .inl (aN hf)))] rfl 71 rfl ?_
          refine j_iload_n C dX9_rule_71 0 rfl 72 rfl ?_
          exact j_iret C dX9_rule_72 ((w, sz, v.toInt.toNat, n, f, L, b, x, y, z), im, kf, rf, bf, bm, lf, hf, ap, wr, wa, go) (by rw [show opRule ((w, sz, ev, n, g, L, t, x, y, z), b0, b1, kp) what v = (nI ev, ((w, sz, v.toInt.toNat, n, g, L, t, x, y, z), b0, b1, kp)) from (by first | rfl | (simp only [opRule]; (repeat' split) <;> first | rfl | (exfalso; omega)))]; exact ⟨rfl, ⟨⟨hw, hsz, (show 1 ≤ v.toInt.toNat ∧ v.toInt.toNat ≤ 8 from ⟨by omega, by omega⟩), hn, hg, hL, ht, hx5⟩, ⟨rfl, rfl, rfl, rfl, hfg, rfl, hbt, rfl, rfl, rfl⟩, hi0, hi1, hk0, hk1, hk4⟩⟩) rfl
      · refine j_bipush C dX9_rule_27 (-2) (by decide) 29 rfl ?_
        exact j_iret C dX9_rule_29 ((w, sz, ev, n, f, L, b, x, y, z), im, kf, rf, bf, bm, lf, hf, ap, wr, wa, go) (by rw [show opRule ((w, sz, ev, n, g, L, t, x, y, z), b0, b1, kp) what v = (-2, ((w, sz, ev, n, g, L, t, x, y, z), b0, b1, kp)) from (by first | rfl | (simp only [opRule]; (repeat' split) <;> first | rfl | (exfalso; omega)))]; exact ⟨rfl, hR0⟩) rfl
set_option maxHeartbeats 4000000 in
set_option maxRecDepth 100000 in
theorem k_X9_fault (l : Launch) (D : va_G) (cI cZ cH : ClassId) (am : Nat → Nat) (A : AT) (Y : MT) (hR : MRel A Y) (what : Int32) : Mi l D cI cZ cH yX9_fault wsX9_fault 1 22 [.ref (am 0), .int what] (wM cI cZ am Y) (fun (r9 : Int32) (Y9 : MT) => r9 = (opFault A what).1 ∧ MRel (opFault A what).2 Y9) (wM cI cZ am) := by
  obtain ⟨⟨w, sz, ev, n, f, L, b, x, y, z⟩, im, kf, rf, bf, bm, lf, hf, ap, wr, wa, go⟩ := Y
  obtain ⟨⟨w2, sz2, ev2, n2, g, L2, t, x2, y2, z2⟩, b0, b1, kp⟩ := A
  have hR0 := hR
  obtain ⟨⟨hw, hsz, hev, hn, hg, hL, ht, hx5⟩, ⟨e1, e2, e3, e4, hfg, e6, hbt, e8, e9, e10⟩, hi0, hi1, hk0, hk1, hk4⟩ := hR
  dsimp only at hw hsz hev hn hg hL ht hx5 e1 e2 e3 e4 hfg e6 hbt e8 e9 e10 hi0 hi1 hk0 hk1 hk4
  subst e1 e2 e3 e4 e6 e8 e9 e10
  have hnb : nbk sz n ≤ 64 := nbk_le hsz.1 hn
  have ht255 := tpW_le hw.2
  refine Mi.start (cc := cX9_fault) (nL := 2) (ret := (some .int)) (lv0 := [(0, .ref (am 0)), (1, .int what)]) (by decide) rfl (Nat.le_of_ble_eq_true rfl) rfl ?_
  intro pX eX sX mX bX methX cX AX C
  show J D AX pX l eX _ sX mX _ bX methX cX 0 0 _ 2 [(am 0, .inr (9, [.ref (am 1), .ref (am 2), .ref (am 3), .ref (am 4), .ref (am 5), .int (nI bm), .ref (am 6), .ref (am 7), .int (nI ap), .int (nI wr), .int (nI wa), .int (nI go)])), (am 1, .inl (cI, 1072, .inl (stA w sz ev n f L b x y z))), (am 2, .inl (cI, 2144, .inl im)), (am 3, .inl (cZ, 2, .inl kf)), (am 4, .inl (cI, 64, .inl (aN rf))), (am 5, .inl (cI, 1000, .inl (aN bf))), (am 6, .inl (cI, 65, .inl (aN lf))), (am 7, .inl (cI, 64, .inl (aN hf)))] [(0, .ref (am 0)), (1, .int what)] 0 []
  refine j_iload_n C dX9_fault_0 1 rfl 1 rfl ?_
  refine j_iconst C dX9_fault_1 (nI 0) (by decide) 2 rfl ?_
  refine j_iconst C dX9_fault_2 (nI 2) (by decide) 3 rfl ?_
  refine j_callSi1 (As := [.int what, .int (nI 0), .int (nI 2)]) (rest := []) (wr := [(am 0, .inr (9, [.ref (am 1), .ref (am 2), .ref (am 3), .ref (am 4), .ref (am 5), .int (nI bm), .ref (am 6), .ref (am 7), .int (nI ap), .int (nI wr), .int (nI wa), .int (nI go)])), (am 1, .inl (cI, 1072, .inl (stA w sz ev n f L b x y z))), (am 2, .inl (cI, 2144, .inl im)), (am 3, .inl (cZ, 2, .inl kf)), (am 4, .inl (cI, 64, .inl (aN rf))), (am 5, .inl (cI, 1000, .inl (aN bf))), (am 6, .inl (cI, 65, .inl (aN lf))), (am 7, .inl (cI, 64, .inl (aN hf)))]) C (c_X9_in l D cI cZ cH what (nI 0) (nI 2) ((what).toInt) (((0 : Nat) : Int)) (((2 : Nat) : Int)) rfl (q_t (n := 0) (Nat.le_of_ble_eq_true rfl)) (q_t (n := 2) (Nat.le_of_ble_eq_true rfl))) gX9_fault_X9_in dX9_fault_3 rfl yd_X9_in.2 (Nat.le_of_ble_eq_true rfl) (Nat.le_of_ble_eq_true rfl) rfl _ rfl (Nat.le_of_ble_eq_true rfl) (Nat.zero_le _) (Nat.zero_le _) [] [0, 1, 2, 3, 4, 5, 6, 7] rfl rfl rfl rfl rfl (by decide) [0, 1, 2, 3, 4, 5, 6, 7] [(am 0, .inr (9, [.ref (am 1), .ref (am 2), .ref (am 3), .ref (am 4), .ref (am 5), .int (nI bm), .ref (am 6), .ref (am 7), .int (nI ap), .int (nI wr), .int (nI wa), .int (nI go)])), (am 1, .inl (cI, 1072, .inl (stA w sz ev n f L b x y z))), (am 2, .inl (cI, 2144, .inl im)), (am 3, .inl (cZ, 2, .inl kf)), (am 4, .inl (cI, 64, .inl (aN rf))), (am 5, .inl (cI, 1000, .inl (aN bf))), (am 6, .inl (cI, 65, .inl (aN lf))), (am 7, .inl (cI, 64, .inl (aN hf)))] rfl rfl rfl 6 rfl ?_
  refine j_ifb_eq C dX9_fault_6 22 (by decide) 9 rfl (fun h6 => ?_) (fun h6 => ?_)
  · refine j_bipush C dX9_fault_22 (-2) (by decide) 24 rfl ?_
    exact j_iret C dX9_fault_24 ((w, sz, ev, n, f, L, b, x, y, z), im, kf, rf, bf, bm, lf, hf, ap, wr, wa, go) (by rw [show opFault ((w, sz, ev, n, g, L, t, x, y, z), b0, b1, kp) what = (-2, ((w, sz, ev, n, g, L, t, x, y, z), b0, b1, kp)) from (by first | rfl | (simp only [opFault]; (repeat' split) <;> first | rfl | (exfalso; omega)))]; exact ⟨rfl, hR0⟩) rfl
  · rcases (show what.toInt.toNat = 0 ∨ what.toInt.toNat = 1 ∨ what.toInt.toNat = 2 by omega) with hK | hK | hK
    · refine j_lveq [(0, .ref (am 0)), (1, .int (nI (what.toInt.toNat)))] (by rw [← q_nn (i := what) (by omega)]) ?_
      refine j_lveq [(0, .ref (am 0)), (1, .int (nI 0))] (by rw [hK]) ?_
      refine j_aload_n C dX9_fault_9 0 rfl 10 rfl ?_
      refine j_get C dX9_fault_10 0 0 1 inX9_fault_9 rfl rfl (by decide) rfl rfl rfl 13 rfl ?_
      refine j_sipush C dX9_fault_13 (nI 1069) (by decide) 16 rfl ?_
      refine j_iload_n C dX9_fault_16 1 rfl 17 rfl ?_
      refine j_iadd C dX9_fault_17 (nI (1069 + 0)) (nI_add 1069 0) 18 rfl ?_
      refine j_ialdI C dX9_fault_18 1 rfl (by omega) (Nat.le_of_ble_eq_true rfl) (nI x) rfl 19 rfl ?_
      refine j_goto C dX9_fault_19 24 (by decide) ?_
      exact j_iret C dX9_fault_24 ((w, sz, ev, n, f, L, b, x, y, z), im, kf, rf, bf, bm, lf, hf, ap, wr, wa, go) (by rw [show opFault ((w, sz, ev, n, g, L, t, x, y, z), b0, b1, kp) what = (nI x, ((w, sz, ev, n, g, L, t, x, y, z), b0, b1, kp)) from (by first | rfl | (simp only [opFault]; (repeat' split) <;> first | rfl | (exfalso; omega)))]; exact ⟨rfl, hR0⟩) rfl
    · refine j_lveq [(0, .ref (am 0)), (1, .int (nI (what.toInt.toNat)))] (by rw [← q_nn (i := what) (by omega)]) ?_
      refine j_lveq [(0, .ref (am 0)), (1, .int (nI 1))] (by rw [hK]) ?_
      refine j_aload_n C dX9_fault_9 0 rfl 10 rfl ?_
      refine j_get C dX9_fault_10 0 0 1 inX9_fault_9 rfl rfl (by decide) rfl rfl rfl 13 rfl ?_
      refine j_sipush C dX9_fault_13 (nI 1069) (by decide) 16 rfl ?_
      refine j_iload_n C dX9_fault_16 1 rfl 17 rfl ?_
      refine j_iadd C dX9_fault_17 (nI (1069 + 1)) (nI_add 1069 1) 18 rfl ?_
      refine j_ialdI C dX9_fault_18 1 rfl (by omega) (Nat.le_of_ble_eq_true rfl) (y) rfl 19 rfl ?_
      refine j_goto C dX9_fault_19 24 (by decide) ?_
      exact j_iret C dX9_fault_24 ((w, sz, ev, n, f, L, b, x, y, z), im, kf, rf, bf, bm, lf, hf, ap, wr, wa, go) (by rw [show opFault ((w, sz, ev, n, g, L, t, x, y, z), b0, b1, kp) what = (y, ((w, sz, ev, n, g, L, t, x, y, z), b0, b1, kp)) from (by first | rfl | (simp only [opFault]; (repeat' split) <;> first | rfl | (exfalso; omega)))]; exact ⟨rfl, hR0⟩) rfl
    · refine j_lveq [(0, .ref (am 0)), (1, .int (nI (what.toInt.toNat)))] (by rw [← q_nn (i := what) (by omega)]) ?_
      refine j_lveq [(0, .ref (am 0)), (1, .int (nI 2))] (by rw [hK]) ?_
      refine j_aload_n C dX9_fault_9 0 rfl 10 rfl ?_
      refine j_get C dX9_fault_10 0 0 1 inX9_fault_9 rfl rfl (by decide) rfl rfl rfl 13 rfl ?_
      refine j_sipush C dX9_fault_13 (nI 1069) (by decide) 16 rfl ?_
      refine j_iload_n C dX9_fault_16 1 rfl 17 rfl ?_
      refine j_iadd C dX9_fault_17 (nI (1069 + 2)) (nI_add 1069 2) 18 rfl ?_
      refine j_ialdI C dX9_fault_18 1 rfl (by omega) (Nat.le_of_ble_eq_true rfl) (z) rfl 19 rfl ?_
      refine j_goto C dX9_fault_19 24 (by decide) ?_
      exact j_iret C dX9_fault_24 ((w, sz, ev, n, f, L, b, x, y, z), im, kf, rf, bf, bm, lf, hf, ap, wr, wa, go) (by rw [show opFault ((w, sz, ev, n, g, L, t, x, y, z), b0, b1, kp) what = (z, ((w, sz, ev, n, g, L, t, x, y, z), b0, b1, kp)) from (by first | rfl | (simp only [opFault]; (repeat' split) <;> first | rfl | (exfalso; omega)))]; exact ⟨rfl, hR0⟩) rfl
set_option maxHeartbeats 4000000 in
set_option maxRecDepth 100000 in
theorem k_X9_image (l : Launch) (D : va_G) (cI cZ cH : ClassId) (am : Nat → Nat) (A : AT) (Y : MT) (hR : MRel A Y) (v : Int32) : Mi l D cI cZ cH yX9_image wsX9_image 1 22 [.ref (am 0), .int v] (wM cI cZ am Y) (fun (r9 : Int32) (Y9 : MT) => r9 = (opImage A v).1 ∧ MRel (opImage A v).2 Y9) (wM cI cZ am) := by
  obtain ⟨⟨w, sz, ev, n, f, L, b, x, y, z⟩, im, kf, rf, bf, bm, lf, hf, ap, wr, wa, go⟩ := Y
  obtain ⟨⟨w2, sz2, ev2, n2, g, L2, t, x2, y2, z2⟩, b0, b1, kp⟩ := A
  have hR0 := hR
  obtain ⟨⟨hw, hsz, hev, hn, hg, hL, ht, hx5⟩, ⟨e1, e2, e3, e4, hfg, e6, hbt, e8, e9, e10⟩, hi0, hi1, hk0, hk1, hk4⟩ := hR
  dsimp only at hw hsz hev hn hg hL ht hx5 e1 e2 e3 e4 hfg e6 hbt e8 e9 e10 hi0 hi1 hk0 hk1 hk4
  subst e1 e2 e3 e4 e6 e8 e9 e10
  have hnb : nbk sz n ≤ 64 := nbk_le hsz.1 hn
  have ht255 := tpW_le hw.2
  refine Mi.start (cc := cX9_image) (nL := 3) (ret := (some .int)) (lv0 := [(0, .ref (am 0)), (1, .int v)]) (by decide) rfl (Nat.le_of_ble_eq_true rfl) rfl ?_
  intro pX eX sX mX bX methX cX AX C
  show J D AX pX l eX _ sX mX _ bX methX cX 0 0 _ 3 [(am 0, .inr (9, [.ref (am 1), .ref (am 2), .ref (am 3), .ref (am 4), .ref (am 5), .int (nI bm), .ref (am 6), .ref (am 7), .int (nI ap), .int (nI wr), .int (nI wa), .int (nI go)])), (am 1, .inl (cI, 1072, .inl (stA w sz ev n f L b x y z))), (am 2, .inl (cI, 2144, .inl im)), (am 3, .inl (cZ, 2, .inl kf)), (am 4, .inl (cI, 64, .inl (aN rf))), (am 5, .inl (cI, 1000, .inl (aN bf))), (am 6, .inl (cI, 65, .inl (aN lf))), (am 7, .inl (cI, 64, .inl (aN hf)))] [(0, .ref (am 0)), (1, .int v)] 0 []
  refine j_iload_n C dX9_image_0 1 rfl 1 rfl ?_
  refine j_iconst C dX9_image_1 (nI 0) (by decide) 2 rfl ?_
  refine j_iconst C dX9_image_2 (nI 1) (by decide) 3 rfl ?_
  refine j_callSi1 (As := [.int v, .int (nI 0), .int (nI 1)]) (rest := []) (wr := [(am 0, .inr (9, [.ref (am 1), .ref (am 2), .ref (am 3), .ref (am 4), .ref (am 5), .int (nI bm), .ref (am 6), .ref (am 7), .int (nI ap), .int (nI wr), .int (nI wa), .int (nI go)])), (am 1, .inl (cI, 1072, .inl (stA w sz ev n f L b x y z))), (am 2, .inl (cI, 2144, .inl im)), (am 3, .inl (cZ, 2, .inl kf)), (am 4, .inl (cI, 64, .inl (aN rf))), (am 5, .inl (cI, 1000, .inl (aN bf))), (am 6, .inl (cI, 65, .inl (aN lf))), (am 7, .inl (cI, 64, .inl (aN hf)))]) C (c_X9_in l D cI cZ cH v (nI 0) (nI 1) ((v).toInt) (((0 : Nat) : Int)) (((1 : Nat) : Int)) rfl (q_t (n := 0) (Nat.le_of_ble_eq_true rfl)) (q_t (n := 1) (Nat.le_of_ble_eq_true rfl))) gX9_image_X9_in dX9_image_3 rfl yd_X9_in.2 (Nat.le_of_ble_eq_true rfl) (Nat.le_of_ble_eq_true rfl) rfl _ rfl (Nat.le_of_ble_eq_true rfl) (Nat.zero_le _) (Nat.zero_le _) [] [0, 1, 2, 3, 4, 5, 6, 7] rfl rfl rfl rfl rfl (by decide) [0, 1, 2, 3, 4, 5, 6, 7] [(am 0, .inr (9, [.ref (am 1), .ref (am 2), .ref (am 3), .ref (am 4), .ref (am 5), .int (nI bm), .ref (am 6), .ref (am 7), .int (nI ap), .int (nI wr), .int (nI wa), .int (nI go)])), (am 1, .inl (cI, 1072, .inl (stA w sz ev n f L b x y z))), (am 2, .inl (cI, 2144, .inl im)), (am 3, .inl (cZ, 2, .inl kf)), (am 4, .inl (cI, 64, .inl (aN rf))), (am 5, .inl (cI, 1000, .inl (aN bf))), (am 6, .inl (cI, 65, .inl (aN lf))), (am 7, .inl (cI, 64, .inl (aN hf)))] rfl rfl rfl 6 rfl ?_
  refine j_ifb_ne C dX9_image_6 12 (by decide) 9 rfl (fun h6 => ?_) (fun h6 => ?_)
  · rcases (show v.toInt.toNat = 0 ∨ v.toInt.toNat = 1 by omega) with hK | hK
    · refine j_lveq [(0, .ref (am 0)), (1, .int (nI 0))] (by rw [← hK, ← q_nn (i := v) (by omega)]) ?_
      refine j_iconst C dX9_image_12 (nI 0) (by decide) 13 rfl ?_
      refine j_istore_n C dX9_image_13 [(2, .int (nI 0)), (0, .ref (am 0)), (1, .int (nI 0))] (by decide) rfl 14 rfl ?_
      refine j_loop1 (fun (i : Nat) => i ≤ 1072) (fun (i : Nat) => 1072 - i) (fun (i : Nat) => [(am 0, .inr (9, [.ref (am 1), .ref (am 2), .ref (am 3), .ref (am 4), .ref (am 5), .int (nI bm), .ref (am 6), .ref (am 7), .int (nI ap), .int (nI wr), .int (nI wa), .int (nI go)])), (am 1, .inl (cI, 1072, .inl (stA w sz ev n f L b x y z))), (am 2, .inl (cI, 2144, .inl (upI (stA w sz ev n f L b x y z) im (1072 * 0) i))), (am 3, .inl (cZ, 2, .inl kf)), (am 4, .inl (cI, 64, .inl (aN rf))), (am 5, .inl (cI, 1000, .inl (aN bf))), (am 6, .inl (cI, 65, .inl (aN lf))), (am 7, .inl (cI, 64, .inl (aN hf)))]) (fun (i : Nat) => [(2, .int (nI i)), (0, .ref (am 0)), (1, .int (nI 0))]) ?_ 0 (by omega) (by rw [upI_0]) rfl
      intro i hI14 ih14
      have hi : i ≤ 1072 := hI14
      show J D AX pX l eX _ sX mX _ bX methX cX 0 0 _ 3 [(am 0, .inr (9, [.ref (am 1), .ref (am 2), .ref (am 3), .ref (am 4), .ref (am 5), .int (nI bm), .ref (am 6), .ref (am 7), .int (nI ap), .int (nI wr), .int (nI wa), .int (nI go)])), (am 1, .inl (cI, 1072, .inl (stA w sz ev n f L b x y z))), (am 2, .inl (cI, 2144, .inl (upI (stA w sz ev n f L b x y z) im (1072 * 0) i))), (am 3, .inl (cZ, 2, .inl kf)), (am 4, .inl (cI, 64, .inl (aN rf))), (am 5, .inl (cI, 1000, .inl (aN bf))), (am 6, .inl (cI, 65, .inl (aN lf))), (am 7, .inl (cI, 64, .inl (aN hf)))] [(2, .int (nI i)), (0, .ref (am 0)), (1, .int (nI 0))] 14 []
      refine j_iload_n C dX9_image_14 0 rfl 15 rfl ?_
      refine j_sipush C dX9_image_15 (nI 1072) (by decide) 18 rfl ?_
      refine j_icmp_ge C dX9_image_18 45 (by decide) (q_t (by omega)) (q_t (n := 1072) (Nat.le_of_ble_eq_true rfl)) 21 rfl (fun h18 => ?_) (fun h18 => ?_)
      · refine j_aload_n C dX9_image_45 1 rfl 46 rfl ?_
        refine j_get C dX9_image_46 0 2 3 inX9_image_9 rfl rfl (by decide) rfl rfl rfl 49 rfl ?_
        refine j_iload_n C dX9_image_49 2 rfl 50 rfl ?_
        refine j_iconst C dX9_image_50 (nI 1) (by decide) 51 rfl ?_
        refine j_zast C dX9_image_51 3 rfl (by decide) (Nat.le_of_ble_eq_true rfl) rfl (upd kf 0 (nI 1)) rfl [(am 0, .inr (9, [.ref (am 1), .ref (am 2), .ref (am 3), .ref (am 4), .ref (am 5), .int (nI bm), .ref (am 6), .ref (am 7), .int (nI ap), .int (nI wr), .int (nI wa), .int (nI go)])), (am 1, .inl (cI, 1072, .inl (stA w sz ev n f L b x y z))), (am 2, .inl (cI, 2144, .inl (upI (stA w sz ev n f L b x y z) im (1072 * 0) i))), (am 3, .inl (cZ, 2, .inl (upd kf 0 (nI 1)))), (am 4, .inl (cI, 64, .inl (aN rf))), (am 5, .inl (cI, 1000, .inl (aN bf))), (am 6, .inl (cI, 65, .inl (aN lf))), (am 7, .inl (cI, 64, .inl (aN hf)))] rfl 52 rfl ?_
        refine j_iconst C dX9_image_52 (nI 1) (by decide) 53 rfl ?_
        exact j_iret C dX9_image_53 ((w, sz, ev, n, f, L, b, x, y, z), upI (stA w sz ev n f L b x y z) im (1072 * 0) i, upd kf 0 (nI 1), rf, bf, bm, lf, hf, ap, wr, wa, go) (by rw [show opImage ((w, sz, ev, n, g, L, t, x, y, z), b0, b1, kp) v = (nI 1, ((w, sz, ev, n, g, L, t, x, y, z), (w, sz, ev, n, g, L, t, x, y, z), b1, (if kp % 2 = 1 then kp else kp + 1))) from (by simp only [opImage]; (repeat' split) <;> first | rfl | (exfalso; omega))]; exact ⟨rfl, ⟨⟨hw, hsz, hev, hn, hg, hL, ht, hx5⟩, ⟨rfl, rfl, rfl, rfl, hfg, rfl, hbt, rfl, rfl, rfl⟩, (fun _ => ⟨⟨hw, hsz, hev, hn, hg, hL, ht, hx5⟩, ⟨(w, sz, ev, n, f, L, b, x, y, z), ⟨rfl, rfl, rfl, rfl, hfg, rfl, hbt, rfl, rfl, rfl⟩, fun j hj => upI_in (show j < i by omega)⟩⟩), (fun h9 => by obtain ⟨hO9, c9, hA9, hI9⟩ := hi1 (by have h8 : (if kp % 2 = 1 then kp else kp + 1) / 2 % 2 = 1 := h9; split at h8 <;> omega); exact ⟨hO9, c9, hA9, fun j hj => (upI_out (by omega)).trans (hI9 j hj)⟩), (by show upd kf 0 (nI 1) 0 = nI ((if kp % 2 = 1 then kp else kp + 1) % 2); rw [show (if kp % 2 = 1 then kp else kp + 1) % 2 = 1 by split <;> omega]; rfl), (by show upd kf 0 (nI 1) 1 = nI ((if kp % 2 = 1 then kp else kp + 1) / 2 % 2); rw [show (if kp % 2 = 1 then kp else kp + 1) / 2 % 2 = kp / 2 % 2 by split <;> omega]; exact hk1), (by show (if kp % 2 = 1 then kp else kp + 1) < 4; split <;> omega)⟩⟩) rfl
      · refine j_aload_n C dX9_image_21 1 rfl 22 rfl ?_
        refine j_get C dX9_image_22 0 1 1 inX9_image_9 rfl rfl (by decide) rfl rfl rfl 25 rfl ?_
        refine j_sipush C dX9_image_25 (nI 1072) (by decide) 28 rfl ?_
        refine j_iload_n C dX9_image_28 2 rfl 29 rfl ?_
        refine j_imul C dX9_image_29 (nI (1072 * 0)) rfl 30 rfl ?_
        refine j_iload_n C dX9_image_30 0 rfl 31 rfl ?_
        refine j_iadd C dX9_image_31 (nI (1072 * 0 + i)) (nI_add (1072 * 0) i) 32 rfl ?_
        refine j_aload_n C dX9_image_32 1 rfl 33 rfl ?_
        refine j_get C dX9_image_33 0 0 2 inX9_image_9 rfl rfl (by decide) rfl rfl rfl 36 rfl ?_
        refine j_iload_n C dX9_image_36 0 rfl 37 rfl ?_
        refine j_ialdI C dX9_image_37 1 rfl (by omega) (Nat.le_of_ble_eq_true rfl) (stA w sz ev n f L b x y z i) rfl 38 rfl ?_
        refine j_iastI C dX9_image_38 2 rfl (by omega) (Nat.le_of_ble_eq_true rfl) (upI (stA w sz ev n f L b x y z) im (1072 * 0) (i + 1)) (upI_s _ _ _ _) [(am 0, .inr (9, [.ref (am 1), .ref (am 2), .ref (am 3), .ref (am 4), .ref (am 5), .int (nI bm), .ref (am 6), .ref (am 7), .int (nI ap), .int (nI wr), .int (nI wa), .int (nI go)])), (am 1, .inl (cI, 1072, .inl (stA w sz ev n f L b x y z))), (am 2, .inl (cI, 2144, .inl (upI (stA w sz ev n f L b x y z) im (1072 * 0) (i + 1)))), (am 3, .inl (cZ, 2, .inl kf)), (am 4, .inl (cI, 64, .inl (aN rf))), (am 5, .inl (cI, 1000, .inl (aN bf))), (am 6, .inl (cI, 65, .inl (aN lf))), (am 7, .inl (cI, 64, .inl (aN hf)))] rfl 39 rfl ?_
        refine j_iinc C dX9_image_39 0 rfl (nI (i + 1)) (nI_1 (i)) [(2, .int (nI (i + 1))), (0, .ref (am 0)), (1, .int (nI 0))] (by decide) rfl 42 rfl ?_
        refine j_goto C dX9_image_42 14 (by decide) ?_
        exact ih14 (i + 1) (by omega) (by omega)
    · refine j_lveq [(0, .ref (am 0)), (1, .int (nI 1))] (by rw [← hK, ← q_nn (i := v) (by omega)]) ?_
      refine j_iconst C dX9_image_12 (nI 0) (by decide) 13 rfl ?_
      refine j_istore_n C dX9_image_13 [(2, .int (nI 0)), (0, .ref (am 0)), (1, .int (nI 1))] (by decide) rfl 14 rfl ?_
      refine j_loop1 (fun (i : Nat) => i ≤ 1072) (fun (i : Nat) => 1072 - i) (fun (i : Nat) => [(am 0, .inr (9, [.ref (am 1), .ref (am 2), .ref (am 3), .ref (am 4), .ref (am 5), .int (nI bm), .ref (am 6), .ref (am 7), .int (nI ap), .int (nI wr), .int (nI wa), .int (nI go)])), (am 1, .inl (cI, 1072, .inl (stA w sz ev n f L b x y z))), (am 2, .inl (cI, 2144, .inl (upI (stA w sz ev n f L b x y z) im (1072 * 1) i))), (am 3, .inl (cZ, 2, .inl kf)), (am 4, .inl (cI, 64, .inl (aN rf))), (am 5, .inl (cI, 1000, .inl (aN bf))), (am 6, .inl (cI, 65, .inl (aN lf))), (am 7, .inl (cI, 64, .inl (aN hf)))]) (fun (i : Nat) => [(2, .int (nI i)), (0, .ref (am 0)), (1, .int (nI 1))]) ?_ 0 (by omega) (by rw [upI_0]) rfl
      intro i hI14 ih14
      have hi : i ≤ 1072 := hI14
      show J D AX pX l eX _ sX mX _ bX methX cX 0 0 _ 3 [(am 0, .inr (9, [.ref (am 1), .ref (am 2), .ref (am 3), .ref (am 4), .ref (am 5), .int (nI bm), .ref (am 6), .ref (am 7), .int (nI ap), .int (nI wr), .int (nI wa), .int (nI go)])), (am 1, .inl (cI, 1072, .inl (stA w sz ev n f L b x y z))), (am 2, .inl (cI, 2144, .inl (upI (stA w sz ev n f L b x y z) im (1072 * 1) i))), (am 3, .inl (cZ, 2, .inl kf)), (am 4, .inl (cI, 64, .inl (aN rf))), (am 5, .inl (cI, 1000, .inl (aN bf))), (am 6, .inl (cI, 65, .inl (aN lf))), (am 7, .inl (cI, 64, .inl (aN hf)))] [(2, .int (nI i)), (0, .ref (am 0)), (1, .int (nI 1))] 14 []
      refine j_iload_n C dX9_image_14 0 rfl 15 rfl ?_
      refine j_sipush C dX9_image_15 (nI 1072) (by decide) 18 rfl ?_
      refine j_icmp_ge C dX9_image_18 45 (by decide) (q_t (by omega)) (q_t (n := 1072) (Nat.le_of_ble_eq_true rfl)) 21 rfl (fun h18 => ?_) (fun h18 => ?_)
      · refine j_aload_n C dX9_image_45 1 rfl 46 rfl ?_
        refine j_get C dX9_image_46 0 2 3 inX9_image_9 rfl rfl (by decide) rfl rfl rfl 49 rfl ?_
        refine j_iload_n C dX9_image_49 2 rfl 50 rfl ?_
        refine j_iconst C dX9_image_50 (nI 1) (by decide) 51 rfl ?_
        refine j_zast C dX9_image_51 3 rfl (by decide) (Nat.le_of_ble_eq_true rfl) rfl (upd kf 1 (nI 1)) rfl [(am 0, .inr (9, [.ref (am 1), .ref (am 2), .ref (am 3), .ref (am 4), .ref (am 5), .int (nI bm), .ref (am 6), .ref (am 7), .int (nI ap), .int (nI wr), .int (nI wa), .int (nI go)])), (am 1, .inl (cI, 1072, .inl (stA w sz ev n f L b x y z))), (am 2, .inl (cI, 2144, .inl (upI (stA w sz ev n f L b x y z) im (1072 * 1) i))), (am 3, .inl (cZ, 2, .inl (upd kf 1 (nI 1)))), (am 4, .inl (cI, 64, .inl (aN rf))), (am 5, .inl (cI, 1000, .inl (aN bf))), (am 6, .inl (cI, 65, .inl (aN lf))), (am 7, .inl (cI, 64, .inl (aN hf)))] rfl 52 rfl ?_
        refine j_iconst C dX9_image_52 (nI 1) (by decide) 53 rfl ?_
        exact j_iret C dX9_image_53 ((w, sz, ev, n, f, L, b, x, y, z), upI (stA w sz ev n f L b x y z) im (1072 * 1) i, upd kf 1 (nI 1), rf, bf, bm, lf, hf, ap, wr, wa, go) (by rw [show opImage ((w, sz, ev, n, g, L, t, x, y, z), b0, b1, kp) v = (nI 1, ((w, sz, ev, n, g, L, t, x, y, z), b0, (w, sz, ev, n, g, L, t, x, y, z), (if kp / 2 % 2 = 1 then kp else kp + 2))) from (by simp only [opImage]; (repeat' split) <;> first | rfl | (exfalso; omega))]; exact ⟨rfl, ⟨⟨hw, hsz, hev, hn, hg, hL, ht, hx5⟩, ⟨rfl, rfl, rfl, rfl, hfg, rfl, hbt, rfl, rfl, rfl⟩, (fun h9 => by obtain ⟨hO9, c9, hA9, hI9⟩ := hi0 (by have h8 : (if kp / 2 % 2 = 1 then kp else kp + 2) % 2 = 1 := h9; split at h8 <;> omega); exact ⟨hO9, c9, hA9, fun j hj => (upI_out (by omega)).trans (hI9 j hj)⟩), (fun _ => ⟨⟨hw, hsz, hev, hn, hg, hL, ht, hx5⟩, ⟨(w, sz, ev, n, f, L, b, x, y, z), ⟨rfl, rfl, rfl, rfl, hfg, rfl, hbt, rfl, rfl, rfl⟩, fun j hj => upI_in (show j < i by omega)⟩⟩), (by show upd kf 1 (nI 1) 0 = nI ((if kp / 2 % 2 = 1 then kp else kp + 2) % 2); rw [show (if kp / 2 % 2 = 1 then kp else kp + 2) % 2 = kp % 2 by split <;> omega]; exact hk0), (by show upd kf 1 (nI 1) 1 = nI ((if kp / 2 % 2 = 1 then kp else kp + 2) / 2 % 2); rw [show (if kp / 2 % 2 = 1 then kp else kp + 2) / 2 % 2 = 1 by split <;> omega]; rfl), (by show (if kp / 2 % 2 = 1 then kp else kp + 2) < 4; split <;> omega)⟩⟩) rfl
      · refine j_aload_n C dX9_image_21 1 rfl 22 rfl ?_
        refine j_get C dX9_image_22 0 1 1 inX9_image_9 rfl rfl (by decide) rfl rfl rfl 25 rfl ?_
        refine j_sipush C dX9_image_25 (nI 1072) (by decide) 28 rfl ?_
        refine j_iload_n C dX9_image_28 2 rfl 29 rfl ?_
        refine j_imul C dX9_image_29 (nI (1072 * 1)) rfl 30 rfl ?_
        refine j_iload_n C dX9_image_30 0 rfl 31 rfl ?_
        refine j_iadd C dX9_image_31 (nI (1072 * 1 + i)) (nI_add (1072 * 1) i) 32 rfl ?_
        refine j_aload_n C dX9_image_32 1 rfl 33 rfl ?_
        refine j_get C dX9_image_33 0 0 2 inX9_image_9 rfl rfl (by decide) rfl rfl rfl 36 rfl ?_
        refine j_iload_n C dX9_image_36 0 rfl 37 rfl ?_
        refine j_ialdI C dX9_image_37 1 rfl (by omega) (Nat.le_of_ble_eq_true rfl) (stA w sz ev n f L b x y z i) rfl 38 rfl ?_
        refine j_iastI C dX9_image_38 2 rfl (by omega) (Nat.le_of_ble_eq_true rfl) (upI (stA w sz ev n f L b x y z) im (1072 * 1) (i + 1)) (upI_s _ _ _ _) [(am 0, .inr (9, [.ref (am 1), .ref (am 2), .ref (am 3), .ref (am 4), .ref (am 5), .int (nI bm), .ref (am 6), .ref (am 7), .int (nI ap), .int (nI wr), .int (nI wa), .int (nI go)])), (am 1, .inl (cI, 1072, .inl (stA w sz ev n f L b x y z))), (am 2, .inl (cI, 2144, .inl (upI (stA w sz ev n f L b x y z) im (1072 * 1) (i + 1)))), (am 3, .inl (cZ, 2, .inl kf)), (am 4, .inl (cI, 64, .inl (aN rf))), (am 5, .inl (cI, 1000, .inl (aN bf))), (am 6, .inl (cI, 65, .inl (aN lf))), (am 7, .inl (cI, 64, .inl (aN hf)))] rfl 39 rfl ?_
        refine j_iinc C dX9_image_39 0 rfl (nI (i + 1)) (nI_1 (i)) [(2, .int (nI (i + 1))), (0, .ref (am 0)), (1, .int (nI 1))] (by decide) rfl 42 rfl ?_
        refine j_goto C dX9_image_42 14 (by decide) ?_
        exact ih14 (i + 1) (by omega) (by omega)
  · refine j_bipush C dX9_image_9 (-2) (by decide) 11 rfl ?_
    exact j_iret C dX9_image_11 ((w, sz, ev, n, f, L, b, x, y, z), im, kf, rf, bf, bm, lf, hf, ap, wr, wa, go) (by rw [show opImage ((w, sz, ev, n, g, L, t, x, y, z), b0, b1, kp) v = (-2, ((w, sz, ev, n, g, L, t, x, y, z), b0, b1, kp)) from (by first | rfl | (simp only [opImage]; (repeat' split) <;> first | rfl | (exfalso; omega)))]; exact ⟨rfl, hR0⟩) rfl
set_option maxHeartbeats 4000000 in
set_option maxRecDepth 100000 in
theorem k_X9_restore (l : Launch) (D : va_G) (cI cZ cH : ClassId) (am : Nat → Nat) (A : AT) (Y : MT) (hR : MRel A Y) (v : Int32) : Mi l D cI cZ cH yX9_restore wsX9_restore 1 22 [.ref (am 0), .int v] (wM cI cZ am Y) (fun (r9 : Int32) (Y9 : MT) => r9 = (opRestore A v).1 ∧ MRel (opRestore A v).2 Y9) (wM cI cZ am) := by
  obtain ⟨⟨w, sz, ev, n, f, L, b, x, y, z⟩, im, kf, rf, bf, bm, lf, hf, ap, wr, wa, go⟩ := Y
  obtain ⟨⟨w2, sz2, ev2, n2, g, L2, t, x2, y2, z2⟩, b0, b1, kp⟩ := A
  have hR0 := hR
  obtain ⟨⟨hw, hsz, hev, hn, hg, hL, ht, hx5⟩, ⟨e1, e2, e3, e4, hfg, e6, hbt, e8, e9, e10⟩, hi0, hi1, hk0, hk1, hk4⟩ := hR
  dsimp only at hw hsz hev hn hg hL ht hx5 e1 e2 e3 e4 hfg e6 hbt e8 e9 e10 hi0 hi1 hk0 hk1 hk4
  subst e1 e2 e3 e4 e6 e8 e9 e10
  have hnb : nbk sz n ≤ 64 := nbk_le hsz.1 hn
  have ht255 := tpW_le hw.2
  refine Mi.start (cc := cX9_restore) (nL := 3) (ret := (some .int)) (lv0 := [(0, .ref (am 0)), (1, .int v)]) (by decide) rfl (Nat.le_of_ble_eq_true rfl) rfl ?_
  intro pX eX sX mX bX methX cX AX C
  show J D AX pX l eX _ sX mX _ bX methX cX 0 0 _ 3 [(am 0, .inr (9, [.ref (am 1), .ref (am 2), .ref (am 3), .ref (am 4), .ref (am 5), .int (nI bm), .ref (am 6), .ref (am 7), .int (nI ap), .int (nI wr), .int (nI wa), .int (nI go)])), (am 1, .inl (cI, 1072, .inl (stA w sz ev n f L b x y z))), (am 2, .inl (cI, 2144, .inl im)), (am 3, .inl (cZ, 2, .inl kf)), (am 4, .inl (cI, 64, .inl (aN rf))), (am 5, .inl (cI, 1000, .inl (aN bf))), (am 6, .inl (cI, 65, .inl (aN lf))), (am 7, .inl (cI, 64, .inl (aN hf)))] [(0, .ref (am 0)), (1, .int v)] 0 []
  refine j_iload_n C dX9_restore_0 1 rfl 1 rfl ?_
  refine j_iconst C dX9_restore_1 (nI 0) (by decide) 2 rfl ?_
  refine j_iconst C dX9_restore_2 (nI 1) (by decide) 3 rfl ?_
  refine j_callSi1 (As := [.int v, .int (nI 0), .int (nI 1)]) (rest := []) (wr := [(am 0, .inr (9, [.ref (am 1), .ref (am 2), .ref (am 3), .ref (am 4), .ref (am 5), .int (nI bm), .ref (am 6), .ref (am 7), .int (nI ap), .int (nI wr), .int (nI wa), .int (nI go)])), (am 1, .inl (cI, 1072, .inl (stA w sz ev n f L b x y z))), (am 2, .inl (cI, 2144, .inl im)), (am 3, .inl (cZ, 2, .inl kf)), (am 4, .inl (cI, 64, .inl (aN rf))), (am 5, .inl (cI, 1000, .inl (aN bf))), (am 6, .inl (cI, 65, .inl (aN lf))), (am 7, .inl (cI, 64, .inl (aN hf)))]) C (c_X9_in l D cI cZ cH v (nI 0) (nI 1) ((v).toInt) (((0 : Nat) : Int)) (((1 : Nat) : Int)) rfl (q_t (n := 0) (Nat.le_of_ble_eq_true rfl)) (q_t (n := 1) (Nat.le_of_ble_eq_true rfl))) gX9_restore_X9_in dX9_restore_3 rfl yd_X9_in.2 (Nat.le_of_ble_eq_true rfl) (Nat.le_of_ble_eq_true rfl) rfl _ rfl (Nat.le_of_ble_eq_true rfl) (Nat.zero_le _) (Nat.zero_le _) [] [0, 1, 2, 3, 4, 5, 6, 7] rfl rfl rfl rfl rfl (by decide) [0, 1, 2, 3, 4, 5, 6, 7] [(am 0, .inr (9, [.ref (am 1), .ref (am 2), .ref (am 3), .ref (am 4), .ref (am 5), .int (nI bm), .ref (am 6), .ref (am 7), .int (nI ap), .int (nI wr), .int (nI wa), .int (nI go)])), (am 1, .inl (cI, 1072, .inl (stA w sz ev n f L b x y z))), (am 2, .inl (cI, 2144, .inl im)), (am 3, .inl (cZ, 2, .inl kf)), (am 4, .inl (cI, 64, .inl (aN rf))), (am 5, .inl (cI, 1000, .inl (aN bf))), (am 6, .inl (cI, 65, .inl (aN lf))), (am 7, .inl (cI, 64, .inl (aN hf)))] rfl rfl rfl 6 rfl ?_
  refine j_ifb_ne C dX9_restore_6 12 (by decide) 9 rfl (fun h6 => ?_) (fun h6 => ?_)
  · rcases (show v.toInt.toNat = 0 ∨ v.toInt.toNat = 1 by omega) with hK | hK
    · refine j_lveq [(0, .ref (am 0)), (1, .int (nI 0))] (by rw [← hK, ← q_nn (i := v) (by omega)]) ?_
      refine j_aload_n C dX9_restore_12 0 rfl 13 rfl ?_
      refine j_get C dX9_restore_13 0 2 1 inX9_restore_9 rfl rfl (by decide) rfl rfl rfl 16 rfl ?_
      refine j_iload_n C dX9_restore_16 1 rfl 17 rfl ?_
      refine j_zald C dX9_restore_17 3 rfl (by decide) (Nat.le_of_ble_eq_true rfl) (nI (kp % 2)) hk0 18 rfl ?_
      refine j_if_ne C dX9_restore_18 24 (by decide) (q_t (by omega)) 21 rfl (fun h18 => ?_) (fun h18 => ?_)
      · obtain ⟨hO9, c9, hA9, hI9⟩ := hi0 (by omega)
        refine j_iconst C dX9_restore_24 (nI 0) (by decide) 25 rfl ?_
        refine j_istore_n C dX9_restore_25 [(2, .int (nI 0)), (0, .ref (am 0)), (1, .int (nI 0))] (by decide) rfl 26 rfl ?_
        refine j_loop1 (fun (i : Nat) => i ≤ 1072) (fun (i : Nat) => 1072 - i) (fun (i : Nat) => [(am 0, .inr (9, [.ref (am 1), .ref (am 2), .ref (am 3), .ref (am 4), .ref (am 5), .int (nI bm), .ref (am 6), .ref (am 7), .int (nI ap), .int (nI wr), .int (nI wa), .int (nI go)])), (am 1, .inl (cI, 1072, .inl (upI (fun j => im (1072 * 0 + j)) (stA w sz ev n f L b x y z) 0 i))), (am 2, .inl (cI, 2144, .inl im)), (am 3, .inl (cZ, 2, .inl kf)), (am 4, .inl (cI, 64, .inl (aN rf))), (am 5, .inl (cI, 1000, .inl (aN bf))), (am 6, .inl (cI, 65, .inl (aN lf))), (am 7, .inl (cI, 64, .inl (aN hf)))]) (fun (i : Nat) => [(2, .int (nI i)), (0, .ref (am 0)), (1, .int (nI 0))]) ?_ 0 (by omega) (by rw [upI_0]) rfl
        intro i hI26 ih26
        have hi : i ≤ 1072 := hI26
        show J D AX pX l eX _ sX mX _ bX methX cX 0 0 _ 3 [(am 0, .inr (9, [.ref (am 1), .ref (am 2), .ref (am 3), .ref (am 4), .ref (am 5), .int (nI bm), .ref (am 6), .ref (am 7), .int (nI ap), .int (nI wr), .int (nI wa), .int (nI go)])), (am 1, .inl (cI, 1072, .inl (upI (fun j => im (1072 * 0 + j)) (stA w sz ev n f L b x y z) 0 i))), (am 2, .inl (cI, 2144, .inl im)), (am 3, .inl (cZ, 2, .inl kf)), (am 4, .inl (cI, 64, .inl (aN rf))), (am 5, .inl (cI, 1000, .inl (aN bf))), (am 6, .inl (cI, 65, .inl (aN lf))), (am 7, .inl (cI, 64, .inl (aN hf)))] [(2, .int (nI i)), (0, .ref (am 0)), (1, .int (nI 0))] 26 []
        refine j_iload_n C dX9_restore_26 0 rfl 27 rfl ?_
        refine j_sipush C dX9_restore_27 (nI 1072) (by decide) 30 rfl ?_
        refine j_icmp_ge C dX9_restore_30 57 (by decide) (q_t (by omega)) (q_t (n := 1072) (Nat.le_of_ble_eq_true rfl)) 33 rfl (fun h30 => ?_) (fun h30 => ?_)
        · refine j_world [(am 0, .inr (9, [.ref (am 1), .ref (am 2), .ref (am 3), .ref (am 4), .ref (am 5), .int (nI bm), .ref (am 6), .ref (am 7), .int (nI ap), .int (nI wr), .int (nI wa), .int (nI go)])), (am 1, .inl (cI, 1072, .inl (stA (c9.1) (c9.2.1) (c9.2.2.1) (c9.2.2.2.1) (c9.2.2.2.2.1) (c9.2.2.2.2.2.1) (c9.2.2.2.2.2.2.1) (c9.2.2.2.2.2.2.2.1) (c9.2.2.2.2.2.2.2.2.1) (c9.2.2.2.2.2.2.2.2.2)))), (am 2, .inl (cI, 2144, .inl im)), (am 3, .inl (cZ, 2, .inl kf)), (am 4, .inl (cI, 64, .inl (aN rf))), (am 5, .inl (cI, 1000, .inl (aN bf))), (am 6, .inl (cI, 65, .inl (aN lf))), (am 7, .inl (cI, 64, .inl (aN hf)))] (by rw [show i = 1072 by omega, upI_st hI9]; rfl) ?_
          refine j_iconst C dX9_restore_57 (nI 1) (by decide) 58 rfl ?_
          exact j_iret C dX9_restore_58 (c9, im, kf, rf, bf, bm, lf, hf, ap, wr, wa, go) (by rw [show opRestore ((w, sz, ev, n, g, L, t, x, y, z), b0, b1, kp) v = (nI 1, (b0, b0, b1, kp)) from (by simp only [opRestore]; (repeat' split) <;> first | rfl | (exfalso; omega))]; exact ⟨rfl, ⟨hO9, hA9, hi0, hi1, hk0, hk1, hk4⟩⟩) rfl
        · refine j_aload_n C dX9_restore_33 1 rfl 34 rfl ?_
          refine j_get C dX9_restore_34 0 0 2 inX9_restore_9 rfl rfl (by decide) rfl rfl rfl 37 rfl ?_
          refine j_iload_n C dX9_restore_37 0 rfl 38 rfl ?_
          refine j_aload_n C dX9_restore_38 1 rfl 39 rfl ?_
          refine j_get C dX9_restore_39 0 1 3 inX9_restore_9 rfl rfl (by decide) rfl rfl rfl 42 rfl ?_
          refine j_sipush C dX9_restore_42 (nI 1072) (by decide) 45 rfl ?_
          refine j_iload_n C dX9_restore_45 2 rfl 46 rfl ?_
          refine j_imul C dX9_restore_46 (nI (1072 * 0)) (pk_mul 1072 0) 47 rfl ?_
          refine j_iload_n C dX9_restore_47 0 rfl 48 rfl ?_
          refine j_iadd C dX9_restore_48 (nI (1072 * 0 + i)) (nI_add (1072 * 0) i) 49 rfl ?_
          refine j_ialdI C dX9_restore_49 2 rfl (by omega) (Nat.le_of_ble_eq_true rfl) (im (1072 * 0 + i)) rfl 50 rfl ?_
          refine j_iastI C dX9_restore_50 1 rfl (by omega) (Nat.le_of_ble_eq_true rfl) (upI (fun j => im (1072 * 0 + j)) (stA w sz ev n f L b x y z) 0 (i + 1)) (upI_s0 (fun j => im (1072 * 0 + j)) _ _) [(am 0, .inr (9, [.ref (am 1), .ref (am 2), .ref (am 3), .ref (am 4), .ref (am 5), .int (nI bm), .ref (am 6), .ref (am 7), .int (nI ap), .int (nI wr), .int (nI wa), .int (nI go)])), (am 1, .inl (cI, 1072, .inl (upI (fun j => im (1072 * 0 + j)) (stA w sz ev n f L b x y z) 0 (i + 1)))), (am 2, .inl (cI, 2144, .inl im)), (am 3, .inl (cZ, 2, .inl kf)), (am 4, .inl (cI, 64, .inl (aN rf))), (am 5, .inl (cI, 1000, .inl (aN bf))), (am 6, .inl (cI, 65, .inl (aN lf))), (am 7, .inl (cI, 64, .inl (aN hf)))] rfl 51 rfl ?_
          refine j_iinc C dX9_restore_51 0 rfl (nI (i + 1)) (nI_1 (i)) [(2, .int (nI (i + 1))), (0, .ref (am 0)), (1, .int (nI 0))] (by decide) rfl 54 rfl ?_
          refine j_goto C dX9_restore_54 26 (by decide) ?_
          exact ih26 (i + 1) (by omega) (by omega)
      · refine j_bipush C dX9_restore_21 (-3) (by decide) 23 rfl ?_
        exact j_iret C dX9_restore_23 ((w, sz, ev, n, f, L, b, x, y, z), im, kf, rf, bf, bm, lf, hf, ap, wr, wa, go) (by rw [show opRestore ((w, sz, ev, n, g, L, t, x, y, z), b0, b1, kp) v = (-3, ((w, sz, ev, n, g, L, t, x, y, z), b0, b1, kp)) from (by simp only [opRestore]; (repeat' split) <;> first | rfl | (exfalso; omega))]; exact ⟨rfl, hR0⟩) rfl
    · refine j_lveq [(0, .ref (am 0)), (1, .int (nI 1))] (by rw [← hK, ← q_nn (i := v) (by omega)]) ?_
      refine j_aload_n C dX9_restore_12 0 rfl 13 rfl ?_
      refine j_get C dX9_restore_13 0 2 1 inX9_restore_9 rfl rfl (by decide) rfl rfl rfl 16 rfl ?_
      refine j_iload_n C dX9_restore_16 1 rfl 17 rfl ?_
      refine j_zald C dX9_restore_17 3 rfl (by decide) (Nat.le_of_ble_eq_true rfl) (nI (kp / 2 % 2)) hk1 18 rfl ?_
      refine j_if_ne C dX9_restore_18 24 (by decide) (q_t (by omega)) 21 rfl (fun h18 => ?_) (fun h18 => ?_)
      · obtain ⟨hO9, c9, hA9, hI9⟩ := hi1 (by omega)
        refine j_iconst C dX9_restore_24 (nI 0) (by decide) 25 rfl ?_
        refine j_istore_n C dX9_restore_25 [(2, .int (nI 0)), (0, .ref (am 0)), (1, .int (nI 1))] (by decide) rfl 26 rfl ?_
        refine j_loop1 (fun (i : Nat) => i ≤ 1072) (fun (i : Nat) => 1072 - i) (fun (i : Nat) => [(am 0, .inr (9, [.ref (am 1), .ref (am 2), .ref (am 3), .ref (am 4), .ref (am 5), .int (nI bm), .ref (am 6), .ref (am 7), .int (nI ap), .int (nI wr), .int (nI wa), .int (nI go)])), (am 1, .inl (cI, 1072, .inl (upI (fun j => im (1072 * 1 + j)) (stA w sz ev n f L b x y z) 0 i))), (am 2, .inl (cI, 2144, .inl im)), (am 3, .inl (cZ, 2, .inl kf)), (am 4, .inl (cI, 64, .inl (aN rf))), (am 5, .inl (cI, 1000, .inl (aN bf))), (am 6, .inl (cI, 65, .inl (aN lf))), (am 7, .inl (cI, 64, .inl (aN hf)))]) (fun (i : Nat) => [(2, .int (nI i)), (0, .ref (am 0)), (1, .int (nI 1))]) ?_ 0 (by omega) (by rw [upI_0]) rfl
        intro i hI26 ih26
        have hi : i ≤ 1072 := hI26
        show J D AX pX l eX _ sX mX _ bX methX cX 0 0 _ 3 [(am 0, .inr (9, [.ref (am 1), .ref (am 2), .ref (am 3), .ref (am 4), .ref (am 5), .int (nI bm), .ref (am 6), .ref (am 7), .int (nI ap), .int (nI wr), .int (nI wa), .int (nI go)])), (am 1, .inl (cI, 1072, .inl (upI (fun j => im (1072 * 1 + j)) (stA w sz ev n f L b x y z) 0 i))), (am 2, .inl (cI, 2144, .inl im)), (am 3, .inl (cZ, 2, .inl kf)), (am 4, .inl (cI, 64, .inl (aN rf))), (am 5, .inl (cI, 1000, .inl (aN bf))), (am 6, .inl (cI, 65, .inl (aN lf))), (am 7, .inl (cI, 64, .inl (aN hf)))] [(2, .int (nI i)), (0, .ref (am 0)), (1, .int (nI 1))] 26 []
        refine j_iload_n C dX9_restore_26 0 rfl 27 rfl ?_
        refine j_sipush C dX9_restore_27 (nI 1072) (by decide) 30 rfl ?_
        refine j_icmp_ge C dX9_restore_30 57 (by decide) (q_t (by omega)) (q_t (n := 1072) (Nat.le_of_ble_eq_true rfl)) 33 rfl (fun h30 => ?_) (fun h30 => ?_)
        · refine j_world [(am 0, .inr (9, [.ref (am 1), .ref (am 2), .ref (am 3), .ref (am 4), .ref (am 5), .int (nI bm), .ref (am 6), .ref (am 7), .int (nI ap), .int (nI wr), .int (nI wa), .int (nI go)])), (am 1, .inl (cI, 1072, .inl (stA (c9.1) (c9.2.1) (c9.2.2.1) (c9.2.2.2.1) (c9.2.2.2.2.1) (c9.2.2.2.2.2.1) (c9.2.2.2.2.2.2.1) (c9.2.2.2.2.2.2.2.1) (c9.2.2.2.2.2.2.2.2.1) (c9.2.2.2.2.2.2.2.2.2)))), (am 2, .inl (cI, 2144, .inl im)), (am 3, .inl (cZ, 2, .inl kf)), (am 4, .inl (cI, 64, .inl (aN rf))), (am 5, .inl (cI, 1000, .inl (aN bf))), (am 6, .inl (cI, 65, .inl (aN lf))), (am 7, .inl (cI, 64, .inl (aN hf)))] (by rw [show i = 1072 by omega, upI_st hI9]; rfl) ?_
          refine j_iconst C dX9_restore_57 (nI 1) (by decide) 58 rfl ?_
          exact j_iret C dX9_restore_58 (c9, im, kf, rf, bf, bm, lf, hf, ap, wr, wa, go) (by rw [show opRestore ((w, sz, ev, n, g, L, t, x, y, z), b0, b1, kp) v = (nI 1, (b1, b0, b1, kp)) from (by simp only [opRestore]; (repeat' split) <;> first | rfl | (exfalso; omega))]; exact ⟨rfl, ⟨hO9, hA9, hi0, hi1, hk0, hk1, hk4⟩⟩) rfl
        · refine j_aload_n C dX9_restore_33 1 rfl 34 rfl ?_
          refine j_get C dX9_restore_34 0 0 2 inX9_restore_9 rfl rfl (by decide) rfl rfl rfl 37 rfl ?_
          refine j_iload_n C dX9_restore_37 0 rfl 38 rfl ?_
          refine j_aload_n C dX9_restore_38 1 rfl 39 rfl ?_
          refine j_get C dX9_restore_39 0 1 3 inX9_restore_9 rfl rfl (by decide) rfl rfl rfl 42 rfl ?_
          refine j_sipush C dX9_restore_42 (nI 1072) (by decide) 45 rfl ?_
          refine j_iload_n C dX9_restore_45 2 rfl 46 rfl ?_
          refine j_imul C dX9_restore_46 (nI (1072 * 1)) (pk_mul 1072 1) 47 rfl ?_
          refine j_iload_n C dX9_restore_47 0 rfl 48 rfl ?_
          refine j_iadd C dX9_restore_48 (nI (1072 * 1 + i)) (nI_add (1072 * 1) i) 49 rfl ?_
          refine j_ialdI C dX9_restore_49 2 rfl (by omega) (Nat.le_of_ble_eq_true rfl) (im (1072 * 1 + i)) rfl 50 rfl ?_
          refine j_iastI C dX9_restore_50 1 rfl (by omega) (Nat.le_of_ble_eq_true rfl) (upI (fun j => im (1072 * 1 + j)) (stA w sz ev n f L b x y z) 0 (i + 1)) (upI_s0 (fun j => im (1072 * 1 + j)) _ _) [(am 0, .inr (9, [.ref (am 1), .ref (am 2), .ref (am 3), .ref (am 4), .ref (am 5), .int (nI bm), .ref (am 6), .ref (am 7), .int (nI ap), .int (nI wr), .int (nI wa), .int (nI go)])), (am 1, .inl (cI, 1072, .inl (upI (fun j => im (1072 * 1 + j)) (stA w sz ev n f L b x y z) 0 (i + 1)))), (am 2, .inl (cI, 2144, .inl im)), (am 3, .inl (cZ, 2, .inl kf)), (am 4, .inl (cI, 64, .inl (aN rf))), (am 5, .inl (cI, 1000, .inl (aN bf))), (am 6, .inl (cI, 65, .inl (aN lf))), (am 7, .inl (cI, 64, .inl (aN hf)))] rfl 51 rfl ?_
          refine j_iinc C dX9_restore_51 0 rfl (nI (i + 1)) (nI_1 (i)) [(2, .int (nI (i + 1))), (0, .ref (am 0)), (1, .int (nI 1))] (by decide) rfl 54 rfl ?_
          refine j_goto C dX9_restore_54 26 (by decide) ?_
          exact ih26 (i + 1) (by omega) (by omega)
      · refine j_bipush C dX9_restore_21 (-3) (by decide) 23 rfl ?_
        exact j_iret C dX9_restore_23 ((w, sz, ev, n, f, L, b, x, y, z), im, kf, rf, bf, bm, lf, hf, ap, wr, wa, go) (by rw [show opRestore ((w, sz, ev, n, g, L, t, x, y, z), b0, b1, kp) v = (-3, ((w, sz, ev, n, g, L, t, x, y, z), b0, b1, kp)) from (by simp only [opRestore]; (repeat' split) <;> first | rfl | (exfalso; omega))]; exact ⟨rfl, hR0⟩) rfl
  · refine j_bipush C dX9_restore_9 (-2) (by decide) 11 rfl ?_
    exact j_iret C dX9_restore_11 ((w, sz, ev, n, f, L, b, x, y, z), im, kf, rf, bf, bm, lf, hf, ap, wr, wa, go) (by rw [show opRestore ((w, sz, ev, n, g, L, t, x, y, z), b0, b1, kp) v = (-2, ((w, sz, ev, n, g, L, t, x, y, z), b0, b1, kp)) from (by first | rfl | (simp only [opRestore]; (repeat' split) <;> first | rfl | (exfalso; omega)))]; exact ⟨rfl, hR0⟩) rfl
set_option maxHeartbeats 4000000 in
set_option maxRecDepth 100000 in
theorem k_X9_count (l : Launch) (D : va_G) (cI cZ cH : ClassId) (am : Nat → Nat) (A : AT) (Y : MT) (hR : MRel A Y) (what : Int32) : Mi l D cI cZ cH yX9_count wsX9_count 7 164 [.ref (am 0), .int what] (wM cI cZ am Y) (fun (r9 : Int32) (Y9 : MT) => r9 = (opCount A what).1 ∧ MRel (opCount A what).2 Y9) (wM cI cZ am) := by
  obtain ⟨⟨w, sz, ev, n, f, L, b, x, y, z⟩, im, kf, rf, bf, bm, lf, hf, ap, wr, wa, go⟩ := Y
  obtain ⟨⟨w2, sz2, ev2, n2, g, L2, t, x2, y2, z2⟩, b0, b1, kp⟩ := A
  have hR0 := hR
  obtain ⟨⟨hw, hsz, hev, hn, hg, hL, ht, hx5⟩, ⟨e1, e2, e3, e4, hfg, e6, hbt, e8, e9, e10⟩, hi0, hi1, hk0, hk1, hk4⟩ := hR
  dsimp only at hw hsz hev hn hg hL ht hx5 e1 e2 e3 e4 hfg e6 hbt e8 e9 e10 hi0 hi1 hk0 hk1 hk4
  subst e1 e2 e3 e4 e6 e8 e9 e10
  have hnb : nbk sz n ≤ 64 := nbk_le hsz.1 hn
  have ht255 := tpW_le hw.2
  refine Mi.start (cc := cX9_count) (nL := 2) (ret := (some .int)) (lv0 := [(0, .ref (am 0)), (1, .int what)]) (by decide) rfl (Nat.le_of_ble_eq_true rfl) rfl ?_
  intro pX eX sX mX bX methX cX AX C
  show J D AX pX l eX _ sX mX _ bX methX cX 0 0 _ 2 [(am 0, .inr (9, [.ref (am 1), .ref (am 2), .ref (am 3), .ref (am 4), .ref (am 5), .int (nI bm), .ref (am 6), .ref (am 7), .int (nI ap), .int (nI wr), .int (nI wa), .int (nI go)])), (am 1, .inl (cI, 1072, .inl (stA w sz ev n f L b x y z))), (am 2, .inl (cI, 2144, .inl im)), (am 3, .inl (cZ, 2, .inl kf)), (am 4, .inl (cI, 64, .inl (aN rf))), (am 5, .inl (cI, 1000, .inl (aN bf))), (am 6, .inl (cI, 65, .inl (aN lf))), (am 7, .inl (cI, 64, .inl (aN hf)))] [(0, .ref (am 0)), (1, .int what)] 0 []
  have hse := seB hsz.1 hsz.2 hev.1 hev.2
  refine j_iload_n C dX9_count_0 1 rfl 1 rfl ?_
  have hsw1 : (what).toInt = 0 ∨ (what).toInt = 1 ∨ (what).toInt = 2 ∨ (what).toInt = 3 ∨ (what).toInt = 4 ∨ (what).toInt = 5 ∨ (what).toInt = 6 ∨ (what).toInt = 7 ∨ (what).toInt = 8 ∨ (what).toInt = 9 ∨ ((what).toInt < 0 ∨ 9 < (what).toInt) := by omega
  rcases hsw1 with h1 | h1 | h1 | h1 | h1 | h1 | h1 | h1 | h1 | h1 | h1
  · refine j_tabIn C dX9_count_1 0 (rfl.trans h1) (by decide) (by decide) (55) rfl 56 (by decide) ?_
    refine j_aload_n C dX9_count_56 0 rfl 57 rfl ?_
    refine j_callVi1 (As := []) (rest := []) (wr := [(am 2, .inl (cI, 2144, .inl im)), (am 3, .inl (cZ, 2, .inl kf)), (am 4, .inl (cI, 64, .inl (aN rf))), (am 5, .inl (cI, 1000, .inl (aN bf))), (am 6, .inl (cI, 65, .inl (aN lf))), (am 7, .inl (cI, 64, .inl (aN hf)))]) C (c_X9_many l D cI cZ cH (am 0) (am 1) (am 2) (am 3) (am 4) (am 5) bm (am 6) (am 7) ap wr wa go w sz ev n f L b x y z ) gX9_count_X9_many dX9_count_57 rfl yd_X9_many (Nat.le_of_ble_eq_true rfl) (Nat.le_of_ble_eq_true rfl) rfl rfl rfl _ rfl (Nat.le_of_ble_eq_true rfl) (Nat.zero_le _) (Nat.zero_le _) [0, 1] [2, 3, 4, 5, 6, 7] rfl rfl rfl rfl rfl (by decide) [6, 7, 0, 1, 2, 3, 4, 5] [(am 0, .inr (9, [.ref (am 1), .ref (am 2), .ref (am 3), .ref (am 4), .ref (am 5), .int (nI bm), .ref (am 6), .ref (am 7), .int (nI ap), .int (nI wr), .int (nI wa), .int (nI go)])), (am 1, .inl (cI, 1072, .inl (stA w sz ev n f L b x y z))), (am 2, .inl (cI, 2144, .inl im)), (am 3, .inl (cZ, 2, .inl kf)), (am 4, .inl (cI, 64, .inl (aN rf))), (am 5, .inl (cI, 1000, .inl (aN bf))), (am 6, .inl (cI, 65, .inl (aN lf))), (am 7, .inl (cI, 64, .inl (aN hf)))] rfl rfl rfl 60 rfl ?_
    exact j_iret C dX9_count_60 ((w, sz, ev, n, f, L, b, x, y, z), im, kf, rf, bf, bm, lf, hf, ap, wr, wa, go) (by rw [show opCount ((w, sz, ev, n, g, L, t, x, y, z), b0, b1, kp) what = (nI n, ((w, sz, ev, n, g, L, t, x, y, z), b0, b1, kp)) from (by first | rfl | (simp only [opCount]; (repeat' split) <;> first | rfl | (exfalso; omega)))]; exact ⟨rfl, hR0⟩) rfl
  · refine j_tabIn C dX9_count_1 1 (rfl.trans h1) (by decide) (by decide) (60) rfl 61 (by decide) ?_
    refine j_aload_n C dX9_count_61 0 rfl 62 rfl ?_
    refine j_callVi1 (As := []) (rest := []) (wr := [(am 2, .inl (cI, 2144, .inl im)), (am 3, .inl (cZ, 2, .inl kf)), (am 4, .inl (cI, 64, .inl (aN rf))), (am 5, .inl (cI, 1000, .inl (aN bf))), (am 6, .inl (cI, 65, .inl (aN lf))), (am 7, .inl (cI, 64, .inl (aN hf)))]) C (c_X9_blocks l D cI cZ cH (am 0) (am 1) (am 2) (am 3) (am 4) (am 5) bm (am 6) (am 7) ap wr wa go w sz ev n f L b x y z (by omega) (by omega)) gX9_count_X9_blocks dX9_count_62 rfl yd_X9_blocks (Nat.le_of_ble_eq_true rfl) (Nat.le_of_ble_eq_true rfl) rfl rfl rfl _ rfl (Nat.le_of_ble_eq_true rfl) (Nat.zero_le _) (Nat.zero_le _) [0, 1] [2, 3, 4, 5, 6, 7] rfl rfl rfl rfl rfl (by decide) [6, 7, 0, 1, 2, 3, 4, 5] [(am 0, .inr (9, [.ref (am 1), .ref (am 2), .ref (am 3), .ref (am 4), .ref (am 5), .int (nI bm), .ref (am 6), .ref (am 7), .int (nI ap), .int (nI wr), .int (nI wa), .int (nI go)])), (am 1, .inl (cI, 1072, .inl (stA w sz ev n f L b x y z))), (am 2, .inl (cI, 2144, .inl im)), (am 3, .inl (cZ, 2, .inl kf)), (am 4, .inl (cI, 64, .inl (aN rf))), (am 5, .inl (cI, 1000, .inl (aN bf))), (am 6, .inl (cI, 65, .inl (aN lf))), (am 7, .inl (cI, 64, .inl (aN hf)))] rfl rfl rfl 65 rfl ?_
    exact j_iret C dX9_count_65 ((w, sz, ev, n, f, L, b, x, y, z), im, kf, rf, bf, bm, lf, hf, ap, wr, wa, go) (by rw [show opCount ((w, sz, ev, n, g, L, t, x, y, z), b0, b1, kp) what = (nI (nbk sz n), ((w, sz, ev, n, g, L, t, x, y, z), b0, b1, kp)) from (by first | rfl | (simp only [opCount]; (repeat' split) <;> first | rfl | (exfalso; omega)))]; exact ⟨rfl, hR0⟩) rfl
  · refine j_tabIn C dX9_count_1 2 (rfl.trans h1) (by decide) (by decide) (65) rfl 66 (by decide) ?_
    refine j_aload_n C dX9_count_66 0 rfl 67 rfl ?_
    refine j_callVi1 (As := []) (rest := []) (wr := [(am 2, .inl (cI, 2144, .inl im)), (am 3, .inl (cZ, 2, .inl kf)), (am 4, .inl (cI, 64, .inl (aN rf))), (am 5, .inl (cI, 1000, .inl (aN bf))), (am 6, .inl (cI, 65, .inl (aN lf))), (am 7, .inl (cI, 64, .inl (aN hf)))]) C (c_X9_many l D cI cZ cH (am 0) (am 1) (am 2) (am 3) (am 4) (am 5) bm (am 6) (am 7) ap wr wa go w sz ev n f L b x y z ) gX9_count_X9_many dX9_count_67 rfl yd_X9_many (Nat.le_of_ble_eq_true rfl) (Nat.le_of_ble_eq_true rfl) rfl rfl rfl _ rfl (Nat.le_of_ble_eq_true rfl) (Nat.zero_le _) (Nat.zero_le _) [0, 1] [2, 3, 4, 5, 6, 7] rfl rfl rfl rfl rfl (by decide) [6, 7, 0, 1, 2, 3, 4, 5] [(am 0, .inr (9, [.ref (am 1), .ref (am 2), .ref (am 3), .ref (am 4), .ref (am 5), .int (nI bm), .ref (am 6), .ref (am 7), .int (nI ap), .int (nI wr), .int (nI wa), .int (nI go)])), (am 1, .inl (cI, 1072, .inl (stA w sz ev n f L b x y z))), (am 2, .inl (cI, 2144, .inl im)), (am 3, .inl (cZ, 2, .inl kf)), (am 4, .inl (cI, 64, .inl (aN rf))), (am 5, .inl (cI, 1000, .inl (aN bf))), (am 6, .inl (cI, 65, .inl (aN lf))), (am 7, .inl (cI, 64, .inl (aN hf)))] rfl rfl rfl 70 rfl ?_
    refine j_aload_n C dX9_count_70 0 rfl 71 rfl ?_
    refine j_callVi1 (As := []) (rest := [.int (nI n)]) (wr := [(am 2, .inl (cI, 2144, .inl im)), (am 3, .inl (cZ, 2, .inl kf)), (am 4, .inl (cI, 64, .inl (aN rf))), (am 5, .inl (cI, 1000, .inl (aN bf))), (am 6, .inl (cI, 65, .inl (aN lf))), (am 7, .inl (cI, 64, .inl (aN hf)))]) C (c_X9_segmentLong l D cI cZ cH (am 0) (am 1) (am 2) (am 3) (am 4) (am 5) bm (am 6) (am 7) ap wr wa go w sz ev n f L b x y z ) gX9_count_X9_segmentLong dX9_count_71 rfl yd_X9_segmentLong (Nat.le_of_ble_eq_true rfl) (Nat.le_of_ble_eq_true rfl) rfl rfl rfl _ rfl (Nat.le_of_ble_eq_true rfl) (Nat.zero_le _) (Nat.zero_le _) [0, 1] [2, 3, 4, 5, 6, 7] rfl rfl rfl rfl rfl (by decide) [6, 7, 0, 1, 2, 3, 4, 5] [(am 0, .inr (9, [.ref (am 1), .ref (am 2), .ref (am 3), .ref (am 4), .ref (am 5), .int (nI bm), .ref (am 6), .ref (am 7), .int (nI ap), .int (nI wr), .int (nI wa), .int (nI go)])), (am 1, .inl (cI, 1072, .inl (stA w sz ev n f L b x y z))), (am 2, .inl (cI, 2144, .inl im)), (am 3, .inl (cZ, 2, .inl kf)), (am 4, .inl (cI, 64, .inl (aN rf))), (am 5, .inl (cI, 1000, .inl (aN bf))), (am 6, .inl (cI, 65, .inl (aN lf))), (am 7, .inl (cI, 64, .inl (aN hf)))] rfl rfl rfl 74 rfl ?_
    refine j_iadd C dX9_count_74 (nI (n + (sz * ev))) (nI_add n (sz * ev)) 75 rfl ?_
    refine j_iconst C dX9_count_75 (nI 1) (by decide) 76 rfl ?_
    refine j_isub C dX9_count_76 (nI ((n + (sz * ev)) - 1)) (pk_sub (by omega)) 77 rfl ?_
    refine j_aload_n C dX9_count_77 0 rfl 78 rfl ?_
    refine j_callVi1 (As := []) (rest := [.int (nI ((n + (sz * ev)) - 1))]) (wr := [(am 2, .inl (cI, 2144, .inl im)), (am 3, .inl (cZ, 2, .inl kf)), (am 4, .inl (cI, 64, .inl (aN rf))), (am 5, .inl (cI, 1000, .inl (aN bf))), (am 6, .inl (cI, 65, .inl (aN lf))), (am 7, .inl (cI, 64, .inl (aN hf)))]) C (c_X9_segmentLong l D cI cZ cH (am 0) (am 1) (am 2) (am 3) (am 4) (am 5) bm (am 6) (am 7) ap wr wa go w sz ev n f L b x y z ) gX9_count_X9_segmentLong dX9_count_78 rfl yd_X9_segmentLong (Nat.le_of_ble_eq_true rfl) (Nat.le_of_ble_eq_true rfl) rfl rfl rfl _ rfl (Nat.le_of_ble_eq_true rfl) (Nat.zero_le _) (Nat.zero_le _) [0, 1] [2, 3, 4, 5, 6, 7] rfl rfl rfl rfl rfl (by decide) [6, 7, 0, 1, 2, 3, 4, 5] [(am 0, .inr (9, [.ref (am 1), .ref (am 2), .ref (am 3), .ref (am 4), .ref (am 5), .int (nI bm), .ref (am 6), .ref (am 7), .int (nI ap), .int (nI wr), .int (nI wa), .int (nI go)])), (am 1, .inl (cI, 1072, .inl (stA w sz ev n f L b x y z))), (am 2, .inl (cI, 2144, .inl im)), (am 3, .inl (cZ, 2, .inl kf)), (am 4, .inl (cI, 64, .inl (aN rf))), (am 5, .inl (cI, 1000, .inl (aN bf))), (am 6, .inl (cI, 65, .inl (aN lf))), (am 7, .inl (cI, 64, .inl (aN hf)))] rfl rfl rfl 81 rfl ?_
    refine j_idiv C dX9_count_81 (nz (by omega) (by omega)) (nI (((n + (sz * ev)) - 1) / (sz * ev))) (pk_div (by omega) (by omega) (by omega)) 82 rfl ?_
    have hdiv81 := Nat.div_le_self ((n + (sz * ev)) - 1) (sz * ev)
    exact j_iret C dX9_count_82 ((w, sz, ev, n, f, L, b, x, y, z), im, kf, rf, bf, bm, lf, hf, ap, wr, wa, go) (by rw [show opCount ((w, sz, ev, n, g, L, t, x, y, z), b0, b1, kp) what = (nI (((n + (sz * ev)) - 1) / (sz * ev)), ((w, sz, ev, n, g, L, t, x, y, z), b0, b1, kp)) from (by first | rfl | (simp only [opCount]; (repeat' split) <;> first | rfl | (exfalso; omega)))]; exact ⟨rfl, hR0⟩) rfl
  · refine j_tabIn C dX9_count_1 3 (rfl.trans h1) (by decide) (by decide) (82) rfl 83 (by decide) ?_
    refine j_aload_n C dX9_count_83 0 rfl 84 rfl ?_
    refine j_iconst C dX9_count_84 (-1) (by decide) 85 rfl ?_
    refine j_callVi (As := [.int (-1)]) (rest := []) (wr := [(am 2, .inl (cI, 2144, .inl im)), (am 3, .inl (cZ, 2, .inl kf))]) C (c_X9_packedM1 l D cI cZ cH (am 0) (am 1) (am 2) (am 3) (am 4) (am 5) bm (am 6) (am 7) ap wr wa go w sz ev n f L b x y z rf bf lf hf g hw hsz hev (by omega) hfg hg) gX9_count_X9_packed dX9_count_85 rfl yd_X9_packed (Nat.le_of_ble_eq_true rfl) (Nat.le_of_ble_eq_true rfl) rfl rfl rfl _ rfl (Nat.le_of_ble_eq_true rfl) (Nat.zero_le _) (Nat.zero_le _) [0, 1, 4, 5, 6, 7] [2, 3] rfl rfl rfl rfl rfl (by decide) [2, 3, 0, 1, 4, 5, 6, 7] (fun u9 => [(am 0, .inr (9, [.ref (am 1), .ref (am 2), .ref (am 3), .ref (am 4), .ref (am 5), .int (nI (u9.1)), .ref (am 6), .ref (am 7), .int (nI ap), .int (nI wr), .int (nI wa), .int (nI go)])), (am 1, .inl (cI, 1072, .inl (stA w sz ev n f L b x y z))), (am 2, .inl (cI, 2144, .inl im)), (am 3, .inl (cZ, 2, .inl kf)), (am 4, .inl (cI, 64, .inl (aN (upT f rf n)))), (am 5, .inl (cI, 1000, .inl (aN (u9.2.1)))), (am 6, .inl (cI, 65, .inl (aN (u9.2.2.1)))), (am 7, .inl (cI, 64, .inl (aN (u9.2.2.2))))]) (fun _ => rfl) (fun _ => rfl) rfl 88 rfl (fun r_85 u9 hpo85 => ?_)
    obtain ⟨bm29, bf29, lf29, hf29⟩ := u9
    replace hpo85 : (r_85 = nI (pkL w sz ev n g).length) ∧ MPI w sz ev g n (nbk sz n) hf29 lf29 bf29 bm29 ∧ lf29 (nbk sz n) = bm29 := hpo85
    show J D AX pX l eX _ sX mX _ bX methX cX 0 0 _ 2 [(am 0, .inr (9, [.ref (am 1), .ref (am 2), .ref (am 3), .ref (am 4), .ref (am 5), .int (nI bm29), .ref (am 6), .ref (am 7), .int (nI ap), .int (nI wr), .int (nI wa), .int (nI go)])), (am 1, .inl (cI, 1072, .inl (stA w sz ev n f L b x y z))), (am 2, .inl (cI, 2144, .inl im)), (am 3, .inl (cZ, 2, .inl kf)), (am 4, .inl (cI, 64, .inl (aN (upT f rf n)))), (am 5, .inl (cI, 1000, .inl (aN bf29))), (am 6, .inl (cI, 65, .inl (aN lf29))), (am 7, .inl (cI, 64, .inl (aN hf29)))] [(0, .ref (am 0)), (1, .int what)] 88 [.int r_85]
    refine j_top (nI ((pkL w sz ev n g).length)) hpo85.1 ?_
    exact j_iret C dX9_count_88 ((w, sz, ev, n, f, L, b, x, y, z), im, kf, upT f rf n, bf29, bm29, lf29, hf29, ap, wr, wa, go) (by rw [show opCount ((w, sz, ev, n, g, L, t, x, y, z), b0, b1, kp) what = (nI ((pkL w sz ev n g).length), ((w, sz, ev, n, g, L, t, x, y, z), b0, b1, kp)) from (by first | rfl | (simp only [opCount]; (repeat' split) <;> first | rfl | (exfalso; omega)))]; exact ⟨rfl, hR0⟩) rfl
  · refine j_tabIn C dX9_count_1 4 (rfl.trans h1) (by decide) (by decide) (88) rfl 89 (by decide) ?_
    refine j_aload_n C dX9_count_89 0 rfl 90 rfl ?_
    refine j_get C dX9_count_90 0 0 1 inX9_count_9 rfl rfl (by decide) rfl rfl rfl 93 rfl ?_
    refine j_sipush C dX9_count_93 (nI 1065) (by decide) 96 rfl ?_
    refine j_ialdI C dX9_count_96 1 rfl (Nat.le_of_ble_eq_true rfl) (Nat.le_of_ble_eq_true rfl) (nI L) rfl 97 rfl ?_
    exact j_iret C dX9_count_97 ((w, sz, ev, n, f, L, b, x, y, z), im, kf, rf, bf, bm, lf, hf, ap, wr, wa, go) (by rw [show opCount ((w, sz, ev, n, g, L, t, x, y, z), b0, b1, kp) what = (nI L, ((w, sz, ev, n, g, L, t, x, y, z), b0, b1, kp)) from (by first | rfl | (simp only [opCount]; (repeat' split) <;> first | rfl | (exfalso; omega)))]; exact ⟨rfl, hR0⟩) rfl
  · refine j_tabIn C dX9_count_1 5 (rfl.trans h1) (by decide) (by decide) (97) rfl 98 (by decide) ?_
    rcases (show what.toInt.toNat = 5 ∨ what.toInt.toNat = 6 ∨ what.toInt.toNat = 7 by omega) with hK | hK | hK
    · refine j_lveq [(0, .ref (am 0)), (1, .int (nI (what.toInt.toNat)))] (by rw [← q_nn (i := what) (by omega)]) ?_
      refine j_lveq [(0, .ref (am 0)), (1, .int (nI 5))] (by rw [hK]) ?_
      refine j_aload_n C dX9_count_98 0 rfl 99 rfl ?_
      refine j_get C dX9_count_99 0 0 1 inX9_count_9 rfl rfl (by decide) rfl rfl rfl 102 rfl ?_
      refine j_sipush C dX9_count_102 (nI 1066) (by decide) 105 rfl ?_
      refine j_iload_n C dX9_count_105 1 rfl 106 rfl ?_
      refine j_iadd C dX9_count_106 (nI (1066 + 5)) (nI_add 1066 5) 107 rfl ?_
      refine j_iconst C dX9_count_107 (nI 5) (by decide) 108 rfl ?_
      refine j_isub C dX9_count_108 (nI 1066) rfl 109 rfl ?_
      refine j_ialdI C dX9_count_109 1 rfl (Nat.le_of_ble_eq_true rfl) (Nat.le_of_ble_eq_true rfl) (nI w) rfl 110 rfl ?_
      exact j_iret C dX9_count_110 ((w, sz, ev, n, f, L, b, x, y, z), im, kf, rf, bf, bm, lf, hf, ap, wr, wa, go) (by rw [show opCount ((w, sz, ev, n, g, L, t, x, y, z), b0, b1, kp) what = (nI w, ((w, sz, ev, n, g, L, t, x, y, z), b0, b1, kp)) from (by first | rfl | (simp only [opCount]; (repeat' split) <;> first | rfl | (exfalso; omega)))]; exact ⟨rfl, hR0⟩) rfl
    · refine j_lveq [(0, .ref (am 0)), (1, .int (nI (what.toInt.toNat)))] (by rw [← q_nn (i := what) (by omega)]) ?_
      refine j_lveq [(0, .ref (am 0)), (1, .int (nI 6))] (by rw [hK]) ?_
      refine j_aload_n C dX9_count_98 0 rfl 99 rfl ?_
      refine j_get C dX9_count_99 0 0 1 inX9_count_9 rfl rfl (by decide) rfl rfl rfl 102 rfl ?_
      refine j_sipush C dX9_count_102 (nI 1066) (by decide) 105 rfl ?_
      refine j_iload_n C dX9_count_105 1 rfl 106 rfl ?_
      refine j_iadd C dX9_count_106 (nI (1066 + 6)) (nI_add 1066 6) 107 rfl ?_
      refine j_iconst C dX9_count_107 (nI 5) (by decide) 108 rfl ?_
      refine j_isub C dX9_count_108 (nI 1067) rfl 109 rfl ?_
      refine j_ialdI C dX9_count_109 1 rfl (Nat.le_of_ble_eq_true rfl) (Nat.le_of_ble_eq_true rfl) (nI sz) rfl 110 rfl ?_
      exact j_iret C dX9_count_110 ((w, sz, ev, n, f, L, b, x, y, z), im, kf, rf, bf, bm, lf, hf, ap, wr, wa, go) (by rw [show opCount ((w, sz, ev, n, g, L, t, x, y, z), b0, b1, kp) what = (nI sz, ((w, sz, ev, n, g, L, t, x, y, z), b0, b1, kp)) from (by first | rfl | (simp only [opCount]; (repeat' split) <;> first | rfl | (exfalso; omega)))]; exact ⟨rfl, hR0⟩) rfl
    · refine j_lveq [(0, .ref (am 0)), (1, .int (nI (what.toInt.toNat)))] (by rw [← q_nn (i := what) (by omega)]) ?_
      refine j_lveq [(0, .ref (am 0)), (1, .int (nI 7))] (by rw [hK]) ?_
      refine j_aload_n C dX9_count_98 0 rfl 99 rfl ?_
      refine j_get C dX9_count_99 0 0 1 inX9_count_9 rfl rfl (by decide) rfl rfl rfl 102 rfl ?_
      refine j_sipush C dX9_count_102 (nI 1066) (by decide) 105 rfl ?_
      refine j_iload_n C dX9_count_105 1 rfl 106 rfl ?_
      refine j_iadd C dX9_count_106 (nI (1066 + 7)) (nI_add 1066 7) 107 rfl ?_
      refine j_iconst C dX9_count_107 (nI 5) (by decide) 108 rfl ?_
      refine j_isub C dX9_count_108 (nI 1068) rfl 109 rfl ?_
      refine j_ialdI C dX9_count_109 1 rfl (Nat.le_of_ble_eq_true rfl) (Nat.le_of_ble_eq_true rfl) (nI ev) rfl 110 rfl ?_
      exact j_iret C dX9_count_110 ((w, sz, ev, n, f, L, b, x, y, z), im, kf, rf, bf, bm, lf, hf, ap, wr, wa, go) (by rw [show opCount ((w, sz, ev, n, g, L, t, x, y, z), b0, b1, kp) what = (nI ev, ((w, sz, ev, n, g, L, t, x, y, z), b0, b1, kp)) from (by first | rfl | (simp only [opCount]; (repeat' split) <;> first | rfl | (exfalso; omega)))]; exact ⟨rfl, hR0⟩) rfl
  · refine j_tabIn C dX9_count_1 6 (rfl.trans h1) (by decide) (by decide) (97) rfl 98 (by decide) ?_
    rcases (show what.toInt.toNat = 5 ∨ what.toInt.toNat = 6 ∨ what.toInt.toNat = 7 by omega) with hK | hK | hK
    · refine j_lveq [(0, .ref (am 0)), (1, .int (nI (what.toInt.toNat)))] (by rw [← q_nn (i := what) (by omega)]) ?_
      refine j_lveq [(0, .ref (am 0)), (1, .int (nI 5))] (by rw [hK]) ?_
      refine j_aload_n C dX9_count_98 0 rfl 99 rfl ?_
      refine j_get C dX9_count_99 0 0 1 inX9_count_9 rfl rfl (by decide) rfl rfl rfl 102 rfl ?_
      refine j_sipush C dX9_count_102 (nI 1066) (by decide) 105 rfl ?_
      refine j_iload_n C dX9_count_105 1 rfl 106 rfl ?_
      refine j_iadd C dX9_count_106 (nI (1066 + 5)) (nI_add 1066 5) 107 rfl ?_
      refine j_iconst C dX9_count_107 (nI 5) (by decide) 108 rfl ?_
      refine j_isub C dX9_count_108 (nI 1066) rfl 109 rfl ?_
      refine j_ialdI C dX9_count_109 1 rfl (Nat.le_of_ble_eq_true rfl) (Nat.le_of_ble_eq_true rfl) (nI w) rfl 110 rfl ?_
      exact j_iret C dX9_count_110 ((w, sz, ev, n, f, L, b, x, y, z), im, kf, rf, bf, bm, lf, hf, ap, wr, wa, go) (by rw [show opCount ((w, sz, ev, n, g, L, t, x, y, z), b0, b1, kp) what = (nI w, ((w, sz, ev, n, g, L, t, x, y, z), b0, b1, kp)) from (by first | rfl | (simp only [opCount]; (repeat' split) <;> first | rfl | (exfalso; omega)))]; exact ⟨rfl, hR0⟩) rfl
    · refine j_lveq [(0, .ref (am 0)), (1, .int (nI (what.toInt.toNat)))] (by rw [← q_nn (i := what) (by omega)]) ?_
      refine j_lveq [(0, .ref (am 0)), (1, .int (nI 6))] (by rw [hK]) ?_
      refine j_aload_n C dX9_count_98 0 rfl 99 rfl ?_
      refine j_get C dX9_count_99 0 0 1 inX9_count_9 rfl rfl (by decide) rfl rfl rfl 102 rfl ?_
      refine j_sipush C dX9_count_102 (nI 1066) (by decide) 105 rfl ?_
      refine j_iload_n C dX9_count_105 1 rfl 106 rfl ?_
      refine j_iadd C dX9_count_106 (nI (1066 + 6)) (nI_add 1066 6) 107 rfl ?_
      refine j_iconst C dX9_count_107 (nI 5) (by decide) 108 rfl ?_
      refine j_isub C dX9_count_108 (nI 1067) rfl 109 rfl ?_
      refine j_ialdI C dX9_count_109 1 rfl (Nat.le_of_ble_eq_true rfl) (Nat.le_of_ble_eq_true rfl) (nI sz) rfl 110 rfl ?_
      exact j_iret C dX9_count_110 ((w, sz, ev, n, f, L, b, x, y, z), im, kf, rf, bf, bm, lf, hf, ap, wr, wa, go) (by rw [show opCount ((w, sz, ev, n, g, L, t, x, y, z), b0, b1, kp) what = (nI sz, ((w, sz, ev, n, g, L, t, x, y, z), b0, b1, kp)) from (by first | rfl | (simp only [opCount]; (repeat' split) <;> first | rfl | (exfalso; omega)))]; exact ⟨rfl, hR0⟩) rfl
    · refine j_lveq [(0, .ref (am 0)), (1, .int (nI (what.toInt.toNat)))] (by rw [← q_nn (i := what) (by omega)]) ?_
      refine j_lveq [(0, .ref (am 0)), (1, .int (nI 7))] (by rw [hK]) ?_
      refine j_aload_n C dX9_count_98 0 rfl 99 rfl ?_
      refine j_get C dX9_count_99 0 0 1 inX9_count_9 rfl rfl (by decide) rfl rfl rfl 102 rfl ?_
      refine j_sipush C dX9_count_102 (nI 1066) (by decide) 105 rfl ?_
      refine j_iload_n C dX9_count_105 1 rfl 106 rfl ?_
      refine j_iadd C dX9_count_106 (nI (1066 + 7)) (nI_add 1066 7) 107 rfl ?_
      refine j_iconst C dX9_count_107 (nI 5) (by decide) 108 rfl ?_
      refine j_isub C dX9_count_108 (nI 1068) rfl 109 rfl ?_
      refine j_ialdI C dX9_count_109 1 rfl (Nat.le_of_ble_eq_true rfl) (Nat.le_of_ble_eq_true rfl) (nI ev) rfl 110 rfl ?_
      exact j_iret C dX9_count_110 ((w, sz, ev, n, f, L, b, x, y, z), im, kf, rf, bf, bm, lf, hf, ap, wr, wa, go) (by rw [show opCount ((w, sz, ev, n, g, L, t, x, y, z), b0, b1, kp) what = (nI ev, ((w, sz, ev, n, g, L, t, x, y, z), b0, b1, kp)) from (by first | rfl | (simp only [opCount]; (repeat' split) <;> first | rfl | (exfalso; omega)))]; exact ⟨rfl, hR0⟩) rfl
  · refine j_tabIn C dX9_count_1 7 (rfl.trans h1) (by decide) (by decide) (97) rfl 98 (by decide) ?_
    rcases (show what.toInt.toNat = 5 ∨ what.toInt.toNat = 6 ∨ what.toInt.toNat = 7 by omega) with hK | hK | hK
    · refine j_lveq [(0, .ref (am 0)), (1, .int (nI (what.toInt.toNat)))] (by rw [← q_nn (i := what) (by omega)]) ?_
      refine j_lveq [(0, .ref (am 0)), (1, .int (nI 5))] (by rw [hK]) ?_
      refine j_aload_n C dX9_count_98 0 rfl 99 rfl ?_
      refine j_get C dX9_count_99 0 0 1 inX9_count_9 rfl rfl (by decide) rfl rfl rfl 102 rfl ?_
      refine j_sipush C dX9_count_102 (nI 1066) (by decide) 105 rfl ?_
      refine j_iload_n C dX9_count_105 1 rfl 106 rfl ?_
      refine j_iadd C dX9_count_106 (nI (1066 + 5)) (nI_add 1066 5) 107 rfl ?_
      refine j_iconst C dX9_count_107 (nI 5) (by decide) 108 rfl ?_
      refine j_isub C dX9_count_108 (nI 1066) rfl 109 rfl ?_
      refine j_ialdI C dX9_count_109 1 rfl (Nat.le_of_ble_eq_true rfl) (Nat.le_of_ble_eq_true rfl) (nI w) rfl 110 rfl ?_
      exact j_iret C dX9_count_110 ((w, sz, ev, n, f, L, b, x, y, z), im, kf, rf, bf, bm, lf, hf, ap, wr, wa, go) (by rw [show opCount ((w, sz, ev, n, g, L, t, x, y, z), b0, b1, kp) what = (nI w, ((w, sz, ev, n, g, L, t, x, y, z), b0, b1, kp)) from (by first | rfl | (simp only [opCount]; (repeat' split) <;> first | rfl | (exfalso; omega)))]; exact ⟨rfl, hR0⟩) rfl
    · refine j_lveq [(0, .ref (am 0)), (1, .int (nI (what.toInt.toNat)))] (by rw [← q_nn (i := what) (by omega)]) ?_
      refine j_lveq [(0, .ref (am 0)), (1, .int (nI 6))] (by rw [hK]) ?_
      refine j_aload_n C dX9_count_98 0 rfl 99 rfl ?_
      refine j_get C dX9_count_99 0 0 1 inX9_count_9 rfl rfl (by decide) rfl rfl rfl 102 rfl ?_
      refine j_sipush C dX9_count_102 (nI 1066) (by decide) 105 rfl ?_
      refine j_iload_n C dX9_count_105 1 rfl 106 rfl ?_
      refine j_iadd C dX9_count_106 (nI (1066 + 6)) (nI_add 1066 6) 107 rfl ?_
      refine j_iconst C dX9_count_107 (nI 5) (by decide) 108 rfl ?_
      refine j_isub C dX9_count_108 (nI 1067) rfl 109 rfl ?_
      refine j_ialdI C dX9_count_109 1 rfl (Nat.le_of_ble_eq_true rfl) (Nat.le_of_ble_eq_true rfl) (nI sz) rfl 110 rfl ?_
      exact j_iret C dX9_count_110 ((w, sz, ev, n, f, L, b, x, y, z), im, kf, rf, bf, bm, lf, hf, ap, wr, wa, go) (by rw [show opCount ((w, sz, ev, n, g, L, t, x, y, z), b0, b1, kp) what = (nI sz, ((w, sz, ev, n, g, L, t, x, y, z), b0, b1, kp)) from (by first | rfl | (simp only [opCount]; (repeat' split) <;> first | rfl | (exfalso; omega)))]; exact ⟨rfl, hR0⟩) rfl
    · refine j_lveq [(0, .ref (am 0)), (1, .int (nI (what.toInt.toNat)))] (by rw [← q_nn (i := what) (by omega)]) ?_
      refine j_lveq [(0, .ref (am 0)), (1, .int (nI 7))] (by rw [hK]) ?_
      refine j_aload_n C dX9_count_98 0 rfl 99 rfl ?_
      refine j_get C dX9_count_99 0 0 1 inX9_count_9 rfl rfl (by decide) rfl rfl rfl 102 rfl ?_
      refine j_sipush C dX9_count_102 (nI 1066) (by decide) 105 rfl ?_
      refine j_iload_n C dX9_count_105 1 rfl 106 rfl ?_
      refine j_iadd C dX9_count_106 (nI (1066 + 7)) (nI_add 1066 7) 107 rfl ?_
      refine j_iconst C dX9_count_107 (nI 5) (by decide) 108 rfl ?_
      refine j_isub C dX9_count_108 (nI 1068) rfl 109 rfl ?_
      refine j_ialdI C dX9_count_109 1 rfl (Nat.le_of_ble_eq_true rfl) (Nat.le_of_ble_eq_true rfl) (nI ev) rfl 110 rfl ?_
      exact j_iret C dX9_count_110 ((w, sz, ev, n, f, L, b, x, y, z), im, kf, rf, bf, bm, lf, hf, ap, wr, wa, go) (by rw [show opCount ((w, sz, ev, n, g, L, t, x, y, z), b0, b1, kp) what = (nI ev, ((w, sz, ev, n, g, L, t, x, y, z), b0, b1, kp)) from (by first | rfl | (simp only [opCount]; (repeat' split) <;> first | rfl | (exfalso; omega)))]; exact ⟨rfl, hR0⟩) rfl
  · refine j_tabIn C dX9_count_1 8 (rfl.trans h1) (by decide) (by decide) (110) rfl 111 (by decide) ?_
    refine j_aload_n C dX9_count_111 0 rfl 112 rfl ?_
    refine j_callVi (As := []) (rest := []) (wr := [(am 2, .inl (cI, 2144, .inl im)), (am 3, .inl (cZ, 2, .inl kf))]) C (c_X9_plainBlocks l D cI cZ cH (am 0) (am 1) (am 2) (am 3) (am 4) (am 5) bm (am 6) (am 7) ap wr wa go w sz ev n f L b x y z rf bf lf hf g hw hsz hev (by omega) hfg hg) gX9_count_X9_plainBlocks dX9_count_112 rfl yd_X9_plainBlocks (Nat.le_of_ble_eq_true rfl) (Nat.le_of_ble_eq_true rfl) rfl rfl rfl _ rfl (Nat.le_of_ble_eq_true rfl) (Nat.zero_le _) (Nat.zero_le _) [0, 1, 4, 5, 6, 7] [2, 3] rfl rfl rfl rfl rfl (by decide) [2, 3, 0, 1, 4, 5, 6, 7] (fun u9 => [(am 0, .inr (9, [.ref (am 1), .ref (am 2), .ref (am 3), .ref (am 4), .ref (am 5), .int (nI (u9.1)), .ref (am 6), .ref (am 7), .int (nI ap), .int (nI wr), .int (nI wa), .int (nI go)])), (am 1, .inl (cI, 1072, .inl (stA w sz ev n f L b x y z))), (am 2, .inl (cI, 2144, .inl im)), (am 3, .inl (cZ, 2, .inl kf)), (am 4, .inl (cI, 64, .inl (aN (upT f rf n)))), (am 5, .inl (cI, 1000, .inl (aN (u9.2.1)))), (am 6, .inl (cI, 65, .inl (aN (u9.2.2.1)))), (am 7, .inl (cI, 64, .inl (aN (u9.2.2.2))))]) (fun _ => rfl) (fun _ => rfl) rfl 115 rfl (fun r_112 u9 hpo112 => ?_)
    obtain ⟨bm29, bf29, lf29, hf29⟩ := u9
    replace hpo112 : (r_112 = nI (ctN (fun b => (chQ w sz ev g n b).2.2) 0 (nbk sz n))) ∧ MPI w sz ev g n (nbk sz n) hf29 lf29 bf29 bm29 ∧ lf29 (nbk sz n) = bm29 := hpo112
    show J D AX pX l eX _ sX mX _ bX methX cX 0 0 _ 2 [(am 0, .inr (9, [.ref (am 1), .ref (am 2), .ref (am 3), .ref (am 4), .ref (am 5), .int (nI bm29), .ref (am 6), .ref (am 7), .int (nI ap), .int (nI wr), .int (nI wa), .int (nI go)])), (am 1, .inl (cI, 1072, .inl (stA w sz ev n f L b x y z))), (am 2, .inl (cI, 2144, .inl im)), (am 3, .inl (cZ, 2, .inl kf)), (am 4, .inl (cI, 64, .inl (aN (upT f rf n)))), (am 5, .inl (cI, 1000, .inl (aN bf29))), (am 6, .inl (cI, 65, .inl (aN lf29))), (am 7, .inl (cI, 64, .inl (aN hf29)))] [(0, .ref (am 0)), (1, .int what)] 115 [.int r_112]
    refine j_top (nI (ctN (fun b => (chQ w sz ev g n b).2.2) 0 (nbk sz n))) hpo112.1 ?_
    exact j_iret C dX9_count_115 ((w, sz, ev, n, f, L, b, x, y, z), im, kf, upT f rf n, bf29, bm29, lf29, hf29, ap, wr, wa, go) (by rw [show opCount ((w, sz, ev, n, g, L, t, x, y, z), b0, b1, kp) what = (nI (ctN (fun b => (chQ w sz ev g n b).2.2) 0 (nbk sz n)), ((w, sz, ev, n, g, L, t, x, y, z), b0, b1, kp)) from (by first | rfl | (simp only [opCount]; (repeat' split) <;> first | rfl | (exfalso; omega)))]; exact ⟨rfl, hR0⟩) rfl
  · refine j_tabIn C dX9_count_1 9 (rfl.trans h1) (by decide) (by decide) (115) rfl 116 (by decide) ?_
    refine j_aload_n C dX9_count_116 0 rfl 117 rfl ?_
    refine j_get C dX9_count_117 0 2 2 inX9_count_9 rfl rfl (by decide) rfl rfl rfl 120 rfl ?_
    refine j_iconst C dX9_count_120 (nI 0) (by decide) 121 rfl ?_
    refine j_zald C dX9_count_121 3 rfl (by decide) (Nat.le_of_ble_eq_true rfl) (nI (kp % 2)) hk0 122 rfl ?_
    refine j_if_eq C dX9_count_122 129 (by decide) (q_t (by omega)) 125 rfl (fun h122 => ?_) (fun h122 => ?_)
    · refine j_iconst C dX9_count_129 (nI 0) (by decide) 130 rfl ?_
      refine j_aload_n C dX9_count_130 0 rfl 131 rfl ?_
      refine j_get C dX9_count_131 0 2 2 inX9_count_9 rfl rfl (by decide) rfl rfl rfl 134 rfl ?_
      refine j_iconst C dX9_count_134 (nI 1) (by decide) 135 rfl ?_
      refine j_zald C dX9_count_135 3 rfl (by decide) (Nat.le_of_ble_eq_true rfl) (nI (kp / 2 % 2)) hk1 136 rfl ?_
      refine j_if_eq C dX9_count_136 143 (by decide) (q_t (by omega)) 139 rfl (fun h136 => ?_) (fun h136 => ?_)
      · refine j_iconst C dX9_count_143 (nI 0) (by decide) 144 rfl ?_
        refine j_iadd C dX9_count_144 (nI (0 + 0)) (nI_add 0 0) 145 rfl ?_
        exact j_iret C dX9_count_145 ((w, sz, ev, n, f, L, b, x, y, z), im, kf, rf, bf, bm, lf, hf, ap, wr, wa, go) (by rw [show opCount ((w, sz, ev, n, g, L, t, x, y, z), b0, b1, kp) what = (nI (0 + 0), ((w, sz, ev, n, g, L, t, x, y, z), b0, b1, kp)) from (by simp only [opCount]; (repeat' split) <;> first | rfl | (exfalso; omega) | (refine Prod.ext ?_ rfl; show nI _ = nI _; congr 1; omega))]; exact ⟨rfl, hR0⟩) rfl
      · refine j_iconst C dX9_count_139 (nI 2) (by decide) 140 rfl ?_
        refine j_goto C dX9_count_140 144 (by decide) ?_
        refine j_iadd C dX9_count_144 (nI (0 + 2)) (nI_add 0 2) 145 rfl ?_
        exact j_iret C dX9_count_145 ((w, sz, ev, n, f, L, b, x, y, z), im, kf, rf, bf, bm, lf, hf, ap, wr, wa, go) (by rw [show opCount ((w, sz, ev, n, g, L, t, x, y, z), b0, b1, kp) what = (nI (0 + 2), ((w, sz, ev, n, g, L, t, x, y, z), b0, b1, kp)) from (by simp only [opCount]; (repeat' split) <;> first | rfl | (exfalso; omega) | (refine Prod.ext ?_ rfl; show nI _ = nI _; congr 1; omega))]; exact ⟨rfl, hR0⟩) rfl
    · refine j_iconst C dX9_count_125 (nI 1) (by decide) 126 rfl ?_
      refine j_goto C dX9_count_126 130 (by decide) ?_
      refine j_aload_n C dX9_count_130 0 rfl 131 rfl ?_
      refine j_get C dX9_count_131 0 2 2 inX9_count_9 rfl rfl (by decide) rfl rfl rfl 134 rfl ?_
      refine j_iconst C dX9_count_134 (nI 1) (by decide) 135 rfl ?_
      refine j_zald C dX9_count_135 3 rfl (by decide) (Nat.le_of_ble_eq_true rfl) (nI (kp / 2 % 2)) hk1 136 rfl ?_
      refine j_if_eq C dX9_count_136 143 (by decide) (q_t (by omega)) 139 rfl (fun h136 => ?_) (fun h136 => ?_)
      · refine j_iconst C dX9_count_143 (nI 0) (by decide) 144 rfl ?_
        refine j_iadd C dX9_count_144 (nI (1 + 0)) (nI_add 1 0) 145 rfl ?_
        exact j_iret C dX9_count_145 ((w, sz, ev, n, f, L, b, x, y, z), im, kf, rf, bf, bm, lf, hf, ap, wr, wa, go) (by rw [show opCount ((w, sz, ev, n, g, L, t, x, y, z), b0, b1, kp) what = (nI (1 + 0), ((w, sz, ev, n, g, L, t, x, y, z), b0, b1, kp)) from (by simp only [opCount]; (repeat' split) <;> first | rfl | (exfalso; omega) | (refine Prod.ext ?_ rfl; show nI _ = nI _; congr 1; omega))]; exact ⟨rfl, hR0⟩) rfl
      · refine j_iconst C dX9_count_139 (nI 2) (by decide) 140 rfl ?_
        refine j_goto C dX9_count_140 144 (by decide) ?_
        refine j_iadd C dX9_count_144 (nI (1 + 2)) (nI_add 1 2) 145 rfl ?_
        exact j_iret C dX9_count_145 ((w, sz, ev, n, f, L, b, x, y, z), im, kf, rf, bf, bm, lf, hf, ap, wr, wa, go) (by rw [show opCount ((w, sz, ev, n, g, L, t, x, y, z), b0, b1, kp) what = (nI (1 + 2), ((w, sz, ev, n, g, L, t, x, y, z), b0, b1, kp)) from (by simp only [opCount]; (repeat' split) <;> first | rfl | (exfalso; omega) | (refine Prod.ext ?_ rfl; show nI _ = nI _; congr 1; omega))]; exact ⟨rfl, hR0⟩) rfl
  · refine j_tabOut C dX9_count_1 ((what).toInt) rfl h1 146 (by decide) ?_
    refine j_bipush C dX9_count_146 (-2) (by decide) 148 rfl ?_
    exact j_iret C dX9_count_148 ((w, sz, ev, n, f, L, b, x, y, z), im, kf, rf, bf, bm, lf, hf, ap, wr, wa, go) (by rw [show opCount ((w, sz, ev, n, g, L, t, x, y, z), b0, b1, kp) what = (-2, ((w, sz, ev, n, g, L, t, x, y, z), b0, b1, kp)) from (by first | rfl | (simp only [opCount]; (repeat' split) <;> first | rfl | (exfalso; omega)))]; exact ⟨rfl, hR0⟩) rfl
