set_option maxHeartbeats 4000000 in
set_option maxRecDepth 100000 in
theorem c_X5_fail (l : Launch) (D : va_G) (cI cZ cH : ClassId) (d vo vu va ax i : Nat) (x : Nat) (y z : Int32) (num pl : Nat)  : Mi l D cI cZ cH yX5_fail wsX5_fail 0 0 [.ref d, .int (nI num), .int (nI pl)] [(d, .inr (5, [.ref vo, .ref vu, .int (nI ax)])), (vo, .inr (6, [.ref va, .int (nI i)])), (vu, .inr (1, [.int (nI x), .int y, .int z]))] (fun (r9 : Int32) (_ : Unit) => r9 = -6) (fun (_ : Unit) => [(d, .inr (5, [.ref vo, .ref vu, .int (nI ax)])), (vo, .inr (6, [.ref va, .int (nI i)])), (vu, .inr (1, [.int (nI num), .int (nI pl), .int (nI i)]))]) := by
  refine Mi.start (cc := cX5_fail) (nL := 3) (ret := (some .int)) (lv0 := [(0, .ref d), (1, .int (nI num)), (2, .int (nI pl))]) (by decide) rfl (Nat.le_of_ble_eq_true rfl) rfl ?_
  intro pX eX sX mX bX methX cX AX C
  refine j_aload_n C dX5_fail_0 0 rfl 1 rfl ?_
  refine j_get C dX5_fail_1 0 1 1 inX5_fail_5 rfl rfl (by decide) rfl rfl rfl 4 rfl ?_
  refine j_iload_n C dX5_fail_4 1 rfl 5 rfl ?_
  refine j_put C dX5_fail_5 2 0 2 inX5_fail_1 tyX1 tyX1_ok nmX1 rfl rfl (by decide) rfl rfl rfl rfl rfl (Nat.le_of_ble_eq_true rfl) [(d, .inr (5, [.ref vo, .ref vu, .int (nI ax)])), (vo, .inr (6, [.ref va, .int (nI i)])), (vu, .inr (1, [.int (nI num), .int y, .int z]))] rfl 8 rfl ?_
  refine j_aload_n C dX5_fail_8 0 rfl 9 rfl ?_
  refine j_get C dX5_fail_9 0 1 1 inX5_fail_5 rfl rfl (by decide) rfl rfl rfl 12 rfl ?_
  refine j_iload_n C dX5_fail_12 2 rfl 13 rfl ?_
  refine j_put C dX5_fail_13 2 1 3 inX5_fail_1 tyX1 tyX1_ok nmX1 rfl rfl (by decide) rfl rfl rfl rfl rfl (Nat.le_of_ble_eq_true rfl) [(d, .inr (5, [.ref vo, .ref vu, .int (nI ax)])), (vo, .inr (6, [.ref va, .int (nI i)])), (vu, .inr (1, [.int (nI num), .int (nI pl), .int z]))] rfl 16 rfl ?_
  refine j_aload_n C dX5_fail_16 0 rfl 17 rfl ?_
  refine j_get C dX5_fail_17 0 1 1 inX5_fail_5 rfl rfl (by decide) rfl rfl rfl 20 rfl ?_
  refine j_aload_n C dX5_fail_20 0 rfl 21 rfl ?_
  refine j_get C dX5_fail_21 0 0 4 inX5_fail_5 rfl rfl (by decide) rfl rfl rfl 24 rfl ?_
  refine j_get C dX5_fail_24 1 1 5 inX5_fail_6 rfl rfl (by decide) rfl rfl rfl 27 rfl ?_
  refine j_put C dX5_fail_27 2 2 6 inX5_fail_1 tyX1 tyX1_ok nmX1 rfl rfl (by decide) rfl rfl rfl rfl rfl (Nat.le_of_ble_eq_true rfl) [(d, .inr (5, [.ref vo, .ref vu, .int (nI ax)])), (vo, .inr (6, [.ref va, .int (nI i)])), (vu, .inr (1, [.int (nI num), .int (nI pl), .int (nI i)]))] rfl 30 rfl ?_
  refine j_bipush C dX5_fail_30 (-6) (by decide) 32 rfl ?_
  exact j_iret C dX5_fail_32 () rfl rfl
set_option maxHeartbeats 4000000 in
set_option maxRecDepth 100000 in
theorem c_X5_tnOk (l : Launch) (D : va_G) (cI cZ cH : ClassId) (d vo vu ax ob ta L : Nat) (tf t : Nat → Nat) (wd : Nat) (hL : L ≤ 1000) (hft : ∀ j, j < L → tf j = t j) (hok : ax + wd ≤ L) (hwd : wd ≤ 8) : Mi l D cI cZ cH yX5_takeNumber wsX5_takeNumber 1 21 [.ref d, .ref ob, .int (nI wd)] [(d, .inr (5, [.ref vo, .ref vu, .int (nI ax)])), (ob, .inr (0, [.ref ta, .int (nI L)])), (ta, .inl (cI, 1000, .inl (aN tf)))] (fun (r9 : Int32) (_ : Unit) => r9 = nI (rn t ax wd)) (fun (_ : Unit) => [(d, .inr (5, [.ref vo, .ref vu, .int (nI (ax + wd))])), (ob, .inr (0, [.ref ta, .int (nI L)])), (ta, .inl (cI, 1000, .inl (aN tf)))]) := by
  refine Mi.start (cc := cX5_takeNumber) (nL := 5) (ret := (some .int)) (lv0 := [(0, .ref d), (1, .ref ob), (2, .int (nI wd))]) (by decide) rfl (Nat.le_of_ble_eq_true rfl) rfl ?_
  intro pX eX sX mX bX methX cX AX C
  refine j_iload_n C dX5_takeNumber_0 2 rfl 1 rfl ?_
  refine j_aload_n C dX5_takeNumber_1 1 rfl 2 rfl ?_
  refine j_get C dX5_takeNumber_2 1 1 1 inX5_takeNumber_0 rfl rfl (by decide) rfl rfl rfl 5 rfl ?_
  refine j_aload_n C dX5_takeNumber_5 0 rfl 6 rfl ?_
  refine j_get C dX5_takeNumber_6 0 2 2 inX5_takeNumber_5 rfl rfl (by decide) rfl rfl rfl 9 rfl ?_
  refine j_isub C dX5_takeNumber_9 (nI (L - ax)) (pk_sub (by omega)) 10 rfl ?_
  refine j_icmp_le C dX5_takeNumber_10 23 (by decide) (q_t (by omega)) (q_t (by omega)) 13 rfl (fun h10 => ?_) (fun h9 => by exfalso; omega)
  refine j_iconst C dX5_takeNumber_23 (nI 0) (by decide) 24 rfl ?_
  refine j_istore_n C dX5_takeNumber_24 [(3, .int (nI 0)), (0, .ref d), (1, .ref ob), (2, .int (nI wd))] (by decide) rfl 25 rfl ?_
  refine j_iconst C dX5_takeNumber_25 (nI 0) (by decide) 26 rfl ?_
  refine j_istore C dX5_takeNumber_26 [(4, .int (nI 0)), (3, .int (nI 0)), (0, .ref d), (1, .ref ob), (2, .int (nI wd))] (by decide) rfl 28 rfl ?_
  refine j_loop2 (fun (m : Nat) (acc : Nat) => m ≤ wd ∧ acc = rn t ax m) (fun (m : Nat) (acc : Nat) => wd - m) (fun (m : Nat) (acc : Nat) => [(d, .inr (5, [.ref vo, .ref vu, .int (nI ax)])), (ob, .inr (0, [.ref ta, .int (nI L)])), (ta, .inl (cI, 1000, .inl (aN tf)))]) (fun (m : Nat) (acc : Nat) => [(4, .int (nI m)), (3, .int (nI acc)), (0, .ref d), (1, .ref ob), (2, .int (nI wd))]) ?_ 0 0 ⟨by omega, rfl⟩ rfl rfl
  intro m acc hI28 ih28
  obtain ⟨hm, hacc⟩ := hI28
  show J D AX pX l eX _ sX mX _ bX methX cX 0 0 _ 5 [(d, .inr (5, [.ref vo, .ref vu, .int (nI ax)])), (ob, .inr (0, [.ref ta, .int (nI L)])), (ta, .inl (cI, 1000, .inl (aN tf)))] [(4, .int (nI m)), (3, .int (nI acc)), (0, .ref d), (1, .ref ob), (2, .int (nI wd))] 28 []
  refine j_iload C dX5_takeNumber_28 0 rfl 30 rfl ?_
  refine j_iload_n C dX5_takeNumber_30 4 rfl 31 rfl ?_
  refine j_icmp_ge C dX5_takeNumber_31 56 (by decide) (q_t (by omega)) (q_t (by omega)) 34 rfl (fun h31 => ?_) (fun h31 => ?_)
  · refine j_aload_n C dX5_takeNumber_56 2 rfl 57 rfl ?_
    refine j_dup C dX5_takeNumber_57 rfl 58 rfl ?_
    refine j_get C dX5_takeNumber_58 0 2 2 inX5_takeNumber_5 rfl rfl (by decide) rfl rfl rfl 61 rfl ?_
    refine j_iload_n C dX5_takeNumber_61 4 rfl 62 rfl ?_
    refine j_iadd C dX5_takeNumber_62 (nI (ax + wd)) (nI_add ax wd) 63 rfl ?_
    refine j_put C dX5_takeNumber_63 0 2 2 inX5_takeNumber_5 tyX5 tyX5_ok nmX5 rfl rfl (by decide) rfl rfl rfl rfl rfl (Nat.le_of_ble_eq_true rfl) [(d, .inr (5, [.ref vo, .ref vu, .int (nI (ax + wd))])), (ob, .inr (0, [.ref ta, .int (nI L)])), (ta, .inl (cI, 1000, .inl (aN tf)))] rfl 66 rfl ?_
    refine j_iload_n C dX5_takeNumber_66 1 rfl 67 rfl ?_
    exact j_iret C dX5_takeNumber_67 () (show (nI acc : Int32) = nI (rn t ax wd) from by rw [hacc, show m = wd by omega]) rfl
  · refine j_iconst C dX5_takeNumber_34 (nI 2) (by decide) 35 rfl ?_
    refine j_iload_n C dX5_takeNumber_35 1 rfl 36 rfl ?_
    refine j_imul C dX5_takeNumber_36 (nI (2 * acc)) (pk_mul 2 acc) 37 rfl ?_
    refine j_aload_n C dX5_takeNumber_37 3 rfl 38 rfl ?_
    refine j_aload_n C dX5_takeNumber_38 2 rfl 39 rfl ?_
    refine j_get C dX5_takeNumber_39 0 2 2 inX5_takeNumber_5 rfl rfl (by decide) rfl rfl rfl 42 rfl ?_
    refine j_iload C dX5_takeNumber_42 0 rfl 44 rfl ?_
    refine j_iadd C dX5_takeNumber_44 (nI (ax + m)) (nI_add ax m) 45 rfl ?_
    refine j_callVi1 (As := [.int (nI (ax + m))]) (rest := [.int (nI (2 * acc))]) (wr := [(d, .inr (5, [.ref vo, .ref vu, .int (nI ax)]))]) C (c_X0_atN l D cI cZ cH ob ta L tf t (ax + m) (by omega) hft (by omega)) gX5_takeNumber_X0_at dX5_takeNumber_45 rfl yd_X0_at (Nat.le_of_ble_eq_true rfl) (Nat.le_of_ble_eq_true rfl) rfl rfl rfl _ rfl (Nat.le_of_ble_eq_true rfl) (Nat.zero_le _) (Nat.zero_le _) [1, 2] [0] rfl rfl rfl rfl rfl (by decide) [0, 1, 2] [(d, .inr (5, [.ref vo, .ref vu, .int (nI ax)])), (ob, .inr (0, [.ref ta, .int (nI L)])), (ta, .inl (cI, 1000, .inl (aN tf)))] rfl rfl rfl 48 rfl ?_
    refine j_iadd C dX5_takeNumber_48 (nI (2 * acc + (t (ax + m)))) (nI_add (2 * acc) (t (ax + m))) 49 rfl ?_
    refine j_istore_n C dX5_takeNumber_49 [(3, .int (nI (2 * acc + (t (ax + m))))), (4, .int (nI m)), (0, .ref d), (1, .ref ob), (2, .int (nI wd))] (by decide) rfl 50 rfl ?_
    refine j_iinc C dX5_takeNumber_50 1 rfl (nI (m + 1)) (nI_1 (m)) [(4, .int (nI (m + 1))), (3, .int (nI (2 * acc + (t (ax + m))))), (0, .ref d), (1, .ref ob), (2, .int (nI wd))] (by decide) rfl 53 rfl ?_
    refine j_goto C dX5_takeNumber_53 28 (by decide) ?_
    exact ih28 (m + 1) (2 * acc + (t (ax + m))) ⟨by omega, by rw [hacc]; rfl⟩ (by omega)
set_option maxHeartbeats 4000000 in
set_option maxRecDepth 100000 in
theorem c_X5_tnNo (l : Launch) (D : va_G) (cI cZ cH : ClassId) (d vo vu va ax i : Nat) (y z : Int32) (ob ta L : Nat) (wd : Nat) (hL : L ≤ 1000) (hax : ax ≤ L) (hno : L < ax + wd) (hwd : wd ≤ 8) : Mi l D cI cZ cH yX5_takeNumber wsX5_takeNumber 1 22 [.ref d, .ref ob, .int (nI wd)] [(d, .inr (5, [.ref vo, .ref vu, .int (nI ax)])), (vo, .inr (6, [.ref va, .int (nI i)])), (vu, .inr (1, [.int (nI 0), .int y, .int z])), (ob, .inr (0, [.ref ta, .int (nI L)]))] (fun (r9 : Int32) (_ : Unit) => r9 = -6) (fun (_ : Unit) => [(d, .inr (5, [.ref vo, .ref vu, .int (nI ax)])), (vo, .inr (6, [.ref va, .int (nI i)])), (vu, .inr (1, [.int (nI 1), .int (nI L), .int (nI i)])), (ob, .inr (0, [.ref ta, .int (nI L)]))]) := by
  refine Mi.start (cc := cX5_takeNumber) (nL := 5) (ret := (some .int)) (lv0 := [(0, .ref d), (1, .ref ob), (2, .int (nI wd))]) (by decide) rfl (Nat.le_of_ble_eq_true rfl) rfl ?_
  intro pX eX sX mX bX methX cX AX C
  refine j_iload_n C dX5_takeNumber_0 2 rfl 1 rfl ?_
  refine j_aload_n C dX5_takeNumber_1 1 rfl 2 rfl ?_
  refine j_get C dX5_takeNumber_2 3 1 1 inX5_takeNumber_0 rfl rfl (by decide) rfl rfl rfl 5 rfl ?_
  refine j_aload_n C dX5_takeNumber_5 0 rfl 6 rfl ?_
  refine j_get C dX5_takeNumber_6 0 2 2 inX5_takeNumber_5 rfl rfl (by decide) rfl rfl rfl 9 rfl ?_
  refine j_isub C dX5_takeNumber_9 (nI (L - ax)) (pk_sub (by omega)) 10 rfl ?_
  refine j_icmp_le C dX5_takeNumber_10 23 (by decide) (q_t (by omega)) (q_t (by omega)) 13 rfl (fun h9 => by exfalso; omega) (fun h10 => ?_)
  refine j_aload_n C dX5_takeNumber_13 0 rfl 14 rfl ?_
  refine j_iconst C dX5_takeNumber_14 (nI 1) (by decide) 15 rfl ?_
  refine j_aload_n C dX5_takeNumber_15 1 rfl 16 rfl ?_
  refine j_get C dX5_takeNumber_16 3 1 1 inX5_takeNumber_0 rfl rfl (by decide) rfl rfl rfl 19 rfl ?_
  refine j_callVi1 (As := [.int (nI 1), .int (nI L)]) (rest := []) (wr := [(ob, .inr (0, [.ref ta, .int (nI L)]))]) C (c_X5_fail l D cI cZ cH d vo vu va ax i 0 y z 1 L ) gX5_takeNumber_X5_fail dX5_takeNumber_19 rfl yd_X5_fail (Nat.le_of_ble_eq_true rfl) (Nat.le_of_ble_eq_true rfl) rfl rfl rfl _ rfl (Nat.le_of_ble_eq_true rfl) (Nat.zero_le _) (Nat.zero_le _) [0, 1, 2] [3] rfl rfl rfl rfl rfl (by decide) [1, 2, 3, 0] [(d, .inr (5, [.ref vo, .ref vu, .int (nI ax)])), (vo, .inr (6, [.ref va, .int (nI i)])), (vu, .inr (1, [.int (nI 1), .int (nI L), .int (nI i)])), (ob, .inr (0, [.ref ta, .int (nI L)]))] rfl rfl rfl 22 rfl ?_
  exact j_iret C dX5_takeNumber_22 () rfl rfl
set_option maxHeartbeats 4000000 in
set_option maxRecDepth 100000 in
theorem c_X5_nouOk (l : Launch) (D : va_G) (cI cZ cH : ClassId) (d vo vu va ax i : Nat) (y z : Int32) (ob ta L : Nat) (tf t : Nat → Nat) (w k : Nat) (hw : 2 ≤ w ∧ w ≤ 8) (hk : k ≤ 7) (hL : L ≤ 1000) (hft : ∀ j, j < L → tf j = t j) (hax : ax ≤ L) (ht1 : ∀ j, j < L → t j ≤ 1) (hok : (rnou t L w ax k).1 = 0) : Mi l D cI cZ cH yX5_takeByNoughts wsX5_takeByNoughts 2 46 [.ref d, .ref ob, .int (nI w), .int (nI k)] [(d, .inr (5, [.ref vo, .ref vu, .int (nI ax)])), (vo, .inr (6, [.ref va, .int (nI i)])), (vu, .inr (1, [.int (nI 0), .int y, .int z])), (ob, .inr (0, [.ref ta, .int (nI L)])), (ta, .inl (cI, 1000, .inl (aN tf)))] (fun (r9 : Int32) (_ : Unit) => r9 = nI ((rnou t L w ax k).2.1)) (fun (_ : Unit) => [(d, .inr (5, [.ref vo, .ref vu, .int (nI ((rnou t L w ax k).2.2))])), (vo, .inr (6, [.ref va, .int (nI i)])), (vu, .inr (1, [.int (nI 0), .int y, .int z])), (ob, .inr (0, [.ref ta, .int (nI L)])), (ta, .inl (cI, 1000, .inl (aN tf)))]) := by
  refine Mi.start (cc := cX5_takeByNoughts) (nL := 7) (ret := (some .int)) (lv0 := [(0, .ref d), (1, .ref ob), (2, .int (nI w)), (3, .int (nI k))]) (by decide) rfl (Nat.le_of_ble_eq_true rfl) rfl ?_
  intro pX eX sX mX bX methX cX AX C
  have h2w := tpW_le hw.2
  obtain ⟨mo, hmo⟩ : ∃ q, q = tpW w / 2 ^ k := ⟨_, rfl⟩
  have hmo2 : mo ≤ 255 := by rw [hmo]; exact Nat.le_trans (Nat.div_le_self _ _) h2w
  refine j_iload_n C dX5_takeByNoughts_0 2 rfl 1 rfl ?_
  refine j_callNi1 (As := [.int (nI w)]) (rest := []) (wr := [(d, .inr (5, [.ref vo, .ref vu, .int (nI ax)])), (vo, .inr (6, [.ref va, .int (nI i)])), (vu, .inr (1, [.int (nI 0), .int y, .int z])), (ob, .inr (0, [.ref ta, .int (nI L)])), (ta, .inl (cI, 1000, .inl (aN tf)))]) C (c_X8_topOf l D cI cZ cH w (by omega)) gX5_takeByNoughts_X8_topOf_n65 17 rfl 4 5 rfl rfl dX5_takeByNoughts_1 rfl yd_X8_topOf.2 (Nat.le_of_ble_eq_true rfl) (Nat.le_of_ble_eq_true rfl) rfl _ rfl (Nat.le_of_ble_eq_true rfl) (Nat.zero_le _) (Nat.zero_le _) [] [0, 1, 2, 3, 4] rfl rfl rfl rfl rfl (by decide) [0, 1, 2, 3, 4] [(d, .inr (5, [.ref vo, .ref vu, .int (nI ax)])), (vo, .inr (6, [.ref va, .int (nI i)])), (vu, .inr (1, [.int (nI 0), .int y, .int z])), (ob, .inr (0, [.ref ta, .int (nI L)])), (ta, .inl (cI, 1000, .inl (aN tf)))] rfl rfl rfl 4 rfl ?_
  refine j_iload_n C dX5_takeByNoughts_4 3 rfl 5 rfl ?_
  refine j_ishr C dX5_takeByNoughts_5 (nI (tpW w / 2 ^ k)) (q_shr (by omega) (by omega)) 6 rfl ?_
  have hshr5 := Nat.div_le_self (tpW w) (2 ^ k)
  refine j_top (nI mo) (by rw [hmo]) ?_
  refine j_istore C dX5_takeByNoughts_6 [(4, .int (nI mo)), (0, .ref d), (1, .ref ob), (2, .int (nI w)), (3, .int (nI k))] (by decide) rfl 8 rfl ?_
  refine j_iconst C dX5_takeByNoughts_8 (nI 0) (by decide) 9 rfl ?_
  refine j_istore C dX5_takeByNoughts_9 [(5, .int (nI 0)), (4, .int (nI mo)), (0, .ref d), (1, .ref ob), (2, .int (nI w)), (3, .int (nI k))] (by decide) rfl 11 rfl ?_
  refine j_loop1 (fun (m : Nat) => m ≤ mo + 1 ∧ ax + m ≤ L ∧ zc t L (mo + 1) ax = m + zc t L (mo + 1 - m) (ax + m)) (fun (m : Nat) => mo + 2 - m) (fun (m : Nat) => [(d, .inr (5, [.ref vo, .ref vu, .int (nI ax)])), (vo, .inr (6, [.ref va, .int (nI i)])), (vu, .inr (1, [.int (nI 0), .int y, .int z])), (ob, .inr (0, [.ref ta, .int (nI L)])), (ta, .inl (cI, 1000, .inl (aN tf)))]) (fun (m : Nat) => [(5, .int (nI m)), (4, .int (nI mo)), (0, .ref d), (1, .ref ob), (2, .int (nI w)), (3, .int (nI k))]) ?_ 0 ⟨by omega, by omega, by simp⟩ rfl rfl
  intro m hI11 ih11
  obtain ⟨hm, hml, hzc⟩ := hI11
  show J D AX pX l eX _ sX mX _ bX methX cX 0 0 _ 7 [(d, .inr (5, [.ref vo, .ref vu, .int (nI ax)])), (vo, .inr (6, [.ref va, .int (nI i)])), (vu, .inr (1, [.int (nI 0), .int y, .int z])), (ob, .inr (0, [.ref ta, .int (nI L)])), (ta, .inl (cI, 1000, .inl (aN tf)))] [(5, .int (nI m)), (4, .int (nI mo)), (0, .ref d), (1, .ref ob), (2, .int (nI w)), (3, .int (nI k))] 11 []
  refine j_iload C dX5_takeByNoughts_11 0 rfl 13 rfl ?_
  refine j_iload C dX5_takeByNoughts_13 1 rfl 15 rfl ?_
  refine j_icmp_gt C dX5_takeByNoughts_15 38 (by decide) (q_t (by omega)) (q_t (by omega)) 18 rfl (fun h15 => ?_) (fun h15 => ?_)
  · have hz : zc t L (mo + 1) ax = m := by rw [hzc, show mo + 1 - m = 0 by omega]; rfl
    have hz2 : zc t L (tpW w / 2 ^ k + 1) ax = m := by rw [← hmo]; exact hz
    have hrr := rnou_3 (w := w) hz2 (by rw [← hmo]; omega)
    refine j_iload C dX5_takeByNoughts_38 0 rfl 40 rfl ?_
    refine j_iload C dX5_takeByNoughts_40 1 rfl 42 rfl ?_
    refine j_icmp_le C dX5_takeByNoughts_42 55 (by decide) (q_t (by omega)) (q_t (by omega)) 45 rfl (fun h9 => by exfalso; omega) (fun h42 => ?_)
    refine j_aload_n C dX5_takeByNoughts_45 2 rfl 46 rfl ?_
    refine j_iconst C dX5_takeByNoughts_46 (nI 3) (by decide) 47 rfl ?_
    refine j_aload_n C dX5_takeByNoughts_47 2 rfl 48 rfl ?_
    refine j_get C dX5_takeByNoughts_48 0 2 1 inX5_takeByNoughts_5 rfl rfl (by decide) rfl rfl rfl 51 rfl ?_
    refine j_callVi1 (As := [.int (nI 3), .int (nI ax)]) (rest := []) (wr := [(ob, .inr (0, [.ref ta, .int (nI L)])), (ta, .inl (cI, 1000, .inl (aN tf)))]) C (c_X5_fail l D cI cZ cH d vo vu va ax i 0 y z 3 ax ) gX5_takeByNoughts_X5_fail dX5_takeByNoughts_51 rfl yd_X5_fail (Nat.le_of_ble_eq_true rfl) (Nat.le_of_ble_eq_true rfl) rfl rfl rfl _ rfl (Nat.le_of_ble_eq_true rfl) (Nat.zero_le _) (Nat.zero_le _) [0, 1, 2] [3, 4] rfl rfl rfl rfl rfl (by decide) [2, 3, 4, 0, 1] [(d, .inr (5, [.ref vo, .ref vu, .int (nI ax)])), (vo, .inr (6, [.ref va, .int (nI i)])), (vu, .inr (1, [.int (nI 3), .int (nI ax), .int (nI i)])), (ob, .inr (0, [.ref ta, .int (nI L)])), (ta, .inl (cI, 1000, .inl (aN tf)))] rfl rfl rfl 54 rfl ?_
    exact j_iret C dX5_takeByNoughts_54 () (by exfalso; rw [hrr] at hok; simp at hok) (by exfalso; rw [hrr] at hok; simp at hok)
  · refine j_aload_n C dX5_takeByNoughts_18 3 rfl 19 rfl ?_
    refine j_aload_n C dX5_takeByNoughts_19 2 rfl 20 rfl ?_
    refine j_get C dX5_takeByNoughts_20 0 2 1 inX5_takeByNoughts_5 rfl rfl (by decide) rfl rfl rfl 23 rfl ?_
    refine j_iload C dX5_takeByNoughts_23 0 rfl 25 rfl ?_
    refine j_iadd C dX5_takeByNoughts_25 (nI (ax + m)) (nI_add ax m) 26 rfl ?_
    rcases Nat.lt_or_ge (ax + m) L with h26 | h26
    · refine j_callVi1 (As := [.int (nI (ax + m))]) (rest := []) (wr := [(d, .inr (5, [.ref vo, .ref vu, .int (nI ax)])), (vo, .inr (6, [.ref va, .int (nI i)])), (vu, .inr (1, [.int (nI 0), .int y, .int z]))]) C (c_X0_atN l D cI cZ cH ob ta L tf t (ax + m) (by omega) hft (by omega)) gX5_takeByNoughts_X0_at dX5_takeByNoughts_26 rfl yd_X0_at (Nat.le_of_ble_eq_true rfl) (Nat.le_of_ble_eq_true rfl) rfl rfl rfl _ rfl (Nat.le_of_ble_eq_true rfl) (Nat.zero_le _) (Nat.zero_le _) [3, 4] [0, 1, 2] rfl rfl rfl rfl rfl (by decide) [0, 1, 2, 3, 4] [(d, .inr (5, [.ref vo, .ref vu, .int (nI ax)])), (vo, .inr (6, [.ref va, .int (nI i)])), (vu, .inr (1, [.int (nI 0), .int y, .int z])), (ob, .inr (0, [.ref ta, .int (nI L)])), (ta, .inl (cI, 1000, .inl (aN tf)))] rfl rfl rfl 29 rfl ?_
      have hti : t (ax + m) < 2 ^ 31 := by have := ht1 _ h26; omega
      refine j_if_ne C dX5_takeByNoughts_29 38 (by decide) (q_t (by omega)) 32 rfl (fun h29 => ?_) (fun h29 => ?_)
      · have hz : zc t L (mo + 1) ax = m := by rw [hzc, zc_stop (by omega)]; rfl
        have hz2 : zc t L (tpW w / 2 ^ k + 1) ax = m := by rw [← hmo]; exact hz
        have hm2 : m * 2 ^ k ≤ 256 * 2 ^ 7 := Nat.mul_le_mul (by omega) (Nat.pow_le_pow_right (by decide) hk)
        refine j_iload C dX5_takeByNoughts_38 0 rfl 40 rfl ?_
        refine j_iload C dX5_takeByNoughts_40 1 rfl 42 rfl ?_
        refine j_icmp_le C dX5_takeByNoughts_42 55 (by decide) (q_t (by omega)) (q_t (by omega)) 45 rfl (fun h42 => ?_) (fun h9 => by exfalso; omega)
        refine j_aload_n C dX5_takeByNoughts_55 3 rfl 56 rfl ?_
        refine j_aload_n C dX5_takeByNoughts_56 2 rfl 57 rfl ?_
        refine j_get C dX5_takeByNoughts_57 0 2 1 inX5_takeByNoughts_5 rfl rfl (by decide) rfl rfl rfl 60 rfl ?_
        refine j_iload C dX5_takeByNoughts_60 0 rfl 62 rfl ?_
        refine j_iadd C dX5_takeByNoughts_62 (nI (ax + m)) (nI_add ax m) 63 rfl ?_
        refine j_callVi1 (As := [.int (nI (ax + m))]) (rest := []) (wr := [(d, .inr (5, [.ref vo, .ref vu, .int (nI ax)])), (vo, .inr (6, [.ref va, .int (nI i)])), (vu, .inr (1, [.int (nI 0), .int y, .int z]))]) C (c_X0_hasN l D cI cZ cH ob ta L tf (ax + m) (by omega) (by omega)) gX5_takeByNoughts_X0_has dX5_takeByNoughts_63 rfl yd_X0_has (Nat.le_of_ble_eq_true rfl) (Nat.le_of_ble_eq_true rfl) rfl rfl rfl _ rfl (Nat.le_of_ble_eq_true rfl) (Nat.zero_le _) (Nat.zero_le _) [3, 4] [0, 1, 2] rfl rfl rfl rfl rfl (by decide) [0, 1, 2, 3, 4] [(d, .inr (5, [.ref vo, .ref vu, .int (nI ax)])), (vo, .inr (6, [.ref va, .int (nI i)])), (vu, .inr (1, [.int (nI 0), .int y, .int z])), (ob, .inr (0, [.ref ta, .int (nI L)])), (ta, .inl (cI, 1000, .inl (aN tf)))] rfl rfl rfl 66 rfl ?_
        refine j_ifb_ne C dX5_takeByNoughts_66 79 (by decide) 69 rfl (fun h66 => ?_) (fun h9 => by exfalso; omega)
        refine j_aload_n C dX5_takeByNoughts_79 2 rfl 80 rfl ?_
        refine j_dup C dX5_takeByNoughts_80 rfl 81 rfl ?_
        refine j_get C dX5_takeByNoughts_81 0 2 1 inX5_takeByNoughts_5 rfl rfl (by decide) rfl rfl rfl 84 rfl ?_
        refine j_iload C dX5_takeByNoughts_84 0 rfl 86 rfl ?_
        refine j_iconst C dX5_takeByNoughts_86 (nI 1) (by decide) 87 rfl ?_
        refine j_iadd C dX5_takeByNoughts_87 (nI (m + 1)) (nI_add m 1) 88 rfl ?_
        refine j_iadd C dX5_takeByNoughts_88 (nI (ax + (m + 1))) (nI_add ax (m + 1)) 89 rfl ?_
        refine j_put C dX5_takeByNoughts_89 0 2 1 inX5_takeByNoughts_5 tyX5 tyX5_ok nmX5 rfl rfl (by decide) rfl rfl rfl rfl rfl (Nat.le_of_ble_eq_true rfl) [(d, .inr (5, [.ref vo, .ref vu, .int (nI (ax + (m + 1)))])), (vo, .inr (6, [.ref va, .int (nI i)])), (vu, .inr (1, [.int (nI 0), .int y, .int z])), (ob, .inr (0, [.ref ta, .int (nI L)])), (ta, .inl (cI, 1000, .inl (aN tf)))] rfl 92 rfl ?_
        refine j_aload_n C dX5_takeByNoughts_92 2 rfl 93 rfl ?_
        refine j_aload_n C dX5_takeByNoughts_93 3 rfl 94 rfl ?_
        refine j_iload_n C dX5_takeByNoughts_94 5 rfl 95 rfl ?_
        rcases Nat.lt_or_ge L (ax + (m + 1) + k) with h95 | h95
        · refine j_callVi1 (As := [.ref ob, .int (nI k)]) (rest := []) (wr := [(ta, .inl (cI, 1000, .inl (aN tf)))]) C (c_X5_tnNo l D cI cZ cH d vo vu va (ax + (m + 1)) i y z ob ta L k (by omega) (by omega) (by omega) (by omega)) gX5_takeByNoughts_X5_takeNumber dX5_takeByNoughts_95 rfl yd_X5_takeNumber (Nat.le_of_ble_eq_true rfl) (Nat.le_of_ble_eq_true rfl) rfl rfl rfl _ rfl (Nat.le_of_ble_eq_true rfl) (Nat.zero_le _) (Nat.zero_le _) [0, 1, 2, 3] [4] rfl rfl rfl rfl rfl (by decide) [1, 2, 3, 4, 0] [(d, .inr (5, [.ref vo, .ref vu, .int (nI (ax + (m + 1)))])), (vo, .inr (6, [.ref va, .int (nI i)])), (vu, .inr (1, [.int (nI 1), .int (nI L), .int (nI i)])), (ob, .inr (0, [.ref ta, .int (nI L)])), (ta, .inl (cI, 1000, .inl (aN tf)))] rfl rfl rfl 98 rfl ?_
          have hrr := rnou_1b (w := w) (k := k) hz2 (by rw [← hmo]; omega) h26 h95
          refine j_istore C dX5_takeByNoughts_98 [(6, .int (-6)), (5, .int (nI m)), (4, .int (nI mo)), (0, .ref d), (1, .ref ob), (2, .int (nI w)), (3, .int (nI k))] (by decide) rfl 100 rfl ?_
          refine j_aload_n C dX5_takeByNoughts_100 3 rfl 101 rfl ?_
          refine j_get C dX5_takeByNoughts_101 0 1 3 inX5_takeByNoughts_5 rfl rfl (by decide) rfl rfl rfl 104 rfl ?_
          refine j_callVi1 (As := []) (rest := []) (wr := [(d, .inr (5, [.ref vo, .ref vu, .int (nI (ax + (m + 1)))])), (vo, .inr (6, [.ref va, .int (nI i)])), (ob, .inr (0, [.ref ta, .int (nI L)])), (ta, .inl (cI, 1000, .inl (aN tf)))]) C (c_X1_isTold l D cI cZ cH vu 1 (nI L) (nI i) (by omega)) gX5_takeByNoughts_X1_isTold dX5_takeByNoughts_104 rfl yd_X1_isTold (Nat.le_of_ble_eq_true rfl) (Nat.le_of_ble_eq_true rfl) rfl rfl rfl _ rfl (Nat.le_of_ble_eq_true rfl) (Nat.zero_le _) (Nat.zero_le _) [2] [0, 1, 3, 4] rfl rfl rfl rfl rfl (by decide) [0, 1, 4, 2, 3] [(d, .inr (5, [.ref vo, .ref vu, .int (nI (ax + (m + 1)))])), (vo, .inr (6, [.ref va, .int (nI i)])), (vu, .inr (1, [.int (nI 1), .int (nI L), .int (nI i)])), (ob, .inr (0, [.ref ta, .int (nI L)])), (ta, .inl (cI, 1000, .inl (aN tf)))] rfl rfl rfl 107 rfl ?_
          refine j_ifb_eq C dX5_takeByNoughts_107 115 (by decide) 110 rfl (fun h9 => by exfalso; omega) (fun h107 => ?_)
          refine j_bipush C dX5_takeByNoughts_110 (-6) (by decide) 112 rfl ?_
          refine j_goto C dX5_takeByNoughts_112 122 (by decide) ?_
          exact j_iret C dX5_takeByNoughts_122 () (by exfalso; rw [hrr] at hok; simp at hok) (by exfalso; rw [hrr] at hok; simp at hok)
        · refine j_callVi1 (As := [.ref ob, .int (nI k)]) (rest := []) (wr := [(vo, .inr (6, [.ref va, .int (nI i)])), (vu, .inr (1, [.int (nI 0), .int y, .int z]))]) C (c_X5_tnOk l D cI cZ cH d vo vu (ax + (m + 1)) ob ta L tf t k (by omega) hft (by omega) (by omega)) gX5_takeByNoughts_X5_takeNumber dX5_takeByNoughts_95 rfl yd_X5_takeNumber (Nat.le_of_ble_eq_true rfl) (Nat.le_of_ble_eq_true rfl) rfl rfl rfl _ rfl (Nat.le_of_ble_eq_true rfl) (Nat.zero_le _) (Nat.zero_le _) [0, 3, 4] [1, 2] rfl rfl rfl rfl rfl (by decide) [2, 0, 1, 3, 4] [(d, .inr (5, [.ref vo, .ref vu, .int (nI ((ax + (m + 1)) + k))])), (vo, .inr (6, [.ref va, .int (nI i)])), (vu, .inr (1, [.int (nI 0), .int y, .int z])), (ob, .inr (0, [.ref ta, .int (nI L)])), (ta, .inl (cI, 1000, .inl (aN tf)))] rfl rfl rfl 98 rfl ?_
          have hrr : rnou t L w ax k = (0, m * 2 ^ k + rn t (ax + (m + 1)) k, ax + (m + 1) + k) := rnou_0 (w := w) hz2 (by rw [← hmo]; omega) h26 h95
          refine j_istore C dX5_takeByNoughts_98 [(6, .int (nI (rn t (ax + (m + 1)) k))), (5, .int (nI m)), (4, .int (nI mo)), (0, .ref d), (1, .ref ob), (2, .int (nI w)), (3, .int (nI k))] (by decide) rfl 100 rfl ?_
          refine j_aload_n C dX5_takeByNoughts_100 3 rfl 101 rfl ?_
          refine j_get C dX5_takeByNoughts_101 0 1 3 inX5_takeByNoughts_5 rfl rfl (by decide) rfl rfl rfl 104 rfl ?_
          refine j_callVi1 (As := []) (rest := []) (wr := [(d, .inr (5, [.ref vo, .ref vu, .int (nI ((ax + (m + 1)) + k))])), (vo, .inr (6, [.ref va, .int (nI i)])), (ob, .inr (0, [.ref ta, .int (nI L)])), (ta, .inl (cI, 1000, .inl (aN tf)))]) C (c_X1_isTold l D cI cZ cH vu 0 y z (by omega)) gX5_takeByNoughts_X1_isTold dX5_takeByNoughts_104 rfl yd_X1_isTold (Nat.le_of_ble_eq_true rfl) (Nat.le_of_ble_eq_true rfl) rfl rfl rfl _ rfl (Nat.le_of_ble_eq_true rfl) (Nat.zero_le _) (Nat.zero_le _) [2] [0, 1, 3, 4] rfl rfl rfl rfl rfl (by decide) [0, 1, 4, 2, 3] [(d, .inr (5, [.ref vo, .ref vu, .int (nI ((ax + (m + 1)) + k))])), (vo, .inr (6, [.ref va, .int (nI i)])), (vu, .inr (1, [.int (nI 0), .int y, .int z])), (ob, .inr (0, [.ref ta, .int (nI L)])), (ta, .inl (cI, 1000, .inl (aN tf)))] rfl rfl rfl 107 rfl ?_
          refine j_ifb_eq C dX5_takeByNoughts_107 115 (by decide) 110 rfl (fun h107 => ?_) (fun h9 => by exfalso; omega)
          refine j_iload C dX5_takeByNoughts_115 1 rfl 117 rfl ?_
          refine j_iload_n C dX5_takeByNoughts_117 6 rfl 118 rfl ?_
          refine j_ishl C dX5_takeByNoughts_118 (nI (m * 2 ^ k)) (q_shl (by omega) (by omega)) 119 rfl ?_
          refine j_iload C dX5_takeByNoughts_119 0 rfl 121 rfl ?_
          refine j_iadd C dX5_takeByNoughts_121 (nI (m * 2 ^ k + (rn t (ax + (m + 1)) k))) (nI_add (m * 2 ^ k) (rn t (ax + (m + 1)) k)) 122 rfl ?_
          exact j_iret C dX5_takeByNoughts_122 () (show (nI (m * 2 ^ k + (rn t (ax + (m + 1)) k)) : Int32) = nI ((rnou t L w ax k).2.1) from by rw [hrr]) (by rw [hrr])
      · refine j_iinc C dX5_takeByNoughts_32 0 rfl (nI (m + 1)) (nI_1 (m)) [(5, .int (nI (m + 1))), (4, .int (nI mo)), (0, .ref d), (1, .ref ob), (2, .int (nI w)), (3, .int (nI k))] (by decide) rfl 35 rfl ?_
        refine j_goto C dX5_takeByNoughts_35 11 (by decide) ?_
        exact ih11 (m + 1) ⟨by omega, by omega, by rw [hzc, show mo + 1 - m = (mo + 1 - (m + 1)) + 1 by omega, zc_go h26 (by omega), Nat.add_assoc ax m 1]; omega⟩ (by omega)
    · refine j_callVi1 (As := [.int (nI (ax + m))]) (rest := []) (wr := [(d, .inr (5, [.ref vo, .ref vu, .int (nI ax)])), (vo, .inr (6, [.ref va, .int (nI i)])), (vu, .inr (1, [.int (nI 0), .int y, .int z]))]) C (c_X0_atO l D cI cZ cH ob ta L tf (ax + m) (by omega) (by omega) (by omega)) gX5_takeByNoughts_X0_at dX5_takeByNoughts_26 rfl yd_X0_at (Nat.le_of_ble_eq_true rfl) (Nat.le_of_ble_eq_true rfl) rfl rfl rfl _ rfl (Nat.le_of_ble_eq_true rfl) (Nat.zero_le _) (Nat.zero_le _) [3, 4] [0, 1, 2] rfl rfl rfl rfl rfl (by decide) [0, 1, 2, 3, 4] [(d, .inr (5, [.ref vo, .ref vu, .int (nI ax)])), (vo, .inr (6, [.ref va, .int (nI i)])), (vu, .inr (1, [.int (nI 0), .int y, .int z])), (ob, .inr (0, [.ref ta, .int (nI L)])), (ta, .inl (cI, 1000, .inl (aN tf)))] rfl rfl rfl 29 rfl ?_
      refine j_if_ne C dX5_takeByNoughts_29 38 (by decide) (show (-6 : Int32).toInt = (-6 : Int) from rfl) 32 rfl (fun h29 => ?_) (fun h9 => by exfalso; omega)
      have hz : zc t L (mo + 1) ax = m := by rw [hzc, zc_stop (by omega)]; rfl
      have hz2 : zc t L (tpW w / 2 ^ k + 1) ax = m := by rw [← hmo]; exact hz
      have hrr := rnou_1 (w := w) (k := k) hz2 (by rw [← hmo]; omega) h26
      refine j_iload C dX5_takeByNoughts_38 0 rfl 40 rfl ?_
      refine j_iload C dX5_takeByNoughts_40 1 rfl 42 rfl ?_
      refine j_icmp_le C dX5_takeByNoughts_42 55 (by decide) (q_t (by omega)) (q_t (by omega)) 45 rfl (fun h42 => ?_) (fun h9 => by exfalso; omega)
      refine j_aload_n C dX5_takeByNoughts_55 3 rfl 56 rfl ?_
      refine j_aload_n C dX5_takeByNoughts_56 2 rfl 57 rfl ?_
      refine j_get C dX5_takeByNoughts_57 0 2 1 inX5_takeByNoughts_5 rfl rfl (by decide) rfl rfl rfl 60 rfl ?_
      refine j_iload C dX5_takeByNoughts_60 0 rfl 62 rfl ?_
      refine j_iadd C dX5_takeByNoughts_62 (nI (ax + m)) (nI_add ax m) 63 rfl ?_
      refine j_callVi1 (As := [.int (nI (ax + m))]) (rest := []) (wr := [(d, .inr (5, [.ref vo, .ref vu, .int (nI ax)])), (vo, .inr (6, [.ref va, .int (nI i)])), (vu, .inr (1, [.int (nI 0), .int y, .int z]))]) C (c_X0_hasN l D cI cZ cH ob ta L tf (ax + m) (by omega) (by omega)) gX5_takeByNoughts_X0_has dX5_takeByNoughts_63 rfl yd_X0_has (Nat.le_of_ble_eq_true rfl) (Nat.le_of_ble_eq_true rfl) rfl rfl rfl _ rfl (Nat.le_of_ble_eq_true rfl) (Nat.zero_le _) (Nat.zero_le _) [3, 4] [0, 1, 2] rfl rfl rfl rfl rfl (by decide) [0, 1, 2, 3, 4] [(d, .inr (5, [.ref vo, .ref vu, .int (nI ax)])), (vo, .inr (6, [.ref va, .int (nI i)])), (vu, .inr (1, [.int (nI 0), .int y, .int z])), (ob, .inr (0, [.ref ta, .int (nI L)])), (ta, .inl (cI, 1000, .inl (aN tf)))] rfl rfl rfl 66 rfl ?_
      refine j_ifb_ne C dX5_takeByNoughts_66 79 (by decide) 69 rfl (fun h9 => by exfalso; omega) (fun h66 => ?_)
      refine j_aload_n C dX5_takeByNoughts_69 2 rfl 70 rfl ?_
      refine j_iconst C dX5_takeByNoughts_70 (nI 1) (by decide) 71 rfl ?_
      refine j_aload_n C dX5_takeByNoughts_71 3 rfl 72 rfl ?_
      refine j_get C dX5_takeByNoughts_72 3 1 2 inX5_takeByNoughts_0 rfl rfl (by decide) rfl rfl rfl 75 rfl ?_
      refine j_callVi1 (As := [.int (nI 1), .int (nI L)]) (rest := []) (wr := [(ob, .inr (0, [.ref ta, .int (nI L)])), (ta, .inl (cI, 1000, .inl (aN tf)))]) C (c_X5_fail l D cI cZ cH d vo vu va ax i 0 y z 1 L ) gX5_takeByNoughts_X5_fail dX5_takeByNoughts_75 rfl yd_X5_fail (Nat.le_of_ble_eq_true rfl) (Nat.le_of_ble_eq_true rfl) rfl rfl rfl _ rfl (Nat.le_of_ble_eq_true rfl) (Nat.zero_le _) (Nat.zero_le _) [0, 1, 2] [3, 4] rfl rfl rfl rfl rfl (by decide) [2, 3, 4, 0, 1] [(d, .inr (5, [.ref vo, .ref vu, .int (nI ax)])), (vo, .inr (6, [.ref va, .int (nI i)])), (vu, .inr (1, [.int (nI 1), .int (nI L), .int (nI i)])), (ob, .inr (0, [.ref ta, .int (nI L)])), (ta, .inl (cI, 1000, .inl (aN tf)))] rfl rfl rfl 78 rfl ?_
      exact j_iret C dX5_takeByNoughts_78 () (by exfalso; rw [hrr] at hok; simp at hok) (by exfalso; rw [hrr] at hok; simp at hok)
set_option maxHeartbeats 4000000 in
set_option maxRecDepth 100000 in
theorem c_X5_nouNo (l : Launch) (D : va_G) (cI cZ cH : ClassId) (d vo vu va ax i : Nat) (y z : Int32) (ob ta L : Nat) (tf t : Nat → Nat) (w k : Nat) (hw : 2 ≤ w ∧ w ≤ 8) (hk : k ≤ 7) (hL : L ≤ 1000) (hft : ∀ j, j < L → tf j = t j) (hax : ax ≤ L) (ht1 : ∀ j, j < L → t j ≤ 1) (hok : ¬ (rnou t L w ax k).1 = 0) : Mi l D cI cZ cH yX5_takeByNoughts wsX5_takeByNoughts 2 46 [.ref d, .ref ob, .int (nI w), .int (nI k)] [(d, .inr (5, [.ref vo, .ref vu, .int (nI ax)])), (vo, .inr (6, [.ref va, .int (nI i)])), (vu, .inr (1, [.int (nI 0), .int y, .int z])), (ob, .inr (0, [.ref ta, .int (nI L)])), (ta, .inl (cI, 1000, .inl (aN tf)))] (fun (r9 : Int32) (ax2 : Nat) => r9 = -6) (fun (ax2 : Nat) => [(d, .inr (5, [.ref vo, .ref vu, .int (nI ax2)])), (vo, .inr (6, [.ref va, .int (nI i)])), (vu, .inr (1, [.int (nI ((rnou t L w ax k).1)), .int (nI (rnou t L w ax k).2.1), .int (nI i)])), (ob, .inr (0, [.ref ta, .int (nI L)])), (ta, .inl (cI, 1000, .inl (aN tf)))]) := by
  refine Mi.start (cc := cX5_takeByNoughts) (nL := 7) (ret := (some .int)) (lv0 := [(0, .ref d), (1, .ref ob), (2, .int (nI w)), (3, .int (nI k))]) (by decide) rfl (Nat.le_of_ble_eq_true rfl) rfl ?_
  intro pX eX sX mX bX methX cX AX C
  have h2w := tpW_le hw.2
  obtain ⟨mo, hmo⟩ : ∃ q, q = tpW w / 2 ^ k := ⟨_, rfl⟩
  have hmo2 : mo ≤ 255 := by rw [hmo]; exact Nat.le_trans (Nat.div_le_self _ _) h2w
  refine j_iload_n C dX5_takeByNoughts_0 2 rfl 1 rfl ?_
  refine j_callNi1 (As := [.int (nI w)]) (rest := []) (wr := [(d, .inr (5, [.ref vo, .ref vu, .int (nI ax)])), (vo, .inr (6, [.ref va, .int (nI i)])), (vu, .inr (1, [.int (nI 0), .int y, .int z])), (ob, .inr (0, [.ref ta, .int (nI L)])), (ta, .inl (cI, 1000, .inl (aN tf)))]) C (c_X8_topOf l D cI cZ cH w (by omega)) gX5_takeByNoughts_X8_topOf_n65 17 rfl 4 5 rfl rfl dX5_takeByNoughts_1 rfl yd_X8_topOf.2 (Nat.le_of_ble_eq_true rfl) (Nat.le_of_ble_eq_true rfl) rfl _ rfl (Nat.le_of_ble_eq_true rfl) (Nat.zero_le _) (Nat.zero_le _) [] [0, 1, 2, 3, 4] rfl rfl rfl rfl rfl (by decide) [0, 1, 2, 3, 4] [(d, .inr (5, [.ref vo, .ref vu, .int (nI ax)])), (vo, .inr (6, [.ref va, .int (nI i)])), (vu, .inr (1, [.int (nI 0), .int y, .int z])), (ob, .inr (0, [.ref ta, .int (nI L)])), (ta, .inl (cI, 1000, .inl (aN tf)))] rfl rfl rfl 4 rfl ?_
  refine j_iload_n C dX5_takeByNoughts_4 3 rfl 5 rfl ?_
  refine j_ishr C dX5_takeByNoughts_5 (nI (tpW w / 2 ^ k)) (q_shr (by omega) (by omega)) 6 rfl ?_
  have hshr5 := Nat.div_le_self (tpW w) (2 ^ k)
  refine j_top (nI mo) (by rw [hmo]) ?_
  refine j_istore C dX5_takeByNoughts_6 [(4, .int (nI mo)), (0, .ref d), (1, .ref ob), (2, .int (nI w)), (3, .int (nI k))] (by decide) rfl 8 rfl ?_
  refine j_iconst C dX5_takeByNoughts_8 (nI 0) (by decide) 9 rfl ?_
  refine j_istore C dX5_takeByNoughts_9 [(5, .int (nI 0)), (4, .int (nI mo)), (0, .ref d), (1, .ref ob), (2, .int (nI w)), (3, .int (nI k))] (by decide) rfl 11 rfl ?_
  refine j_loop1 (fun (m : Nat) => m ≤ mo + 1 ∧ ax + m ≤ L ∧ zc t L (mo + 1) ax = m + zc t L (mo + 1 - m) (ax + m)) (fun (m : Nat) => mo + 2 - m) (fun (m : Nat) => [(d, .inr (5, [.ref vo, .ref vu, .int (nI ax)])), (vo, .inr (6, [.ref va, .int (nI i)])), (vu, .inr (1, [.int (nI 0), .int y, .int z])), (ob, .inr (0, [.ref ta, .int (nI L)])), (ta, .inl (cI, 1000, .inl (aN tf)))]) (fun (m : Nat) => [(5, .int (nI m)), (4, .int (nI mo)), (0, .ref d), (1, .ref ob), (2, .int (nI w)), (3, .int (nI k))]) ?_ 0 ⟨by omega, by omega, by simp⟩ rfl rfl
  intro m hI11 ih11
  obtain ⟨hm, hml, hzc⟩ := hI11
  show J D AX pX l eX _ sX mX _ bX methX cX 0 0 _ 7 [(d, .inr (5, [.ref vo, .ref vu, .int (nI ax)])), (vo, .inr (6, [.ref va, .int (nI i)])), (vu, .inr (1, [.int (nI 0), .int y, .int z])), (ob, .inr (0, [.ref ta, .int (nI L)])), (ta, .inl (cI, 1000, .inl (aN tf)))] [(5, .int (nI m)), (4, .int (nI mo)), (0, .ref d), (1, .ref ob), (2, .int (nI w)), (3, .int (nI k))] 11 []
  refine j_iload C dX5_takeByNoughts_11 0 rfl 13 rfl ?_
  refine j_iload C dX5_takeByNoughts_13 1 rfl 15 rfl ?_
  refine j_icmp_gt C dX5_takeByNoughts_15 38 (by decide) (q_t (by omega)) (q_t (by omega)) 18 rfl (fun h15 => ?_) (fun h15 => ?_)
  · have hz : zc t L (mo + 1) ax = m := by rw [hzc, show mo + 1 - m = 0 by omega]; rfl
    have hz2 : zc t L (tpW w / 2 ^ k + 1) ax = m := by rw [← hmo]; exact hz
    have hrr := rnou_3 (w := w) hz2 (by rw [← hmo]; omega)
    refine j_iload C dX5_takeByNoughts_38 0 rfl 40 rfl ?_
    refine j_iload C dX5_takeByNoughts_40 1 rfl 42 rfl ?_
    refine j_icmp_le C dX5_takeByNoughts_42 55 (by decide) (q_t (by omega)) (q_t (by omega)) 45 rfl (fun h9 => by exfalso; omega) (fun h42 => ?_)
    refine j_aload_n C dX5_takeByNoughts_45 2 rfl 46 rfl ?_
    refine j_iconst C dX5_takeByNoughts_46 (nI 3) (by decide) 47 rfl ?_
    refine j_aload_n C dX5_takeByNoughts_47 2 rfl 48 rfl ?_
    refine j_get C dX5_takeByNoughts_48 0 2 1 inX5_takeByNoughts_5 rfl rfl (by decide) rfl rfl rfl 51 rfl ?_
    refine j_callVi1 (As := [.int (nI 3), .int (nI ax)]) (rest := []) (wr := [(ob, .inr (0, [.ref ta, .int (nI L)])), (ta, .inl (cI, 1000, .inl (aN tf)))]) C (c_X5_fail l D cI cZ cH d vo vu va ax i 0 y z 3 ax ) gX5_takeByNoughts_X5_fail dX5_takeByNoughts_51 rfl yd_X5_fail (Nat.le_of_ble_eq_true rfl) (Nat.le_of_ble_eq_true rfl) rfl rfl rfl _ rfl (Nat.le_of_ble_eq_true rfl) (Nat.zero_le _) (Nat.zero_le _) [0, 1, 2] [3, 4] rfl rfl rfl rfl rfl (by decide) [2, 3, 4, 0, 1] [(d, .inr (5, [.ref vo, .ref vu, .int (nI ax)])), (vo, .inr (6, [.ref va, .int (nI i)])), (vu, .inr (1, [.int (nI 3), .int (nI ax), .int (nI i)])), (ob, .inr (0, [.ref ta, .int (nI L)])), (ta, .inl (cI, 1000, .inl (aN tf)))] rfl rfl rfl 54 rfl ?_
    exact j_iret C dX5_takeByNoughts_54 ax rfl (by rw [hrr])
  · refine j_aload_n C dX5_takeByNoughts_18 3 rfl 19 rfl ?_
    refine j_aload_n C dX5_takeByNoughts_19 2 rfl 20 rfl ?_
    refine j_get C dX5_takeByNoughts_20 0 2 1 inX5_takeByNoughts_5 rfl rfl (by decide) rfl rfl rfl 23 rfl ?_
    refine j_iload C dX5_takeByNoughts_23 0 rfl 25 rfl ?_
    refine j_iadd C dX5_takeByNoughts_25 (nI (ax + m)) (nI_add ax m) 26 rfl ?_
    rcases Nat.lt_or_ge (ax + m) L with h26 | h26
    · refine j_callVi1 (As := [.int (nI (ax + m))]) (rest := []) (wr := [(d, .inr (5, [.ref vo, .ref vu, .int (nI ax)])), (vo, .inr (6, [.ref va, .int (nI i)])), (vu, .inr (1, [.int (nI 0), .int y, .int z]))]) C (c_X0_atN l D cI cZ cH ob ta L tf t (ax + m) (by omega) hft (by omega)) gX5_takeByNoughts_X0_at dX5_takeByNoughts_26 rfl yd_X0_at (Nat.le_of_ble_eq_true rfl) (Nat.le_of_ble_eq_true rfl) rfl rfl rfl _ rfl (Nat.le_of_ble_eq_true rfl) (Nat.zero_le _) (Nat.zero_le _) [3, 4] [0, 1, 2] rfl rfl rfl rfl rfl (by decide) [0, 1, 2, 3, 4] [(d, .inr (5, [.ref vo, .ref vu, .int (nI ax)])), (vo, .inr (6, [.ref va, .int (nI i)])), (vu, .inr (1, [.int (nI 0), .int y, .int z])), (ob, .inr (0, [.ref ta, .int (nI L)])), (ta, .inl (cI, 1000, .inl (aN tf)))] rfl rfl rfl 29 rfl ?_
      have hti : t (ax + m) < 2 ^ 31 := by have := ht1 _ h26; omega
      refine j_if_ne C dX5_takeByNoughts_29 38 (by decide) (q_t (by omega)) 32 rfl (fun h29 => ?_) (fun h29 => ?_)
      · have hz : zc t L (mo + 1) ax = m := by rw [hzc, zc_stop (by omega)]; rfl
        have hz2 : zc t L (tpW w / 2 ^ k + 1) ax = m := by rw [← hmo]; exact hz
        have hm2 : m * 2 ^ k ≤ 256 * 2 ^ 7 := Nat.mul_le_mul (by omega) (Nat.pow_le_pow_right (by decide) hk)
        refine j_iload C dX5_takeByNoughts_38 0 rfl 40 rfl ?_
        refine j_iload C dX5_takeByNoughts_40 1 rfl 42 rfl ?_
        refine j_icmp_le C dX5_takeByNoughts_42 55 (by decide) (q_t (by omega)) (q_t (by omega)) 45 rfl (fun h42 => ?_) (fun h9 => by exfalso; omega)
        refine j_aload_n C dX5_takeByNoughts_55 3 rfl 56 rfl ?_
        refine j_aload_n C dX5_takeByNoughts_56 2 rfl 57 rfl ?_
        refine j_get C dX5_takeByNoughts_57 0 2 1 inX5_takeByNoughts_5 rfl rfl (by decide) rfl rfl rfl 60 rfl ?_
        refine j_iload C dX5_takeByNoughts_60 0 rfl 62 rfl ?_
        refine j_iadd C dX5_takeByNoughts_62 (nI (ax + m)) (nI_add ax m) 63 rfl ?_
        refine j_callVi1 (As := [.int (nI (ax + m))]) (rest := []) (wr := [(d, .inr (5, [.ref vo, .ref vu, .int (nI ax)])), (vo, .inr (6, [.ref va, .int (nI i)])), (vu, .inr (1, [.int (nI 0), .int y, .int z]))]) C (c_X0_hasN l D cI cZ cH ob ta L tf (ax + m) (by omega) (by omega)) gX5_takeByNoughts_X0_has dX5_takeByNoughts_63 rfl yd_X0_has (Nat.le_of_ble_eq_true rfl) (Nat.le_of_ble_eq_true rfl) rfl rfl rfl _ rfl (Nat.le_of_ble_eq_true rfl) (Nat.zero_le _) (Nat.zero_le _) [3, 4] [0, 1, 2] rfl rfl rfl rfl rfl (by decide) [0, 1, 2, 3, 4] [(d, .inr (5, [.ref vo, .ref vu, .int (nI ax)])), (vo, .inr (6, [.ref va, .int (nI i)])), (vu, .inr (1, [.int (nI 0), .int y, .int z])), (ob, .inr (0, [.ref ta, .int (nI L)])), (ta, .inl (cI, 1000, .inl (aN tf)))] rfl rfl rfl 66 rfl ?_
        refine j_ifb_ne C dX5_takeByNoughts_66 79 (by decide) 69 rfl (fun h66 => ?_) (fun h9 => by exfalso; omega)
        refine j_aload_n C dX5_takeByNoughts_79 2 rfl 80 rfl ?_
        refine j_dup C dX5_takeByNoughts_80 rfl 81 rfl ?_
        refine j_get C dX5_takeByNoughts_81 0 2 1 inX5_takeByNoughts_5 rfl rfl (by decide) rfl rfl rfl 84 rfl ?_
        refine j_iload C dX5_takeByNoughts_84 0 rfl 86 rfl ?_
        refine j_iconst C dX5_takeByNoughts_86 (nI 1) (by decide) 87 rfl ?_
        refine j_iadd C dX5_takeByNoughts_87 (nI (m + 1)) (nI_add m 1) 88 rfl ?_
        refine j_iadd C dX5_takeByNoughts_88 (nI (ax + (m + 1))) (nI_add ax (m + 1)) 89 rfl ?_
        refine j_put C dX5_takeByNoughts_89 0 2 1 inX5_takeByNoughts_5 tyX5 tyX5_ok nmX5 rfl rfl (by decide) rfl rfl rfl rfl rfl (Nat.le_of_ble_eq_true rfl) [(d, .inr (5, [.ref vo, .ref vu, .int (nI (ax + (m + 1)))])), (vo, .inr (6, [.ref va, .int (nI i)])), (vu, .inr (1, [.int (nI 0), .int y, .int z])), (ob, .inr (0, [.ref ta, .int (nI L)])), (ta, .inl (cI, 1000, .inl (aN tf)))] rfl 92 rfl ?_
        refine j_aload_n C dX5_takeByNoughts_92 2 rfl 93 rfl ?_
        refine j_aload_n C dX5_takeByNoughts_93 3 rfl 94 rfl ?_
        refine j_iload_n C dX5_takeByNoughts_94 5 rfl 95 rfl ?_
        rcases Nat.lt_or_ge L (ax + (m + 1) + k) with h95 | h95
        · refine j_callVi1 (As := [.ref ob, .int (nI k)]) (rest := []) (wr := [(ta, .inl (cI, 1000, .inl (aN tf)))]) C (c_X5_tnNo l D cI cZ cH d vo vu va (ax + (m + 1)) i y z ob ta L k (by omega) (by omega) (by omega) (by omega)) gX5_takeByNoughts_X5_takeNumber dX5_takeByNoughts_95 rfl yd_X5_takeNumber (Nat.le_of_ble_eq_true rfl) (Nat.le_of_ble_eq_true rfl) rfl rfl rfl _ rfl (Nat.le_of_ble_eq_true rfl) (Nat.zero_le _) (Nat.zero_le _) [0, 1, 2, 3] [4] rfl rfl rfl rfl rfl (by decide) [1, 2, 3, 4, 0] [(d, .inr (5, [.ref vo, .ref vu, .int (nI (ax + (m + 1)))])), (vo, .inr (6, [.ref va, .int (nI i)])), (vu, .inr (1, [.int (nI 1), .int (nI L), .int (nI i)])), (ob, .inr (0, [.ref ta, .int (nI L)])), (ta, .inl (cI, 1000, .inl (aN tf)))] rfl rfl rfl 98 rfl ?_
          have hrr := rnou_1b (w := w) (k := k) hz2 (by rw [← hmo]; omega) h26 h95
          refine j_istore C dX5_takeByNoughts_98 [(6, .int (-6)), (5, .int (nI m)), (4, .int (nI mo)), (0, .ref d), (1, .ref ob), (2, .int (nI w)), (3, .int (nI k))] (by decide) rfl 100 rfl ?_
          refine j_aload_n C dX5_takeByNoughts_100 3 rfl 101 rfl ?_
          refine j_get C dX5_takeByNoughts_101 0 1 3 inX5_takeByNoughts_5 rfl rfl (by decide) rfl rfl rfl 104 rfl ?_
          refine j_callVi1 (As := []) (rest := []) (wr := [(d, .inr (5, [.ref vo, .ref vu, .int (nI (ax + (m + 1)))])), (vo, .inr (6, [.ref va, .int (nI i)])), (ob, .inr (0, [.ref ta, .int (nI L)])), (ta, .inl (cI, 1000, .inl (aN tf)))]) C (c_X1_isTold l D cI cZ cH vu 1 (nI L) (nI i) (by omega)) gX5_takeByNoughts_X1_isTold dX5_takeByNoughts_104 rfl yd_X1_isTold (Nat.le_of_ble_eq_true rfl) (Nat.le_of_ble_eq_true rfl) rfl rfl rfl _ rfl (Nat.le_of_ble_eq_true rfl) (Nat.zero_le _) (Nat.zero_le _) [2] [0, 1, 3, 4] rfl rfl rfl rfl rfl (by decide) [0, 1, 4, 2, 3] [(d, .inr (5, [.ref vo, .ref vu, .int (nI (ax + (m + 1)))])), (vo, .inr (6, [.ref va, .int (nI i)])), (vu, .inr (1, [.int (nI 1), .int (nI L), .int (nI i)])), (ob, .inr (0, [.ref ta, .int (nI L)])), (ta, .inl (cI, 1000, .inl (aN tf)))] rfl rfl rfl 107 rfl ?_
          refine j_ifb_eq C dX5_takeByNoughts_107 115 (by decide) 110 rfl (fun h9 => by exfalso; omega) (fun h107 => ?_)
          refine j_bipush C dX5_takeByNoughts_110 (-6) (by decide) 112 rfl ?_
          refine j_goto C dX5_takeByNoughts_112 122 (by decide) ?_
          exact j_iret C dX5_takeByNoughts_122 (ax + (m + 1)) rfl (by rw [hrr])
        · refine j_callVi1 (As := [.ref ob, .int (nI k)]) (rest := []) (wr := [(vo, .inr (6, [.ref va, .int (nI i)])), (vu, .inr (1, [.int (nI 0), .int y, .int z]))]) C (c_X5_tnOk l D cI cZ cH d vo vu (ax + (m + 1)) ob ta L tf t k (by omega) hft (by omega) (by omega)) gX5_takeByNoughts_X5_takeNumber dX5_takeByNoughts_95 rfl yd_X5_takeNumber (Nat.le_of_ble_eq_true rfl) (Nat.le_of_ble_eq_true rfl) rfl rfl rfl _ rfl (Nat.le_of_ble_eq_true rfl) (Nat.zero_le _) (Nat.zero_le _) [0, 3, 4] [1, 2] rfl rfl rfl rfl rfl (by decide) [2, 0, 1, 3, 4] [(d, .inr (5, [.ref vo, .ref vu, .int (nI ((ax + (m + 1)) + k))])), (vo, .inr (6, [.ref va, .int (nI i)])), (vu, .inr (1, [.int (nI 0), .int y, .int z])), (ob, .inr (0, [.ref ta, .int (nI L)])), (ta, .inl (cI, 1000, .inl (aN tf)))] rfl rfl rfl 98 rfl ?_
          have hrr : rnou t L w ax k = (0, m * 2 ^ k + rn t (ax + (m + 1)) k, ax + (m + 1) + k) := rnou_0 (w := w) hz2 (by rw [← hmo]; omega) h26 h95
          refine j_istore C dX5_takeByNoughts_98 [(6, .int (nI (rn t (ax + (m + 1)) k))), (5, .int (nI m)), (4, .int (nI mo)), (0, .ref d), (1, .ref ob), (2, .int (nI w)), (3, .int (nI k))] (by decide) rfl 100 rfl ?_
          refine j_aload_n C dX5_takeByNoughts_100 3 rfl 101 rfl ?_
          refine j_get C dX5_takeByNoughts_101 0 1 3 inX5_takeByNoughts_5 rfl rfl (by decide) rfl rfl rfl 104 rfl ?_
          refine j_callVi1 (As := []) (rest := []) (wr := [(d, .inr (5, [.ref vo, .ref vu, .int (nI ((ax + (m + 1)) + k))])), (vo, .inr (6, [.ref va, .int (nI i)])), (ob, .inr (0, [.ref ta, .int (nI L)])), (ta, .inl (cI, 1000, .inl (aN tf)))]) C (c_X1_isTold l D cI cZ cH vu 0 y z (by omega)) gX5_takeByNoughts_X1_isTold dX5_takeByNoughts_104 rfl yd_X1_isTold (Nat.le_of_ble_eq_true rfl) (Nat.le_of_ble_eq_true rfl) rfl rfl rfl _ rfl (Nat.le_of_ble_eq_true rfl) (Nat.zero_le _) (Nat.zero_le _) [2] [0, 1, 3, 4] rfl rfl rfl rfl rfl (by decide) [0, 1, 4, 2, 3] [(d, .inr (5, [.ref vo, .ref vu, .int (nI ((ax + (m + 1)) + k))])), (vo, .inr (6, [.ref va, .int (nI i)])), (vu, .inr (1, [.int (nI 0), .int y, .int z])), (ob, .inr (0, [.ref ta, .int (nI L)])), (ta, .inl (cI, 1000, .inl (aN tf)))] rfl rfl rfl 107 rfl ?_
          refine j_ifb_eq C dX5_takeByNoughts_107 115 (by decide) 110 rfl (fun h107 => ?_) (fun h9 => by exfalso; omega)
          refine j_iload C dX5_takeByNoughts_115 1 rfl 117 rfl ?_
          refine j_iload_n C dX5_takeByNoughts_117 6 rfl 118 rfl ?_
          refine j_ishl C dX5_takeByNoughts_118 (nI (m * 2 ^ k)) (q_shl (by omega) (by omega)) 119 rfl ?_
          refine j_iload C dX5_takeByNoughts_119 0 rfl 121 rfl ?_
          refine j_iadd C dX5_takeByNoughts_121 (nI (m * 2 ^ k + (rn t (ax + (m + 1)) k))) (nI_add (m * 2 ^ k) (rn t (ax + (m + 1)) k)) 122 rfl ?_
          exact j_iret C dX5_takeByNoughts_122 ax (by exfalso; rw [hrr] at hok; exact hok rfl) (by exfalso; rw [hrr] at hok; exact hok rfl)
      · refine j_iinc C dX5_takeByNoughts_32 0 rfl (nI (m + 1)) (nI_1 (m)) [(5, .int (nI (m + 1))), (4, .int (nI mo)), (0, .ref d), (1, .ref ob), (2, .int (nI w)), (3, .int (nI k))] (by decide) rfl 35 rfl ?_
        refine j_goto C dX5_takeByNoughts_35 11 (by decide) ?_
        exact ih11 (m + 1) ⟨by omega, by omega, by rw [hzc, show mo + 1 - m = (mo + 1 - (m + 1)) + 1 by omega, zc_go h26 (by omega), Nat.add_assoc ax m 1]; omega⟩ (by omega)
    · refine j_callVi1 (As := [.int (nI (ax + m))]) (rest := []) (wr := [(d, .inr (5, [.ref vo, .ref vu, .int (nI ax)])), (vo, .inr (6, [.ref va, .int (nI i)])), (vu, .inr (1, [.int (nI 0), .int y, .int z]))]) C (c_X0_atO l D cI cZ cH ob ta L tf (ax + m) (by omega) (by omega) (by omega)) gX5_takeByNoughts_X0_at dX5_takeByNoughts_26 rfl yd_X0_at (Nat.le_of_ble_eq_true rfl) (Nat.le_of_ble_eq_true rfl) rfl rfl rfl _ rfl (Nat.le_of_ble_eq_true rfl) (Nat.zero_le _) (Nat.zero_le _) [3, 4] [0, 1, 2] rfl rfl rfl rfl rfl (by decide) [0, 1, 2, 3, 4] [(d, .inr (5, [.ref vo, .ref vu, .int (nI ax)])), (vo, .inr (6, [.ref va, .int (nI i)])), (vu, .inr (1, [.int (nI 0), .int y, .int z])), (ob, .inr (0, [.ref ta, .int (nI L)])), (ta, .inl (cI, 1000, .inl (aN tf)))] rfl rfl rfl 29 rfl ?_
      refine j_if_ne C dX5_takeByNoughts_29 38 (by decide) (show (-6 : Int32).toInt = (-6 : Int) from rfl) 32 rfl (fun h29 => ?_) (fun h9 => by exfalso; omega)
      have hz : zc t L (mo + 1) ax = m := by rw [hzc, zc_stop (by omega)]; rfl
      have hz2 : zc t L (tpW w / 2 ^ k + 1) ax = m := by rw [← hmo]; exact hz
      have hrr := rnou_1 (w := w) (k := k) hz2 (by rw [← hmo]; omega) h26
      refine j_iload C dX5_takeByNoughts_38 0 rfl 40 rfl ?_
      refine j_iload C dX5_takeByNoughts_40 1 rfl 42 rfl ?_
      refine j_icmp_le C dX5_takeByNoughts_42 55 (by decide) (q_t (by omega)) (q_t (by omega)) 45 rfl (fun h42 => ?_) (fun h9 => by exfalso; omega)
      refine j_aload_n C dX5_takeByNoughts_55 3 rfl 56 rfl ?_
      refine j_aload_n C dX5_takeByNoughts_56 2 rfl 57 rfl ?_
      refine j_get C dX5_takeByNoughts_57 0 2 1 inX5_takeByNoughts_5 rfl rfl (by decide) rfl rfl rfl 60 rfl ?_
      refine j_iload C dX5_takeByNoughts_60 0 rfl 62 rfl ?_
      refine j_iadd C dX5_takeByNoughts_62 (nI (ax + m)) (nI_add ax m) 63 rfl ?_
      refine j_callVi1 (As := [.int (nI (ax + m))]) (rest := []) (wr := [(d, .inr (5, [.ref vo, .ref vu, .int (nI ax)])), (vo, .inr (6, [.ref va, .int (nI i)])), (vu, .inr (1, [.int (nI 0), .int y, .int z]))]) C (c_X0_hasN l D cI cZ cH ob ta L tf (ax + m) (by omega) (by omega)) gX5_takeByNoughts_X0_has dX5_takeByNoughts_63 rfl yd_X0_has (Nat.le_of_ble_eq_true rfl) (Nat.le_of_ble_eq_true rfl) rfl rfl rfl _ rfl (Nat.le_of_ble_eq_true rfl) (Nat.zero_le _) (Nat.zero_le _) [3, 4] [0, 1, 2] rfl rfl rfl rfl rfl (by decide) [0, 1, 2, 3, 4] [(d, .inr (5, [.ref vo, .ref vu, .int (nI ax)])), (vo, .inr (6, [.ref va, .int (nI i)])), (vu, .inr (1, [.int (nI 0), .int y, .int z])), (ob, .inr (0, [.ref ta, .int (nI L)])), (ta, .inl (cI, 1000, .inl (aN tf)))] rfl rfl rfl 66 rfl ?_
      refine j_ifb_ne C dX5_takeByNoughts_66 79 (by decide) 69 rfl (fun h9 => by exfalso; omega) (fun h66 => ?_)
      refine j_aload_n C dX5_takeByNoughts_69 2 rfl 70 rfl ?_
      refine j_iconst C dX5_takeByNoughts_70 (nI 1) (by decide) 71 rfl ?_
      refine j_aload_n C dX5_takeByNoughts_71 3 rfl 72 rfl ?_
      refine j_get C dX5_takeByNoughts_72 3 1 2 inX5_takeByNoughts_0 rfl rfl (by decide) rfl rfl rfl 75 rfl ?_
      refine j_callVi1 (As := [.int (nI 1), .int (nI L)]) (rest := []) (wr := [(ob, .inr (0, [.ref ta, .int (nI L)])), (ta, .inl (cI, 1000, .inl (aN tf)))]) C (c_X5_fail l D cI cZ cH d vo vu va ax i 0 y z 1 L ) gX5_takeByNoughts_X5_fail dX5_takeByNoughts_75 rfl yd_X5_fail (Nat.le_of_ble_eq_true rfl) (Nat.le_of_ble_eq_true rfl) rfl rfl rfl _ rfl (Nat.le_of_ble_eq_true rfl) (Nat.zero_le _) (Nat.zero_le _) [0, 1, 2] [3, 4] rfl rfl rfl rfl rfl (by decide) [2, 3, 4, 0, 1] [(d, .inr (5, [.ref vo, .ref vu, .int (nI ax)])), (vo, .inr (6, [.ref va, .int (nI i)])), (vu, .inr (1, [.int (nI 1), .int (nI L), .int (nI i)])), (ob, .inr (0, [.ref ta, .int (nI L)])), (ta, .inl (cI, 1000, .inl (aN tf)))] rfl rfl rfl 78 rfl ?_
      exact j_iret C dX5_takeByNoughts_78 ax rfl (by rw [hrr])
set_option maxHeartbeats 4000000 in
set_option maxRecDepth 100000 in
theorem c_X5_toldOk (l : Launch) (D : va_G) (cI cZ cH : ClassId) (d vo vu va ax i : Nat) (rf g : Nat → Nat) (y z : Int32) (hr w sz ev ob ta L : Nat) (tf t : Nat → Nat) (way code : Nat) (hw : 2 ≤ w ∧ w ≤ 8) (hsz : 1 ≤ sz ∧ sz ≤ 8) (hev : 1 ≤ ev ∧ ev ≤ 8) (hL : L ≤ 1000) (hft : ∀ j, j < L → tf j = t j) (ht : ∀ j, j < L → t j ≤ 1) (hax : ax ≤ L) (hi : 1 ≤ i) (hi64 : i ≤ 64) (hfg : ∀ j, j < i → rf j = g j) (hg : ∀ j, j < i → g j ≤ tpW w) (hway : way ≤ 3) (hc : okC w code) (hok : (rfold t L w ax code).1 = 0) : Mi l D cI cZ cH yX5_takeTold wsX5_takeTold 3 72 [.ref d, .ref hr, .ref ob, .int (nI way), .int (nI code)] [(d, .inr (5, [.ref vo, .ref vu, .int (nI ax)])), (vo, .inr (6, [.ref va, .int (nI i)])), (va, .inl (cI, 64, .inl (aN rf))), (vu, .inr (1, [.int (nI 0), .int y, .int z])), (hr, .inr (7, [.int (nI w), .int (nI sz), .int (nI ev)])), (ob, .inr (0, [.ref ta, .int (nI L)])), (ta, .inl (cI, 1000, .inl (aN tf)))] (fun (r9 : Int32) (_ : Unit) => r9 = nI (unfoldN (rfold t L w ax code).2.1 (told w sz ev g i way) (tpW w))) (fun (_ : Unit) => [(d, .inr (5, [.ref vo, .ref vu, .int (nI ((rfold t L w ax code).2.2))])), (vo, .inr (6, [.ref va, .int (nI i)])), (va, .inl (cI, 64, .inl (aN rf))), (vu, .inr (1, [.int (nI 0), .int y, .int z])), (hr, .inr (7, [.int (nI w), .int (nI sz), .int (nI ev)])), (ob, .inr (0, [.ref ta, .int (nI L)])), (ta, .inl (cI, 1000, .inl (aN tf)))]) := by
  refine Mi.start (cc := cX5_takeTold) (nL := 6) (ret := (some .int)) (lv0 := [(0, .ref d), (1, .ref hr), (2, .ref ob), (3, .int (nI way)), (4, .int (nI code))]) (by decide) rfl (Nat.le_of_ble_eq_true rfl) rfl ?_
  intro pX eX sX mX bX methX cX AX C
  refine j_iconst C dX5_takeTold_0 (nI 0) (by decide) 1 rfl ?_
  refine j_istore C dX5_takeTold_1 [(5, .int (nI 0)), (0, .ref d), (1, .ref hr), (2, .ref ob), (3, .int (nI way)), (4, .int (nI code))] (by decide) rfl 3 rfl ?_
  refine j_iload C dX5_takeTold_3 5 rfl 5 rfl ?_
  refine j_bipush C dX5_takeTold_5 (nI 8) (by decide) 7 rfl ?_
  refine j_icmp_ne C dX5_takeTold_7 24 (by decide) (q_t (by omega)) (q_t (n := 8) (Nat.le_of_ble_eq_true rfl)) 10 rfl (fun h7 => ?_) (fun h7 => ?_)
  · have hc8 : ¬ code = 8 := by omega
    refine j_iload C dX5_takeTold_24 5 rfl 26 rfl ?_
    refine j_if_eq C dX5_takeTold_26 44 (by decide) (q_t (by omega)) 29 rfl (fun h26 => ?_) (fun h26 => ?_)
    · have hrf : rfold t L w ax code = (0, 0, ax) := by unfold rfold; rw [if_neg hc8, if_pos (by omega)]
      refine j_lveq [(5, .int (nI ((rfold t L w ax code).2.1))), (0, .ref d), (1, .ref hr), (2, .ref ob), (3, .int (nI way)), (4, .int (nI code))] (by rw [hrf]) ?_
      refine j_world [(d, .inr (5, [.ref vo, .ref vu, .int (nI ((rfold t L w ax code).2.2))])), (vo, .inr (6, [.ref va, .int (nI i)])), (va, .inl (cI, 64, .inl (aN rf))), (vu, .inr (1, [.int (nI 0), .int y, .int z])), (hr, .inr (7, [.int (nI w), .int (nI sz), .int (nI ev)])), (ob, .inr (0, [.ref ta, .int (nI L)])), (ta, .inl (cI, 1000, .inl (aN tf)))] (by rw [show ((rfold t L w ax code).2.2 : Nat) = ax from ((by rw [hrf]) : (ax : Nat) = (rfold t L w ax code).2.2).symm]) ?_
      have hrl := rfold_le ht hax hc hok
      have h2w := tpW_le hw.2
      have hto := told_le (sz := sz) (ev := ev) (way := way) hw.1 hg hi (Nat.le_refl i)
      refine j_aload_n C dX5_takeTold_44 1 rfl 45 rfl ?_
      refine j_get C dX5_takeTold_45 0 1 2 inX5_takeTold_5 rfl rfl (by decide) rfl rfl rfl 48 rfl ?_
      refine j_callVi1 (As := []) (rest := []) (wr := [(d, .inr (5, [.ref vo, .ref vu, .int (nI ((rfold t L w ax code).2.2))])), (vo, .inr (6, [.ref va, .int (nI i)])), (va, .inl (cI, 64, .inl (aN rf))), (hr, .inr (7, [.int (nI w), .int (nI sz), .int (nI ev)])), (ob, .inr (0, [.ref ta, .int (nI L)])), (ta, .inl (cI, 1000, .inl (aN tf)))]) C (c_X1_isTold l D cI cZ cH vu 0 y z (by omega)) gX5_takeTold_X1_isTold dX5_takeTold_48 rfl yd_X1_isTold (Nat.le_of_ble_eq_true rfl) (Nat.le_of_ble_eq_true rfl) rfl rfl rfl _ rfl (Nat.le_of_ble_eq_true rfl) (Nat.zero_le _) (Nat.zero_le _) [3] [0, 1, 2, 4, 5, 6] rfl rfl rfl rfl rfl (by decide) [0, 1, 2, 6, 3, 4, 5] [(d, .inr (5, [.ref vo, .ref vu, .int (nI ((rfold t L w ax code).2.2))])), (vo, .inr (6, [.ref va, .int (nI i)])), (va, .inl (cI, 64, .inl (aN rf))), (vu, .inr (1, [.int (nI 0), .int y, .int z])), (hr, .inr (7, [.int (nI w), .int (nI sz), .int (nI ev)])), (ob, .inr (0, [.ref ta, .int (nI L)])), (ta, .inl (cI, 1000, .inl (aN tf)))] rfl rfl rfl 51 rfl ?_
      refine j_ifb_eq C dX5_takeTold_51 57 (by decide) 54 rfl (fun h51 => ?_) (fun h9 => by exfalso; omega)
      refine j_iload C dX5_takeTold_57 0 rfl 59 rfl ?_
      refine j_aload_n C dX5_takeTold_59 2 rfl 60 rfl ?_
      refine j_aload_n C dX5_takeTold_60 1 rfl 61 rfl ?_
      refine j_get C dX5_takeTold_61 0 0 3 inX5_takeTold_5 rfl rfl (by decide) rfl rfl rfl 64 rfl ?_
      refine j_aload_n C dX5_takeTold_64 1 rfl 65 rfl ?_
      refine j_get C dX5_takeTold_65 0 0 3 inX5_takeTold_5 rfl rfl (by decide) rfl rfl rfl 68 rfl ?_
      refine j_get C dX5_takeTold_68 1 1 4 inX5_takeTold_6 rfl rfl (by decide) rfl rfl rfl 71 rfl ?_
      refine j_iload_n C dX5_takeTold_71 4 rfl 72 rfl ?_
      refine j_callNi1 (As := [.ref hr, .ref vo, .int (nI i), .int (nI way)]) (rest := [.int (nI ((rfold t L w ax code).2.1))]) (wr := [(d, .inr (5, [.ref vo, .ref vu, .int (nI ((rfold t L w ax code).2.2))])), (vu, .inr (1, [.int (nI 0), .int y, .int z])), (ob, .inr (0, [.ref ta, .int (nI L)])), (ta, .inl (cI, 1000, .inl (aN tf)))]) C (c_X8_toldAhead l D cI cZ cH hr w sz ev vo va i rf g i way hw hsz hev (by omega) hfg hg (by omega) (by omega) (by omega)) gX5_takeTold_X8_toldAhead_n92 19 rfl 43 31 rfl rfl dX5_takeTold_72 rfl yd_X8_toldAhead.2 (Nat.le_of_ble_eq_true rfl) (Nat.le_of_ble_eq_true rfl) rfl _ rfl (Nat.le_of_ble_eq_true rfl) (Nat.zero_le _) (Nat.zero_le _) [4, 1, 2] [0, 3, 5, 6] rfl rfl rfl rfl rfl (by decide) [0, 5, 6, 1, 4, 2, 3] [(d, .inr (5, [.ref vo, .ref vu, .int (nI ((rfold t L w ax code).2.2))])), (vo, .inr (6, [.ref va, .int (nI i)])), (va, .inl (cI, 64, .inl (aN rf))), (vu, .inr (1, [.int (nI 0), .int y, .int z])), (hr, .inr (7, [.int (nI w), .int (nI sz), .int (nI ev)])), (ob, .inr (0, [.ref ta, .int (nI L)])), (ta, .inl (cI, 1000, .inl (aN tf)))] rfl rfl rfl 75 rfl ?_
      refine j_aload_n C dX5_takeTold_75 2 rfl 76 rfl ?_
      refine j_callVi1 (As := []) (rest := [.int (nI (told w sz ev g i way)), .int (nI ((rfold t L w ax code).2.1))]) (wr := [(d, .inr (5, [.ref vo, .ref vu, .int (nI ((rfold t L w ax code).2.2))])), (vo, .inr (6, [.ref va, .int (nI i)])), (va, .inl (cI, 64, .inl (aN rf))), (vu, .inr (1, [.int (nI 0), .int y, .int z])), (ob, .inr (0, [.ref ta, .int (nI L)])), (ta, .inl (cI, 1000, .inl (aN tf)))]) C (c_X7_top l D cI cZ cH hr w sz ev (by omega)) gX5_takeTold_X7_top dX5_takeTold_76 rfl yd_X7_top (Nat.le_of_ble_eq_true rfl) (Nat.le_of_ble_eq_true rfl) rfl rfl rfl _ rfl (Nat.le_of_ble_eq_true rfl) (Nat.zero_le _) (Nat.zero_le _) [4] [0, 1, 2, 3, 5, 6] rfl rfl rfl rfl rfl (by decide) [0, 1, 2, 3, 6, 4, 5] [(d, .inr (5, [.ref vo, .ref vu, .int (nI ((rfold t L w ax code).2.2))])), (vo, .inr (6, [.ref va, .int (nI i)])), (va, .inl (cI, 64, .inl (aN rf))), (vu, .inr (1, [.int (nI 0), .int y, .int z])), (hr, .inr (7, [.int (nI w), .int (nI sz), .int (nI ev)])), (ob, .inr (0, [.ref ta, .int (nI L)])), (ta, .inl (cI, 1000, .inl (aN tf)))] rfl rfl rfl 79 rfl ?_
      refine j_callNi1 (As := [.int (nI ((rfold t L w ax code).2.1)), .int (nI (told w sz ev g i way)), .int (nI (tpW w))]) (rest := []) (wr := [(d, .inr (5, [.ref vo, .ref vu, .int (nI ((rfold t L w ax code).2.2))])), (vo, .inr (6, [.ref va, .int (nI i)])), (va, .inl (cI, 64, .inl (aN rf))), (vu, .inr (1, [.int (nI 0), .int y, .int z])), (hr, .inr (7, [.int (nI w), .int (nI sz), .int (nI ev)])), (ob, .inr (0, [.ref ta, .int (nI L)])), (ta, .inl (cI, 1000, .inl (aN tf)))]) C (c_X8_unfold l D cI cZ cH ((rfold t L w ax code).2.1) (told w sz ev g i way) (tpW w) (by omega) (by omega) (by omega)) gX5_takeTold_X8_unfold_n100 20 rfl 73 31 rfl rfl dX5_takeTold_79 rfl yd_X8_unfold.2 (Nat.le_of_ble_eq_true rfl) (Nat.le_of_ble_eq_true rfl) rfl _ rfl (Nat.le_of_ble_eq_true rfl) (Nat.zero_le _) (Nat.zero_le _) [] [0, 1, 2, 3, 4, 5, 6] rfl rfl rfl rfl rfl (by decide) [0, 1, 2, 3, 4, 5, 6] [(d, .inr (5, [.ref vo, .ref vu, .int (nI ((rfold t L w ax code).2.2))])), (vo, .inr (6, [.ref va, .int (nI i)])), (va, .inl (cI, 64, .inl (aN rf))), (vu, .inr (1, [.int (nI 0), .int y, .int z])), (hr, .inr (7, [.int (nI w), .int (nI sz), .int (nI ev)])), (ob, .inr (0, [.ref ta, .int (nI L)])), (ta, .inl (cI, 1000, .inl (aN tf)))] rfl rfl rfl 82 rfl ?_
      exact j_iret C dX5_takeTold_82 () (show (nI (unfoldN ((rfold t L w ax code).2.1) (told w sz ev g i way) (tpW w)) : Int32) = nI (unfoldN (rfold t L w ax code).2.1 (told w sz ev g i way) (tpW w)) from by first | rfl | omega | ((repeat' split) <;> first | rfl | omega | (exfalso; omega))) rfl
    · have hrf : rfold t L w ax code = rnou t L w ax (code - 1) := by unfold rfold; rw [if_neg hc8, if_neg (by omega)]
      refine j_aload_n C dX5_takeTold_29 1 rfl 30 rfl ?_
      refine j_aload_n C dX5_takeTold_30 3 rfl 31 rfl ?_
      refine j_aload_n C dX5_takeTold_31 2 rfl 32 rfl ?_
      refine j_get C dX5_takeTold_32 4 0 1 inX5_takeTold_7 rfl rfl (by decide) rfl rfl rfl 35 rfl ?_
      refine j_iload C dX5_takeTold_35 5 rfl 37 rfl ?_
      refine j_iconst C dX5_takeTold_37 (nI 1) (by decide) 38 rfl ?_
      refine j_isub C dX5_takeTold_38 (nI (code - 1)) (pk_sub (by omega)) 39 rfl ?_
      refine j_callVi1 (As := [.ref ob, .int (nI w), .int (nI (code - 1))]) (rest := []) (wr := [(va, .inl (cI, 64, .inl (aN rf))), (hr, .inr (7, [.int (nI w), .int (nI sz), .int (nI ev)]))]) C (c_X5_nouOk l D cI cZ cH d vo vu va ax i y z ob ta L tf t w (code - 1) hw (by omega) (by omega) hft (by omega) ht (by rw [← hrf]; exact hok)) gX5_takeTold_X5_takeByNoughts dX5_takeTold_39 rfl yd_X5_takeByNoughts (Nat.le_of_ble_eq_true rfl) (Nat.le_of_ble_eq_true rfl) rfl rfl rfl _ rfl (Nat.le_of_ble_eq_true rfl) (Nat.zero_le _) (Nat.zero_le _) [0, 1, 3, 5, 6] [2, 4] rfl rfl rfl rfl rfl (by decide) [2, 3, 0, 4, 1, 5, 6] [(d, .inr (5, [.ref vo, .ref vu, .int (nI ((rnou t L w ax (code - 1)).2.2))])), (vo, .inr (6, [.ref va, .int (nI i)])), (va, .inl (cI, 64, .inl (aN rf))), (vu, .inr (1, [.int (nI 0), .int y, .int z])), (hr, .inr (7, [.int (nI w), .int (nI sz), .int (nI ev)])), (ob, .inr (0, [.ref ta, .int (nI L)])), (ta, .inl (cI, 1000, .inl (aN tf)))] rfl rfl rfl 42 rfl ?_
      refine j_top (nI ((rfold t L w ax code).2.1)) (by rw [hrf]) ?_
      refine j_world [(d, .inr (5, [.ref vo, .ref vu, .int (nI ((rfold t L w ax code).2.2))])), (vo, .inr (6, [.ref va, .int (nI i)])), (va, .inl (cI, 64, .inl (aN rf))), (vu, .inr (1, [.int (nI 0), .int y, .int z])), (hr, .inr (7, [.int (nI w), .int (nI sz), .int (nI ev)])), (ob, .inr (0, [.ref ta, .int (nI L)])), (ta, .inl (cI, 1000, .inl (aN tf)))] (by rw [show ((rnou t L w ax (code - 1)).2.2 : Nat) = (rfold t L w ax code).2.2 from (by rw [hrf])]) ?_
      refine j_istore C dX5_takeTold_42 [(5, .int (nI ((rfold t L w ax code).2.1))), (0, .ref d), (1, .ref hr), (2, .ref ob), (3, .int (nI way)), (4, .int (nI code))] (by decide) rfl 44 rfl ?_
      have hrl := rfold_le ht hax hc hok
      have h2w := tpW_le hw.2
      have hto := told_le (sz := sz) (ev := ev) (way := way) hw.1 hg hi (Nat.le_refl i)
      refine j_aload_n C dX5_takeTold_44 1 rfl 45 rfl ?_
      refine j_get C dX5_takeTold_45 0 1 2 inX5_takeTold_5 rfl rfl (by decide) rfl rfl rfl 48 rfl ?_
      refine j_callVi1 (As := []) (rest := []) (wr := [(d, .inr (5, [.ref vo, .ref vu, .int (nI ((rfold t L w ax code).2.2))])), (vo, .inr (6, [.ref va, .int (nI i)])), (va, .inl (cI, 64, .inl (aN rf))), (hr, .inr (7, [.int (nI w), .int (nI sz), .int (nI ev)])), (ob, .inr (0, [.ref ta, .int (nI L)])), (ta, .inl (cI, 1000, .inl (aN tf)))]) C (c_X1_isTold l D cI cZ cH vu 0 y z (by omega)) gX5_takeTold_X1_isTold dX5_takeTold_48 rfl yd_X1_isTold (Nat.le_of_ble_eq_true rfl) (Nat.le_of_ble_eq_true rfl) rfl rfl rfl _ rfl (Nat.le_of_ble_eq_true rfl) (Nat.zero_le _) (Nat.zero_le _) [3] [0, 1, 2, 4, 5, 6] rfl rfl rfl rfl rfl (by decide) [0, 1, 2, 6, 3, 4, 5] [(d, .inr (5, [.ref vo, .ref vu, .int (nI ((rfold t L w ax code).2.2))])), (vo, .inr (6, [.ref va, .int (nI i)])), (va, .inl (cI, 64, .inl (aN rf))), (vu, .inr (1, [.int (nI 0), .int y, .int z])), (hr, .inr (7, [.int (nI w), .int (nI sz), .int (nI ev)])), (ob, .inr (0, [.ref ta, .int (nI L)])), (ta, .inl (cI, 1000, .inl (aN tf)))] rfl rfl rfl 51 rfl ?_
      refine j_ifb_eq C dX5_takeTold_51 57 (by decide) 54 rfl (fun h51 => ?_) (fun h9 => by exfalso; omega)
      refine j_iload C dX5_takeTold_57 0 rfl 59 rfl ?_
      refine j_aload_n C dX5_takeTold_59 2 rfl 60 rfl ?_
      refine j_aload_n C dX5_takeTold_60 1 rfl 61 rfl ?_
      refine j_get C dX5_takeTold_61 0 0 3 inX5_takeTold_5 rfl rfl (by decide) rfl rfl rfl 64 rfl ?_
      refine j_aload_n C dX5_takeTold_64 1 rfl 65 rfl ?_
      refine j_get C dX5_takeTold_65 0 0 3 inX5_takeTold_5 rfl rfl (by decide) rfl rfl rfl 68 rfl ?_
      refine j_get C dX5_takeTold_68 1 1 4 inX5_takeTold_6 rfl rfl (by decide) rfl rfl rfl 71 rfl ?_
      refine j_iload_n C dX5_takeTold_71 4 rfl 72 rfl ?_
      refine j_callNi1 (As := [.ref hr, .ref vo, .int (nI i), .int (nI way)]) (rest := [.int (nI ((rfold t L w ax code).2.1))]) (wr := [(d, .inr (5, [.ref vo, .ref vu, .int (nI ((rfold t L w ax code).2.2))])), (vu, .inr (1, [.int (nI 0), .int y, .int z])), (ob, .inr (0, [.ref ta, .int (nI L)])), (ta, .inl (cI, 1000, .inl (aN tf)))]) C (c_X8_toldAhead l D cI cZ cH hr w sz ev vo va i rf g i way hw hsz hev (by omega) hfg hg (by omega) (by omega) (by omega)) gX5_takeTold_X8_toldAhead_n92 19 rfl 43 31 rfl rfl dX5_takeTold_72 rfl yd_X8_toldAhead.2 (Nat.le_of_ble_eq_true rfl) (Nat.le_of_ble_eq_true rfl) rfl _ rfl (Nat.le_of_ble_eq_true rfl) (Nat.zero_le _) (Nat.zero_le _) [4, 1, 2] [0, 3, 5, 6] rfl rfl rfl rfl rfl (by decide) [0, 5, 6, 1, 4, 2, 3] [(d, .inr (5, [.ref vo, .ref vu, .int (nI ((rfold t L w ax code).2.2))])), (vo, .inr (6, [.ref va, .int (nI i)])), (va, .inl (cI, 64, .inl (aN rf))), (vu, .inr (1, [.int (nI 0), .int y, .int z])), (hr, .inr (7, [.int (nI w), .int (nI sz), .int (nI ev)])), (ob, .inr (0, [.ref ta, .int (nI L)])), (ta, .inl (cI, 1000, .inl (aN tf)))] rfl rfl rfl 75 rfl ?_
      refine j_aload_n C dX5_takeTold_75 2 rfl 76 rfl ?_
      refine j_callVi1 (As := []) (rest := [.int (nI (told w sz ev g i way)), .int (nI ((rfold t L w ax code).2.1))]) (wr := [(d, .inr (5, [.ref vo, .ref vu, .int (nI ((rfold t L w ax code).2.2))])), (vo, .inr (6, [.ref va, .int (nI i)])), (va, .inl (cI, 64, .inl (aN rf))), (vu, .inr (1, [.int (nI 0), .int y, .int z])), (ob, .inr (0, [.ref ta, .int (nI L)])), (ta, .inl (cI, 1000, .inl (aN tf)))]) C (c_X7_top l D cI cZ cH hr w sz ev (by omega)) gX5_takeTold_X7_top dX5_takeTold_76 rfl yd_X7_top (Nat.le_of_ble_eq_true rfl) (Nat.le_of_ble_eq_true rfl) rfl rfl rfl _ rfl (Nat.le_of_ble_eq_true rfl) (Nat.zero_le _) (Nat.zero_le _) [4] [0, 1, 2, 3, 5, 6] rfl rfl rfl rfl rfl (by decide) [0, 1, 2, 3, 6, 4, 5] [(d, .inr (5, [.ref vo, .ref vu, .int (nI ((rfold t L w ax code).2.2))])), (vo, .inr (6, [.ref va, .int (nI i)])), (va, .inl (cI, 64, .inl (aN rf))), (vu, .inr (1, [.int (nI 0), .int y, .int z])), (hr, .inr (7, [.int (nI w), .int (nI sz), .int (nI ev)])), (ob, .inr (0, [.ref ta, .int (nI L)])), (ta, .inl (cI, 1000, .inl (aN tf)))] rfl rfl rfl 79 rfl ?_
      refine j_callNi1 (As := [.int (nI ((rfold t L w ax code).2.1)), .int (nI (told w sz ev g i way)), .int (nI (tpW w))]) (rest := []) (wr := [(d, .inr (5, [.ref vo, .ref vu, .int (nI ((rfold t L w ax code).2.2))])), (vo, .inr (6, [.ref va, .int (nI i)])), (va, .inl (cI, 64, .inl (aN rf))), (vu, .inr (1, [.int (nI 0), .int y, .int z])), (hr, .inr (7, [.int (nI w), .int (nI sz), .int (nI ev)])), (ob, .inr (0, [.ref ta, .int (nI L)])), (ta, .inl (cI, 1000, .inl (aN tf)))]) C (c_X8_unfold l D cI cZ cH ((rfold t L w ax code).2.1) (told w sz ev g i way) (tpW w) (by omega) (by omega) (by omega)) gX5_takeTold_X8_unfold_n100 20 rfl 73 31 rfl rfl dX5_takeTold_79 rfl yd_X8_unfold.2 (Nat.le_of_ble_eq_true rfl) (Nat.le_of_ble_eq_true rfl) rfl _ rfl (Nat.le_of_ble_eq_true rfl) (Nat.zero_le _) (Nat.zero_le _) [] [0, 1, 2, 3, 4, 5, 6] rfl rfl rfl rfl rfl (by decide) [0, 1, 2, 3, 4, 5, 6] [(d, .inr (5, [.ref vo, .ref vu, .int (nI ((rfold t L w ax code).2.2))])), (vo, .inr (6, [.ref va, .int (nI i)])), (va, .inl (cI, 64, .inl (aN rf))), (vu, .inr (1, [.int (nI 0), .int y, .int z])), (hr, .inr (7, [.int (nI w), .int (nI sz), .int (nI ev)])), (ob, .inr (0, [.ref ta, .int (nI L)])), (ta, .inl (cI, 1000, .inl (aN tf)))] rfl rfl rfl 82 rfl ?_
      exact j_iret C dX5_takeTold_82 () (show (nI (unfoldN ((rfold t L w ax code).2.1) (told w sz ev g i way) (tpW w)) : Int32) = nI (unfoldN (rfold t L w ax code).2.1 (told w sz ev g i way) (tpW w)) from by first | rfl | omega | ((repeat' split) <;> first | rfl | omega | (exfalso; omega))) rfl
  · have hc8 : code = 8 := by omega
    have hrf : rfold t L w ax code = rnum t L ax w := if_pos hc8
    have hle : ax + w ≤ L := by
      rcases Nat.lt_or_ge L (ax + w) with h9 | h9
      · rw [hrf, rnum_no h9] at hok; simp at hok
      · exact h9
    refine j_aload_n C dX5_takeTold_10 1 rfl 11 rfl ?_
    refine j_aload_n C dX5_takeTold_11 3 rfl 12 rfl ?_
    refine j_aload_n C dX5_takeTold_12 2 rfl 13 rfl ?_
    refine j_get C dX5_takeTold_13 4 0 1 inX5_takeTold_7 rfl rfl (by decide) rfl rfl rfl 16 rfl ?_
    refine j_callVi1 (As := [.ref ob, .int (nI w)]) (rest := []) (wr := [(vo, .inr (6, [.ref va, .int (nI i)])), (va, .inl (cI, 64, .inl (aN rf))), (vu, .inr (1, [.int (nI 0), .int y, .int z])), (hr, .inr (7, [.int (nI w), .int (nI sz), .int (nI ev)]))]) C (c_X5_tnOk l D cI cZ cH d vo vu ax ob ta L tf t w (by omega) hft hle (by omega)) gX5_takeTold_X5_takeNumber dX5_takeTold_16 rfl yd_X5_takeNumber (Nat.le_of_ble_eq_true rfl) (Nat.le_of_ble_eq_true rfl) rfl rfl rfl _ rfl (Nat.le_of_ble_eq_true rfl) (Nat.zero_le _) (Nat.zero_le _) [0, 5, 6] [1, 2, 3, 4] rfl rfl rfl rfl rfl (by decide) [4, 0, 1, 2, 3, 5, 6] [(d, .inr (5, [.ref vo, .ref vu, .int (nI (ax + w))])), (vo, .inr (6, [.ref va, .int (nI i)])), (va, .inl (cI, 64, .inl (aN rf))), (vu, .inr (1, [.int (nI 0), .int y, .int z])), (hr, .inr (7, [.int (nI w), .int (nI sz), .int (nI ev)])), (ob, .inr (0, [.ref ta, .int (nI L)])), (ta, .inl (cI, 1000, .inl (aN tf)))] rfl rfl rfl 19 rfl ?_
    refine j_top (nI ((rfold t L w ax code).2.1)) (by rw [hrf, rnum_ok hle]) ?_
    refine j_world [(d, .inr (5, [.ref vo, .ref vu, .int (nI ((rfold t L w ax code).2.2))])), (vo, .inr (6, [.ref va, .int (nI i)])), (va, .inl (cI, 64, .inl (aN rf))), (vu, .inr (1, [.int (nI 0), .int y, .int z])), (hr, .inr (7, [.int (nI w), .int (nI sz), .int (nI ev)])), (ob, .inr (0, [.ref ta, .int (nI L)])), (ta, .inl (cI, 1000, .inl (aN tf)))] (by rw [show (ax + w : Nat) = (rfold t L w ax code).2.2 from (by rw [hrf, rnum_ok hle])]) ?_
    refine j_istore C dX5_takeTold_19 [(5, .int (nI ((rfold t L w ax code).2.1))), (0, .ref d), (1, .ref hr), (2, .ref ob), (3, .int (nI way)), (4, .int (nI code))] (by decide) rfl 21 rfl ?_
    refine j_goto C dX5_takeTold_21 44 (by decide) ?_
    have hrl := rfold_le ht hax hc hok
    have h2w := tpW_le hw.2
    have hto := told_le (sz := sz) (ev := ev) (way := way) hw.1 hg hi (Nat.le_refl i)
    refine j_aload_n C dX5_takeTold_44 1 rfl 45 rfl ?_
    refine j_get C dX5_takeTold_45 0 1 2 inX5_takeTold_5 rfl rfl (by decide) rfl rfl rfl 48 rfl ?_
    refine j_callVi1 (As := []) (rest := []) (wr := [(d, .inr (5, [.ref vo, .ref vu, .int (nI ((rfold t L w ax code).2.2))])), (vo, .inr (6, [.ref va, .int (nI i)])), (va, .inl (cI, 64, .inl (aN rf))), (hr, .inr (7, [.int (nI w), .int (nI sz), .int (nI ev)])), (ob, .inr (0, [.ref ta, .int (nI L)])), (ta, .inl (cI, 1000, .inl (aN tf)))]) C (c_X1_isTold l D cI cZ cH vu 0 y z (by omega)) gX5_takeTold_X1_isTold dX5_takeTold_48 rfl yd_X1_isTold (Nat.le_of_ble_eq_true rfl) (Nat.le_of_ble_eq_true rfl) rfl rfl rfl _ rfl (Nat.le_of_ble_eq_true rfl) (Nat.zero_le _) (Nat.zero_le _) [3] [0, 1, 2, 4, 5, 6] rfl rfl rfl rfl rfl (by decide) [0, 1, 2, 6, 3, 4, 5] [(d, .inr (5, [.ref vo, .ref vu, .int (nI ((rfold t L w ax code).2.2))])), (vo, .inr (6, [.ref va, .int (nI i)])), (va, .inl (cI, 64, .inl (aN rf))), (vu, .inr (1, [.int (nI 0), .int y, .int z])), (hr, .inr (7, [.int (nI w), .int (nI sz), .int (nI ev)])), (ob, .inr (0, [.ref ta, .int (nI L)])), (ta, .inl (cI, 1000, .inl (aN tf)))] rfl rfl rfl 51 rfl ?_
    refine j_ifb_eq C dX5_takeTold_51 57 (by decide) 54 rfl (fun h51 => ?_) (fun h9 => by exfalso; omega)
    refine j_iload C dX5_takeTold_57 0 rfl 59 rfl ?_
    refine j_aload_n C dX5_takeTold_59 2 rfl 60 rfl ?_
    refine j_aload_n C dX5_takeTold_60 1 rfl 61 rfl ?_
    refine j_get C dX5_takeTold_61 0 0 3 inX5_takeTold_5 rfl rfl (by decide) rfl rfl rfl 64 rfl ?_
    refine j_aload_n C dX5_takeTold_64 1 rfl 65 rfl ?_
    refine j_get C dX5_takeTold_65 0 0 3 inX5_takeTold_5 rfl rfl (by decide) rfl rfl rfl 68 rfl ?_
    refine j_get C dX5_takeTold_68 1 1 4 inX5_takeTold_6 rfl rfl (by decide) rfl rfl rfl 71 rfl ?_
    refine j_iload_n C dX5_takeTold_71 4 rfl 72 rfl ?_
    refine j_callNi1 (As := [.ref hr, .ref vo, .int (nI i), .int (nI way)]) (rest := [.int (nI ((rfold t L w ax code).2.1))]) (wr := [(d, .inr (5, [.ref vo, .ref vu, .int (nI ((rfold t L w ax code).2.2))])), (vu, .inr (1, [.int (nI 0), .int y, .int z])), (ob, .inr (0, [.ref ta, .int (nI L)])), (ta, .inl (cI, 1000, .inl (aN tf)))]) C (c_X8_toldAhead l D cI cZ cH hr w sz ev vo va i rf g i way hw hsz hev (by omega) hfg hg (by omega) (by omega) (by omega)) gX5_takeTold_X8_toldAhead_n92 19 rfl 43 31 rfl rfl dX5_takeTold_72 rfl yd_X8_toldAhead.2 (Nat.le_of_ble_eq_true rfl) (Nat.le_of_ble_eq_true rfl) rfl _ rfl (Nat.le_of_ble_eq_true rfl) (Nat.zero_le _) (Nat.zero_le _) [4, 1, 2] [0, 3, 5, 6] rfl rfl rfl rfl rfl (by decide) [0, 5, 6, 1, 4, 2, 3] [(d, .inr (5, [.ref vo, .ref vu, .int (nI ((rfold t L w ax code).2.2))])), (vo, .inr (6, [.ref va, .int (nI i)])), (va, .inl (cI, 64, .inl (aN rf))), (vu, .inr (1, [.int (nI 0), .int y, .int z])), (hr, .inr (7, [.int (nI w), .int (nI sz), .int (nI ev)])), (ob, .inr (0, [.ref ta, .int (nI L)])), (ta, .inl (cI, 1000, .inl (aN tf)))] rfl rfl rfl 75 rfl ?_
    refine j_aload_n C dX5_takeTold_75 2 rfl 76 rfl ?_
    refine j_callVi1 (As := []) (rest := [.int (nI (told w sz ev g i way)), .int (nI ((rfold t L w ax code).2.1))]) (wr := [(d, .inr (5, [.ref vo, .ref vu, .int (nI ((rfold t L w ax code).2.2))])), (vo, .inr (6, [.ref va, .int (nI i)])), (va, .inl (cI, 64, .inl (aN rf))), (vu, .inr (1, [.int (nI 0), .int y, .int z])), (ob, .inr (0, [.ref ta, .int (nI L)])), (ta, .inl (cI, 1000, .inl (aN tf)))]) C (c_X7_top l D cI cZ cH hr w sz ev (by omega)) gX5_takeTold_X7_top dX5_takeTold_76 rfl yd_X7_top (Nat.le_of_ble_eq_true rfl) (Nat.le_of_ble_eq_true rfl) rfl rfl rfl _ rfl (Nat.le_of_ble_eq_true rfl) (Nat.zero_le _) (Nat.zero_le _) [4] [0, 1, 2, 3, 5, 6] rfl rfl rfl rfl rfl (by decide) [0, 1, 2, 3, 6, 4, 5] [(d, .inr (5, [.ref vo, .ref vu, .int (nI ((rfold t L w ax code).2.2))])), (vo, .inr (6, [.ref va, .int (nI i)])), (va, .inl (cI, 64, .inl (aN rf))), (vu, .inr (1, [.int (nI 0), .int y, .int z])), (hr, .inr (7, [.int (nI w), .int (nI sz), .int (nI ev)])), (ob, .inr (0, [.ref ta, .int (nI L)])), (ta, .inl (cI, 1000, .inl (aN tf)))] rfl rfl rfl 79 rfl ?_
    refine j_callNi1 (As := [.int (nI ((rfold t L w ax code).2.1)), .int (nI (told w sz ev g i way)), .int (nI (tpW w))]) (rest := []) (wr := [(d, .inr (5, [.ref vo, .ref vu, .int (nI ((rfold t L w ax code).2.2))])), (vo, .inr (6, [.ref va, .int (nI i)])), (va, .inl (cI, 64, .inl (aN rf))), (vu, .inr (1, [.int (nI 0), .int y, .int z])), (hr, .inr (7, [.int (nI w), .int (nI sz), .int (nI ev)])), (ob, .inr (0, [.ref ta, .int (nI L)])), (ta, .inl (cI, 1000, .inl (aN tf)))]) C (c_X8_unfold l D cI cZ cH ((rfold t L w ax code).2.1) (told w sz ev g i way) (tpW w) (by omega) (by omega) (by omega)) gX5_takeTold_X8_unfold_n100 20 rfl 73 31 rfl rfl dX5_takeTold_79 rfl yd_X8_unfold.2 (Nat.le_of_ble_eq_true rfl) (Nat.le_of_ble_eq_true rfl) rfl _ rfl (Nat.le_of_ble_eq_true rfl) (Nat.zero_le _) (Nat.zero_le _) [] [0, 1, 2, 3, 4, 5, 6] rfl rfl rfl rfl rfl (by decide) [0, 1, 2, 3, 4, 5, 6] [(d, .inr (5, [.ref vo, .ref vu, .int (nI ((rfold t L w ax code).2.2))])), (vo, .inr (6, [.ref va, .int (nI i)])), (va, .inl (cI, 64, .inl (aN rf))), (vu, .inr (1, [.int (nI 0), .int y, .int z])), (hr, .inr (7, [.int (nI w), .int (nI sz), .int (nI ev)])), (ob, .inr (0, [.ref ta, .int (nI L)])), (ta, .inl (cI, 1000, .inl (aN tf)))] rfl rfl rfl 82 rfl ?_
    exact j_iret C dX5_takeTold_82 () (show (nI (unfoldN ((rfold t L w ax code).2.1) (told w sz ev g i way) (tpW w)) : Int32) = nI (unfoldN (rfold t L w ax code).2.1 (told w sz ev g i way) (tpW w)) from by first | rfl | omega | ((repeat' split) <;> first | rfl | omega | (exfalso; omega))) rfl
set_option maxHeartbeats 4000000 in
set_option maxRecDepth 100000 in
theorem c_X5_toldNo (l : Launch) (D : va_G) (cI cZ cH : ClassId) (d vo vu va ax i : Nat) (rf g : Nat → Nat) (y z : Int32) (hr w sz ev ob ta L : Nat) (tf t : Nat → Nat) (way code : Nat) (hw : 2 ≤ w ∧ w ≤ 8) (hsz : 1 ≤ sz ∧ sz ≤ 8) (hev : 1 ≤ ev ∧ ev ≤ 8) (hL : L ≤ 1000) (hft : ∀ j, j < L → tf j = t j) (ht : ∀ j, j < L → t j ≤ 1) (hax : ax ≤ L) (hi : 1 ≤ i) (hi64 : i ≤ 64) (hfg : ∀ j, j < i → rf j = g j) (hg : ∀ j, j < i → g j ≤ tpW w) (hway : way ≤ 3) (hc : okC w code) (hok : ¬ (rfold t L w ax code).1 = 0) : Mi l D cI cZ cH yX5_takeTold wsX5_takeTold 3 72 [.ref d, .ref hr, .ref ob, .int (nI way), .int (nI code)] [(d, .inr (5, [.ref vo, .ref vu, .int (nI ax)])), (vo, .inr (6, [.ref va, .int (nI i)])), (va, .inl (cI, 64, .inl (aN rf))), (vu, .inr (1, [.int (nI 0), .int y, .int z])), (hr, .inr (7, [.int (nI w), .int (nI sz), .int (nI ev)])), (ob, .inr (0, [.ref ta, .int (nI L)])), (ta, .inl (cI, 1000, .inl (aN tf)))] (fun (r9 : Int32) (ax2 : Nat) => r9 = -6) (fun (ax2 : Nat) => [(d, .inr (5, [.ref vo, .ref vu, .int (nI ax2)])), (vo, .inr (6, [.ref va, .int (nI i)])), (va, .inl (cI, 64, .inl (aN rf))), (vu, .inr (1, [.int (nI ((rfold t L w ax code).1)), .int (nI (rfold t L w ax code).2.1), .int (nI i)])), (hr, .inr (7, [.int (nI w), .int (nI sz), .int (nI ev)])), (ob, .inr (0, [.ref ta, .int (nI L)])), (ta, .inl (cI, 1000, .inl (aN tf)))]) := by
  refine Mi.start (cc := cX5_takeTold) (nL := 6) (ret := (some .int)) (lv0 := [(0, .ref d), (1, .ref hr), (2, .ref ob), (3, .int (nI way)), (4, .int (nI code))]) (by decide) rfl (Nat.le_of_ble_eq_true rfl) rfl ?_
  intro pX eX sX mX bX methX cX AX C
  refine j_iconst C dX5_takeTold_0 (nI 0) (by decide) 1 rfl ?_
  refine j_istore C dX5_takeTold_1 [(5, .int (nI 0)), (0, .ref d), (1, .ref hr), (2, .ref ob), (3, .int (nI way)), (4, .int (nI code))] (by decide) rfl 3 rfl ?_
  refine j_iload C dX5_takeTold_3 5 rfl 5 rfl ?_
  refine j_bipush C dX5_takeTold_5 (nI 8) (by decide) 7 rfl ?_
  refine j_icmp_ne C dX5_takeTold_7 24 (by decide) (q_t (by omega)) (q_t (n := 8) (Nat.le_of_ble_eq_true rfl)) 10 rfl (fun h7 => ?_) (fun h7 => ?_)
  · have hc8 : ¬ code = 8 := by omega
    refine j_iload C dX5_takeTold_24 5 rfl 26 rfl ?_
    refine j_if_eq C dX5_takeTold_26 44 (by decide) (q_t (by omega)) 29 rfl (fun h9 => by exfalso; apply hok; unfold rfold; rw [if_neg hc8, if_pos (by omega)]) (fun h26 => ?_)
    have hrf : rfold t L w ax code = rnou t L w ax (code - 1) := by unfold rfold; rw [if_neg hc8, if_neg (by omega)]
    refine j_aload_n C dX5_takeTold_29 1 rfl 30 rfl ?_
    refine j_aload_n C dX5_takeTold_30 3 rfl 31 rfl ?_
    refine j_aload_n C dX5_takeTold_31 2 rfl 32 rfl ?_
    refine j_get C dX5_takeTold_32 4 0 1 inX5_takeTold_7 rfl rfl (by decide) rfl rfl rfl 35 rfl ?_
    refine j_iload C dX5_takeTold_35 5 rfl 37 rfl ?_
    refine j_iconst C dX5_takeTold_37 (nI 1) (by decide) 38 rfl ?_
    refine j_isub C dX5_takeTold_38 (nI (code - 1)) (pk_sub (by omega)) 39 rfl ?_
    refine j_callVi (As := [.ref ob, .int (nI w), .int (nI (code - 1))]) (rest := []) (wr := [(va, .inl (cI, 64, .inl (aN rf))), (hr, .inr (7, [.int (nI w), .int (nI sz), .int (nI ev)]))]) C (c_X5_nouNo l D cI cZ cH d vo vu va ax i y z ob ta L tf t w (code - 1) hw (by omega) (by omega) hft (by omega) ht (by rw [← hrf]; exact hok)) gX5_takeTold_X5_takeByNoughts dX5_takeTold_39 rfl yd_X5_takeByNoughts (Nat.le_of_ble_eq_true rfl) (Nat.le_of_ble_eq_true rfl) rfl rfl rfl _ rfl (Nat.le_of_ble_eq_true rfl) (Nat.zero_le _) (Nat.zero_le _) [0, 1, 3, 5, 6] [2, 4] rfl rfl rfl rfl rfl (by decide) [2, 3, 0, 4, 1, 5, 6] (fun ax2_39 => [(d, .inr (5, [.ref vo, .ref vu, .int (nI ax2_39)])), (vo, .inr (6, [.ref va, .int (nI i)])), (va, .inl (cI, 64, .inl (aN rf))), (vu, .inr (1, [.int (nI ((rnou t L w ax (code - 1)).1)), .int (nI (rnou t L w ax (code - 1)).2.1), .int (nI i)])), (hr, .inr (7, [.int (nI w), .int (nI sz), .int (nI ev)])), (ob, .inr (0, [.ref ta, .int (nI L)])), (ta, .inl (cI, 1000, .inl (aN tf)))]) (fun _ => rfl) (fun _ => rfl) rfl 42 rfl (fun r_39 u9 hpo39 => ?_)
    obtain ⟨ax2_39, hu9⟩ : ∃ z, z = u9 := ⟨_, rfl⟩
    subst hu9
    replace hpo39 : r_39 = -6 := hpo39
    show J D AX pX l eX _ sX mX _ bX methX cX 0 0 _ 6 [(d, .inr (5, [.ref vo, .ref vu, .int (nI ax2_39)])), (vo, .inr (6, [.ref va, .int (nI i)])), (va, .inl (cI, 64, .inl (aN rf))), (vu, .inr (1, [.int (nI ((rnou t L w ax (code - 1)).1)), .int (nI (rnou t L w ax (code - 1)).2.1), .int (nI i)])), (hr, .inr (7, [.int (nI w), .int (nI sz), .int (nI ev)])), (ob, .inr (0, [.ref ta, .int (nI L)])), (ta, .inl (cI, 1000, .inl (aN tf)))] [(5, .int (nI 0)), (0, .ref d), (1, .ref hr), (2, .ref ob), (3, .int (nI way)), (4, .int (nI code))] 42 [.int r_39]
    have hlt9 := rnou_lt t L w ax (code - 1)
    have hok2 : ¬ (rnou t L w ax (code - 1)).1 = 0 := by rw [← hrf]; exact hok
    refine j_istore C dX5_takeTold_42 [(5, .int r_39), (0, .ref d), (1, .ref hr), (2, .ref ob), (3, .int (nI way)), (4, .int (nI code))] (by decide) rfl 44 rfl ?_
    refine j_aload_n C dX5_takeTold_44 1 rfl 45 rfl ?_
    refine j_get C dX5_takeTold_45 0 1 2 inX5_takeTold_5 rfl rfl (by decide) rfl rfl rfl 48 rfl ?_
    refine j_callVi1 (As := []) (rest := []) (wr := [(d, .inr (5, [.ref vo, .ref vu, .int (nI ax2_39)])), (vo, .inr (6, [.ref va, .int (nI i)])), (va, .inl (cI, 64, .inl (aN rf))), (hr, .inr (7, [.int (nI w), .int (nI sz), .int (nI ev)])), (ob, .inr (0, [.ref ta, .int (nI L)])), (ta, .inl (cI, 1000, .inl (aN tf)))]) C (c_X1_isTold l D cI cZ cH vu ((rnou t L w ax (code - 1)).1) (nI (rnou t L w ax (code - 1)).2.1) (nI i) (by omega)) gX5_takeTold_X1_isTold dX5_takeTold_48 rfl yd_X1_isTold (Nat.le_of_ble_eq_true rfl) (Nat.le_of_ble_eq_true rfl) rfl rfl rfl _ rfl (Nat.le_of_ble_eq_true rfl) (Nat.zero_le _) (Nat.zero_le _) [3] [0, 1, 2, 4, 5, 6] rfl rfl rfl rfl rfl (by decide) [0, 1, 2, 6, 3, 4, 5] [(d, .inr (5, [.ref vo, .ref vu, .int (nI ax2_39)])), (vo, .inr (6, [.ref va, .int (nI i)])), (va, .inl (cI, 64, .inl (aN rf))), (vu, .inr (1, [.int (nI ((rnou t L w ax (code - 1)).1)), .int (nI (rnou t L w ax (code - 1)).2.1), .int (nI i)])), (hr, .inr (7, [.int (nI w), .int (nI sz), .int (nI ev)])), (ob, .inr (0, [.ref ta, .int (nI L)])), (ta, .inl (cI, 1000, .inl (aN tf)))] rfl rfl rfl 51 rfl ?_
    refine j_ifb_eq C dX5_takeTold_51 57 (by decide) 54 rfl (fun h9 => by exfalso; omega) (fun h51 => ?_)
    refine j_bipush C dX5_takeTold_54 (-6) (by decide) 56 rfl ?_
    exact j_iret C dX5_takeTold_56 (ax2_39) rfl (by first | (rw [hrf2]; done) | (rw [hrf]; done))
  · have hc8 : code = 8 := by omega
    have hrf : rfold t L w ax code = rnum t L ax w := if_pos hc8
    have hle : L < ax + w := by
      rcases Nat.lt_or_ge L (ax + w) with h9 | h9
      · exact h9
      · rw [hrf, rnum_ok h9] at hok; exact absurd rfl hok
    refine j_aload_n C dX5_takeTold_10 1 rfl 11 rfl ?_
    refine j_aload_n C dX5_takeTold_11 3 rfl 12 rfl ?_
    refine j_aload_n C dX5_takeTold_12 2 rfl 13 rfl ?_
    refine j_get C dX5_takeTold_13 4 0 1 inX5_takeTold_7 rfl rfl (by decide) rfl rfl rfl 16 rfl ?_
    refine j_callVi1 (As := [.ref ob, .int (nI w)]) (rest := []) (wr := [(va, .inl (cI, 64, .inl (aN rf))), (hr, .inr (7, [.int (nI w), .int (nI sz), .int (nI ev)])), (ta, .inl (cI, 1000, .inl (aN tf)))]) C (c_X5_tnNo l D cI cZ cH d vo vu va ax i y z ob ta L w (by omega) (by omega) (by omega) (by omega)) gX5_takeTold_X5_takeNumber dX5_takeTold_16 rfl yd_X5_takeNumber (Nat.le_of_ble_eq_true rfl) (Nat.le_of_ble_eq_true rfl) rfl rfl rfl _ rfl (Nat.le_of_ble_eq_true rfl) (Nat.zero_le _) (Nat.zero_le _) [0, 1, 3, 5] [2, 4, 6] rfl rfl rfl rfl rfl (by decide) [3, 4, 0, 5, 1, 6, 2] [(d, .inr (5, [.ref vo, .ref vu, .int (nI ax)])), (vo, .inr (6, [.ref va, .int (nI i)])), (va, .inl (cI, 64, .inl (aN rf))), (vu, .inr (1, [.int (nI 1), .int (nI L), .int (nI i)])), (hr, .inr (7, [.int (nI w), .int (nI sz), .int (nI ev)])), (ob, .inr (0, [.ref ta, .int (nI L)])), (ta, .inl (cI, 1000, .inl (aN tf)))] rfl rfl rfl 19 rfl ?_
    have hrf2 := hrf.trans (rnum_no hle)
    refine j_istore C dX5_takeTold_19 [(5, .int (-6)), (0, .ref d), (1, .ref hr), (2, .ref ob), (3, .int (nI way)), (4, .int (nI code))] (by decide) rfl 21 rfl ?_
    refine j_goto C dX5_takeTold_21 44 (by decide) ?_
    refine j_aload_n C dX5_takeTold_44 1 rfl 45 rfl ?_
    refine j_get C dX5_takeTold_45 0 1 2 inX5_takeTold_5 rfl rfl (by decide) rfl rfl rfl 48 rfl ?_
    refine j_callVi1 (As := []) (rest := []) (wr := [(d, .inr (5, [.ref vo, .ref vu, .int (nI ax)])), (vo, .inr (6, [.ref va, .int (nI i)])), (va, .inl (cI, 64, .inl (aN rf))), (hr, .inr (7, [.int (nI w), .int (nI sz), .int (nI ev)])), (ob, .inr (0, [.ref ta, .int (nI L)])), (ta, .inl (cI, 1000, .inl (aN tf)))]) C (c_X1_isTold l D cI cZ cH vu 1 (nI L) (nI i) (by omega)) gX5_takeTold_X1_isTold dX5_takeTold_48 rfl yd_X1_isTold (Nat.le_of_ble_eq_true rfl) (Nat.le_of_ble_eq_true rfl) rfl rfl rfl _ rfl (Nat.le_of_ble_eq_true rfl) (Nat.zero_le _) (Nat.zero_le _) [3] [0, 1, 2, 4, 5, 6] rfl rfl rfl rfl rfl (by decide) [0, 1, 2, 6, 3, 4, 5] [(d, .inr (5, [.ref vo, .ref vu, .int (nI ax)])), (vo, .inr (6, [.ref va, .int (nI i)])), (va, .inl (cI, 64, .inl (aN rf))), (vu, .inr (1, [.int (nI 1), .int (nI L), .int (nI i)])), (hr, .inr (7, [.int (nI w), .int (nI sz), .int (nI ev)])), (ob, .inr (0, [.ref ta, .int (nI L)])), (ta, .inl (cI, 1000, .inl (aN tf)))] rfl rfl rfl 51 rfl ?_
    refine j_ifb_eq C dX5_takeTold_51 57 (by decide) 54 rfl (fun h9 => by exfalso; omega) (fun h51 => ?_)
    refine j_bipush C dX5_takeTold_54 (-6) (by decide) 56 rfl ?_
    exact j_iret C dX5_takeTold_56 (ax) rfl (by first | (rw [hrf2]; done) | (rw [hrf]; done))
set_option maxHeartbeats 4000000 in
set_option maxRecDepth 100000 in
theorem c_X5_takeBlock (l : Launch) (D : va_G) (cI cZ cH : ClassId) (d vo vu va ax i : Nat) (rf g : Nat → Nat) (y z : Int32) (hr w sz ev ob ta L : Nat) (tf t : Nat → Nat) (en : Nat) (hw : 2 ≤ w ∧ w ≤ 8) (hsz : 1 ≤ sz ∧ sz ≤ 8) (hev : 1 ≤ ev ∧ ev ≤ 8) (hL : L ≤ 1000) (hft : ∀ j, j < L → tf j = t j) (ht : ∀ j, j < L → t j ≤ 1) (hax : ax ≤ L) (hen : i ≤ en) (hen64 : en ≤ 64) (hfg : ∀ j, j < i → rf j = g j) (hg : ∀ j, j < i → g j ≤ tpW w) : Mv l D cI cZ cH yX5_takeBlock wsX5_takeBlock 4 97 [.ref d, .ref hr, .ref ob, .int (nI en)] [(d, .inr (5, [.ref vo, .ref vu, .int (nI ax)])), (vo, .inr (6, [.ref va, .int (nI i)])), (va, .inl (cI, 64, .inl (aN rf))), (vu, .inr (1, [.int (nI 0), .int y, .int z])), (hr, .inr (7, [.int (nI w), .int (nI sz), .int (nI ev)])), (ob, .inr (0, [.ref ta, .int (nI L)])), (ta, .inl (cI, 1000, .inl (aN tf)))] (fun (u9 : Nat × Nat × (Nat → Nat) × Nat × Int32 × Int32) => (u9.2.2.2.1) = (rblk t L w sz ev ax g i en).1 ∧ (u9.2.1) = (rblk t L w sz ev ax g i en).2.2.2.2 ∧ (∀ j, j < (u9.2.1) → (u9.2.2.1) j = (rblk t L w sz ev ax g i en).2.2.2.1 j) ∧ ((rblk t L w sz ev ax g i en).1 = 0 → (u9.1) = (rblk t L w sz ev ax g i en).2.2.1 ∧ (u9.2.2.2.2.1) = y ∧ (u9.2.2.2.2.2) = z) ∧ (¬ (rblk t L w sz ev ax g i en).1 = 0 → (u9.2.2.2.2.1) = nI (rblk t L w sz ev ax g i en).2.1 ∧ (u9.2.2.2.2.2) = nI (u9.2.1))) (fun (u9 : Nat × Nat × (Nat → Nat) × Nat × Int32 × Int32) => [(d, .inr (5, [.ref vo, .ref vu, .int (nI (u9.1))])), (vo, .inr (6, [.ref va, .int (nI (u9.2.1))])), (va, .inl (cI, 64, .inl (aN (u9.2.2.1)))), (vu, .inr (1, [.int (nI (u9.2.2.2.1)), .int (u9.2.2.2.2.1), .int (u9.2.2.2.2.2)])), (hr, .inr (7, [.int (nI w), .int (nI sz), .int (nI ev)])), (ob, .inr (0, [.ref ta, .int (nI L)])), (ta, .inl (cI, 1000, .inl (aN tf)))]) := by
  refine Mv.start (cc := cX5_takeBlock) (nL := 10) (ret := none) (lv0 := [(0, .ref d), (1, .ref hr), (2, .ref ob), (3, .int (nI en))]) (by decide) rfl (Nat.le_of_ble_eq_true rfl) rfl ?_
  intro pX eX sX mX bX methX cX AX C
  refine j_aload_n C dX5_takeBlock_0 0 rfl 1 rfl ?_
  refine j_get C dX5_takeBlock_1 0 2 1 inX5_takeBlock_5 rfl rfl (by decide) rfl rfl rfl 4 rfl ?_
  refine j_istore C dX5_takeBlock_4 [(4, .int (nI ax)), (0, .ref d), (1, .ref hr), (2, .ref ob), (3, .int (nI en))] (by decide) rfl 6 rfl ?_
  refine j_aload_n C dX5_takeBlock_6 1 rfl 7 rfl ?_
  refine j_aload_n C dX5_takeBlock_7 3 rfl 8 rfl ?_
  refine j_bipush C dX5_takeBlock_8 (nI 6) (by decide) 10 rfl ?_
  rcases Nat.lt_or_ge L (ax + 6) with h10 | h10
  · refine j_callVi1 (As := [.ref ob, .int (nI 6)]) (rest := []) (wr := [(va, .inl (cI, 64, .inl (aN rf))), (hr, .inr (7, [.int (nI w), .int (nI sz), .int (nI ev)])), (ta, .inl (cI, 1000, .inl (aN tf)))]) C (c_X5_tnNo l D cI cZ cH d vo vu va ax i y z ob ta L 6 (by omega) (by omega) (by omega) (by omega)) gX5_takeBlock_X5_takeNumber dX5_takeBlock_10 rfl yd_X5_takeNumber (Nat.le_of_ble_eq_true rfl) (Nat.le_of_ble_eq_true rfl) rfl rfl rfl _ rfl (Nat.le_of_ble_eq_true rfl) (Nat.zero_le _) (Nat.zero_le _) [0, 1, 3, 5] [2, 4, 6] rfl rfl rfl rfl rfl (by decide) [3, 4, 0, 5, 1, 6, 2] [(d, .inr (5, [.ref vo, .ref vu, .int (nI ax)])), (vo, .inr (6, [.ref va, .int (nI i)])), (va, .inl (cI, 64, .inl (aN rf))), (vu, .inr (1, [.int (nI 1), .int (nI L), .int (nI i)])), (hr, .inr (7, [.int (nI w), .int (nI sz), .int (nI ev)])), (ob, .inr (0, [.ref ta, .int (nI L)])), (ta, .inl (cI, 1000, .inl (aN tf)))] rfl rfl rfl 13 rfl ?_
    refine j_istore C dX5_takeBlock_13 [(5, .int (-6)), (4, .int (nI ax)), (0, .ref d), (1, .ref hr), (2, .ref ob), (3, .int (nI en))] (by decide) rfl 15 rfl ?_
    refine j_aload_n C dX5_takeBlock_15 2 rfl 16 rfl ?_
    refine j_get C dX5_takeBlock_16 0 1 2 inX5_takeBlock_5 rfl rfl (by decide) rfl rfl rfl 19 rfl ?_
    refine j_callVi1 (As := []) (rest := []) (wr := [(d, .inr (5, [.ref vo, .ref vu, .int (nI ax)])), (vo, .inr (6, [.ref va, .int (nI i)])), (va, .inl (cI, 64, .inl (aN rf))), (hr, .inr (7, [.int (nI w), .int (nI sz), .int (nI ev)])), (ob, .inr (0, [.ref ta, .int (nI L)])), (ta, .inl (cI, 1000, .inl (aN tf)))]) C (c_X1_isTold l D cI cZ cH vu 1 (nI L) (nI i) (by omega)) gX5_takeBlock_X1_isTold dX5_takeBlock_19 rfl yd_X1_isTold (Nat.le_of_ble_eq_true rfl) (Nat.le_of_ble_eq_true rfl) rfl rfl rfl _ rfl (Nat.le_of_ble_eq_true rfl) (Nat.zero_le _) (Nat.zero_le _) [3] [0, 1, 2, 4, 5, 6] rfl rfl rfl rfl rfl (by decide) [0, 1, 2, 6, 3, 4, 5] [(d, .inr (5, [.ref vo, .ref vu, .int (nI ax)])), (vo, .inr (6, [.ref va, .int (nI i)])), (va, .inl (cI, 64, .inl (aN rf))), (vu, .inr (1, [.int (nI 1), .int (nI L), .int (nI i)])), (hr, .inr (7, [.int (nI w), .int (nI sz), .int (nI ev)])), (ob, .inr (0, [.ref ta, .int (nI L)])), (ta, .inl (cI, 1000, .inl (aN tf)))] rfl rfl rfl 22 rfl ?_
    refine j_ifb_eq C dX5_takeBlock_22 26 (by decide) 25 rfl (fun h9 => by exfalso; omega) (fun h22 => ?_)
    exact j_vret C dX5_takeBlock_25 (ax, i, rf, 1, nI L, nI i) (by rw [rblk_1 h10]; exact ⟨rfl, rfl, hfg, fun h => by simp at h, fun _ => ⟨rfl, rfl⟩⟩) rfl
  · refine j_callVi1 (As := [.ref ob, .int (nI 6)]) (rest := []) (wr := [(vo, .inr (6, [.ref va, .int (nI i)])), (va, .inl (cI, 64, .inl (aN rf))), (vu, .inr (1, [.int (nI 0), .int y, .int z])), (hr, .inr (7, [.int (nI w), .int (nI sz), .int (nI ev)]))]) C (c_X5_tnOk l D cI cZ cH d vo vu ax ob ta L tf t 6 (by omega) hft (by omega) (by omega)) gX5_takeBlock_X5_takeNumber dX5_takeBlock_10 rfl yd_X5_takeNumber (Nat.le_of_ble_eq_true rfl) (Nat.le_of_ble_eq_true rfl) rfl rfl rfl _ rfl (Nat.le_of_ble_eq_true rfl) (Nat.zero_le _) (Nat.zero_le _) [0, 5, 6] [1, 2, 3, 4] rfl rfl rfl rfl rfl (by decide) [4, 0, 1, 2, 3, 5, 6] [(d, .inr (5, [.ref vo, .ref vu, .int (nI (ax + 6))])), (vo, .inr (6, [.ref va, .int (nI i)])), (va, .inl (cI, 64, .inl (aN rf))), (vu, .inr (1, [.int (nI 0), .int y, .int z])), (hr, .inr (7, [.int (nI w), .int (nI sz), .int (nI ev)])), (ob, .inr (0, [.ref ta, .int (nI L)])), (ta, .inl (cI, 1000, .inl (aN tf)))] rfl rfl rfl 13 rfl ?_
    have hrn : rn t ax 6 < 2 ^ 6 := rn_lt ht h10
    refine j_istore C dX5_takeBlock_13 [(5, .int (nI (rn t ax 6))), (4, .int (nI ax)), (0, .ref d), (1, .ref hr), (2, .ref ob), (3, .int (nI en))] (by decide) rfl 15 rfl ?_
    refine j_aload_n C dX5_takeBlock_15 2 rfl 16 rfl ?_
    refine j_get C dX5_takeBlock_16 0 1 2 inX5_takeBlock_5 rfl rfl (by decide) rfl rfl rfl 19 rfl ?_
    refine j_callVi1 (As := []) (rest := []) (wr := [(d, .inr (5, [.ref vo, .ref vu, .int (nI (ax + 6))])), (vo, .inr (6, [.ref va, .int (nI i)])), (va, .inl (cI, 64, .inl (aN rf))), (hr, .inr (7, [.int (nI w), .int (nI sz), .int (nI ev)])), (ob, .inr (0, [.ref ta, .int (nI L)])), (ta, .inl (cI, 1000, .inl (aN tf)))]) C (c_X1_isTold l D cI cZ cH vu 0 y z (by omega)) gX5_takeBlock_X1_isTold dX5_takeBlock_19 rfl yd_X1_isTold (Nat.le_of_ble_eq_true rfl) (Nat.le_of_ble_eq_true rfl) rfl rfl rfl _ rfl (Nat.le_of_ble_eq_true rfl) (Nat.zero_le _) (Nat.zero_le _) [3] [0, 1, 2, 4, 5, 6] rfl rfl rfl rfl rfl (by decide) [0, 1, 2, 6, 3, 4, 5] [(d, .inr (5, [.ref vo, .ref vu, .int (nI (ax + 6))])), (vo, .inr (6, [.ref va, .int (nI i)])), (va, .inl (cI, 64, .inl (aN rf))), (vu, .inr (1, [.int (nI 0), .int y, .int z])), (hr, .inr (7, [.int (nI w), .int (nI sz), .int (nI ev)])), (ob, .inr (0, [.ref ta, .int (nI L)])), (ta, .inl (cI, 1000, .inl (aN tf)))] rfl rfl rfl 22 rfl ?_
    refine j_ifb_eq C dX5_takeBlock_22 26 (by decide) 25 rfl (fun h22 => ?_) (fun h9 => by exfalso; omega)
    refine j_iload C dX5_takeBlock_26 0 rfl 28 rfl ?_
    refine j_iconst C dX5_takeBlock_28 (nI 4) (by decide) 29 rfl ?_
    refine j_ishr C dX5_takeBlock_29 (nI (rn t ax 6 / 16)) (q_shr (n := 4) (by omega) (by omega)) 30 rfl ?_
    have hshr29 := Nat.div_le_self (rn t ax 6) (2 ^ 4)
    refine j_istore C dX5_takeBlock_30 [(6, .int (nI (rn t ax 6 / 16))), (5, .int (nI (rn t ax 6))), (4, .int (nI ax)), (0, .ref d), (1, .ref hr), (2, .ref ob), (3, .int (nI en))] (by decide) rfl 32 rfl ?_
    refine j_iload C dX5_takeBlock_32 1 rfl 34 rfl ?_
    refine j_iconst C dX5_takeBlock_34 (nI 4) (by decide) 35 rfl ?_
    refine j_callNi1 (As := [.int (nI 4)]) (rest := [.int (nI (rn t ax 6))]) (wr := [(d, .inr (5, [.ref vo, .ref vu, .int (nI (ax + 6))])), (vo, .inr (6, [.ref va, .int (nI i)])), (va, .inl (cI, 64, .inl (aN rf))), (vu, .inr (1, [.int (nI 0), .int y, .int z])), (hr, .inr (7, [.int (nI w), .int (nI sz), .int (nI ev)])), (ob, .inr (0, [.ref ta, .int (nI L)])), (ta, .inl (cI, 1000, .inl (aN tf)))]) C (c_X8_topOf l D cI cZ cH 4 (by omega)) gX5_takeBlock_X8_topOf_n65 17 rfl 32 33 rfl rfl dX5_takeBlock_35 rfl yd_X8_topOf.2 (Nat.le_of_ble_eq_true rfl) (Nat.le_of_ble_eq_true rfl) rfl _ rfl (Nat.le_of_ble_eq_true rfl) (Nat.zero_le _) (Nat.zero_le _) [] [0, 1, 2, 3, 4, 5, 6] rfl rfl rfl rfl rfl (by decide) [0, 1, 2, 3, 4, 5, 6] [(d, .inr (5, [.ref vo, .ref vu, .int (nI (ax + 6))])), (vo, .inr (6, [.ref va, .int (nI i)])), (va, .inl (cI, 64, .inl (aN rf))), (vu, .inr (1, [.int (nI 0), .int y, .int z])), (hr, .inr (7, [.int (nI w), .int (nI sz), .int (nI ev)])), (ob, .inr (0, [.ref ta, .int (nI L)])), (ta, .inl (cI, 1000, .inl (aN tf)))] rfl rfl rfl 38 rfl ?_
    refine j_top (nI 15) rfl ?_
    refine j_iand C dX5_takeBlock_38 (nI ((rn t ax 6) % 16)) (q_and15 (by omega)) 39 rfl ?_
    refine j_istore C dX5_takeBlock_39 [(7, .int (nI ((rn t ax 6) % 16))), (6, .int (nI (rn t ax 6 / 16))), (5, .int (nI (rn t ax 6))), (4, .int (nI ax)), (0, .ref d), (1, .ref hr), (2, .ref ob), (3, .int (nI en))] (by decide) rfl 41 rfl ?_
    refine j_iload C dX5_takeBlock_41 0 rfl 43 rfl ?_
    refine j_aload_n C dX5_takeBlock_43 5 rfl 44 rfl ?_
    refine j_get C dX5_takeBlock_44 4 0 3 inX5_takeBlock_7 rfl rfl (by decide) rfl rfl rfl 47 rfl ?_
    refine j_callNi1 (As := [.int (nI ((rn t ax 6) % 16)), .int (nI w)]) (rest := []) (wr := [(d, .inr (5, [.ref vo, .ref vu, .int (nI (ax + 6))])), (vo, .inr (6, [.ref va, .int (nI i)])), (va, .inl (cI, 64, .inl (aN rf))), (vu, .inr (1, [.int (nI 0), .int y, .int z])), (hr, .inr (7, [.int (nI w), .int (nI sz), .int (nI ev)])), (ob, .inr (0, [.ref ta, .int (nI L)])), (ta, .inl (cI, 1000, .inl (aN tf)))]) C (c_X8_isCode l D cI cZ cH ((rn t ax 6) % 16) w (by omega) (by omega)) gX5_takeBlock_X8_isCode_n72 18 rfl 35 33 rfl rfl dX5_takeBlock_47 rfl yd_X8_isCode.2 (Nat.le_of_ble_eq_true rfl) (Nat.le_of_ble_eq_true rfl) rfl _ rfl (Nat.le_of_ble_eq_true rfl) (Nat.zero_le _) (Nat.zero_le _) [] [0, 1, 2, 3, 4, 5, 6] rfl rfl rfl rfl rfl (by decide) [0, 1, 2, 3, 4, 5, 6] [(d, .inr (5, [.ref vo, .ref vu, .int (nI (ax + 6))])), (vo, .inr (6, [.ref va, .int (nI i)])), (va, .inl (cI, 64, .inl (aN rf))), (vu, .inr (1, [.int (nI 0), .int y, .int z])), (hr, .inr (7, [.int (nI w), .int (nI sz), .int (nI ev)])), (ob, .inr (0, [.ref ta, .int (nI L)])), (ta, .inl (cI, 1000, .inl (aN tf)))] rfl rfl rfl 50 rfl ?_
    refine j_ifb_ne C dX5_takeBlock_50 62 (by decide) 53 rfl (fun h50 => ?_) (fun h50 => ?_)
    · refine j_aload_n C dX5_takeBlock_62 4 rfl 63 rfl ?_
      refine j_get C dX5_takeBlock_63 0 0 4 inX5_takeBlock_5 rfl rfl (by decide) rfl rfl rfl 66 rfl ?_
      refine j_get C dX5_takeBlock_66 1 1 5 inX5_takeBlock_6 rfl rfl (by decide) rfl rfl rfl 69 rfl ?_
      refine j_istore C dX5_takeBlock_69 [(8, .int (nI i)), (7, .int (nI ((rn t ax 6) % 16))), (6, .int (nI (rn t ax 6 / 16))), (5, .int (nI (rn t ax 6))), (4, .int (nI ax)), (0, .ref d), (1, .ref hr), (2, .ref ob), (3, .int (nI en))] (by decide) rfl 71 rfl ?_
      refine j_loop4 (fun (m : Nat) (ax1 : Nat) (rf1 : Nat → Nat) (g1 : Nat → Nat) => i + m ≤ en ∧ rS t L w sz ev (rn t ax 6 / 16) (rn t ax 6 % 16) (0, 0, ax + 6, g, i) m = (0, 0, ax1, g1, i + m) ∧ ∀ j, j < i + m → rf1 j = g1 j) (fun (m : Nat) (ax1 : Nat) (rf1 : Nat → Nat) (g1 : Nat → Nat) => en - (i + m)) (fun (m : Nat) (ax1 : Nat) (rf1 : Nat → Nat) (g1 : Nat → Nat) => [(d, .inr (5, [.ref vo, .ref vu, .int (nI ax1)])), (vo, .inr (6, [.ref va, .int (nI (i + m))])), (va, .inl (cI, 64, .inl (aN rf1))), (vu, .inr (1, [.int (nI 0), .int y, .int z])), (hr, .inr (7, [.int (nI w), .int (nI sz), .int (nI ev)])), (ob, .inr (0, [.ref ta, .int (nI L)])), (ta, .inl (cI, 1000, .inl (aN tf)))]) (fun (m : Nat) (ax1 : Nat) (rf1 : Nat → Nat) (g1 : Nat → Nat) => [(8, .int (nI (i + m))), (7, .int (nI ((rn t ax 6) % 16))), (6, .int (nI (rn t ax 6 / 16))), (5, .int (nI (rn t ax 6))), (4, .int (nI ax)), (0, .ref d), (1, .ref hr), (2, .ref ob), (3, .int (nI en))]) ?_ 0 (ax + 6) rf g ⟨by omega, rfl, hfg⟩ rfl rfl
      intro m ax1 rf1 g1 hI71 ih71
      obtain ⟨hm, hS, hfg1⟩ := hI71
      show J D AX pX l eX _ sX mX _ bX methX cX 0 0 _ 10 [(d, .inr (5, [.ref vo, .ref vu, .int (nI ax1)])), (vo, .inr (6, [.ref va, .int (nI (i + m))])), (va, .inl (cI, 64, .inl (aN rf1))), (vu, .inr (1, [.int (nI 0), .int y, .int z])), (hr, .inr (7, [.int (nI w), .int (nI sz), .int (nI ev)])), (ob, .inr (0, [.ref ta, .int (nI L)])), (ta, .inl (cI, 1000, .inl (aN tf)))] [(8, .int (nI (i + m))), (7, .int (nI ((rn t ax 6) % 16))), (6, .int (nI (rn t ax 6 / 16))), (5, .int (nI (rn t ax 6))), (4, .int (nI ax)), (0, .ref d), (1, .ref hr), (2, .ref ob), (3, .int (nI en))] 71 []
      have hgd := rS_good (sz := sz) (ev := ev) (way := rn t ax 6 / 16) (s := (0, 0, ax + 6, g, i)) hw.1 ht h50 ⟨h10, Nat.le_refl _, hg, by simp, fun h => absurd rfl h⟩ m
      rw [hS] at hgd
      have hax1 : ax1 ≤ L := hgd.1.1
      have hg1 : ∀ j, j < i + m → g1 j ≤ tpW w := hgd.1.2.2.1
      refine j_iload C dX5_takeBlock_71 0 rfl 73 rfl ?_
      refine j_iload_n C dX5_takeBlock_73 8 rfl 74 rfl ?_
      refine j_icmp_ge C dX5_takeBlock_74 136 (by decide) (q_t (by omega)) (q_t (by omega)) 77 rfl (fun h74 => ?_) (fun h74 => ?_)
      · exact j_vret C dX5_takeBlock_136 (ax1, i + m, rf1, 0, y, z) (by rw [show rblk t L w sz ev ax g i en = (0, 0, ax1, g1, i + m) from (rblk_0 h10 h50).trans (by rw [show en - i = m by omega]; exact hS)]; exact ⟨rfl, rfl, hfg1, fun _ => ⟨rfl, rfl, rfl⟩, fun h => absurd rfl h⟩) rfl
      · refine j_aload_n C dX5_takeBlock_77 6 rfl 78 rfl ?_
        refine j_iload C dX5_takeBlock_78 0 rfl 80 rfl ?_
        refine j_callVi1 (As := [.int (nI (i + m))]) (rest := []) (wr := [(d, .inr (5, [.ref vo, .ref vu, .int (nI ax1)])), (vo, .inr (6, [.ref va, .int (nI (i + m))])), (va, .inl (cI, 64, .inl (aN rf1))), (vu, .inr (1, [.int (nI 0), .int y, .int z])), (ob, .inr (0, [.ref ta, .int (nI L)])), (ta, .inl (cI, 1000, .inl (aN tf)))]) C (c_X7_isBare l D cI cZ cH hr w sz ev (i + m) (by omega) (by omega) (by omega)) gX5_takeBlock_X7_isBare dX5_takeBlock_80 rfl yd_X7_isBare (Nat.le_of_ble_eq_true rfl) (Nat.le_of_ble_eq_true rfl) rfl rfl rfl _ rfl (Nat.le_of_ble_eq_true rfl) (Nat.zero_le _) (Nat.zero_le _) [4] [0, 1, 2, 3, 5, 6] rfl rfl rfl rfl rfl (by decide) [0, 1, 2, 3, 6, 4, 5] [(d, .inr (5, [.ref vo, .ref vu, .int (nI ax1)])), (vo, .inr (6, [.ref va, .int (nI (i + m))])), (va, .inl (cI, 64, .inl (aN rf1))), (vu, .inr (1, [.int (nI 0), .int y, .int z])), (hr, .inr (7, [.int (nI w), .int (nI sz), .int (nI ev)])), (ob, .inr (0, [.ref ta, .int (nI L)])), (ta, .inl (cI, 1000, .inl (aN tf)))] rfl rfl rfl 83 rfl ?_
        refine j_ifb_eq C dX5_takeBlock_83 98 (by decide) 86 rfl (fun h83 => ?_) (fun h83 => ?_)
        · have hi1 : 1 ≤ i + m := pos_of_mod h83
          refine j_aload_n C dX5_takeBlock_98 5 rfl 99 rfl ?_
          refine j_aload_n C dX5_takeBlock_99 6 rfl 100 rfl ?_
          refine j_aload_n C dX5_takeBlock_100 7 rfl 101 rfl ?_
          refine j_iload C dX5_takeBlock_101 2 rfl 103 rfl ?_
          refine j_iload C dX5_takeBlock_103 1 rfl 105 rfl ?_
          rcases Nat.eq_zero_or_pos (rfold t L w ax1 (rn t ax 6 % 16)).1 with h105 | h105
          · refine j_callVi1 (As := [.ref hr, .ref ob, .int (nI (rn t ax 6 / 16)), .int (nI ((rn t ax 6) % 16))]) (rest := []) (wr := []) C (c_X5_toldOk l D cI cZ cH d vo vu va ax1 (i + m) rf1 g1 y z hr w sz ev ob ta L tf t (rn t ax 6 / 16) ((rn t ax 6) % 16) hw hsz hev (by omega) hft ht (by omega) (by omega) (by omega) hfg1 hg1 (by omega) h50 h105) gX5_takeBlock_X5_takeTold dX5_takeBlock_105 rfl yd_X5_takeTold (Nat.le_of_ble_eq_true rfl) (Nat.le_of_ble_eq_true rfl) rfl rfl rfl _ rfl (Nat.le_of_ble_eq_true rfl) (Nat.zero_le _) (Nat.zero_le _) [0, 1, 2, 3, 4, 5, 6] [] rfl rfl rfl rfl rfl (by decide) [0, 1, 2, 3, 4, 5, 6] [(d, .inr (5, [.ref vo, .ref vu, .int (nI ((rfold t L w ax1 ((rn t ax 6) % 16)).2.2))])), (vo, .inr (6, [.ref va, .int (nI (i + m))])), (va, .inl (cI, 64, .inl (aN rf1))), (vu, .inr (1, [.int (nI 0), .int y, .int z])), (hr, .inr (7, [.int (nI w), .int (nI sz), .int (nI ev)])), (ob, .inr (0, [.ref ta, .int (nI L)])), (ta, .inl (cI, 1000, .inl (aN tf)))] rfl rfl rfl 108 rfl ?_
            have hrs : rsam t L w sz ev g1 ax1 (i + m) (rn t ax 6 / 16) (rn t ax 6 % 16) = (0, unfoldN (rfold t L w ax1 (rn t ax 6 % 16)).2.1 (told w sz ev g1 (i + m) (rn t ax 6 / 16)) (tpW w), (rfold t L w ax1 (rn t ax 6 % 16)).2.2) := by unfold rsam; rw [if_neg h83, if_pos h105]
            refine j_istore C dX5_takeBlock_108 [(9, .int (nI (unfoldN (rfold t L w ax1 ((rn t ax 6) % 16)).2.1 (told w sz ev g1 (i + m) (rn t ax 6 / 16)) (tpW w)))), (8, .int (nI (i + m))), (7, .int (nI ((rn t ax 6) % 16))), (6, .int (nI (rn t ax 6 / 16))), (5, .int (nI (rn t ax 6))), (4, .int (nI ax)), (0, .ref d), (1, .ref hr), (2, .ref ob), (3, .int (nI en))] (by decide) rfl 110 rfl ?_
            refine j_aload_n C dX5_takeBlock_110 6 rfl 111 rfl ?_
            refine j_get C dX5_takeBlock_111 0 1 2 inX5_takeBlock_5 rfl rfl (by decide) rfl rfl rfl 114 rfl ?_
            refine j_callVi1 (As := []) (rest := []) (wr := [(d, .inr (5, [.ref vo, .ref vu, .int (nI ((rfold t L w ax1 ((rn t ax 6) % 16)).2.2))])), (vo, .inr (6, [.ref va, .int (nI (i + m))])), (va, .inl (cI, 64, .inl (aN rf1))), (hr, .inr (7, [.int (nI w), .int (nI sz), .int (nI ev)])), (ob, .inr (0, [.ref ta, .int (nI L)])), (ta, .inl (cI, 1000, .inl (aN tf)))]) C (c_X1_isTold l D cI cZ cH vu 0 y z (by omega)) gX5_takeBlock_X1_isTold dX5_takeBlock_114 rfl yd_X1_isTold (Nat.le_of_ble_eq_true rfl) (Nat.le_of_ble_eq_true rfl) rfl rfl rfl _ rfl (Nat.le_of_ble_eq_true rfl) (Nat.zero_le _) (Nat.zero_le _) [3] [0, 1, 2, 4, 5, 6] rfl rfl rfl rfl rfl (by decide) [0, 1, 2, 6, 3, 4, 5] [(d, .inr (5, [.ref vo, .ref vu, .int (nI ((rfold t L w ax1 ((rn t ax 6) % 16)).2.2))])), (vo, .inr (6, [.ref va, .int (nI (i + m))])), (va, .inl (cI, 64, .inl (aN rf1))), (vu, .inr (1, [.int (nI 0), .int y, .int z])), (hr, .inr (7, [.int (nI w), .int (nI sz), .int (nI ev)])), (ob, .inr (0, [.ref ta, .int (nI L)])), (ta, .inl (cI, 1000, .inl (aN tf)))] rfl rfl rfl 117 rfl ?_
            refine j_ifb_eq C dX5_takeBlock_117 121 (by decide) 120 rfl (fun h117 => ?_) (fun h9 => by exfalso; omega)
            refine j_aload_n C dX5_takeBlock_121 6 rfl 122 rfl ?_
            refine j_get C dX5_takeBlock_122 0 0 4 inX5_takeBlock_5 rfl rfl (by decide) rfl rfl rfl 125 rfl ?_
            refine j_iload C dX5_takeBlock_125 0 rfl 127 rfl ?_
            refine j_callVv1 (As := [.int (nI (unfoldN (rfold t L w ax1 ((rn t ax 6) % 16)).2.1 (told w sz ev g1 (i + m) (rn t ax 6 / 16)) (tpW w)))]) (rest := []) (wr := [(d, .inr (5, [.ref vo, .ref vu, .int (nI ((rfold t L w ax1 ((rn t ax 6) % 16)).2.2))])), (vu, .inr (1, [.int (nI 0), .int y, .int z])), (hr, .inr (7, [.int (nI w), .int (nI sz), .int (nI ev)])), (ob, .inr (0, [.ref ta, .int (nI L)])), (ta, .inl (cI, 1000, .inl (aN tf)))]) C (c_X6_append l D cI cZ cH vo va (i + m) rf1 (unfoldN (rfold t L w ax1 ((rn t ax 6) % 16)).2.1 (told w sz ev g1 (i + m) (rn t ax 6 / 16)) (tpW w)) (by omega)) gX5_takeBlock_X6_append dX5_takeBlock_127 rfl yd_X6_append (Nat.le_of_ble_eq_true rfl) (Nat.le_of_ble_eq_true rfl) rfl rfl rfl _ rfl (Nat.le_of_ble_eq_true rfl) (Nat.zero_le _) (Nat.zero_le _) [1, 2] [0, 3, 4, 5, 6] rfl rfl rfl rfl rfl (by decide) [0, 5, 6, 1, 2, 3, 4] [(d, .inr (5, [.ref vo, .ref vu, .int (nI ((rfold t L w ax1 ((rn t ax 6) % 16)).2.2))])), (vo, .inr (6, [.ref va, .int (nI ((i + m) + 1))])), (va, .inl (cI, 64, .inl (aN (va_up rf1 (i + m) (unfoldN (rfold t L w ax1 ((rn t ax 6) % 16)).2.1 (told w sz ev g1 (i + m) (rn t ax 6 / 16)) (tpW w)))))), (vu, .inr (1, [.int (nI 0), .int y, .int z])), (hr, .inr (7, [.int (nI w), .int (nI sz), .int (nI ev)])), (ob, .inr (0, [.ref ta, .int (nI L)])), (ta, .inl (cI, 1000, .inl (aN tf)))] rfl rfl rfl 130 rfl ?_
            refine j_iinc C dX5_takeBlock_130 1 rfl (nI (i + m + 1)) (nI_1 (i + m)) [(8, .int (nI (i + m + 1))), (9, .int (nI (unfoldN (rfold t L w ax1 ((rn t ax 6) % 16)).2.1 (told w sz ev g1 (i + m) (rn t ax 6 / 16)) (tpW w)))), (7, .int (nI ((rn t ax 6) % 16))), (6, .int (nI (rn t ax 6 / 16))), (5, .int (nI (rn t ax 6))), (4, .int (nI ax)), (0, .ref d), (1, .ref hr), (2, .ref ob), (3, .int (nI en))] (by decide) rfl 133 rfl ?_
            refine j_goto C dX5_takeBlock_133 71 (by decide) ?_
            refine j_lsub [(8, .int (nI (i + m + 1))), (7, .int (nI ((rn t ax 6) % 16))), (6, .int (nI (rn t ax 6 / 16))), (5, .int (nI (rn t ax 6))), (4, .int (nI ax)), (0, .ref d), (1, .ref hr), (2, .ref ob), (3, .int (nI en))] [0, 2, 3, 4, 5, 6, 7, 8, 9] rfl ?_
            exact ih71 (m + 1) ((rfold t L w ax1 ((rn t ax 6) % 16)).2.2) (va_up rf1 (i + m) (unfoldN (rfold t L w ax1 ((rn t ax 6) % 16)).2.1 (told w sz ev g1 (i + m) (rn t ax 6 / 16)) (tpW w))) (va_up g1 (i + m) (unfoldN (rfold t L w ax1 ((rn t ax 6) % 16)).2.1 (told w sz ev g1 (i + m) (rn t ax 6 / 16)) (tpW w))) ⟨by omega, rS_go hS hrs rfl, fun j hj => by simp only [va_up]; split; rfl; exact hfg1 j (by omega)⟩ (by omega)
          · refine j_callVi (As := [.ref hr, .ref ob, .int (nI (rn t ax 6 / 16)), .int (nI ((rn t ax 6) % 16))]) (rest := []) (wr := []) C (c_X5_toldNo l D cI cZ cH d vo vu va ax1 (i + m) rf1 g1 y z hr w sz ev ob ta L tf t (rn t ax 6 / 16) ((rn t ax 6) % 16) hw hsz hev (by omega) hft ht (by omega) (by omega) (by omega) hfg1 hg1 (by omega) h50 (by omega)) gX5_takeBlock_X5_takeTold dX5_takeBlock_105 rfl yd_X5_takeTold (Nat.le_of_ble_eq_true rfl) (Nat.le_of_ble_eq_true rfl) rfl rfl rfl _ rfl (Nat.le_of_ble_eq_true rfl) (Nat.zero_le _) (Nat.zero_le _) [0, 1, 2, 3, 4, 5, 6] [] rfl rfl rfl rfl rfl (by decide) [0, 1, 2, 3, 4, 5, 6] (fun ax2_105 => [(d, .inr (5, [.ref vo, .ref vu, .int (nI ax2_105)])), (vo, .inr (6, [.ref va, .int (nI (i + m))])), (va, .inl (cI, 64, .inl (aN rf1))), (vu, .inr (1, [.int (nI ((rfold t L w ax1 ((rn t ax 6) % 16)).1)), .int (nI (rfold t L w ax1 ((rn t ax 6) % 16)).2.1), .int (nI (i + m))])), (hr, .inr (7, [.int (nI w), .int (nI sz), .int (nI ev)])), (ob, .inr (0, [.ref ta, .int (nI L)])), (ta, .inl (cI, 1000, .inl (aN tf)))]) (fun _ => rfl) (fun _ => rfl) rfl 108 rfl (fun r_105 u9 hpo105 => ?_)
            obtain ⟨ax2_105, hu9⟩ : ∃ z, z = u9 := ⟨_, rfl⟩
            subst hu9
            replace hpo105 : r_105 = -6 := hpo105
            show J D AX pX l eX _ sX mX _ bX methX cX 0 0 _ 10 [(d, .inr (5, [.ref vo, .ref vu, .int (nI ax2_105)])), (vo, .inr (6, [.ref va, .int (nI (i + m))])), (va, .inl (cI, 64, .inl (aN rf1))), (vu, .inr (1, [.int (nI ((rfold t L w ax1 ((rn t ax 6) % 16)).1)), .int (nI (rfold t L w ax1 ((rn t ax 6) % 16)).2.1), .int (nI (i + m))])), (hr, .inr (7, [.int (nI w), .int (nI sz), .int (nI ev)])), (ob, .inr (0, [.ref ta, .int (nI L)])), (ta, .inl (cI, 1000, .inl (aN tf)))] [(8, .int (nI (i + m))), (7, .int (nI ((rn t ax 6) % 16))), (6, .int (nI (rn t ax 6 / 16))), (5, .int (nI (rn t ax 6))), (4, .int (nI ax)), (0, .ref d), (1, .ref hr), (2, .ref ob), (3, .int (nI en))] 108 [.int r_105]
            have hrs : rsam t L w sz ev g1 ax1 (i + m) (rn t ax 6 / 16) (rn t ax 6 % 16) = rfold t L w ax1 (rn t ax 6 % 16) := by unfold rsam; rw [if_neg h83, if_neg (by omega)]
            have hne : ¬ (rfold t L w ax1 (rn t ax 6 % 16)).1 = 0 := by omega
            have hlt9 := rfold_lt t L w ax1 (rn t ax 6 % 16)
            have hF : rblk t L w sz ev ax g i en = _ := (rblk_0 h10 h50).trans (rS_no hS hrs hne (show m < en - i by omega))
            refine j_istore C dX5_takeBlock_108 [(9, .int r_105), (8, .int (nI (i + m))), (7, .int (nI ((rn t ax 6) % 16))), (6, .int (nI (rn t ax 6 / 16))), (5, .int (nI (rn t ax 6))), (4, .int (nI ax)), (0, .ref d), (1, .ref hr), (2, .ref ob), (3, .int (nI en))] (by decide) rfl 110 rfl ?_
            refine j_aload_n C dX5_takeBlock_110 6 rfl 111 rfl ?_
            refine j_get C dX5_takeBlock_111 0 1 2 inX5_takeBlock_5 rfl rfl (by decide) rfl rfl rfl 114 rfl ?_
            refine j_callVi1 (As := []) (rest := []) (wr := [(d, .inr (5, [.ref vo, .ref vu, .int (nI ax2_105)])), (vo, .inr (6, [.ref va, .int (nI (i + m))])), (va, .inl (cI, 64, .inl (aN rf1))), (hr, .inr (7, [.int (nI w), .int (nI sz), .int (nI ev)])), (ob, .inr (0, [.ref ta, .int (nI L)])), (ta, .inl (cI, 1000, .inl (aN tf)))]) C (c_X1_isTold l D cI cZ cH vu ((rfold t L w ax1 ((rn t ax 6) % 16)).1) (nI (rfold t L w ax1 ((rn t ax 6) % 16)).2.1) (nI (i + m)) (by omega)) gX5_takeBlock_X1_isTold dX5_takeBlock_114 rfl yd_X1_isTold (Nat.le_of_ble_eq_true rfl) (Nat.le_of_ble_eq_true rfl) rfl rfl rfl _ rfl (Nat.le_of_ble_eq_true rfl) (Nat.zero_le _) (Nat.zero_le _) [3] [0, 1, 2, 4, 5, 6] rfl rfl rfl rfl rfl (by decide) [0, 1, 2, 6, 3, 4, 5] [(d, .inr (5, [.ref vo, .ref vu, .int (nI ax2_105)])), (vo, .inr (6, [.ref va, .int (nI (i + m))])), (va, .inl (cI, 64, .inl (aN rf1))), (vu, .inr (1, [.int (nI ((rfold t L w ax1 ((rn t ax 6) % 16)).1)), .int (nI (rfold t L w ax1 ((rn t ax 6) % 16)).2.1), .int (nI (i + m))])), (hr, .inr (7, [.int (nI w), .int (nI sz), .int (nI ev)])), (ob, .inr (0, [.ref ta, .int (nI L)])), (ta, .inl (cI, 1000, .inl (aN tf)))] rfl rfl rfl 117 rfl ?_
            refine j_ifb_eq C dX5_takeBlock_117 121 (by decide) 120 rfl (fun h9 => by exfalso; omega) (fun h117 => ?_)
            exact j_vret C dX5_takeBlock_120 (ax2_105, i + m, rf1, (rfold t L w ax1 ((rn t ax 6) % 16)).1, nI (rfold t L w ax1 ((rn t ax 6) % 16)).2.1, nI (i + m)) (by rw [hF]; exact ⟨rfl, rfl, hfg1, fun h => absurd h hne, fun _ => ⟨rfl, rfl⟩⟩) rfl
        · refine j_aload_n C dX5_takeBlock_86 5 rfl 87 rfl ?_
          refine j_aload_n C dX5_takeBlock_87 7 rfl 88 rfl ?_
          refine j_aload_n C dX5_takeBlock_88 6 rfl 89 rfl ?_
          refine j_get C dX5_takeBlock_89 4 0 3 inX5_takeBlock_7 rfl rfl (by decide) rfl rfl rfl 92 rfl ?_
          rcases Nat.lt_or_ge L (ax1 + w) with h92 | h92
          · refine j_callVi1 (As := [.ref ob, .int (nI w)]) (rest := []) (wr := [(va, .inl (cI, 64, .inl (aN rf1))), (hr, .inr (7, [.int (nI w), .int (nI sz), .int (nI ev)])), (ta, .inl (cI, 1000, .inl (aN tf)))]) C (c_X5_tnNo l D cI cZ cH d vo vu va ax1 (i + m) y z ob ta L w (by omega) (by omega) (by omega) (by omega)) gX5_takeBlock_X5_takeNumber dX5_takeBlock_92 rfl yd_X5_takeNumber (Nat.le_of_ble_eq_true rfl) (Nat.le_of_ble_eq_true rfl) rfl rfl rfl _ rfl (Nat.le_of_ble_eq_true rfl) (Nat.zero_le _) (Nat.zero_le _) [0, 1, 3, 5] [2, 4, 6] rfl rfl rfl rfl rfl (by decide) [3, 4, 0, 5, 1, 6, 2] [(d, .inr (5, [.ref vo, .ref vu, .int (nI ax1)])), (vo, .inr (6, [.ref va, .int (nI (i + m))])), (va, .inl (cI, 64, .inl (aN rf1))), (vu, .inr (1, [.int (nI 1), .int (nI L), .int (nI (i + m))])), (hr, .inr (7, [.int (nI w), .int (nI sz), .int (nI ev)])), (ob, .inr (0, [.ref ta, .int (nI L)])), (ta, .inl (cI, 1000, .inl (aN tf)))] rfl rfl rfl 95 rfl ?_
            have hrs : rsam t L w sz ev g1 ax1 (i + m) (rn t ax 6 / 16) (rn t ax 6 % 16) = (1, L, 0) := by unfold rsam; rw [if_pos h83, rnum_no h92]
            have hne : ¬ ((1, L, 0) : Nat × Nat × Nat).1 = 0 := by simp
            have hF : rblk t L w sz ev ax g i en = _ := (rblk_0 h10 h50).trans (rS_no hS hrs hne (show m < en - i by omega))
            refine j_goto C dX5_takeBlock_95 108 (by decide) ?_
            refine j_istore C dX5_takeBlock_108 [(9, .int (-6)), (8, .int (nI (i + m))), (7, .int (nI ((rn t ax 6) % 16))), (6, .int (nI (rn t ax 6 / 16))), (5, .int (nI (rn t ax 6))), (4, .int (nI ax)), (0, .ref d), (1, .ref hr), (2, .ref ob), (3, .int (nI en))] (by decide) rfl 110 rfl ?_
            refine j_aload_n C dX5_takeBlock_110 6 rfl 111 rfl ?_
            refine j_get C dX5_takeBlock_111 0 1 2 inX5_takeBlock_5 rfl rfl (by decide) rfl rfl rfl 114 rfl ?_
            refine j_callVi1 (As := []) (rest := []) (wr := [(d, .inr (5, [.ref vo, .ref vu, .int (nI ax1)])), (vo, .inr (6, [.ref va, .int (nI (i + m))])), (va, .inl (cI, 64, .inl (aN rf1))), (hr, .inr (7, [.int (nI w), .int (nI sz), .int (nI ev)])), (ob, .inr (0, [.ref ta, .int (nI L)])), (ta, .inl (cI, 1000, .inl (aN tf)))]) C (c_X1_isTold l D cI cZ cH vu 1 (nI L) (nI (i + m)) (by omega)) gX5_takeBlock_X1_isTold dX5_takeBlock_114 rfl yd_X1_isTold (Nat.le_of_ble_eq_true rfl) (Nat.le_of_ble_eq_true rfl) rfl rfl rfl _ rfl (Nat.le_of_ble_eq_true rfl) (Nat.zero_le _) (Nat.zero_le _) [3] [0, 1, 2, 4, 5, 6] rfl rfl rfl rfl rfl (by decide) [0, 1, 2, 6, 3, 4, 5] [(d, .inr (5, [.ref vo, .ref vu, .int (nI ax1)])), (vo, .inr (6, [.ref va, .int (nI (i + m))])), (va, .inl (cI, 64, .inl (aN rf1))), (vu, .inr (1, [.int (nI 1), .int (nI L), .int (nI (i + m))])), (hr, .inr (7, [.int (nI w), .int (nI sz), .int (nI ev)])), (ob, .inr (0, [.ref ta, .int (nI L)])), (ta, .inl (cI, 1000, .inl (aN tf)))] rfl rfl rfl 117 rfl ?_
            refine j_ifb_eq C dX5_takeBlock_117 121 (by decide) 120 rfl (fun h9 => by exfalso; omega) (fun h117 => ?_)
            exact j_vret C dX5_takeBlock_120 (ax1, i + m, rf1, 1, nI L, nI (i + m)) (by rw [hF]; exact ⟨rfl, rfl, hfg1, fun h => absurd h hne, fun _ => ⟨rfl, rfl⟩⟩) rfl
          · refine j_callVi1 (As := [.ref ob, .int (nI w)]) (rest := []) (wr := [(vo, .inr (6, [.ref va, .int (nI (i + m))])), (va, .inl (cI, 64, .inl (aN rf1))), (vu, .inr (1, [.int (nI 0), .int y, .int z])), (hr, .inr (7, [.int (nI w), .int (nI sz), .int (nI ev)]))]) C (c_X5_tnOk l D cI cZ cH d vo vu ax1 ob ta L tf t w (by omega) hft (by omega) (by omega)) gX5_takeBlock_X5_takeNumber dX5_takeBlock_92 rfl yd_X5_takeNumber (Nat.le_of_ble_eq_true rfl) (Nat.le_of_ble_eq_true rfl) rfl rfl rfl _ rfl (Nat.le_of_ble_eq_true rfl) (Nat.zero_le _) (Nat.zero_le _) [0, 5, 6] [1, 2, 3, 4] rfl rfl rfl rfl rfl (by decide) [4, 0, 1, 2, 3, 5, 6] [(d, .inr (5, [.ref vo, .ref vu, .int (nI (ax1 + w))])), (vo, .inr (6, [.ref va, .int (nI (i + m))])), (va, .inl (cI, 64, .inl (aN rf1))), (vu, .inr (1, [.int (nI 0), .int y, .int z])), (hr, .inr (7, [.int (nI w), .int (nI sz), .int (nI ev)])), (ob, .inr (0, [.ref ta, .int (nI L)])), (ta, .inl (cI, 1000, .inl (aN tf)))] rfl rfl rfl 95 rfl ?_
            have hrs : rsam t L w sz ev g1 ax1 (i + m) (rn t ax 6 / 16) (rn t ax 6 % 16) = (0, rn t ax1 w, ax1 + w) := by unfold rsam; rw [if_pos h83, rnum_ok h92]
            refine j_goto C dX5_takeBlock_95 108 (by decide) ?_
            refine j_istore C dX5_takeBlock_108 [(9, .int (nI (rn t ax1 w))), (8, .int (nI (i + m))), (7, .int (nI ((rn t ax 6) % 16))), (6, .int (nI (rn t ax 6 / 16))), (5, .int (nI (rn t ax 6))), (4, .int (nI ax)), (0, .ref d), (1, .ref hr), (2, .ref ob), (3, .int (nI en))] (by decide) rfl 110 rfl ?_
            refine j_aload_n C dX5_takeBlock_110 6 rfl 111 rfl ?_
            refine j_get C dX5_takeBlock_111 0 1 2 inX5_takeBlock_5 rfl rfl (by decide) rfl rfl rfl 114 rfl ?_
            refine j_callVi1 (As := []) (rest := []) (wr := [(d, .inr (5, [.ref vo, .ref vu, .int (nI (ax1 + w))])), (vo, .inr (6, [.ref va, .int (nI (i + m))])), (va, .inl (cI, 64, .inl (aN rf1))), (hr, .inr (7, [.int (nI w), .int (nI sz), .int (nI ev)])), (ob, .inr (0, [.ref ta, .int (nI L)])), (ta, .inl (cI, 1000, .inl (aN tf)))]) C (c_X1_isTold l D cI cZ cH vu 0 y z (by omega)) gX5_takeBlock_X1_isTold dX5_takeBlock_114 rfl yd_X1_isTold (Nat.le_of_ble_eq_true rfl) (Nat.le_of_ble_eq_true rfl) rfl rfl rfl _ rfl (Nat.le_of_ble_eq_true rfl) (Nat.zero_le _) (Nat.zero_le _) [3] [0, 1, 2, 4, 5, 6] rfl rfl rfl rfl rfl (by decide) [0, 1, 2, 6, 3, 4, 5] [(d, .inr (5, [.ref vo, .ref vu, .int (nI (ax1 + w))])), (vo, .inr (6, [.ref va, .int (nI (i + m))])), (va, .inl (cI, 64, .inl (aN rf1))), (vu, .inr (1, [.int (nI 0), .int y, .int z])), (hr, .inr (7, [.int (nI w), .int (nI sz), .int (nI ev)])), (ob, .inr (0, [.ref ta, .int (nI L)])), (ta, .inl (cI, 1000, .inl (aN tf)))] rfl rfl rfl 117 rfl ?_
            refine j_ifb_eq C dX5_takeBlock_117 121 (by decide) 120 rfl (fun h117 => ?_) (fun h9 => by exfalso; omega)
            refine j_aload_n C dX5_takeBlock_121 6 rfl 122 rfl ?_
            refine j_get C dX5_takeBlock_122 0 0 4 inX5_takeBlock_5 rfl rfl (by decide) rfl rfl rfl 125 rfl ?_
            refine j_iload C dX5_takeBlock_125 0 rfl 127 rfl ?_
            refine j_callVv1 (As := [.int (nI (rn t ax1 w))]) (rest := []) (wr := [(d, .inr (5, [.ref vo, .ref vu, .int (nI (ax1 + w))])), (vu, .inr (1, [.int (nI 0), .int y, .int z])), (hr, .inr (7, [.int (nI w), .int (nI sz), .int (nI ev)])), (ob, .inr (0, [.ref ta, .int (nI L)])), (ta, .inl (cI, 1000, .inl (aN tf)))]) C (c_X6_append l D cI cZ cH vo va (i + m) rf1 (rn t ax1 w) (by omega)) gX5_takeBlock_X6_append dX5_takeBlock_127 rfl yd_X6_append (Nat.le_of_ble_eq_true rfl) (Nat.le_of_ble_eq_true rfl) rfl rfl rfl _ rfl (Nat.le_of_ble_eq_true rfl) (Nat.zero_le _) (Nat.zero_le _) [1, 2] [0, 3, 4, 5, 6] rfl rfl rfl rfl rfl (by decide) [0, 5, 6, 1, 2, 3, 4] [(d, .inr (5, [.ref vo, .ref vu, .int (nI (ax1 + w))])), (vo, .inr (6, [.ref va, .int (nI ((i + m) + 1))])), (va, .inl (cI, 64, .inl (aN (va_up rf1 (i + m) (rn t ax1 w))))), (vu, .inr (1, [.int (nI 0), .int y, .int z])), (hr, .inr (7, [.int (nI w), .int (nI sz), .int (nI ev)])), (ob, .inr (0, [.ref ta, .int (nI L)])), (ta, .inl (cI, 1000, .inl (aN tf)))] rfl rfl rfl 130 rfl ?_
            refine j_iinc C dX5_takeBlock_130 1 rfl (nI (i + m + 1)) (nI_1 (i + m)) [(8, .int (nI (i + m + 1))), (9, .int (nI (rn t ax1 w))), (7, .int (nI ((rn t ax 6) % 16))), (6, .int (nI (rn t ax 6 / 16))), (5, .int (nI (rn t ax 6))), (4, .int (nI ax)), (0, .ref d), (1, .ref hr), (2, .ref ob), (3, .int (nI en))] (by decide) rfl 133 rfl ?_
            refine j_goto C dX5_takeBlock_133 71 (by decide) ?_
            refine j_lsub [(8, .int (nI (i + m + 1))), (7, .int (nI ((rn t ax 6) % 16))), (6, .int (nI (rn t ax 6 / 16))), (5, .int (nI (rn t ax 6))), (4, .int (nI ax)), (0, .ref d), (1, .ref hr), (2, .ref ob), (3, .int (nI en))] [0, 2, 3, 4, 5, 6, 7, 8, 9] rfl ?_
            exact ih71 (m + 1) (ax1 + w) (va_up rf1 (i + m) (rn t ax1 w)) (va_up g1 (i + m) (rn t ax1 w)) ⟨by omega, rS_go hS hrs rfl, fun j hj => by simp only [va_up]; split; rfl; exact hfg1 j (by omega)⟩ (by omega)
    · refine j_aload_n C dX5_takeBlock_53 4 rfl 54 rfl ?_
      refine j_iconst C dX5_takeBlock_54 (nI 2) (by decide) 55 rfl ?_
      refine j_iload C dX5_takeBlock_55 3 rfl 57 rfl ?_
      refine j_callVi1 (As := [.int (nI 2), .int (nI ax)]) (rest := []) (wr := [(va, .inl (cI, 64, .inl (aN rf))), (hr, .inr (7, [.int (nI w), .int (nI sz), .int (nI ev)])), (ob, .inr (0, [.ref ta, .int (nI L)])), (ta, .inl (cI, 1000, .inl (aN tf)))]) C (c_X5_fail l D cI cZ cH d vo vu va (ax + 6) i 0 y z 2 ax ) gX5_takeBlock_X5_fail dX5_takeBlock_57 rfl yd_X5_fail (Nat.le_of_ble_eq_true rfl) (Nat.le_of_ble_eq_true rfl) rfl rfl rfl _ rfl (Nat.le_of_ble_eq_true rfl) (Nat.zero_le _) (Nat.zero_le _) [0, 1, 3] [2, 4, 5, 6] rfl rfl rfl rfl rfl (by decide) [4, 5, 0, 6, 1, 2, 3] [(d, .inr (5, [.ref vo, .ref vu, .int (nI (ax + 6))])), (vo, .inr (6, [.ref va, .int (nI i)])), (va, .inl (cI, 64, .inl (aN rf))), (vu, .inr (1, [.int (nI 2), .int (nI ax), .int (nI i)])), (hr, .inr (7, [.int (nI w), .int (nI sz), .int (nI ev)])), (ob, .inr (0, [.ref ta, .int (nI L)])), (ta, .inl (cI, 1000, .inl (aN tf)))] rfl rfl rfl 60 rfl ?_
      refine j_pop C dX5_takeBlock_60 rfl 61 rfl ?_
      exact j_vret C dX5_takeBlock_61 (ax + 6, i, rf, 2, nI ax, nI i) (by rw [rblk_2 h10 h50]; exact ⟨rfl, rfl, hfg, fun h => by simp at h, fun _ => ⟨rfl, rfl⟩⟩) rfl
set_option maxHeartbeats 4000000 in
set_option maxRecDepth 100000 in
theorem c_X5_takeAll (l : Launch) (D : va_G) (cI cZ cH : ClassId) (d vo vu va ax i : Nat) (rf : Nat → Nat) (x : Nat) (y z : Int32) (hr w sz ev ob ta L : Nat) (tf t : Nat → Nat) (n : Nat) (hw : 2 ≤ w ∧ w ≤ 8) (hsz : 1 ≤ sz ∧ sz ≤ 8) (hev : 1 ≤ ev ∧ ev ≤ 8) (hL : L ≤ 1000) (hft : ∀ j, j < L → tf j = t j) (ht : ∀ j, j < L → t j ≤ 1) (hn : n ≤ 64) : Mv l D cI cZ cH yX5_takeAll wsX5_takeAll 5 126 [.ref d, .ref hr, .ref ob, .int (nI n)] [(d, .inr (5, [.ref vo, .ref vu, .int (nI ax)])), (vo, .inr (6, [.ref va, .int (nI i)])), (va, .inl (cI, 64, .inl (aN rf))), (vu, .inr (1, [.int (nI x), .int y, .int z])), (hr, .inr (7, [.int (nI w), .int (nI sz), .int (nI ev)])), (ob, .inr (0, [.ref ta, .int (nI L)])), (ta, .inl (cI, 1000, .inl (aN tf)))] (fun (u9 : Nat × Nat × (Nat → Nat) × Nat × Int32 × Int32) => (u9.2.2.2.1) = (rdF t L w sz ev n).1 ∧ (u9.2.1) = (rdF t L w sz ev n).2.2.2.2 ∧ (∀ j, j < (u9.2.1) → (u9.2.2.1) j = (rdF t L w sz ev n).2.2.2.1 j) ∧ ((rdF t L w sz ev n).1 = 0 → (u9.2.2.2.2.1) = -6 ∧ (u9.2.2.2.2.2) = -6) ∧ (¬ (rdF t L w sz ev n).1 = 0 → (u9.2.2.2.2.1) = nI (rdF t L w sz ev n).2.1 ∧ (u9.2.2.2.2.2) = nI (u9.2.1))) (fun (u9 : Nat × Nat × (Nat → Nat) × Nat × Int32 × Int32) => [(d, .inr (5, [.ref vo, .ref vu, .int (nI (u9.1))])), (vo, .inr (6, [.ref va, .int (nI (u9.2.1))])), (va, .inl (cI, 64, .inl (aN (u9.2.2.1)))), (vu, .inr (1, [.int (nI (u9.2.2.2.1)), .int (u9.2.2.2.2.1), .int (u9.2.2.2.2.2)])), (hr, .inr (7, [.int (nI w), .int (nI sz), .int (nI ev)])), (ob, .inr (0, [.ref ta, .int (nI L)])), (ta, .inl (cI, 1000, .inl (aN tf)))]) := by
  refine Mv.start (cc := cX5_takeAll) (nL := 6) (ret := none) (lv0 := [(0, .ref d), (1, .ref hr), (2, .ref ob), (3, .int (nI n))]) (by decide) rfl (Nat.le_of_ble_eq_true rfl) rfl ?_
  intro pX eX sX mX bX methX cX AX C
  have hnx := nbk_le hsz.1 hn
  refine j_aload_n C dX5_takeAll_0 0 rfl 1 rfl ?_
  refine j_get C dX5_takeAll_1 0 0 1 inX5_takeAll_5 rfl rfl (by decide) rfl rfl rfl 4 rfl ?_
  refine j_iconst C dX5_takeAll_4 (nI 0) (by decide) 5 rfl ?_
  refine j_put C dX5_takeAll_5 1 1 2 inX5_takeAll_6 tyX6 tyX6_ok nmX6 rfl rfl (by decide) rfl rfl rfl rfl rfl (Nat.le_of_ble_eq_true rfl) [(d, .inr (5, [.ref vo, .ref vu, .int (nI ax)])), (vo, .inr (6, [.ref va, .int (nI 0)])), (va, .inl (cI, 64, .inl (aN rf))), (vu, .inr (1, [.int (nI x), .int y, .int z])), (hr, .inr (7, [.int (nI w), .int (nI sz), .int (nI ev)])), (ob, .inr (0, [.ref ta, .int (nI L)])), (ta, .inl (cI, 1000, .inl (aN tf)))] rfl 8 rfl ?_
  refine j_aload_n C dX5_takeAll_8 0 rfl 9 rfl ?_
  refine j_iconst C dX5_takeAll_9 (nI 0) (by decide) 10 rfl ?_
  refine j_put C dX5_takeAll_10 0 2 3 inX5_takeAll_5 tyX5 tyX5_ok nmX5 rfl rfl (by decide) rfl rfl rfl rfl rfl (Nat.le_of_ble_eq_true rfl) [(d, .inr (5, [.ref vo, .ref vu, .int (nI 0)])), (vo, .inr (6, [.ref va, .int (nI 0)])), (va, .inl (cI, 64, .inl (aN rf))), (vu, .inr (1, [.int (nI x), .int y, .int z])), (hr, .inr (7, [.int (nI w), .int (nI sz), .int (nI ev)])), (ob, .inr (0, [.ref ta, .int (nI L)])), (ta, .inl (cI, 1000, .inl (aN tf)))] rfl 13 rfl ?_
  refine j_aload_n C dX5_takeAll_13 0 rfl 14 rfl ?_
  refine j_get C dX5_takeAll_14 0 1 4 inX5_takeAll_5 rfl rfl (by decide) rfl rfl rfl 17 rfl ?_
  refine j_callVv1 (As := []) (rest := []) (wr := [(d, .inr (5, [.ref vo, .ref vu, .int (nI 0)])), (vo, .inr (6, [.ref va, .int (nI 0)])), (va, .inl (cI, 64, .inl (aN rf))), (hr, .inr (7, [.int (nI w), .int (nI sz), .int (nI ev)])), (ob, .inr (0, [.ref ta, .int (nI L)])), (ta, .inl (cI, 1000, .inl (aN tf)))]) C (c_X1_forget l D cI cZ cH vu x y z ) gX5_takeAll_X1_forget dX5_takeAll_17 rfl yd_X1_forget (Nat.le_of_ble_eq_true rfl) (Nat.le_of_ble_eq_true rfl) rfl rfl rfl _ rfl (Nat.le_of_ble_eq_true rfl) (Nat.zero_le _) (Nat.zero_le _) [3] [0, 1, 2, 4, 5, 6] rfl rfl rfl rfl rfl (by decide) [0, 1, 2, 6, 3, 4, 5] [(d, .inr (5, [.ref vo, .ref vu, .int (nI 0)])), (vo, .inr (6, [.ref va, .int (nI 0)])), (va, .inl (cI, 64, .inl (aN rf))), (vu, .inr (1, [.int (nI 0), .int (-6), .int (-6)])), (hr, .inr (7, [.int (nI w), .int (nI sz), .int (nI ev)])), (ob, .inr (0, [.ref ta, .int (nI L)])), (ta, .inl (cI, 1000, .inl (aN tf)))] rfl rfl rfl 20 rfl ?_
  refine j_iload_n C dX5_takeAll_20 3 rfl 21 rfl ?_
  refine j_aload_n C dX5_takeAll_21 1 rfl 22 rfl ?_
  refine j_get C dX5_takeAll_22 4 1 5 inX5_takeAll_7 rfl rfl (by decide) rfl rfl rfl 25 rfl ?_
  refine j_callNi1 (As := [.int (nI n), .int (nI sz)]) (rest := []) (wr := [(d, .inr (5, [.ref vo, .ref vu, .int (nI 0)])), (vo, .inr (6, [.ref va, .int (nI 0)])), (va, .inl (cI, 64, .inl (aN rf))), (vu, .inr (1, [.int (nI 0), .int (-6), .int (-6)])), (hr, .inr (7, [.int (nI w), .int (nI sz), .int (nI ev)])), (ob, .inr (0, [.ref ta, .int (nI L)])), (ta, .inl (cI, 1000, .inl (aN tf)))]) C (c_X8_quotientUp l D cI cZ cH n sz (by omega) (by omega) (by omega)) gX5_takeAll_X8_quotientUp_n40 16 rfl 15 16 rfl rfl dX5_takeAll_25 rfl yd_X8_quotientUp.2 (Nat.le_of_ble_eq_true rfl) (Nat.le_of_ble_eq_true rfl) rfl _ rfl (Nat.le_of_ble_eq_true rfl) (Nat.zero_le _) (Nat.zero_le _) [] [0, 1, 2, 3, 4, 5, 6] rfl rfl rfl rfl rfl (by decide) [0, 1, 2, 3, 4, 5, 6] [(d, .inr (5, [.ref vo, .ref vu, .int (nI 0)])), (vo, .inr (6, [.ref va, .int (nI 0)])), (va, .inl (cI, 64, .inl (aN rf))), (vu, .inr (1, [.int (nI 0), .int (-6), .int (-6)])), (hr, .inr (7, [.int (nI w), .int (nI sz), .int (nI ev)])), (ob, .inr (0, [.ref ta, .int (nI L)])), (ta, .inl (cI, 1000, .inl (aN tf)))] rfl rfl rfl 28 rfl ?_
  refine j_istore C dX5_takeAll_28 [(4, .int (nI ((n + sz - 1) / sz))), (0, .ref d), (1, .ref hr), (2, .ref ob), (3, .int (nI n))] (by decide) rfl 30 rfl ?_
  refine j_iconst C dX5_takeAll_30 (nI 0) (by decide) 31 rfl ?_
  refine j_istore C dX5_takeAll_31 [(5, .int (nI 0)), (4, .int (nI ((n + sz - 1) / sz))), (0, .ref d), (1, .ref hr), (2, .ref ob), (3, .int (nI n))] (by decide) rfl 33 rfl ?_
  refine j_loop7 (fun (b : Nat) (ax1 : Nat) (i1 : Nat) (rf1 : Nat → Nat) (x1 : Nat) (y1 : Int32) (z1 : Int32) => b ≤ (n + sz - 1) / sz ∧ x1 = (rA t L w sz ev n (b)).1 ∧ i1 = (rA t L w sz ev n (b)).2.2.2.2 ∧ (∀ j, j < i1 → rf1 j = (rA t L w sz ev n (b)).2.2.2.1 j) ∧ ((rA t L w sz ev n (b)).1 = 0 → ax1 = (rA t L w sz ev n (b)).2.2.1 ∧ y1 = -6 ∧ z1 = -6) ∧ (¬ (rA t L w sz ev n (b)).1 = 0 → y1 = nI (rA t L w sz ev n (b)).2.1 ∧ z1 = nI i1)) (fun (b : Nat) (ax1 : Nat) (i1 : Nat) (rf1 : Nat → Nat) (x1 : Nat) (y1 : Int32) (z1 : Int32) => (n + sz - 1) / sz - b) (fun (b : Nat) (ax1 : Nat) (i1 : Nat) (rf1 : Nat → Nat) (x1 : Nat) (y1 : Int32) (z1 : Int32) => [(d, .inr (5, [.ref vo, .ref vu, .int (nI ax1)])), (vo, .inr (6, [.ref va, .int (nI i1)])), (va, .inl (cI, 64, .inl (aN rf1))), (vu, .inr (1, [.int (nI x1), .int y1, .int z1])), (hr, .inr (7, [.int (nI w), .int (nI sz), .int (nI ev)])), (ob, .inr (0, [.ref ta, .int (nI L)])), (ta, .inl (cI, 1000, .inl (aN tf)))]) (fun (b : Nat) (ax1 : Nat) (i1 : Nat) (rf1 : Nat → Nat) (x1 : Nat) (y1 : Int32) (z1 : Int32) => [(5, .int (nI b)), (4, .int (nI ((n + sz - 1) / sz))), (0, .ref d), (1, .ref hr), (2, .ref ob), (3, .int (nI n))]) ?_ 0 0 0 rf 0 (-6) (-6) ⟨Nat.zero_le _, rfl, rfl, fun j hj => by omega, fun _ => ⟨rfl, rfl, rfl⟩, fun h => absurd rfl h⟩ rfl rfl
  intro b ax1 i1 rf1 x1 y1 z1 hI33 ih33
  obtain ⟨hb, e1, e2, e3, e4, e5⟩ := hI33
  show J D AX pX l eX _ sX mX _ bX methX cX 0 0 _ 6 [(d, .inr (5, [.ref vo, .ref vu, .int (nI ax1)])), (vo, .inr (6, [.ref va, .int (nI i1)])), (va, .inl (cI, 64, .inl (aN rf1))), (vu, .inr (1, [.int (nI x1), .int y1, .int z1])), (hr, .inr (7, [.int (nI w), .int (nI sz), .int (nI ev)])), (ob, .inr (0, [.ref ta, .int (nI L)])), (ta, .inl (cI, 1000, .inl (aN tf)))] [(5, .int (nI b)), (4, .int (nI ((n + sz - 1) / sz))), (0, .ref d), (1, .ref hr), (2, .ref ob), (3, .int (nI n))] 33 []
  have hgd := rA_good (ev := ev) hw.1 hsz.1 ht hb
  have hx5 := hgd.1.2.2.2.1
  have hil := hgd.2.2
  refine j_iload C dX5_takeAll_33 0 rfl 35 rfl ?_
  refine j_iload C dX5_takeAll_35 1 rfl 37 rfl ?_
  refine j_icmp_ge C dX5_takeAll_37 69 (by decide) (q_t (by omega)) (q_t (by omega)) 40 rfl (fun h37 => ?_) (fun h37 => ?_)
  · have hAn : rA t L w sz ev n ((n + sz - 1) / sz) = rA t L w sz ev n (b) := by rw [show (n + sz - 1) / sz = b by omega]
    have hAn2 : rA t L w sz ev n ((n + sz - 1) / sz) = rA t L w sz ev n (b) := by first | exact hAn | exact rA_stay (by omega) hb
    refine j_aload_n C dX5_takeAll_69 2 rfl 70 rfl ?_
    refine j_get C dX5_takeAll_70 0 1 4 inX5_takeAll_5 rfl rfl (by decide) rfl rfl rfl 73 rfl ?_
    refine j_callVi1 (As := []) (rest := []) (wr := [(d, .inr (5, [.ref vo, .ref vu, .int (nI ax1)])), (vo, .inr (6, [.ref va, .int (nI i1)])), (va, .inl (cI, 64, .inl (aN rf1))), (hr, .inr (7, [.int (nI w), .int (nI sz), .int (nI ev)])), (ob, .inr (0, [.ref ta, .int (nI L)])), (ta, .inl (cI, 1000, .inl (aN tf)))]) C (c_X1_isTold l D cI cZ cH vu x1 y1 z1 (by omega)) gX5_takeAll_X1_isTold dX5_takeAll_73 rfl yd_X1_isTold (Nat.le_of_ble_eq_true rfl) (Nat.le_of_ble_eq_true rfl) rfl rfl rfl _ rfl (Nat.le_of_ble_eq_true rfl) (Nat.zero_le _) (Nat.zero_le _) [3] [0, 1, 2, 4, 5, 6] rfl rfl rfl rfl rfl (by decide) [0, 1, 2, 6, 3, 4, 5] [(d, .inr (5, [.ref vo, .ref vu, .int (nI ax1)])), (vo, .inr (6, [.ref va, .int (nI i1)])), (va, .inl (cI, 64, .inl (aN rf1))), (vu, .inr (1, [.int (nI x1), .int y1, .int z1])), (hr, .inr (7, [.int (nI w), .int (nI sz), .int (nI ev)])), (ob, .inr (0, [.ref ta, .int (nI L)])), (ta, .inl (cI, 1000, .inl (aN tf)))] rfl rfl rfl 76 rfl ?_
    refine j_ifb_ne C dX5_takeAll_76 100 (by decide) 79 rfl (fun h76 => ?_) (fun h76 => ?_)
    · exact j_vret C dX5_takeAll_100 (ax1, i1, rf1, x1, y1, z1) (by rw [show rdF t L w sz ev n = _ from if_neg (by rw [hAn2]; first | (intro h9; have h8 := h9.1; omega) | (intro h9; have h8 := h9.2; omega)), hAn2]; exact ⟨e1, e2, e3, fun h => (e4 h).2, e5⟩) rfl
    · have hq := e4 (by omega)
      have hql := hgd.1.1
      refine j_aload_n C dX5_takeAll_79 2 rfl 80 rfl ?_
      refine j_get C dX5_takeAll_80 0 2 3 inX5_takeAll_5 rfl rfl (by decide) rfl rfl rfl 83 rfl ?_
      refine j_aload_n C dX5_takeAll_83 4 rfl 84 rfl ?_
      refine j_get C dX5_takeAll_84 5 1 6 inX5_takeAll_0 rfl rfl (by decide) rfl rfl rfl 87 rfl ?_
      refine j_icmp_ge C dX5_takeAll_87 100 (by decide) (q_t (by omega)) (q_t (by omega)) 90 rfl (fun h87 => ?_) (fun h87 => ?_)
      · exact j_vret C dX5_takeAll_100 (ax1, i1, rf1, x1, y1, z1) (by rw [show rdF t L w sz ev n = _ from if_neg (by rw [hAn2]; first | (intro h9; have h8 := h9.1; omega) | (intro h9; have h8 := h9.2; omega)), hAn2]; exact ⟨e1, e2, e3, fun h => (e4 h).2, e5⟩) rfl
      · refine j_aload_n C dX5_takeAll_90 2 rfl 91 rfl ?_
        refine j_iconst C dX5_takeAll_91 (nI 4) (by decide) 92 rfl ?_
        refine j_aload_n C dX5_takeAll_92 2 rfl 93 rfl ?_
        refine j_get C dX5_takeAll_93 0 2 3 inX5_takeAll_5 rfl rfl (by decide) rfl rfl rfl 96 rfl ?_
        refine j_callVi1 (As := [.int (nI 4), .int (nI ax1)]) (rest := []) (wr := [(va, .inl (cI, 64, .inl (aN rf1))), (hr, .inr (7, [.int (nI w), .int (nI sz), .int (nI ev)])), (ob, .inr (0, [.ref ta, .int (nI L)])), (ta, .inl (cI, 1000, .inl (aN tf)))]) C (c_X5_fail l D cI cZ cH d vo vu va ax1 i1 x1 y1 z1 4 ax1 ) gX5_takeAll_X5_fail dX5_takeAll_96 rfl yd_X5_fail (Nat.le_of_ble_eq_true rfl) (Nat.le_of_ble_eq_true rfl) rfl rfl rfl _ rfl (Nat.le_of_ble_eq_true rfl) (Nat.zero_le _) (Nat.zero_le _) [0, 1, 3] [2, 4, 5, 6] rfl rfl rfl rfl rfl (by decide) [4, 5, 0, 6, 1, 2, 3] [(d, .inr (5, [.ref vo, .ref vu, .int (nI ax1)])), (vo, .inr (6, [.ref va, .int (nI i1)])), (va, .inl (cI, 64, .inl (aN rf1))), (vu, .inr (1, [.int (nI 4), .int (nI ax1), .int (nI i1)])), (hr, .inr (7, [.int (nI w), .int (nI sz), .int (nI ev)])), (ob, .inr (0, [.ref ta, .int (nI L)])), (ta, .inl (cI, 1000, .inl (aN tf)))] rfl rfl rfl 99 rfl ?_
        refine j_pop C dX5_takeAll_99 rfl 100 rfl ?_
        exact j_vret C dX5_takeAll_100 (ax1, i1, rf1, 4, nI ax1, nI i1) (by rw [show rdF t L w sz ev n = _ from if_pos (by rw [hAn2]; exact ⟨by omega, by omega⟩), hAn2]; exact ⟨rfl, e2, e3, fun h => by simp at h, fun _ => ⟨by rw [hq.1], rfl⟩⟩) rfl
  · refine j_aload_n C dX5_takeAll_40 2 rfl 41 rfl ?_
    refine j_get C dX5_takeAll_41 0 1 4 inX5_takeAll_5 rfl rfl (by decide) rfl rfl rfl 44 rfl ?_
    refine j_callVi1 (As := []) (rest := []) (wr := [(d, .inr (5, [.ref vo, .ref vu, .int (nI ax1)])), (vo, .inr (6, [.ref va, .int (nI i1)])), (va, .inl (cI, 64, .inl (aN rf1))), (hr, .inr (7, [.int (nI w), .int (nI sz), .int (nI ev)])), (ob, .inr (0, [.ref ta, .int (nI L)])), (ta, .inl (cI, 1000, .inl (aN tf)))]) C (c_X1_isTold l D cI cZ cH vu x1 y1 z1 (by omega)) gX5_takeAll_X1_isTold dX5_takeAll_44 rfl yd_X1_isTold (Nat.le_of_ble_eq_true rfl) (Nat.le_of_ble_eq_true rfl) rfl rfl rfl _ rfl (Nat.le_of_ble_eq_true rfl) (Nat.zero_le _) (Nat.zero_le _) [3] [0, 1, 2, 4, 5, 6] rfl rfl rfl rfl rfl (by decide) [0, 1, 2, 6, 3, 4, 5] [(d, .inr (5, [.ref vo, .ref vu, .int (nI ax1)])), (vo, .inr (6, [.ref va, .int (nI i1)])), (va, .inl (cI, 64, .inl (aN rf1))), (vu, .inr (1, [.int (nI x1), .int y1, .int z1])), (hr, .inr (7, [.int (nI w), .int (nI sz), .int (nI ev)])), (ob, .inr (0, [.ref ta, .int (nI L)])), (ta, .inl (cI, 1000, .inl (aN tf)))] rfl rfl rfl 47 rfl ?_
    refine j_ifb_ne C dX5_takeAll_47 69 (by decide) 50 rfl (fun h47 => ?_) (fun h47 => ?_)
    · have hAn2 : rA t L w sz ev n ((n + sz - 1) / sz) = rA t L w sz ev n (b) := by first | exact hAn | exact rA_stay (by omega) hb
      refine j_aload_n C dX5_takeAll_69 2 rfl 70 rfl ?_
      refine j_get C dX5_takeAll_70 0 1 4 inX5_takeAll_5 rfl rfl (by decide) rfl rfl rfl 73 rfl ?_
      refine j_callVi1 (As := []) (rest := []) (wr := [(d, .inr (5, [.ref vo, .ref vu, .int (nI ax1)])), (vo, .inr (6, [.ref va, .int (nI i1)])), (va, .inl (cI, 64, .inl (aN rf1))), (hr, .inr (7, [.int (nI w), .int (nI sz), .int (nI ev)])), (ob, .inr (0, [.ref ta, .int (nI L)])), (ta, .inl (cI, 1000, .inl (aN tf)))]) C (c_X1_isTold l D cI cZ cH vu x1 y1 z1 (by omega)) gX5_takeAll_X1_isTold dX5_takeAll_73 rfl yd_X1_isTold (Nat.le_of_ble_eq_true rfl) (Nat.le_of_ble_eq_true rfl) rfl rfl rfl _ rfl (Nat.le_of_ble_eq_true rfl) (Nat.zero_le _) (Nat.zero_le _) [3] [0, 1, 2, 4, 5, 6] rfl rfl rfl rfl rfl (by decide) [0, 1, 2, 6, 3, 4, 5] [(d, .inr (5, [.ref vo, .ref vu, .int (nI ax1)])), (vo, .inr (6, [.ref va, .int (nI i1)])), (va, .inl (cI, 64, .inl (aN rf1))), (vu, .inr (1, [.int (nI x1), .int y1, .int z1])), (hr, .inr (7, [.int (nI w), .int (nI sz), .int (nI ev)])), (ob, .inr (0, [.ref ta, .int (nI L)])), (ta, .inl (cI, 1000, .inl (aN tf)))] rfl rfl rfl 76 rfl ?_
      refine j_ifb_ne C dX5_takeAll_76 100 (by decide) 79 rfl (fun h76 => ?_) (fun h76 => ?_)
      · exact j_vret C dX5_takeAll_100 (ax1, i1, rf1, x1, y1, z1) (by rw [show rdF t L w sz ev n = _ from if_neg (by rw [hAn2]; first | (intro h9; have h8 := h9.1; omega) | (intro h9; have h8 := h9.2; omega)), hAn2]; exact ⟨e1, e2, e3, fun h => (e4 h).2, e5⟩) rfl
      · have hq := e4 (by omega)
        have hql := hgd.1.1
        refine j_aload_n C dX5_takeAll_79 2 rfl 80 rfl ?_
        refine j_get C dX5_takeAll_80 0 2 3 inX5_takeAll_5 rfl rfl (by decide) rfl rfl rfl 83 rfl ?_
        refine j_aload_n C dX5_takeAll_83 4 rfl 84 rfl ?_
        refine j_get C dX5_takeAll_84 5 1 6 inX5_takeAll_0 rfl rfl (by decide) rfl rfl rfl 87 rfl ?_
        refine j_icmp_ge C dX5_takeAll_87 100 (by decide) (q_t (by omega)) (q_t (by omega)) 90 rfl (fun h87 => ?_) (fun h87 => ?_)
        · exact j_vret C dX5_takeAll_100 (ax1, i1, rf1, x1, y1, z1) (by rw [show rdF t L w sz ev n = _ from if_neg (by rw [hAn2]; first | (intro h9; have h8 := h9.1; omega) | (intro h9; have h8 := h9.2; omega)), hAn2]; exact ⟨e1, e2, e3, fun h => (e4 h).2, e5⟩) rfl
        · refine j_aload_n C dX5_takeAll_90 2 rfl 91 rfl ?_
          refine j_iconst C dX5_takeAll_91 (nI 4) (by decide) 92 rfl ?_
          refine j_aload_n C dX5_takeAll_92 2 rfl 93 rfl ?_
          refine j_get C dX5_takeAll_93 0 2 3 inX5_takeAll_5 rfl rfl (by decide) rfl rfl rfl 96 rfl ?_
          refine j_callVi1 (As := [.int (nI 4), .int (nI ax1)]) (rest := []) (wr := [(va, .inl (cI, 64, .inl (aN rf1))), (hr, .inr (7, [.int (nI w), .int (nI sz), .int (nI ev)])), (ob, .inr (0, [.ref ta, .int (nI L)])), (ta, .inl (cI, 1000, .inl (aN tf)))]) C (c_X5_fail l D cI cZ cH d vo vu va ax1 i1 x1 y1 z1 4 ax1 ) gX5_takeAll_X5_fail dX5_takeAll_96 rfl yd_X5_fail (Nat.le_of_ble_eq_true rfl) (Nat.le_of_ble_eq_true rfl) rfl rfl rfl _ rfl (Nat.le_of_ble_eq_true rfl) (Nat.zero_le _) (Nat.zero_le _) [0, 1, 3] [2, 4, 5, 6] rfl rfl rfl rfl rfl (by decide) [4, 5, 0, 6, 1, 2, 3] [(d, .inr (5, [.ref vo, .ref vu, .int (nI ax1)])), (vo, .inr (6, [.ref va, .int (nI i1)])), (va, .inl (cI, 64, .inl (aN rf1))), (vu, .inr (1, [.int (nI 4), .int (nI ax1), .int (nI i1)])), (hr, .inr (7, [.int (nI w), .int (nI sz), .int (nI ev)])), (ob, .inr (0, [.ref ta, .int (nI L)])), (ta, .inl (cI, 1000, .inl (aN tf)))] rfl rfl rfl 99 rfl ?_
          refine j_pop C dX5_takeAll_99 rfl 100 rfl ?_
          exact j_vret C dX5_takeAll_100 (ax1, i1, rf1, 4, nI ax1, nI i1) (by rw [show rdF t L w sz ev n = _ from if_pos (by rw [hAn2]; exact ⟨by omega, by omega⟩), hAn2]; exact ⟨rfl, e2, e3, fun h => by simp at h, fun _ => ⟨by rw [hq.1], rfl⟩⟩) rfl
    · have hA0 : (rA t L w sz ev n (b)).1 = 0 := by omega
      obtain ⟨hax9, hy9, hz9⟩ := e4 hA0
      have hx9 : x1 = 0 := by omega
      have hblt : b * sz < n := (blk_lt hsz.1).mp (by omega)
      have hmul : (b + 1) * sz = b * sz + sz := Nat.succ_mul b sz
      have hi9 : i1 = b * sz := by rw [e2, hgd.2.1 hA0]; omega
      have hble : b ≤ b * sz := Nat.le_mul_of_pos_right b hsz.1
      have hnx := nbk_le hsz.1 hn
      clear e4 e5
      subst hx9 hax9 hy9 hz9 hi9
      refine j_aload_n C dX5_takeAll_50 2 rfl 51 rfl ?_
      refine j_aload_n C dX5_takeAll_51 3 rfl 52 rfl ?_
      refine j_aload_n C dX5_takeAll_52 4 rfl 53 rfl ?_
      refine j_aload_n C dX5_takeAll_53 3 rfl 54 rfl ?_
      refine j_iload C dX5_takeAll_54 0 rfl 56 rfl ?_
      refine j_iload_n C dX5_takeAll_56 5 rfl 57 rfl ?_
      refine j_callVi1 (As := [.int (nI b), .int (nI n)]) (rest := [.ref ob, .ref hr, .ref d]) (wr := [(d, .inr (5, [.ref vo, .ref vu, .int (nI ((rA t L w sz ev n (b)).2.2.1))])), (vo, .inr (6, [.ref va, .int (nI (b * sz))])), (va, .inl (cI, 64, .inl (aN rf1))), (vu, .inr (1, [.int (nI 0), .int (-6), .int (-6)])), (ob, .inr (0, [.ref ta, .int (nI L)])), (ta, .inl (cI, 1000, .inl (aN tf)))]) C (c_X7_endOfBlock l D cI cZ cH hr w sz ev b n (by omega) (by omega) (by omega)) gX5_takeAll_X7_endOfBlock dX5_takeAll_57 rfl yd_X7_endOfBlock (Nat.le_of_ble_eq_true rfl) (Nat.le_of_ble_eq_true rfl) rfl rfl rfl _ rfl (Nat.le_of_ble_eq_true rfl) (Nat.zero_le _) (Nat.zero_le _) [4] [0, 1, 2, 3, 5, 6] rfl rfl rfl rfl rfl (by decide) [0, 1, 2, 3, 6, 4, 5] [(d, .inr (5, [.ref vo, .ref vu, .int (nI ((rA t L w sz ev n (b)).2.2.1))])), (vo, .inr (6, [.ref va, .int (nI (b * sz))])), (va, .inl (cI, 64, .inl (aN rf1))), (vu, .inr (1, [.int (nI 0), .int (-6), .int (-6)])), (hr, .inr (7, [.int (nI w), .int (nI sz), .int (nI ev)])), (ob, .inr (0, [.ref ta, .int (nI L)])), (ta, .inl (cI, 1000, .inl (aN tf)))] rfl rfl rfl 60 rfl ?_
      refine j_callVv (As := [.ref hr, .ref ob, .int (nI (min n ((b + 1) * sz)))]) (rest := []) (wr := []) C (c_X5_takeBlock l D cI cZ cH d vo vu va ((rA t L w sz ev n (b)).2.2.1) (b * sz) rf1 ((rA t L w sz ev n (b)).2.2.2.1) (-6) (-6) hr w sz ev ob ta L tf t (min n ((b + 1) * sz)) hw hsz hev (by omega) hft ht hgd.1.1 (by omega) (by omega) e3 (fun j hj => hgd.1.2.2.1 j (by omega))) gX5_takeAll_X5_takeBlock dX5_takeAll_60 rfl yd_X5_takeBlock (Nat.le_of_ble_eq_true rfl) (Nat.le_of_ble_eq_true rfl) rfl rfl rfl _ rfl (Nat.le_of_ble_eq_true rfl) (Nat.zero_le _) (Nat.zero_le _) [0, 1, 2, 3, 4, 5, 6] [] rfl rfl rfl rfl rfl (by decide) [0, 1, 2, 3, 4, 5, 6] (fun u9 => [(d, .inr (5, [.ref vo, .ref vu, .int (nI (u9.1))])), (vo, .inr (6, [.ref va, .int (nI (u9.2.1))])), (va, .inl (cI, 64, .inl (aN (u9.2.2.1)))), (vu, .inr (1, [.int (nI (u9.2.2.2.1)), .int (u9.2.2.2.2.1), .int (u9.2.2.2.2.2)])), (hr, .inr (7, [.int (nI w), .int (nI sz), .int (nI ev)])), (ob, .inr (0, [.ref ta, .int (nI L)])), (ta, .inl (cI, 1000, .inl (aN tf)))]) (fun _ => rfl) (fun _ => rfl) rfl 63 rfl (fun u9 hpo60 => ?_)
      obtain ⟨ax2_60, i2_60, rf2_60, x2_60, y2_60, z2_60⟩ := u9
      replace hpo60 : x2_60 = (rblk t L w sz ev ((rA t L w sz ev n (b)).2.2.1) ((rA t L w sz ev n (b)).2.2.2.1) (b * sz) (min n ((b + 1) * sz))).1 ∧ i2_60 = (rblk t L w sz ev ((rA t L w sz ev n (b)).2.2.1) ((rA t L w sz ev n (b)).2.2.2.1) (b * sz) (min n ((b + 1) * sz))).2.2.2.2 ∧ (∀ j, j < i2_60 → rf2_60 j = (rblk t L w sz ev ((rA t L w sz ev n (b)).2.2.1) ((rA t L w sz ev n (b)).2.2.2.1) (b * sz) (min n ((b + 1) * sz))).2.2.2.1 j) ∧ ((rblk t L w sz ev ((rA t L w sz ev n (b)).2.2.1) ((rA t L w sz ev n (b)).2.2.2.1) (b * sz) (min n ((b + 1) * sz))).1 = 0 → ax2_60 = (rblk t L w sz ev ((rA t L w sz ev n (b)).2.2.1) ((rA t L w sz ev n (b)).2.2.2.1) (b * sz) (min n ((b + 1) * sz))).2.2.1 ∧ y2_60 = (-6) ∧ z2_60 = (-6)) ∧ (¬ (rblk t L w sz ev ((rA t L w sz ev n (b)).2.2.1) ((rA t L w sz ev n (b)).2.2.2.1) (b * sz) (min n ((b + 1) * sz))).1 = 0 → y2_60 = nI (rblk t L w sz ev ((rA t L w sz ev n (b)).2.2.1) ((rA t L w sz ev n (b)).2.2.2.1) (b * sz) (min n ((b + 1) * sz))).2.1 ∧ z2_60 = nI i2_60) := hpo60
      show J D AX pX l eX _ sX mX _ bX methX cX 0 0 _ 6 [(d, .inr (5, [.ref vo, .ref vu, .int (nI ax2_60)])), (vo, .inr (6, [.ref va, .int (nI i2_60)])), (va, .inl (cI, 64, .inl (aN rf2_60))), (vu, .inr (1, [.int (nI x2_60), .int y2_60, .int z2_60])), (hr, .inr (7, [.int (nI w), .int (nI sz), .int (nI ev)])), (ob, .inr (0, [.ref ta, .int (nI L)])), (ta, .inl (cI, 1000, .inl (aN tf)))] [(5, .int (nI b)), (4, .int (nI ((n + sz - 1) / sz))), (0, .ref d), (1, .ref hr), (2, .ref ob), (3, .int (nI n))] 63 []
      have hA1 : rA t L w sz ev n (b + 1) = rblk t L w sz ev ((rA t L w sz ev n (b)).2.2.1) ((rA t L w sz ev n (b)).2.2.2.1) (b * sz) (min n ((b + 1) * sz)) := by rw [rA, if_pos hA0]
      rw [← hA1] at hpo60
      have hst : (x2_60 = (rA t L w sz ev n (b + 1)).1) ∧ (i2_60 = (rA t L w sz ev n (b + 1)).2.2.2.2) ∧ (∀ j, j < i2_60 → rf2_60 j = (rA t L w sz ev n (b + 1)).2.2.2.1 j) ∧ ((rA t L w sz ev n (b + 1)).1 = 0 → ax2_60 = (rA t L w sz ev n (b + 1)).2.2.1 ∧ y2_60 = -6 ∧ z2_60 = -6) ∧ (¬ (rA t L w sz ev n (b + 1)).1 = 0 → y2_60 = nI (rA t L w sz ev n (b + 1)).2.1 ∧ z2_60 = nI i2_60) := hpo60
      refine j_iinc C dX5_takeAll_63 0 rfl (nI (b + 1)) (nI_1 (b)) [(5, .int (nI (b + 1))), (4, .int (nI ((n + sz - 1) / sz))), (0, .ref d), (1, .ref hr), (2, .ref ob), (3, .int (nI n))] (by decide) rfl 66 rfl ?_
      refine j_goto C dX5_takeAll_66 33 (by decide) ?_
      exact ih33 (b + 1) ax2_60 i2_60 rf2_60 x2_60 y2_60 z2_60 ⟨by omega, hst.1, hst.2.1, hst.2.2.1, hst.2.2.2.1, hst.2.2.2.2⟩ (by omega)
