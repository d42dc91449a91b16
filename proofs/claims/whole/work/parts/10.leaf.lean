set_option maxHeartbeats 4000000 in
set_option maxRecDepth 100000 in
theorem c_X8_topOf (l : Launch) (D : va_G) (cI cZ cH : ClassId) (w : Nat) (hw : w ≤ 8) : Mi l D cI cZ cH yX8_topOf wsX8_topOf 0 0 [.int (nI w)] [] (fun (r9 : Int32) (_ : Unit) => r9 = nI (tpW w)) (fun (_ : Unit) => []) := by
  refine Mi.start (cc := cX8_topOf) (nL := 1) (ret := (some .int)) (lv0 := [(0, .int (nI w))]) (by decide) rfl (Nat.le_of_ble_eq_true rfl) rfl ?_
  intro pX eX sX mX bX methX cX AX C
  have h2 := p2le hw
  refine j_iconst C dX8_topOf_0 (nI 1) (by decide) 1 rfl ?_
  refine j_iload_n C dX8_topOf_1 0 rfl 2 rfl ?_
  refine j_ishl C dX8_topOf_2 (nI (1 * 2 ^ w)) (q_shl (by omega) (by omega)) 3 rfl ?_
  refine j_iconst C dX8_topOf_3 (nI 1) (by decide) 4 rfl ?_
  refine j_isub C dX8_topOf_4 (nI ((1 * 2 ^ w) - 1)) (pk_sub (by omega)) 5 rfl ?_
  exact j_iret C dX8_topOf_5 () (show (nI ((1 * 2 ^ w) - 1) : Int32) = nI (tpW w) from by congr 1; simp only [tpW]; omega) rfl
set_option maxHeartbeats 4000000 in
set_option maxRecDepth 100000 in
theorem c_X8_quotient (l : Launch) (D : va_G) (cI cZ cH : ClassId) (a d : Nat) (ha : a < 2 ^ 31) (h0 : 0 < d) (hd : d < 2 ^ 31) : Mi l D cI cZ cH yX8_quotient wsX8_quotient 0 0 [.int (nI a), .int (nI d)] [] (fun (r9 : Int32) (_ : Unit) => r9 = nI (a / d)) (fun (_ : Unit) => []) := by
  refine Mi.start (cc := cX8_quotient) (nL := 2) (ret := (some .int)) (lv0 := [(0, .int (nI a)), (1, .int (nI d))]) (by decide) rfl (Nat.le_of_ble_eq_true rfl) rfl ?_
  intro pX eX sX mX bX methX cX AX C
  refine j_iload_n C dX8_quotient_0 1 rfl 1 rfl ?_
  refine j_iconst C dX8_quotient_1 (nI 1) (by decide) 2 rfl ?_
  refine j_icmp_ge C dX8_quotient_2 9 (by decide) (q_t (by omega)) (q_t (n := 1) (Nat.le_of_ble_eq_true rfl)) 5 rfl (fun h2 => ?_) (fun h9 => by exfalso; omega)
  refine j_iload_n C dX8_quotient_9 0 rfl 10 rfl ?_
  refine j_iload_n C dX8_quotient_10 1 rfl 11 rfl ?_
  refine j_idiv C dX8_quotient_11 (nz (by omega) (by omega)) (nI (a / d)) (pk_div (by omega) (by omega) (by omega)) 12 rfl ?_
  have hdiv11 := Nat.div_le_self a d
  exact j_iret C dX8_quotient_12 () rfl rfl
set_option maxHeartbeats 4000000 in
set_option maxRecDepth 100000 in
theorem c_X8_quotientUp (l : Launch) (D : va_G) (cI cZ cH : ClassId) (a d : Nat) (ha : a < 2 ^ 30) (h0 : 0 < d) (hd : d < 2 ^ 30) : Mi l D cI cZ cH yX8_quotientUp wsX8_quotientUp 1 21 [.int (nI a), .int (nI d)] [] (fun (r9 : Int32) (_ : Unit) => r9 = nI ((a + d - 1) / d)) (fun (_ : Unit) => []) := by
  refine Mi.start (cc := cX8_quotientUp) (nL := 2) (ret := (some .int)) (lv0 := [(0, .int (nI a)), (1, .int (nI d))]) (by decide) rfl (Nat.le_of_ble_eq_true rfl) rfl ?_
  intro pX eX sX mX bX methX cX AX C
  refine j_iload_n C dX8_quotientUp_0 0 rfl 1 rfl ?_
  refine j_iload_n C dX8_quotientUp_1 1 rfl 2 rfl ?_
  refine j_iadd C dX8_quotientUp_2 (nI (a + d)) (nI_add a d) 3 rfl ?_
  refine j_iconst C dX8_quotientUp_3 (nI 1) (by decide) 4 rfl ?_
  refine j_isub C dX8_quotientUp_4 (nI ((a + d) - 1)) (pk_sub (by omega)) 5 rfl ?_
  refine j_iload_n C dX8_quotientUp_5 1 rfl 6 rfl ?_
  refine j_callSi1 (As := [.int (nI ((a + d) - 1)), .int (nI d)]) (rest := []) (wr := []) C (c_X8_quotient l D cI cZ cH ((a + d) - 1) d (by omega) (by omega) (by omega)) gX8_quotientUp_X8_quotient dX8_quotientUp_6 rfl yd_X8_quotient.2 (Nat.le_of_ble_eq_true rfl) (Nat.le_of_ble_eq_true rfl) rfl _ rfl (Nat.le_of_ble_eq_true rfl) (Nat.zero_le _) (Nat.zero_le _) [] [] rfl rfl rfl rfl rfl (by decide) [] [] rfl rfl rfl 9 rfl ?_
  exact j_iret C dX8_quotientUp_9 () (show (nI (((a + d) - 1) / d) : Int32) = nI ((a + d - 1) / d) from by first | rfl | omega | ((repeat' split) <;> first | rfl | omega | (exfalso; omega))) rfl
set_option maxHeartbeats 4000000 in
set_option maxRecDepth 100000 in
theorem c_X8_isWay (l : Launch) (D : va_G) (cI cZ cH : ClassId) (x : Int32)  : Mi l D cI cZ cH yX8_isWay wsX8_isWay 0 0 [.int x] [] (fun (r9 : Int32) (_ : Unit) => r9 = (if 0 ≤ x.toInt ∧ x.toInt < 4 then 1 else 0)) (fun (_ : Unit) => []) := by
  refine Mi.start (cc := cX8_isWay) (nL := 1) (ret := (some .boolean)) (lv0 := [(0, .int x)]) (by decide) rfl (Nat.le_of_ble_eq_true rfl) rfl ?_
  intro pX eX sX mX bX methX cX AX C
  refine j_iload_n C dX8_isWay_0 0 rfl 1 rfl ?_
  refine j_if_lt C dX8_isWay_1 13 (by decide) rfl 4 rfl (fun h1 => ?_) (fun h1 => ?_)
  · refine j_iconst C dX8_isWay_13 (nI 0) (by decide) 14 rfl ?_
    exact j_zret C dX8_isWay_14 rfl () (show (nI 0 : Int32) = (if 0 ≤ x.toInt ∧ x.toInt < 4 then 1 else 0) from by first | rfl | omega | ((repeat' split) <;> first | rfl | omega | (exfalso; omega))) rfl
  · refine j_iload_n C dX8_isWay_4 0 rfl 5 rfl ?_
    refine j_iconst C dX8_isWay_5 (nI 4) (by decide) 6 rfl ?_
    refine j_icmp_ge C dX8_isWay_6 13 (by decide) rfl (q_t (n := 4) (Nat.le_of_ble_eq_true rfl)) 9 rfl (fun h6 => ?_) (fun h6 => ?_)
    · refine j_iconst C dX8_isWay_13 (nI 0) (by decide) 14 rfl ?_
      exact j_zret C dX8_isWay_14 rfl () (show (nI 0 : Int32) = (if 0 ≤ x.toInt ∧ x.toInt < 4 then 1 else 0) from by first | rfl | omega | ((repeat' split) <;> first | rfl | omega | (exfalso; omega))) rfl
    · refine j_iconst C dX8_isWay_9 (nI 1) (by decide) 10 rfl ?_
      refine j_goto C dX8_isWay_10 14 (by decide) ?_
      exact j_zret C dX8_isWay_14 rfl () (show (nI 1 : Int32) = (if 0 ≤ x.toInt ∧ x.toInt < 4 then 1 else 0) from by first | rfl | omega | ((repeat' split) <;> first | rfl | omega | (exfalso; omega))) rfl
set_option maxHeartbeats 4000000 in
set_option maxRecDepth 100000 in
theorem c_X8_isImage (l : Launch) (D : va_G) (cI cZ cH : ClassId) (x : Int32)  : Mi l D cI cZ cH yX8_isImage wsX8_isImage 0 0 [.int x] [] (fun (r9 : Int32) (_ : Unit) => r9 = (if 0 ≤ x.toInt ∧ x.toInt < 2 then 1 else 0)) (fun (_ : Unit) => []) := by
  refine Mi.start (cc := cX8_isImage) (nL := 1) (ret := (some .boolean)) (lv0 := [(0, .int x)]) (by decide) rfl (Nat.le_of_ble_eq_true rfl) rfl ?_
  intro pX eX sX mX bX methX cX AX C
  refine j_iload_n C dX8_isImage_0 0 rfl 1 rfl ?_
  refine j_if_lt C dX8_isImage_1 13 (by decide) rfl 4 rfl (fun h1 => ?_) (fun h1 => ?_)
  · refine j_iconst C dX8_isImage_13 (nI 0) (by decide) 14 rfl ?_
    exact j_zret C dX8_isImage_14 rfl () (show (nI 0 : Int32) = (if 0 ≤ x.toInt ∧ x.toInt < 2 then 1 else 0) from by first | rfl | omega | ((repeat' split) <;> first | rfl | omega | (exfalso; omega))) rfl
  · refine j_iload_n C dX8_isImage_4 0 rfl 5 rfl ?_
    refine j_iconst C dX8_isImage_5 (nI 2) (by decide) 6 rfl ?_
    refine j_icmp_ge C dX8_isImage_6 13 (by decide) rfl (q_t (n := 2) (Nat.le_of_ble_eq_true rfl)) 9 rfl (fun h6 => ?_) (fun h6 => ?_)
    · refine j_iconst C dX8_isImage_13 (nI 0) (by decide) 14 rfl ?_
      exact j_zret C dX8_isImage_14 rfl () (show (nI 0 : Int32) = (if 0 ≤ x.toInt ∧ x.toInt < 2 then 1 else 0) from by first | rfl | omega | ((repeat' split) <;> first | rfl | omega | (exfalso; omega))) rfl
    · refine j_iconst C dX8_isImage_9 (nI 1) (by decide) 10 rfl ?_
      refine j_goto C dX8_isImage_10 14 (by decide) ?_
      exact j_zret C dX8_isImage_14 rfl () (show (nI 1 : Int32) = (if 0 ≤ x.toInt ∧ x.toInt < 2 then 1 else 0) from by first | rfl | omega | ((repeat' split) <;> first | rfl | omega | (exfalso; omega))) rfl
set_option maxHeartbeats 4000000 in
set_option maxRecDepth 100000 in
theorem c_X8_isCode (l : Launch) (D : va_G) (cI cZ cH : ClassId) (code w : Nat) (hc : code < 16) (hw : w ≤ 8) : Mi l D cI cZ cH yX8_isCode wsX8_isCode 0 0 [.int (nI code), .int (nI w)] [] (fun (r9 : Int32) (_ : Unit) => r9 = (if code = 0 ∨ code = 8 ∨ (1 ≤ code ∧ code < 8 ∧ code - 1 < w) then 1 else 0)) (fun (_ : Unit) => []) := by
  refine Mi.start (cc := cX8_isCode) (nL := 2) (ret := (some .boolean)) (lv0 := [(0, .int (nI code)), (1, .int (nI w))]) (by decide) rfl (Nat.le_of_ble_eq_true rfl) rfl ?_
  intro pX eX sX mX bX methX cX AX C
  refine j_iload_n C dX8_isCode_0 0 rfl 1 rfl ?_
  refine j_if_eq C dX8_isCode_1 10 (by decide) (q_t (by omega)) 4 rfl (fun h1 => ?_) (fun h1 => ?_)
  · refine j_iconst C dX8_isCode_10 (nI 1) (by decide) 11 rfl ?_
    exact j_zret C dX8_isCode_11 rfl () (show (nI 1 : Int32) = (if code = 0 ∨ code = 8 ∨ (1 ≤ code ∧ code < 8 ∧ code - 1 < w) then 1 else 0) from by first | rfl | omega | ((repeat' split) <;> first | rfl | omega | (exfalso; omega))) rfl
  · refine j_iload_n C dX8_isCode_4 0 rfl 5 rfl ?_
    refine j_bipush C dX8_isCode_5 (nI 8) (by decide) 7 rfl ?_
    refine j_icmp_ne C dX8_isCode_7 12 (by decide) (q_t (by omega)) (q_t (n := 8) (Nat.le_of_ble_eq_true rfl)) 10 rfl (fun h7 => ?_) (fun h7 => ?_)
    · refine j_iload_n C dX8_isCode_12 0 rfl 13 rfl ?_
      refine j_if_le C dX8_isCode_13 33 (by decide) (q_t (by omega)) 16 rfl (fun h13 => ?_) (fun h13 => ?_)
      · refine j_iconst C dX8_isCode_33 (nI 0) (by decide) 34 rfl ?_
        exact j_zret C dX8_isCode_34 rfl () (show (nI 0 : Int32) = (if code = 0 ∨ code = 8 ∨ (1 ≤ code ∧ code < 8 ∧ code - 1 < w) then 1 else 0) from by first | rfl | omega | ((repeat' split) <;> first | rfl | omega | (exfalso; omega))) rfl
      · refine j_iload_n C dX8_isCode_16 0 rfl 17 rfl ?_
        refine j_bipush C dX8_isCode_17 (nI 8) (by decide) 19 rfl ?_
        refine j_icmp_ge C dX8_isCode_19 33 (by decide) (q_t (by omega)) (q_t (n := 8) (Nat.le_of_ble_eq_true rfl)) 22 rfl (fun h19 => ?_) (fun h19 => ?_)
        · refine j_iconst C dX8_isCode_33 (nI 0) (by decide) 34 rfl ?_
          exact j_zret C dX8_isCode_34 rfl () (show (nI 0 : Int32) = (if code = 0 ∨ code = 8 ∨ (1 ≤ code ∧ code < 8 ∧ code - 1 < w) then 1 else 0) from by first | rfl | omega | ((repeat' split) <;> first | rfl | omega | (exfalso; omega))) rfl
        · refine j_iload_n C dX8_isCode_22 0 rfl 23 rfl ?_
          refine j_iconst C dX8_isCode_23 (nI 1) (by decide) 24 rfl ?_
          refine j_isub C dX8_isCode_24 (nI (code - 1)) (pk_sub (by omega)) 25 rfl ?_
          refine j_iload_n C dX8_isCode_25 1 rfl 26 rfl ?_
          refine j_icmp_ge C dX8_isCode_26 33 (by decide) (q_t (by omega)) (q_t (by omega)) 29 rfl (fun h26 => ?_) (fun h26 => ?_)
          · refine j_iconst C dX8_isCode_33 (nI 0) (by decide) 34 rfl ?_
            exact j_zret C dX8_isCode_34 rfl () (show (nI 0 : Int32) = (if code = 0 ∨ code = 8 ∨ (1 ≤ code ∧ code < 8 ∧ code - 1 < w) then 1 else 0) from by first | rfl | omega | ((repeat' split) <;> first | rfl | omega | (exfalso; omega))) rfl
          · refine j_iconst C dX8_isCode_29 (nI 1) (by decide) 30 rfl ?_
            refine j_goto C dX8_isCode_30 34 (by decide) ?_
            exact j_zret C dX8_isCode_34 rfl () (show (nI 1 : Int32) = (if code = 0 ∨ code = 8 ∨ (1 ≤ code ∧ code < 8 ∧ code - 1 < w) then 1 else 0) from by first | rfl | omega | ((repeat' split) <;> first | rfl | omega | (exfalso; omega))) rfl
    · refine j_iconst C dX8_isCode_10 (nI 1) (by decide) 11 rfl ?_
      exact j_zret C dX8_isCode_11 rfl () (show (nI 1 : Int32) = (if code = 0 ∨ code = 8 ∨ (1 ≤ code ∧ code < 8 ∧ code - 1 < w) then 1 else 0) from by first | rfl | omega | ((repeat' split) <;> first | rfl | omega | (exfalso; omega))) rfl
set_option maxHeartbeats 4000000 in
set_option maxRecDepth 100000 in
theorem c_X8_fold (l : Launch) (D : va_G) (cI cZ cH : ClassId) (v e t : Nat) (hv : v ≤ t) (he : e ≤ t) (ht : t ≤ 255) : Mi l D cI cZ cH yX8_fold wsX8_fold 1 14 [.int (nI v), .int (nI e), .int (nI t)] [] (fun (r9 : Int32) (_ : Unit) => r9 = nI (foldN v e t)) (fun (_ : Unit) => []) := by
  refine Mi.start (cc := cX8_fold) (nL := 4) (ret := (some .int)) (lv0 := [(0, .int (nI v)), (1, .int (nI e)), (2, .int (nI t))]) (by decide) rfl (Nat.le_of_ble_eq_true rfl) rfl ?_
  intro pX eX sX mX bX methX cX AX C
  refine j_iload_n C dX8_fold_0 1 rfl 1 rfl ?_
  refine j_iload_n C dX8_fold_1 2 rfl 2 rfl ?_
  refine j_iload_n C dX8_fold_2 1 rfl 3 rfl ?_
  refine j_isub C dX8_fold_3 (nI (t - e)) (pk_sub (by omega)) 4 rfl ?_
  refine j_min C dX8_fold_4 1 2 3 4 rfl rfl rfl rfl (Nat.le_of_ble_eq_true rfl) (Nat.le_of_ble_eq_true rfl) (Nat.zero_le _) (Nat.zero_le _) (nI (min e (t - e))) (q_min (by omega) (by omega)) 7 rfl ?_
  refine j_istore_n C dX8_fold_7 [(3, .int (nI (min e (t - e)))), (0, .int (nI v)), (1, .int (nI e)), (2, .int (nI t))] (by decide) rfl 8 rfl ?_
  refine j_iload_n C dX8_fold_8 1 rfl 9 rfl ?_
  refine j_iload_n C dX8_fold_9 2 rfl 10 rfl ?_
  refine j_icmp_lt C dX8_fold_10 26 (by decide) (q_t (by omega)) (q_t (by omega)) 13 rfl (fun h10 => ?_) (fun h10 => ?_)
  · refine j_iload_n C dX8_fold_26 1 rfl 27 rfl ?_
    refine j_iload_n C dX8_fold_27 2 rfl 28 rfl ?_
    refine j_icmp_ge C dX8_fold_28 46 (by decide) (q_t (by omega)) (q_t (by omega)) 31 rfl (fun h28 => ?_) (fun h28 => ?_)
    · refine j_iload_n C dX8_fold_46 0 rfl 47 rfl ?_
      refine j_iload_n C dX8_fold_47 1 rfl 48 rfl ?_
      refine j_iload_n C dX8_fold_48 2 rfl 49 rfl ?_
      refine j_isub C dX8_fold_49 (nI v - nI e) rfl 50 rfl ?_
      refine j_abs C dX8_fold_50 5 6 3 7 rfl rfl rfl rfl (Nat.le_of_ble_eq_true rfl) (Nat.le_of_ble_eq_true rfl) (Nat.zero_le _) (Nat.zero_le _) (nI (if v < e then e - v else v - e)) (q_abs (by omega) (by omega)) 53 rfl ?_
      refine j_iadd C dX8_fold_53 (nI (min e (t - e) + (if v < e then e - v else v - e))) (nI_add (min e (t - e)) (if v < e then e - v else v - e)) 54 rfl ?_
      exact j_iret C dX8_fold_54 () (show (nI (min e (t - e) + (if v < e then e - v else v - e)) : Int32) = nI (foldN v e t) from by (congr 1; simp only [foldN]; repeat' split) <;> omega) rfl
    · refine j_iload_n C dX8_fold_31 1 rfl 32 rfl ?_
      refine j_iload_n C dX8_fold_32 2 rfl 33 rfl ?_
      refine j_iload_n C dX8_fold_33 0 rfl 34 rfl ?_
      refine j_isub C dX8_fold_34 (nI (e - (min e (t - e)))) (pk_sub (by omega)) 35 rfl ?_
      refine j_icmp_lt C dX8_fold_35 46 (by decide) (q_t (by omega)) (q_t (by omega)) 38 rfl (fun h35 => ?_) (fun h35 => ?_)
      · refine j_iload_n C dX8_fold_46 0 rfl 47 rfl ?_
        refine j_iload_n C dX8_fold_47 1 rfl 48 rfl ?_
        refine j_iload_n C dX8_fold_48 2 rfl 49 rfl ?_
        refine j_isub C dX8_fold_49 (nI v - nI e) rfl 50 rfl ?_
        refine j_abs C dX8_fold_50 5 6 3 7 rfl rfl rfl rfl (Nat.le_of_ble_eq_true rfl) (Nat.le_of_ble_eq_true rfl) (Nat.zero_le _) (Nat.zero_le _) (nI (if v < e then e - v else v - e)) (q_abs (by omega) (by omega)) 53 rfl ?_
        refine j_iadd C dX8_fold_53 (nI (min e (t - e) + (if v < e then e - v else v - e))) (nI_add (min e (t - e)) (if v < e then e - v else v - e)) 54 rfl ?_
        exact j_iret C dX8_fold_54 () (show (nI (min e (t - e) + (if v < e then e - v else v - e)) : Int32) = nI (foldN v e t) from by (congr 1; simp only [foldN]; repeat' split) <;> omega) rfl
      · refine j_iconst C dX8_fold_38 (nI 2) (by decide) 39 rfl ?_
        refine j_iload_n C dX8_fold_39 2 rfl 40 rfl ?_
        refine j_iload_n C dX8_fold_40 1 rfl 41 rfl ?_
        refine j_isub C dX8_fold_41 (nI (e - v)) (pk_sub (by omega)) 42 rfl ?_
        refine j_imul C dX8_fold_42 (nI (2 * (e - v))) (pk_mul 2 (e - v)) 43 rfl ?_
        refine j_iconst C dX8_fold_43 (nI 1) (by decide) 44 rfl ?_
        refine j_isub C dX8_fold_44 (nI ((2 * (e - v)) - 1)) (pk_sub (by omega)) 45 rfl ?_
        exact j_iret C dX8_fold_45 () (show (nI ((2 * (e - v)) - 1) : Int32) = nI (foldN v e t) from by (congr 1; simp only [foldN]; repeat' split) <;> omega) rfl
  · refine j_iload_n C dX8_fold_13 1 rfl 14 rfl ?_
    refine j_iload_n C dX8_fold_14 2 rfl 15 rfl ?_
    refine j_iload_n C dX8_fold_15 0 rfl 16 rfl ?_
    refine j_iadd C dX8_fold_16 (nI (e + (min e (t - e)))) (nI_add e (min e (t - e))) 17 rfl ?_
    refine j_icmp_gt C dX8_fold_17 26 (by decide) (q_t (by omega)) (q_t (by omega)) 20 rfl (fun h17 => ?_) (fun h17 => ?_)
    · refine j_iload_n C dX8_fold_26 1 rfl 27 rfl ?_
      refine j_iload_n C dX8_fold_27 2 rfl 28 rfl ?_
      refine j_icmp_ge C dX8_fold_28 46 (by decide) (q_t (by omega)) (q_t (by omega)) 31 rfl (fun h28 => ?_) (fun h28 => ?_)
      · refine j_iload_n C dX8_fold_46 0 rfl 47 rfl ?_
        refine j_iload_n C dX8_fold_47 1 rfl 48 rfl ?_
        refine j_iload_n C dX8_fold_48 2 rfl 49 rfl ?_
        refine j_isub C dX8_fold_49 (nI v - nI e) rfl 50 rfl ?_
        refine j_abs C dX8_fold_50 5 6 3 7 rfl rfl rfl rfl (Nat.le_of_ble_eq_true rfl) (Nat.le_of_ble_eq_true rfl) (Nat.zero_le _) (Nat.zero_le _) (nI (if v < e then e - v else v - e)) (q_abs (by omega) (by omega)) 53 rfl ?_
        refine j_iadd C dX8_fold_53 (nI (min e (t - e) + (if v < e then e - v else v - e))) (nI_add (min e (t - e)) (if v < e then e - v else v - e)) 54 rfl ?_
        exact j_iret C dX8_fold_54 () (show (nI (min e (t - e) + (if v < e then e - v else v - e)) : Int32) = nI (foldN v e t) from by (congr 1; simp only [foldN]; repeat' split) <;> omega) rfl
      · refine j_iload_n C dX8_fold_31 1 rfl 32 rfl ?_
        refine j_iload_n C dX8_fold_32 2 rfl 33 rfl ?_
        refine j_iload_n C dX8_fold_33 0 rfl 34 rfl ?_
        refine j_isub C dX8_fold_34 (nI (e - (min e (t - e)))) (pk_sub (by omega)) 35 rfl ?_
        refine j_icmp_lt C dX8_fold_35 46 (by decide) (q_t (by omega)) (q_t (by omega)) 38 rfl (fun h35 => ?_) (fun h35 => ?_)
        · refine j_iload_n C dX8_fold_46 0 rfl 47 rfl ?_
          refine j_iload_n C dX8_fold_47 1 rfl 48 rfl ?_
          refine j_iload_n C dX8_fold_48 2 rfl 49 rfl ?_
          refine j_isub C dX8_fold_49 (nI v - nI e) rfl 50 rfl ?_
          refine j_abs C dX8_fold_50 5 6 3 7 rfl rfl rfl rfl (Nat.le_of_ble_eq_true rfl) (Nat.le_of_ble_eq_true rfl) (Nat.zero_le _) (Nat.zero_le _) (nI (if v < e then e - v else v - e)) (q_abs (by omega) (by omega)) 53 rfl ?_
          refine j_iadd C dX8_fold_53 (nI (min e (t - e) + (if v < e then e - v else v - e))) (nI_add (min e (t - e)) (if v < e then e - v else v - e)) 54 rfl ?_
          exact j_iret C dX8_fold_54 () (show (nI (min e (t - e) + (if v < e then e - v else v - e)) : Int32) = nI (foldN v e t) from by (congr 1; simp only [foldN]; repeat' split) <;> omega) rfl
        · refine j_iconst C dX8_fold_38 (nI 2) (by decide) 39 rfl ?_
          refine j_iload_n C dX8_fold_39 2 rfl 40 rfl ?_
          refine j_iload_n C dX8_fold_40 1 rfl 41 rfl ?_
          refine j_isub C dX8_fold_41 (nI (e - v)) (pk_sub (by omega)) 42 rfl ?_
          refine j_imul C dX8_fold_42 (nI (2 * (e - v))) (pk_mul 2 (e - v)) 43 rfl ?_
          refine j_iconst C dX8_fold_43 (nI 1) (by decide) 44 rfl ?_
          refine j_isub C dX8_fold_44 (nI ((2 * (e - v)) - 1)) (pk_sub (by omega)) 45 rfl ?_
          exact j_iret C dX8_fold_45 () (show (nI ((2 * (e - v)) - 1) : Int32) = nI (foldN v e t) from by (congr 1; simp only [foldN]; repeat' split) <;> omega) rfl
    · refine j_iconst C dX8_fold_20 (nI 2) (by decide) 21 rfl ?_
      refine j_iload_n C dX8_fold_21 1 rfl 22 rfl ?_
      refine j_iload_n C dX8_fold_22 2 rfl 23 rfl ?_
      refine j_isub C dX8_fold_23 (nI (v - e)) (pk_sub (by omega)) 24 rfl ?_
      refine j_imul C dX8_fold_24 (nI (2 * (v - e))) (pk_mul 2 (v - e)) 25 rfl ?_
      exact j_iret C dX8_fold_25 () (show (nI (2 * (v - e)) : Int32) = nI (foldN v e t) from by (congr 1; simp only [foldN]; repeat' split) <;> omega) rfl
set_option maxHeartbeats 4000000 in
set_option maxRecDepth 100000 in
theorem c_X8_unfold (l : Launch) (D : va_G) (cI cZ cH : ClassId) (f e t : Nat) (hf : f ≤ t) (he : e ≤ t) (ht : t ≤ 255) : Mi l D cI cZ cH yX8_unfold wsX8_unfold 1 13 [.int (nI f), .int (nI e), .int (nI t)] [] (fun (r9 : Int32) (_ : Unit) => r9 = nI (unfoldN f e t)) (fun (_ : Unit) => []) := by
  refine Mi.start (cc := cX8_unfold) (nL := 4) (ret := (some .int)) (lv0 := [(0, .int (nI f)), (1, .int (nI e)), (2, .int (nI t))]) (by decide) rfl (Nat.le_of_ble_eq_true rfl) rfl ?_
  intro pX eX sX mX bX methX cX AX C
  refine j_iload_n C dX8_unfold_0 1 rfl 1 rfl ?_
  refine j_iload_n C dX8_unfold_1 2 rfl 2 rfl ?_
  refine j_iload_n C dX8_unfold_2 1 rfl 3 rfl ?_
  refine j_isub C dX8_unfold_3 (nI (t - e)) (pk_sub (by omega)) 4 rfl ?_
  refine j_min C dX8_unfold_4 1 2 3 4 rfl rfl rfl rfl (Nat.le_of_ble_eq_true rfl) (Nat.le_of_ble_eq_true rfl) (Nat.zero_le _) (Nat.zero_le _) (nI (min e (t - e))) (q_min (by omega) (by omega)) 7 rfl ?_
  refine j_istore_n C dX8_unfold_7 [(3, .int (nI (min e (t - e)))), (0, .int (nI f)), (1, .int (nI e)), (2, .int (nI t))] (by decide) rfl 8 rfl ?_
  refine j_iload_n C dX8_unfold_8 1 rfl 9 rfl ?_
  refine j_iconst C dX8_unfold_9 (nI 2) (by decide) 10 rfl ?_
  refine j_iload_n C dX8_unfold_10 0 rfl 11 rfl ?_
  refine j_imul C dX8_unfold_11 (nI (2 * (min e (t - e)))) (pk_mul 2 (min e (t - e))) 12 rfl ?_
  refine j_icmp_le C dX8_unfold_12 36 (by decide) (q_t (by omega)) (q_t (by omega)) 15 rfl (fun h12 => ?_) (fun h12 => ?_)
  · refine j_iload_n C dX8_unfold_36 1 rfl 37 rfl ?_
    refine j_iconst C dX8_unfold_37 (nI 2) (by decide) 38 rfl ?_
    refine j_irem C dX8_unfold_38 (nz (by omega) (by omega)) (nI (f % 2)) (pk_rem (by omega) (by omega) (by omega)) 39 rfl ?_
    refine j_if_ne C dX8_unfold_39 50 (by decide) (q_t (by omega)) 42 rfl (fun h39 => ?_) (fun h39 => ?_)
    · refine j_iload_n C dX8_unfold_50 2 rfl 51 rfl ?_
      refine j_iload_n C dX8_unfold_51 1 rfl 52 rfl ?_
      refine j_iconst C dX8_unfold_52 (nI 1) (by decide) 53 rfl ?_
      refine j_iadd C dX8_unfold_53 (nI (f + 1)) (nI_add f 1) 54 rfl ?_
      refine j_iconst C dX8_unfold_54 (nI 2) (by decide) 55 rfl ?_
      refine j_idiv C dX8_unfold_55 (nz (by omega) (by omega)) (nI ((f + 1) / 2)) (pk_div (by omega) (by omega) (by omega)) 56 rfl ?_
      refine j_isub C dX8_unfold_56 (nI (e - ((f + 1) / 2))) (pk_sub (by omega)) 57 rfl ?_
      exact j_iret C dX8_unfold_57 () (show (nI (e - ((f + 1) / 2)) : Int32) = nI (unfoldN f e t) from by (congr 1; simp only [unfoldN]; repeat' split) <;> omega) rfl
    · refine j_iload_n C dX8_unfold_42 2 rfl 43 rfl ?_
      refine j_iload_n C dX8_unfold_43 1 rfl 44 rfl ?_
      refine j_iconst C dX8_unfold_44 (nI 2) (by decide) 45 rfl ?_
      refine j_idiv C dX8_unfold_45 (nz (by omega) (by omega)) (nI (f / 2)) (pk_div (by omega) (by omega) (by omega)) 46 rfl ?_
      refine j_iadd C dX8_unfold_46 (nI (e + (f / 2))) (nI_add e (f / 2)) 47 rfl ?_
      refine j_goto C dX8_unfold_47 57 (by decide) ?_
      exact j_iret C dX8_unfold_57 () (show (nI (e + (f / 2)) : Int32) = nI (unfoldN f e t) from by (congr 1; simp only [unfoldN]; repeat' split) <;> omega) rfl
  · refine j_iload_n C dX8_unfold_15 2 rfl 16 rfl ?_
    refine j_iload_n C dX8_unfold_16 3 rfl 17 rfl ?_
    refine j_iload_n C dX8_unfold_17 2 rfl 18 rfl ?_
    refine j_isub C dX8_unfold_18 (nI (t - e)) (pk_sub (by omega)) 19 rfl ?_
    refine j_icmp_ge C dX8_unfold_19 30 (by decide) (q_t (by omega)) (q_t (by omega)) 22 rfl (fun h19 => ?_) (fun h19 => ?_)
    · refine j_iload_n C dX8_unfold_30 2 rfl 31 rfl ?_
      refine j_iload_n C dX8_unfold_31 1 rfl 32 rfl ?_
      refine j_iload_n C dX8_unfold_32 0 rfl 33 rfl ?_
      refine j_isub C dX8_unfold_33 (nI (f - (min e (t - e)))) (pk_sub (by omega)) 34 rfl ?_
      refine j_isub C dX8_unfold_34 (nI (e - (f - (min e (t - e))))) (pk_sub (by omega)) 35 rfl ?_
      exact j_iret C dX8_unfold_35 () (show (nI (e - (f - (min e (t - e)))) : Int32) = nI (unfoldN f e t) from by (congr 1; simp only [unfoldN]; repeat' split) <;> omega) rfl
    · refine j_iload_n C dX8_unfold_22 2 rfl 23 rfl ?_
      refine j_iload_n C dX8_unfold_23 1 rfl 24 rfl ?_
      refine j_iload_n C dX8_unfold_24 0 rfl 25 rfl ?_
      refine j_isub C dX8_unfold_25 (nI (f - (min e (t - e)))) (pk_sub (by omega)) 26 rfl ?_
      refine j_iadd C dX8_unfold_26 (nI (e + (f - (min e (t - e))))) (nI_add e (f - (min e (t - e)))) 27 rfl ?_
      refine j_goto C dX8_unfold_27 35 (by decide) ?_
      exact j_iret C dX8_unfold_35 () (show (nI (e + (f - (min e (t - e)))) : Int32) = nI (unfoldN f e t) from by (congr 1; simp only [unfoldN]; repeat' split) <;> omega) rfl
set_option maxHeartbeats 4000000 in
set_option maxRecDepth 100000 in
theorem c_X7_top (l : Launch) (D : va_G) (cI cZ cH : ClassId) (h w sz ev : Nat) (hw : w ≤ 8) : Mi l D cI cZ cH yX7_top wsX7_top 1 20 [.ref h] [(h, .inr (7, [.int (nI w), .int (nI sz), .int (nI ev)]))] (fun (r9 : Int32) (_ : Unit) => r9 = nI (tpW w)) (fun (_ : Unit) => [(h, .inr (7, [.int (nI w), .int (nI sz), .int (nI ev)]))]) := by
  refine Mi.start (cc := cX7_top) (nL := 1) (ret := (some .int)) (lv0 := [(0, .ref h)]) (by decide) rfl (Nat.le_of_ble_eq_true rfl) rfl ?_
  intro pX eX sX mX bX methX cX AX C
  refine j_aload_n C dX7_top_0 0 rfl 1 rfl ?_
  refine j_get C dX7_top_1 0 0 1 inX7_top_7 rfl rfl (by decide) rfl rfl rfl 4 rfl ?_
  refine j_callNi1 (As := [.int (nI w)]) (rest := []) (wr := [(h, .inr (7, [.int (nI w), .int (nI sz), .int (nI ev)]))]) C (c_X8_topOf l D cI cZ cH w (by omega)) gX7_top_X8_topOf_n19 11 rfl 2 3 rfl rfl dX7_top_4 rfl yd_X8_topOf.2 (Nat.le_of_ble_eq_true rfl) (Nat.le_of_ble_eq_true rfl) rfl _ rfl (Nat.le_of_ble_eq_true rfl) (Nat.zero_le _) (Nat.zero_le _) [] [0] rfl rfl rfl rfl rfl (by decide) [0] [(h, .inr (7, [.int (nI w), .int (nI sz), .int (nI ev)]))] rfl rfl rfl 7 rfl ?_
  exact j_iret C dX7_top_7 () rfl rfl
set_option maxHeartbeats 4000000 in
set_option maxRecDepth 100000 in
theorem c_X7_segmentSize (l : Launch) (D : va_G) (cI cZ cH : ClassId) (h w sz ev : Nat)  : Mi l D cI cZ cH yX7_segmentSize wsX7_segmentSize 0 0 [.ref h] [(h, .inr (7, [.int (nI w), .int (nI sz), .int (nI ev)]))] (fun (r9 : Int32) (_ : Unit) => r9 = nI (sz * ev)) (fun (_ : Unit) => [(h, .inr (7, [.int (nI w), .int (nI sz), .int (nI ev)]))]) := by
  refine Mi.start (cc := cX7_segmentSize) (nL := 1) (ret := (some .int)) (lv0 := [(0, .ref h)]) (by decide) rfl (Nat.le_of_ble_eq_true rfl) rfl ?_
  intro pX eX sX mX bX methX cX AX C
  refine j_aload_n C dX7_segmentSize_0 0 rfl 1 rfl ?_
  refine j_get C dX7_segmentSize_1 0 1 1 inX7_segmentSize_7 rfl rfl (by decide) rfl rfl rfl 4 rfl ?_
  refine j_aload_n C dX7_segmentSize_4 0 rfl 5 rfl ?_
  refine j_get C dX7_segmentSize_5 0 2 2 inX7_segmentSize_7 rfl rfl (by decide) rfl rfl rfl 8 rfl ?_
  refine j_imul C dX7_segmentSize_8 (nI (sz * ev)) (pk_mul sz ev) 9 rfl ?_
  exact j_iret C dX7_segmentSize_9 () rfl rfl
set_option maxHeartbeats 4000000 in
set_option maxRecDepth 100000 in
theorem c_X7_isBare (l : Launch) (D : va_G) (cI cZ cH : ClassId) (h w sz ev : Nat) (i : Nat) (hsz : 1 ≤ sz ∧ sz ≤ 8) (hev : 1 ≤ ev ∧ ev ≤ 8) (hi : i < 2 ^ 30) : Mi l D cI cZ cH yX7_isBare wsX7_isBare 0 0 [.ref h, .int (nI i)] [(h, .inr (7, [.int (nI w), .int (nI sz), .int (nI ev)]))] (fun (r9 : Int32) (_ : Unit) => r9 = (if i % (sz * ev) = 0 then 1 else 0)) (fun (_ : Unit) => [(h, .inr (7, [.int (nI w), .int (nI sz), .int (nI ev)]))]) := by
  refine Mi.start (cc := cX7_isBare) (nL := 3) (ret := (some .boolean)) (lv0 := [(0, .ref h), (1, .int (nI i))]) (by decide) rfl (Nat.le_of_ble_eq_true rfl) rfl ?_
  intro pX eX sX mX bX methX cX AX C
  have hse := seB hsz.1 hsz.2 hev.1 hev.2
  refine j_aload_n C dX7_isBare_0 0 rfl 1 rfl ?_
  refine j_get C dX7_isBare_1 0 1 1 inX7_isBare_7 rfl rfl (by decide) rfl rfl rfl 4 rfl ?_
  refine j_aload_n C dX7_isBare_4 0 rfl 5 rfl ?_
  refine j_get C dX7_isBare_5 0 2 2 inX7_isBare_7 rfl rfl (by decide) rfl rfl rfl 8 rfl ?_
  refine j_imul C dX7_isBare_8 (nI (sz * ev)) (pk_mul sz ev) 9 rfl ?_
  refine j_istore_n C dX7_isBare_9 [(2, .int (nI (sz * ev))), (0, .ref h), (1, .int (nI i))] (by decide) rfl 10 rfl ?_
  refine j_iload_n C dX7_isBare_10 0 rfl 11 rfl ?_
  refine j_iconst C dX7_isBare_11 (nI 1) (by decide) 12 rfl ?_
  refine j_icmp_lt C dX7_isBare_12 21 (by decide) (q_t (by omega)) (q_t (n := 1) (Nat.le_of_ble_eq_true rfl)) 15 rfl (fun h9 => by exfalso; omega) (fun h12 => ?_)
  refine j_iload_n C dX7_isBare_15 2 rfl 16 rfl ?_
  refine j_iload_n C dX7_isBare_16 0 rfl 17 rfl ?_
  refine j_irem C dX7_isBare_17 (nz (by omega) (by omega)) (nI (i % (sz * ev))) (pk_rem (by omega) (by omega) (by omega)) 18 rfl ?_
  have hmod17 := Nat.mod_lt i (show 0 < (sz * ev) by omega)
  refine j_if_ne C dX7_isBare_18 25 (by decide) (q_t (by omega)) 21 rfl (fun h18 => ?_) (fun h18 => ?_)
  · refine j_iconst C dX7_isBare_25 (nI 0) (by decide) 26 rfl ?_
    exact j_zret C dX7_isBare_26 rfl () (show (nI 0 : Int32) = (if i % (sz * ev) = 0 then 1 else 0) from by first | rfl | omega | ((repeat' split) <;> first | rfl | omega | (exfalso; omega))) rfl
  · refine j_iconst C dX7_isBare_21 (nI 1) (by decide) 22 rfl ?_
    refine j_goto C dX7_isBare_22 26 (by decide) ?_
    exact j_zret C dX7_isBare_26 rfl () (show (nI 1 : Int32) = (if i % (sz * ev) = 0 then 1 else 0) from by first | rfl | omega | ((repeat' split) <;> first | rfl | omega | (exfalso; omega))) rfl
set_option maxHeartbeats 4000000 in
set_option maxRecDepth 100000 in
theorem c_X7_blockWith (l : Launch) (D : va_G) (cI cZ cH : ClassId) (h w sz ev : Nat) (i : Nat) (hsz : 1 ≤ sz ∧ sz ≤ 8) (hi : i < 2 ^ 30) : Mi l D cI cZ cH yX7_blockWith wsX7_blockWith 1 21 [.ref h, .int (nI i)] [(h, .inr (7, [.int (nI w), .int (nI sz), .int (nI ev)]))] (fun (r9 : Int32) (_ : Unit) => r9 = nI (i / sz)) (fun (_ : Unit) => [(h, .inr (7, [.int (nI w), .int (nI sz), .int (nI ev)]))]) := by
  refine Mi.start (cc := cX7_blockWith) (nL := 2) (ret := (some .int)) (lv0 := [(0, .ref h), (1, .int (nI i))]) (by decide) rfl (Nat.le_of_ble_eq_true rfl) rfl ?_
  intro pX eX sX mX bX methX cX AX C
  refine j_iload_n C dX7_blockWith_0 1 rfl 1 rfl ?_
  refine j_aload_n C dX7_blockWith_1 0 rfl 2 rfl ?_
  refine j_get C dX7_blockWith_2 0 1 1 inX7_blockWith_7 rfl rfl (by decide) rfl rfl rfl 5 rfl ?_
  refine j_callNi1 (As := [.int (nI i), .int (nI sz)]) (rest := []) (wr := [(h, .inr (7, [.int (nI w), .int (nI sz), .int (nI ev)]))]) C (c_X8_quotient l D cI cZ cH i sz (by omega) (by omega) (by omega)) gX7_blockWith_X8_quotient_n25 12 rfl 2 3 rfl rfl dX7_blockWith_5 rfl yd_X8_quotient.2 (Nat.le_of_ble_eq_true rfl) (Nat.le_of_ble_eq_true rfl) rfl _ rfl (Nat.le_of_ble_eq_true rfl) (Nat.zero_le _) (Nat.zero_le _) [] [0] rfl rfl rfl rfl rfl (by decide) [0] [(h, .inr (7, [.int (nI w), .int (nI sz), .int (nI ev)]))] rfl rfl rfl 8 rfl ?_
  exact j_iret C dX7_blockWith_8 () rfl rfl
set_option maxHeartbeats 4000000 in
set_option maxRecDepth 100000 in
theorem c_X7_endOfBlock (l : Launch) (D : va_G) (cI cZ cH : ClassId) (h w sz ev : Nat) (b n : Nat) (hsz : 1 ≤ sz ∧ sz ≤ 8) (hb : b ≤ 64) (hn : n ≤ 64) : Mi l D cI cZ cH yX7_endOfBlock wsX7_endOfBlock 1 13 [.ref h, .int (nI b), .int (nI n)] [(h, .inr (7, [.int (nI w), .int (nI sz), .int (nI ev)]))] (fun (r9 : Int32) (_ : Unit) => r9 = nI (min n ((b + 1) * sz))) (fun (_ : Unit) => [(h, .inr (7, [.int (nI w), .int (nI sz), .int (nI ev)]))]) := by
  refine Mi.start (cc := cX7_endOfBlock) (nL := 3) (ret := (some .int)) (lv0 := [(0, .ref h), (1, .int (nI b)), (2, .int (nI n))]) (by decide) rfl (Nat.le_of_ble_eq_true rfl) rfl ?_
  intro pX eX sX mX bX methX cX AX C
  have hm := mulB (show b + 1 ≤ 65 by omega) hsz.2
  refine j_iload_n C dX7_endOfBlock_0 2 rfl 1 rfl ?_
  refine j_iload_n C dX7_endOfBlock_1 1 rfl 2 rfl ?_
  refine j_iconst C dX7_endOfBlock_2 (nI 1) (by decide) 3 rfl ?_
  refine j_iadd C dX7_endOfBlock_3 (nI (b + 1)) (nI_add b 1) 4 rfl ?_
  refine j_aload_n C dX7_endOfBlock_4 0 rfl 5 rfl ?_
  refine j_get C dX7_endOfBlock_5 0 1 1 inX7_endOfBlock_7 rfl rfl (by decide) rfl rfl rfl 8 rfl ?_
  refine j_imul C dX7_endOfBlock_8 (nI ((b + 1) * sz)) (pk_mul (b + 1) sz) 9 rfl ?_
  refine j_min C dX7_endOfBlock_9 2 3 4 5 rfl rfl rfl rfl (Nat.le_of_ble_eq_true rfl) (Nat.le_of_ble_eq_true rfl) (Nat.zero_le _) (Nat.zero_le _) (nI (min n ((b + 1) * sz))) (q_min (by omega) (by omega)) 12 rfl ?_
  exact j_iret C dX7_endOfBlock_12 () rfl rfl
set_option maxHeartbeats 4000000 in
set_option maxRecDepth 100000 in
theorem c_X7_value (l : Launch) (D : va_G) (cI cZ cH : ClassId) (h w sz ev : Nat) (k : Nat) (hk : k ≤ 2) : Mi l D cI cZ cH yX7_value wsX7_value 0 0 [.ref h, .int (nI k)] [(h, .inr (7, [.int (nI w), .int (nI sz), .int (nI ev)]))] (fun (r9 : Int32) (_ : Unit) => r9 = nI (if k = 0 then w else if k = 1 then sz else ev)) (fun (_ : Unit) => [(h, .inr (7, [.int (nI w), .int (nI sz), .int (nI ev)]))]) := by
  refine Mi.start (cc := cX7_value) (nL := 2) (ret := (some .int)) (lv0 := [(0, .ref h), (1, .int (nI k))]) (by decide) rfl (Nat.le_of_ble_eq_true rfl) rfl ?_
  intro pX eX sX mX bX methX cX AX C
  refine j_iload_n C dX7_value_0 1 rfl 1 rfl ?_
  refine j_if_ne C dX7_value_1 9 (by decide) (q_t (by omega)) 4 rfl (fun h1 => ?_) (fun h1 => ?_)
  · refine j_iload_n C dX7_value_9 1 rfl 10 rfl ?_
    refine j_iconst C dX7_value_10 (nI 1) (by decide) 11 rfl ?_
    refine j_icmp_ne C dX7_value_11 21 (by decide) (q_t (by omega)) (q_t (n := 1) (Nat.le_of_ble_eq_true rfl)) 14 rfl (fun h11 => ?_) (fun h11 => ?_)
    · refine j_aload_n C dX7_value_21 0 rfl 22 rfl ?_
      refine j_get C dX7_value_22 0 2 3 inX7_value_7 rfl rfl (by decide) rfl rfl rfl 25 rfl ?_
      exact j_iret C dX7_value_25 () (show (nI ev : Int32) = nI (if k = 0 then w else if k = 1 then sz else ev) from by first | (rw [if_pos (by omega)]) | (rw [if_neg (by omega), if_pos (by omega)]) | (rw [if_neg (by omega), if_neg (by omega)])) rfl
    · refine j_aload_n C dX7_value_14 0 rfl 15 rfl ?_
      refine j_get C dX7_value_15 0 1 2 inX7_value_7 rfl rfl (by decide) rfl rfl rfl 18 rfl ?_
      refine j_goto C dX7_value_18 25 (by decide) ?_
      exact j_iret C dX7_value_25 () (show (nI sz : Int32) = nI (if k = 0 then w else if k = 1 then sz else ev) from by first | (rw [if_pos (by omega)]) | (rw [if_neg (by omega), if_pos (by omega)]) | (rw [if_neg (by omega), if_neg (by omega)])) rfl
  · refine j_aload_n C dX7_value_4 0 rfl 5 rfl ?_
    refine j_get C dX7_value_5 0 0 1 inX7_value_7 rfl rfl (by decide) rfl rfl rfl 8 rfl ?_
    exact j_iret C dX7_value_8 () (show (nI w : Int32) = nI (if k = 0 then w else if k = 1 then sz else ev) from by first | (rw [if_pos (by omega)]) | (rw [if_neg (by omega), if_pos (by omega)]) | (rw [if_neg (by omega), if_neg (by omega)])) rfl
set_option maxHeartbeats 4000000 in
set_option maxRecDepth 100000 in
theorem c_X7_change (l : Launch) (D : va_G) (cI cZ cH : ClassId) (h w sz ev : Nat) (k v : Nat) (hk : k ≤ 2) : Mv l D cI cZ cH yX7_change wsX7_change 0 0 [.ref h, .int (nI k), .int (nI v)] [(h, .inr (7, [.int (nI w), .int (nI sz), .int (nI ev)]))] (fun (_ : Unit) => True) (fun (_ : Unit) => [(h, .inr (7, [.int (nI (if k = 0 then v else w)), .int (nI (if k = 1 then v else sz)), .int (nI (if k = 2 then v else ev))]))]) := by
  refine Mv.start (cc := cX7_change) (nL := 3) (ret := none) (lv0 := [(0, .ref h), (1, .int (nI k)), (2, .int (nI v))]) (by decide) rfl (Nat.le_of_ble_eq_true rfl) rfl ?_
  intro pX eX sX mX bX methX cX AX C
  refine j_iload_n C dX7_change_0 1 rfl 1 rfl ?_
  refine j_if_ne C dX7_change_1 12 (by decide) (q_t (by omega)) 4 rfl (fun h1 => ?_) (fun h1 => ?_)
  · refine j_iload_n C dX7_change_12 1 rfl 13 rfl ?_
    refine j_iconst C dX7_change_13 (nI 1) (by decide) 14 rfl ?_
    refine j_icmp_ne C dX7_change_14 25 (by decide) (q_t (by omega)) (q_t (n := 1) (Nat.le_of_ble_eq_true rfl)) 17 rfl (fun h14 => ?_) (fun h14 => ?_)
    · refine j_aload_n C dX7_change_25 0 rfl 26 rfl ?_
      refine j_iload_n C dX7_change_26 2 rfl 27 rfl ?_
      refine j_put C dX7_change_27 0 2 3 inX7_change_7 tyX7 tyX7_ok nmX7 rfl rfl (by decide) rfl rfl rfl rfl rfl (Nat.le_of_ble_eq_true rfl) [(h, .inr (7, [.int (nI w), .int (nI sz), .int (nI v)]))] rfl 30 rfl ?_
      exact j_vret C dX7_change_30 () trivial (by rcases (show k = 0 ∨ k = 1 ∨ k = 2 by omega) with rfl | rfl | rfl <;> first | rfl | (exfalso; omega))
    · refine j_aload_n C dX7_change_17 0 rfl 18 rfl ?_
      refine j_iload_n C dX7_change_18 2 rfl 19 rfl ?_
      refine j_put C dX7_change_19 0 1 2 inX7_change_7 tyX7 tyX7_ok nmX7 rfl rfl (by decide) rfl rfl rfl rfl rfl (Nat.le_of_ble_eq_true rfl) [(h, .inr (7, [.int (nI w), .int (nI v), .int (nI ev)]))] rfl 22 rfl ?_
      refine j_goto C dX7_change_22 30 (by decide) ?_
      exact j_vret C dX7_change_30 () trivial (by rcases (show k = 0 ∨ k = 1 ∨ k = 2 by omega) with rfl | rfl | rfl <;> first | rfl | (exfalso; omega))
  · refine j_aload_n C dX7_change_4 0 rfl 5 rfl ?_
    refine j_iload_n C dX7_change_5 2 rfl 6 rfl ?_
    refine j_put C dX7_change_6 0 0 1 inX7_change_7 tyX7 tyX7_ok nmX7 rfl rfl (by decide) rfl rfl rfl rfl rfl (Nat.le_of_ble_eq_true rfl) [(h, .inr (7, [.int (nI v), .int (nI sz), .int (nI ev)]))] rfl 9 rfl ?_
    refine j_goto C dX7_change_9 30 (by decide) ?_
    exact j_vret C dX7_change_30 () trivial (by rcases (show k = 0 ∨ k = 1 ∨ k = 2 by omega) with rfl | rfl | rfl <;> first | rfl | (exfalso; omega))
set_option maxHeartbeats 4000000 in
set_option maxRecDepth 100000 in
theorem c_X7_takeOver (l : Launch) (D : va_G) (cI cZ cH : ClassId) (h w sz ev : Nat) (h2 w2 sz2 ev2 : Nat)  : Mv l D cI cZ cH yX7_takeOver wsX7_takeOver 0 0 [.ref h, .ref h2] [(h, .inr (7, [.int (nI w), .int (nI sz), .int (nI ev)])), (h2, .inr (7, [.int (nI w2), .int (nI sz2), .int (nI ev2)]))] (fun (_ : Unit) => True) (fun (_ : Unit) => [(h, .inr (7, [.int (nI w2), .int (nI sz2), .int (nI ev2)])), (h2, .inr (7, [.int (nI w2), .int (nI sz2), .int (nI ev2)]))]) := by
  refine Mv.start (cc := cX7_takeOver) (nL := 2) (ret := none) (lv0 := [(0, .ref h), (1, .ref h2)]) (by decide) rfl (Nat.le_of_ble_eq_true rfl) rfl ?_
  intro pX eX sX mX bX methX cX AX C
  refine j_aload_n C dX7_takeOver_0 0 rfl 1 rfl ?_
  refine j_aload_n C dX7_takeOver_1 1 rfl 2 rfl ?_
  refine j_get C dX7_takeOver_2 1 0 1 inX7_takeOver_7 rfl rfl (by decide) rfl rfl rfl 5 rfl ?_
  refine j_put C dX7_takeOver_5 0 0 1 inX7_takeOver_7 tyX7 tyX7_ok nmX7 rfl rfl (by decide) rfl rfl rfl rfl rfl (Nat.le_of_ble_eq_true rfl) [(h, .inr (7, [.int (nI w2), .int (nI sz), .int (nI ev)])), (h2, .inr (7, [.int (nI w2), .int (nI sz2), .int (nI ev2)]))] rfl 8 rfl ?_
  refine j_aload_n C dX7_takeOver_8 0 rfl 9 rfl ?_
  refine j_aload_n C dX7_takeOver_9 1 rfl 10 rfl ?_
  refine j_get C dX7_takeOver_10 1 1 2 inX7_takeOver_7 rfl rfl (by decide) rfl rfl rfl 13 rfl ?_
  refine j_put C dX7_takeOver_13 0 1 2 inX7_takeOver_7 tyX7 tyX7_ok nmX7 rfl rfl (by decide) rfl rfl rfl rfl rfl (Nat.le_of_ble_eq_true rfl) [(h, .inr (7, [.int (nI w2), .int (nI sz2), .int (nI ev)])), (h2, .inr (7, [.int (nI w2), .int (nI sz2), .int (nI ev2)]))] rfl 16 rfl ?_
  refine j_aload_n C dX7_takeOver_16 0 rfl 17 rfl ?_
  refine j_aload_n C dX7_takeOver_17 1 rfl 18 rfl ?_
  refine j_get C dX7_takeOver_18 1 2 3 inX7_takeOver_7 rfl rfl (by decide) rfl rfl rfl 21 rfl ?_
  refine j_put C dX7_takeOver_21 0 2 3 inX7_takeOver_7 tyX7 tyX7_ok nmX7 rfl rfl (by decide) rfl rfl rfl rfl rfl (Nat.le_of_ble_eq_true rfl) [(h, .inr (7, [.int (nI w2), .int (nI sz2), .int (nI ev2)])), (h2, .inr (7, [.int (nI w2), .int (nI sz2), .int (nI ev2)]))] rfl 24 rfl ?_
  exact j_vret C dX7_takeOver_24 () trivial rfl
set_option maxHeartbeats 4000000 in
set_option maxRecDepth 100000 in
theorem c_X6_has (l : Launch) (D : va_G) (cI cZ cH : ClassId) (h a n : Nat) (f : Nat → Nat) (i : Int32) (hn : n ≤ 64) : Mi l D cI cZ cH yX6_has wsX6_has 0 0 [.ref h, .int i] [(h, .inr (6, [.ref a, .int (nI n)])), (a, .inl (cI, 64, .inl (aN f)))] (fun (r9 : Int32) (_ : Unit) => r9 = (if 0 ≤ i.toInt ∧ i.toInt < (n : Int) then 1 else 0)) (fun (_ : Unit) => [(h, .inr (6, [.ref a, .int (nI n)])), (a, .inl (cI, 64, .inl (aN f)))]) := by
  refine Mi.start (cc := cX6_has) (nL := 2) (ret := (some .boolean)) (lv0 := [(0, .ref h), (1, .int i)]) (by decide) rfl (Nat.le_of_ble_eq_true rfl) rfl ?_
  intro pX eX sX mX bX methX cX AX C
  refine j_iload_n C dX6_has_0 1 rfl 1 rfl ?_
  refine j_if_lt C dX6_has_1 16 (by decide) rfl 4 rfl (fun h1 => ?_) (fun h1 => ?_)
  · refine j_iconst C dX6_has_16 (nI 0) (by decide) 17 rfl ?_
    exact j_zret C dX6_has_17 rfl () (show (nI 0 : Int32) = (if 0 ≤ i.toInt ∧ i.toInt < (n : Int) then 1 else 0) from by first | rfl | omega | ((repeat' split) <;> first | rfl | omega | (exfalso; omega))) rfl
  · refine j_iload_n C dX6_has_4 1 rfl 5 rfl ?_
    refine j_aload_n C dX6_has_5 0 rfl 6 rfl ?_
    refine j_get C dX6_has_6 0 1 1 inX6_has_6 rfl rfl (by decide) rfl rfl rfl 9 rfl ?_
    refine j_icmp_ge C dX6_has_9 16 (by decide) rfl (q_t (by omega)) 12 rfl (fun h9 => ?_) (fun h9 => ?_)
    · refine j_iconst C dX6_has_16 (nI 0) (by decide) 17 rfl ?_
      exact j_zret C dX6_has_17 rfl () (show (nI 0 : Int32) = (if 0 ≤ i.toInt ∧ i.toInt < (n : Int) then 1 else 0) from by first | rfl | omega | ((repeat' split) <;> first | rfl | omega | (exfalso; omega))) rfl
    · refine j_iconst C dX6_has_12 (nI 1) (by decide) 13 rfl ?_
      refine j_goto C dX6_has_13 17 (by decide) ?_
      exact j_zret C dX6_has_17 rfl () (show (nI 1 : Int32) = (if 0 ≤ i.toInt ∧ i.toInt < (n : Int) then 1 else 0) from by first | rfl | omega | ((repeat' split) <;> first | rfl | omega | (exfalso; omega))) rfl
set_option maxHeartbeats 4000000 in
set_option maxRecDepth 100000 in
theorem c_X6_hasN (l : Launch) (D : va_G) (cI cZ cH : ClassId) (h a n : Nat) (f : Nat → Nat) (i : Nat) (hn : n ≤ 64) (hi : i < 2 ^ 30) : Mi l D cI cZ cH yX6_has wsX6_has 0 0 [.ref h, .int (nI i)] [(h, .inr (6, [.ref a, .int (nI n)])), (a, .inl (cI, 64, .inl (aN f)))] (fun (r9 : Int32) (_ : Unit) => r9 = (if i < n then 1 else 0)) (fun (_ : Unit) => [(h, .inr (6, [.ref a, .int (nI n)])), (a, .inl (cI, 64, .inl (aN f)))]) := by
  refine Mi.start (cc := cX6_has) (nL := 2) (ret := (some .boolean)) (lv0 := [(0, .ref h), (1, .int (nI i))]) (by decide) rfl (Nat.le_of_ble_eq_true rfl) rfl ?_
  intro pX eX sX mX bX methX cX AX C
  refine j_iload_n C dX6_has_0 1 rfl 1 rfl ?_
  refine j_if_lt C dX6_has_1 16 (by decide) (q_t (by omega)) 4 rfl (fun h9 => by exfalso; omega) (fun h1 => ?_)
  refine j_iload_n C dX6_has_4 1 rfl 5 rfl ?_
  refine j_aload_n C dX6_has_5 0 rfl 6 rfl ?_
  refine j_get C dX6_has_6 0 1 1 inX6_has_6 rfl rfl (by decide) rfl rfl rfl 9 rfl ?_
  refine j_icmp_ge C dX6_has_9 16 (by decide) (q_t (by omega)) (q_t (by omega)) 12 rfl (fun h9 => ?_) (fun h9 => ?_)
  · refine j_iconst C dX6_has_16 (nI 0) (by decide) 17 rfl ?_
    exact j_zret C dX6_has_17 rfl () (show (nI 0 : Int32) = (if i < n then 1 else 0) from by first | rfl | omega | ((repeat' split) <;> first | rfl | omega | (exfalso; omega))) rfl
  · refine j_iconst C dX6_has_12 (nI 1) (by decide) 13 rfl ?_
    refine j_goto C dX6_has_13 17 (by decide) ?_
    exact j_zret C dX6_has_17 rfl () (show (nI 1 : Int32) = (if i < n then 1 else 0) from by first | rfl | omega | ((repeat' split) <;> first | rfl | omega | (exfalso; omega))) rfl
set_option maxHeartbeats 4000000 in
set_option maxRecDepth 100000 in
theorem c_X6_at (l : Launch) (D : va_G) (cI cZ cH : ClassId) (h a n : Nat) (f g : Nat → Nat) (i : Int32) (hn : n ≤ 64) (hfg : ∀ j, j < n → f j = g j) : Mi l D cI cZ cH yX6_at wsX6_at 0 0 [.ref h, .int i] [(h, .inr (6, [.ref a, .int (nI n)])), (a, .inl (cI, 64, .inl (aN f)))] (fun (r9 : Int32) (_ : Unit) => r9 = rAt g n i) (fun (_ : Unit) => [(h, .inr (6, [.ref a, .int (nI n)])), (a, .inl (cI, 64, .inl (aN f)))]) := by
  refine Mi.start (cc := cX6_at) (nL := 2) (ret := (some .int)) (lv0 := [(0, .ref h), (1, .int i)]) (by decide) rfl (Nat.le_of_ble_eq_true rfl) rfl ?_
  intro pX eX sX mX bX methX cX AX C
  refine j_iload_n C dX6_at_0 1 rfl 1 rfl ?_
  refine j_if_lt C dX6_at_1 21 (by decide) rfl 4 rfl (fun h1 => ?_) (fun h1 => ?_)
  · refine j_bipush C dX6_at_21 (-6) (by decide) 23 rfl ?_
    exact j_iret C dX6_at_23 () (show (-6 : Int32) = rAt g n i from by simp only [rAt]; first | (rw [if_pos ⟨by omega, by omega⟩, hfg _ (by omega)]) | (rw [if_neg (by omega)])) rfl
  · refine j_iload_n C dX6_at_4 1 rfl 5 rfl ?_
    refine j_aload_n C dX6_at_5 0 rfl 6 rfl ?_
    refine j_get C dX6_at_6 0 1 1 inX6_at_6 rfl rfl (by decide) rfl rfl rfl 9 rfl ?_
    refine j_icmp_ge C dX6_at_9 21 (by decide) rfl (q_t (by omega)) 12 rfl (fun h9 => ?_) (fun h9 => ?_)
    · refine j_bipush C dX6_at_21 (-6) (by decide) 23 rfl ?_
      exact j_iret C dX6_at_23 () (show (-6 : Int32) = rAt g n i from by simp only [rAt]; first | (rw [if_pos ⟨by omega, by omega⟩, hfg _ (by omega)]) | (rw [if_neg (by omega)])) rfl
    · refine j_aload_n C dX6_at_12 0 rfl 13 rfl ?_
      refine j_get C dX6_at_13 0 0 2 inX6_at_6 rfl rfl (by decide) rfl rfl rfl 16 rfl ?_
      refine j_iload_n C dX6_at_16 1 rfl 17 rfl ?_
      refine j_top (nI (i.toInt.toNat)) (q_nn (by omega)) ?_
      refine j_iald C dX6_at_17 1 rfl (by omega) (Nat.le_of_ble_eq_true rfl) 18 rfl ?_
      refine j_goto C dX6_at_18 23 (by decide) ?_
      exact j_iret C dX6_at_23 () (show (nI (f (i.toInt.toNat)) : Int32) = rAt g n i from by simp only [rAt]; first | (rw [if_pos ⟨by omega, by omega⟩, hfg _ (by omega)]) | (rw [if_neg (by omega)])) rfl
set_option maxHeartbeats 4000000 in
set_option maxRecDepth 100000 in
theorem c_X6_atN (l : Launch) (D : va_G) (cI cZ cH : ClassId) (h a n : Nat) (f g : Nat → Nat) (i : Nat) (hn : n ≤ 64) (hfg : ∀ j, j < n → f j = g j) (hi : i < n) : Mi l D cI cZ cH yX6_at wsX6_at 0 0 [.ref h, .int (nI i)] [(h, .inr (6, [.ref a, .int (nI n)])), (a, .inl (cI, 64, .inl (aN f)))] (fun (r9 : Int32) (_ : Unit) => r9 = nI (g i)) (fun (_ : Unit) => [(h, .inr (6, [.ref a, .int (nI n)])), (a, .inl (cI, 64, .inl (aN f)))]) := by
  refine Mi.start (cc := cX6_at) (nL := 2) (ret := (some .int)) (lv0 := [(0, .ref h), (1, .int (nI i))]) (by decide) rfl (Nat.le_of_ble_eq_true rfl) rfl ?_
  intro pX eX sX mX bX methX cX AX C
  refine j_iload_n C dX6_at_0 1 rfl 1 rfl ?_
  refine j_if_lt C dX6_at_1 21 (by decide) (q_t (by omega)) 4 rfl (fun h9 => by exfalso; omega) (fun h1 => ?_)
  refine j_iload_n C dX6_at_4 1 rfl 5 rfl ?_
  refine j_aload_n C dX6_at_5 0 rfl 6 rfl ?_
  refine j_get C dX6_at_6 0 1 1 inX6_at_6 rfl rfl (by decide) rfl rfl rfl 9 rfl ?_
  refine j_icmp_ge C dX6_at_9 21 (by decide) (q_t (by omega)) (q_t (by omega)) 12 rfl (fun h9 => by exfalso; omega) (fun h9 => ?_)
  refine j_aload_n C dX6_at_12 0 rfl 13 rfl ?_
  refine j_get C dX6_at_13 0 0 2 inX6_at_6 rfl rfl (by decide) rfl rfl rfl 16 rfl ?_
  refine j_iload_n C dX6_at_16 1 rfl 17 rfl ?_
  refine j_iald C dX6_at_17 1 rfl (by omega) (Nat.le_of_ble_eq_true rfl) 18 rfl ?_
  refine j_goto C dX6_at_18 23 (by decide) ?_
  exact j_iret C dX6_at_23 () (show (nI (f i) : Int32) = nI (g i) from by rw [hfg _ (by omega)]) rfl
set_option maxHeartbeats 4000000 in
set_option maxRecDepth 100000 in
theorem c_X6_atO (l : Launch) (D : va_G) (cI cZ cH : ClassId) (h a n : Nat) (f : Nat → Nat) (i : Nat) (hn : n ≤ 64) (hi : i < 2 ^ 30) (ho : n ≤ i) : Mi l D cI cZ cH yX6_at wsX6_at 0 0 [.ref h, .int (nI i)] [(h, .inr (6, [.ref a, .int (nI n)])), (a, .inl (cI, 64, .inl (aN f)))] (fun (r9 : Int32) (_ : Unit) => r9 = -6) (fun (_ : Unit) => [(h, .inr (6, [.ref a, .int (nI n)])), (a, .inl (cI, 64, .inl (aN f)))]) := by
  refine Mi.start (cc := cX6_at) (nL := 2) (ret := (some .int)) (lv0 := [(0, .ref h), (1, .int (nI i))]) (by decide) rfl (Nat.le_of_ble_eq_true rfl) rfl ?_
  intro pX eX sX mX bX methX cX AX C
  refine j_iload_n C dX6_at_0 1 rfl 1 rfl ?_
  refine j_if_lt C dX6_at_1 21 (by decide) (q_t (by omega)) 4 rfl (fun h9 => by exfalso; omega) (fun h1 => ?_)
  refine j_iload_n C dX6_at_4 1 rfl 5 rfl ?_
  refine j_aload_n C dX6_at_5 0 rfl 6 rfl ?_
  refine j_get C dX6_at_6 0 1 1 inX6_at_6 rfl rfl (by decide) rfl rfl rfl 9 rfl ?_
  refine j_icmp_ge C dX6_at_9 21 (by decide) (q_t (by omega)) (q_t (by omega)) 12 rfl (fun h9 => ?_) (fun h9 => by exfalso; omega)
  refine j_bipush C dX6_at_21 (-6) (by decide) 23 rfl ?_
  exact j_iret C dX6_at_23 () rfl rfl
set_option maxHeartbeats 4000000 in
set_option maxRecDepth 100000 in
theorem c_X6_append (l : Launch) (D : va_G) (cI cZ cH : ClassId) (h a n : Nat) (f : Nat → Nat) (v : Nat) (hn : n < 64) : Mv l D cI cZ cH yX6_append wsX6_append 0 0 [.ref h, .int (nI v)] [(h, .inr (6, [.ref a, .int (nI n)])), (a, .inl (cI, 64, .inl (aN f)))] (fun (_ : Unit) => True) (fun (_ : Unit) => [(h, .inr (6, [.ref a, .int (nI (n + 1))])), (a, .inl (cI, 64, .inl (aN (va_up f n v))))]) := by
  refine Mv.start (cc := cX6_append) (nL := 2) (ret := none) (lv0 := [(0, .ref h), (1, .int (nI v))]) (by decide) rfl (Nat.le_of_ble_eq_true rfl) rfl ?_
  intro pX eX sX mX bX methX cX AX C
  refine j_aload_n C dX6_append_0 0 rfl 1 rfl ?_
  refine j_get C dX6_append_1 0 1 1 inX6_append_6 rfl rfl (by decide) rfl rfl rfl 4 rfl ?_
  refine j_bipush C dX6_append_4 (nI 64) (by decide) 6 rfl ?_
  refine j_icmp_ge C dX6_append_6 29 (by decide) (q_t (by omega)) (q_t (n := 64) (Nat.le_of_ble_eq_true rfl)) 9 rfl (fun h9 => by exfalso; omega) (fun h6 => ?_)
  refine j_aload_n C dX6_append_9 0 rfl 10 rfl ?_
  refine j_get C dX6_append_10 0 0 2 inX6_append_6 rfl rfl (by decide) rfl rfl rfl 13 rfl ?_
  refine j_aload_n C dX6_append_13 0 rfl 14 rfl ?_
  refine j_get C dX6_append_14 0 1 1 inX6_append_6 rfl rfl (by decide) rfl rfl rfl 17 rfl ?_
  refine j_iload_n C dX6_append_17 1 rfl 18 rfl ?_
  refine j_iast C dX6_append_18 1 rfl (by omega) (Nat.le_of_ble_eq_true rfl) [(h, .inr (6, [.ref a, .int (nI n)])), (a, .inl (cI, 64, .inl (aN (va_up f n v))))] rfl 19 rfl ?_
  refine j_aload_n C dX6_append_19 0 rfl 20 rfl ?_
  refine j_dup C dX6_append_20 rfl 21 rfl ?_
  refine j_get C dX6_append_21 0 1 1 inX6_append_6 rfl rfl (by decide) rfl rfl rfl 24 rfl ?_
  refine j_iconst C dX6_append_24 (nI 1) (by decide) 25 rfl ?_
  refine j_iadd C dX6_append_25 (nI (n + 1)) (nI_add n 1) 26 rfl ?_
  refine j_put C dX6_append_26 0 1 1 inX6_append_6 tyX6 tyX6_ok nmX6 rfl rfl (by decide) rfl rfl rfl rfl rfl (Nat.le_of_ble_eq_true rfl) [(h, .inr (6, [.ref a, .int (nI (n + 1))])), (a, .inl (cI, 64, .inl (aN (va_up f n v))))] rfl 29 rfl ?_
  exact j_vret C dX6_append_29 () trivial rfl
set_option maxHeartbeats 4000000 in
set_option maxRecDepth 100000 in
theorem c_X6_takeOver (l : Launch) (D : va_G) (cI cZ cH : ClassId) (h a n : Nat) (f : Nat → Nat) (h2 a2 n2 : Nat) (f2 : Nat → Nat) (hn2 : n2 ≤ 64) : Mv l D cI cZ cH yX6_takeOver wsX6_takeOver 1 30 [.ref h, .ref h2] [(h, .inr (6, [.ref a, .int (nI n)])), (a, .inl (cI, 64, .inl (aN f))), (h2, .inr (6, [.ref a2, .int (nI n2)])), (a2, .inl (cI, 64, .inl (aN f2)))] (fun (_ : Unit) => True) (fun (_ : Unit) => [(h, .inr (6, [.ref a, .int (nI n2)])), (a, .inl (cI, 64, .inl (aN (fun j => if j < n2 then f2 j else f j)))), (h2, .inr (6, [.ref a2, .int (nI n2)])), (a2, .inl (cI, 64, .inl (aN f2)))]) := by
  refine Mv.start (cc := cX6_takeOver) (nL := 2) (ret := none) (lv0 := [(0, .ref h), (1, .ref h2)]) (by decide) rfl (Nat.le_of_ble_eq_true rfl) rfl ?_
  intro pX eX sX mX bX methX cX AX C
  refine j_aload_n C dX6_takeOver_0 1 rfl 1 rfl ?_
  refine j_get C dX6_takeOver_1 2 0 1 inX6_takeOver_6 rfl rfl (by decide) rfl rfl rfl 4 rfl ?_
  refine j_iconst C dX6_takeOver_4 (nI 0) (by decide) 5 rfl ?_
  refine j_aload_n C dX6_takeOver_5 0 rfl 6 rfl ?_
  refine j_get C dX6_takeOver_6 0 0 1 inX6_takeOver_6 rfl rfl (by decide) rfl rfl rfl 9 rfl ?_
  refine j_iconst C dX6_takeOver_9 (nI 0) (by decide) 10 rfl ?_
  refine j_aload_n C dX6_takeOver_10 1 rfl 11 rfl ?_
  refine j_get C dX6_takeOver_11 2 1 2 inX6_takeOver_6 rfl rfl (by decide) rfl rfl rfl 14 rfl ?_
  refine j_copy C dX6_takeOver_14 3 4 5 6 rfl rfl rfl rfl 3 1 rfl rfl (by omega) (by omega) (by omega) (Nat.le_of_ble_eq_true rfl) (Nat.le_of_ble_eq_true rfl) [(h, .inr (6, [.ref a, .int (nI n)])), (a, .inl (cI, 64, .inl (aN (fun j => if j < n2 then f2 j else f j)))), (h2, .inr (6, [.ref a2, .int (nI n2)])), (a2, .inl (cI, 64, .inl (aN f2)))] rfl 17 rfl ?_
  refine j_aload_n C dX6_takeOver_17 0 rfl 18 rfl ?_
  refine j_aload_n C dX6_takeOver_18 1 rfl 19 rfl ?_
  refine j_get C dX6_takeOver_19 2 1 2 inX6_takeOver_6 rfl rfl (by decide) rfl rfl rfl 22 rfl ?_
  refine j_put C dX6_takeOver_22 0 1 2 inX6_takeOver_6 tyX6 tyX6_ok nmX6 rfl rfl (by decide) rfl rfl rfl rfl rfl (Nat.le_of_ble_eq_true rfl) [(h, .inr (6, [.ref a, .int (nI n2)])), (a, .inl (cI, 64, .inl (aN (fun j => if j < n2 then f2 j else f j)))), (h2, .inr (6, [.ref a2, .int (nI n2)])), (a2, .inl (cI, 64, .inl (aN f2)))] rfl 25 rfl ?_
  exact j_vret C dX6_takeOver_25 () trivial rfl
set_option maxHeartbeats 4000000 in
set_option maxRecDepth 100000 in
theorem c_X0_has (l : Launch) (D : va_G) (cI cZ cH : ClassId) (h a n : Nat) (f : Nat → Nat) (i : Int32) (hn : n ≤ 1000) : Mi l D cI cZ cH yX0_has wsX0_has 0 0 [.ref h, .int i] [(h, .inr (0, [.ref a, .int (nI n)])), (a, .inl (cI, 1000, .inl (aN f)))] (fun (r9 : Int32) (_ : Unit) => r9 = (if 0 ≤ i.toInt ∧ i.toInt < (n : Int) then 1 else 0)) (fun (_ : Unit) => [(h, .inr (0, [.ref a, .int (nI n)])), (a, .inl (cI, 1000, .inl (aN f)))]) := by
  refine Mi.start (cc := cX0_has) (nL := 2) (ret := (some .boolean)) (lv0 := [(0, .ref h), (1, .int i)]) (by decide) rfl (Nat.le_of_ble_eq_true rfl) rfl ?_
  intro pX eX sX mX bX methX cX AX C
  refine j_iload_n C dX0_has_0 1 rfl 1 rfl ?_
  refine j_if_lt C dX0_has_1 16 (by decide) rfl 4 rfl (fun h1 => ?_) (fun h1 => ?_)
  · refine j_iconst C dX0_has_16 (nI 0) (by decide) 17 rfl ?_
    exact j_zret C dX0_has_17 rfl () (show (nI 0 : Int32) = (if 0 ≤ i.toInt ∧ i.toInt < (n : Int) then 1 else 0) from by first | rfl | omega | ((repeat' split) <;> first | rfl | omega | (exfalso; omega))) rfl
  · refine j_iload_n C dX0_has_4 1 rfl 5 rfl ?_
    refine j_aload_n C dX0_has_5 0 rfl 6 rfl ?_
    refine j_get C dX0_has_6 0 1 1 inX0_has_0 rfl rfl (by decide) rfl rfl rfl 9 rfl ?_
    refine j_icmp_ge C dX0_has_9 16 (by decide) rfl (q_t (by omega)) 12 rfl (fun h9 => ?_) (fun h9 => ?_)
    · refine j_iconst C dX0_has_16 (nI 0) (by decide) 17 rfl ?_
      exact j_zret C dX0_has_17 rfl () (show (nI 0 : Int32) = (if 0 ≤ i.toInt ∧ i.toInt < (n : Int) then 1 else 0) from by first | rfl | omega | ((repeat' split) <;> first | rfl | omega | (exfalso; omega))) rfl
    · refine j_iconst C dX0_has_12 (nI 1) (by decide) 13 rfl ?_
      refine j_goto C dX0_has_13 17 (by decide) ?_
      exact j_zret C dX0_has_17 rfl () (show (nI 1 : Int32) = (if 0 ≤ i.toInt ∧ i.toInt < (n : Int) then 1 else 0) from by first | rfl | omega | ((repeat' split) <;> first | rfl | omega | (exfalso; omega))) rfl
set_option maxHeartbeats 4000000 in
set_option maxRecDepth 100000 in
theorem c_X0_hasN (l : Launch) (D : va_G) (cI cZ cH : ClassId) (h a n : Nat) (f : Nat → Nat) (i : Nat) (hn : n ≤ 1000) (hi : i < 2 ^ 30) : Mi l D cI cZ cH yX0_has wsX0_has 0 0 [.ref h, .int (nI i)] [(h, .inr (0, [.ref a, .int (nI n)])), (a, .inl (cI, 1000, .inl (aN f)))] (fun (r9 : Int32) (_ : Unit) => r9 = (if i < n then 1 else 0)) (fun (_ : Unit) => [(h, .inr (0, [.ref a, .int (nI n)])), (a, .inl (cI, 1000, .inl (aN f)))]) := by
  refine Mi.start (cc := cX0_has) (nL := 2) (ret := (some .boolean)) (lv0 := [(0, .ref h), (1, .int (nI i))]) (by decide) rfl (Nat.le_of_ble_eq_true rfl) rfl ?_
  intro pX eX sX mX bX methX cX AX C
  refine j_iload_n C dX0_has_0 1 rfl 1 rfl ?_
  refine j_if_lt C dX0_has_1 16 (by decide) (q_t (by omega)) 4 rfl (fun h9 => by exfalso; omega) (fun h1 => ?_)
  refine j_iload_n C dX0_has_4 1 rfl 5 rfl ?_
  refine j_aload_n C dX0_has_5 0 rfl 6 rfl ?_
  refine j_get C dX0_has_6 0 1 1 inX0_has_0 rfl rfl (by decide) rfl rfl rfl 9 rfl ?_
  refine j_icmp_ge C dX0_has_9 16 (by decide) (q_t (by omega)) (q_t (by omega)) 12 rfl (fun h9 => ?_) (fun h9 => ?_)
  · refine j_iconst C dX0_has_16 (nI 0) (by decide) 17 rfl ?_
    exact j_zret C dX0_has_17 rfl () (show (nI 0 : Int32) = (if i < n then 1 else 0) from by first | rfl | omega | ((repeat' split) <;> first | rfl | omega | (exfalso; omega))) rfl
  · refine j_iconst C dX0_has_12 (nI 1) (by decide) 13 rfl ?_
    refine j_goto C dX0_has_13 17 (by decide) ?_
    exact j_zret C dX0_has_17 rfl () (show (nI 1 : Int32) = (if i < n then 1 else 0) from by first | rfl | omega | ((repeat' split) <;> first | rfl | omega | (exfalso; omega))) rfl
set_option maxHeartbeats 4000000 in
set_option maxRecDepth 100000 in
theorem c_X0_at (l : Launch) (D : va_G) (cI cZ cH : ClassId) (h a n : Nat) (f g : Nat → Nat) (i : Int32) (hn : n ≤ 1000) (hfg : ∀ j, j < n → f j = g j) : Mi l D cI cZ cH yX0_at wsX0_at 0 0 [.ref h, .int i] [(h, .inr (0, [.ref a, .int (nI n)])), (a, .inl (cI, 1000, .inl (aN f)))] (fun (r9 : Int32) (_ : Unit) => r9 = rAt g n i) (fun (_ : Unit) => [(h, .inr (0, [.ref a, .int (nI n)])), (a, .inl (cI, 1000, .inl (aN f)))]) := by
  refine Mi.start (cc := cX0_at) (nL := 2) (ret := (some .int)) (lv0 := [(0, .ref h), (1, .int i)]) (by decide) rfl (Nat.le_of_ble_eq_true rfl) rfl ?_
  intro pX eX sX mX bX methX cX AX C
  refine j_iload_n C dX0_at_0 1 rfl 1 rfl ?_
  refine j_if_lt C dX0_at_1 21 (by decide) rfl 4 rfl (fun h1 => ?_) (fun h1 => ?_)
  · refine j_bipush C dX0_at_21 (-6) (by decide) 23 rfl ?_
    exact j_iret C dX0_at_23 () (show (-6 : Int32) = rAt g n i from by simp only [rAt]; first | (rw [if_pos ⟨by omega, by omega⟩, hfg _ (by omega)]) | (rw [if_neg (by omega)])) rfl
  · refine j_iload_n C dX0_at_4 1 rfl 5 rfl ?_
    refine j_aload_n C dX0_at_5 0 rfl 6 rfl ?_
    refine j_get C dX0_at_6 0 1 1 inX0_at_0 rfl rfl (by decide) rfl rfl rfl 9 rfl ?_
    refine j_icmp_ge C dX0_at_9 21 (by decide) rfl (q_t (by omega)) 12 rfl (fun h9 => ?_) (fun h9 => ?_)
    · refine j_bipush C dX0_at_21 (-6) (by decide) 23 rfl ?_
      exact j_iret C dX0_at_23 () (show (-6 : Int32) = rAt g n i from by simp only [rAt]; first | (rw [if_pos ⟨by omega, by omega⟩, hfg _ (by omega)]) | (rw [if_neg (by omega)])) rfl
    · refine j_aload_n C dX0_at_12 0 rfl 13 rfl ?_
      refine j_get C dX0_at_13 0 0 2 inX0_at_0 rfl rfl (by decide) rfl rfl rfl 16 rfl ?_
      refine j_iload_n C dX0_at_16 1 rfl 17 rfl ?_
      refine j_top (nI (i.toInt.toNat)) (q_nn (by omega)) ?_
      refine j_iald C dX0_at_17 1 rfl (by omega) (Nat.le_of_ble_eq_true rfl) 18 rfl ?_
      refine j_goto C dX0_at_18 23 (by decide) ?_
      exact j_iret C dX0_at_23 () (show (nI (f (i.toInt.toNat)) : Int32) = rAt g n i from by simp only [rAt]; first | (rw [if_pos ⟨by omega, by omega⟩, hfg _ (by omega)]) | (rw [if_neg (by omega)])) rfl
set_option maxHeartbeats 4000000 in
set_option maxRecDepth 100000 in
theorem c_X0_atN (l : Launch) (D : va_G) (cI cZ cH : ClassId) (h a n : Nat) (f g : Nat → Nat) (i : Nat) (hn : n ≤ 1000) (hfg : ∀ j, j < n → f j = g j) (hi : i < n) : Mi l D cI cZ cH yX0_at wsX0_at 0 0 [.ref h, .int (nI i)] [(h, .inr (0, [.ref a, .int (nI n)])), (a, .inl (cI, 1000, .inl (aN f)))] (fun (r9 : Int32) (_ : Unit) => r9 = nI (g i)) (fun (_ : Unit) => [(h, .inr (0, [.ref a, .int (nI n)])), (a, .inl (cI, 1000, .inl (aN f)))]) := by
  refine Mi.start (cc := cX0_at) (nL := 2) (ret := (some .int)) (lv0 := [(0, .ref h), (1, .int (nI i))]) (by decide) rfl (Nat.le_of_ble_eq_true rfl) rfl ?_
  intro pX eX sX mX bX methX cX AX C
  refine j_iload_n C dX0_at_0 1 rfl 1 rfl ?_
  refine j_if_lt C dX0_at_1 21 (by decide) (q_t (by omega)) 4 rfl (fun h9 => by exfalso; omega) (fun h1 => ?_)
  refine j_iload_n C dX0_at_4 1 rfl 5 rfl ?_
  refine j_aload_n C dX0_at_5 0 rfl 6 rfl ?_
  refine j_get C dX0_at_6 0 1 1 inX0_at_0 rfl rfl (by decide) rfl rfl rfl 9 rfl ?_
  refine j_icmp_ge C dX0_at_9 21 (by decide) (q_t (by omega)) (q_t (by omega)) 12 rfl (fun h9 => by exfalso; omega) (fun h9 => ?_)
  refine j_aload_n C dX0_at_12 0 rfl 13 rfl ?_
  refine j_get C dX0_at_13 0 0 2 inX0_at_0 rfl rfl (by decide) rfl rfl rfl 16 rfl ?_
  refine j_iload_n C dX0_at_16 1 rfl 17 rfl ?_
  refine j_iald C dX0_at_17 1 rfl (by omega) (Nat.le_of_ble_eq_true rfl) 18 rfl ?_
  refine j_goto C dX0_at_18 23 (by decide) ?_
  exact j_iret C dX0_at_23 () (show (nI (f i) : Int32) = nI (g i) from by rw [hfg _ (by omega)]) rfl
set_option maxHeartbeats 4000000 in
set_option maxRecDepth 100000 in
theorem c_X0_atO (l : Launch) (D : va_G) (cI cZ cH : ClassId) (h a n : Nat) (f : Nat → Nat) (i : Nat) (hn : n ≤ 1000) (hi : i < 2 ^ 30) (ho : n ≤ i) : Mi l D cI cZ cH yX0_at wsX0_at 0 0 [.ref h, .int (nI i)] [(h, .inr (0, [.ref a, .int (nI n)])), (a, .inl (cI, 1000, .inl (aN f)))] (fun (r9 : Int32) (_ : Unit) => r9 = -6) (fun (_ : Unit) => [(h, .inr (0, [.ref a, .int (nI n)])), (a, .inl (cI, 1000, .inl (aN f)))]) := by
  refine Mi.start (cc := cX0_at) (nL := 2) (ret := (some .int)) (lv0 := [(0, .ref h), (1, .int (nI i))]) (by decide) rfl (Nat.le_of_ble_eq_true rfl) rfl ?_
  intro pX eX sX mX bX methX cX AX C
  refine j_iload_n C dX0_at_0 1 rfl 1 rfl ?_
  refine j_if_lt C dX0_at_1 21 (by decide) (q_t (by omega)) 4 rfl (fun h9 => by exfalso; omega) (fun h1 => ?_)
  refine j_iload_n C dX0_at_4 1 rfl 5 rfl ?_
  refine j_aload_n C dX0_at_5 0 rfl 6 rfl ?_
  refine j_get C dX0_at_6 0 1 1 inX0_at_0 rfl rfl (by decide) rfl rfl rfl 9 rfl ?_
  refine j_icmp_ge C dX0_at_9 21 (by decide) (q_t (by omega)) (q_t (by omega)) 12 rfl (fun h9 => ?_) (fun h9 => by exfalso; omega)
  refine j_bipush C dX0_at_21 (-6) (by decide) 23 rfl ?_
  exact j_iret C dX0_at_23 () rfl rfl
set_option maxHeartbeats 4000000 in
set_option maxRecDepth 100000 in
theorem c_X0_append (l : Launch) (D : va_G) (cI cZ cH : ClassId) (h a n : Nat) (f : Nat → Nat) (v : Nat) (hn : n < 1000) : Mv l D cI cZ cH yX0_append wsX0_append 0 0 [.ref h, .int (nI v)] [(h, .inr (0, [.ref a, .int (nI n)])), (a, .inl (cI, 1000, .inl (aN f)))] (fun (_ : Unit) => True) (fun (_ : Unit) => [(h, .inr (0, [.ref a, .int (nI (n + 1))])), (a, .inl (cI, 1000, .inl (aN (va_up f n v))))]) := by
  refine Mv.start (cc := cX0_append) (nL := 2) (ret := none) (lv0 := [(0, .ref h), (1, .int (nI v))]) (by decide) rfl (Nat.le_of_ble_eq_true rfl) rfl ?_
  intro pX eX sX mX bX methX cX AX C
  refine j_aload_n C dX0_append_0 0 rfl 1 rfl ?_
  refine j_get C dX0_append_1 0 1 1 inX0_append_0 rfl rfl (by decide) rfl rfl rfl 4 rfl ?_
  refine j_sipush C dX0_append_4 (nI 1000) (by decide) 7 rfl ?_
  refine j_icmp_ge C dX0_append_7 30 (by decide) (q_t (by omega)) (q_t (n := 1000) (Nat.le_of_ble_eq_true rfl)) 10 rfl (fun h9 => by exfalso; omega) (fun h7 => ?_)
  refine j_aload_n C dX0_append_10 0 rfl 11 rfl ?_
  refine j_get C dX0_append_11 0 0 2 inX0_append_0 rfl rfl (by decide) rfl rfl rfl 14 rfl ?_
  refine j_aload_n C dX0_append_14 0 rfl 15 rfl ?_
  refine j_get C dX0_append_15 0 1 1 inX0_append_0 rfl rfl (by decide) rfl rfl rfl 18 rfl ?_
  refine j_iload_n C dX0_append_18 1 rfl 19 rfl ?_
  refine j_iast C dX0_append_19 1 rfl (by omega) (Nat.le_of_ble_eq_true rfl) [(h, .inr (0, [.ref a, .int (nI n)])), (a, .inl (cI, 1000, .inl (aN (va_up f n v))))] rfl 20 rfl ?_
  refine j_aload_n C dX0_append_20 0 rfl 21 rfl ?_
  refine j_dup C dX0_append_21 rfl 22 rfl ?_
  refine j_get C dX0_append_22 0 1 1 inX0_append_0 rfl rfl (by decide) rfl rfl rfl 25 rfl ?_
  refine j_iconst C dX0_append_25 (nI 1) (by decide) 26 rfl ?_
  refine j_iadd C dX0_append_26 (nI (n + 1)) (nI_add n 1) 27 rfl ?_
  refine j_put C dX0_append_27 0 1 1 inX0_append_0 tyX0 tyX0_ok nmX0 rfl rfl (by decide) rfl rfl rfl rfl rfl (Nat.le_of_ble_eq_true rfl) [(h, .inr (0, [.ref a, .int (nI (n + 1))])), (a, .inl (cI, 1000, .inl (aN (va_up f n v))))] rfl 30 rfl ?_
  exact j_vret C dX0_append_30 () trivial rfl
set_option maxHeartbeats 4000000 in
set_option maxRecDepth 100000 in
theorem c_X0_takeOver (l : Launch) (D : va_G) (cI cZ cH : ClassId) (h a n : Nat) (f : Nat → Nat) (h2 a2 n2 : Nat) (f2 : Nat → Nat) (hn2 : n2 ≤ 1000) : Mv l D cI cZ cH yX0_takeOver wsX0_takeOver 1 30 [.ref h, .ref h2] [(h, .inr (0, [.ref a, .int (nI n)])), (a, .inl (cI, 1000, .inl (aN f))), (h2, .inr (0, [.ref a2, .int (nI n2)])), (a2, .inl (cI, 1000, .inl (aN f2)))] (fun (_ : Unit) => True) (fun (_ : Unit) => [(h, .inr (0, [.ref a, .int (nI n2)])), (a, .inl (cI, 1000, .inl (aN (fun j => if j < n2 then f2 j else f j)))), (h2, .inr (0, [.ref a2, .int (nI n2)])), (a2, .inl (cI, 1000, .inl (aN f2)))]) := by
  refine Mv.start (cc := cX0_takeOver) (nL := 2) (ret := none) (lv0 := [(0, .ref h), (1, .ref h2)]) (by decide) rfl (Nat.le_of_ble_eq_true rfl) rfl ?_
  intro pX eX sX mX bX methX cX AX C
  refine j_aload_n C dX0_takeOver_0 1 rfl 1 rfl ?_
  refine j_get C dX0_takeOver_1 2 0 1 inX0_takeOver_0 rfl rfl (by decide) rfl rfl rfl 4 rfl ?_
  refine j_iconst C dX0_takeOver_4 (nI 0) (by decide) 5 rfl ?_
  refine j_aload_n C dX0_takeOver_5 0 rfl 6 rfl ?_
  refine j_get C dX0_takeOver_6 0 0 1 inX0_takeOver_0 rfl rfl (by decide) rfl rfl rfl 9 rfl ?_
  refine j_iconst C dX0_takeOver_9 (nI 0) (by decide) 10 rfl ?_
  refine j_aload_n C dX0_takeOver_10 1 rfl 11 rfl ?_
  refine j_get C dX0_takeOver_11 2 1 2 inX0_takeOver_0 rfl rfl (by decide) rfl rfl rfl 14 rfl ?_
  refine j_copy C dX0_takeOver_14 3 4 5 6 rfl rfl rfl rfl 3 1 rfl rfl (by omega) (by omega) (by omega) (Nat.le_of_ble_eq_true rfl) (Nat.le_of_ble_eq_true rfl) [(h, .inr (0, [.ref a, .int (nI n)])), (a, .inl (cI, 1000, .inl (aN (fun j => if j < n2 then f2 j else f j)))), (h2, .inr (0, [.ref a2, .int (nI n2)])), (a2, .inl (cI, 1000, .inl (aN f2)))] rfl 17 rfl ?_
  refine j_aload_n C dX0_takeOver_17 0 rfl 18 rfl ?_
  refine j_aload_n C dX0_takeOver_18 1 rfl 19 rfl ?_
  refine j_get C dX0_takeOver_19 2 1 2 inX0_takeOver_0 rfl rfl (by decide) rfl rfl rfl 22 rfl ?_
  refine j_put C dX0_takeOver_22 0 1 2 inX0_takeOver_0 tyX0 tyX0_ok nmX0 rfl rfl (by decide) rfl rfl rfl rfl rfl (Nat.le_of_ble_eq_true rfl) [(h, .inr (0, [.ref a, .int (nI n2)])), (a, .inl (cI, 1000, .inl (aN (fun j => if j < n2 then f2 j else f j)))), (h2, .inr (0, [.ref a2, .int (nI n2)])), (a2, .inl (cI, 1000, .inl (aN f2)))] rfl 25 rfl ?_
  exact j_vret C dX0_takeOver_25 () trivial rfl
set_option maxHeartbeats 4000000 in
set_option maxRecDepth 100000 in
theorem c_X6_highest (l : Launch) (D : va_G) (cI cZ cH : ClassId) (h a n : Nat) (f g : Nat → Nat) (hn : n ≤ 64) (hfg : ∀ j, j < n → f j = g j) (hg : ∀ j, j < n → g j ≤ 255) : Mi l D cI cZ cH yX6_highest wsX6_highest 1 13 [.ref h] [(h, .inr (6, [.ref a, .int (nI n)])), (a, .inl (cI, 64, .inl (aN f)))] (fun (r9 : Int32) (_ : Unit) => r9 = nI (mxN g n)) (fun (_ : Unit) => [(h, .inr (6, [.ref a, .int (nI n)])), (a, .inl (cI, 64, .inl (aN f)))]) := by
  refine Mi.start (cc := cX6_highest) (nL := 3) (ret := (some .int)) (lv0 := [(0, .ref h)]) (by decide) rfl (Nat.le_of_ble_eq_true rfl) rfl ?_
  intro pX eX sX mX bX methX cX AX C
  refine j_iconst C dX6_highest_0 (nI 0) (by decide) 1 rfl ?_
  refine j_istore_n C dX6_highest_1 [(1, .int (nI 0)), (0, .ref h)] (by decide) rfl 2 rfl ?_
  refine j_iconst C dX6_highest_2 (nI 0) (by decide) 3 rfl ?_
  refine j_istore_n C dX6_highest_3 [(2, .int (nI 0)), (1, .int (nI 0)), (0, .ref h)] (by decide) rfl 4 rfl ?_
  refine j_loop2 (fun (i : Nat) (acc : Nat) => i ≤ n ∧ acc = mxN g i) (fun (i : Nat) (acc : Nat) => n - i) (fun (i : Nat) (acc : Nat) => [(h, .inr (6, [.ref a, .int (nI n)])), (a, .inl (cI, 64, .inl (aN f)))]) (fun (i : Nat) (acc : Nat) => [(2, .int (nI i)), (1, .int (nI acc)), (0, .ref h)]) ?_ 0 0 ⟨by omega, rfl⟩ rfl rfl
  intro i acc hI4 ih4
  obtain ⟨hi, hacc⟩ := hI4
  show J D AX pX l eX _ sX mX _ bX methX cX 0 0 _ 3 [(h, .inr (6, [.ref a, .int (nI n)])), (a, .inl (cI, 64, .inl (aN f)))] [(2, .int (nI i)), (1, .int (nI acc)), (0, .ref h)] 4 []
  refine j_iload_n C dX6_highest_4 0 rfl 5 rfl ?_
  refine j_aload_n C dX6_highest_5 2 rfl 6 rfl ?_
  refine j_get C dX6_highest_6 0 1 1 inX6_highest_6 rfl rfl (by decide) rfl rfl rfl 9 rfl ?_
  refine j_icmp_ge C dX6_highest_9 29 (by decide) (q_t (by omega)) (q_t (by omega)) 12 rfl (fun h9 => ?_) (fun h9 => ?_)
  · refine j_iload_n C dX6_highest_29 1 rfl 30 rfl ?_
    exact j_iret C dX6_highest_30 () (show (nI acc : Int32) = nI (mxN g n) from by rw [hacc]; congr 2; omega) rfl
  · refine j_iload_n C dX6_highest_12 1 rfl 13 rfl ?_
    refine j_aload_n C dX6_highest_13 2 rfl 14 rfl ?_
    refine j_get C dX6_highest_14 0 0 2 inX6_highest_6 rfl rfl (by decide) rfl rfl rfl 17 rfl ?_
    refine j_iload_n C dX6_highest_17 0 rfl 18 rfl ?_
    refine j_iald C dX6_highest_18 1 rfl (by omega) (Nat.le_of_ble_eq_true rfl) 19 rfl ?_
    refine j_top (nI (g i)) (by rw [hfg i (by omega)]) ?_
    have hgi := hg i (by omega)
    have hm := mxN_le (g := g) (n := i) (B := 255) (fun j hj => hg j (by omega))
    refine j_max C dX6_highest_19 3 4 5 6 rfl rfl rfl rfl (Nat.le_of_ble_eq_true rfl) (Nat.le_of_ble_eq_true rfl) (Nat.zero_le _) (Nat.zero_le _) (nI (max acc (g i))) (q_max (by omega) (by omega)) 22 rfl ?_
    refine j_istore_n C dX6_highest_22 [(1, .int (nI (max acc (g i)))), (2, .int (nI i)), (0, .ref h)] (by decide) rfl 23 rfl ?_
    refine j_iinc C dX6_highest_23 1 rfl (nI (i + 1)) (nI_1 (i)) [(2, .int (nI (i + 1))), (1, .int (nI (max acc (g i)))), (0, .ref h)] (by decide) rfl 26 rfl ?_
    refine j_goto C dX6_highest_26 4 (by decide) ?_
    exact ih4 (i + 1) (max acc (g i)) ⟨by omega, by rw [hacc]; rfl⟩ (by omega)
set_option maxHeartbeats 4000000 in
set_option maxRecDepth 100000 in
theorem c_X1_isTold (l : Launch) (D : va_G) (cI cZ cH : ClassId) (h x : Nat) (y z : Int32) (hx : x < 2 ^ 31) : Mi l D cI cZ cH yX1_isTold wsX1_isTold 0 0 [.ref h] [(h, .inr (1, [.int (nI x), .int y, .int z]))] (fun (r9 : Int32) (_ : Unit) => r9 = (if ¬ x = 0 then 1 else 0)) (fun (_ : Unit) => [(h, .inr (1, [.int (nI x), .int y, .int z]))]) := by
  refine Mi.start (cc := cX1_isTold) (nL := 1) (ret := (some .boolean)) (lv0 := [(0, .ref h)]) (by decide) rfl (Nat.le_of_ble_eq_true rfl) rfl ?_
  intro pX eX sX mX bX methX cX AX C
  refine j_aload_n C dX1_isTold_0 0 rfl 1 rfl ?_
  refine j_get C dX1_isTold_1 0 0 1 inX1_isTold_1 rfl rfl (by decide) rfl rfl rfl 4 rfl ?_
  refine j_if_eq C dX1_isTold_4 11 (by decide) (q_t (by omega)) 7 rfl (fun h4 => ?_) (fun h4 => ?_)
  · refine j_iconst C dX1_isTold_11 (nI 0) (by decide) 12 rfl ?_
    exact j_zret C dX1_isTold_12 rfl () (show (nI 0 : Int32) = (if ¬ x = 0 then 1 else 0) from by first | rfl | omega | ((repeat' split) <;> first | rfl | omega | (exfalso; omega))) rfl
  · refine j_iconst C dX1_isTold_7 (nI 1) (by decide) 8 rfl ?_
    refine j_goto C dX1_isTold_8 12 (by decide) ?_
    exact j_zret C dX1_isTold_12 rfl () (show (nI 1 : Int32) = (if ¬ x = 0 then 1 else 0) from by first | rfl | omega | ((repeat' split) <;> first | rfl | omega | (exfalso; omega))) rfl
set_option maxHeartbeats 4000000 in
set_option maxRecDepth 100000 in
theorem c_X1_forget (l : Launch) (D : va_G) (cI cZ cH : ClassId) (h x : Nat) (y z : Int32)  : Mv l D cI cZ cH yX1_forget wsX1_forget 0 0 [.ref h] [(h, .inr (1, [.int (nI x), .int y, .int z]))] (fun (_ : Unit) => True) (fun (_ : Unit) => [(h, .inr (1, [.int (nI 0), .int (-6), .int (-6)]))]) := by
  refine Mv.start (cc := cX1_forget) (nL := 1) (ret := none) (lv0 := [(0, .ref h)]) (by decide) rfl (Nat.le_of_ble_eq_true rfl) rfl ?_
  intro pX eX sX mX bX methX cX AX C
  refine j_aload_n C dX1_forget_0 0 rfl 1 rfl ?_
  refine j_iconst C dX1_forget_1 (nI 0) (by decide) 2 rfl ?_
  refine j_put C dX1_forget_2 0 0 1 inX1_forget_1 tyX1 tyX1_ok nmX1 rfl rfl (by decide) rfl rfl rfl rfl rfl (Nat.le_of_ble_eq_true rfl) [(h, .inr (1, [.int (nI 0), .int y, .int z]))] rfl 5 rfl ?_
  refine j_aload_n C dX1_forget_5 0 rfl 6 rfl ?_
  refine j_bipush C dX1_forget_6 (-6) (by decide) 8 rfl ?_
  refine j_put C dX1_forget_8 0 1 2 inX1_forget_1 tyX1 tyX1_ok nmX1 rfl rfl (by decide) rfl rfl rfl rfl rfl (Nat.le_of_ble_eq_true rfl) [(h, .inr (1, [.int (nI 0), .int (-6), .int z]))] rfl 11 rfl ?_
  refine j_aload_n C dX1_forget_11 0 rfl 12 rfl ?_
  refine j_bipush C dX1_forget_12 (-6) (by decide) 14 rfl ?_
  refine j_put C dX1_forget_14 0 2 3 inX1_forget_1 tyX1 tyX1_ok nmX1 rfl rfl (by decide) rfl rfl rfl rfl rfl (Nat.le_of_ble_eq_true rfl) [(h, .inr (1, [.int (nI 0), .int (-6), .int (-6)]))] rfl 17 rfl ?_
  exact j_vret C dX1_forget_17 () trivial rfl
set_option maxHeartbeats 4000000 in
set_option maxRecDepth 100000 in
theorem c_X1_takeOver (l : Launch) (D : va_G) (cI cZ cH : ClassId) (h x : Nat) (y z : Int32) (h2 x2 : Nat) (y2 z2 : Int32)  : Mv l D cI cZ cH yX1_takeOver wsX1_takeOver 0 0 [.ref h, .ref h2] [(h, .inr (1, [.int (nI x), .int y, .int z])), (h2, .inr (1, [.int (nI x2), .int y2, .int z2]))] (fun (_ : Unit) => True) (fun (_ : Unit) => [(h, .inr (1, [.int (nI x2), .int y2, .int z2])), (h2, .inr (1, [.int (nI x2), .int y2, .int z2]))]) := by
  refine Mv.start (cc := cX1_takeOver) (nL := 2) (ret := none) (lv0 := [(0, .ref h), (1, .ref h2)]) (by decide) rfl (Nat.le_of_ble_eq_true rfl) rfl ?_
  intro pX eX sX mX bX methX cX AX C
  refine j_aload_n C dX1_takeOver_0 0 rfl 1 rfl ?_
  refine j_aload_n C dX1_takeOver_1 1 rfl 2 rfl ?_
  refine j_get C dX1_takeOver_2 1 0 1 inX1_takeOver_1 rfl rfl (by decide) rfl rfl rfl 5 rfl ?_
  refine j_put C dX1_takeOver_5 0 0 1 inX1_takeOver_1 tyX1 tyX1_ok nmX1 rfl rfl (by decide) rfl rfl rfl rfl rfl (Nat.le_of_ble_eq_true rfl) [(h, .inr (1, [.int (nI x2), .int y, .int z])), (h2, .inr (1, [.int (nI x2), .int y2, .int z2]))] rfl 8 rfl ?_
  refine j_aload_n C dX1_takeOver_8 0 rfl 9 rfl ?_
  refine j_aload_n C dX1_takeOver_9 1 rfl 10 rfl ?_
  refine j_get C dX1_takeOver_10 1 1 2 inX1_takeOver_1 rfl rfl (by decide) rfl rfl rfl 13 rfl ?_
  refine j_put C dX1_takeOver_13 0 1 2 inX1_takeOver_1 tyX1 tyX1_ok nmX1 rfl rfl (by decide) rfl rfl rfl rfl rfl (Nat.le_of_ble_eq_true rfl) [(h, .inr (1, [.int (nI x2), .int y2, .int z])), (h2, .inr (1, [.int (nI x2), .int y2, .int z2]))] rfl 16 rfl ?_
  refine j_aload_n C dX1_takeOver_16 0 rfl 17 rfl ?_
  refine j_aload_n C dX1_takeOver_17 1 rfl 18 rfl ?_
  refine j_get C dX1_takeOver_18 1 2 3 inX1_takeOver_1 rfl rfl (by decide) rfl rfl rfl 21 rfl ?_
  refine j_put C dX1_takeOver_21 0 2 3 inX1_takeOver_1 tyX1 tyX1_ok nmX1 rfl rfl (by decide) rfl rfl rfl rfl rfl (Nat.le_of_ble_eq_true rfl) [(h, .inr (1, [.int (nI x2), .int y2, .int z2])), (h2, .inr (1, [.int (nI x2), .int y2, .int z2]))] rfl 24 rfl ?_
  exact j_vret C dX1_takeOver_24 () trivial rfl
set_option maxHeartbeats 4000000 in
set_option maxRecDepth 100000 in
theorem c_X0_turn (l : Launch) (D : va_G) (cI cZ cH : ClassId) (h a n : Nat) (f : Nat → Nat) (i : Nat) (hn : n ≤ 1000) (hi : i < n) (hf : f i ≤ 1) : Mi l D cI cZ cH yX0_turn wsX0_turn 1 21 [.ref h, .int (nI i)] [(h, .inr (0, [.ref a, .int (nI n)])), (a, .inl (cI, 1000, .inl (aN f)))] (fun (r9 : Int32) (_ : Unit) => r9 = nI (1 - f i)) (fun (_ : Unit) => [(h, .inr (0, [.ref a, .int (nI n)])), (a, .inl (cI, 1000, .inl (aN (va_up f i (1 - f i)))))]) := by
  refine Mi.start (cc := cX0_turn) (nL := 2) (ret := (some .int)) (lv0 := [(0, .ref h), (1, .int (nI i))]) (by decide) rfl (Nat.le_of_ble_eq_true rfl) rfl ?_
  intro pX eX sX mX bX methX cX AX C
  refine j_aload_n C dX0_turn_0 0 rfl 1 rfl ?_
  refine j_iload_n C dX0_turn_1 1 rfl 2 rfl ?_
  refine j_callVi1 (As := [.int (nI i)]) (rest := []) (wr := []) C (c_X0_hasN l D cI cZ cH h a n f i (by omega) (by omega)) gX0_turn_X0_has dX0_turn_2 rfl yd_X0_has (Nat.le_of_ble_eq_true rfl) (Nat.le_of_ble_eq_true rfl) rfl rfl rfl _ rfl (Nat.le_of_ble_eq_true rfl) (Nat.zero_le _) (Nat.zero_le _) [0, 1] [] rfl rfl rfl rfl rfl (by decide) [0, 1] [(h, .inr (0, [.ref a, .int (nI n)])), (a, .inl (cI, 1000, .inl (aN f)))] rfl rfl rfl 5 rfl ?_
  refine j_ifb_ne C dX0_turn_5 11 (by decide) 8 rfl (fun h5 => ?_) (fun h9 => by exfalso; omega)
  refine j_aload_n C dX0_turn_11 0 rfl 12 rfl ?_
  refine j_get C dX0_turn_12 0 0 1 inX0_turn_0 rfl rfl (by decide) rfl rfl rfl 15 rfl ?_
  refine j_iload_n C dX0_turn_15 1 rfl 16 rfl ?_
  refine j_iconst C dX0_turn_16 (nI 1) (by decide) 17 rfl ?_
  refine j_aload_n C dX0_turn_17 0 rfl 18 rfl ?_
  refine j_get C dX0_turn_18 0 0 1 inX0_turn_0 rfl rfl (by decide) rfl rfl rfl 21 rfl ?_
  refine j_iload_n C dX0_turn_21 1 rfl 22 rfl ?_
  refine j_iald C dX0_turn_22 1 rfl (by omega) (Nat.le_of_ble_eq_true rfl) 23 rfl ?_
  refine j_isub C dX0_turn_23 (nI (1 - (f i))) (pk_sub (by omega)) 24 rfl ?_
  refine j_iast C dX0_turn_24 1 rfl (by omega) (Nat.le_of_ble_eq_true rfl) [(h, .inr (0, [.ref a, .int (nI n)])), (a, .inl (cI, 1000, .inl (aN (va_up f i (1 - (f i))))))] rfl 25 rfl ?_
  refine j_aload_n C dX0_turn_25 0 rfl 26 rfl ?_
  refine j_get C dX0_turn_26 0 0 1 inX0_turn_0 rfl rfl (by decide) rfl rfl rfl 29 rfl ?_
  refine j_iload_n C dX0_turn_29 1 rfl 30 rfl ?_
  refine j_iald C dX0_turn_30 1 rfl (by omega) (Nat.le_of_ble_eq_true rfl) 31 rfl ?_
  exact j_iret C dX0_turn_31 () (show (nI ((va_up f i (1 - (f i))) i) : Int32) = nI (1 - f i) from by simp only [va_up, if_pos]) rfl
set_option maxHeartbeats 4000000 in
set_option maxRecDepth 100000 in
theorem c_X0_appendNumber (l : Launch) (D : va_G) (cI cZ cH : ClassId) (h a n : Nat) (f : Nat → Nat) (v wd : Nat) (hv : v < 2 ^ 31) (hwd : wd ≤ 8) (hn : n + wd ≤ 1000) : Mv l D cI cZ cH yX0_appendNumber wsX0_appendNumber 1 21 [.ref h, .int (nI v), .int (nI wd)] [(h, .inr (0, [.ref a, .int (nI n)])), (a, .inl (cI, 1000, .inl (aN f)))] (fun (_ : Unit) => True) (fun (_ : Unit) => [(h, .inr (0, [.ref a, .int (nI (n + wd))])), (a, .inl (cI, 1000, .inl (aN (putL f n (nb v wd)))))]) := by
  refine Mv.start (cc := cX0_appendNumber) (nL := 4) (ret := none) (lv0 := [(0, .ref h), (1, .int (nI v)), (2, .int (nI wd))]) (by decide) rfl (Nat.le_of_ble_eq_true rfl) rfl ?_
  intro pX eX sX mX bX methX cX AX C
  refine j_iload_n C dX0_appendNumber_0 2 rfl 1 rfl ?_
  refine j_iconst C dX0_appendNumber_1 (nI 1) (by decide) 2 rfl ?_
  refine j_isub C dX0_appendNumber_2 (nI wd - nI 1) rfl 3 rfl ?_
  refine j_istore_n C dX0_appendNumber_3 [(3, .int (nI wd - nI 1)), (0, .ref h), (1, .int (nI v)), (2, .int (nI wd))] (by decide) rfl 4 rfl ?_
  refine j_loop2 (fun (k : Nat) (L : List Nat) => L.length + k = wd ∧ L ++ nb v k = nb v wd) (fun (k : Nat) (L : List Nat) => k) (fun (k : Nat) (L : List Nat) => [(h, .inr (0, [.ref a, .int (nI (n + L.length))])), (a, .inl (cI, 1000, .inl (aN (putL f n L))))]) (fun (k : Nat) (L : List Nat) => [(3, .int (nI k - nI 1)), (0, .ref h), (1, .int (nI v)), (2, .int (nI wd))]) ?_ wd ([]) ⟨by simp, by simp⟩ (by rw [putL_nil]; rfl) rfl
  intro k L hI4 ih4
  obtain ⟨hk, hL⟩ := hI4
  show J D AX pX l eX _ sX mX _ bX methX cX 0 0 _ 4 [(h, .inr (0, [.ref a, .int (nI (n + L.length))])), (a, .inl (cI, 1000, .inl (aN (putL f n L))))] [(3, .int (nI k - nI 1)), (0, .ref h), (1, .int (nI v)), (2, .int (nI wd))] 4 []
  refine j_iload_n C dX0_appendNumber_4 0 rfl 5 rfl ?_
  refine j_if_lt C dX0_appendNumber_5 23 (by decide) (q_m1t (by omega)) 8 rfl (fun h5 => ?_) (fun h5 => ?_)
  · have hk0 : k = 0 := by omega
    exact j_vret C dX0_appendNumber_23 () trivial (by subst hk0; simp only [nb, List.append_nil] at hL; rw [hL, nb_length])
  · have hk1 : 1 ≤ k := by omega
    refine j_lveq [(3, .int (nI (k - 1))), (0, .ref h), (1, .int (nI v)), (2, .int (nI wd))] (by rw [pk_sub hk1]) ?_
    refine j_aload_n C dX0_appendNumber_8 1 rfl 9 rfl ?_
    refine j_iload_n C dX0_appendNumber_9 2 rfl 10 rfl ?_
    refine j_iload_n C dX0_appendNumber_10 0 rfl 11 rfl ?_
    refine j_ishr C dX0_appendNumber_11 (nI (v / 2 ^ (k - 1))) (q_shr (by omega) (by omega)) 12 rfl ?_
    have hshr11 := Nat.div_le_self v (2 ^ (k - 1))
    refine j_iconst C dX0_appendNumber_12 (nI 1) (by decide) 13 rfl ?_
    refine j_iand C dX0_appendNumber_13 (nI (v / 2 ^ (k - 1) % 2)) (q_and1 (by have := Nat.div_le_self v (2 ^ (k - 1)); omega)) 14 rfl ?_
    refine j_callVv1 (As := [.int (nI (v / 2 ^ (k - 1) % 2))]) (rest := []) (wr := []) C (c_X0_append l D cI cZ cH h a (n + L.length) (putL f n L) (v / 2 ^ (k - 1) % 2) (by omega)) gX0_appendNumber_X0_append dX0_appendNumber_14 rfl yd_X0_append (Nat.le_of_ble_eq_true rfl) (Nat.le_of_ble_eq_true rfl) rfl rfl rfl _ rfl (Nat.le_of_ble_eq_true rfl) (Nat.zero_le _) (Nat.zero_le _) [0, 1] [] rfl rfl rfl rfl rfl (by decide) [0, 1] [(h, .inr (0, [.ref a, .int (nI ((n + L.length) + 1))])), (a, .inl (cI, 1000, .inl (aN (va_up (putL f n L) (n + L.length) (v / 2 ^ (k - 1) % 2)))))] rfl rfl rfl 17 rfl ?_
    refine j_iinc C dX0_appendNumber_17 0 rfl (nI (k - 1) - nI 1) (q_dec _) [(3, .int (nI (k - 1) - nI 1)), (0, .ref h), (1, .int (nI v)), (2, .int (nI wd))] (by decide) rfl 20 rfl ?_
    refine j_goto C dX0_appendNumber_20 4 (by decide) ?_
    refine j_world [(h, .inr (0, [.ref a, .int (nI (n + (L ++ [v / 2 ^ (k - 1) % 2]).length))])), (a, .inl (cI, 1000, .inl (aN (putL f n (L ++ [v / 2 ^ (k - 1) % 2])))))] (by rw [putL_snoc, List.length_append]; rfl) ?_
    exact ih4 (k - 1) (L ++ [v / 2 ^ (k - 1) % 2]) ⟨by simp only [List.length_append, List.length_cons, List.length_nil]; omega, by rw [← hL, List.append_assoc]; congr 1; obtain ⟨k, rfl⟩ : ∃ z, k = z + 1 := ⟨k - 1, by omega⟩; rfl⟩ (by omega)
set_option maxHeartbeats 4000000 in
set_option maxRecDepth 100000 in
theorem c_X3_takeOver (l : Launch) (D : va_G) (cI cZ cH : ClassId) (h1 r1 o1 t1 u1 oa1 ta1 w1 sz1 ev1 n1 k1 x1 : Nat) (f1 b1 : Nat → Nat) (y1 z1 : Int32) (h2 r2 o2 t2 u2 oa2 ta2 w2 sz2 ev2 n2 k2 x2 : Nat) (f2 b2 : Nat → Nat) (y2 z2 : Int32) (hn2 : n2 ≤ 64) (hk2 : k2 ≤ 1000) : Mv l D cI cZ cH yX3_takeOver wsX3_takeOver 2 51 [.ref h1, .ref h2] [(h1, .inr (3, [.ref r1, .ref o1, .ref t1, .ref u1])), (r1, .inr (7, [.int (nI w1), .int (nI sz1), .int (nI ev1)])), (o1, .inr (6, [.ref oa1, .int (nI n1)])), (oa1, .inl (cI, 64, .inl (aN f1))), (t1, .inr (0, [.ref ta1, .int (nI k1)])), (ta1, .inl (cI, 1000, .inl (aN b1))), (u1, .inr (1, [.int (nI x1), .int y1, .int z1])), (h2, .inr (3, [.ref r2, .ref o2, .ref t2, .ref u2])), (r2, .inr (7, [.int (nI w2), .int (nI sz2), .int (nI ev2)])), (o2, .inr (6, [.ref oa2, .int (nI n2)])), (oa2, .inl (cI, 64, .inl (aN f2))), (t2, .inr (0, [.ref ta2, .int (nI k2)])), (ta2, .inl (cI, 1000, .inl (aN b2))), (u2, .inr (1, [.int (nI x2), .int y2, .int z2]))] (fun (_ : Unit) => True) (fun (_ : Unit) => [(h1, .inr (3, [.ref r1, .ref o1, .ref t1, .ref u1])), (r1, .inr (7, [.int (nI w2), .int (nI sz2), .int (nI ev2)])), (o1, .inr (6, [.ref oa1, .int (nI n2)])), (oa1, .inl (cI, 64, .inl (aN (fun j => if j < n2 then f2 j else f1 j)))), (t1, .inr (0, [.ref ta1, .int (nI k2)])), (ta1, .inl (cI, 1000, .inl (aN (fun j => if j < k2 then b2 j else b1 j)))), (u1, .inr (1, [.int (nI x2), .int y2, .int z2])), (h2, .inr (3, [.ref r2, .ref o2, .ref t2, .ref u2])), (r2, .inr (7, [.int (nI w2), .int (nI sz2), .int (nI ev2)])), (o2, .inr (6, [.ref oa2, .int (nI n2)])), (oa2, .inl (cI, 64, .inl (aN f2))), (t2, .inr (0, [.ref ta2, .int (nI k2)])), (ta2, .inl (cI, 1000, .inl (aN b2))), (u2, .inr (1, [.int (nI x2), .int y2, .int z2]))]) := by
  refine Mv.start (cc := cX3_takeOver) (nL := 2) (ret := none) (lv0 := [(0, .ref h1), (1, .ref h2)]) (by decide) rfl (Nat.le_of_ble_eq_true rfl) rfl ?_
  intro pX eX sX mX bX methX cX AX C
  refine j_aload_n C dX3_takeOver_0 0 rfl 1 rfl ?_
  refine j_get C dX3_takeOver_1 0 0 1 inX3_takeOver_3 rfl rfl (by decide) rfl rfl rfl 4 rfl ?_
  refine j_aload_n C dX3_takeOver_4 1 rfl 5 rfl ?_
  refine j_get C dX3_takeOver_5 7 0 1 inX3_takeOver_3 rfl rfl (by decide) rfl rfl rfl 8 rfl ?_
  refine j_callVv1 (As := [.ref r2]) (rest := []) (wr := [(h1, .inr (3, [.ref r1, .ref o1, .ref t1, .ref u1])), (o1, .inr (6, [.ref oa1, .int (nI n1)])), (oa1, .inl (cI, 64, .inl (aN f1))), (t1, .inr (0, [.ref ta1, .int (nI k1)])), (ta1, .inl (cI, 1000, .inl (aN b1))), (u1, .inr (1, [.int (nI x1), .int y1, .int z1])), (h2, .inr (3, [.ref r2, .ref o2, .ref t2, .ref u2])), (o2, .inr (6, [.ref oa2, .int (nI n2)])), (oa2, .inl (cI, 64, .inl (aN f2))), (t2, .inr (0, [.ref ta2, .int (nI k2)])), (ta2, .inl (cI, 1000, .inl (aN b2))), (u2, .inr (1, [.int (nI x2), .int y2, .int z2]))]) C (c_X7_takeOver l D cI cZ cH r1 w1 sz1 ev1 r2 w2 sz2 ev2 ) gX3_takeOver_X7_takeOver dX3_takeOver_8 rfl yd_X7_takeOver (Nat.le_of_ble_eq_true rfl) (Nat.le_of_ble_eq_true rfl) rfl rfl rfl _ rfl (Nat.le_of_ble_eq_true rfl) (Nat.zero_le _) (Nat.zero_le _) [1, 8] [0, 2, 3, 4, 5, 6, 7, 9, 10, 11, 12, 13] rfl rfl rfl rfl rfl (by decide) [0, 12, 1, 2, 3, 4, 5, 6, 13, 7, 8, 9, 10, 11] [(h1, .inr (3, [.ref r1, .ref o1, .ref t1, .ref u1])), (r1, .inr (7, [.int (nI w2), .int (nI sz2), .int (nI ev2)])), (o1, .inr (6, [.ref oa1, .int (nI n1)])), (oa1, .inl (cI, 64, .inl (aN f1))), (t1, .inr (0, [.ref ta1, .int (nI k1)])), (ta1, .inl (cI, 1000, .inl (aN b1))), (u1, .inr (1, [.int (nI x1), .int y1, .int z1])), (h2, .inr (3, [.ref r2, .ref o2, .ref t2, .ref u2])), (r2, .inr (7, [.int (nI w2), .int (nI sz2), .int (nI ev2)])), (o2, .inr (6, [.ref oa2, .int (nI n2)])), (oa2, .inl (cI, 64, .inl (aN f2))), (t2, .inr (0, [.ref ta2, .int (nI k2)])), (ta2, .inl (cI, 1000, .inl (aN b2))), (u2, .inr (1, [.int (nI x2), .int y2, .int z2]))] rfl rfl rfl 11 rfl ?_
  refine j_aload_n C dX3_takeOver_11 0 rfl 12 rfl ?_
  refine j_get C dX3_takeOver_12 0 1 2 inX3_takeOver_3 rfl rfl (by decide) rfl rfl rfl 15 rfl ?_
  refine j_aload_n C dX3_takeOver_15 1 rfl 16 rfl ?_
  refine j_get C dX3_takeOver_16 7 1 2 inX3_takeOver_3 rfl rfl (by decide) rfl rfl rfl 19 rfl ?_
  refine j_callVv1 (As := [.ref o2]) (rest := []) (wr := [(h1, .inr (3, [.ref r1, .ref o1, .ref t1, .ref u1])), (r1, .inr (7, [.int (nI w2), .int (nI sz2), .int (nI ev2)])), (t1, .inr (0, [.ref ta1, .int (nI k1)])), (ta1, .inl (cI, 1000, .inl (aN b1))), (u1, .inr (1, [.int (nI x1), .int y1, .int z1])), (h2, .inr (3, [.ref r2, .ref o2, .ref t2, .ref u2])), (r2, .inr (7, [.int (nI w2), .int (nI sz2), .int (nI ev2)])), (t2, .inr (0, [.ref ta2, .int (nI k2)])), (ta2, .inl (cI, 1000, .inl (aN b2))), (u2, .inr (1, [.int (nI x2), .int y2, .int z2]))]) C (c_X6_takeOver l D cI cZ cH o1 oa1 n1 f1 o2 oa2 n2 f2 (by omega)) gX3_takeOver_X6_takeOver dX3_takeOver_19 rfl yd_X6_takeOver (Nat.le_of_ble_eq_true rfl) (Nat.le_of_ble_eq_true rfl) rfl rfl rfl _ rfl (Nat.le_of_ble_eq_true rfl) (Nat.zero_le _) (Nat.zero_le _) [2, 3, 9, 10] [0, 1, 4, 5, 6, 7, 8, 11, 12, 13] rfl rfl rfl rfl rfl (by decide) [0, 1, 10, 11, 2, 3, 4, 5, 6, 12, 13, 7, 8, 9] [(h1, .inr (3, [.ref r1, .ref o1, .ref t1, .ref u1])), (r1, .inr (7, [.int (nI w2), .int (nI sz2), .int (nI ev2)])), (o1, .inr (6, [.ref oa1, .int (nI n2)])), (oa1, .inl (cI, 64, .inl (aN (fun j => if j < n2 then f2 j else f1 j)))), (t1, .inr (0, [.ref ta1, .int (nI k1)])), (ta1, .inl (cI, 1000, .inl (aN b1))), (u1, .inr (1, [.int (nI x1), .int y1, .int z1])), (h2, .inr (3, [.ref r2, .ref o2, .ref t2, .ref u2])), (r2, .inr (7, [.int (nI w2), .int (nI sz2), .int (nI ev2)])), (o2, .inr (6, [.ref oa2, .int (nI n2)])), (oa2, .inl (cI, 64, .inl (aN f2))), (t2, .inr (0, [.ref ta2, .int (nI k2)])), (ta2, .inl (cI, 1000, .inl (aN b2))), (u2, .inr (1, [.int (nI x2), .int y2, .int z2]))] rfl rfl rfl 22 rfl ?_
  refine j_aload_n C dX3_takeOver_22 0 rfl 23 rfl ?_
  refine j_get C dX3_takeOver_23 0 2 3 inX3_takeOver_3 rfl rfl (by decide) rfl rfl rfl 26 rfl ?_
  refine j_aload_n C dX3_takeOver_26 1 rfl 27 rfl ?_
  refine j_get C dX3_takeOver_27 7 2 3 inX3_takeOver_3 rfl rfl (by decide) rfl rfl rfl 30 rfl ?_
  refine j_callVv1 (As := [.ref t2]) (rest := []) (wr := [(h1, .inr (3, [.ref r1, .ref o1, .ref t1, .ref u1])), (r1, .inr (7, [.int (nI w2), .int (nI sz2), .int (nI ev2)])), (o1, .inr (6, [.ref oa1, .int (nI n2)])), (oa1, .inl (cI, 64, .inl (aN (fun j => if j < n2 then f2 j else f1 j)))), (u1, .inr (1, [.int (nI x1), .int y1, .int z1])), (h2, .inr (3, [.ref r2, .ref o2, .ref t2, .ref u2])), (r2, .inr (7, [.int (nI w2), .int (nI sz2), .int (nI ev2)])), (o2, .inr (6, [.ref oa2, .int (nI n2)])), (oa2, .inl (cI, 64, .inl (aN f2))), (u2, .inr (1, [.int (nI x2), .int y2, .int z2]))]) C (c_X0_takeOver l D cI cZ cH t1 ta1 k1 b1 t2 ta2 k2 b2 (by omega)) gX3_takeOver_X0_takeOver dX3_takeOver_30 rfl yd_X0_takeOver (Nat.le_of_ble_eq_true rfl) (Nat.le_of_ble_eq_true rfl) rfl rfl rfl _ rfl (Nat.le_of_ble_eq_true rfl) (Nat.zero_le _) (Nat.zero_le _) [4, 5, 11, 12] [0, 1, 2, 3, 6, 7, 8, 9, 10, 13] rfl rfl rfl rfl rfl (by decide) [0, 1, 2, 3, 10, 11, 4, 5, 6, 7, 8, 12, 13, 9] [(h1, .inr (3, [.ref r1, .ref o1, .ref t1, .ref u1])), (r1, .inr (7, [.int (nI w2), .int (nI sz2), .int (nI ev2)])), (o1, .inr (6, [.ref oa1, .int (nI n2)])), (oa1, .inl (cI, 64, .inl (aN (fun j => if j < n2 then f2 j else f1 j)))), (t1, .inr (0, [.ref ta1, .int (nI k2)])), (ta1, .inl (cI, 1000, .inl (aN (fun j => if j < k2 then b2 j else b1 j)))), (u1, .inr (1, [.int (nI x1), .int y1, .int z1])), (h2, .inr (3, [.ref r2, .ref o2, .ref t2, .ref u2])), (r2, .inr (7, [.int (nI w2), .int (nI sz2), .int (nI ev2)])), (o2, .inr (6, [.ref oa2, .int (nI n2)])), (oa2, .inl (cI, 64, .inl (aN f2))), (t2, .inr (0, [.ref ta2, .int (nI k2)])), (ta2, .inl (cI, 1000, .inl (aN b2))), (u2, .inr (1, [.int (nI x2), .int y2, .int z2]))] rfl rfl rfl 33 rfl ?_
  refine j_aload_n C dX3_takeOver_33 0 rfl 34 rfl ?_
  refine j_get C dX3_takeOver_34 0 3 4 inX3_takeOver_3 rfl rfl (by decide) rfl rfl rfl 37 rfl ?_
  refine j_aload_n C dX3_takeOver_37 1 rfl 38 rfl ?_
  refine j_get C dX3_takeOver_38 7 3 4 inX3_takeOver_3 rfl rfl (by decide) rfl rfl rfl 41 rfl ?_
  refine j_callVv1 (As := [.ref u2]) (rest := []) (wr := [(h1, .inr (3, [.ref r1, .ref o1, .ref t1, .ref u1])), (r1, .inr (7, [.int (nI w2), .int (nI sz2), .int (nI ev2)])), (o1, .inr (6, [.ref oa1, .int (nI n2)])), (oa1, .inl (cI, 64, .inl (aN (fun j => if j < n2 then f2 j else f1 j)))), (t1, .inr (0, [.ref ta1, .int (nI k2)])), (ta1, .inl (cI, 1000, .inl (aN (fun j => if j < k2 then b2 j else b1 j)))), (h2, .inr (3, [.ref r2, .ref o2, .ref t2, .ref u2])), (r2, .inr (7, [.int (nI w2), .int (nI sz2), .int (nI ev2)])), (o2, .inr (6, [.ref oa2, .int (nI n2)])), (oa2, .inl (cI, 64, .inl (aN f2))), (t2, .inr (0, [.ref ta2, .int (nI k2)])), (ta2, .inl (cI, 1000, .inl (aN b2)))]) C (c_X1_takeOver l D cI cZ cH u1 x1 y1 z1 u2 x2 y2 z2 ) gX3_takeOver_X1_takeOver dX3_takeOver_41 rfl yd_X1_takeOver (Nat.le_of_ble_eq_true rfl) (Nat.le_of_ble_eq_true rfl) rfl rfl rfl _ rfl (Nat.le_of_ble_eq_true rfl) (Nat.zero_le _) (Nat.zero_le _) [6, 13] [0, 1, 2, 3, 4, 5, 7, 8, 9, 10, 11, 12] rfl rfl rfl rfl rfl (by decide) [0, 1, 2, 3, 4, 5, 12, 6, 7, 8, 9, 10, 11, 13] [(h1, .inr (3, [.ref r1, .ref o1, .ref t1, .ref u1])), (r1, .inr (7, [.int (nI w2), .int (nI sz2), .int (nI ev2)])), (o1, .inr (6, [.ref oa1, .int (nI n2)])), (oa1, .inl (cI, 64, .inl (aN (fun j => if j < n2 then f2 j else f1 j)))), (t1, .inr (0, [.ref ta1, .int (nI k2)])), (ta1, .inl (cI, 1000, .inl (aN (fun j => if j < k2 then b2 j else b1 j)))), (u1, .inr (1, [.int (nI x2), .int y2, .int z2])), (h2, .inr (3, [.ref r2, .ref o2, .ref t2, .ref u2])), (r2, .inr (7, [.int (nI w2), .int (nI sz2), .int (nI ev2)])), (o2, .inr (6, [.ref oa2, .int (nI n2)])), (oa2, .inl (cI, 64, .inl (aN f2))), (t2, .inr (0, [.ref ta2, .int (nI k2)])), (ta2, .inl (cI, 1000, .inl (aN b2))), (u2, .inr (1, [.int (nI x2), .int y2, .int z2]))] rfl rfl rfl 44 rfl ?_
  exact j_vret C dX3_takeOver_44 () trivial rfl
