set_option maxHeartbeats 4000000 in
set_option maxRecDepth 100000 in
theorem c_X8_toldAhead (l : Launch) (D : va_G) (cI cZ cH : ClassId) (hr w sz ev ho oa n : Nat) (f g : Nat → Nat) (i way : Nat) (hw : 2 ≤ w ∧ w ≤ 8) (hsz : 1 ≤ sz ∧ sz ≤ 8) (hev : 1 ≤ ev ∧ ev ≤ 8) (hn : n ≤ 64) (hfg : ∀ j, j < n → f j = g j) (hg : ∀ j, j < n → g j ≤ tpW w) (hi : 1 ≤ i) (hin : i ≤ n) (hway : way ≤ 3) : Mi l D cI cZ cH yX8_toldAhead wsX8_toldAhead 1 22 [.ref hr, .ref ho, .int (nI i), .int (nI way)] [(hr, .inr (7, [.int (nI w), .int (nI sz), .int (nI ev)])), (ho, .inr (6, [.ref oa, .int (nI n)])), (oa, .inl (cI, 64, .inl (aN f)))] (fun (r9 : Int32) (_ : Unit) => r9 = nI (told w sz ev g i way)) (fun (_ : Unit) => [(hr, .inr (7, [.int (nI w), .int (nI sz), .int (nI ev)])), (ho, .inr (6, [.ref oa, .int (nI n)])), (oa, .inl (cI, 64, .inl (aN f)))]) := by
  refine Mi.start (cc := cX8_toldAhead) (nL := 7) (ret := (some .int)) (lv0 := [(0, .ref hr), (1, .ref ho), (2, .int (nI i)), (3, .int (nI way))]) (by decide) rfl (Nat.le_of_ble_eq_true rfl) rfl ?_
  intro pX eX sX mX bX methX cX AX C
  have ht := tpW_le hw.2
  have ha := hg (i - 1) (by omega)
  refine j_aload_n C dX8_toldAhead_0 0 rfl 1 rfl ?_
  refine j_get C dX8_toldAhead_1 0 0 1 inX8_toldAhead_7 rfl rfl (by decide) rfl rfl rfl 4 rfl ?_
  refine j_callSi1 (As := [.int (nI w)]) (rest := []) (wr := [(hr, .inr (7, [.int (nI w), .int (nI sz), .int (nI ev)])), (ho, .inr (6, [.ref oa, .int (nI n)])), (oa, .inl (cI, 64, .inl (aN f)))]) C (c_X8_topOf l D cI cZ cH w (by omega)) gX8_toldAhead_X8_topOf dX8_toldAhead_4 rfl yd_X8_topOf.2 (Nat.le_of_ble_eq_true rfl) (Nat.le_of_ble_eq_true rfl) rfl _ rfl (Nat.le_of_ble_eq_true rfl) (Nat.zero_le _) (Nat.zero_le _) [] [0, 1, 2] rfl rfl rfl rfl rfl (by decide) [0, 1, 2] [(hr, .inr (7, [.int (nI w), .int (nI sz), .int (nI ev)])), (ho, .inr (6, [.ref oa, .int (nI n)])), (oa, .inl (cI, 64, .inl (aN f)))] rfl rfl rfl 7 rfl ?_
  refine j_istore C dX8_toldAhead_7 [(4, .int (nI (tpW w))), (0, .ref hr), (1, .ref ho), (2, .int (nI i)), (3, .int (nI way))] (by decide) rfl 9 rfl ?_
  refine j_aload_n C dX8_toldAhead_9 2 rfl 10 rfl ?_
  refine j_iload_n C dX8_toldAhead_10 3 rfl 11 rfl ?_
  refine j_iconst C dX8_toldAhead_11 (nI 1) (by decide) 12 rfl ?_
  refine j_isub C dX8_toldAhead_12 (nI (i - 1)) (pk_sub (by omega)) 13 rfl ?_
  refine j_callVi1 (As := [.int (nI (i - 1))]) (rest := []) (wr := [(hr, .inr (7, [.int (nI w), .int (nI sz), .int (nI ev)]))]) C (c_X6_atN l D cI cZ cH ho oa n f g (i - 1) (by omega) hfg (by omega)) gX8_toldAhead_X6_at dX8_toldAhead_13 rfl yd_X6_at (Nat.le_of_ble_eq_true rfl) (Nat.le_of_ble_eq_true rfl) rfl rfl rfl _ rfl (Nat.le_of_ble_eq_true rfl) (Nat.zero_le _) (Nat.zero_le _) [1, 2] [0] rfl rfl rfl rfl rfl (by decide) [0, 1, 2] [(hr, .inr (7, [.int (nI w), .int (nI sz), .int (nI ev)])), (ho, .inr (6, [.ref oa, .int (nI n)])), (oa, .inl (cI, 64, .inl (aN f)))] rfl rfl rfl 16 rfl ?_
  refine j_istore C dX8_toldAhead_16 [(5, .int (nI (g (i - 1)))), (4, .int (nI (tpW w))), (0, .ref hr), (1, .ref ho), (2, .int (nI i)), (3, .int (nI way))] (by decide) rfl 18 rfl ?_
  refine j_aload_n C dX8_toldAhead_18 2 rfl 19 rfl ?_
  refine j_iload_n C dX8_toldAhead_19 4 rfl 20 rfl ?_
  refine j_iconst C dX8_toldAhead_20 (nI 1) (by decide) 21 rfl ?_
  refine j_isub C dX8_toldAhead_21 (nI (i - 1)) (pk_sub (by omega)) 22 rfl ?_
  refine j_callVi1 (As := [.int (nI (i - 1))]) (rest := []) (wr := [(ho, .inr (6, [.ref oa, .int (nI n)])), (oa, .inl (cI, 64, .inl (aN f)))]) C (c_X7_isBare l D cI cZ cH hr w sz ev (i - 1) (by omega) (by omega) (by omega)) gX8_toldAhead_X7_isBare dX8_toldAhead_22 rfl yd_X7_isBare (Nat.le_of_ble_eq_true rfl) (Nat.le_of_ble_eq_true rfl) rfl rfl rfl _ rfl (Nat.le_of_ble_eq_true rfl) (Nat.zero_le _) (Nat.zero_le _) [0] [1, 2] rfl rfl rfl rfl rfl (by decide) [2, 0, 1] [(hr, .inr (7, [.int (nI w), .int (nI sz), .int (nI ev)])), (ho, .inr (6, [.ref oa, .int (nI n)])), (oa, .inl (cI, 64, .inl (aN f)))] rfl rfl rfl 25 rfl ?_
  refine j_ifb_eq C dX8_toldAhead_25 33 (by decide) 28 rfl (fun h25 => ?_) (fun h25 => ?_)
  · have hi2 : 2 ≤ i := by
      rcases Nat.lt_or_ge i 2 with h9 | h9
      · exact absurd (by rw [show i - 1 = 0 by omega]; exact Nat.zero_mod _) h25
      · exact h9
    have hb2 := hg (i - 2) (by omega)
    refine j_aload_n C dX8_toldAhead_33 3 rfl 34 rfl ?_
    refine j_iload_n C dX8_toldAhead_34 4 rfl 35 rfl ?_
    refine j_iconst C dX8_toldAhead_35 (nI 2) (by decide) 36 rfl ?_
    refine j_isub C dX8_toldAhead_36 (nI (i - 2)) (pk_sub (by omega)) 37 rfl ?_
    refine j_callVi1 (As := [.int (nI (i - 2))]) (rest := []) (wr := [(hr, .inr (7, [.int (nI w), .int (nI sz), .int (nI ev)]))]) C (c_X6_atN l D cI cZ cH ho oa n f g (i - 2) (by omega) hfg (by omega)) gX8_toldAhead_X6_at dX8_toldAhead_37 rfl yd_X6_at (Nat.le_of_ble_eq_true rfl) (Nat.le_of_ble_eq_true rfl) rfl rfl rfl _ rfl (Nat.le_of_ble_eq_true rfl) (Nat.zero_le _) (Nat.zero_le _) [1, 2] [0] rfl rfl rfl rfl rfl (by decide) [0, 1, 2] [(hr, .inr (7, [.int (nI w), .int (nI sz), .int (nI ev)])), (ho, .inr (6, [.ref oa, .int (nI n)])), (oa, .inl (cI, 64, .inl (aN f)))] rfl rfl rfl 40 rfl ?_
    refine j_istore C dX8_toldAhead_40 [(6, .int (nI (g (i - 2)))), (5, .int (nI (g (i - 1)))), (4, .int (nI (tpW w))), (0, .ref hr), (1, .ref ho), (2, .int (nI i)), (3, .int (nI way))] (by decide) rfl 42 rfl ?_
    refine j_iload_n C dX8_toldAhead_42 6 rfl 43 rfl ?_
    have hsw43 : ((way : Nat) : Int) = 0 ∨ ((way : Nat) : Int) = 1 ∨ ((way : Nat) : Int) = 2 ∨ (((way : Nat) : Int) < 0 ∨ 2 < ((way : Nat) : Int)) := by omega
    rcases hsw43 with h43 | h43 | h43 | h43
    · refine j_tabIn C dX8_toldAhead_43 0 ((q_t (by omega)).trans h43) (by decide) (by decide) (25) rfl 68 (by decide) ?_
      refine j_iload C dX8_toldAhead_68 2 rfl 70 rfl ?_
      refine j_iconst C dX8_toldAhead_70 (nI 1) (by decide) 71 rfl ?_
      refine j_iadd C dX8_toldAhead_71 (nI (tpW w + 1)) (nI_add (tpW w) 1) 72 rfl ?_
      refine j_iconst C dX8_toldAhead_72 (nI 2) (by decide) 73 rfl ?_
      refine j_idiv C dX8_toldAhead_73 (nz (by omega) (by omega)) (nI ((tpW w + 1) / 2)) (pk_div (by omega) (by omega) (by omega)) 74 rfl ?_
      exact j_iret C dX8_toldAhead_74 () (show (nI ((tpW w + 1) / 2) : Int32) = nI (told w sz ev g i way) from by (congr 1; simp only [told]; repeat' split) <;> omega) rfl
    · refine j_tabIn C dX8_toldAhead_43 1 ((q_t (by omega)).trans h43) (by decide) (by decide) (32) rfl 75 (by decide) ?_
      refine j_iload C dX8_toldAhead_75 1 rfl 77 rfl ?_
      exact j_iret C dX8_toldAhead_77 () (show (nI (g (i - 1)) : Int32) = nI (told w sz ev g i way) from by (congr 1; simp only [told]; repeat' split) <;> omega) rfl
    · refine j_tabIn C dX8_toldAhead_43 2 ((q_t (by omega)).trans h43) (by decide) (by decide) (35) rfl 78 (by decide) ?_
      refine j_iconst C dX8_toldAhead_78 (nI 0) (by decide) 79 rfl ?_
      refine j_iload C dX8_toldAhead_79 2 rfl 81 rfl ?_
      refine j_iconst C dX8_toldAhead_81 (nI 2) (by decide) 82 rfl ?_
      refine j_iload C dX8_toldAhead_82 1 rfl 84 rfl ?_
      refine j_imul C dX8_toldAhead_84 (nI (2 * (g (i - 1)))) (pk_mul 2 (g (i - 1))) 85 rfl ?_
      refine j_iload C dX8_toldAhead_85 0 rfl 87 rfl ?_
      refine j_isub C dX8_toldAhead_87 (nI (2 * (g (i - 1))) - nI (g (i - 2))) rfl 88 rfl ?_
      refine j_min C dX8_toldAhead_88 2 3 4 5 rfl rfl rfl rfl (Nat.le_of_ble_eq_true rfl) (Nat.le_of_ble_eq_true rfl) (Nat.zero_le _) (Nat.zero_le _) ((if nI (2 * (g (i - 1))) - nI (g (i - 2)) < nI (tpW w) then nI (2 * (g (i - 1))) - nI (g (i - 2)) else nI (tpW w))) rfl 91 rfl ?_
      refine j_max C dX8_toldAhead_91 6 7 4 8 rfl rfl rfl rfl (Nat.le_of_ble_eq_true rfl) (Nat.le_of_ble_eq_true rfl) (Nat.zero_le _) (Nat.zero_le _) (nI (min (tpW w) ((2 * (g (i - 1))) - (g (i - 2))))) (q_clip (by omega) (by omega) (by omega)) 94 rfl ?_
      exact j_iret C dX8_toldAhead_94 () (show (nI (min (tpW w) ((2 * (g (i - 1))) - (g (i - 2)))) : Int32) = nI (told w sz ev g i way) from by (congr 1; simp only [told]; repeat' split) <;> omega) rfl
    · refine j_tabOut C dX8_toldAhead_43 (((way : Nat) : Int)) (q_t (by omega)) h43 95 (by decide) ?_
      refine j_iload C dX8_toldAhead_95 1 rfl 97 rfl ?_
      refine j_iload C dX8_toldAhead_97 0 rfl 99 rfl ?_
      refine j_iadd C dX8_toldAhead_99 (nI (g (i - 1) + (g (i - 2)))) (nI_add (g (i - 1)) (g (i - 2))) 100 rfl ?_
      refine j_iconst C dX8_toldAhead_100 (nI 2) (by decide) 101 rfl ?_
      refine j_idiv C dX8_toldAhead_101 (nz (by omega) (by omega)) (nI ((g (i - 1) + (g (i - 2))) / 2)) (pk_div (by omega) (by omega) (by omega)) 102 rfl ?_
      exact j_iret C dX8_toldAhead_102 () (show (nI ((g (i - 1) + (g (i - 2))) / 2) : Int32) = nI (told w sz ev g i way) from by (congr 1; simp only [told]; repeat' split) <;> omega) rfl
  · refine j_iload C dX8_toldAhead_28 0 rfl 30 rfl ?_
    refine j_goto C dX8_toldAhead_30 40 (by decide) ?_
    refine j_istore C dX8_toldAhead_40 [(6, .int (nI (g (i - 1)))), (5, .int (nI (g (i - 1)))), (4, .int (nI (tpW w))), (0, .ref hr), (1, .ref ho), (2, .int (nI i)), (3, .int (nI way))] (by decide) rfl 42 rfl ?_
    refine j_iload_n C dX8_toldAhead_42 6 rfl 43 rfl ?_
    have hsw43 : ((way : Nat) : Int) = 0 ∨ ((way : Nat) : Int) = 1 ∨ ((way : Nat) : Int) = 2 ∨ (((way : Nat) : Int) < 0 ∨ 2 < ((way : Nat) : Int)) := by omega
    rcases hsw43 with h43 | h43 | h43 | h43
    · refine j_tabIn C dX8_toldAhead_43 0 ((q_t (by omega)).trans h43) (by decide) (by decide) (25) rfl 68 (by decide) ?_
      refine j_iload C dX8_toldAhead_68 2 rfl 70 rfl ?_
      refine j_iconst C dX8_toldAhead_70 (nI 1) (by decide) 71 rfl ?_
      refine j_iadd C dX8_toldAhead_71 (nI (tpW w + 1)) (nI_add (tpW w) 1) 72 rfl ?_
      refine j_iconst C dX8_toldAhead_72 (nI 2) (by decide) 73 rfl ?_
      refine j_idiv C dX8_toldAhead_73 (nz (by omega) (by omega)) (nI ((tpW w + 1) / 2)) (pk_div (by omega) (by omega) (by omega)) 74 rfl ?_
      exact j_iret C dX8_toldAhead_74 () (show (nI ((tpW w + 1) / 2) : Int32) = nI (told w sz ev g i way) from by (congr 1; simp only [told]; repeat' split) <;> omega) rfl
    · refine j_tabIn C dX8_toldAhead_43 1 ((q_t (by omega)).trans h43) (by decide) (by decide) (32) rfl 75 (by decide) ?_
      refine j_iload C dX8_toldAhead_75 1 rfl 77 rfl ?_
      exact j_iret C dX8_toldAhead_77 () (show (nI (g (i - 1)) : Int32) = nI (told w sz ev g i way) from by (congr 1; simp only [told]; repeat' split) <;> omega) rfl
    · refine j_tabIn C dX8_toldAhead_43 2 ((q_t (by omega)).trans h43) (by decide) (by decide) (35) rfl 78 (by decide) ?_
      refine j_iconst C dX8_toldAhead_78 (nI 0) (by decide) 79 rfl ?_
      refine j_iload C dX8_toldAhead_79 2 rfl 81 rfl ?_
      refine j_iconst C dX8_toldAhead_81 (nI 2) (by decide) 82 rfl ?_
      refine j_iload C dX8_toldAhead_82 1 rfl 84 rfl ?_
      refine j_imul C dX8_toldAhead_84 (nI (2 * (g (i - 1)))) (pk_mul 2 (g (i - 1))) 85 rfl ?_
      refine j_iload C dX8_toldAhead_85 0 rfl 87 rfl ?_
      refine j_isub C dX8_toldAhead_87 (nI (2 * (g (i - 1))) - nI (g (i - 1))) rfl 88 rfl ?_
      refine j_min C dX8_toldAhead_88 2 3 4 5 rfl rfl rfl rfl (Nat.le_of_ble_eq_true rfl) (Nat.le_of_ble_eq_true rfl) (Nat.zero_le _) (Nat.zero_le _) ((if nI (2 * (g (i - 1))) - nI (g (i - 1)) < nI (tpW w) then nI (2 * (g (i - 1))) - nI (g (i - 1)) else nI (tpW w))) rfl 91 rfl ?_
      refine j_max C dX8_toldAhead_91 6 7 4 8 rfl rfl rfl rfl (Nat.le_of_ble_eq_true rfl) (Nat.le_of_ble_eq_true rfl) (Nat.zero_le _) (Nat.zero_le _) (nI (min (tpW w) ((2 * (g (i - 1))) - (g (i - 1))))) (q_clip (by omega) (by omega) (by omega)) 94 rfl ?_
      exact j_iret C dX8_toldAhead_94 () (show (nI (min (tpW w) ((2 * (g (i - 1))) - (g (i - 1)))) : Int32) = nI (told w sz ev g i way) from by (congr 1; simp only [told]; repeat' split) <;> omega) rfl
    · refine j_tabOut C dX8_toldAhead_43 (((way : Nat) : Int)) (q_t (by omega)) h43 95 (by decide) ?_
      refine j_iload C dX8_toldAhead_95 1 rfl 97 rfl ?_
      refine j_iload C dX8_toldAhead_97 0 rfl 99 rfl ?_
      refine j_iadd C dX8_toldAhead_99 (nI (g (i - 1) + (g (i - 1)))) (nI_add (g (i - 1)) (g (i - 1))) 100 rfl ?_
      refine j_iconst C dX8_toldAhead_100 (nI 2) (by decide) 101 rfl ?_
      refine j_idiv C dX8_toldAhead_101 (nz (by omega) (by omega)) (nI ((g (i - 1) + (g (i - 1))) / 2)) (pk_div (by omega) (by omega) (by omega)) 102 rfl ?_
      exact j_iret C dX8_toldAhead_102 () (show (nI ((g (i - 1) + (g (i - 1))) / 2) : Int32) = nI (told w sz ev g i way) from by (congr 1; simp only [told]; repeat' split) <;> omega) rfl
set_option maxHeartbeats 4000000 in
set_option maxRecDepth 100000 in
theorem c_X2_fill (l : Launch) (D : va_G) (cI cZ cH : ClassId) (q fa fl fw wd hb ba : Nat) (ff : Nat → Nat) (hr w sz ev ho oa n : Nat) (f g : Nat → Nat) (b way : Nat) (hw : 2 ≤ w ∧ w ≤ 8) (hsz : 1 ≤ sz ∧ sz ≤ 8) (hev : 1 ≤ ev ∧ ev ≤ 8) (hn : n ≤ 64) (hfg : ∀ j, j < n → f j = g j) (hg : ∀ j, j < n → g j ≤ tpW w) (hb1 : b * sz < n) (hway : way ≤ 3) : Mv l D cI cZ cH yX2_fill wsX2_fill 2 48 [.ref q, .ref hr, .ref ho, .int (nI b), .int (nI way)] [(q, .inr (2, [.ref fa, .int (nI fl), .int (nI fw), .int (nI wd), .int (nI hb), .int (nI ba)])), (fa, .inl (cI, 8, .inl (aN ff))), (hr, .inr (7, [.int (nI w), .int (nI sz), .int (nI ev)])), (ho, .inr (6, [.ref oa, .int (nI n)])), (oa, .inl (cI, 64, .inl (aN f)))] (fun (_ : Unit) => True) (fun (_ : Unit) => [(q, .inr (2, [.ref fa, .int (nI (cntB sz n b - bq sz ev (b * sz))), .int (nI way), .int (nI w), .int (nI (bq sz ev (b * sz))), .int (nI (g (b * sz)))])), (fa, .inl (cI, 8, .inl (aN (upT (Fs w sz ev g way (b * sz + bq sz ev (b * sz))) ff (cntB sz n b - bq sz ev (b * sz)))))), (hr, .inr (7, [.int (nI w), .int (nI sz), .int (nI ev)])), (ho, .inr (6, [.ref oa, .int (nI n)])), (oa, .inl (cI, 64, .inl (aN f)))]) := by
  refine Mv.start (cc := cX2_fill) (nL := 8) (ret := none) (lv0 := [(0, .ref q), (1, .ref hr), (2, .ref ho), (3, .int (nI b)), (4, .int (nI way))]) (by decide) rfl (Nat.le_of_ble_eq_true rfl) rfl ?_
  intro pX eX sX mX bX methX cX AX C
  have ht := tpW_le hw.2
  have hse := seB hsz.1 hsz.2 hev.1 hev.2
  have hble : b ≤ b * sz := Nat.le_mul_of_pos_right b hsz.1
  have hmul : (b + 1) * sz = b * sz + sz := Nat.succ_mul b sz
  have hbq := bq_le sz ev (b * sz)
  have hbp := bq_pos sz ev (b * sz)
  have hcn : cntB sz n b = min n ((b + 1) * sz) - b * sz := rfl
  have hg0 := hg (b * sz) hb1
  refine j_iload_n C dX2_fill_0 3 rfl 1 rfl ?_
  refine j_aload_n C dX2_fill_1 1 rfl 2 rfl ?_
  refine j_get C dX2_fill_2 2 1 1 inX2_fill_7 rfl rfl (by decide) rfl rfl rfl 5 rfl ?_
  refine j_imul C dX2_fill_5 (nI (b * sz)) (pk_mul b sz) 6 rfl ?_
  refine j_istore C dX2_fill_6 [(5, .int (nI (b * sz))), (0, .ref q), (1, .ref hr), (2, .ref ho), (3, .int (nI b)), (4, .int (nI way))] (by decide) rfl 8 rfl ?_
  refine j_aload_n C dX2_fill_8 2 rfl 9 rfl ?_
  refine j_iload_n C dX2_fill_9 4 rfl 10 rfl ?_
  refine j_aload_n C dX2_fill_10 3 rfl 11 rfl ?_
  refine j_get C dX2_fill_11 3 1 2 inX2_fill_6 rfl rfl (by decide) rfl rfl rfl 14 rfl ?_
  refine j_callVi1 (As := [.int (nI b), .int (nI n)]) (rest := []) (wr := [(q, .inr (2, [.ref fa, .int (nI fl), .int (nI fw), .int (nI wd), .int (nI hb), .int (nI ba)])), (fa, .inl (cI, 8, .inl (aN ff))), (ho, .inr (6, [.ref oa, .int (nI n)])), (oa, .inl (cI, 64, .inl (aN f)))]) C (c_X7_endOfBlock l D cI cZ cH hr w sz ev b n (by omega) (by omega) (by omega)) gX2_fill_X7_endOfBlock dX2_fill_14 rfl yd_X7_endOfBlock (Nat.le_of_ble_eq_true rfl) (Nat.le_of_ble_eq_true rfl) rfl rfl rfl _ rfl (Nat.le_of_ble_eq_true rfl) (Nat.zero_le _) (Nat.zero_le _) [2] [0, 1, 3, 4] rfl rfl rfl rfl rfl (by decide) [0, 1, 4, 2, 3] [(q, .inr (2, [.ref fa, .int (nI fl), .int (nI fw), .int (nI wd), .int (nI hb), .int (nI ba)])), (fa, .inl (cI, 8, .inl (aN ff))), (hr, .inr (7, [.int (nI w), .int (nI sz), .int (nI ev)])), (ho, .inr (6, [.ref oa, .int (nI n)])), (oa, .inl (cI, 64, .inl (aN f)))] rfl rfl rfl 17 rfl ?_
  refine j_istore C dX2_fill_17 [(6, .int (nI (min n ((b + 1) * sz)))), (5, .int (nI (b * sz))), (0, .ref q), (1, .ref hr), (2, .ref ho), (3, .int (nI b)), (4, .int (nI way))] (by decide) rfl 19 rfl ?_
  refine j_aload_n C dX2_fill_19 2 rfl 20 rfl ?_
  refine j_iload C dX2_fill_20 6 rfl 22 rfl ?_
  refine j_put C dX2_fill_22 0 2 3 inX2_fill_2 tyX2 tyX2_ok nmX2 rfl rfl (by decide) rfl rfl rfl rfl rfl (Nat.le_of_ble_eq_true rfl) [(q, .inr (2, [.ref fa, .int (nI fl), .int (nI way), .int (nI wd), .int (nI hb), .int (nI ba)])), (fa, .inl (cI, 8, .inl (aN ff))), (hr, .inr (7, [.int (nI w), .int (nI sz), .int (nI ev)])), (ho, .inr (6, [.ref oa, .int (nI n)])), (oa, .inl (cI, 64, .inl (aN f)))] rfl 25 rfl ?_
  refine j_aload_n C dX2_fill_25 2 rfl 26 rfl ?_
  refine j_aload_n C dX2_fill_26 3 rfl 27 rfl ?_
  refine j_get C dX2_fill_27 2 0 4 inX2_fill_7 rfl rfl (by decide) rfl rfl rfl 30 rfl ?_
  refine j_put C dX2_fill_30 0 3 5 inX2_fill_2 tyX2 tyX2_ok nmX2 rfl rfl (by decide) rfl rfl rfl rfl rfl (Nat.le_of_ble_eq_true rfl) [(q, .inr (2, [.ref fa, .int (nI fl), .int (nI way), .int (nI w), .int (nI hb), .int (nI ba)])), (fa, .inl (cI, 8, .inl (aN ff))), (hr, .inr (7, [.int (nI w), .int (nI sz), .int (nI ev)])), (ho, .inr (6, [.ref oa, .int (nI n)])), (oa, .inl (cI, 64, .inl (aN f)))] rfl 33 rfl ?_
  refine j_aload_n C dX2_fill_33 2 rfl 34 rfl ?_
  refine j_aload_n C dX2_fill_34 3 rfl 35 rfl ?_
  refine j_iload C dX2_fill_35 1 rfl 37 rfl ?_
  refine j_callVi1 (As := [.int (nI (b * sz))]) (rest := [.ref q]) (wr := [(q, .inr (2, [.ref fa, .int (nI fl), .int (nI way), .int (nI w), .int (nI hb), .int (nI ba)])), (fa, .inl (cI, 8, .inl (aN ff))), (ho, .inr (6, [.ref oa, .int (nI n)])), (oa, .inl (cI, 64, .inl (aN f)))]) C (c_X7_isBare l D cI cZ cH hr w sz ev (b * sz) (by omega) (by omega) (by omega)) gX2_fill_X7_isBare dX2_fill_37 rfl yd_X7_isBare (Nat.le_of_ble_eq_true rfl) (Nat.le_of_ble_eq_true rfl) rfl rfl rfl _ rfl (Nat.le_of_ble_eq_true rfl) (Nat.zero_le _) (Nat.zero_le _) [2] [0, 1, 3, 4] rfl rfl rfl rfl rfl (by decide) [0, 1, 4, 2, 3] [(q, .inr (2, [.ref fa, .int (nI fl), .int (nI way), .int (nI w), .int (nI hb), .int (nI ba)])), (fa, .inl (cI, 8, .inl (aN ff))), (hr, .inr (7, [.int (nI w), .int (nI sz), .int (nI ev)])), (ho, .inr (6, [.ref oa, .int (nI n)])), (oa, .inl (cI, 64, .inl (aN f)))] rfl rfl rfl 40 rfl ?_
  refine j_top (nI (bq sz ev (b * sz))) (bq_i sz ev (b * sz)) ?_
  refine j_put C dX2_fill_40 0 4 6 inX2_fill_2 tyX2 tyX2_ok nmX2 rfl rfl (by decide) rfl rfl rfl (by unfold bq; split <;> rfl) (by unfold bq; split <;> rfl) (Nat.le_of_ble_eq_true rfl) [(q, .inr (2, [.ref fa, .int (nI fl), .int (nI way), .int (nI w), .int (nI (bq sz ev (b * sz))), .int (nI ba)])), (fa, .inl (cI, 8, .inl (aN ff))), (hr, .inr (7, [.int (nI w), .int (nI sz), .int (nI ev)])), (ho, .inr (6, [.ref oa, .int (nI n)])), (oa, .inl (cI, 64, .inl (aN f)))] rfl 43 rfl ?_
  refine j_aload_n C dX2_fill_43 2 rfl 44 rfl ?_
  refine j_aload_n C dX2_fill_44 4 rfl 45 rfl ?_
  refine j_iload C dX2_fill_45 1 rfl 47 rfl ?_
  refine j_callVi1 (As := [.int (nI (b * sz))]) (rest := [.ref q]) (wr := [(q, .inr (2, [.ref fa, .int (nI fl), .int (nI way), .int (nI w), .int (nI (bq sz ev (b * sz))), .int (nI ba)])), (fa, .inl (cI, 8, .inl (aN ff))), (hr, .inr (7, [.int (nI w), .int (nI sz), .int (nI ev)]))]) C (c_X6_atN l D cI cZ cH ho oa n f g (b * sz) (by omega) hfg (by omega)) gX2_fill_X6_at dX2_fill_47 rfl yd_X6_at (Nat.le_of_ble_eq_true rfl) (Nat.le_of_ble_eq_true rfl) rfl rfl rfl _ rfl (Nat.le_of_ble_eq_true rfl) (Nat.zero_le _) (Nat.zero_le _) [3, 4] [0, 1, 2] rfl rfl rfl rfl rfl (by decide) [0, 1, 2, 3, 4] [(q, .inr (2, [.ref fa, .int (nI fl), .int (nI way), .int (nI w), .int (nI (bq sz ev (b * sz))), .int (nI ba)])), (fa, .inl (cI, 8, .inl (aN ff))), (hr, .inr (7, [.int (nI w), .int (nI sz), .int (nI ev)])), (ho, .inr (6, [.ref oa, .int (nI n)])), (oa, .inl (cI, 64, .inl (aN f)))] rfl rfl rfl 50 rfl ?_
  refine j_put C dX2_fill_50 0 5 7 inX2_fill_2 tyX2 tyX2_ok nmX2 rfl rfl (by decide) rfl rfl rfl rfl rfl (Nat.le_of_ble_eq_true rfl) [(q, .inr (2, [.ref fa, .int (nI fl), .int (nI way), .int (nI w), .int (nI (bq sz ev (b * sz))), .int (nI (g (b * sz)))])), (fa, .inl (cI, 8, .inl (aN ff))), (hr, .inr (7, [.int (nI w), .int (nI sz), .int (nI ev)])), (ho, .inr (6, [.ref oa, .int (nI n)])), (oa, .inl (cI, 64, .inl (aN f)))] rfl 53 rfl ?_
  refine j_aload_n C dX2_fill_53 2 rfl 54 rfl ?_
  refine j_iconst C dX2_fill_54 (nI 0) (by decide) 55 rfl ?_
  refine j_put C dX2_fill_55 0 1 8 inX2_fill_2 tyX2 tyX2_ok nmX2 rfl rfl (by decide) rfl rfl rfl rfl rfl (Nat.le_of_ble_eq_true rfl) [(q, .inr (2, [.ref fa, .int (nI 0), .int (nI way), .int (nI w), .int (nI (bq sz ev (b * sz))), .int (nI (g (b * sz)))])), (fa, .inl (cI, 8, .inl (aN ff))), (hr, .inr (7, [.int (nI w), .int (nI sz), .int (nI ev)])), (ho, .inr (6, [.ref oa, .int (nI n)])), (oa, .inl (cI, 64, .inl (aN f)))] rfl 58 rfl ?_
  refine j_aload_n C dX2_fill_58 2 rfl 59 rfl ?_
  refine j_get C dX2_fill_59 0 4 6 inX2_fill_2 rfl rfl (by decide) rfl rfl rfl 62 rfl ?_
  refine j_if_eq C dX2_fill_62 72 (by decide) (q_t (by omega)) 65 rfl (fun h62 => ?_) (fun h62 => ?_)
  · refine j_iload C dX2_fill_72 1 rfl 74 rfl ?_
    refine j_istore C dX2_fill_74 [(7, .int (nI (b * sz))), (6, .int (nI (min n ((b + 1) * sz)))), (5, .int (nI (b * sz))), (0, .ref q), (1, .ref hr), (2, .ref ho), (3, .int (nI b)), (4, .int (nI way))] (by decide) rfl 76 rfl ?_
    refine j_loop1 (fun (m : Nat) => b * sz + bq sz ev (b * sz) + m ≤ min n ((b + 1) * sz)) (fun (m : Nat) => 9 - m) (fun (m : Nat) => [(q, .inr (2, [.ref fa, .int (nI m), .int (nI way), .int (nI w), .int (nI (bq sz ev (b * sz))), .int (nI (g (b * sz)))])), (fa, .inl (cI, 8, .inl (aN (upT (Fs w sz ev g way (b * sz + bq sz ev (b * sz))) ff m)))), (hr, .inr (7, [.int (nI w), .int (nI sz), .int (nI ev)])), (ho, .inr (6, [.ref oa, .int (nI n)])), (oa, .inl (cI, 64, .inl (aN f)))]) (fun (m : Nat) => [(7, .int (nI (b * sz + bq sz ev (b * sz) + m))), (6, .int (nI (min n ((b + 1) * sz)))), (5, .int (nI (b * sz))), (0, .ref q), (1, .ref hr), (2, .ref ho), (3, .int (nI b)), (4, .int (nI way))]) ?_ 0 (by omega) (by rw [upT_0]) (by have hq9 : bq sz ev (b * sz) = 1 ∨ bq sz ev (b * sz) = 0 := (by omega); rcases hq9 with hq9 | hq9 <;> first | (simp only [hq9, Nat.add_zero]; done) | (exfalso; omega))
    intro m hI76 ih76
    have hm : b * sz + bq sz ev (b * sz) + m ≤ min n ((b + 1) * sz) := hI76
    show J D AX pX l eX _ sX mX _ bX methX cX 0 0 _ 8 [(q, .inr (2, [.ref fa, .int (nI m), .int (nI way), .int (nI w), .int (nI (bq sz ev (b * sz))), .int (nI (g (b * sz)))])), (fa, .inl (cI, 8, .inl (aN (upT (Fs w sz ev g way (b * sz + bq sz ev (b * sz))) ff m)))), (hr, .inr (7, [.int (nI w), .int (nI sz), .int (nI ev)])), (ho, .inr (6, [.ref oa, .int (nI n)])), (oa, .inl (cI, 64, .inl (aN f)))] [(7, .int (nI (b * sz + bq sz ev (b * sz) + m))), (6, .int (nI (min n ((b + 1) * sz)))), (5, .int (nI (b * sz))), (0, .ref q), (1, .ref hr), (2, .ref ho), (3, .int (nI b)), (4, .int (nI way))] 76 []
    refine j_iload C dX2_fill_76 0 rfl 78 rfl ?_
    refine j_iload C dX2_fill_78 1 rfl 80 rfl ?_
    refine j_icmp_ge C dX2_fill_80 141 (by decide) (q_t (by omega)) (q_t (by omega)) 83 rfl (fun h80 => ?_) (fun h80 => ?_)
    · exact j_vret C dX2_fill_141 () trivial (by have hm9 : m = cntB sz n b - bq sz ev (b * sz) := (by omega); subst hm9; rfl)
    · refine j_aload_n C dX2_fill_83 3 rfl 84 rfl ?_
      refine j_get C dX2_fill_84 0 1 8 inX2_fill_2 rfl rfl (by decide) rfl rfl rfl 87 rfl ?_
      refine j_bipush C dX2_fill_87 (nI 8) (by decide) 89 rfl ?_
      refine j_icmp_ge C dX2_fill_89 141 (by decide) (q_t (by omega)) (q_t (n := 8) (Nat.le_of_ble_eq_true rfl)) 92 rfl (fun h89 => ?_) (fun h89 => ?_)
      · exact j_vret C dX2_fill_141 () trivial (by have hm9 : m = cntB sz n b - bq sz ev (b * sz) := (by omega); subst hm9; rfl)
      · refine j_aload_n C dX2_fill_92 3 rfl 93 rfl ?_
        refine j_get C dX2_fill_93 0 0 9 inX2_fill_2 rfl rfl (by decide) rfl rfl rfl 96 rfl ?_
        refine j_aload_n C dX2_fill_96 3 rfl 97 rfl ?_
        refine j_get C dX2_fill_97 0 1 8 inX2_fill_2 rfl rfl (by decide) rfl rfl rfl 100 rfl ?_
        refine j_aload_n C dX2_fill_100 5 rfl 101 rfl ?_
        refine j_iload C dX2_fill_101 0 rfl 103 rfl ?_
        refine j_callVi1 (As := [.int (nI (b * sz + bq sz ev (b * sz) + m))]) (rest := [.int (nI m), .ref fa]) (wr := [(q, .inr (2, [.ref fa, .int (nI m), .int (nI way), .int (nI w), .int (nI (bq sz ev (b * sz))), .int (nI (g (b * sz)))])), (fa, .inl (cI, 8, .inl (aN (upT (Fs w sz ev g way (b * sz + bq sz ev (b * sz))) ff m)))), (hr, .inr (7, [.int (nI w), .int (nI sz), .int (nI ev)]))]) C (c_X6_atN l D cI cZ cH ho oa n f g (b * sz + bq sz ev (b * sz) + m) (by omega) hfg (by omega)) gX2_fill_X6_at dX2_fill_103 rfl yd_X6_at (Nat.le_of_ble_eq_true rfl) (Nat.le_of_ble_eq_true rfl) rfl rfl rfl _ rfl (Nat.le_of_ble_eq_true rfl) (Nat.zero_le _) (Nat.zero_le _) [3, 4] [0, 1, 2] rfl rfl rfl rfl rfl (by decide) [0, 1, 2, 3, 4] [(q, .inr (2, [.ref fa, .int (nI m), .int (nI way), .int (nI w), .int (nI (bq sz ev (b * sz))), .int (nI (g (b * sz)))])), (fa, .inl (cI, 8, .inl (aN (upT (Fs w sz ev g way (b * sz + bq sz ev (b * sz))) ff m)))), (hr, .inr (7, [.int (nI w), .int (nI sz), .int (nI ev)])), (ho, .inr (6, [.ref oa, .int (nI n)])), (oa, .inl (cI, 64, .inl (aN f)))] rfl rfl rfl 106 rfl ?_
        have hgi := hg (b * sz + bq sz ev (b * sz) + m) (by omega)
        refine j_aload_n C dX2_fill_106 4 rfl 107 rfl ?_
        refine j_aload_n C dX2_fill_107 5 rfl 108 rfl ?_
        refine j_iload C dX2_fill_108 0 rfl 110 rfl ?_
        refine j_aload_n C dX2_fill_110 3 rfl 111 rfl ?_
        refine j_get C dX2_fill_111 0 2 3 inX2_fill_2 rfl rfl (by decide) rfl rfl rfl 114 rfl ?_
        refine j_callNi1 (As := [.ref hr, .ref ho, .int (nI (b * sz + bq sz ev (b * sz) + m)), .int (nI way)]) (rest := [.int (nI (g (b * sz + bq sz ev (b * sz) + m))), .int (nI m), .ref fa]) (wr := [(q, .inr (2, [.ref fa, .int (nI m), .int (nI way), .int (nI w), .int (nI (bq sz ev (b * sz))), .int (nI (g (b * sz)))])), (fa, .inl (cI, 8, .inl (aN (upT (Fs w sz ev g way (b * sz + bq sz ev (b * sz))) ff m))))]) C (c_X8_toldAhead l D cI cZ cH hr w sz ev ho oa n f g (b * sz + bq sz ev (b * sz) + m) way hw hsz hev (by omega) hfg hg (by omega) (by omega) (by omega)) gX2_fill_X8_toldAhead_n53 13 rfl 32 33 rfl rfl dX2_fill_114 rfl yd_X8_toldAhead.2 (Nat.le_of_ble_eq_true rfl) (Nat.le_of_ble_eq_true rfl) rfl _ rfl (Nat.le_of_ble_eq_true rfl) (Nat.zero_le _) (Nat.zero_le _) [2, 3, 4] [0, 1] rfl rfl rfl rfl rfl (by decide) [0, 1, 2, 3, 4] [(q, .inr (2, [.ref fa, .int (nI m), .int (nI way), .int (nI w), .int (nI (bq sz ev (b * sz))), .int (nI (g (b * sz)))])), (fa, .inl (cI, 8, .inl (aN (upT (Fs w sz ev g way (b * sz + bq sz ev (b * sz))) ff m)))), (hr, .inr (7, [.int (nI w), .int (nI sz), .int (nI ev)])), (ho, .inr (6, [.ref oa, .int (nI n)])), (oa, .inl (cI, 64, .inl (aN f)))] rfl rfl rfl 117 rfl ?_
        have hto := told_le (sz := sz) (ev := ev) (i := b * sz + bq sz ev (b * sz) + m) (way := way) hw.1 hg (by omega) (by omega)
        refine j_aload_n C dX2_fill_117 4 rfl 118 rfl ?_
        refine j_callVi1 (As := []) (rest := [.int (nI (told w sz ev g (b * sz + bq sz ev (b * sz) + m) way)), .int (nI (g (b * sz + bq sz ev (b * sz) + m))), .int (nI m), .ref fa]) (wr := [(q, .inr (2, [.ref fa, .int (nI m), .int (nI way), .int (nI w), .int (nI (bq sz ev (b * sz))), .int (nI (g (b * sz)))])), (fa, .inl (cI, 8, .inl (aN (upT (Fs w sz ev g way (b * sz + bq sz ev (b * sz))) ff m)))), (ho, .inr (6, [.ref oa, .int (nI n)])), (oa, .inl (cI, 64, .inl (aN f)))]) C (c_X7_top l D cI cZ cH hr w sz ev (by omega)) gX2_fill_X7_top dX2_fill_118 rfl yd_X7_top (Nat.le_of_ble_eq_true rfl) (Nat.le_of_ble_eq_true rfl) rfl rfl rfl _ rfl (Nat.le_of_ble_eq_true rfl) (Nat.zero_le _) (Nat.zero_le _) [2] [0, 1, 3, 4] rfl rfl rfl rfl rfl (by decide) [0, 1, 4, 2, 3] [(q, .inr (2, [.ref fa, .int (nI m), .int (nI way), .int (nI w), .int (nI (bq sz ev (b * sz))), .int (nI (g (b * sz)))])), (fa, .inl (cI, 8, .inl (aN (upT (Fs w sz ev g way (b * sz + bq sz ev (b * sz))) ff m)))), (hr, .inr (7, [.int (nI w), .int (nI sz), .int (nI ev)])), (ho, .inr (6, [.ref oa, .int (nI n)])), (oa, .inl (cI, 64, .inl (aN f)))] rfl rfl rfl 121 rfl ?_
        refine j_callNi1 (As := [.int (nI (g (b * sz + bq sz ev (b * sz) + m))), .int (nI (told w sz ev g (b * sz + bq sz ev (b * sz) + m) way)), .int (nI (tpW w))]) (rest := [.int (nI m), .ref fa]) (wr := [(q, .inr (2, [.ref fa, .int (nI m), .int (nI way), .int (nI w), .int (nI (bq sz ev (b * sz))), .int (nI (g (b * sz)))])), (fa, .inl (cI, 8, .inl (aN (upT (Fs w sz ev g way (b * sz + bq sz ev (b * sz))) ff m)))), (hr, .inr (7, [.int (nI w), .int (nI sz), .int (nI ev)])), (ho, .inr (6, [.ref oa, .int (nI n)])), (oa, .inl (cI, 64, .inl (aN f)))]) C (c_X8_fold l D cI cZ cH (g (b * sz + bq sz ev (b * sz) + m)) (told w sz ev g (b * sz + bq sz ev (b * sz) + m) way) (tpW w) (by omega) (by omega) (by omega)) gX2_fill_X8_fold_n61 14 rfl 50 33 rfl rfl dX2_fill_121 rfl yd_X8_fold.2 (Nat.le_of_ble_eq_true rfl) (Nat.le_of_ble_eq_true rfl) rfl _ rfl (Nat.le_of_ble_eq_true rfl) (Nat.zero_le _) (Nat.zero_le _) [] [0, 1, 2, 3, 4] rfl rfl rfl rfl rfl (by decide) [0, 1, 2, 3, 4] [(q, .inr (2, [.ref fa, .int (nI m), .int (nI way), .int (nI w), .int (nI (bq sz ev (b * sz))), .int (nI (g (b * sz)))])), (fa, .inl (cI, 8, .inl (aN (upT (Fs w sz ev g way (b * sz + bq sz ev (b * sz))) ff m)))), (hr, .inr (7, [.int (nI w), .int (nI sz), .int (nI ev)])), (ho, .inr (6, [.ref oa, .int (nI n)])), (oa, .inl (cI, 64, .inl (aN f)))] rfl rfl rfl 124 rfl ?_
        refine j_iast C dX2_fill_124 1 rfl (by omega) (Nat.le_of_ble_eq_true rfl) [(q, .inr (2, [.ref fa, .int (nI m), .int (nI way), .int (nI w), .int (nI (bq sz ev (b * sz))), .int (nI (g (b * sz)))])), (fa, .inl (cI, 8, .inl (aN (va_up (upT (Fs w sz ev g way (b * sz + bq sz ev (b * sz))) ff m) m (foldN (g (b * sz + bq sz ev (b * sz) + m)) (told w sz ev g (b * sz + bq sz ev (b * sz) + m) way) (tpW w)))))), (hr, .inr (7, [.int (nI w), .int (nI sz), .int (nI ev)])), (ho, .inr (6, [.ref oa, .int (nI n)])), (oa, .inl (cI, 64, .inl (aN f)))] rfl 125 rfl ?_
        refine j_aload_n C dX2_fill_125 3 rfl 126 rfl ?_
        refine j_dup C dX2_fill_126 rfl 127 rfl ?_
        refine j_get C dX2_fill_127 0 1 8 inX2_fill_2 rfl rfl (by decide) rfl rfl rfl 130 rfl ?_
        refine j_iconst C dX2_fill_130 (nI 1) (by decide) 131 rfl ?_
        refine j_iadd C dX2_fill_131 (nI (m + 1)) (nI_add m 1) 132 rfl ?_
        refine j_put C dX2_fill_132 0 1 8 inX2_fill_2 tyX2 tyX2_ok nmX2 rfl rfl (by decide) rfl rfl rfl rfl rfl (Nat.le_of_ble_eq_true rfl) [(q, .inr (2, [.ref fa, .int (nI (m + 1)), .int (nI way), .int (nI w), .int (nI (bq sz ev (b * sz))), .int (nI (g (b * sz)))])), (fa, .inl (cI, 8, .inl (aN (va_up (upT (Fs w sz ev g way (b * sz + bq sz ev (b * sz))) ff m) m (foldN (g (b * sz + bq sz ev (b * sz) + m)) (told w sz ev g (b * sz + bq sz ev (b * sz) + m) way) (tpW w)))))), (hr, .inr (7, [.int (nI w), .int (nI sz), .int (nI ev)])), (ho, .inr (6, [.ref oa, .int (nI n)])), (oa, .inl (cI, 64, .inl (aN f)))] rfl 135 rfl ?_
        refine j_iinc C dX2_fill_135 0 rfl (nI (b * sz + bq sz ev (b * sz) + m + 1)) (nI_1 (b * sz + bq sz ev (b * sz) + m)) [(7, .int (nI (b * sz + bq sz ev (b * sz) + m + 1))), (6, .int (nI (min n ((b + 1) * sz)))), (5, .int (nI (b * sz))), (0, .ref q), (1, .ref hr), (2, .ref ho), (3, .int (nI b)), (4, .int (nI way))] (by decide) rfl 138 rfl ?_
        refine j_goto C dX2_fill_138 76 (by decide) ?_
        refine j_world [(q, .inr (2, [.ref fa, .int (nI (m + 1)), .int (nI way), .int (nI w), .int (nI (bq sz ev (b * sz))), .int (nI (g (b * sz)))])), (fa, .inl (cI, 8, .inl (aN (upT (Fs w sz ev g way (b * sz + bq sz ev (b * sz))) ff (m + 1))))), (hr, .inr (7, [.int (nI w), .int (nI sz), .int (nI ev)])), (ho, .inr (6, [.ref oa, .int (nI n)])), (oa, .inl (cI, 64, .inl (aN f)))] (by rw [← upT_s]; rfl) ?_
        refine j_lveq [(7, .int (nI (b * sz + bq sz ev (b * sz) + (m + 1)))), (6, .int (nI (min n ((b + 1) * sz)))), (5, .int (nI (b * sz))), (0, .ref q), (1, .ref hr), (2, .ref ho), (3, .int (nI b)), (4, .int (nI way))] rfl ?_
        exact ih76 (m + 1) (by omega) (by omega)
  · refine j_iload C dX2_fill_65 1 rfl 67 rfl ?_
    refine j_iconst C dX2_fill_67 (nI 1) (by decide) 68 rfl ?_
    refine j_iadd C dX2_fill_68 (nI (b * sz + 1)) (nI_add (b * sz) 1) 69 rfl ?_
    refine j_goto C dX2_fill_69 74 (by decide) ?_
    refine j_istore C dX2_fill_74 [(7, .int (nI (b * sz + 1))), (6, .int (nI (min n ((b + 1) * sz)))), (5, .int (nI (b * sz))), (0, .ref q), (1, .ref hr), (2, .ref ho), (3, .int (nI b)), (4, .int (nI way))] (by decide) rfl 76 rfl ?_
    refine j_loop1 (fun (m : Nat) => b * sz + bq sz ev (b * sz) + m ≤ min n ((b + 1) * sz)) (fun (m : Nat) => 9 - m) (fun (m : Nat) => [(q, .inr (2, [.ref fa, .int (nI m), .int (nI way), .int (nI w), .int (nI (bq sz ev (b * sz))), .int (nI (g (b * sz)))])), (fa, .inl (cI, 8, .inl (aN (upT (Fs w sz ev g way (b * sz + bq sz ev (b * sz))) ff m)))), (hr, .inr (7, [.int (nI w), .int (nI sz), .int (nI ev)])), (ho, .inr (6, [.ref oa, .int (nI n)])), (oa, .inl (cI, 64, .inl (aN f)))]) (fun (m : Nat) => [(7, .int (nI (b * sz + bq sz ev (b * sz) + m))), (6, .int (nI (min n ((b + 1) * sz)))), (5, .int (nI (b * sz))), (0, .ref q), (1, .ref hr), (2, .ref ho), (3, .int (nI b)), (4, .int (nI way))]) ?_ 0 (by omega) (by rw [upT_0]) (by have hq9 : bq sz ev (b * sz) = 1 ∨ bq sz ev (b * sz) = 0 := (by omega); rcases hq9 with hq9 | hq9 <;> first | (simp only [hq9, Nat.add_zero]; done) | (exfalso; omega))
    intro m hI76 ih76
    have hm : b * sz + bq sz ev (b * sz) + m ≤ min n ((b + 1) * sz) := hI76
    show J D AX pX l eX _ sX mX _ bX methX cX 0 0 _ 8 [(q, .inr (2, [.ref fa, .int (nI m), .int (nI way), .int (nI w), .int (nI (bq sz ev (b * sz))), .int (nI (g (b * sz)))])), (fa, .inl (cI, 8, .inl (aN (upT (Fs w sz ev g way (b * sz + bq sz ev (b * sz))) ff m)))), (hr, .inr (7, [.int (nI w), .int (nI sz), .int (nI ev)])), (ho, .inr (6, [.ref oa, .int (nI n)])), (oa, .inl (cI, 64, .inl (aN f)))] [(7, .int (nI (b * sz + bq sz ev (b * sz) + m))), (6, .int (nI (min n ((b + 1) * sz)))), (5, .int (nI (b * sz))), (0, .ref q), (1, .ref hr), (2, .ref ho), (3, .int (nI b)), (4, .int (nI way))] 76 []
    refine j_iload C dX2_fill_76 0 rfl 78 rfl ?_
    refine j_iload C dX2_fill_78 1 rfl 80 rfl ?_
    refine j_icmp_ge C dX2_fill_80 141 (by decide) (q_t (by omega)) (q_t (by omega)) 83 rfl (fun h80 => ?_) (fun h80 => ?_)
    · exact j_vret C dX2_fill_141 () trivial (by have hm9 : m = cntB sz n b - bq sz ev (b * sz) := (by omega); subst hm9; rfl)
    · refine j_aload_n C dX2_fill_83 3 rfl 84 rfl ?_
      refine j_get C dX2_fill_84 0 1 8 inX2_fill_2 rfl rfl (by decide) rfl rfl rfl 87 rfl ?_
      refine j_bipush C dX2_fill_87 (nI 8) (by decide) 89 rfl ?_
      refine j_icmp_ge C dX2_fill_89 141 (by decide) (q_t (by omega)) (q_t (n := 8) (Nat.le_of_ble_eq_true rfl)) 92 rfl (fun h89 => ?_) (fun h89 => ?_)
      · exact j_vret C dX2_fill_141 () trivial (by have hm9 : m = cntB sz n b - bq sz ev (b * sz) := (by omega); subst hm9; rfl)
      · refine j_aload_n C dX2_fill_92 3 rfl 93 rfl ?_
        refine j_get C dX2_fill_93 0 0 9 inX2_fill_2 rfl rfl (by decide) rfl rfl rfl 96 rfl ?_
        refine j_aload_n C dX2_fill_96 3 rfl 97 rfl ?_
        refine j_get C dX2_fill_97 0 1 8 inX2_fill_2 rfl rfl (by decide) rfl rfl rfl 100 rfl ?_
        refine j_aload_n C dX2_fill_100 5 rfl 101 rfl ?_
        refine j_iload C dX2_fill_101 0 rfl 103 rfl ?_
        refine j_callVi1 (As := [.int (nI (b * sz + bq sz ev (b * sz) + m))]) (rest := [.int (nI m), .ref fa]) (wr := [(q, .inr (2, [.ref fa, .int (nI m), .int (nI way), .int (nI w), .int (nI (bq sz ev (b * sz))), .int (nI (g (b * sz)))])), (fa, .inl (cI, 8, .inl (aN (upT (Fs w sz ev g way (b * sz + bq sz ev (b * sz))) ff m)))), (hr, .inr (7, [.int (nI w), .int (nI sz), .int (nI ev)]))]) C (c_X6_atN l D cI cZ cH ho oa n f g (b * sz + bq sz ev (b * sz) + m) (by omega) hfg (by omega)) gX2_fill_X6_at dX2_fill_103 rfl yd_X6_at (Nat.le_of_ble_eq_true rfl) (Nat.le_of_ble_eq_true rfl) rfl rfl rfl _ rfl (Nat.le_of_ble_eq_true rfl) (Nat.zero_le _) (Nat.zero_le _) [3, 4] [0, 1, 2] rfl rfl rfl rfl rfl (by decide) [0, 1, 2, 3, 4] [(q, .inr (2, [.ref fa, .int (nI m), .int (nI way), .int (nI w), .int (nI (bq sz ev (b * sz))), .int (nI (g (b * sz)))])), (fa, .inl (cI, 8, .inl (aN (upT (Fs w sz ev g way (b * sz + bq sz ev (b * sz))) ff m)))), (hr, .inr (7, [.int (nI w), .int (nI sz), .int (nI ev)])), (ho, .inr (6, [.ref oa, .int (nI n)])), (oa, .inl (cI, 64, .inl (aN f)))] rfl rfl rfl 106 rfl ?_
        have hgi := hg (b * sz + bq sz ev (b * sz) + m) (by omega)
        refine j_aload_n C dX2_fill_106 4 rfl 107 rfl ?_
        refine j_aload_n C dX2_fill_107 5 rfl 108 rfl ?_
        refine j_iload C dX2_fill_108 0 rfl 110 rfl ?_
        refine j_aload_n C dX2_fill_110 3 rfl 111 rfl ?_
        refine j_get C dX2_fill_111 0 2 3 inX2_fill_2 rfl rfl (by decide) rfl rfl rfl 114 rfl ?_
        refine j_callNi1 (As := [.ref hr, .ref ho, .int (nI (b * sz + bq sz ev (b * sz) + m)), .int (nI way)]) (rest := [.int (nI (g (b * sz + bq sz ev (b * sz) + m))), .int (nI m), .ref fa]) (wr := [(q, .inr (2, [.ref fa, .int (nI m), .int (nI way), .int (nI w), .int (nI (bq sz ev (b * sz))), .int (nI (g (b * sz)))])), (fa, .inl (cI, 8, .inl (aN (upT (Fs w sz ev g way (b * sz + bq sz ev (b * sz))) ff m))))]) C (c_X8_toldAhead l D cI cZ cH hr w sz ev ho oa n f g (b * sz + bq sz ev (b * sz) + m) way hw hsz hev (by omega) hfg hg (by omega) (by omega) (by omega)) gX2_fill_X8_toldAhead_n53 13 rfl 32 33 rfl rfl dX2_fill_114 rfl yd_X8_toldAhead.2 (Nat.le_of_ble_eq_true rfl) (Nat.le_of_ble_eq_true rfl) rfl _ rfl (Nat.le_of_ble_eq_true rfl) (Nat.zero_le _) (Nat.zero_le _) [2, 3, 4] [0, 1] rfl rfl rfl rfl rfl (by decide) [0, 1, 2, 3, 4] [(q, .inr (2, [.ref fa, .int (nI m), .int (nI way), .int (nI w), .int (nI (bq sz ev (b * sz))), .int (nI (g (b * sz)))])), (fa, .inl (cI, 8, .inl (aN (upT (Fs w sz ev g way (b * sz + bq sz ev (b * sz))) ff m)))), (hr, .inr (7, [.int (nI w), .int (nI sz), .int (nI ev)])), (ho, .inr (6, [.ref oa, .int (nI n)])), (oa, .inl (cI, 64, .inl (aN f)))] rfl rfl rfl 117 rfl ?_
        have hto := told_le (sz := sz) (ev := ev) (i := b * sz + bq sz ev (b * sz) + m) (way := way) hw.1 hg (by omega) (by omega)
        refine j_aload_n C dX2_fill_117 4 rfl 118 rfl ?_
        refine j_callVi1 (As := []) (rest := [.int (nI (told w sz ev g (b * sz + bq sz ev (b * sz) + m) way)), .int (nI (g (b * sz + bq sz ev (b * sz) + m))), .int (nI m), .ref fa]) (wr := [(q, .inr (2, [.ref fa, .int (nI m), .int (nI way), .int (nI w), .int (nI (bq sz ev (b * sz))), .int (nI (g (b * sz)))])), (fa, .inl (cI, 8, .inl (aN (upT (Fs w sz ev g way (b * sz + bq sz ev (b * sz))) ff m)))), (ho, .inr (6, [.ref oa, .int (nI n)])), (oa, .inl (cI, 64, .inl (aN f)))]) C (c_X7_top l D cI cZ cH hr w sz ev (by omega)) gX2_fill_X7_top dX2_fill_118 rfl yd_X7_top (Nat.le_of_ble_eq_true rfl) (Nat.le_of_ble_eq_true rfl) rfl rfl rfl _ rfl (Nat.le_of_ble_eq_true rfl) (Nat.zero_le _) (Nat.zero_le _) [2] [0, 1, 3, 4] rfl rfl rfl rfl rfl (by decide) [0, 1, 4, 2, 3] [(q, .inr (2, [.ref fa, .int (nI m), .int (nI way), .int (nI w), .int (nI (bq sz ev (b * sz))), .int (nI (g (b * sz)))])), (fa, .inl (cI, 8, .inl (aN (upT (Fs w sz ev g way (b * sz + bq sz ev (b * sz))) ff m)))), (hr, .inr (7, [.int (nI w), .int (nI sz), .int (nI ev)])), (ho, .inr (6, [.ref oa, .int (nI n)])), (oa, .inl (cI, 64, .inl (aN f)))] rfl rfl rfl 121 rfl ?_
        refine j_callNi1 (As := [.int (nI (g (b * sz + bq sz ev (b * sz) + m))), .int (nI (told w sz ev g (b * sz + bq sz ev (b * sz) + m) way)), .int (nI (tpW w))]) (rest := [.int (nI m), .ref fa]) (wr := [(q, .inr (2, [.ref fa, .int (nI m), .int (nI way), .int (nI w), .int (nI (bq sz ev (b * sz))), .int (nI (g (b * sz)))])), (fa, .inl (cI, 8, .inl (aN (upT (Fs w sz ev g way (b * sz + bq sz ev (b * sz))) ff m)))), (hr, .inr (7, [.int (nI w), .int (nI sz), .int (nI ev)])), (ho, .inr (6, [.ref oa, .int (nI n)])), (oa, .inl (cI, 64, .inl (aN f)))]) C (c_X8_fold l D cI cZ cH (g (b * sz + bq sz ev (b * sz) + m)) (told w sz ev g (b * sz + bq sz ev (b * sz) + m) way) (tpW w) (by omega) (by omega) (by omega)) gX2_fill_X8_fold_n61 14 rfl 50 33 rfl rfl dX2_fill_121 rfl yd_X8_fold.2 (Nat.le_of_ble_eq_true rfl) (Nat.le_of_ble_eq_true rfl) rfl _ rfl (Nat.le_of_ble_eq_true rfl) (Nat.zero_le _) (Nat.zero_le _) [] [0, 1, 2, 3, 4] rfl rfl rfl rfl rfl (by decide) [0, 1, 2, 3, 4] [(q, .inr (2, [.ref fa, .int (nI m), .int (nI way), .int (nI w), .int (nI (bq sz ev (b * sz))), .int (nI (g (b * sz)))])), (fa, .inl (cI, 8, .inl (aN (upT (Fs w sz ev g way (b * sz + bq sz ev (b * sz))) ff m)))), (hr, .inr (7, [.int (nI w), .int (nI sz), .int (nI ev)])), (ho, .inr (6, [.ref oa, .int (nI n)])), (oa, .inl (cI, 64, .inl (aN f)))] rfl rfl rfl 124 rfl ?_
        refine j_iast C dX2_fill_124 1 rfl (by omega) (Nat.le_of_ble_eq_true rfl) [(q, .inr (2, [.ref fa, .int (nI m), .int (nI way), .int (nI w), .int (nI (bq sz ev (b * sz))), .int (nI (g (b * sz)))])), (fa, .inl (cI, 8, .inl (aN (va_up (upT (Fs w sz ev g way (b * sz + bq sz ev (b * sz))) ff m) m (foldN (g (b * sz + bq sz ev (b * sz) + m)) (told w sz ev g (b * sz + bq sz ev (b * sz) + m) way) (tpW w)))))), (hr, .inr (7, [.int (nI w), .int (nI sz), .int (nI ev)])), (ho, .inr (6, [.ref oa, .int (nI n)])), (oa, .inl (cI, 64, .inl (aN f)))] rfl 125 rfl ?_
        refine j_aload_n C dX2_fill_125 3 rfl 126 rfl ?_
        refine j_dup C dX2_fill_126 rfl 127 rfl ?_
        refine j_get C dX2_fill_127 0 1 8 inX2_fill_2 rfl rfl (by decide) rfl rfl rfl 130 rfl ?_
        refine j_iconst C dX2_fill_130 (nI 1) (by decide) 131 rfl ?_
        refine j_iadd C dX2_fill_131 (nI (m + 1)) (nI_add m 1) 132 rfl ?_
        refine j_put C dX2_fill_132 0 1 8 inX2_fill_2 tyX2 tyX2_ok nmX2 rfl rfl (by decide) rfl rfl rfl rfl rfl (Nat.le_of_ble_eq_true rfl) [(q, .inr (2, [.ref fa, .int (nI (m + 1)), .int (nI way), .int (nI w), .int (nI (bq sz ev (b * sz))), .int (nI (g (b * sz)))])), (fa, .inl (cI, 8, .inl (aN (va_up (upT (Fs w sz ev g way (b * sz + bq sz ev (b * sz))) ff m) m (foldN (g (b * sz + bq sz ev (b * sz) + m)) (told w sz ev g (b * sz + bq sz ev (b * sz) + m) way) (tpW w)))))), (hr, .inr (7, [.int (nI w), .int (nI sz), .int (nI ev)])), (ho, .inr (6, [.ref oa, .int (nI n)])), (oa, .inl (cI, 64, .inl (aN f)))] rfl 135 rfl ?_
        refine j_iinc C dX2_fill_135 0 rfl (nI (b * sz + bq sz ev (b * sz) + m + 1)) (nI_1 (b * sz + bq sz ev (b * sz) + m)) [(7, .int (nI (b * sz + bq sz ev (b * sz) + m + 1))), (6, .int (nI (min n ((b + 1) * sz)))), (5, .int (nI (b * sz))), (0, .ref q), (1, .ref hr), (2, .ref ho), (3, .int (nI b)), (4, .int (nI way))] (by decide) rfl 138 rfl ?_
        refine j_goto C dX2_fill_138 76 (by decide) ?_
        refine j_world [(q, .inr (2, [.ref fa, .int (nI (m + 1)), .int (nI way), .int (nI w), .int (nI (bq sz ev (b * sz))), .int (nI (g (b * sz)))])), (fa, .inl (cI, 8, .inl (aN (upT (Fs w sz ev g way (b * sz + bq sz ev (b * sz))) ff (m + 1))))), (hr, .inr (7, [.int (nI w), .int (nI sz), .int (nI ev)])), (ho, .inr (6, [.ref oa, .int (nI n)])), (oa, .inl (cI, 64, .inl (aN f)))] (by rw [← upT_s]; rfl) ?_
        refine j_lveq [(7, .int (nI (b * sz + bq sz ev (b * sz) + (m + 1)))), (6, .int (nI (min n ((b + 1) * sz)))), (5, .int (nI (b * sz))), (0, .ref q), (1, .ref hr), (2, .ref ho), (3, .int (nI b)), (4, .int (nI way))] rfl ?_
        exact ih76 (m + 1) (by omega) (by omega)
set_option maxHeartbeats 4000000 in
set_option maxRecDepth 100000 in
theorem c_X2_isAllNothing (l : Launch) (D : va_G) (cI cZ cH : ClassId) (q fa fl fw wd hb ba : Nat) (ff : Nat → Nat) (hfl : fl ≤ 8) (hhb : hb ≤ 1) (hwd : 2 ≤ wd ∧ wd ≤ 8) (hff : ∀ j, j < fl → ff j ≤ 255) : Mi l D cI cZ cH yX2_isAllNothing wsX2_isAllNothing 0 0 [.ref q] [(q, .inr (2, [.ref fa, .int (nI fl), .int (nI fw), .int (nI wd), .int (nI hb), .int (nI ba)])), (fa, .inl (cI, 8, .inl (aN ff)))] (fun (r9 : Int32) (_ : Unit) => r9 = (if sumR ff fl = 0 then 1 else 0)) (fun (_ : Unit) => [(q, .inr (2, [.ref fa, .int (nI fl), .int (nI fw), .int (nI wd), .int (nI hb), .int (nI ba)])), (fa, .inl (cI, 8, .inl (aN ff)))]) := by
  refine Mi.start (cc := cX2_isAllNothing) (nL := 2) (ret := (some .boolean)) (lv0 := [(0, .ref q)]) (by decide) rfl (Nat.le_of_ble_eq_true rfl) rfl ?_
  intro pX eX sX mX bX methX cX AX C
  refine j_iconst C dX2_isAllNothing_0 (nI 0) (by decide) 1 rfl ?_
  refine j_istore_n C dX2_isAllNothing_1 [(1, .int (nI 0)), (0, .ref q)] (by decide) rfl 2 rfl ?_
  refine j_loop1 (fun (i : Nat) => i ≤ fl ∧ sumR ff i = 0) (fun (i : Nat) => fl - i) (fun (i : Nat) => [(q, .inr (2, [.ref fa, .int (nI fl), .int (nI fw), .int (nI wd), .int (nI hb), .int (nI ba)])), (fa, .inl (cI, 8, .inl (aN ff)))]) (fun (i : Nat) => [(1, .int (nI i)), (0, .ref q)]) ?_ 0 ⟨by omega, rfl⟩ rfl rfl
  intro i hI2 ih2
  obtain ⟨hi, hz⟩ := hI2
  show J D AX pX l eX _ sX mX _ bX methX cX 0 0 _ 2 [(q, .inr (2, [.ref fa, .int (nI fl), .int (nI fw), .int (nI wd), .int (nI hb), .int (nI ba)])), (fa, .inl (cI, 8, .inl (aN ff)))] [(1, .int (nI i)), (0, .ref q)] 2 []
  refine j_iload_n C dX2_isAllNothing_2 0 rfl 3 rfl ?_
  refine j_aload_n C dX2_isAllNothing_3 1 rfl 4 rfl ?_
  refine j_get C dX2_isAllNothing_4 0 1 1 inX2_isAllNothing_2 rfl rfl (by decide) rfl rfl rfl 7 rfl ?_
  refine j_icmp_ge C dX2_isAllNothing_7 27 (by decide) (q_t (by omega)) (q_t (by omega)) 10 rfl (fun h7 => ?_) (fun h7 => ?_)
  · refine j_iconst C dX2_isAllNothing_27 (nI 1) (by decide) 28 rfl ?_
    exact j_zret C dX2_isAllNothing_28 rfl () (show (nI 1 : Int32) = (if sumR ff fl = 0 then 1 else 0) from by rw [if_pos (by rw [← hz]; congr 1; omega)]; rfl) rfl
  · refine j_aload_n C dX2_isAllNothing_10 1 rfl 11 rfl ?_
    refine j_get C dX2_isAllNothing_11 0 0 2 inX2_isAllNothing_2 rfl rfl (by decide) rfl rfl rfl 14 rfl ?_
    refine j_iload_n C dX2_isAllNothing_14 0 rfl 15 rfl ?_
    refine j_iald C dX2_isAllNothing_15 1 rfl (by omega) (Nat.le_of_ble_eq_true rfl) 16 rfl ?_
    have hfi := hff i (by omega)
    refine j_if_eq C dX2_isAllNothing_16 21 (by decide) (q_t (by omega)) 19 rfl (fun h16 => ?_) (fun h16 => ?_)
    · refine j_iinc C dX2_isAllNothing_21 0 rfl (nI (i + 1)) (nI_1 (i)) [(1, .int (nI (i + 1))), (0, .ref q)] (by decide) rfl 24 rfl ?_
      refine j_goto C dX2_isAllNothing_24 2 (by decide) ?_
      exact ih2 (i + 1) ⟨by omega, by simp only [sumR]; omega⟩ (by omega)
    · refine j_iconst C dX2_isAllNothing_19 (nI 0) (by decide) 20 rfl ?_
      exact j_zret C dX2_isAllNothing_20 rfl () (show (nI 0 : Int32) = (if sumR ff fl = 0 then 1 else 0) from by rw [if_neg (by have h8 := sumR_ge ff (show i < fl by omega); omega)]; rfl) rfl
set_option maxHeartbeats 4000000 in
set_option maxRecDepth 100000 in
theorem c_X2_costBy (l : Launch) (D : va_G) (cI cZ cH : ClassId) (q fa fl fw wd hb ba : Nat) (ff : Nat → Nat) (code : Nat) (hfl : fl ≤ 8) (hhb : hb ≤ 1) (hwd : 2 ≤ wd ∧ wd ≤ 8) (hff : ∀ j, j < fl → ff j ≤ 255) (hc : code ≤ 8) : Mi l D cI cZ cH yX2_costBy wsX2_costBy 1 21 [.ref q, .int (nI code)] [(q, .inr (2, [.ref fa, .int (nI fl), .int (nI fw), .int (nI wd), .int (nI hb), .int (nI ba)])), (fa, .inl (cI, 8, .inl (aN ff)))] (fun (r9 : Int32) (_ : Unit) => r9 = oI (cF wd hb fl ff code)) (fun (_ : Unit) => [(q, .inr (2, [.ref fa, .int (nI fl), .int (nI fw), .int (nI wd), .int (nI hb), .int (nI ba)])), (fa, .inl (cI, 8, .inl (aN ff)))]) := by
  refine Mi.start (cc := cX2_costBy) (nL := 5) (ret := (some .int)) (lv0 := [(0, .ref q), (1, .int (nI code))]) (by decide) rfl (Nat.le_of_ble_eq_true rfl) rfl ?_
  intro pX eX sX mX bX methX cX AX C
  have hbw := mulB hhb hwd.2
  refine j_iload_n C dX2_costBy_0 1 rfl 1 rfl ?_
  refine j_aload_n C dX2_costBy_1 0 rfl 2 rfl ?_
  refine j_get C dX2_costBy_2 0 3 1 inX2_costBy_2 rfl rfl (by decide) rfl rfl rfl 5 rfl ?_
  refine j_callNi1 (As := [.int (nI code), .int (nI wd)]) (rest := []) (wr := [(q, .inr (2, [.ref fa, .int (nI fl), .int (nI fw), .int (nI wd), .int (nI hb), .int (nI ba)])), (fa, .inl (cI, 8, .inl (aN ff)))]) C (c_X8_isCode l D cI cZ cH code wd (by omega) (by omega)) gX2_costBy_X8_isCode_n65 15 rfl 5 6 rfl rfl dX2_costBy_5 rfl yd_X8_isCode.2 (Nat.le_of_ble_eq_true rfl) (Nat.le_of_ble_eq_true rfl) rfl _ rfl (Nat.le_of_ble_eq_true rfl) (Nat.zero_le _) (Nat.zero_le _) [] [0, 1] rfl rfl rfl rfl rfl (by decide) [0, 1] [(q, .inr (2, [.ref fa, .int (nI fl), .int (nI fw), .int (nI wd), .int (nI hb), .int (nI ba)])), (fa, .inl (cI, 8, .inl (aN ff)))] rfl rfl rfl 8 rfl ?_
  refine j_ifb_eq C dX2_costBy_8 22 (by decide) 11 rfl (fun h8 => ?_) (fun h8 => ?_)
  · refine j_bipush C dX2_costBy_22 (-6) (by decide) 24 rfl ?_
    exact j_iret C dX2_costBy_24 () (show (-6 : Int32) = oI (cF wd hb fl ff code) from by first | (rw [cF_none h8]; rfl) | (rw [cF_none0 (by omega) h19]; rfl)) rfl
  · refine j_iload_n C dX2_costBy_11 1 rfl 12 rfl ?_
    refine j_if_ne C dX2_costBy_12 25 (by decide) (q_t (by omega)) 15 rfl (fun h12 => ?_) (fun h12 => ?_)
    · refine j_bipush C dX2_costBy_25 (nI 6) (by decide) 27 rfl ?_
      refine j_aload_n C dX2_costBy_27 0 rfl 28 rfl ?_
      refine j_get C dX2_costBy_28 0 4 2 inX2_costBy_2 rfl rfl (by decide) rfl rfl rfl 31 rfl ?_
      refine j_if_eq C dX2_costBy_31 41 (by decide) (q_t (by omega)) 34 rfl (fun h31 => ?_) (fun h31 => ?_)
      · refine j_iconst C dX2_costBy_41 (nI 0) (by decide) 42 rfl ?_
        refine j_iadd C dX2_costBy_42 (nI (6 + 0)) (nI_add 6 0) 43 rfl ?_
        refine j_top (nI (6 + hb * wd)) (by rcases (show hb = 0 ∨ hb = 1 by omega) with rfl | rfl <;> first | (congr 1; omega) | (exfalso; omega)) ?_
        refine j_istore_n C dX2_costBy_43 [(2, .int (nI (6 + hb * wd))), (0, .ref q), (1, .int (nI code))] (by decide) rfl 44 rfl ?_
        refine j_iload_n C dX2_costBy_44 2 rfl 45 rfl ?_
        refine j_if_ne C dX2_costBy_45 50 (by decide) (q_t (by omega)) 48 rfl (fun h45 => ?_) (fun h45 => ?_)
        · refine j_iload_n C dX2_costBy_50 2 rfl 51 rfl ?_
          refine j_bipush C dX2_costBy_51 (nI 8) (by decide) 53 rfl ?_
          refine j_icmp_ne C dX2_costBy_53 68 (by decide) (q_t (by omega)) (q_t (n := 8) (Nat.le_of_ble_eq_true rfl)) 56 rfl (fun h53 => ?_) (fun h53 => ?_)
          · have hc8 : ¬ code = 8 := by omega
            have hc0 : ¬ code = 0 := by omega
            refine j_iload_n C dX2_costBy_68 2 rfl 69 rfl ?_
            refine j_iconst C dX2_costBy_69 (nI 1) (by decide) 70 rfl ?_
            refine j_isub C dX2_costBy_70 (nI (code - 1)) (pk_sub (by omega)) 71 rfl ?_
            refine j_istore_n C dX2_costBy_71 [(3, .int (nI (code - 1))), (2, .int (nI (6 + hb * wd))), (0, .ref q), (1, .int (nI code))] (by decide) rfl 72 rfl ?_
            refine j_iconst C dX2_costBy_72 (nI 0) (by decide) 73 rfl ?_
            refine j_istore C dX2_costBy_73 [(4, .int (nI 0)), (3, .int (nI (code - 1))), (2, .int (nI (6 + hb * wd))), (0, .ref q), (1, .int (nI code))] (by decide) rfl 75 rfl ?_
            refine j_loop2 (fun (m : Nat) (acc : Nat) => m ≤ fl ∧ acc = 6 + hb * wd + sumR (fun j => fbC wd code (ff j)) m) (fun (m : Nat) (acc : Nat) => fl - m) (fun (m : Nat) (acc : Nat) => [(q, .inr (2, [.ref fa, .int (nI fl), .int (nI fw), .int (nI wd), .int (nI hb), .int (nI ba)])), (fa, .inl (cI, 8, .inl (aN ff)))]) (fun (m : Nat) (acc : Nat) => [(4, .int (nI m)), (3, .int (nI (code - 1))), (2, .int (nI acc)), (0, .ref q), (1, .int (nI code))]) ?_ 0 (6 + hb * wd) ⟨by omega, by simp only [sumR]; omega⟩ rfl rfl
            intro m acc hI75 ih75
            obtain ⟨hm, hacc⟩ := hI75
            show J D AX pX l eX _ sX mX _ bX methX cX 0 0 _ 5 [(q, .inr (2, [.ref fa, .int (nI fl), .int (nI fw), .int (nI wd), .int (nI hb), .int (nI ba)])), (fa, .inl (cI, 8, .inl (aN ff)))] [(4, .int (nI m)), (3, .int (nI (code - 1))), (2, .int (nI acc)), (0, .ref q), (1, .int (nI code))] 75 []
            refine j_iload C dX2_costBy_75 0 rfl 77 rfl ?_
            refine j_aload_n C dX2_costBy_77 3 rfl 78 rfl ?_
            refine j_get C dX2_costBy_78 0 1 3 inX2_costBy_2 rfl rfl (by decide) rfl rfl rfl 81 rfl ?_
            refine j_icmp_ge C dX2_costBy_81 106 (by decide) (q_t (by omega)) (q_t (by omega)) 84 rfl (fun h81 => ?_) (fun h81 => ?_)
            · refine j_iload_n C dX2_costBy_106 2 rfl 107 rfl ?_
              exact j_iret C dX2_costBy_107 () (show (nI acc : Int32) = oI (cF wd hb fl ff code) from by rw [cF_some h8 (fun h9 => absurd h9 hc0), hacc]; simp only [oI]; congr 3; omega) rfl
            · refine j_iload_n C dX2_costBy_84 2 rfl 85 rfl ?_
              refine j_aload_n C dX2_costBy_85 3 rfl 86 rfl ?_
              refine j_get C dX2_costBy_86 0 0 4 inX2_costBy_2 rfl rfl (by decide) rfl rfl rfl 89 rfl ?_
              refine j_iload C dX2_costBy_89 0 rfl 91 rfl ?_
              refine j_iald C dX2_costBy_91 1 rfl (by omega) (Nat.le_of_ble_eq_true rfl) 92 rfl ?_
              have hfm := hff m (by omega)
              refine j_iload_n C dX2_costBy_92 1 rfl 93 rfl ?_
              refine j_ishr C dX2_costBy_93 (nI ((ff m) / 2 ^ (code - 1))) (q_shr (by omega) (by omega)) 94 rfl ?_
              have hshr93 := Nat.div_le_self (ff m) (2 ^ (code - 1))
              refine j_iconst C dX2_costBy_94 (nI 1) (by decide) 95 rfl ?_
              refine j_iadd C dX2_costBy_95 (nI ((ff m) / 2 ^ (code - 1) + 1)) (nI_add ((ff m) / 2 ^ (code - 1)) 1) 96 rfl ?_
              refine j_iload_n C dX2_costBy_96 1 rfl 97 rfl ?_
              refine j_iadd C dX2_costBy_97 (nI ((ff m) / 2 ^ (code - 1) + 1 + (code - 1))) (nI_add ((ff m) / 2 ^ (code - 1) + 1) (code - 1)) 98 rfl ?_
              refine j_iadd C dX2_costBy_98 (nI (acc + ((ff m) / 2 ^ (code - 1) + 1 + (code - 1)))) (nI_add acc ((ff m) / 2 ^ (code - 1) + 1 + (code - 1))) 99 rfl ?_
              refine j_istore_n C dX2_costBy_99 [(2, .int (nI (acc + ((ff m) / 2 ^ (code - 1) + 1 + (code - 1))))), (4, .int (nI m)), (3, .int (nI (code - 1))), (0, .ref q), (1, .int (nI code))] (by decide) rfl 100 rfl ?_
              refine j_iinc C dX2_costBy_100 1 rfl (nI (m + 1)) (nI_1 (m)) [(4, .int (nI (m + 1))), (2, .int (nI (acc + ((ff m) / 2 ^ (code - 1) + 1 + (code - 1))))), (3, .int (nI (code - 1))), (0, .ref q), (1, .int (nI code))] (by decide) rfl 103 rfl ?_
              refine j_goto C dX2_costBy_103 75 (by decide) ?_
              refine j_lsub [(4, .int (nI (m + 1))), (3, .int (nI (code - 1))), (2, .int (nI (acc + ((ff m) / 2 ^ (code - 1) + 1 + (code - 1))))), (0, .ref q), (1, .int (nI code))] [0, 2, 1, 3, 4] rfl ?_
              exact ih75 (m + 1) (acc + ((ff m) / 2 ^ (code - 1) + 1 + (code - 1))) ⟨by omega, by rw [hacc]; simp only [sumR, fbC, if_neg hc0, if_neg hc8]; omega⟩ (by omega)
          · refine j_iload_n C dX2_costBy_56 0 rfl 57 rfl ?_
            refine j_aload_n C dX2_costBy_57 1 rfl 58 rfl ?_
            refine j_get C dX2_costBy_58 0 1 3 inX2_costBy_2 rfl rfl (by decide) rfl rfl rfl 61 rfl ?_
            refine j_aload_n C dX2_costBy_61 1 rfl 62 rfl ?_
            refine j_get C dX2_costBy_62 0 3 1 inX2_costBy_2 rfl rfl (by decide) rfl rfl rfl 65 rfl ?_
            refine j_imul C dX2_costBy_65 (nI (fl * wd)) (pk_mul fl wd) 66 rfl ?_
            refine j_iadd C dX2_costBy_66 (nI (6 + hb * wd + (fl * wd))) (nI_add (6 + hb * wd) (fl * wd)) 67 rfl ?_
            exact j_iret C dX2_costBy_67 () (show (nI (6 + hb * wd + (fl * wd)) : Int32) = oI (cF wd hb fl ff code) from by have hc8 : code = 8 := (by omega); subst hc8; rw [cF_some h8 (fun h9 => by omega), sumR_fb8]; rfl) rfl
        · refine j_iload_n C dX2_costBy_48 0 rfl 49 rfl ?_
          exact j_iret C dX2_costBy_49 () (show (nI (6 + hb * wd) : Int32) = oI (cF wd hb fl ff code) from by have hc0 : code = 0 := (by omega); subst hc0; rw [cF_some h8 (fun _ => by first | assumption | (exfalso; omega)), sumR_fb0]; rfl) rfl
      · refine j_aload_n C dX2_costBy_34 0 rfl 35 rfl ?_
        refine j_get C dX2_costBy_35 0 3 1 inX2_costBy_2 rfl rfl (by decide) rfl rfl rfl 38 rfl ?_
        refine j_goto C dX2_costBy_38 42 (by decide) ?_
        refine j_iadd C dX2_costBy_42 (nI (6 + wd)) (nI_add 6 wd) 43 rfl ?_
        refine j_top (nI (6 + hb * wd)) (by rcases (show hb = 0 ∨ hb = 1 by omega) with rfl | rfl <;> first | (congr 1; omega) | (exfalso; omega)) ?_
        refine j_istore_n C dX2_costBy_43 [(2, .int (nI (6 + hb * wd))), (0, .ref q), (1, .int (nI code))] (by decide) rfl 44 rfl ?_
        refine j_iload_n C dX2_costBy_44 2 rfl 45 rfl ?_
        refine j_if_ne C dX2_costBy_45 50 (by decide) (q_t (by omega)) 48 rfl (fun h45 => ?_) (fun h45 => ?_)
        · refine j_iload_n C dX2_costBy_50 2 rfl 51 rfl ?_
          refine j_bipush C dX2_costBy_51 (nI 8) (by decide) 53 rfl ?_
          refine j_icmp_ne C dX2_costBy_53 68 (by decide) (q_t (by omega)) (q_t (n := 8) (Nat.le_of_ble_eq_true rfl)) 56 rfl (fun h53 => ?_) (fun h53 => ?_)
          · have hc8 : ¬ code = 8 := by omega
            have hc0 : ¬ code = 0 := by omega
            refine j_iload_n C dX2_costBy_68 2 rfl 69 rfl ?_
            refine j_iconst C dX2_costBy_69 (nI 1) (by decide) 70 rfl ?_
            refine j_isub C dX2_costBy_70 (nI (code - 1)) (pk_sub (by omega)) 71 rfl ?_
            refine j_istore_n C dX2_costBy_71 [(3, .int (nI (code - 1))), (2, .int (nI (6 + hb * wd))), (0, .ref q), (1, .int (nI code))] (by decide) rfl 72 rfl ?_
            refine j_iconst C dX2_costBy_72 (nI 0) (by decide) 73 rfl ?_
            refine j_istore C dX2_costBy_73 [(4, .int (nI 0)), (3, .int (nI (code - 1))), (2, .int (nI (6 + hb * wd))), (0, .ref q), (1, .int (nI code))] (by decide) rfl 75 rfl ?_
            refine j_loop2 (fun (m : Nat) (acc : Nat) => m ≤ fl ∧ acc = 6 + hb * wd + sumR (fun j => fbC wd code (ff j)) m) (fun (m : Nat) (acc : Nat) => fl - m) (fun (m : Nat) (acc : Nat) => [(q, .inr (2, [.ref fa, .int (nI fl), .int (nI fw), .int (nI wd), .int (nI hb), .int (nI ba)])), (fa, .inl (cI, 8, .inl (aN ff)))]) (fun (m : Nat) (acc : Nat) => [(4, .int (nI m)), (3, .int (nI (code - 1))), (2, .int (nI acc)), (0, .ref q), (1, .int (nI code))]) ?_ 0 (6 + hb * wd) ⟨by omega, by simp only [sumR]; omega⟩ rfl rfl
            intro m acc hI75 ih75
            obtain ⟨hm, hacc⟩ := hI75
            show J D AX pX l eX _ sX mX _ bX methX cX 0 0 _ 5 [(q, .inr (2, [.ref fa, .int (nI fl), .int (nI fw), .int (nI wd), .int (nI hb), .int (nI ba)])), (fa, .inl (cI, 8, .inl (aN ff)))] [(4, .int (nI m)), (3, .int (nI (code - 1))), (2, .int (nI acc)), (0, .ref q), (1, .int (nI code))] 75 []
            refine j_iload C dX2_costBy_75 0 rfl 77 rfl ?_
            refine j_aload_n C dX2_costBy_77 3 rfl 78 rfl ?_
            refine j_get C dX2_costBy_78 0 1 3 inX2_costBy_2 rfl rfl (by decide) rfl rfl rfl 81 rfl ?_
            refine j_icmp_ge C dX2_costBy_81 106 (by decide) (q_t (by omega)) (q_t (by omega)) 84 rfl (fun h81 => ?_) (fun h81 => ?_)
            · refine j_iload_n C dX2_costBy_106 2 rfl 107 rfl ?_
              exact j_iret C dX2_costBy_107 () (show (nI acc : Int32) = oI (cF wd hb fl ff code) from by rw [cF_some h8 (fun h9 => absurd h9 hc0), hacc]; simp only [oI]; congr 3; omega) rfl
            · refine j_iload_n C dX2_costBy_84 2 rfl 85 rfl ?_
              refine j_aload_n C dX2_costBy_85 3 rfl 86 rfl ?_
              refine j_get C dX2_costBy_86 0 0 4 inX2_costBy_2 rfl rfl (by decide) rfl rfl rfl 89 rfl ?_
              refine j_iload C dX2_costBy_89 0 rfl 91 rfl ?_
              refine j_iald C dX2_costBy_91 1 rfl (by omega) (Nat.le_of_ble_eq_true rfl) 92 rfl ?_
              have hfm := hff m (by omega)
              refine j_iload_n C dX2_costBy_92 1 rfl 93 rfl ?_
              refine j_ishr C dX2_costBy_93 (nI ((ff m) / 2 ^ (code - 1))) (q_shr (by omega) (by omega)) 94 rfl ?_
              have hshr93 := Nat.div_le_self (ff m) (2 ^ (code - 1))
              refine j_iconst C dX2_costBy_94 (nI 1) (by decide) 95 rfl ?_
              refine j_iadd C dX2_costBy_95 (nI ((ff m) / 2 ^ (code - 1) + 1)) (nI_add ((ff m) / 2 ^ (code - 1)) 1) 96 rfl ?_
              refine j_iload_n C dX2_costBy_96 1 rfl 97 rfl ?_
              refine j_iadd C dX2_costBy_97 (nI ((ff m) / 2 ^ (code - 1) + 1 + (code - 1))) (nI_add ((ff m) / 2 ^ (code - 1) + 1) (code - 1)) 98 rfl ?_
              refine j_iadd C dX2_costBy_98 (nI (acc + ((ff m) / 2 ^ (code - 1) + 1 + (code - 1)))) (nI_add acc ((ff m) / 2 ^ (code - 1) + 1 + (code - 1))) 99 rfl ?_
              refine j_istore_n C dX2_costBy_99 [(2, .int (nI (acc + ((ff m) / 2 ^ (code - 1) + 1 + (code - 1))))), (4, .int (nI m)), (3, .int (nI (code - 1))), (0, .ref q), (1, .int (nI code))] (by decide) rfl 100 rfl ?_
              refine j_iinc C dX2_costBy_100 1 rfl (nI (m + 1)) (nI_1 (m)) [(4, .int (nI (m + 1))), (2, .int (nI (acc + ((ff m) / 2 ^ (code - 1) + 1 + (code - 1))))), (3, .int (nI (code - 1))), (0, .ref q), (1, .int (nI code))] (by decide) rfl 103 rfl ?_
              refine j_goto C dX2_costBy_103 75 (by decide) ?_
              refine j_lsub [(4, .int (nI (m + 1))), (3, .int (nI (code - 1))), (2, .int (nI (acc + ((ff m) / 2 ^ (code - 1) + 1 + (code - 1))))), (0, .ref q), (1, .int (nI code))] [0, 2, 1, 3, 4] rfl ?_
              exact ih75 (m + 1) (acc + ((ff m) / 2 ^ (code - 1) + 1 + (code - 1))) ⟨by omega, by rw [hacc]; simp only [sumR, fbC, if_neg hc0, if_neg hc8]; omega⟩ (by omega)
          · refine j_iload_n C dX2_costBy_56 0 rfl 57 rfl ?_
            refine j_aload_n C dX2_costBy_57 1 rfl 58 rfl ?_
            refine j_get C dX2_costBy_58 0 1 3 inX2_costBy_2 rfl rfl (by decide) rfl rfl rfl 61 rfl ?_
            refine j_aload_n C dX2_costBy_61 1 rfl 62 rfl ?_
            refine j_get C dX2_costBy_62 0 3 1 inX2_costBy_2 rfl rfl (by decide) rfl rfl rfl 65 rfl ?_
            refine j_imul C dX2_costBy_65 (nI (fl * wd)) (pk_mul fl wd) 66 rfl ?_
            refine j_iadd C dX2_costBy_66 (nI (6 + hb * wd + (fl * wd))) (nI_add (6 + hb * wd) (fl * wd)) 67 rfl ?_
            exact j_iret C dX2_costBy_67 () (show (nI (6 + hb * wd + (fl * wd)) : Int32) = oI (cF wd hb fl ff code) from by have hc8 : code = 8 := (by omega); subst hc8; rw [cF_some h8 (fun h9 => by omega), sumR_fb8]; rfl) rfl
        · refine j_iload_n C dX2_costBy_48 0 rfl 49 rfl ?_
          exact j_iret C dX2_costBy_49 () (show (nI (6 + hb * wd) : Int32) = oI (cF wd hb fl ff code) from by have hc0 : code = 0 := (by omega); subst hc0; rw [cF_some h8 (fun _ => by first | assumption | (exfalso; omega)), sumR_fb0]; rfl) rfl
    · refine j_aload_n C dX2_costBy_15 0 rfl 16 rfl ?_
      refine j_callVi1 (As := []) (rest := []) (wr := []) C (c_X2_isAllNothing l D cI cZ cH q fa fl fw wd hb ba ff (by omega) (by omega) hwd hff) gX2_costBy_X2_isAllNothing dX2_costBy_16 rfl yd_X2_isAllNothing (Nat.le_of_ble_eq_true rfl) (Nat.le_of_ble_eq_true rfl) rfl rfl rfl _ rfl (Nat.le_of_ble_eq_true rfl) (Nat.zero_le _) (Nat.zero_le _) [0, 1] [] rfl rfl rfl rfl rfl (by decide) [0, 1] [(q, .inr (2, [.ref fa, .int (nI fl), .int (nI fw), .int (nI wd), .int (nI hb), .int (nI ba)])), (fa, .inl (cI, 8, .inl (aN ff)))] rfl rfl rfl 19 rfl ?_
      refine j_ifb_ne C dX2_costBy_19 25 (by decide) 22 rfl (fun h19 => ?_) (fun h19 => ?_)
      · refine j_bipush C dX2_costBy_25 (nI 6) (by decide) 27 rfl ?_
        refine j_aload_n C dX2_costBy_27 0 rfl 28 rfl ?_
        refine j_get C dX2_costBy_28 0 4 2 inX2_costBy_2 rfl rfl (by decide) rfl rfl rfl 31 rfl ?_
        refine j_if_eq C dX2_costBy_31 41 (by decide) (q_t (by omega)) 34 rfl (fun h31 => ?_) (fun h31 => ?_)
        · refine j_iconst C dX2_costBy_41 (nI 0) (by decide) 42 rfl ?_
          refine j_iadd C dX2_costBy_42 (nI (6 + 0)) (nI_add 6 0) 43 rfl ?_
          refine j_top (nI (6 + hb * wd)) (by rcases (show hb = 0 ∨ hb = 1 by omega) with rfl | rfl <;> first | (congr 1; omega) | (exfalso; omega)) ?_
          refine j_istore_n C dX2_costBy_43 [(2, .int (nI (6 + hb * wd))), (0, .ref q), (1, .int (nI code))] (by decide) rfl 44 rfl ?_
          refine j_iload_n C dX2_costBy_44 2 rfl 45 rfl ?_
          refine j_if_ne C dX2_costBy_45 50 (by decide) (q_t (by omega)) 48 rfl (fun h45 => ?_) (fun h45 => ?_)
          · refine j_iload_n C dX2_costBy_50 2 rfl 51 rfl ?_
            refine j_bipush C dX2_costBy_51 (nI 8) (by decide) 53 rfl ?_
            refine j_icmp_ne C dX2_costBy_53 68 (by decide) (q_t (by omega)) (q_t (n := 8) (Nat.le_of_ble_eq_true rfl)) 56 rfl (fun h53 => ?_) (fun h53 => ?_)
            · have hc8 : ¬ code = 8 := by omega
              have hc0 : ¬ code = 0 := by omega
              refine j_iload_n C dX2_costBy_68 2 rfl 69 rfl ?_
              refine j_iconst C dX2_costBy_69 (nI 1) (by decide) 70 rfl ?_
              refine j_isub C dX2_costBy_70 (nI (code - 1)) (pk_sub (by omega)) 71 rfl ?_
              refine j_istore_n C dX2_costBy_71 [(3, .int (nI (code - 1))), (2, .int (nI (6 + hb * wd))), (0, .ref q), (1, .int (nI code))] (by decide) rfl 72 rfl ?_
              refine j_iconst C dX2_costBy_72 (nI 0) (by decide) 73 rfl ?_
              refine j_istore C dX2_costBy_73 [(4, .int (nI 0)), (3, .int (nI (code - 1))), (2, .int (nI (6 + hb * wd))), (0, .ref q), (1, .int (nI code))] (by decide) rfl 75 rfl ?_
              refine j_loop2 (fun (m : Nat) (acc : Nat) => m ≤ fl ∧ acc = 6 + hb * wd + sumR (fun j => fbC wd code (ff j)) m) (fun (m : Nat) (acc : Nat) => fl - m) (fun (m : Nat) (acc : Nat) => [(q, .inr (2, [.ref fa, .int (nI fl), .int (nI fw), .int (nI wd), .int (nI hb), .int (nI ba)])), (fa, .inl (cI, 8, .inl (aN ff)))]) (fun (m : Nat) (acc : Nat) => [(4, .int (nI m)), (3, .int (nI (code - 1))), (2, .int (nI acc)), (0, .ref q), (1, .int (nI code))]) ?_ 0 (6 + hb * wd) ⟨by omega, by simp only [sumR]; omega⟩ rfl rfl
              intro m acc hI75 ih75
              obtain ⟨hm, hacc⟩ := hI75
              show J D AX pX l eX _ sX mX _ bX methX cX 0 0 _ 5 [(q, .inr (2, [.ref fa, .int (nI fl), .int (nI fw), .int (nI wd), .int (nI hb), .int (nI ba)])), (fa, .inl (cI, 8, .inl (aN ff)))] [(4, .int (nI m)), (3, .int (nI (code - 1))), (2, .int (nI acc)), (0, .ref q), (1, .int (nI code))] 75 []
              refine j_iload C dX2_costBy_75 0 rfl 77 rfl ?_
              refine j_aload_n C dX2_costBy_77 3 rfl 78 rfl ?_
              refine j_get C dX2_costBy_78 0 1 3 inX2_costBy_2 rfl rfl (by decide) rfl rfl rfl 81 rfl ?_
              refine j_icmp_ge C dX2_costBy_81 106 (by decide) (q_t (by omega)) (q_t (by omega)) 84 rfl (fun h81 => ?_) (fun h81 => ?_)
              · refine j_iload_n C dX2_costBy_106 2 rfl 107 rfl ?_
                exact j_iret C dX2_costBy_107 () (show (nI acc : Int32) = oI (cF wd hb fl ff code) from by rw [cF_some h8 (fun h9 => absurd h9 hc0), hacc]; simp only [oI]; congr 3; omega) rfl
              · refine j_iload_n C dX2_costBy_84 2 rfl 85 rfl ?_
                refine j_aload_n C dX2_costBy_85 3 rfl 86 rfl ?_
                refine j_get C dX2_costBy_86 0 0 4 inX2_costBy_2 rfl rfl (by decide) rfl rfl rfl 89 rfl ?_
                refine j_iload C dX2_costBy_89 0 rfl 91 rfl ?_
                refine j_iald C dX2_costBy_91 1 rfl (by omega) (Nat.le_of_ble_eq_true rfl) 92 rfl ?_
                have hfm := hff m (by omega)
                refine j_iload_n C dX2_costBy_92 1 rfl 93 rfl ?_
                refine j_ishr C dX2_costBy_93 (nI ((ff m) / 2 ^ (code - 1))) (q_shr (by omega) (by omega)) 94 rfl ?_
                have hshr93 := Nat.div_le_self (ff m) (2 ^ (code - 1))
                refine j_iconst C dX2_costBy_94 (nI 1) (by decide) 95 rfl ?_
                refine j_iadd C dX2_costBy_95 (nI ((ff m) / 2 ^ (code - 1) + 1)) (nI_add ((ff m) / 2 ^ (code - 1)) 1) 96 rfl ?_
                refine j_iload_n C dX2_costBy_96 1 rfl 97 rfl ?_
                refine j_iadd C dX2_costBy_97 (nI ((ff m) / 2 ^ (code - 1) + 1 + (code - 1))) (nI_add ((ff m) / 2 ^ (code - 1) + 1) (code - 1)) 98 rfl ?_
                refine j_iadd C dX2_costBy_98 (nI (acc + ((ff m) / 2 ^ (code - 1) + 1 + (code - 1)))) (nI_add acc ((ff m) / 2 ^ (code - 1) + 1 + (code - 1))) 99 rfl ?_
                refine j_istore_n C dX2_costBy_99 [(2, .int (nI (acc + ((ff m) / 2 ^ (code - 1) + 1 + (code - 1))))), (4, .int (nI m)), (3, .int (nI (code - 1))), (0, .ref q), (1, .int (nI code))] (by decide) rfl 100 rfl ?_
                refine j_iinc C dX2_costBy_100 1 rfl (nI (m + 1)) (nI_1 (m)) [(4, .int (nI (m + 1))), (2, .int (nI (acc + ((ff m) / 2 ^ (code - 1) + 1 + (code - 1))))), (3, .int (nI (code - 1))), (0, .ref q), (1, .int (nI code))] (by decide) rfl 103 rfl ?_
                refine j_goto C dX2_costBy_103 75 (by decide) ?_
                refine j_lsub [(4, .int (nI (m + 1))), (3, .int (nI (code - 1))), (2, .int (nI (acc + ((ff m) / 2 ^ (code - 1) + 1 + (code - 1))))), (0, .ref q), (1, .int (nI code))] [0, 2, 1, 3, 4] rfl ?_
                exact ih75 (m + 1) (acc + ((ff m) / 2 ^ (code - 1) + 1 + (code - 1))) ⟨by omega, by rw [hacc]; simp only [sumR, fbC, if_neg hc0, if_neg hc8]; omega⟩ (by omega)
            · refine j_iload_n C dX2_costBy_56 0 rfl 57 rfl ?_
              refine j_aload_n C dX2_costBy_57 1 rfl 58 rfl ?_
              refine j_get C dX2_costBy_58 0 1 3 inX2_costBy_2 rfl rfl (by decide) rfl rfl rfl 61 rfl ?_
              refine j_aload_n C dX2_costBy_61 1 rfl 62 rfl ?_
              refine j_get C dX2_costBy_62 0 3 1 inX2_costBy_2 rfl rfl (by decide) rfl rfl rfl 65 rfl ?_
              refine j_imul C dX2_costBy_65 (nI (fl * wd)) (pk_mul fl wd) 66 rfl ?_
              refine j_iadd C dX2_costBy_66 (nI (6 + hb * wd + (fl * wd))) (nI_add (6 + hb * wd) (fl * wd)) 67 rfl ?_
              exact j_iret C dX2_costBy_67 () (show (nI (6 + hb * wd + (fl * wd)) : Int32) = oI (cF wd hb fl ff code) from by have hc8 : code = 8 := (by omega); subst hc8; rw [cF_some h8 (fun h9 => by omega), sumR_fb8]; rfl) rfl
          · refine j_iload_n C dX2_costBy_48 0 rfl 49 rfl ?_
            exact j_iret C dX2_costBy_49 () (show (nI (6 + hb * wd) : Int32) = oI (cF wd hb fl ff code) from by have hc0 : code = 0 := (by omega); subst hc0; rw [cF_some h8 (fun _ => by first | assumption | (exfalso; omega)), sumR_fb0]; rfl) rfl
        · refine j_aload_n C dX2_costBy_34 0 rfl 35 rfl ?_
          refine j_get C dX2_costBy_35 0 3 1 inX2_costBy_2 rfl rfl (by decide) rfl rfl rfl 38 rfl ?_
          refine j_goto C dX2_costBy_38 42 (by decide) ?_
          refine j_iadd C dX2_costBy_42 (nI (6 + wd)) (nI_add 6 wd) 43 rfl ?_
          refine j_top (nI (6 + hb * wd)) (by rcases (show hb = 0 ∨ hb = 1 by omega) with rfl | rfl <;> first | (congr 1; omega) | (exfalso; omega)) ?_
          refine j_istore_n C dX2_costBy_43 [(2, .int (nI (6 + hb * wd))), (0, .ref q), (1, .int (nI code))] (by decide) rfl 44 rfl ?_
          refine j_iload_n C dX2_costBy_44 2 rfl 45 rfl ?_
          refine j_if_ne C dX2_costBy_45 50 (by decide) (q_t (by omega)) 48 rfl (fun h45 => ?_) (fun h45 => ?_)
          · refine j_iload_n C dX2_costBy_50 2 rfl 51 rfl ?_
            refine j_bipush C dX2_costBy_51 (nI 8) (by decide) 53 rfl ?_
            refine j_icmp_ne C dX2_costBy_53 68 (by decide) (q_t (by omega)) (q_t (n := 8) (Nat.le_of_ble_eq_true rfl)) 56 rfl (fun h53 => ?_) (fun h53 => ?_)
            · have hc8 : ¬ code = 8 := by omega
              have hc0 : ¬ code = 0 := by omega
              refine j_iload_n C dX2_costBy_68 2 rfl 69 rfl ?_
              refine j_iconst C dX2_costBy_69 (nI 1) (by decide) 70 rfl ?_
              refine j_isub C dX2_costBy_70 (nI (code - 1)) (pk_sub (by omega)) 71 rfl ?_
              refine j_istore_n C dX2_costBy_71 [(3, .int (nI (code - 1))), (2, .int (nI (6 + hb * wd))), (0, .ref q), (1, .int (nI code))] (by decide) rfl 72 rfl ?_
              refine j_iconst C dX2_costBy_72 (nI 0) (by decide) 73 rfl ?_
              refine j_istore C dX2_costBy_73 [(4, .int (nI 0)), (3, .int (nI (code - 1))), (2, .int (nI (6 + hb * wd))), (0, .ref q), (1, .int (nI code))] (by decide) rfl 75 rfl ?_
              refine j_loop2 (fun (m : Nat) (acc : Nat) => m ≤ fl ∧ acc = 6 + hb * wd + sumR (fun j => fbC wd code (ff j)) m) (fun (m : Nat) (acc : Nat) => fl - m) (fun (m : Nat) (acc : Nat) => [(q, .inr (2, [.ref fa, .int (nI fl), .int (nI fw), .int (nI wd), .int (nI hb), .int (nI ba)])), (fa, .inl (cI, 8, .inl (aN ff)))]) (fun (m : Nat) (acc : Nat) => [(4, .int (nI m)), (3, .int (nI (code - 1))), (2, .int (nI acc)), (0, .ref q), (1, .int (nI code))]) ?_ 0 (6 + hb * wd) ⟨by omega, by simp only [sumR]; omega⟩ rfl rfl
              intro m acc hI75 ih75
              obtain ⟨hm, hacc⟩ := hI75
              show J D AX pX l eX _ sX mX _ bX methX cX 0 0 _ 5 [(q, .inr (2, [.ref fa, .int (nI fl), .int (nI fw), .int (nI wd), .int (nI hb), .int (nI ba)])), (fa, .inl (cI, 8, .inl (aN ff)))] [(4, .int (nI m)), (3, .int (nI (code - 1))), (2, .int (nI acc)), (0, .ref q), (1, .int (nI code))] 75 []
              refine j_iload C dX2_costBy_75 0 rfl 77 rfl ?_
              refine j_aload_n C dX2_costBy_77 3 rfl 78 rfl ?_
              refine j_get C dX2_costBy_78 0 1 3 inX2_costBy_2 rfl rfl (by decide) rfl rfl rfl 81 rfl ?_
              refine j_icmp_ge C dX2_costBy_81 106 (by decide) (q_t (by omega)) (q_t (by omega)) 84 rfl (fun h81 => ?_) (fun h81 => ?_)
              · refine j_iload_n C dX2_costBy_106 2 rfl 107 rfl ?_
                exact j_iret C dX2_costBy_107 () (show (nI acc : Int32) = oI (cF wd hb fl ff code) from by rw [cF_some h8 (fun h9 => absurd h9 hc0), hacc]; simp only [oI]; congr 3; omega) rfl
              · refine j_iload_n C dX2_costBy_84 2 rfl 85 rfl ?_
                refine j_aload_n C dX2_costBy_85 3 rfl 86 rfl ?_
                refine j_get C dX2_costBy_86 0 0 4 inX2_costBy_2 rfl rfl (by decide) rfl rfl rfl 89 rfl ?_
                refine j_iload C dX2_costBy_89 0 rfl 91 rfl ?_
                refine j_iald C dX2_costBy_91 1 rfl (by omega) (Nat.le_of_ble_eq_true rfl) 92 rfl ?_
                have hfm := hff m (by omega)
                refine j_iload_n C dX2_costBy_92 1 rfl 93 rfl ?_
                refine j_ishr C dX2_costBy_93 (nI ((ff m) / 2 ^ (code - 1))) (q_shr (by omega) (by omega)) 94 rfl ?_
                have hshr93 := Nat.div_le_self (ff m) (2 ^ (code - 1))
                refine j_iconst C dX2_costBy_94 (nI 1) (by decide) 95 rfl ?_
                refine j_iadd C dX2_costBy_95 (nI ((ff m) / 2 ^ (code - 1) + 1)) (nI_add ((ff m) / 2 ^ (code - 1)) 1) 96 rfl ?_
                refine j_iload_n C dX2_costBy_96 1 rfl 97 rfl ?_
                refine j_iadd C dX2_costBy_97 (nI ((ff m) / 2 ^ (code - 1) + 1 + (code - 1))) (nI_add ((ff m) / 2 ^ (code - 1) + 1) (code - 1)) 98 rfl ?_
                refine j_iadd C dX2_costBy_98 (nI (acc + ((ff m) / 2 ^ (code - 1) + 1 + (code - 1)))) (nI_add acc ((ff m) / 2 ^ (code - 1) + 1 + (code - 1))) 99 rfl ?_
                refine j_istore_n C dX2_costBy_99 [(2, .int (nI (acc + ((ff m) / 2 ^ (code - 1) + 1 + (code - 1))))), (4, .int (nI m)), (3, .int (nI (code - 1))), (0, .ref q), (1, .int (nI code))] (by decide) rfl 100 rfl ?_
                refine j_iinc C dX2_costBy_100 1 rfl (nI (m + 1)) (nI_1 (m)) [(4, .int (nI (m + 1))), (2, .int (nI (acc + ((ff m) / 2 ^ (code - 1) + 1 + (code - 1))))), (3, .int (nI (code - 1))), (0, .ref q), (1, .int (nI code))] (by decide) rfl 103 rfl ?_
                refine j_goto C dX2_costBy_103 75 (by decide) ?_
                refine j_lsub [(4, .int (nI (m + 1))), (3, .int (nI (code - 1))), (2, .int (nI (acc + ((ff m) / 2 ^ (code - 1) + 1 + (code - 1))))), (0, .ref q), (1, .int (nI code))] [0, 2, 1, 3, 4] rfl ?_
                exact ih75 (m + 1) (acc + ((ff m) / 2 ^ (code - 1) + 1 + (code - 1))) ⟨by omega, by rw [hacc]; simp only [sumR, fbC, if_neg hc0, if_neg hc8]; omega⟩ (by omega)
            · refine j_iload_n C dX2_costBy_56 0 rfl 57 rfl ?_
              refine j_aload_n C dX2_costBy_57 1 rfl 58 rfl ?_
              refine j_get C dX2_costBy_58 0 1 3 inX2_costBy_2 rfl rfl (by decide) rfl rfl rfl 61 rfl ?_
              refine j_aload_n C dX2_costBy_61 1 rfl 62 rfl ?_
              refine j_get C dX2_costBy_62 0 3 1 inX2_costBy_2 rfl rfl (by decide) rfl rfl rfl 65 rfl ?_
              refine j_imul C dX2_costBy_65 (nI (fl * wd)) (pk_mul fl wd) 66 rfl ?_
              refine j_iadd C dX2_costBy_66 (nI (6 + hb * wd + (fl * wd))) (nI_add (6 + hb * wd) (fl * wd)) 67 rfl ?_
              exact j_iret C dX2_costBy_67 () (show (nI (6 + hb * wd + (fl * wd)) : Int32) = oI (cF wd hb fl ff code) from by have hc8 : code = 8 := (by omega); subst hc8; rw [cF_some h8 (fun h9 => by omega), sumR_fb8]; rfl) rfl
          · refine j_iload_n C dX2_costBy_48 0 rfl 49 rfl ?_
            exact j_iret C dX2_costBy_49 () (show (nI (6 + hb * wd) : Int32) = oI (cF wd hb fl ff code) from by have hc0 : code = 0 := (by omega); subst hc0; rw [cF_some h8 (fun _ => by first | assumption | (exfalso; omega)), sumR_fb0]; rfl) rfl
      · refine j_bipush C dX2_costBy_22 (-6) (by decide) 24 rfl ?_
        exact j_iret C dX2_costBy_24 () (show (-6 : Int32) = oI (cF wd hb fl ff code) from by first | (rw [cF_none h8]; rfl) | (rw [cF_none0 (by omega) h19]; rfl)) rfl
set_option maxHeartbeats 4000000 in
set_option maxRecDepth 100000 in
theorem c_X2_writeByNoughts (l : Launch) (D : va_G) (cI cZ cH : ClassId) (q fa fl fw wd hb ba : Nat) (ob ta n : Nat) (bf : Nat → Nat) (x k : Nat) (hx : x ≤ 255) (hk : k ≤ 7) (hn : n + (x / 2 ^ k + 1 + k) ≤ 1000) : Mv l D cI cZ cH yX2_writeByNoughts wsX2_writeByNoughts 2 44 [.ref q, .ref ob, .int (nI x), .int (nI k)] [(q, .inr (2, [.ref fa, .int (nI fl), .int (nI fw), .int (nI wd), .int (nI hb), .int (nI ba)])), (ob, .inr (0, [.ref ta, .int (nI n)])), (ta, .inl (cI, 1000, .inl (aN bf)))] (fun (_ : Unit) => True) (fun (_ : Unit) => [(q, .inr (2, [.ref fa, .int (nI fl), .int (nI fw), .int (nI wd), .int (nI hb), .int (nI ba)])), (ob, .inr (0, [.ref ta, .int (nI (n + (x / 2 ^ k + 1 + k)))])), (ta, .inl (cI, 1000, .inl (aN (putL bf n (List.replicate (x / 2 ^ k) 0 ++ 1 :: nb x k)))))]) := by
  refine Mv.start (cc := cX2_writeByNoughts) (nL := 6) (ret := none) (lv0 := [(0, .ref q), (1, .ref ob), (2, .int (nI x)), (3, .int (nI k))]) (by decide) rfl (Nat.le_of_ble_eq_true rfl) rfl ?_
  intro pX eX sX mX bX methX cX AX C
  obtain ⟨z, hz⟩ : ∃ z, z = x / 2 ^ k := ⟨_, rfl⟩
  rw [← hz] at hn
  refine j_iload_n C dX2_writeByNoughts_0 2 rfl 1 rfl ?_
  refine j_iload_n C dX2_writeByNoughts_1 3 rfl 2 rfl ?_
  refine j_ishr C dX2_writeByNoughts_2 (nI (x / 2 ^ k)) (q_shr (by omega) (by omega)) 3 rfl ?_
  have hshr2 := Nat.div_le_self x (2 ^ k)
  refine j_top (nI z) (by rw [hz]) ?_
  refine j_istore C dX2_writeByNoughts_3 [(4, .int (nI z)), (0, .ref q), (1, .ref ob), (2, .int (nI x)), (3, .int (nI k))] (by decide) rfl 5 rfl ?_
  refine j_iconst C dX2_writeByNoughts_5 (nI 0) (by decide) 6 rfl ?_
  refine j_istore C dX2_writeByNoughts_6 [(5, .int (nI 0)), (4, .int (nI z)), (0, .ref q), (1, .ref ob), (2, .int (nI x)), (3, .int (nI k))] (by decide) rfl 8 rfl ?_
  refine j_loop1 (fun (m : Nat) => m ≤ z) (fun (m : Nat) => z - m) (fun (m : Nat) => [(q, .inr (2, [.ref fa, .int (nI fl), .int (nI fw), .int (nI wd), .int (nI hb), .int (nI ba)])), (ob, .inr (0, [.ref ta, .int (nI (n + m))])), (ta, .inl (cI, 1000, .inl (aN (putL bf n (List.replicate m 0)))))]) (fun (m : Nat) => [(5, .int (nI m)), (4, .int (nI z)), (0, .ref q), (1, .ref ob), (2, .int (nI x)), (3, .int (nI k))]) ?_ 0 (by omega) (by simp only [List.replicate_zero, putL_nil]; rfl) rfl
  intro m hI8 ih8
  have hm : m ≤ z := hI8
  show J D AX pX l eX _ sX mX _ bX methX cX 0 0 _ 6 [(q, .inr (2, [.ref fa, .int (nI fl), .int (nI fw), .int (nI wd), .int (nI hb), .int (nI ba)])), (ob, .inr (0, [.ref ta, .int (nI (n + m))])), (ta, .inl (cI, 1000, .inl (aN (putL bf n (List.replicate m 0)))))] [(5, .int (nI m)), (4, .int (nI z)), (0, .ref q), (1, .ref ob), (2, .int (nI x)), (3, .int (nI k))] 8 []
  refine j_iload C dX2_writeByNoughts_8 0 rfl 10 rfl ?_
  refine j_iload C dX2_writeByNoughts_10 1 rfl 12 rfl ?_
  refine j_icmp_ge C dX2_writeByNoughts_12 26 (by decide) (q_t (by omega)) (q_t (by omega)) 15 rfl (fun h12 => ?_) (fun h12 => ?_)
  · refine j_aload_n C dX2_writeByNoughts_26 3 rfl 27 rfl ?_
    refine j_iconst C dX2_writeByNoughts_27 (nI 1) (by decide) 28 rfl ?_
    refine j_callVv1 (As := [.int (nI 1)]) (rest := []) (wr := [(q, .inr (2, [.ref fa, .int (nI fl), .int (nI fw), .int (nI wd), .int (nI hb), .int (nI ba)]))]) C (c_X0_append l D cI cZ cH ob ta (n + m) (putL bf n (List.replicate m 0)) 1 (by omega)) gX2_writeByNoughts_X0_append dX2_writeByNoughts_28 rfl yd_X0_append (Nat.le_of_ble_eq_true rfl) (Nat.le_of_ble_eq_true rfl) rfl rfl rfl _ rfl (Nat.le_of_ble_eq_true rfl) (Nat.zero_le _) (Nat.zero_le _) [1, 2] [0] rfl rfl rfl rfl rfl (by decide) [0, 1, 2] [(q, .inr (2, [.ref fa, .int (nI fl), .int (nI fw), .int (nI wd), .int (nI hb), .int (nI ba)])), (ob, .inr (0, [.ref ta, .int (nI ((n + m) + 1))])), (ta, .inl (cI, 1000, .inl (aN (va_up (putL bf n (List.replicate m 0)) (n + m) 1))))] rfl rfl rfl 31 rfl ?_
    refine j_aload_n C dX2_writeByNoughts_31 3 rfl 32 rfl ?_
    refine j_iload_n C dX2_writeByNoughts_32 4 rfl 33 rfl ?_
    refine j_iload_n C dX2_writeByNoughts_33 5 rfl 34 rfl ?_
    refine j_callVv1 (As := [.int (nI x), .int (nI k)]) (rest := []) (wr := [(q, .inr (2, [.ref fa, .int (nI fl), .int (nI fw), .int (nI wd), .int (nI hb), .int (nI ba)]))]) C (c_X0_appendNumber l D cI cZ cH ob ta ((n + m) + 1) (va_up (putL bf n (List.replicate m 0)) (n + m) 1) x k (by omega) (by omega) (by omega)) gX2_writeByNoughts_X0_appendNumber dX2_writeByNoughts_34 rfl yd_X0_appendNumber (Nat.le_of_ble_eq_true rfl) (Nat.le_of_ble_eq_true rfl) rfl rfl rfl _ rfl (Nat.le_of_ble_eq_true rfl) (Nat.zero_le _) (Nat.zero_le _) [1, 2] [0] rfl rfl rfl rfl rfl (by decide) [0, 1, 2] [(q, .inr (2, [.ref fa, .int (nI fl), .int (nI fw), .int (nI wd), .int (nI hb), .int (nI ba)])), (ob, .inr (0, [.ref ta, .int (nI (((n + m) + 1) + k))])), (ta, .inl (cI, 1000, .inl (aN (putL (va_up (putL bf n (List.replicate m 0)) (n + m) 1) ((n + m) + 1) (nb x k)))))] rfl rfl rfl 37 rfl ?_
    exact j_vret C dX2_writeByNoughts_37 () trivial (by have hm9 : m = z := (by omega); rw [hm9, putL_noughts, hz, show n + x / 2 ^ k + 1 + k = n + (x / 2 ^ k + 1 + k) from Nat.add_assoc (n + x / 2 ^ k) 1 k ▸ Nat.add_assoc n (x / 2 ^ k) (1 + k) ▸ (Nat.add_assoc (x / 2 ^ k) 1 k).symm ▸ rfl])
  · refine j_aload_n C dX2_writeByNoughts_15 3 rfl 16 rfl ?_
    refine j_iconst C dX2_writeByNoughts_16 (nI 0) (by decide) 17 rfl ?_
    refine j_callVv1 (As := [.int (nI 0)]) (rest := []) (wr := [(q, .inr (2, [.ref fa, .int (nI fl), .int (nI fw), .int (nI wd), .int (nI hb), .int (nI ba)]))]) C (c_X0_append l D cI cZ cH ob ta (n + m) (putL bf n (List.replicate m 0)) 0 (by omega)) gX2_writeByNoughts_X0_append dX2_writeByNoughts_17 rfl yd_X0_append (Nat.le_of_ble_eq_true rfl) (Nat.le_of_ble_eq_true rfl) rfl rfl rfl _ rfl (Nat.le_of_ble_eq_true rfl) (Nat.zero_le _) (Nat.zero_le _) [1, 2] [0] rfl rfl rfl rfl rfl (by decide) [0, 1, 2] [(q, .inr (2, [.ref fa, .int (nI fl), .int (nI fw), .int (nI wd), .int (nI hb), .int (nI ba)])), (ob, .inr (0, [.ref ta, .int (nI ((n + m) + 1))])), (ta, .inl (cI, 1000, .inl (aN (va_up (putL bf n (List.replicate m 0)) (n + m) 0))))] rfl rfl rfl 20 rfl ?_
    refine j_iinc C dX2_writeByNoughts_20 0 rfl (nI (m + 1)) (nI_1 (m)) [(5, .int (nI (m + 1))), (4, .int (nI z)), (0, .ref q), (1, .ref ob), (2, .int (nI x)), (3, .int (nI k))] (by decide) rfl 23 rfl ?_
    refine j_goto C dX2_writeByNoughts_23 8 (by decide) ?_
    refine j_world [(q, .inr (2, [.ref fa, .int (nI fl), .int (nI fw), .int (nI wd), .int (nI hb), .int (nI ba)])), (ob, .inr (0, [.ref ta, .int (nI (n + (m + 1)))])), (ta, .inl (cI, 1000, .inl (aN (putL bf n (List.replicate (m + 1) 0)))))] (by rw [putL_rep]; rfl) ?_
    exact ih8 (m + 1) (by omega) (by omega)
set_option maxHeartbeats 4000000 in
set_option maxRecDepth 100000 in
theorem c_X2_write (l : Launch) (D : va_G) (cI cZ cH : ClassId) (q fa fl fw wd hb ba : Nat) (ff : Nat → Nat) (ob ta n : Nat) (bf : Nat → Nat) (code : Nat) (hfl : fl ≤ 8) (hhb : hb ≤ 1) (hwd : 2 ≤ wd ∧ wd ≤ 8) (hff : ∀ j, j < fl → ff j ≤ 255) (hba : ba ≤ 255) (hfw : fw ≤ 3) (hc : okC wd code) (hn : n + (6 + hb * wd + sumR (fun j => fbC wd code (ff j)) fl) ≤ 1000) : Mv l D cI cZ cH yX2_write wsX2_write 3 69 [.ref q, .ref ob, .int (nI code)] [(q, .inr (2, [.ref fa, .int (nI fl), .int (nI fw), .int (nI wd), .int (nI hb), .int (nI ba)])), (fa, .inl (cI, 8, .inl (aN ff))), (ob, .inr (0, [.ref ta, .int (nI n)])), (ta, .inl (cI, 1000, .inl (aN bf)))] (fun (_ : Unit) => True) (fun (_ : Unit) => [(q, .inr (2, [.ref fa, .int (nI fl), .int (nI fw), .int (nI wd), .int (nI hb), .int (nI ba)])), (fa, .inl (cI, 8, .inl (aN ff))), (ob, .inr (0, [.ref ta, .int (nI (n + (6 + hb * wd + sumR (fun j => fbC wd code (ff j)) fl)))])), (ta, .inl (cI, 1000, .inl (aN (putL bf n (bH wd hb fw code ba ++ fL wd code ff fl)))))]) := by
  refine Mv.start (cc := cX2_write) (nL := 4) (ret := none) (lv0 := [(0, .ref q), (1, .ref ob), (2, .int (nI code))]) (by decide) rfl (Nat.le_of_ble_eq_true rfl) rfl ?_
  intro pX eX sX mX bX methX cX AX C
  have hbw := mulB hhb hwd.2
  refine j_aload_n C dX2_write_0 1 rfl 1 rfl ?_
  refine j_aload_n C dX2_write_1 0 rfl 2 rfl ?_
  refine j_get C dX2_write_2 0 2 1 inX2_write_2 rfl rfl (by decide) rfl rfl rfl 5 rfl ?_
  refine j_iconst C dX2_write_5 (nI 2) (by decide) 6 rfl ?_
  refine j_callVv1 (As := [.int (nI fw), .int (nI 2)]) (rest := []) (wr := [(q, .inr (2, [.ref fa, .int (nI fl), .int (nI fw), .int (nI wd), .int (nI hb), .int (nI ba)])), (fa, .inl (cI, 8, .inl (aN ff)))]) C (c_X0_appendNumber l D cI cZ cH ob ta n bf fw 2 (by omega) (by omega) (by omega)) gX2_write_X0_appendNumber dX2_write_6 rfl yd_X0_appendNumber (Nat.le_of_ble_eq_true rfl) (Nat.le_of_ble_eq_true rfl) rfl rfl rfl _ rfl (Nat.le_of_ble_eq_true rfl) (Nat.zero_le _) (Nat.zero_le _) [2, 3] [0, 1] rfl rfl rfl rfl rfl (by decide) [0, 1, 2, 3] [(q, .inr (2, [.ref fa, .int (nI fl), .int (nI fw), .int (nI wd), .int (nI hb), .int (nI ba)])), (fa, .inl (cI, 8, .inl (aN ff))), (ob, .inr (0, [.ref ta, .int (nI (n + 2))])), (ta, .inl (cI, 1000, .inl (aN (putL bf n (nb fw 2)))))] rfl rfl rfl 9 rfl ?_
  refine j_aload_n C dX2_write_9 1 rfl 10 rfl ?_
  refine j_iload_n C dX2_write_10 2 rfl 11 rfl ?_
  refine j_iconst C dX2_write_11 (nI 4) (by decide) 12 rfl ?_
  refine j_callVv1 (As := [.int (nI code), .int (nI 4)]) (rest := []) (wr := [(q, .inr (2, [.ref fa, .int (nI fl), .int (nI fw), .int (nI wd), .int (nI hb), .int (nI ba)])), (fa, .inl (cI, 8, .inl (aN ff)))]) C (c_X0_appendNumber l D cI cZ cH ob ta (n + 2) (putL bf n (nb fw 2)) code 4 (by omega) (by omega) (by omega)) gX2_write_X0_appendNumber dX2_write_12 rfl yd_X0_appendNumber (Nat.le_of_ble_eq_true rfl) (Nat.le_of_ble_eq_true rfl) rfl rfl rfl _ rfl (Nat.le_of_ble_eq_true rfl) (Nat.zero_le _) (Nat.zero_le _) [2, 3] [0, 1] rfl rfl rfl rfl rfl (by decide) [0, 1, 2, 3] [(q, .inr (2, [.ref fa, .int (nI fl), .int (nI fw), .int (nI wd), .int (nI hb), .int (nI ba)])), (fa, .inl (cI, 8, .inl (aN ff))), (ob, .inr (0, [.ref ta, .int (nI ((n + 2) + 4))])), (ta, .inl (cI, 1000, .inl (aN (putL (putL bf n (nb fw 2)) (n + 2) (nb code 4)))))] rfl rfl rfl 15 rfl ?_
  refine j_world [(q, .inr (2, [.ref fa, .int (nI fl), .int (nI fw), .int (nI wd), .int (nI hb), .int (nI ba)])), (fa, .inl (cI, 8, .inl (aN ff))), (ob, .inr (0, [.ref ta, .int (nI ((n + 2) + 4))])), (ta, .inl (cI, 1000, .inl (aN (putL bf n (nb fw 2 ++ nb code 4)))))] (by rw [show (putL (putL bf n (nb fw 2)) (n + 2) (nb code 4)) = putL bf n (nb fw 2 ++ nb code 4) from (by rw [putL_app' (by rw [nb_length])])]) ?_
  refine j_aload_n C dX2_write_15 0 rfl 16 rfl ?_
  refine j_get C dX2_write_16 0 4 2 inX2_write_2 rfl rfl (by decide) rfl rfl rfl 19 rfl ?_
  refine j_if_eq C dX2_write_19 34 (by decide) (q_t (by omega)) 22 rfl (fun h19 => ?_) (fun h19 => ?_)
  · refine j_world [(q, .inr (2, [.ref fa, .int (nI fl), .int (nI fw), .int (nI wd), .int (nI hb), .int (nI ba)])), (fa, .inl (cI, 8, .inl (aN ff))), (ob, .inr (0, [.ref ta, .int (nI ((n + 2) + 4))])), (ta, .inl (cI, 1000, .inl (aN (putL bf n (bH wd hb fw code ba)))))] (by rw [show (putL bf n (nb fw 2 ++ nb code 4)) = putL bf n (bH wd hb fw code ba) from (by rcases (show hb = 0 ∨ hb = 1 by omega) with rfl | rfl <;> first | (simp only [bH, if_neg (show ¬ (0 = 1) by decide), List.append_nil]; done) | (simp only [bH, if_true]; done) | (exfalso; omega))]) ?_
    refine j_world [(q, .inr (2, [.ref fa, .int (nI fl), .int (nI fw), .int (nI wd), .int (nI hb), .int (nI ba)])), (fa, .inl (cI, 8, .inl (aN ff))), (ob, .inr (0, [.ref ta, .int (nI (n + (6 + hb * wd)))])), (ta, .inl (cI, 1000, .inl (aN (putL bf n (bH wd hb fw code ba)))))] (by rw [show ((n + 2) + 4 : Nat) = n + (6 + hb * wd) from (by rcases (show hb = 0 ∨ hb = 1 by omega) with rfl | rfl <;> omega)]) ?_
    refine j_iload_n C dX2_write_34 2 rfl 35 rfl ?_
    refine j_if_ne C dX2_write_35 39 (by decide) (q_t (by omega)) 38 rfl (fun h35 => ?_) (fun h35 => ?_)
    · have hc0 : ¬ code = 0 := by omega
      refine j_iconst C dX2_write_39 (nI 0) (by decide) 40 rfl ?_
      refine j_istore_n C dX2_write_40 [(3, .int (nI 0)), (0, .ref q), (1, .ref ob), (2, .int (nI code))] (by decide) rfl 41 rfl ?_
      refine j_loop1 (fun (m : Nat) => m ≤ fl) (fun (m : Nat) => fl - m) (fun (m : Nat) => [(q, .inr (2, [.ref fa, .int (nI fl), .int (nI fw), .int (nI wd), .int (nI hb), .int (nI ba)])), (fa, .inl (cI, 8, .inl (aN ff))), (ob, .inr (0, [.ref ta, .int (nI (n + (6 + hb * wd + sumR (fun j => fbC wd code (ff j)) m)))])), (ta, .inl (cI, 1000, .inl (aN (putL bf n (bH wd hb fw code ba ++ fL wd code ff m)))))]) (fun (m : Nat) => [(3, .int (nI m)), (0, .ref q), (1, .ref ob), (2, .int (nI code))]) ?_ 0 (by omega) (by simp only [fL, sumR, List.append_nil, Nat.add_zero]) rfl
      intro m hI41 ih41
      have hm : m ≤ fl := hI41
      show J D AX pX l eX _ sX mX _ bX methX cX 0 0 _ 4 [(q, .inr (2, [.ref fa, .int (nI fl), .int (nI fw), .int (nI wd), .int (nI hb), .int (nI ba)])), (fa, .inl (cI, 8, .inl (aN ff))), (ob, .inr (0, [.ref ta, .int (nI (n + (6 + hb * wd + sumR (fun j => fbC wd code (ff j)) m)))])), (ta, .inl (cI, 1000, .inl (aN (putL bf n (bH wd hb fw code ba ++ fL wd code ff m)))))] [(3, .int (nI m)), (0, .ref q), (1, .ref ob), (2, .int (nI code))] 41 []
      have hfle : sumR (fun j => fbC wd code (ff j)) m + (if m < fl then fbC wd code (ff m) else 0) ≤ sumR (fun j => fbC wd code (ff j)) fl := sumR_step _ hm
      refine j_iload_n C dX2_write_41 0 rfl 42 rfl ?_
      refine j_aload_n C dX2_write_42 1 rfl 43 rfl ?_
      refine j_get C dX2_write_43 0 1 5 inX2_write_2 rfl rfl (by decide) rfl rfl rfl 46 rfl ?_
      refine j_icmp_ge C dX2_write_46 92 (by decide) (q_t (by omega)) (q_t (by omega)) 49 rfl (fun h46 => ?_) (fun h46 => ?_)
      · exact j_vret C dX2_write_92 () trivial (by have hm9 : m = fl := (by omega); subst hm9; rfl)
      · refine j_iload_n C dX2_write_49 3 rfl 50 rfl ?_
        refine j_bipush C dX2_write_50 (nI 8) (by decide) 52 rfl ?_
        refine j_icmp_ne C dX2_write_52 72 (by decide) (q_t (by omega)) (q_t (n := 8) (Nat.le_of_ble_eq_true rfl)) 55 rfl (fun h52 => ?_) (fun h52 => ?_)
        · have hc8 : ¬ code = 8 := by omega
          refine j_aload_n C dX2_write_72 1 rfl 73 rfl ?_
          refine j_aload_n C dX2_write_73 2 rfl 74 rfl ?_
          refine j_aload_n C dX2_write_74 1 rfl 75 rfl ?_
          refine j_get C dX2_write_75 0 0 6 inX2_write_2 rfl rfl (by decide) rfl rfl rfl 78 rfl ?_
          refine j_iload_n C dX2_write_78 0 rfl 79 rfl ?_
          refine j_iald C dX2_write_79 1 rfl (by omega) (Nat.le_of_ble_eq_true rfl) 80 rfl ?_
          have hfm := hff m (by omega)
          rw [if_pos (by omega)] at hfle
          have hfb : fbC wd code (ff m) = ff m / 2 ^ (code - 1) + code := by simp only [fbC, if_neg hc0, if_neg hc8]
          have hfl9 : fbL wd code (ff m) = List.replicate (ff m / 2 ^ (code - 1)) 0 ++ 1 :: nb (ff m) (code - 1) := by simp only [fbL, if_neg hc0, if_neg hc8]
          refine j_iload_n C dX2_write_80 3 rfl 81 rfl ?_
          refine j_iconst C dX2_write_81 (nI 1) (by decide) 82 rfl ?_
          refine j_isub C dX2_write_82 (nI (code - 1)) (pk_sub (by omega)) 83 rfl ?_
          refine j_callVv1 (As := [.ref ob, .int (nI (ff m)), .int (nI (code - 1))]) (rest := []) (wr := [(fa, .inl (cI, 8, .inl (aN ff)))]) C (c_X2_writeByNoughts l D cI cZ cH q fa fl fw wd hb ba ob ta (n + (6 + hb * wd + sumR (fun j => fbC wd code (ff j)) m)) (putL bf n (bH wd hb fw code ba ++ fL wd code ff m)) (ff m) (code - 1) (by omega) (by omega) (by omega)) gX2_write_X2_writeByNoughts dX2_write_83 rfl yd_X2_writeByNoughts (Nat.le_of_ble_eq_true rfl) (Nat.le_of_ble_eq_true rfl) rfl rfl rfl _ rfl (Nat.le_of_ble_eq_true rfl) (Nat.zero_le _) (Nat.zero_le _) [0, 2, 3] [1] rfl rfl rfl rfl rfl (by decide) [1, 0, 2, 3] [(q, .inr (2, [.ref fa, .int (nI fl), .int (nI fw), .int (nI wd), .int (nI hb), .int (nI ba)])), (fa, .inl (cI, 8, .inl (aN ff))), (ob, .inr (0, [.ref ta, .int (nI ((n + (6 + hb * wd + sumR (fun j => fbC wd code (ff j)) m)) + ((ff m) / 2 ^ (code - 1) + 1 + (code - 1))))])), (ta, .inl (cI, 1000, .inl (aN (putL (putL bf n (bH wd hb fw code ba ++ fL wd code ff m)) (n + (6 + hb * wd + sumR (fun j => fbC wd code (ff j)) m)) (List.replicate ((ff m) / 2 ^ (code - 1)) 0 ++ 1 :: nb (ff m) (code - 1))))))] rfl rfl rfl 86 rfl ?_
          refine j_world [(q, .inr (2, [.ref fa, .int (nI fl), .int (nI fw), .int (nI wd), .int (nI hb), .int (nI ba)])), (fa, .inl (cI, 8, .inl (aN ff))), (ob, .inr (0, [.ref ta, .int (nI (n + (6 + hb * wd + sumR (fun j => fbC wd code (ff j)) (m + 1))))])), (ta, .inl (cI, 1000, .inl (aN (putL (putL bf n (bH wd hb fw code ba ++ fL wd code ff m)) (n + (6 + hb * wd + sumR (fun j => fbC wd code (ff j)) m)) (List.replicate ((ff m) / 2 ^ (code - 1)) 0 ++ 1 :: nb (ff m) (code - 1))))))] (by rw [show ((n + (6 + hb * wd + sumR (fun j => fbC wd code (ff j)) m)) + ((ff m) / 2 ^ (code - 1) + 1 + (code - 1)) : Nat) = n + (6 + hb * wd + sumR (fun j => fbC wd code (ff j)) (m + 1)) from (by simp only [sumR]; omega)]) ?_
          refine j_world [(q, .inr (2, [.ref fa, .int (nI fl), .int (nI fw), .int (nI wd), .int (nI hb), .int (nI ba)])), (fa, .inl (cI, 8, .inl (aN ff))), (ob, .inr (0, [.ref ta, .int (nI (n + (6 + hb * wd + sumR (fun j => fbC wd code (ff j)) (m + 1))))])), (ta, .inl (cI, 1000, .inl (aN (putL bf n (bH wd hb fw code ba ++ fL wd code ff (m + 1))))))] (by rw [show (putL (putL bf n (bH wd hb fw code ba ++ fL wd code ff m)) (n + (6 + hb * wd + sumR (fun j => fbC wd code (ff j)) m)) (List.replicate ((ff m) / 2 ^ (code - 1)) 0 ++ 1 :: nb (ff m) (code - 1))) = putL bf n (bH wd hb fw code ba ++ fL wd code ff (m + 1)) from (by rw [putL_app' (by rw [List.length_append, bH_len hhb, fL_len]), List.append_assoc, ← hfl9]; rfl)]) ?_
          refine j_iinc C dX2_write_86 0 rfl (nI (m + 1)) (nI_1 (m)) [(3, .int (nI (m + 1))), (0, .ref q), (1, .ref ob), (2, .int (nI code))] (by decide) rfl 89 rfl ?_
          refine j_goto C dX2_write_89 41 (by decide) ?_
          exact ih41 (m + 1) (by omega) (by omega)
        · have hc8 : code = 8 := by omega
          refine j_aload_n C dX2_write_55 2 rfl 56 rfl ?_
          refine j_aload_n C dX2_write_56 1 rfl 57 rfl ?_
          refine j_get C dX2_write_57 0 0 6 inX2_write_2 rfl rfl (by decide) rfl rfl rfl 60 rfl ?_
          refine j_iload_n C dX2_write_60 0 rfl 61 rfl ?_
          refine j_iald C dX2_write_61 1 rfl (by omega) (Nat.le_of_ble_eq_true rfl) 62 rfl ?_
          have hfm := hff m (by omega)
          rw [if_pos (by omega)] at hfle
          have hfb : fbC wd code (ff m) = wd := by simp only [fbC, if_neg hc0, if_pos hc8]
          have hfl9 : fbL wd code (ff m) = nb (ff m) wd := by simp only [fbL, if_neg hc0, if_pos hc8]
          refine j_aload_n C dX2_write_62 1 rfl 63 rfl ?_
          refine j_get C dX2_write_63 0 3 4 inX2_write_2 rfl rfl (by decide) rfl rfl rfl 66 rfl ?_
          refine j_callVv1 (As := [.int (nI (ff m)), .int (nI wd)]) (rest := []) (wr := [(q, .inr (2, [.ref fa, .int (nI fl), .int (nI fw), .int (nI wd), .int (nI hb), .int (nI ba)])), (fa, .inl (cI, 8, .inl (aN ff)))]) C (c_X0_appendNumber l D cI cZ cH ob ta (n + (6 + hb * wd + sumR (fun j => fbC wd code (ff j)) m)) (putL bf n (bH wd hb fw code ba ++ fL wd code ff m)) (ff m) wd (by omega) (by omega) (by omega)) gX2_write_X0_appendNumber dX2_write_66 rfl yd_X0_appendNumber (Nat.le_of_ble_eq_true rfl) (Nat.le_of_ble_eq_true rfl) rfl rfl rfl _ rfl (Nat.le_of_ble_eq_true rfl) (Nat.zero_le _) (Nat.zero_le _) [2, 3] [0, 1] rfl rfl rfl rfl rfl (by decide) [0, 1, 2, 3] [(q, .inr (2, [.ref fa, .int (nI fl), .int (nI fw), .int (nI wd), .int (nI hb), .int (nI ba)])), (fa, .inl (cI, 8, .inl (aN ff))), (ob, .inr (0, [.ref ta, .int (nI ((n + (6 + hb * wd + sumR (fun j => fbC wd code (ff j)) m)) + wd))])), (ta, .inl (cI, 1000, .inl (aN (putL (putL bf n (bH wd hb fw code ba ++ fL wd code ff m)) (n + (6 + hb * wd + sumR (fun j => fbC wd code (ff j)) m)) (nb (ff m) wd)))))] rfl rfl rfl 69 rfl ?_
          refine j_world [(q, .inr (2, [.ref fa, .int (nI fl), .int (nI fw), .int (nI wd), .int (nI hb), .int (nI ba)])), (fa, .inl (cI, 8, .inl (aN ff))), (ob, .inr (0, [.ref ta, .int (nI (n + (6 + hb * wd + sumR (fun j => fbC wd code (ff j)) (m + 1))))])), (ta, .inl (cI, 1000, .inl (aN (putL (putL bf n (bH wd hb fw code ba ++ fL wd code ff m)) (n + (6 + hb * wd + sumR (fun j => fbC wd code (ff j)) m)) (nb (ff m) wd)))))] (by rw [show ((n + (6 + hb * wd + sumR (fun j => fbC wd code (ff j)) m)) + wd : Nat) = n + (6 + hb * wd + sumR (fun j => fbC wd code (ff j)) (m + 1)) from (by simp only [sumR]; omega)]) ?_
          refine j_world [(q, .inr (2, [.ref fa, .int (nI fl), .int (nI fw), .int (nI wd), .int (nI hb), .int (nI ba)])), (fa, .inl (cI, 8, .inl (aN ff))), (ob, .inr (0, [.ref ta, .int (nI (n + (6 + hb * wd + sumR (fun j => fbC wd code (ff j)) (m + 1))))])), (ta, .inl (cI, 1000, .inl (aN (putL bf n (bH wd hb fw code ba ++ fL wd code ff (m + 1))))))] (by rw [show (putL (putL bf n (bH wd hb fw code ba ++ fL wd code ff m)) (n + (6 + hb * wd + sumR (fun j => fbC wd code (ff j)) m)) (nb (ff m) wd)) = putL bf n (bH wd hb fw code ba ++ fL wd code ff (m + 1)) from (by rw [putL_app' (by rw [List.length_append, bH_len hhb, fL_len]), List.append_assoc, ← hfl9]; rfl)]) ?_
          refine j_goto C dX2_write_69 86 (by decide) ?_
          refine j_iinc C dX2_write_86 0 rfl (nI (m + 1)) (nI_1 (m)) [(3, .int (nI (m + 1))), (0, .ref q), (1, .ref ob), (2, .int (nI code))] (by decide) rfl 89 rfl ?_
          refine j_goto C dX2_write_89 41 (by decide) ?_
          exact ih41 (m + 1) (by omega) (by omega)
    · exact j_vret C dX2_write_38 () trivial (by have hc0 : code = 0 := (by omega); subst hc0; simp only [fL_zero, sumR_fb0, List.append_nil, Nat.add_zero])
  · have hbw1 : hb * wd = wd := by rw [show hb = 1 by omega, Nat.one_mul]
    refine j_aload_n C dX2_write_22 1 rfl 23 rfl ?_
    refine j_aload_n C dX2_write_23 0 rfl 24 rfl ?_
    refine j_get C dX2_write_24 0 5 3 inX2_write_2 rfl rfl (by decide) rfl rfl rfl 27 rfl ?_
    refine j_aload_n C dX2_write_27 0 rfl 28 rfl ?_
    refine j_get C dX2_write_28 0 3 4 inX2_write_2 rfl rfl (by decide) rfl rfl rfl 31 rfl ?_
    refine j_callVv1 (As := [.int (nI ba), .int (nI wd)]) (rest := []) (wr := [(q, .inr (2, [.ref fa, .int (nI fl), .int (nI fw), .int (nI wd), .int (nI hb), .int (nI ba)])), (fa, .inl (cI, 8, .inl (aN ff)))]) C (c_X0_appendNumber l D cI cZ cH ob ta ((n + 2) + 4) (putL bf n (nb fw 2 ++ nb code 4)) ba wd (by omega) (by omega) (by omega)) gX2_write_X0_appendNumber dX2_write_31 rfl yd_X0_appendNumber (Nat.le_of_ble_eq_true rfl) (Nat.le_of_ble_eq_true rfl) rfl rfl rfl _ rfl (Nat.le_of_ble_eq_true rfl) (Nat.zero_le _) (Nat.zero_le _) [2, 3] [0, 1] rfl rfl rfl rfl rfl (by decide) [0, 1, 2, 3] [(q, .inr (2, [.ref fa, .int (nI fl), .int (nI fw), .int (nI wd), .int (nI hb), .int (nI ba)])), (fa, .inl (cI, 8, .inl (aN ff))), (ob, .inr (0, [.ref ta, .int (nI (((n + 2) + 4) + wd))])), (ta, .inl (cI, 1000, .inl (aN (putL (putL bf n (nb fw 2 ++ nb code 4)) ((n + 2) + 4) (nb ba wd)))))] rfl rfl rfl 34 rfl ?_
    refine j_world [(q, .inr (2, [.ref fa, .int (nI fl), .int (nI fw), .int (nI wd), .int (nI hb), .int (nI ba)])), (fa, .inl (cI, 8, .inl (aN ff))), (ob, .inr (0, [.ref ta, .int (nI (((n + 2) + 4) + wd))])), (ta, .inl (cI, 1000, .inl (aN (putL bf n (nb fw 2 ++ nb code 4 ++ nb ba wd)))))] (by rw [show (putL (putL bf n (nb fw 2 ++ nb code 4)) ((n + 2) + 4) (nb ba wd)) = putL bf n (nb fw 2 ++ nb code 4 ++ nb ba wd) from (by rw [putL_app' (by rw [List.length_append, nb_length, nb_length])])]) ?_
    refine j_world [(q, .inr (2, [.ref fa, .int (nI fl), .int (nI fw), .int (nI wd), .int (nI hb), .int (nI ba)])), (fa, .inl (cI, 8, .inl (aN ff))), (ob, .inr (0, [.ref ta, .int (nI (((n + 2) + 4) + wd))])), (ta, .inl (cI, 1000, .inl (aN (putL bf n (bH wd hb fw code ba)))))] (by rw [show (putL bf n (nb fw 2 ++ nb code 4 ++ nb ba wd)) = putL bf n (bH wd hb fw code ba) from (by rcases (show hb = 0 ∨ hb = 1 by omega) with rfl | rfl <;> first | (simp only [bH, if_neg (show ¬ (0 = 1) by decide), List.append_nil]; done) | (simp only [bH, if_true]; done) | (exfalso; omega))]) ?_
    refine j_world [(q, .inr (2, [.ref fa, .int (nI fl), .int (nI fw), .int (nI wd), .int (nI hb), .int (nI ba)])), (fa, .inl (cI, 8, .inl (aN ff))), (ob, .inr (0, [.ref ta, .int (nI (n + (6 + hb * wd)))])), (ta, .inl (cI, 1000, .inl (aN (putL bf n (bH wd hb fw code ba)))))] (by rw [show (((n + 2) + 4) + wd : Nat) = n + (6 + hb * wd) from (by rcases (show hb = 0 ∨ hb = 1 by omega) with rfl | rfl <;> omega)]) ?_
    refine j_iload_n C dX2_write_34 2 rfl 35 rfl ?_
    refine j_if_ne C dX2_write_35 39 (by decide) (q_t (by omega)) 38 rfl (fun h35 => ?_) (fun h35 => ?_)
    · have hc0 : ¬ code = 0 := by omega
      refine j_iconst C dX2_write_39 (nI 0) (by decide) 40 rfl ?_
      refine j_istore_n C dX2_write_40 [(3, .int (nI 0)), (0, .ref q), (1, .ref ob), (2, .int (nI code))] (by decide) rfl 41 rfl ?_
      refine j_loop1 (fun (m : Nat) => m ≤ fl) (fun (m : Nat) => fl - m) (fun (m : Nat) => [(q, .inr (2, [.ref fa, .int (nI fl), .int (nI fw), .int (nI wd), .int (nI hb), .int (nI ba)])), (fa, .inl (cI, 8, .inl (aN ff))), (ob, .inr (0, [.ref ta, .int (nI (n + (6 + hb * wd + sumR (fun j => fbC wd code (ff j)) m)))])), (ta, .inl (cI, 1000, .inl (aN (putL bf n (bH wd hb fw code ba ++ fL wd code ff m)))))]) (fun (m : Nat) => [(3, .int (nI m)), (0, .ref q), (1, .ref ob), (2, .int (nI code))]) ?_ 0 (by omega) (by simp only [fL, sumR, List.append_nil, Nat.add_zero]) rfl
      intro m hI41 ih41
      have hm : m ≤ fl := hI41
      show J D AX pX l eX _ sX mX _ bX methX cX 0 0 _ 4 [(q, .inr (2, [.ref fa, .int (nI fl), .int (nI fw), .int (nI wd), .int (nI hb), .int (nI ba)])), (fa, .inl (cI, 8, .inl (aN ff))), (ob, .inr (0, [.ref ta, .int (nI (n + (6 + hb * wd + sumR (fun j => fbC wd code (ff j)) m)))])), (ta, .inl (cI, 1000, .inl (aN (putL bf n (bH wd hb fw code ba ++ fL wd code ff m)))))] [(3, .int (nI m)), (0, .ref q), (1, .ref ob), (2, .int (nI code))] 41 []
      have hfle : sumR (fun j => fbC wd code (ff j)) m + (if m < fl then fbC wd code (ff m) else 0) ≤ sumR (fun j => fbC wd code (ff j)) fl := sumR_step _ hm
      refine j_iload_n C dX2_write_41 0 rfl 42 rfl ?_
      refine j_aload_n C dX2_write_42 1 rfl 43 rfl ?_
      refine j_get C dX2_write_43 0 1 5 inX2_write_2 rfl rfl (by decide) rfl rfl rfl 46 rfl ?_
      refine j_icmp_ge C dX2_write_46 92 (by decide) (q_t (by omega)) (q_t (by omega)) 49 rfl (fun h46 => ?_) (fun h46 => ?_)
      · exact j_vret C dX2_write_92 () trivial (by have hm9 : m = fl := (by omega); subst hm9; rfl)
      · refine j_iload_n C dX2_write_49 3 rfl 50 rfl ?_
        refine j_bipush C dX2_write_50 (nI 8) (by decide) 52 rfl ?_
        refine j_icmp_ne C dX2_write_52 72 (by decide) (q_t (by omega)) (q_t (n := 8) (Nat.le_of_ble_eq_true rfl)) 55 rfl (fun h52 => ?_) (fun h52 => ?_)
        · have hc8 : ¬ code = 8 := by omega
          refine j_aload_n C dX2_write_72 1 rfl 73 rfl ?_
          refine j_aload_n C dX2_write_73 2 rfl 74 rfl ?_
          refine j_aload_n C dX2_write_74 1 rfl 75 rfl ?_
          refine j_get C dX2_write_75 0 0 6 inX2_write_2 rfl rfl (by decide) rfl rfl rfl 78 rfl ?_
          refine j_iload_n C dX2_write_78 0 rfl 79 rfl ?_
          refine j_iald C dX2_write_79 1 rfl (by omega) (Nat.le_of_ble_eq_true rfl) 80 rfl ?_
          have hfm := hff m (by omega)
          rw [if_pos (by omega)] at hfle
          have hfb : fbC wd code (ff m) = ff m / 2 ^ (code - 1) + code := by simp only [fbC, if_neg hc0, if_neg hc8]
          have hfl9 : fbL wd code (ff m) = List.replicate (ff m / 2 ^ (code - 1)) 0 ++ 1 :: nb (ff m) (code - 1) := by simp only [fbL, if_neg hc0, if_neg hc8]
          refine j_iload_n C dX2_write_80 3 rfl 81 rfl ?_
          refine j_iconst C dX2_write_81 (nI 1) (by decide) 82 rfl ?_
          refine j_isub C dX2_write_82 (nI (code - 1)) (pk_sub (by omega)) 83 rfl ?_
          refine j_callVv1 (As := [.ref ob, .int (nI (ff m)), .int (nI (code - 1))]) (rest := []) (wr := [(fa, .inl (cI, 8, .inl (aN ff)))]) C (c_X2_writeByNoughts l D cI cZ cH q fa fl fw wd hb ba ob ta (n + (6 + hb * wd + sumR (fun j => fbC wd code (ff j)) m)) (putL bf n (bH wd hb fw code ba ++ fL wd code ff m)) (ff m) (code - 1) (by omega) (by omega) (by omega)) gX2_write_X2_writeByNoughts dX2_write_83 rfl yd_X2_writeByNoughts (Nat.le_of_ble_eq_true rfl) (Nat.le_of_ble_eq_true rfl) rfl rfl rfl _ rfl (Nat.le_of_ble_eq_true rfl) (Nat.zero_le _) (Nat.zero_le _) [0, 2, 3] [1] rfl rfl rfl rfl rfl (by decide) [1, 0, 2, 3] [(q, .inr (2, [.ref fa, .int (nI fl), .int (nI fw), .int (nI wd), .int (nI hb), .int (nI ba)])), (fa, .inl (cI, 8, .inl (aN ff))), (ob, .inr (0, [.ref ta, .int (nI ((n + (6 + hb * wd + sumR (fun j => fbC wd code (ff j)) m)) + ((ff m) / 2 ^ (code - 1) + 1 + (code - 1))))])), (ta, .inl (cI, 1000, .inl (aN (putL (putL bf n (bH wd hb fw code ba ++ fL wd code ff m)) (n + (6 + hb * wd + sumR (fun j => fbC wd code (ff j)) m)) (List.replicate ((ff m) / 2 ^ (code - 1)) 0 ++ 1 :: nb (ff m) (code - 1))))))] rfl rfl rfl 86 rfl ?_
          refine j_world [(q, .inr (2, [.ref fa, .int (nI fl), .int (nI fw), .int (nI wd), .int (nI hb), .int (nI ba)])), (fa, .inl (cI, 8, .inl (aN ff))), (ob, .inr (0, [.ref ta, .int (nI (n + (6 + hb * wd + sumR (fun j => fbC wd code (ff j)) (m + 1))))])), (ta, .inl (cI, 1000, .inl (aN (putL (putL bf n (bH wd hb fw code ba ++ fL wd code ff m)) (n + (6 + hb * wd + sumR (fun j => fbC wd code (ff j)) m)) (List.replicate ((ff m) / 2 ^ (code - 1)) 0 ++ 1 :: nb (ff m) (code - 1))))))] (by rw [show ((n + (6 + hb * wd + sumR (fun j => fbC wd code (ff j)) m)) + ((ff m) / 2 ^ (code - 1) + 1 + (code - 1)) : Nat) = n + (6 + hb * wd + sumR (fun j => fbC wd code (ff j)) (m + 1)) from (by simp only [sumR]; omega)]) ?_
          refine j_world [(q, .inr (2, [.ref fa, .int (nI fl), .int (nI fw), .int (nI wd), .int (nI hb), .int (nI ba)])), (fa, .inl (cI, 8, .inl (aN ff))), (ob, .inr (0, [.ref ta, .int (nI (n + (6 + hb * wd + sumR (fun j => fbC wd code (ff j)) (m + 1))))])), (ta, .inl (cI, 1000, .inl (aN (putL bf n (bH wd hb fw code ba ++ fL wd code ff (m + 1))))))] (by rw [show (putL (putL bf n (bH wd hb fw code ba ++ fL wd code ff m)) (n + (6 + hb * wd + sumR (fun j => fbC wd code (ff j)) m)) (List.replicate ((ff m) / 2 ^ (code - 1)) 0 ++ 1 :: nb (ff m) (code - 1))) = putL bf n (bH wd hb fw code ba ++ fL wd code ff (m + 1)) from (by rw [putL_app' (by rw [List.length_append, bH_len hhb, fL_len]), List.append_assoc, ← hfl9]; rfl)]) ?_
          refine j_iinc C dX2_write_86 0 rfl (nI (m + 1)) (nI_1 (m)) [(3, .int (nI (m + 1))), (0, .ref q), (1, .ref ob), (2, .int (nI code))] (by decide) rfl 89 rfl ?_
          refine j_goto C dX2_write_89 41 (by decide) ?_
          exact ih41 (m + 1) (by omega) (by omega)
        · have hc8 : code = 8 := by omega
          refine j_aload_n C dX2_write_55 2 rfl 56 rfl ?_
          refine j_aload_n C dX2_write_56 1 rfl 57 rfl ?_
          refine j_get C dX2_write_57 0 0 6 inX2_write_2 rfl rfl (by decide) rfl rfl rfl 60 rfl ?_
          refine j_iload_n C dX2_write_60 0 rfl 61 rfl ?_
          refine j_iald C dX2_write_61 1 rfl (by omega) (Nat.le_of_ble_eq_true rfl) 62 rfl ?_
          have hfm := hff m (by omega)
          rw [if_pos (by omega)] at hfle
          have hfb : fbC wd code (ff m) = wd := by simp only [fbC, if_neg hc0, if_pos hc8]
          have hfl9 : fbL wd code (ff m) = nb (ff m) wd := by simp only [fbL, if_neg hc0, if_pos hc8]
          refine j_aload_n C dX2_write_62 1 rfl 63 rfl ?_
          refine j_get C dX2_write_63 0 3 4 inX2_write_2 rfl rfl (by decide) rfl rfl rfl 66 rfl ?_
          refine j_callVv1 (As := [.int (nI (ff m)), .int (nI wd)]) (rest := []) (wr := [(q, .inr (2, [.ref fa, .int (nI fl), .int (nI fw), .int (nI wd), .int (nI hb), .int (nI ba)])), (fa, .inl (cI, 8, .inl (aN ff)))]) C (c_X0_appendNumber l D cI cZ cH ob ta (n + (6 + hb * wd + sumR (fun j => fbC wd code (ff j)) m)) (putL bf n (bH wd hb fw code ba ++ fL wd code ff m)) (ff m) wd (by omega) (by omega) (by omega)) gX2_write_X0_appendNumber dX2_write_66 rfl yd_X0_appendNumber (Nat.le_of_ble_eq_true rfl) (Nat.le_of_ble_eq_true rfl) rfl rfl rfl _ rfl (Nat.le_of_ble_eq_true rfl) (Nat.zero_le _) (Nat.zero_le _) [2, 3] [0, 1] rfl rfl rfl rfl rfl (by decide) [0, 1, 2, 3] [(q, .inr (2, [.ref fa, .int (nI fl), .int (nI fw), .int (nI wd), .int (nI hb), .int (nI ba)])), (fa, .inl (cI, 8, .inl (aN ff))), (ob, .inr (0, [.ref ta, .int (nI ((n + (6 + hb * wd + sumR (fun j => fbC wd code (ff j)) m)) + wd))])), (ta, .inl (cI, 1000, .inl (aN (putL (putL bf n (bH wd hb fw code ba ++ fL wd code ff m)) (n + (6 + hb * wd + sumR (fun j => fbC wd code (ff j)) m)) (nb (ff m) wd)))))] rfl rfl rfl 69 rfl ?_
          refine j_world [(q, .inr (2, [.ref fa, .int (nI fl), .int (nI fw), .int (nI wd), .int (nI hb), .int (nI ba)])), (fa, .inl (cI, 8, .inl (aN ff))), (ob, .inr (0, [.ref ta, .int (nI (n + (6 + hb * wd + sumR (fun j => fbC wd code (ff j)) (m + 1))))])), (ta, .inl (cI, 1000, .inl (aN (putL (putL bf n (bH wd hb fw code ba ++ fL wd code ff m)) (n + (6 + hb * wd + sumR (fun j => fbC wd code (ff j)) m)) (nb (ff m) wd)))))] (by rw [show ((n + (6 + hb * wd + sumR (fun j => fbC wd code (ff j)) m)) + wd : Nat) = n + (6 + hb * wd + sumR (fun j => fbC wd code (ff j)) (m + 1)) from (by simp only [sumR]; omega)]) ?_
          refine j_world [(q, .inr (2, [.ref fa, .int (nI fl), .int (nI fw), .int (nI wd), .int (nI hb), .int (nI ba)])), (fa, .inl (cI, 8, .inl (aN ff))), (ob, .inr (0, [.ref ta, .int (nI (n + (6 + hb * wd + sumR (fun j => fbC wd code (ff j)) (m + 1))))])), (ta, .inl (cI, 1000, .inl (aN (putL bf n (bH wd hb fw code ba ++ fL wd code ff (m + 1))))))] (by rw [show (putL (putL bf n (bH wd hb fw code ba ++ fL wd code ff m)) (n + (6 + hb * wd + sumR (fun j => fbC wd code (ff j)) m)) (nb (ff m) wd)) = putL bf n (bH wd hb fw code ba ++ fL wd code ff (m + 1)) from (by rw [putL_app' (by rw [List.length_append, bH_len hhb, fL_len]), List.append_assoc, ← hfl9]; rfl)]) ?_
          refine j_goto C dX2_write_69 86 (by decide) ?_
          refine j_iinc C dX2_write_86 0 rfl (nI (m + 1)) (nI_1 (m)) [(3, .int (nI (m + 1))), (0, .ref q), (1, .ref ob), (2, .int (nI code))] (by decide) rfl 89 rfl ?_
          refine j_goto C dX2_write_89 41 (by decide) ?_
          exact ih41 (m + 1) (by omega) (by omega)
    · exact j_vret C dX2_write_38 () trivial (by have hc0 : code = 0 := (by omega); subst hc0; simp only [fL_zero, sumR_fb0, List.append_nil, Nat.add_zero])
