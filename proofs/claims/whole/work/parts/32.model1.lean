set_option maxHeartbeats 4000000 in
set_option maxRecDepth 100000 in
theorem c_X9_in (l : Launch) (D : va_G) (cI cZ cH : ClassId) (v low high : Int32) (vv lo hi : Int) (hvv : v.toInt = vv) (hlo : low.toInt = lo) (hhi : high.toInt = hi) : Mi l D cI cZ cH yX9_in wsX9_in 0 0 [.int v, .int low, .int high] [] (fun (r9 : Int32) (_ : Unit) => r9 = (if lo ≤ vv ∧ vv ≤ hi then 1 else 0)) (fun (_ : Unit) => []) := by
  refine Mi.start (cc := cX9_in) (nL := 3) (ret := (some .boolean)) (lv0 := [(0, .int v), (1, .int low), (2, .int high)]) (by decide) rfl (Nat.le_of_ble_eq_true rfl) rfl ?_
  intro pX eX sX mX bX methX cX AX C
  refine j_iload_n C dX9_in_0 0 rfl 1 rfl ?_
  refine j_iload_n C dX9_in_1 1 rfl 2 rfl ?_
  refine j_icmp_lt C dX9_in_2 14 (by decide) hvv hlo 5 rfl (fun h2 => ?_) (fun h2 => ?_)
  · refine j_iconst C dX9_in_14 (nI 0) (by decide) 15 rfl ?_
    exact j_zret C dX9_in_15 rfl () (show (nI 0 : Int32) = (if lo ≤ vv ∧ vv ≤ hi then 1 else 0) from by first | rfl | omega | ((repeat' split) <;> first | rfl | omega | (exfalso; omega))) rfl
  · refine j_iload_n C dX9_in_5 0 rfl 6 rfl ?_
    refine j_iload_n C dX9_in_6 2 rfl 7 rfl ?_
    refine j_icmp_gt C dX9_in_7 14 (by decide) hvv hhi 10 rfl (fun h7 => ?_) (fun h7 => ?_)
    · refine j_iconst C dX9_in_14 (nI 0) (by decide) 15 rfl ?_
      exact j_zret C dX9_in_15 rfl () (show (nI 0 : Int32) = (if lo ≤ vv ∧ vv ≤ hi then 1 else 0) from by first | rfl | omega | ((repeat' split) <;> first | rfl | omega | (exfalso; omega))) rfl
    · refine j_iconst C dX9_in_10 (nI 1) (by decide) 11 rfl ?_
      refine j_goto C dX9_in_11 15 (by decide) ?_
      exact j_zret C dX9_in_15 rfl () (show (nI 1 : Int32) = (if lo ≤ vv ∧ vv ≤ hi then 1 else 0) from by first | rfl | omega | ((repeat' split) <;> first | rfl | omega | (exfalso; omega))) rfl
set_option maxHeartbeats 4000000 in
set_option maxRecDepth 100000 in
theorem c_X9_top (l : Launch) (D : va_G) (cI cZ cH : ClassId) (m sa ia ka ra ba bm la ha ap wr wa go : Nat) (w sz ev n : Nat) (g : Nat → Nat) (L : Nat) (t : Nat → Nat) (x : Nat) (y z : Int32) (hw : w ≤ 8) : Mi l D cI cZ cH yX9_top wsX9_top 0 0 [.ref m] [(m, .inr (9, [.ref sa, .ref ia, .ref ka, .ref ra, .ref ba, .int (nI bm), .ref la, .ref ha, .int (nI ap), .int (nI wr), .int (nI wa), .int (nI go)])), (sa, .inl (cI, 1072, .inl (stA w sz ev n g L t x y z)))] (fun (r9 : Int32) (_ : Unit) => r9 = nI (tpW w)) (fun (_ : Unit) => [(m, .inr (9, [.ref sa, .ref ia, .ref ka, .ref ra, .ref ba, .int (nI bm), .ref la, .ref ha, .int (nI ap), .int (nI wr), .int (nI wa), .int (nI go)])), (sa, .inl (cI, 1072, .inl (stA w sz ev n g L t x y z)))]) := by
  refine Mi.start (cc := cX9_top) (nL := 1) (ret := (some .int)) (lv0 := [(0, .ref m)]) (by decide) rfl (Nat.le_of_ble_eq_true rfl) rfl ?_
  intro pX eX sX mX bX methX cX AX C
  have h2 := p2le hw
  refine j_iconst C dX9_top_0 (nI 1) (by decide) 1 rfl ?_
  refine j_aload_n C dX9_top_1 0 rfl 2 rfl ?_
  refine j_get C dX9_top_2 0 0 1 inX9_top_9 rfl rfl (by decide) rfl rfl rfl 5 rfl ?_
  refine j_sipush C dX9_top_5 (nI 1066) (by decide) 8 rfl ?_
  refine j_ialdI C dX9_top_8 1 rfl (Nat.le_of_ble_eq_true rfl) (Nat.le_of_ble_eq_true rfl) (nI w) rfl 9 rfl ?_
  refine j_ishl C dX9_top_9 (nI (1 * 2 ^ w)) (q_shl (by omega) (by omega)) 10 rfl ?_
  refine j_iconst C dX9_top_10 (nI 1) (by decide) 11 rfl ?_
  refine j_isub C dX9_top_11 (nI ((1 * 2 ^ w) - 1)) (pk_sub (by omega)) 12 rfl ?_
  exact j_iret C dX9_top_12 () (show (nI ((1 * 2 ^ w) - 1) : Int32) = nI (tpW w) from by congr 1; simp only [tpW]; omega) rfl
set_option maxHeartbeats 4000000 in
set_option maxRecDepth 100000 in
theorem c_X9_many (l : Launch) (D : va_G) (cI cZ cH : ClassId) (m sa ia ka ra ba bm la ha ap wr wa go : Nat) (w sz ev n : Nat) (g : Nat → Nat) (L : Nat) (t : Nat → Nat) (x : Nat) (y z : Int32)  : Mi l D cI cZ cH yX9_many wsX9_many 0 0 [.ref m] [(m, .inr (9, [.ref sa, .ref ia, .ref ka, .ref ra, .ref ba, .int (nI bm), .ref la, .ref ha, .int (nI ap), .int (nI wr), .int (nI wa), .int (nI go)])), (sa, .inl (cI, 1072, .inl (stA w sz ev n g L t x y z)))] (fun (r9 : Int32) (_ : Unit) => r9 = nI n) (fun (_ : Unit) => [(m, .inr (9, [.ref sa, .ref ia, .ref ka, .ref ra, .ref ba, .int (nI bm), .ref la, .ref ha, .int (nI ap), .int (nI wr), .int (nI wa), .int (nI go)])), (sa, .inl (cI, 1072, .inl (stA w sz ev n g L t x y z)))]) := by
  refine Mi.start (cc := cX9_many) (nL := 1) (ret := (some .int)) (lv0 := [(0, .ref m)]) (by decide) rfl (Nat.le_of_ble_eq_true rfl) rfl ?_
  intro pX eX sX mX bX methX cX AX C
  refine j_aload_n C dX9_many_0 0 rfl 1 rfl ?_
  refine j_get C dX9_many_1 0 0 1 inX9_many_9 rfl rfl (by decide) rfl rfl rfl 4 rfl ?_
  refine j_sipush C dX9_many_4 (nI 1064) (by decide) 7 rfl ?_
  refine j_ialdI C dX9_many_7 1 rfl (Nat.le_of_ble_eq_true rfl) (Nat.le_of_ble_eq_true rfl) (nI n) rfl 8 rfl ?_
  exact j_iret C dX9_many_8 () rfl rfl
set_option maxHeartbeats 4000000 in
set_option maxRecDepth 100000 in
theorem c_X9_fitsBelow (l : Launch) (D : va_G) (cI cZ cH : ClassId) (m sa ia ka ra ba bm la ha ap wr wa go : Nat) (w sz ev n : Nat) (g : Nat → Nat) (L : Nat) (t : Nat → Nat) (x : Nat) (y z : Int32) (q : Nat → Nat) (tp : Nat) (hn : n ≤ 64) (hq : ∀ j, j < n → g j = q j) (hg : ∀ j, j < n → q j ≤ 255) (htp : tp ≤ 255) : Mi l D cI cZ cH yX9_fitsBelow wsX9_fitsBelow 1 20 [.ref m, .int (nI tp)] [(m, .inr (9, [.ref sa, .ref ia, .ref ka, .ref ra, .ref ba, .int (nI bm), .ref la, .ref ha, .int (nI ap), .int (nI wr), .int (nI wa), .int (nI go)])), (sa, .inl (cI, 1072, .inl (stA w sz ev n g L t x y z)))] (fun (r9 : Int32) (_ : Unit) => r9 = (if mxN q n ≤ tp then 1 else 0)) (fun (_ : Unit) => [(m, .inr (9, [.ref sa, .ref ia, .ref ka, .ref ra, .ref ba, .int (nI bm), .ref la, .ref ha, .int (nI ap), .int (nI wr), .int (nI wa), .int (nI go)])), (sa, .inl (cI, 1072, .inl (stA w sz ev n g L t x y z)))]) := by
  refine Mi.start (cc := cX9_fitsBelow) (nL := 4) (ret := (some .boolean)) (lv0 := [(0, .ref m), (1, .int (nI tp))]) (by decide) rfl (Nat.le_of_ble_eq_true rfl) rfl ?_
  intro pX eX sX mX bX methX cX AX C
  refine j_iconst C dX9_fitsBelow_0 (nI 1) (by decide) 1 rfl ?_
  refine j_istore_n C dX9_fitsBelow_1 [(2, .int (nI 1)), (0, .ref m), (1, .int (nI tp))] (by decide) rfl 2 rfl ?_
  refine j_iconst C dX9_fitsBelow_2 (nI 0) (by decide) 3 rfl ?_
  refine j_istore_n C dX9_fitsBelow_3 [(3, .int (nI 0)), (2, .int (nI 1)), (0, .ref m), (1, .int (nI tp))] (by decide) rfl 4 rfl ?_
  refine j_loop2 (fun (i : Nat) (acc : Nat) => i ≤ n ∧ acc = if mxN q i ≤ tp then 1 else 0) (fun (i : Nat) (acc : Nat) => n - i) (fun (i : Nat) (acc : Nat) => [(m, .inr (9, [.ref sa, .ref ia, .ref ka, .ref ra, .ref ba, .int (nI bm), .ref la, .ref ha, .int (nI ap), .int (nI wr), .int (nI wa), .int (nI go)])), (sa, .inl (cI, 1072, .inl (stA w sz ev n g L t x y z)))]) (fun (i : Nat) (acc : Nat) => [(3, .int (nI i)), (2, .int (nI acc)), (0, .ref m), (1, .int (nI tp))]) ?_ 0 1 ⟨by omega, by simp [mxN]⟩ rfl rfl
  intro i acc hI4 ih4
  obtain ⟨hi, hacc⟩ := hI4
  show J D AX pX l eX _ sX mX _ bX methX cX 0 0 _ 4 [(m, .inr (9, [.ref sa, .ref ia, .ref ka, .ref ra, .ref ba, .int (nI bm), .ref la, .ref ha, .int (nI ap), .int (nI wr), .int (nI wa), .int (nI go)])), (sa, .inl (cI, 1072, .inl (stA w sz ev n g L t x y z)))] [(3, .int (nI i)), (2, .int (nI acc)), (0, .ref m), (1, .int (nI tp))] 4 []
  have hacc1 : (mxN q i ≤ tp ∧ acc = 1) ∨ (¬ mxN q i ≤ tp ∧ acc = 0) := by split at hacc <;> omega
  refine j_iload_n C dX9_fitsBelow_4 0 rfl 5 rfl ?_
  refine j_aload_n C dX9_fitsBelow_5 2 rfl 6 rfl ?_
  refine j_callVi1 (As := []) (rest := [.int (nI i)]) (wr := []) C (c_X9_many l D cI cZ cH m sa ia ka ra ba bm la ha ap wr wa go w sz ev n g L t x y z ) gX9_fitsBelow_X9_many dX9_fitsBelow_6 rfl yd_X9_many (Nat.le_of_ble_eq_true rfl) (Nat.le_of_ble_eq_true rfl) rfl rfl rfl _ rfl (Nat.le_of_ble_eq_true rfl) (Nat.zero_le _) (Nat.zero_le _) [0, 1] [] rfl rfl rfl rfl rfl (by decide) [0, 1] [(m, .inr (9, [.ref sa, .ref ia, .ref ka, .ref ra, .ref ba, .int (nI bm), .ref la, .ref ha, .int (nI ap), .int (nI wr), .int (nI wa), .int (nI go)])), (sa, .inl (cI, 1072, .inl (stA w sz ev n g L t x y z)))] rfl rfl rfl 9 rfl ?_
  refine j_icmp_ge C dX9_fitsBelow_9 38 (by decide) (q_t (by omega)) (q_t (by omega)) 12 rfl (fun h9 => ?_) (fun h9 => ?_)
  · refine j_iload_n C dX9_fitsBelow_38 1 rfl 39 rfl ?_
    exact j_zret C dX9_fitsBelow_39 (by rw [hacc]; split <;> rfl) () (show (nI acc : Int32) = (if mxN q n ≤ tp then 1 else 0) from by rw [hacc, show i = n by omega]; split <;> rfl) rfl
  · refine j_iload_n C dX9_fitsBelow_12 1 rfl 13 rfl ?_
    refine j_if_eq C dX9_fitsBelow_13 30 (by decide) (q_t (by omega)) 16 rfl (fun h13 => ?_) (fun h13 => ?_)
    · refine j_iconst C dX9_fitsBelow_30 (nI 0) (by decide) 31 rfl ?_
      refine j_istore_n C dX9_fitsBelow_31 [(2, .int (nI 0)), (3, .int (nI i)), (0, .ref m), (1, .int (nI tp))] (by decide) rfl 32 rfl ?_
      refine j_iinc C dX9_fitsBelow_32 1 rfl (nI (i + 1)) (nI_1 (i)) [(3, .int (nI (i + 1))), (2, .int (nI 0)), (0, .ref m), (1, .int (nI tp))] (by decide) rfl 35 rfl ?_
      refine j_goto C dX9_fitsBelow_35 4 (by decide) ?_
      exact ih4 (i + 1) 0 ⟨by omega, by first | (rw [if_pos (by simp only [mxN]; omega)]; done) | (rw [if_neg (by simp only [mxN]; omega)]; done)⟩ (by omega)
    · refine j_aload_n C dX9_fitsBelow_16 2 rfl 17 rfl ?_
      refine j_get C dX9_fitsBelow_17 0 0 1 inX9_fitsBelow_9 rfl rfl (by decide) rfl rfl rfl 20 rfl ?_
      refine j_iload_n C dX9_fitsBelow_20 0 rfl 21 rfl ?_
      refine j_ialdI C dX9_fitsBelow_21 1 rfl (by omega) (Nat.le_of_ble_eq_true rfl) (nI (g i)) (stA_row (by omega)) 22 rfl ?_
      refine j_top (nI (q i)) (by rw [hq i (by omega)]) ?_
      have hqi := hg i (by omega)
      refine j_iload_n C dX9_fitsBelow_22 3 rfl 23 rfl ?_
      refine j_icmp_gt C dX9_fitsBelow_23 30 (by decide) (q_t (by omega)) (q_t (by omega)) 26 rfl (fun h23 => ?_) (fun h23 => ?_)
      · refine j_iconst C dX9_fitsBelow_30 (nI 0) (by decide) 31 rfl ?_
        refine j_istore_n C dX9_fitsBelow_31 [(2, .int (nI 0)), (3, .int (nI i)), (0, .ref m), (1, .int (nI tp))] (by decide) rfl 32 rfl ?_
        refine j_iinc C dX9_fitsBelow_32 1 rfl (nI (i + 1)) (nI_1 (i)) [(3, .int (nI (i + 1))), (2, .int (nI 0)), (0, .ref m), (1, .int (nI tp))] (by decide) rfl 35 rfl ?_
        refine j_goto C dX9_fitsBelow_35 4 (by decide) ?_
        exact ih4 (i + 1) 0 ⟨by omega, by first | (rw [if_pos (by simp only [mxN]; omega)]; done) | (rw [if_neg (by simp only [mxN]; omega)]; done)⟩ (by omega)
      · refine j_iconst C dX9_fitsBelow_26 (nI 1) (by decide) 27 rfl ?_
        refine j_goto C dX9_fitsBelow_27 31 (by decide) ?_
        refine j_istore_n C dX9_fitsBelow_31 [(2, .int (nI 1)), (3, .int (nI i)), (0, .ref m), (1, .int (nI tp))] (by decide) rfl 32 rfl ?_
        refine j_iinc C dX9_fitsBelow_32 1 rfl (nI (i + 1)) (nI_1 (i)) [(3, .int (nI (i + 1))), (2, .int (nI 1)), (0, .ref m), (1, .int (nI tp))] (by decide) rfl 35 rfl ?_
        refine j_goto C dX9_fitsBelow_35 4 (by decide) ?_
        exact ih4 (i + 1) 1 ⟨by omega, by first | (rw [if_pos (by simp only [mxN]; omega)]; done) | (rw [if_neg (by simp only [mxN]; omega)]; done)⟩ (by omega)
set_option maxHeartbeats 4000000 in
set_option maxRecDepth 100000 in
theorem c_X9_segmentLong (l : Launch) (D : va_G) (cI cZ cH : ClassId) (m sa ia ka ra ba bm la ha ap wr wa go : Nat) (w sz ev n : Nat) (g : Nat → Nat) (L : Nat) (t : Nat → Nat) (x : Nat) (y z : Int32)  : Mi l D cI cZ cH yX9_segmentLong wsX9_segmentLong 0 0 [.ref m] [(m, .inr (9, [.ref sa, .ref ia, .ref ka, .ref ra, .ref ba, .int (nI bm), .ref la, .ref ha, .int (nI ap), .int (nI wr), .int (nI wa), .int (nI go)])), (sa, .inl (cI, 1072, .inl (stA w sz ev n g L t x y z)))] (fun (r9 : Int32) (_ : Unit) => r9 = nI (sz * ev)) (fun (_ : Unit) => [(m, .inr (9, [.ref sa, .ref ia, .ref ka, .ref ra, .ref ba, .int (nI bm), .ref la, .ref ha, .int (nI ap), .int (nI wr), .int (nI wa), .int (nI go)])), (sa, .inl (cI, 1072, .inl (stA w sz ev n g L t x y z)))]) := by
  refine Mi.start (cc := cX9_segmentLong) (nL := 1) (ret := (some .int)) (lv0 := [(0, .ref m)]) (by decide) rfl (Nat.le_of_ble_eq_true rfl) rfl ?_
  intro pX eX sX mX bX methX cX AX C
  refine j_aload_n C dX9_segmentLong_0 0 rfl 1 rfl ?_
  refine j_get C dX9_segmentLong_1 0 0 1 inX9_segmentLong_9 rfl rfl (by decide) rfl rfl rfl 4 rfl ?_
  refine j_sipush C dX9_segmentLong_4 (nI 1067) (by decide) 7 rfl ?_
  refine j_ialdI C dX9_segmentLong_7 1 rfl (Nat.le_of_ble_eq_true rfl) (Nat.le_of_ble_eq_true rfl) (nI sz) rfl 8 rfl ?_
  refine j_aload_n C dX9_segmentLong_8 0 rfl 9 rfl ?_
  refine j_get C dX9_segmentLong_9 0 0 1 inX9_segmentLong_9 rfl rfl (by decide) rfl rfl rfl 12 rfl ?_
  refine j_sipush C dX9_segmentLong_12 (nI 1068) (by decide) 15 rfl ?_
  refine j_ialdI C dX9_segmentLong_15 1 rfl (Nat.le_of_ble_eq_true rfl) (Nat.le_of_ble_eq_true rfl) (nI ev) rfl 16 rfl ?_
  refine j_imul C dX9_segmentLong_16 (nI (sz * ev)) (pk_mul sz ev) 17 rfl ?_
  exact j_iret C dX9_segmentLong_17 () rfl rfl
set_option maxHeartbeats 4000000 in
set_option maxRecDepth 100000 in
theorem c_X9_isBare (l : Launch) (D : va_G) (cI cZ cH : ClassId) (m sa ia ka ra ba bm la ha ap wr wa go : Nat) (w sz ev n : Nat) (g : Nat → Nat) (L : Nat) (t : Nat → Nat) (x : Nat) (y z : Int32) (i : Nat) (hsz : 1 ≤ sz ∧ sz ≤ 8) (hev : 1 ≤ ev ∧ ev ≤ 8) (hi : i < 2 ^ 30) : Mi l D cI cZ cH yX9_isBare wsX9_isBare 1 20 [.ref m, .int (nI i)] [(m, .inr (9, [.ref sa, .ref ia, .ref ka, .ref ra, .ref ba, .int (nI bm), .ref la, .ref ha, .int (nI ap), .int (nI wr), .int (nI wa), .int (nI go)])), (sa, .inl (cI, 1072, .inl (stA w sz ev n g L t x y z)))] (fun (r9 : Int32) (_ : Unit) => r9 = (if i % (sz * ev) = 0 then 1 else 0)) (fun (_ : Unit) => [(m, .inr (9, [.ref sa, .ref ia, .ref ka, .ref ra, .ref ba, .int (nI bm), .ref la, .ref ha, .int (nI ap), .int (nI wr), .int (nI wa), .int (nI go)])), (sa, .inl (cI, 1072, .inl (stA w sz ev n g L t x y z)))]) := by
  refine Mi.start (cc := cX9_isBare) (nL := 2) (ret := (some .boolean)) (lv0 := [(0, .ref m), (1, .int (nI i))]) (by decide) rfl (Nat.le_of_ble_eq_true rfl) rfl ?_
  intro pX eX sX mX bX methX cX AX C
  have hse := seB hsz.1 hsz.2 hev.1 hev.2
  refine j_iload_n C dX9_isBare_0 1 rfl 1 rfl ?_
  refine j_aload_n C dX9_isBare_1 0 rfl 2 rfl ?_
  refine j_callVi1 (As := []) (rest := [.int (nI i)]) (wr := []) C (c_X9_segmentLong l D cI cZ cH m sa ia ka ra ba bm la ha ap wr wa go w sz ev n g L t x y z ) gX9_isBare_X9_segmentLong dX9_isBare_2 rfl yd_X9_segmentLong (Nat.le_of_ble_eq_true rfl) (Nat.le_of_ble_eq_true rfl) rfl rfl rfl _ rfl (Nat.le_of_ble_eq_true rfl) (Nat.zero_le _) (Nat.zero_le _) [0, 1] [] rfl rfl rfl rfl rfl (by decide) [0, 1] [(m, .inr (9, [.ref sa, .ref ia, .ref ka, .ref ra, .ref ba, .int (nI bm), .ref la, .ref ha, .int (nI ap), .int (nI wr), .int (nI wa), .int (nI go)])), (sa, .inl (cI, 1072, .inl (stA w sz ev n g L t x y z)))] rfl rfl rfl 5 rfl ?_
  refine j_irem C dX9_isBare_5 (nz (by omega) (by omega)) (nI (i % (sz * ev))) (pk_rem (by omega) (by omega) (by omega)) 6 rfl ?_
  have hmod5 := Nat.mod_lt i (show 0 < (sz * ev) by omega)
  refine j_if_ne C dX9_isBare_6 13 (by decide) (q_t (by omega)) 9 rfl (fun h6 => ?_) (fun h6 => ?_)
  · refine j_iconst C dX9_isBare_13 (nI 0) (by decide) 14 rfl ?_
    exact j_zret C dX9_isBare_14 rfl () (show (nI 0 : Int32) = (if i % (sz * ev) = 0 then 1 else 0) from by first | rfl | omega | ((repeat' split) <;> first | rfl | omega | (exfalso; omega))) rfl
  · refine j_iconst C dX9_isBare_9 (nI 1) (by decide) 10 rfl ?_
    refine j_goto C dX9_isBare_10 14 (by decide) ?_
    exact j_zret C dX9_isBare_14 rfl () (show (nI 1 : Int32) = (if i % (sz * ev) = 0 then 1 else 0) from by first | rfl | omega | ((repeat' split) <;> first | rfl | omega | (exfalso; omega))) rfl
set_option maxHeartbeats 4000000 in
set_option maxRecDepth 100000 in
theorem c_X9_expected (l : Launch) (D : va_G) (cI cZ cH : ClassId) (m sa ia ka ra ba bm la ha ap wr wa go : Nat) (w sz ev n : Nat) (g : Nat → Nat) (L : Nat) (t : Nat → Nat) (x : Nat) (y z : Int32) (rf q : Nat → Nat) (i way : Nat) (hw : 2 ≤ w ∧ w ≤ 8) (hsz : 1 ≤ sz ∧ sz ≤ 8) (hev : 1 ≤ ev ∧ ev ≤ 8) (hrq : ∀ j, j < i → rf j = q j) (hq : ∀ j, j < i → q j ≤ tpW w) (hi : 1 ≤ i) (hi64 : i ≤ 64) (hway : way ≤ 3) : Mi l D cI cZ cH yX9_expected wsX9_expected 2 41 [.ref m, .int (nI i), .int (nI way)] [(m, .inr (9, [.ref sa, .ref ia, .ref ka, .ref ra, .ref ba, .int (nI bm), .ref la, .ref ha, .int (nI ap), .int (nI wr), .int (nI wa), .int (nI go)])), (sa, .inl (cI, 1072, .inl (stA w sz ev n g L t x y z))), (ra, .inl (cI, 64, .inl (aN rf)))] (fun (r9 : Int32) (_ : Unit) => r9 = nI (told w sz ev q i way)) (fun (_ : Unit) => [(m, .inr (9, [.ref sa, .ref ia, .ref ka, .ref ra, .ref ba, .int (nI bm), .ref la, .ref ha, .int (nI ap), .int (nI wr), .int (nI wa), .int (nI go)])), (sa, .inl (cI, 1072, .inl (stA w sz ev n g L t x y z))), (ra, .inl (cI, 64, .inl (aN rf)))]) := by
  refine Mi.start (cc := cX9_expected) (nL := 6) (ret := (some .int)) (lv0 := [(0, .ref m), (1, .int (nI i)), (2, .int (nI way))]) (by decide) rfl (Nat.le_of_ble_eq_true rfl) rfl ?_
  intro pX eX sX mX bX methX cX AX C
  have ht := tpW_le hw.2
  have hqa := hq (i - 1) (by omega)
  refine j_aload_n C dX9_expected_0 0 rfl 1 rfl ?_
  refine j_get C dX9_expected_1 0 3 1 inX9_expected_9 rfl rfl (by decide) rfl rfl rfl 4 rfl ?_
  refine j_iload_n C dX9_expected_4 1 rfl 5 rfl ?_
  refine j_iconst C dX9_expected_5 (nI 1) (by decide) 6 rfl ?_
  refine j_isub C dX9_expected_6 (nI (i - 1)) (pk_sub (by omega)) 7 rfl ?_
  refine j_iald C dX9_expected_7 2 rfl (by omega) (Nat.le_of_ble_eq_true rfl) 8 rfl ?_
  refine j_top (nI (q (i - 1))) (by rw [hrq _ (by omega)]) ?_
  refine j_istore_n C dX9_expected_8 [(3, .int (nI (q (i - 1)))), (0, .ref m), (1, .int (nI i)), (2, .int (nI way))] (by decide) rfl 9 rfl ?_
  refine j_aload_n C dX9_expected_9 1 rfl 10 rfl ?_
  refine j_iload_n C dX9_expected_10 2 rfl 11 rfl ?_
  refine j_iconst C dX9_expected_11 (nI 1) (by decide) 12 rfl ?_
  refine j_isub C dX9_expected_12 (nI (i - 1)) (pk_sub (by omega)) 13 rfl ?_
  refine j_callVi1 (As := [.int (nI (i - 1))]) (rest := []) (wr := [(ra, .inl (cI, 64, .inl (aN rf)))]) C (c_X9_isBare l D cI cZ cH m sa ia ka ra ba bm la ha ap wr wa go w sz ev n g L t x y z (i - 1) (by omega) (by omega) (by omega)) gX9_expected_X9_isBare dX9_expected_13 rfl yd_X9_isBare (Nat.le_of_ble_eq_true rfl) (Nat.le_of_ble_eq_true rfl) rfl rfl rfl _ rfl (Nat.le_of_ble_eq_true rfl) (Nat.zero_le _) (Nat.zero_le _) [0, 1] [2] rfl rfl rfl rfl rfl (by decide) [1, 2, 0] [(m, .inr (9, [.ref sa, .ref ia, .ref ka, .ref ra, .ref ba, .int (nI bm), .ref la, .ref ha, .int (nI ap), .int (nI wr), .int (nI wa), .int (nI go)])), (sa, .inl (cI, 1072, .inl (stA w sz ev n g L t x y z))), (ra, .inl (cI, 64, .inl (aN rf)))] rfl rfl rfl 16 rfl ?_
  refine j_ifb_eq C dX9_expected_16 23 (by decide) 19 rfl (fun h16 => ?_) (fun h16 => ?_)
  · have hi2 : 2 ≤ i := by have h9 := pos_of_mod h16; omega
    have hb2 := hq (i - 2) (by omega)
    refine j_aload_n C dX9_expected_23 1 rfl 24 rfl ?_
    refine j_get C dX9_expected_24 0 3 1 inX9_expected_9 rfl rfl (by decide) rfl rfl rfl 27 rfl ?_
    refine j_iload_n C dX9_expected_27 2 rfl 28 rfl ?_
    refine j_iconst C dX9_expected_28 (nI 2) (by decide) 29 rfl ?_
    refine j_isub C dX9_expected_29 (nI (i - 2)) (pk_sub (by omega)) 30 rfl ?_
    refine j_iald C dX9_expected_30 2 rfl (by omega) (Nat.le_of_ble_eq_true rfl) 31 rfl ?_
    refine j_top (nI (q (i - 2))) (by rw [hrq _ (by omega)]) ?_
    refine j_istore C dX9_expected_31 [(4, .int (nI (q (i - 2)))), (3, .int (nI (q (i - 1)))), (0, .ref m), (1, .int (nI i)), (2, .int (nI way))] (by decide) rfl 33 rfl ?_
    refine j_iconst C dX9_expected_33 (nI 2) (by decide) 34 rfl ?_
    refine j_iload_n C dX9_expected_34 1 rfl 35 rfl ?_
    refine j_imul C dX9_expected_35 (nI (2 * (q (i - 1)))) (pk_mul 2 (q (i - 1))) 36 rfl ?_
    refine j_iload C dX9_expected_36 0 rfl 38 rfl ?_
    refine j_isub C dX9_expected_38 (nI (2 * (q (i - 1))) - nI (q (i - 2))) rfl 39 rfl ?_
    refine j_istore C dX9_expected_39 [(5, .int (nI (2 * (q (i - 1))) - nI (q (i - 2)))), (4, .int (nI (q (i - 2)))), (3, .int (nI (q (i - 1)))), (0, .ref m), (1, .int (nI i)), (2, .int (nI way))] (by decide) rfl 41 rfl ?_
    refine j_iload_n C dX9_expected_41 5 rfl 42 rfl ?_
    have hsw42 : ((way : Nat) : Int) = 0 ∨ ((way : Nat) : Int) = 1 ∨ ((way : Nat) : Int) = 2 ∨ (((way : Nat) : Int) < 0 ∨ 2 < ((way : Nat) : Int)) := by omega
    rcases hsw42 with h42 | h42 | h42 | h42
    · refine j_tabIn C dX9_expected_42 0 ((q_t (by omega)).trans h42) (by decide) (by decide) (26) rfl 68 (by decide) ?_
      refine j_aload_n C dX9_expected_68 3 rfl 69 rfl ?_
      refine j_callVi1 (As := []) (rest := []) (wr := [(ra, .inl (cI, 64, .inl (aN rf)))]) C (c_X9_top l D cI cZ cH m sa ia ka ra ba bm la ha ap wr wa go w sz ev n g L t x y z (by omega)) gX9_expected_X9_top dX9_expected_69 rfl yd_X9_top (Nat.le_of_ble_eq_true rfl) (Nat.le_of_ble_eq_true rfl) rfl rfl rfl _ rfl (Nat.le_of_ble_eq_true rfl) (Nat.zero_le _) (Nat.zero_le _) [0, 1] [2] rfl rfl rfl rfl rfl (by decide) [1, 2, 0] [(m, .inr (9, [.ref sa, .ref ia, .ref ka, .ref ra, .ref ba, .int (nI bm), .ref la, .ref ha, .int (nI ap), .int (nI wr), .int (nI wa), .int (nI go)])), (sa, .inl (cI, 1072, .inl (stA w sz ev n g L t x y z))), (ra, .inl (cI, 64, .inl (aN rf)))] rfl rfl rfl 72 rfl ?_
      refine j_iconst C dX9_expected_72 (nI 1) (by decide) 73 rfl ?_
      refine j_iadd C dX9_expected_73 (nI (tpW w + 1)) (nI_add (tpW w) 1) 74 rfl ?_
      refine j_iconst C dX9_expected_74 (nI 2) (by decide) 75 rfl ?_
      refine j_idiv C dX9_expected_75 (nz (by omega) (by omega)) (nI ((tpW w + 1) / 2)) (pk_div (by omega) (by omega) (by omega)) 76 rfl ?_
      exact j_iret C dX9_expected_76 () (show (nI ((tpW w + 1) / 2) : Int32) = nI (told w sz ev q i way) from by (congr 1; simp only [told]; repeat' split) <;> omega) rfl
    · refine j_tabIn C dX9_expected_42 1 ((q_t (by omega)).trans h42) (by decide) (by decide) (35) rfl 77 (by decide) ?_
      refine j_iload_n C dX9_expected_77 2 rfl 78 rfl ?_
      exact j_iret C dX9_expected_78 () (show (nI (q (i - 1)) : Int32) = nI (told w sz ev q i way) from by (congr 1; simp only [told]; repeat' split) <;> omega) rfl
    · refine j_tabIn C dX9_expected_42 2 ((q_t (by omega)).trans h42) (by decide) (by decide) (37) rfl 79 (by decide) ?_
      refine j_iload C dX9_expected_79 0 rfl 81 rfl ?_
      refine j_if_ge C dX9_expected_81 88 (by decide) (pk_sub_toInt (by omega) (by omega)) 84 rfl (fun h81 => ?_) (fun h81 => ?_)
      · refine j_iload C dX9_expected_88 0 rfl 90 rfl ?_
        refine j_aload_n C dX9_expected_90 3 rfl 91 rfl ?_
        refine j_callVi1 (As := []) (rest := [.int (nI (2 * (q (i - 1))) - nI (q (i - 2)))]) (wr := [(ra, .inl (cI, 64, .inl (aN rf)))]) C (c_X9_top l D cI cZ cH m sa ia ka ra ba bm la ha ap wr wa go w sz ev n g L t x y z (by omega)) gX9_expected_X9_top dX9_expected_91 rfl yd_X9_top (Nat.le_of_ble_eq_true rfl) (Nat.le_of_ble_eq_true rfl) rfl rfl rfl _ rfl (Nat.le_of_ble_eq_true rfl) (Nat.zero_le _) (Nat.zero_le _) [0, 1] [2] rfl rfl rfl rfl rfl (by decide) [1, 2, 0] [(m, .inr (9, [.ref sa, .ref ia, .ref ka, .ref ra, .ref ba, .int (nI bm), .ref la, .ref ha, .int (nI ap), .int (nI wr), .int (nI wa), .int (nI go)])), (sa, .inl (cI, 1072, .inl (stA w sz ev n g L t x y z))), (ra, .inl (cI, 64, .inl (aN rf)))] rfl rfl rfl 94 rfl ?_
        refine j_icmp_le C dX9_expected_94 104 (by decide) (pk_sub_toInt (by omega) (by omega)) (q_t (by omega)) 97 rfl (fun h94 => ?_) (fun h94 => ?_)
        · refine j_lveq [(5, .int (nI ((2 * (q (i - 1))) - (q (i - 2))))), (4, .int (nI (q (i - 2)))), (3, .int (nI (q (i - 1)))), (0, .ref m), (1, .int (nI i)), (2, .int (nI way))] (by rw [pk_sub (by omega)]) ?_
          refine j_iload C dX9_expected_104 0 rfl 106 rfl ?_
          exact j_iret C dX9_expected_106 () (show (nI ((2 * (q (i - 1))) - (q (i - 2))) : Int32) = nI (told w sz ev q i way) from by (congr 1; simp only [told]; repeat' split) <;> omega) rfl
        · refine j_aload_n C dX9_expected_97 3 rfl 98 rfl ?_
          refine j_callVi1 (As := []) (rest := []) (wr := [(ra, .inl (cI, 64, .inl (aN rf)))]) C (c_X9_top l D cI cZ cH m sa ia ka ra ba bm la ha ap wr wa go w sz ev n g L t x y z (by omega)) gX9_expected_X9_top dX9_expected_98 rfl yd_X9_top (Nat.le_of_ble_eq_true rfl) (Nat.le_of_ble_eq_true rfl) rfl rfl rfl _ rfl (Nat.le_of_ble_eq_true rfl) (Nat.zero_le _) (Nat.zero_le _) [0, 1] [2] rfl rfl rfl rfl rfl (by decide) [1, 2, 0] [(m, .inr (9, [.ref sa, .ref ia, .ref ka, .ref ra, .ref ba, .int (nI bm), .ref la, .ref ha, .int (nI ap), .int (nI wr), .int (nI wa), .int (nI go)])), (sa, .inl (cI, 1072, .inl (stA w sz ev n g L t x y z))), (ra, .inl (cI, 64, .inl (aN rf)))] rfl rfl rfl 101 rfl ?_
          refine j_goto C dX9_expected_101 106 (by decide) ?_
          exact j_iret C dX9_expected_106 () (show (nI (tpW w) : Int32) = nI (told w sz ev q i way) from by (congr 1; simp only [told]; repeat' split) <;> omega) rfl
      · refine j_iconst C dX9_expected_84 (nI 0) (by decide) 85 rfl ?_
        refine j_goto C dX9_expected_85 106 (by decide) ?_
        exact j_iret C dX9_expected_106 () (show (nI 0 : Int32) = nI (told w sz ev q i way) from by (congr 1; simp only [told]; repeat' split) <;> omega) rfl
    · refine j_tabOut C dX9_expected_42 (((way : Nat) : Int)) (q_t (by omega)) h42 107 (by decide) ?_
      refine j_iload_n C dX9_expected_107 2 rfl 108 rfl ?_
      refine j_iload C dX9_expected_108 1 rfl 110 rfl ?_
      refine j_iadd C dX9_expected_110 (nI (q (i - 1) + (q (i - 2)))) (nI_add (q (i - 1)) (q (i - 2))) 111 rfl ?_
      refine j_iconst C dX9_expected_111 (nI 2) (by decide) 112 rfl ?_
      refine j_idiv C dX9_expected_112 (nz (by omega) (by omega)) (nI ((q (i - 1) + (q (i - 2))) / 2)) (pk_div (by omega) (by omega) (by omega)) 113 rfl ?_
      exact j_iret C dX9_expected_113 () (show (nI ((q (i - 1) + (q (i - 2))) / 2) : Int32) = nI (told w sz ev q i way) from by (congr 1; simp only [told]; repeat' split) <;> omega) rfl
  · refine j_iload_n C dX9_expected_19 0 rfl 20 rfl ?_
    refine j_goto C dX9_expected_20 31 (by decide) ?_
    refine j_istore C dX9_expected_31 [(4, .int (nI (q (i - 1)))), (3, .int (nI (q (i - 1)))), (0, .ref m), (1, .int (nI i)), (2, .int (nI way))] (by decide) rfl 33 rfl ?_
    refine j_iconst C dX9_expected_33 (nI 2) (by decide) 34 rfl ?_
    refine j_iload_n C dX9_expected_34 1 rfl 35 rfl ?_
    refine j_imul C dX9_expected_35 (nI (2 * (q (i - 1)))) (pk_mul 2 (q (i - 1))) 36 rfl ?_
    refine j_iload C dX9_expected_36 0 rfl 38 rfl ?_
    refine j_isub C dX9_expected_38 (nI (2 * (q (i - 1))) - nI (q (i - 1))) rfl 39 rfl ?_
    refine j_istore C dX9_expected_39 [(5, .int (nI (2 * (q (i - 1))) - nI (q (i - 1)))), (4, .int (nI (q (i - 1)))), (3, .int (nI (q (i - 1)))), (0, .ref m), (1, .int (nI i)), (2, .int (nI way))] (by decide) rfl 41 rfl ?_
    refine j_iload_n C dX9_expected_41 5 rfl 42 rfl ?_
    have hsw42 : ((way : Nat) : Int) = 0 ∨ ((way : Nat) : Int) = 1 ∨ ((way : Nat) : Int) = 2 ∨ (((way : Nat) : Int) < 0 ∨ 2 < ((way : Nat) : Int)) := by omega
    rcases hsw42 with h42 | h42 | h42 | h42
    · refine j_tabIn C dX9_expected_42 0 ((q_t (by omega)).trans h42) (by decide) (by decide) (26) rfl 68 (by decide) ?_
      refine j_aload_n C dX9_expected_68 3 rfl 69 rfl ?_
      refine j_callVi1 (As := []) (rest := []) (wr := [(ra, .inl (cI, 64, .inl (aN rf)))]) C (c_X9_top l D cI cZ cH m sa ia ka ra ba bm la ha ap wr wa go w sz ev n g L t x y z (by omega)) gX9_expected_X9_top dX9_expected_69 rfl yd_X9_top (Nat.le_of_ble_eq_true rfl) (Nat.le_of_ble_eq_true rfl) rfl rfl rfl _ rfl (Nat.le_of_ble_eq_true rfl) (Nat.zero_le _) (Nat.zero_le _) [0, 1] [2] rfl rfl rfl rfl rfl (by decide) [1, 2, 0] [(m, .inr (9, [.ref sa, .ref ia, .ref ka, .ref ra, .ref ba, .int (nI bm), .ref la, .ref ha, .int (nI ap), .int (nI wr), .int (nI wa), .int (nI go)])), (sa, .inl (cI, 1072, .inl (stA w sz ev n g L t x y z))), (ra, .inl (cI, 64, .inl (aN rf)))] rfl rfl rfl 72 rfl ?_
      refine j_iconst C dX9_expected_72 (nI 1) (by decide) 73 rfl ?_
      refine j_iadd C dX9_expected_73 (nI (tpW w + 1)) (nI_add (tpW w) 1) 74 rfl ?_
      refine j_iconst C dX9_expected_74 (nI 2) (by decide) 75 rfl ?_
      refine j_idiv C dX9_expected_75 (nz (by omega) (by omega)) (nI ((tpW w + 1) / 2)) (pk_div (by omega) (by omega) (by omega)) 76 rfl ?_
      exact j_iret C dX9_expected_76 () (show (nI ((tpW w + 1) / 2) : Int32) = nI (told w sz ev q i way) from by (congr 1; simp only [told]; repeat' split) <;> omega) rfl
    · refine j_tabIn C dX9_expected_42 1 ((q_t (by omega)).trans h42) (by decide) (by decide) (35) rfl 77 (by decide) ?_
      refine j_iload_n C dX9_expected_77 2 rfl 78 rfl ?_
      exact j_iret C dX9_expected_78 () (show (nI (q (i - 1)) : Int32) = nI (told w sz ev q i way) from by (congr 1; simp only [told]; repeat' split) <;> omega) rfl
    · refine j_tabIn C dX9_expected_42 2 ((q_t (by omega)).trans h42) (by decide) (by decide) (37) rfl 79 (by decide) ?_
      refine j_iload C dX9_expected_79 0 rfl 81 rfl ?_
      refine j_if_ge C dX9_expected_81 88 (by decide) (pk_sub_toInt (by omega) (by omega)) 84 rfl (fun h81 => ?_) (fun h81 => ?_)
      · refine j_iload C dX9_expected_88 0 rfl 90 rfl ?_
        refine j_aload_n C dX9_expected_90 3 rfl 91 rfl ?_
        refine j_callVi1 (As := []) (rest := [.int (nI (2 * (q (i - 1))) - nI (q (i - 1)))]) (wr := [(ra, .inl (cI, 64, .inl (aN rf)))]) C (c_X9_top l D cI cZ cH m sa ia ka ra ba bm la ha ap wr wa go w sz ev n g L t x y z (by omega)) gX9_expected_X9_top dX9_expected_91 rfl yd_X9_top (Nat.le_of_ble_eq_true rfl) (Nat.le_of_ble_eq_true rfl) rfl rfl rfl _ rfl (Nat.le_of_ble_eq_true rfl) (Nat.zero_le _) (Nat.zero_le _) [0, 1] [2] rfl rfl rfl rfl rfl (by decide) [1, 2, 0] [(m, .inr (9, [.ref sa, .ref ia, .ref ka, .ref ra, .ref ba, .int (nI bm), .ref la, .ref ha, .int (nI ap), .int (nI wr), .int (nI wa), .int (nI go)])), (sa, .inl (cI, 1072, .inl (stA w sz ev n g L t x y z))), (ra, .inl (cI, 64, .inl (aN rf)))] rfl rfl rfl 94 rfl ?_
        refine j_icmp_le C dX9_expected_94 104 (by decide) (pk_sub_toInt (by omega) (by omega)) (q_t (by omega)) 97 rfl (fun h94 => ?_) (fun h94 => ?_)
        · refine j_lveq [(5, .int (nI ((2 * (q (i - 1))) - (q (i - 1))))), (4, .int (nI (q (i - 1)))), (3, .int (nI (q (i - 1)))), (0, .ref m), (1, .int (nI i)), (2, .int (nI way))] (by rw [pk_sub (by omega)]) ?_
          refine j_iload C dX9_expected_104 0 rfl 106 rfl ?_
          exact j_iret C dX9_expected_106 () (show (nI ((2 * (q (i - 1))) - (q (i - 1))) : Int32) = nI (told w sz ev q i way) from by (congr 1; simp only [told]; repeat' split) <;> omega) rfl
        · refine j_aload_n C dX9_expected_97 3 rfl 98 rfl ?_
          refine j_callVi1 (As := []) (rest := []) (wr := [(ra, .inl (cI, 64, .inl (aN rf)))]) C (c_X9_top l D cI cZ cH m sa ia ka ra ba bm la ha ap wr wa go w sz ev n g L t x y z (by omega)) gX9_expected_X9_top dX9_expected_98 rfl yd_X9_top (Nat.le_of_ble_eq_true rfl) (Nat.le_of_ble_eq_true rfl) rfl rfl rfl _ rfl (Nat.le_of_ble_eq_true rfl) (Nat.zero_le _) (Nat.zero_le _) [0, 1] [2] rfl rfl rfl rfl rfl (by decide) [1, 2, 0] [(m, .inr (9, [.ref sa, .ref ia, .ref ka, .ref ra, .ref ba, .int (nI bm), .ref la, .ref ha, .int (nI ap), .int (nI wr), .int (nI wa), .int (nI go)])), (sa, .inl (cI, 1072, .inl (stA w sz ev n g L t x y z))), (ra, .inl (cI, 64, .inl (aN rf)))] rfl rfl rfl 101 rfl ?_
          refine j_goto C dX9_expected_101 106 (by decide) ?_
          exact j_iret C dX9_expected_106 () (show (nI (tpW w) : Int32) = nI (told w sz ev q i way) from by (congr 1; simp only [told]; repeat' split) <;> omega) rfl
      · refine j_iconst C dX9_expected_84 (nI 0) (by decide) 85 rfl ?_
        refine j_goto C dX9_expected_85 106 (by decide) ?_
        exact j_iret C dX9_expected_106 () (show (nI 0 : Int32) = nI (told w sz ev q i way) from by (congr 1; simp only [told]; repeat' split) <;> omega) rfl
    · refine j_tabOut C dX9_expected_42 (((way : Nat) : Int)) (q_t (by omega)) h42 107 (by decide) ?_
      refine j_iload_n C dX9_expected_107 2 rfl 108 rfl ?_
      refine j_iload C dX9_expected_108 1 rfl 110 rfl ?_
      refine j_iadd C dX9_expected_110 (nI (q (i - 1) + (q (i - 1)))) (nI_add (q (i - 1)) (q (i - 1))) 111 rfl ?_
      refine j_iconst C dX9_expected_111 (nI 2) (by decide) 112 rfl ?_
      refine j_idiv C dX9_expected_112 (nz (by omega) (by omega)) (nI ((q (i - 1) + (q (i - 1))) / 2)) (pk_div (by omega) (by omega) (by omega)) 113 rfl ?_
      exact j_iret C dX9_expected_113 () (show (nI ((q (i - 1) + (q (i - 1))) / 2) : Int32) = nI (told w sz ev q i way) from by (congr 1; simp only [told]; repeat' split) <;> omega) rfl
set_option maxHeartbeats 4000000 in
set_option maxRecDepth 100000 in
theorem c_X9_room (l : Launch) (D : va_G) (cI cZ cH : ClassId) (m sa ia ka ra ba bm la ha ap wr wa go : Nat) (w sz ev n : Nat) (g : Nat → Nat) (L : Nat) (t : Nat → Nat) (x : Nat) (y z : Int32) (e : Nat) (hw : w ≤ 8) (he : e ≤ tpW w) : Mi l D cI cZ cH yX9_room wsX9_room 1 20 [.ref m, .int (nI e)] [(m, .inr (9, [.ref sa, .ref ia, .ref ka, .ref ra, .ref ba, .int (nI bm), .ref la, .ref ha, .int (nI ap), .int (nI wr), .int (nI wa), .int (nI go)])), (sa, .inl (cI, 1072, .inl (stA w sz ev n g L t x y z)))] (fun (r9 : Int32) (_ : Unit) => r9 = nI (min e (tpW w - e))) (fun (_ : Unit) => [(m, .inr (9, [.ref sa, .ref ia, .ref ka, .ref ra, .ref ba, .int (nI bm), .ref la, .ref ha, .int (nI ap), .int (nI wr), .int (nI wa), .int (nI go)])), (sa, .inl (cI, 1072, .inl (stA w sz ev n g L t x y z)))]) := by
  refine Mi.start (cc := cX9_room) (nL := 2) (ret := (some .int)) (lv0 := [(0, .ref m), (1, .int (nI e))]) (by decide) rfl (Nat.le_of_ble_eq_true rfl) rfl ?_
  intro pX eX sX mX bX methX cX AX C
  have ht := tpW_le hw
  refine j_iload_n C dX9_room_0 1 rfl 1 rfl ?_
  refine j_aload_n C dX9_room_1 0 rfl 2 rfl ?_
  refine j_callVi1 (As := []) (rest := [.int (nI e)]) (wr := []) C (c_X9_top l D cI cZ cH m sa ia ka ra ba bm la ha ap wr wa go w sz ev n g L t x y z (by omega)) gX9_room_X9_top dX9_room_2 rfl yd_X9_top (Nat.le_of_ble_eq_true rfl) (Nat.le_of_ble_eq_true rfl) rfl rfl rfl _ rfl (Nat.le_of_ble_eq_true rfl) (Nat.zero_le _) (Nat.zero_le _) [0, 1] [] rfl rfl rfl rfl rfl (by decide) [0, 1] [(m, .inr (9, [.ref sa, .ref ia, .ref ka, .ref ra, .ref ba, .int (nI bm), .ref la, .ref ha, .int (nI ap), .int (nI wr), .int (nI wa), .int (nI go)])), (sa, .inl (cI, 1072, .inl (stA w sz ev n g L t x y z)))] rfl rfl rfl 5 rfl ?_
  refine j_iload_n C dX9_room_5 1 rfl 6 rfl ?_
  refine j_isub C dX9_room_6 (nI ((tpW w) - e)) (pk_sub (by omega)) 7 rfl ?_
  refine j_icmp_ge C dX9_room_7 14 (by decide) (q_t (by omega)) (q_t (by omega)) 10 rfl (fun h7 => ?_) (fun h7 => ?_)
  · refine j_aload_n C dX9_room_14 0 rfl 15 rfl ?_
    refine j_callVi1 (As := []) (rest := []) (wr := []) C (c_X9_top l D cI cZ cH m sa ia ka ra ba bm la ha ap wr wa go w sz ev n g L t x y z (by omega)) gX9_room_X9_top dX9_room_15 rfl yd_X9_top (Nat.le_of_ble_eq_true rfl) (Nat.le_of_ble_eq_true rfl) rfl rfl rfl _ rfl (Nat.le_of_ble_eq_true rfl) (Nat.zero_le _) (Nat.zero_le _) [0, 1] [] rfl rfl rfl rfl rfl (by decide) [0, 1] [(m, .inr (9, [.ref sa, .ref ia, .ref ka, .ref ra, .ref ba, .int (nI bm), .ref la, .ref ha, .int (nI ap), .int (nI wr), .int (nI wa), .int (nI go)])), (sa, .inl (cI, 1072, .inl (stA w sz ev n g L t x y z)))] rfl rfl rfl 18 rfl ?_
    refine j_iload_n C dX9_room_18 1 rfl 19 rfl ?_
    refine j_isub C dX9_room_19 (nI ((tpW w) - e)) (pk_sub (by omega)) 20 rfl ?_
    exact j_iret C dX9_room_20 () (show (nI ((tpW w) - e) : Int32) = nI (min e (tpW w - e)) from by congr 1; omega) rfl
  · refine j_iload_n C dX9_room_10 1 rfl 11 rfl ?_
    refine j_goto C dX9_room_11 20 (by decide) ?_
    exact j_iret C dX9_room_20 () (show (nI e : Int32) = nI (min e (tpW w - e)) from by congr 1; omega) rfl
set_option maxHeartbeats 4000000 in
set_option maxRecDepth 100000 in
theorem c_X9_fold (l : Launch) (D : va_G) (cI cZ cH : ClassId) (m sa ia ka ra ba bm la ha ap wr wa go : Nat) (w sz ev n : Nat) (g : Nat → Nat) (L : Nat) (t : Nat → Nat) (x : Nat) (y z : Int32) (v e : Nat) (hw : w ≤ 8) (hv : v ≤ tpW w) (he : e ≤ tpW w) : Mi l D cI cZ cH yX9_fold wsX9_fold 2 41 [.ref m, .int (nI v), .int (nI e)] [(m, .inr (9, [.ref sa, .ref ia, .ref ka, .ref ra, .ref ba, .int (nI bm), .ref la, .ref ha, .int (nI ap), .int (nI wr), .int (nI wa), .int (nI go)])), (sa, .inl (cI, 1072, .inl (stA w sz ev n g L t x y z)))] (fun (r9 : Int32) (_ : Unit) => r9 = nI (foldN v e (tpW w))) (fun (_ : Unit) => [(m, .inr (9, [.ref sa, .ref ia, .ref ka, .ref ra, .ref ba, .int (nI bm), .ref la, .ref ha, .int (nI ap), .int (nI wr), .int (nI wa), .int (nI go)])), (sa, .inl (cI, 1072, .inl (stA w sz ev n g L t x y z)))]) := by
  refine Mi.start (cc := cX9_fold) (nL := 5) (ret := (some .int)) (lv0 := [(0, .ref m), (1, .int (nI v)), (2, .int (nI e))]) (by decide) rfl (Nat.le_of_ble_eq_true rfl) rfl ?_
  intro pX eX sX mX bX methX cX AX C
  have ht := tpW_le hw
  refine j_aload_n C dX9_fold_0 0 rfl 1 rfl ?_
  refine j_iload_n C dX9_fold_1 2 rfl 2 rfl ?_
  refine j_callVi1 (As := [.int (nI e)]) (rest := []) (wr := []) C (c_X9_room l D cI cZ cH m sa ia ka ra ba bm la ha ap wr wa go w sz ev n g L t x y z e (by omega) (by omega)) gX9_fold_X9_room dX9_fold_2 rfl yd_X9_room (Nat.le_of_ble_eq_true rfl) (Nat.le_of_ble_eq_true rfl) rfl rfl rfl _ rfl (Nat.le_of_ble_eq_true rfl) (Nat.zero_le _) (Nat.zero_le _) [0, 1] [] rfl rfl rfl rfl rfl (by decide) [0, 1] [(m, .inr (9, [.ref sa, .ref ia, .ref ka, .ref ra, .ref ba, .int (nI bm), .ref la, .ref ha, .int (nI ap), .int (nI wr), .int (nI wa), .int (nI go)])), (sa, .inl (cI, 1072, .inl (stA w sz ev n g L t x y z)))] rfl rfl rfl 5 rfl ?_
  refine j_istore_n C dX9_fold_5 [(3, .int (nI (min e (tpW w - e)))), (0, .ref m), (1, .int (nI v)), (2, .int (nI e))] (by decide) rfl 6 rfl ?_
  refine j_iload_n C dX9_fold_6 2 rfl 7 rfl ?_
  refine j_iload_n C dX9_fold_7 3 rfl 8 rfl ?_
  refine j_icmp_ge C dX9_fold_8 17 (by decide) (q_t (by omega)) (q_t (by omega)) 11 rfl (fun h8 => ?_) (fun h8 => ?_)
  · refine j_iload_n C dX9_fold_17 2 rfl 18 rfl ?_
    refine j_iload_n C dX9_fold_18 3 rfl 19 rfl ?_
    refine j_isub C dX9_fold_19 (nI (v - e)) (pk_sub (by omega)) 20 rfl ?_
    refine j_istore C dX9_fold_20 [(4, .int (nI (v - e))), (3, .int (nI (min e (tpW w - e)))), (0, .ref m), (1, .int (nI v)), (2, .int (nI e))] (by decide) rfl 22 rfl ?_
    refine j_iload C dX9_fold_22 0 rfl 24 rfl ?_
    refine j_iload_n C dX9_fold_24 1 rfl 25 rfl ?_
    refine j_icmp_le C dX9_fold_25 35 (by decide) (q_t (by omega)) (q_t (by omega)) 28 rfl (fun h25 => ?_) (fun h25 => ?_)
    · refine j_iload_n C dX9_fold_35 3 rfl 36 rfl ?_
      refine j_iload_n C dX9_fold_36 4 rfl 37 rfl ?_
      refine j_icmp_ge C dX9_fold_37 49 (by decide) (q_t (by omega)) (q_t (by omega)) 40 rfl (fun h37 => ?_) (fun h37 => ?_)
      · refine j_iconst C dX9_fold_49 (nI 2) (by decide) 50 rfl ?_
        refine j_iload C dX9_fold_50 0 rfl 52 rfl ?_
        refine j_imul C dX9_fold_52 (nI (2 * (v - e))) (pk_mul 2 (v - e)) 53 rfl ?_
        exact j_iret C dX9_fold_53 () (show (nI (2 * (v - e)) : Int32) = nI (foldN v e (tpW w)) from by (congr 1; simp only [foldN]; repeat' split) <;> omega) rfl
      · refine j_iconst C dX9_fold_40 (nI 2) (by decide) 41 rfl ?_
        refine j_iload C dX9_fold_41 0 rfl 43 rfl ?_
        refine j_imul C dX9_fold_43 (nI (2 * (v - e))) (pk_mul 2 (v - e)) 44 rfl ?_
        refine j_iconst C dX9_fold_44 (nI 1) (by decide) 45 rfl ?_
        refine j_isub C dX9_fold_45 (nI ((2 * (v - e)) - 1)) (pk_sub (by omega)) 46 rfl ?_
        refine j_goto C dX9_fold_46 53 (by decide) ?_
        exact j_iret C dX9_fold_53 () (show (nI ((2 * (v - e)) - 1) : Int32) = nI (foldN v e (tpW w)) from by (congr 1; simp only [foldN]; repeat' split) <;> omega) rfl
    · refine j_iload_n C dX9_fold_28 1 rfl 29 rfl ?_
      refine j_iload C dX9_fold_29 0 rfl 31 rfl ?_
      refine j_iadd C dX9_fold_31 (nI (min e (tpW w - e) + (v - e))) (nI_add (min e (tpW w - e)) (v - e)) 32 rfl ?_
      refine j_goto C dX9_fold_32 53 (by decide) ?_
      exact j_iret C dX9_fold_53 () (show (nI (min e (tpW w - e) + (v - e)) : Int32) = nI (foldN v e (tpW w)) from by (congr 1; simp only [foldN]; repeat' split) <;> omega) rfl
  · refine j_iload_n C dX9_fold_11 3 rfl 12 rfl ?_
    refine j_iload_n C dX9_fold_12 2 rfl 13 rfl ?_
    refine j_isub C dX9_fold_13 (nI (e - v)) (pk_sub (by omega)) 14 rfl ?_
    refine j_goto C dX9_fold_14 20 (by decide) ?_
    refine j_istore C dX9_fold_20 [(4, .int (nI (e - v))), (3, .int (nI (min e (tpW w - e)))), (0, .ref m), (1, .int (nI v)), (2, .int (nI e))] (by decide) rfl 22 rfl ?_
    refine j_iload C dX9_fold_22 0 rfl 24 rfl ?_
    refine j_iload_n C dX9_fold_24 1 rfl 25 rfl ?_
    refine j_icmp_le C dX9_fold_25 35 (by decide) (q_t (by omega)) (q_t (by omega)) 28 rfl (fun h25 => ?_) (fun h25 => ?_)
    · refine j_iload_n C dX9_fold_35 3 rfl 36 rfl ?_
      refine j_iload_n C dX9_fold_36 4 rfl 37 rfl ?_
      refine j_icmp_ge C dX9_fold_37 49 (by decide) (q_t (by omega)) (q_t (by omega)) 40 rfl (fun h37 => ?_) (fun h37 => ?_)
      · refine j_iconst C dX9_fold_49 (nI 2) (by decide) 50 rfl ?_
        refine j_iload C dX9_fold_50 0 rfl 52 rfl ?_
        refine j_imul C dX9_fold_52 (nI (2 * (e - v))) (pk_mul 2 (e - v)) 53 rfl ?_
        exact j_iret C dX9_fold_53 () (show (nI (2 * (e - v)) : Int32) = nI (foldN v e (tpW w)) from by (congr 1; simp only [foldN]; repeat' split) <;> omega) rfl
      · refine j_iconst C dX9_fold_40 (nI 2) (by decide) 41 rfl ?_
        refine j_iload C dX9_fold_41 0 rfl 43 rfl ?_
        refine j_imul C dX9_fold_43 (nI (2 * (e - v))) (pk_mul 2 (e - v)) 44 rfl ?_
        refine j_iconst C dX9_fold_44 (nI 1) (by decide) 45 rfl ?_
        refine j_isub C dX9_fold_45 (nI ((2 * (e - v)) - 1)) (pk_sub (by omega)) 46 rfl ?_
        refine j_goto C dX9_fold_46 53 (by decide) ?_
        exact j_iret C dX9_fold_53 () (show (nI ((2 * (e - v)) - 1) : Int32) = nI (foldN v e (tpW w)) from by (congr 1; simp only [foldN]; repeat' split) <;> omega) rfl
    · refine j_iload_n C dX9_fold_28 1 rfl 29 rfl ?_
      refine j_iload C dX9_fold_29 0 rfl 31 rfl ?_
      refine j_iadd C dX9_fold_31 (nI (min e (tpW w - e) + (e - v))) (nI_add (min e (tpW w - e)) (e - v)) 32 rfl ?_
      refine j_goto C dX9_fold_32 53 (by decide) ?_
      exact j_iret C dX9_fold_53 () (show (nI (min e (tpW w - e) + (e - v)) : Int32) = nI (foldN v e (tpW w)) from by (congr 1; simp only [foldN]; repeat' split) <;> omega) rfl
set_option maxHeartbeats 4000000 in
set_option maxRecDepth 100000 in
theorem c_X9_unfoldOk (l : Launch) (D : va_G) (cI cZ cH : ClassId) (m sa ia ka ra ba bm la ha ap wr wa go : Nat) (w sz ev n : Nat) (g : Nat → Nat) (L : Nat) (t : Nat → Nat) (x : Nat) (y z : Int32) (f e : Nat) (hw : w ≤ 8) (hf : f ≤ tpW w) (he : e ≤ tpW w) : Mi l D cI cZ cH yX9_unfold wsX9_unfold 2 41 [.ref m, .int (nI f), .int (nI e)] [(m, .inr (9, [.ref sa, .ref ia, .ref ka, .ref ra, .ref ba, .int (nI bm), .ref la, .ref ha, .int (nI ap), .int (nI wr), .int (nI wa), .int (nI go)])), (sa, .inl (cI, 1072, .inl (stA w sz ev n g L t x y z)))] (fun (r9 : Int32) (_ : Unit) => r9 = nI (unfoldN f e (tpW w))) (fun (_ : Unit) => [(m, .inr (9, [.ref sa, .ref ia, .ref ka, .ref ra, .ref ba, .int (nI bm), .ref la, .ref ha, .int (nI ap), .int (nI wr), .int (nI wa), .int (nI go)])), (sa, .inl (cI, 1072, .inl (stA w sz ev n g L t x y z)))]) := by
  refine Mi.start (cc := cX9_unfold) (nL := 4) (ret := (some .int)) (lv0 := [(0, .ref m), (1, .int (nI f)), (2, .int (nI e))]) (by decide) rfl (Nat.le_of_ble_eq_true rfl) rfl ?_
  intro pX eX sX mX bX methX cX AX C
  have ht := tpW_le hw
  refine j_aload_n C dX9_unfold_0 0 rfl 1 rfl ?_
  refine j_iload_n C dX9_unfold_1 2 rfl 2 rfl ?_
  refine j_callVi1 (As := [.int (nI e)]) (rest := []) (wr := []) C (c_X9_room l D cI cZ cH m sa ia ka ra ba bm la ha ap wr wa go w sz ev n g L t x y z e (by omega) (by omega)) gX9_unfold_X9_room dX9_unfold_2 rfl yd_X9_room (Nat.le_of_ble_eq_true rfl) (Nat.le_of_ble_eq_true rfl) rfl rfl rfl _ rfl (Nat.le_of_ble_eq_true rfl) (Nat.zero_le _) (Nat.zero_le _) [0, 1] [] rfl rfl rfl rfl rfl (by decide) [0, 1] [(m, .inr (9, [.ref sa, .ref ia, .ref ka, .ref ra, .ref ba, .int (nI bm), .ref la, .ref ha, .int (nI ap), .int (nI wr), .int (nI wa), .int (nI go)])), (sa, .inl (cI, 1072, .inl (stA w sz ev n g L t x y z)))] rfl rfl rfl 5 rfl ?_
  refine j_istore_n C dX9_unfold_5 [(3, .int (nI (min e (tpW w - e)))), (0, .ref m), (1, .int (nI f)), (2, .int (nI e))] (by decide) rfl 6 rfl ?_
  refine j_iload_n C dX9_unfold_6 2 rfl 7 rfl ?_
  refine j_iconst C dX9_unfold_7 (nI 2) (by decide) 8 rfl ?_
  refine j_iload_n C dX9_unfold_8 0 rfl 9 rfl ?_
  refine j_imul C dX9_unfold_9 (nI (2 * (min e (tpW w - e)))) (pk_mul 2 (min e (tpW w - e))) 10 rfl ?_
  refine j_icmp_le C dX9_unfold_10 35 (by decide) (q_t (by omega)) (q_t (by omega)) 13 rfl (fun h10 => ?_) (fun h10 => ?_)
  · refine j_iload_n C dX9_unfold_35 2 rfl 36 rfl ?_
    refine j_iconst C dX9_unfold_36 (nI 2) (by decide) 37 rfl ?_
    refine j_irem C dX9_unfold_37 (nz (by omega) (by omega)) (nI (f % 2)) (pk_rem (by omega) (by omega) (by omega)) 38 rfl ?_
    refine j_iconst C dX9_unfold_38 (nI 1) (by decide) 39 rfl ?_
    refine j_icmp_ne C dX9_unfold_39 52 (by decide) (q_t (by omega)) (q_t (n := 1) (Nat.le_of_ble_eq_true rfl)) 42 rfl (fun h39 => ?_) (fun h39 => ?_)
    · refine j_iload_n C dX9_unfold_52 3 rfl 53 rfl ?_
      refine j_iload_n C dX9_unfold_53 2 rfl 54 rfl ?_
      refine j_iconst C dX9_unfold_54 (nI 2) (by decide) 55 rfl ?_
      refine j_idiv C dX9_unfold_55 (nz (by omega) (by omega)) (nI (f / 2)) (pk_div (by omega) (by omega) (by omega)) 56 rfl ?_
      refine j_iadd C dX9_unfold_56 (nI (e + (f / 2))) (nI_add e (f / 2)) 57 rfl ?_
      exact j_iret C dX9_unfold_57 () (show (nI (e + (f / 2)) : Int32) = nI (unfoldN f e (tpW w)) from by (congr 1; simp only [unfoldN]; repeat' split) <;> omega) rfl
    · refine j_iload_n C dX9_unfold_42 3 rfl 43 rfl ?_
      refine j_iload_n C dX9_unfold_43 2 rfl 44 rfl ?_
      refine j_iconst C dX9_unfold_44 (nI 1) (by decide) 45 rfl ?_
      refine j_iadd C dX9_unfold_45 (nI (f + 1)) (nI_add f 1) 46 rfl ?_
      refine j_iconst C dX9_unfold_46 (nI 2) (by decide) 47 rfl ?_
      refine j_idiv C dX9_unfold_47 (nz (by omega) (by omega)) (nI ((f + 1) / 2)) (pk_div (by omega) (by omega) (by omega)) 48 rfl ?_
      refine j_isub C dX9_unfold_48 (nI (e - ((f + 1) / 2))) (pk_sub (by omega)) 49 rfl ?_
      refine j_goto C dX9_unfold_49 57 (by decide) ?_
      exact j_iret C dX9_unfold_57 () (show (nI (e - ((f + 1) / 2)) : Int32) = nI (unfoldN f e (tpW w)) from by (congr 1; simp only [unfoldN]; repeat' split) <;> omega) rfl
  · refine j_iload_n C dX9_unfold_13 3 rfl 14 rfl ?_
    refine j_iload_n C dX9_unfold_14 2 rfl 15 rfl ?_
    refine j_iload_n C dX9_unfold_15 0 rfl 16 rfl ?_
    refine j_isub C dX9_unfold_16 (nI (f - (min e (tpW w - e)))) (pk_sub (by omega)) 17 rfl ?_
    refine j_isub C dX9_unfold_17 (nI e - nI (f - (min e (tpW w - e)))) rfl 18 rfl ?_
    refine j_if_lt C dX9_unfold_18 29 (by decide) (pk_sub_toInt (by omega) (by omega)) 21 rfl (fun h18 => ?_) (fun h18 => ?_)
    · refine j_iload_n C dX9_unfold_29 3 rfl 30 rfl ?_
      refine j_iload_n C dX9_unfold_30 2 rfl 31 rfl ?_
      refine j_iload_n C dX9_unfold_31 0 rfl 32 rfl ?_
      refine j_isub C dX9_unfold_32 (nI (f - (min e (tpW w - e)))) (pk_sub (by omega)) 33 rfl ?_
      refine j_iadd C dX9_unfold_33 (nI (e + (f - (min e (tpW w - e))))) (nI_add e (f - (min e (tpW w - e)))) 34 rfl ?_
      exact j_iret C dX9_unfold_34 () (show (nI (e + (f - (min e (tpW w - e)))) : Int32) = nI (unfoldN f e (tpW w)) from by (congr 1; simp only [unfoldN]; repeat' split) <;> omega) rfl
    · refine j_iload_n C dX9_unfold_21 3 rfl 22 rfl ?_
      refine j_iload_n C dX9_unfold_22 2 rfl 23 rfl ?_
      refine j_iload_n C dX9_unfold_23 0 rfl 24 rfl ?_
      refine j_isub C dX9_unfold_24 (nI (f - (min e (tpW w - e)))) (pk_sub (by omega)) 25 rfl ?_
      refine j_isub C dX9_unfold_25 (nI (e - (f - (min e (tpW w - e))))) (pk_sub (by omega)) 26 rfl ?_
      refine j_goto C dX9_unfold_26 34 (by decide) ?_
      exact j_iret C dX9_unfold_34 () (show (nI (e - (f - (min e (tpW w - e)))) : Int32) = nI (unfoldN f e (tpW w)) from by (congr 1; simp only [unfoldN]; repeat' split) <;> omega) rfl
set_option maxHeartbeats 4000000 in
set_option maxRecDepth 100000 in
theorem c_X9_unfoldAny (l : Launch) (D : va_G) (cI cZ cH : ClassId) (m sa ia ka ra ba bm la ha ap wr wa go : Nat) (w sz ev n : Nat) (g : Nat → Nat) (L : Nat) (t : Nat → Nat) (x : Nat) (y z : Int32) (f e : Nat) (hw : w ≤ 8) (hf : f < 2 ^ 20) (he : e ≤ tpW w) : Mi l D cI cZ cH yX9_unfold wsX9_unfold 2 41 [.ref m, .int (nI f), .int (nI e)] [(m, .inr (9, [.ref sa, .ref ia, .ref ka, .ref ra, .ref ba, .int (nI bm), .ref la, .ref ha, .int (nI ap), .int (nI wr), .int (nI wa), .int (nI go)])), (sa, .inl (cI, 1072, .inl (stA w sz ev n g L t x y z)))] (fun (r9 : Int32) (u8 : Unit) => True) (fun (u8 : Unit) => [(m, .inr (9, [.ref sa, .ref ia, .ref ka, .ref ra, .ref ba, .int (nI bm), .ref la, .ref ha, .int (nI ap), .int (nI wr), .int (nI wa), .int (nI go)])), (sa, .inl (cI, 1072, .inl (stA w sz ev n g L t x y z)))]) := by
  refine Mi.start (cc := cX9_unfold) (nL := 4) (ret := (some .int)) (lv0 := [(0, .ref m), (1, .int (nI f)), (2, .int (nI e))]) (by decide) rfl (Nat.le_of_ble_eq_true rfl) rfl ?_
  intro pX eX sX mX bX methX cX AX C
  have ht := tpW_le hw
  refine j_aload_n C dX9_unfold_0 0 rfl 1 rfl ?_
  refine j_iload_n C dX9_unfold_1 2 rfl 2 rfl ?_
  refine j_callVi1 (As := [.int (nI e)]) (rest := []) (wr := []) C (c_X9_room l D cI cZ cH m sa ia ka ra ba bm la ha ap wr wa go w sz ev n g L t x y z e (by omega) (by omega)) gX9_unfold_X9_room dX9_unfold_2 rfl yd_X9_room (Nat.le_of_ble_eq_true rfl) (Nat.le_of_ble_eq_true rfl) rfl rfl rfl _ rfl (Nat.le_of_ble_eq_true rfl) (Nat.zero_le _) (Nat.zero_le _) [0, 1] [] rfl rfl rfl rfl rfl (by decide) [0, 1] [(m, .inr (9, [.ref sa, .ref ia, .ref ka, .ref ra, .ref ba, .int (nI bm), .ref la, .ref ha, .int (nI ap), .int (nI wr), .int (nI wa), .int (nI go)])), (sa, .inl (cI, 1072, .inl (stA w sz ev n g L t x y z)))] rfl rfl rfl 5 rfl ?_
  refine j_istore_n C dX9_unfold_5 [(3, .int (nI (min e (tpW w - e)))), (0, .ref m), (1, .int (nI f)), (2, .int (nI e))] (by decide) rfl 6 rfl ?_
  refine j_iload_n C dX9_unfold_6 2 rfl 7 rfl ?_
  refine j_iconst C dX9_unfold_7 (nI 2) (by decide) 8 rfl ?_
  refine j_iload_n C dX9_unfold_8 0 rfl 9 rfl ?_
  refine j_imul C dX9_unfold_9 (nI (2 * (min e (tpW w - e)))) (pk_mul 2 (min e (tpW w - e))) 10 rfl ?_
  refine j_icmp_le C dX9_unfold_10 35 (by decide) (q_t (by omega)) (q_t (by omega)) 13 rfl (fun h10 => ?_) (fun h10 => ?_)
  · refine j_iload_n C dX9_unfold_35 2 rfl 36 rfl ?_
    refine j_iconst C dX9_unfold_36 (nI 2) (by decide) 37 rfl ?_
    refine j_irem C dX9_unfold_37 (nz (by omega) (by omega)) (nI (f % 2)) (pk_rem (by omega) (by omega) (by omega)) 38 rfl ?_
    refine j_iconst C dX9_unfold_38 (nI 1) (by decide) 39 rfl ?_
    refine j_icmp_ne C dX9_unfold_39 52 (by decide) (q_t (by omega)) (q_t (n := 1) (Nat.le_of_ble_eq_true rfl)) 42 rfl (fun h39 => ?_) (fun h39 => ?_)
    · refine j_iload_n C dX9_unfold_52 3 rfl 53 rfl ?_
      refine j_iload_n C dX9_unfold_53 2 rfl 54 rfl ?_
      refine j_iconst C dX9_unfold_54 (nI 2) (by decide) 55 rfl ?_
      refine j_idiv C dX9_unfold_55 (nz (by omega) (by omega)) (nI (f / 2)) (pk_div (by omega) (by omega) (by omega)) 56 rfl ?_
      refine j_iadd C dX9_unfold_56 (nI (e + (f / 2))) (nI_add e (f / 2)) 57 rfl ?_
      exact j_iret C dX9_unfold_57 () trivial rfl
    · refine j_iload_n C dX9_unfold_42 3 rfl 43 rfl ?_
      refine j_iload_n C dX9_unfold_43 2 rfl 44 rfl ?_
      refine j_iconst C dX9_unfold_44 (nI 1) (by decide) 45 rfl ?_
      refine j_iadd C dX9_unfold_45 (nI (f + 1)) (nI_add f 1) 46 rfl ?_
      refine j_iconst C dX9_unfold_46 (nI 2) (by decide) 47 rfl ?_
      refine j_idiv C dX9_unfold_47 (nz (by omega) (by omega)) (nI ((f + 1) / 2)) (pk_div (by omega) (by omega) (by omega)) 48 rfl ?_
      refine j_isub C dX9_unfold_48 (nI e - nI ((f + 1) / 2)) rfl 49 rfl ?_
      refine j_goto C dX9_unfold_49 57 (by decide) ?_
      exact j_iret C dX9_unfold_57 () trivial rfl
  · refine j_iload_n C dX9_unfold_13 3 rfl 14 rfl ?_
    refine j_iload_n C dX9_unfold_14 2 rfl 15 rfl ?_
    refine j_iload_n C dX9_unfold_15 0 rfl 16 rfl ?_
    refine j_isub C dX9_unfold_16 (nI (f - (min e (tpW w - e)))) (pk_sub (by omega)) 17 rfl ?_
    refine j_isub C dX9_unfold_17 (nI e - nI (f - (min e (tpW w - e)))) rfl 18 rfl ?_
    refine j_if_lt C dX9_unfold_18 29 (by decide) rfl 21 rfl (fun h18 => ?_) (fun h18 => ?_)
    · refine j_iload_n C dX9_unfold_29 3 rfl 30 rfl ?_
      refine j_iload_n C dX9_unfold_30 2 rfl 31 rfl ?_
      refine j_iload_n C dX9_unfold_31 0 rfl 32 rfl ?_
      refine j_isub C dX9_unfold_32 (nI (f - (min e (tpW w - e)))) (pk_sub (by omega)) 33 rfl ?_
      refine j_iadd C dX9_unfold_33 (nI (e + (f - (min e (tpW w - e))))) (nI_add e (f - (min e (tpW w - e)))) 34 rfl ?_
      exact j_iret C dX9_unfold_34 () trivial rfl
    · refine j_iload_n C dX9_unfold_21 3 rfl 22 rfl ?_
      refine j_iload_n C dX9_unfold_22 2 rfl 23 rfl ?_
      refine j_iload_n C dX9_unfold_23 0 rfl 24 rfl ?_
      refine j_isub C dX9_unfold_24 (nI (f - (min e (tpW w - e)))) (pk_sub (by omega)) 25 rfl ?_
      refine j_isub C dX9_unfold_25 (nI e - nI (f - (min e (tpW w - e)))) rfl 26 rfl ?_
      refine j_goto C dX9_unfold_26 34 (by decide) ?_
      exact j_iret C dX9_unfold_34 () trivial rfl
set_option maxHeartbeats 4000000 in
set_option maxRecDepth 100000 in
theorem c_X9_takeRow (l : Launch) (D : va_G) (cI cZ cH : ClassId) (m sa ia ka ra ba bm la ha ap wr wa go : Nat) (w sz ev n : Nat) (g : Nat → Nat) (L : Nat) (t : Nat → Nat) (x : Nat) (y z : Int32) (rf : Nat → Nat) (hn : n ≤ 64) : Mv l D cI cZ cH yX9_takeRow wsX9_takeRow 1 20 [.ref m] [(m, .inr (9, [.ref sa, .ref ia, .ref ka, .ref ra, .ref ba, .int (nI bm), .ref la, .ref ha, .int (nI ap), .int (nI wr), .int (nI wa), .int (nI go)])), (sa, .inl (cI, 1072, .inl (stA w sz ev n g L t x y z))), (ra, .inl (cI, 64, .inl (aN rf)))] (fun (_ : Unit) => True) (fun (_ : Unit) => [(m, .inr (9, [.ref sa, .ref ia, .ref ka, .ref ra, .ref ba, .int (nI bm), .ref la, .ref ha, .int (nI ap), .int (nI wr), .int (nI wa), .int (nI go)])), (sa, .inl (cI, 1072, .inl (stA w sz ev n g L t x y z))), (ra, .inl (cI, 64, .inl (aN (upT g rf n))))]) := by
  refine Mv.start (cc := cX9_takeRow) (nL := 2) (ret := none) (lv0 := [(0, .ref m)]) (by decide) rfl (Nat.le_of_ble_eq_true rfl) rfl ?_
  intro pX eX sX mX bX methX cX AX C
  refine j_iconst C dX9_takeRow_0 (nI 0) (by decide) 1 rfl ?_
  refine j_istore_n C dX9_takeRow_1 [(1, .int (nI 0)), (0, .ref m)] (by decide) rfl 2 rfl ?_
  refine j_loop1 (fun (i : Nat) => i ≤ n) (fun (i : Nat) => n - i) (fun (i : Nat) => [(m, .inr (9, [.ref sa, .ref ia, .ref ka, .ref ra, .ref ba, .int (nI bm), .ref la, .ref ha, .int (nI ap), .int (nI wr), .int (nI wa), .int (nI go)])), (sa, .inl (cI, 1072, .inl (stA w sz ev n g L t x y z))), (ra, .inl (cI, 64, .inl (aN (upT g rf i))))]) (fun (i : Nat) => [(1, .int (nI i)), (0, .ref m)]) ?_ 0 (by omega) (by rw [upT_0]) rfl
  intro i hI2 ih2
  have hi : i ≤ n := hI2
  show J D AX pX l eX _ sX mX _ bX methX cX 0 0 _ 2 [(m, .inr (9, [.ref sa, .ref ia, .ref ka, .ref ra, .ref ba, .int (nI bm), .ref la, .ref ha, .int (nI ap), .int (nI wr), .int (nI wa), .int (nI go)])), (sa, .inl (cI, 1072, .inl (stA w sz ev n g L t x y z))), (ra, .inl (cI, 64, .inl (aN (upT g rf i))))] [(1, .int (nI i)), (0, .ref m)] 2 []
  refine j_iload_n C dX9_takeRow_2 0 rfl 3 rfl ?_
  refine j_aload_n C dX9_takeRow_3 1 rfl 4 rfl ?_
  refine j_callVi1 (As := []) (rest := [.int (nI i)]) (wr := [(ra, .inl (cI, 64, .inl (aN (upT g rf i))))]) C (c_X9_many l D cI cZ cH m sa ia ka ra ba bm la ha ap wr wa go w sz ev n g L t x y z ) gX9_takeRow_X9_many dX9_takeRow_4 rfl yd_X9_many (Nat.le_of_ble_eq_true rfl) (Nat.le_of_ble_eq_true rfl) rfl rfl rfl _ rfl (Nat.le_of_ble_eq_true rfl) (Nat.zero_le _) (Nat.zero_le _) [0, 1] [2] rfl rfl rfl rfl rfl (by decide) [1, 2, 0] [(m, .inr (9, [.ref sa, .ref ia, .ref ka, .ref ra, .ref ba, .int (nI bm), .ref la, .ref ha, .int (nI ap), .int (nI wr), .int (nI wa), .int (nI go)])), (sa, .inl (cI, 1072, .inl (stA w sz ev n g L t x y z))), (ra, .inl (cI, 64, .inl (aN (upT g rf i))))] rfl rfl rfl 7 rfl ?_
  refine j_icmp_ge C dX9_takeRow_7 28 (by decide) (q_t (by omega)) (q_t (by omega)) 10 rfl (fun h7 => ?_) (fun h7 => ?_)
  · exact j_vret C dX9_takeRow_28 () trivial (by rw [show i = n by omega])
  · refine j_aload_n C dX9_takeRow_10 1 rfl 11 rfl ?_
    refine j_get C dX9_takeRow_11 0 3 1 inX9_takeRow_9 rfl rfl (by decide) rfl rfl rfl 14 rfl ?_
    refine j_iload_n C dX9_takeRow_14 0 rfl 15 rfl ?_
    refine j_aload_n C dX9_takeRow_15 1 rfl 16 rfl ?_
    refine j_get C dX9_takeRow_16 0 0 2 inX9_takeRow_9 rfl rfl (by decide) rfl rfl rfl 19 rfl ?_
    refine j_iload_n C dX9_takeRow_19 0 rfl 20 rfl ?_
    refine j_ialdI C dX9_takeRow_20 1 rfl (by omega) (Nat.le_of_ble_eq_true rfl) (nI (g i)) (stA_row (by omega)) 21 rfl ?_
    refine j_iast C dX9_takeRow_21 2 rfl (by omega) (Nat.le_of_ble_eq_true rfl) [(m, .inr (9, [.ref sa, .ref ia, .ref ka, .ref ra, .ref ba, .int (nI bm), .ref la, .ref ha, .int (nI ap), .int (nI wr), .int (nI wa), .int (nI go)])), (sa, .inl (cI, 1072, .inl (stA w sz ev n g L t x y z))), (ra, .inl (cI, 64, .inl (aN (va_up (upT g rf i) i (g i)))))] rfl 22 rfl ?_
    refine j_iinc C dX9_takeRow_22 0 rfl (nI (i + 1)) (nI_1 (i)) [(1, .int (nI (i + 1))), (0, .ref m)] (by decide) rfl 25 rfl ?_
    refine j_goto C dX9_takeRow_25 2 (by decide) ?_
    refine j_world [(m, .inr (9, [.ref sa, .ref ia, .ref ka, .ref ra, .ref ba, .int (nI bm), .ref la, .ref ha, .int (nI ap), .int (nI wr), .int (nI wa), .int (nI go)])), (sa, .inl (cI, 1072, .inl (stA w sz ev n g L t x y z))), (ra, .inl (cI, 64, .inl (aN (upT g rf (i + 1)))))] (by rw [upT_s]) ?_
    exact ih2 (i + 1) (by omega) (by omega)
set_option maxHeartbeats 4000000 in
set_option maxRecDepth 100000 in
theorem c_X9_blocks (l : Launch) (D : va_G) (cI cZ cH : ClassId) (m sa ia ka ra ba bm la ha ap wr wa go : Nat) (w sz ev n : Nat) (g : Nat → Nat) (L : Nat) (t : Nat → Nat) (x : Nat) (y z : Int32) (hsz : 1 ≤ sz ∧ sz ≤ 8) (hn : n ≤ 64) : Mi l D cI cZ cH yX9_blocks wsX9_blocks 1 20 [.ref m] [(m, .inr (9, [.ref sa, .ref ia, .ref ka, .ref ra, .ref ba, .int (nI bm), .ref la, .ref ha, .int (nI ap), .int (nI wr), .int (nI wa), .int (nI go)])), (sa, .inl (cI, 1072, .inl (stA w sz ev n g L t x y z)))] (fun (r9 : Int32) (_ : Unit) => r9 = nI (nbk sz n)) (fun (_ : Unit) => [(m, .inr (9, [.ref sa, .ref ia, .ref ka, .ref ra, .ref ba, .int (nI bm), .ref la, .ref ha, .int (nI ap), .int (nI wr), .int (nI wa), .int (nI go)])), (sa, .inl (cI, 1072, .inl (stA w sz ev n g L t x y z)))]) := by
  refine Mi.start (cc := cX9_blocks) (nL := 1) (ret := (some .int)) (lv0 := [(0, .ref m)]) (by decide) rfl (Nat.le_of_ble_eq_true rfl) rfl ?_
  intro pX eX sX mX bX methX cX AX C
  refine j_aload_n C dX9_blocks_0 0 rfl 1 rfl ?_
  refine j_callVi1 (As := []) (rest := []) (wr := []) C (c_X9_many l D cI cZ cH m sa ia ka ra ba bm la ha ap wr wa go w sz ev n g L t x y z ) gX9_blocks_X9_many dX9_blocks_1 rfl yd_X9_many (Nat.le_of_ble_eq_true rfl) (Nat.le_of_ble_eq_true rfl) rfl rfl rfl _ rfl (Nat.le_of_ble_eq_true rfl) (Nat.zero_le _) (Nat.zero_le _) [0, 1] [] rfl rfl rfl rfl rfl (by decide) [0, 1] [(m, .inr (9, [.ref sa, .ref ia, .ref ka, .ref ra, .ref ba, .int (nI bm), .ref la, .ref ha, .int (nI ap), .int (nI wr), .int (nI wa), .int (nI go)])), (sa, .inl (cI, 1072, .inl (stA w sz ev n g L t x y z)))] rfl rfl rfl 4 rfl ?_
  refine j_aload_n C dX9_blocks_4 0 rfl 5 rfl ?_
  refine j_get C dX9_blocks_5 0 0 1 inX9_blocks_9 rfl rfl (by decide) rfl rfl rfl 8 rfl ?_
  refine j_sipush C dX9_blocks_8 (nI 1067) (by decide) 11 rfl ?_
  refine j_ialdI C dX9_blocks_11 1 rfl (Nat.le_of_ble_eq_true rfl) (Nat.le_of_ble_eq_true rfl) (nI sz) rfl 12 rfl ?_
  refine j_iadd C dX9_blocks_12 (nI (n + sz)) (nI_add n sz) 13 rfl ?_
  refine j_iconst C dX9_blocks_13 (nI 1) (by decide) 14 rfl ?_
  refine j_isub C dX9_blocks_14 (nI ((n + sz) - 1)) (pk_sub (by omega)) 15 rfl ?_
  refine j_aload_n C dX9_blocks_15 0 rfl 16 rfl ?_
  refine j_get C dX9_blocks_16 0 0 1 inX9_blocks_9 rfl rfl (by decide) rfl rfl rfl 19 rfl ?_
  refine j_sipush C dX9_blocks_19 (nI 1067) (by decide) 22 rfl ?_
  refine j_ialdI C dX9_blocks_22 1 rfl (Nat.le_of_ble_eq_true rfl) (Nat.le_of_ble_eq_true rfl) (nI sz) rfl 23 rfl ?_
  refine j_idiv C dX9_blocks_23 (nz (by omega) (by omega)) (nI (((n + sz) - 1) / sz)) (pk_div (by omega) (by omega) (by omega)) 24 rfl ?_
  have hdiv23 := Nat.div_le_self ((n + sz) - 1) sz
  exact j_iret C dX9_blocks_24 () (show (nI (((n + sz) - 1) / sz) : Int32) = nI (nbk sz n) from by first | rfl | omega | ((repeat' split) <;> first | rfl | omega | (exfalso; omega))) rfl
set_option maxHeartbeats 4000000 in
set_option maxRecDepth 100000 in
theorem c_X9_firstOf (l : Launch) (D : va_G) (cI cZ cH : ClassId) (m sa ia ka ra ba bm la ha ap wr wa go : Nat) (w sz ev n : Nat) (g : Nat → Nat) (L : Nat) (t : Nat → Nat) (x : Nat) (y z : Int32) (b : Nat)  : Mi l D cI cZ cH yX9_firstOf wsX9_firstOf 0 0 [.ref m, .int (nI b)] [(m, .inr (9, [.ref sa, .ref ia, .ref ka, .ref ra, .ref ba, .int (nI bm), .ref la, .ref ha, .int (nI ap), .int (nI wr), .int (nI wa), .int (nI go)])), (sa, .inl (cI, 1072, .inl (stA w sz ev n g L t x y z)))] (fun (r9 : Int32) (_ : Unit) => r9 = nI (b * sz)) (fun (_ : Unit) => [(m, .inr (9, [.ref sa, .ref ia, .ref ka, .ref ra, .ref ba, .int (nI bm), .ref la, .ref ha, .int (nI ap), .int (nI wr), .int (nI wa), .int (nI go)])), (sa, .inl (cI, 1072, .inl (stA w sz ev n g L t x y z)))]) := by
  refine Mi.start (cc := cX9_firstOf) (nL := 2) (ret := (some .int)) (lv0 := [(0, .ref m), (1, .int (nI b))]) (by decide) rfl (Nat.le_of_ble_eq_true rfl) rfl ?_
  intro pX eX sX mX bX methX cX AX C
  refine j_iload_n C dX9_firstOf_0 1 rfl 1 rfl ?_
  refine j_aload_n C dX9_firstOf_1 0 rfl 2 rfl ?_
  refine j_get C dX9_firstOf_2 0 0 1 inX9_firstOf_9 rfl rfl (by decide) rfl rfl rfl 5 rfl ?_
  refine j_sipush C dX9_firstOf_5 (nI 1067) (by decide) 8 rfl ?_
  refine j_ialdI C dX9_firstOf_8 1 rfl (Nat.le_of_ble_eq_true rfl) (Nat.le_of_ble_eq_true rfl) (nI sz) rfl 9 rfl ?_
  refine j_imul C dX9_firstOf_9 (nI (b * sz)) (pk_mul b sz) 10 rfl ?_
  exact j_iret C dX9_firstOf_10 () rfl rfl
set_option maxHeartbeats 4000000 in
set_option maxRecDepth 100000 in
theorem c_X9_less (l : Launch) (D : va_G) (cI cZ cH : ClassId) (a b : Nat) (ha : a < 2 ^ 31) (hb : b < 2 ^ 31) : Mi l D cI cZ cH yX9_less wsX9_less 0 0 [.int (nI a), .int (nI b)] [] (fun (r9 : Int32) (_ : Unit) => r9 = nI (min a b)) (fun (_ : Unit) => []) := by
  refine Mi.start (cc := cX9_less) (nL := 2) (ret := (some .int)) (lv0 := [(0, .int (nI a)), (1, .int (nI b))]) (by decide) rfl (Nat.le_of_ble_eq_true rfl) rfl ?_
  intro pX eX sX mX bX methX cX AX C
  refine j_iload_n C dX9_less_0 0 rfl 1 rfl ?_
  refine j_iload_n C dX9_less_1 1 rfl 2 rfl ?_
  refine j_icmp_ge C dX9_less_2 9 (by decide) (q_t (by omega)) (q_t (by omega)) 5 rfl (fun h2 => ?_) (fun h2 => ?_)
  · refine j_iload_n C dX9_less_9 1 rfl 10 rfl ?_
    exact j_iret C dX9_less_10 () (show (nI b : Int32) = nI (min a b) from by congr 1; omega) rfl
  · refine j_iload_n C dX9_less_5 0 rfl 6 rfl ?_
    refine j_goto C dX9_less_6 10 (by decide) ?_
    exact j_iret C dX9_less_10 () (show (nI a : Int32) = nI (min a b) from by congr 1; omega) rfl
set_option maxHeartbeats 4000000 in
set_option maxRecDepth 100000 in
theorem c_X9_endOf (l : Launch) (D : va_G) (cI cZ cH : ClassId) (m sa ia ka ra ba bm la ha ap wr wa go : Nat) (w sz ev n : Nat) (g : Nat → Nat) (L : Nat) (t : Nat → Nat) (x : Nat) (y z : Int32) (b : Nat) (hsz : 1 ≤ sz ∧ sz ≤ 8) (hn : n ≤ 64) (hb : b ≤ 64) : Mi l D cI cZ cH yX9_endOf wsX9_endOf 1 21 [.ref m, .int (nI b)] [(m, .inr (9, [.ref sa, .ref ia, .ref ka, .ref ra, .ref ba, .int (nI bm), .ref la, .ref ha, .int (nI ap), .int (nI wr), .int (nI wa), .int (nI go)])), (sa, .inl (cI, 1072, .inl (stA w sz ev n g L t x y z)))] (fun (r9 : Int32) (_ : Unit) => r9 = nI (min n ((b + 1) * sz))) (fun (_ : Unit) => [(m, .inr (9, [.ref sa, .ref ia, .ref ka, .ref ra, .ref ba, .int (nI bm), .ref la, .ref ha, .int (nI ap), .int (nI wr), .int (nI wa), .int (nI go)])), (sa, .inl (cI, 1072, .inl (stA w sz ev n g L t x y z)))]) := by
  refine Mi.start (cc := cX9_endOf) (nL := 2) (ret := (some .int)) (lv0 := [(0, .ref m), (1, .int (nI b))]) (by decide) rfl (Nat.le_of_ble_eq_true rfl) rfl ?_
  intro pX eX sX mX bX methX cX AX C
  have hm := mulB hb hsz.2
  have hmul : (b + 1) * sz = b * sz + sz := Nat.succ_mul b sz
  refine j_aload_n C dX9_endOf_0 0 rfl 1 rfl ?_
  refine j_iload_n C dX9_endOf_1 1 rfl 2 rfl ?_
  refine j_callVi1 (As := [.int (nI b)]) (rest := []) (wr := []) C (c_X9_firstOf l D cI cZ cH m sa ia ka ra ba bm la ha ap wr wa go w sz ev n g L t x y z b ) gX9_endOf_X9_firstOf dX9_endOf_2 rfl yd_X9_firstOf (Nat.le_of_ble_eq_true rfl) (Nat.le_of_ble_eq_true rfl) rfl rfl rfl _ rfl (Nat.le_of_ble_eq_true rfl) (Nat.zero_le _) (Nat.zero_le _) [0, 1] [] rfl rfl rfl rfl rfl (by decide) [0, 1] [(m, .inr (9, [.ref sa, .ref ia, .ref ka, .ref ra, .ref ba, .int (nI bm), .ref la, .ref ha, .int (nI ap), .int (nI wr), .int (nI wa), .int (nI go)])), (sa, .inl (cI, 1072, .inl (stA w sz ev n g L t x y z)))] rfl rfl rfl 5 rfl ?_
  refine j_aload_n C dX9_endOf_5 0 rfl 6 rfl ?_
  refine j_get C dX9_endOf_6 0 0 1 inX9_endOf_9 rfl rfl (by decide) rfl rfl rfl 9 rfl ?_
  refine j_sipush C dX9_endOf_9 (nI 1067) (by decide) 12 rfl ?_
  refine j_ialdI C dX9_endOf_12 1 rfl (Nat.le_of_ble_eq_true rfl) (Nat.le_of_ble_eq_true rfl) (nI sz) rfl 13 rfl ?_
  refine j_iadd C dX9_endOf_13 (nI (b * sz + sz)) (nI_add (b * sz) sz) 14 rfl ?_
  refine j_aload_n C dX9_endOf_14 0 rfl 15 rfl ?_
  refine j_callVi1 (As := []) (rest := [.int (nI (b * sz + sz))]) (wr := []) C (c_X9_many l D cI cZ cH m sa ia ka ra ba bm la ha ap wr wa go w sz ev n g L t x y z ) gX9_endOf_X9_many dX9_endOf_15 rfl yd_X9_many (Nat.le_of_ble_eq_true rfl) (Nat.le_of_ble_eq_true rfl) rfl rfl rfl _ rfl (Nat.le_of_ble_eq_true rfl) (Nat.zero_le _) (Nat.zero_le _) [0, 1] [] rfl rfl rfl rfl rfl (by decide) [0, 1] [(m, .inr (9, [.ref sa, .ref ia, .ref ka, .ref ra, .ref ba, .int (nI bm), .ref la, .ref ha, .int (nI ap), .int (nI wr), .int (nI wa), .int (nI go)])), (sa, .inl (cI, 1072, .inl (stA w sz ev n g L t x y z)))] rfl rfl rfl 18 rfl ?_
  refine j_callSi1 (As := [.int (nI (b * sz + sz)), .int (nI n)]) (rest := []) (wr := [(m, .inr (9, [.ref sa, .ref ia, .ref ka, .ref ra, .ref ba, .int (nI bm), .ref la, .ref ha, .int (nI ap), .int (nI wr), .int (nI wa), .int (nI go)])), (sa, .inl (cI, 1072, .inl (stA w sz ev n g L t x y z)))]) C (c_X9_less l D cI cZ cH (b * sz + sz) n (by omega) (by omega)) gX9_endOf_X9_less dX9_endOf_18 rfl yd_X9_less.2 (Nat.le_of_ble_eq_true rfl) (Nat.le_of_ble_eq_true rfl) rfl _ rfl (Nat.le_of_ble_eq_true rfl) (Nat.zero_le _) (Nat.zero_le _) [] [0, 1] rfl rfl rfl rfl rfl (by decide) [0, 1] [(m, .inr (9, [.ref sa, .ref ia, .ref ka, .ref ra, .ref ba, .int (nI bm), .ref la, .ref ha, .int (nI ap), .int (nI wr), .int (nI wa), .int (nI go)])), (sa, .inl (cI, 1072, .inl (stA w sz ev n g L t x y z)))] rfl rfl rfl 21 rfl ?_
  exact j_iret C dX9_endOf_21 () (show (nI (min (b * sz + sz) n) : Int32) = nI (min n ((b + 1) * sz)) from by congr 1; omega) rfl
set_option maxHeartbeats 4000000 in
set_option maxRecDepth 100000 in
theorem c_X9_canCode (l : Launch) (D : va_G) (cI cZ cH : ClassId) (m sa ia ka ra ba bm la ha ap wr wa go : Nat) (w sz ev n : Nat) (g : Nat → Nat) (L : Nat) (t : Nat → Nat) (x : Nat) (y z : Int32) (code : Nat) (hc : code < 16) (hw : w ≤ 8) : Mi l D cI cZ cH yX9_canCode wsX9_canCode 1 22 [.ref m, .int (nI code)] [(m, .inr (9, [.ref sa, .ref ia, .ref ka, .ref ra, .ref ba, .int (nI bm), .ref la, .ref ha, .int (nI ap), .int (nI wr), .int (nI wa), .int (nI go)])), (sa, .inl (cI, 1072, .inl (stA w sz ev n g L t x y z)))] (fun (r9 : Int32) (_ : Unit) => r9 = (if okC w code then 1 else 0)) (fun (_ : Unit) => [(m, .inr (9, [.ref sa, .ref ia, .ref ka, .ref ra, .ref ba, .int (nI bm), .ref la, .ref ha, .int (nI ap), .int (nI wr), .int (nI wa), .int (nI go)])), (sa, .inl (cI, 1072, .inl (stA w sz ev n g L t x y z)))]) := by
  refine Mi.start (cc := cX9_canCode) (nL := 2) (ret := (some .boolean)) (lv0 := [(0, .ref m), (1, .int (nI code))]) (by decide) rfl (Nat.le_of_ble_eq_true rfl) rfl ?_
  intro pX eX sX mX bX methX cX AX C
  refine j_iload_n C dX9_canCode_0 1 rfl 1 rfl ?_
  refine j_if_eq C dX9_canCode_1 34 (by decide) (q_t (by omega)) 4 rfl (fun h1 => ?_) (fun h1 => ?_)
  · refine j_iconst C dX9_canCode_34 (nI 1) (by decide) 35 rfl ?_
    refine j_goto C dX9_canCode_35 39 (by decide) ?_
    exact j_zret C dX9_canCode_39 rfl () (show (nI 1 : Int32) = (if okC w code then 1 else 0) from by first | rfl | omega | ((repeat' split) <;> first | rfl | omega | (exfalso; omega))) rfl
  · refine j_iload_n C dX9_canCode_4 1 rfl 5 rfl ?_
    refine j_bipush C dX9_canCode_5 (nI 8) (by decide) 7 rfl ?_
    refine j_icmp_eq C dX9_canCode_7 34 (by decide) (q_t (by omega)) (q_t (n := 8) (Nat.le_of_ble_eq_true rfl)) 10 rfl (fun h7 => ?_) (fun h7 => ?_)
    · refine j_iconst C dX9_canCode_34 (nI 1) (by decide) 35 rfl ?_
      refine j_goto C dX9_canCode_35 39 (by decide) ?_
      exact j_zret C dX9_canCode_39 rfl () (show (nI 1 : Int32) = (if okC w code then 1 else 0) from by first | rfl | omega | ((repeat' split) <;> first | rfl | omega | (exfalso; omega))) rfl
    · refine j_iload_n C dX9_canCode_10 1 rfl 11 rfl ?_
      refine j_iconst C dX9_canCode_11 (nI 1) (by decide) 12 rfl ?_
      refine j_bipush C dX9_canCode_12 (nI 7) (by decide) 14 rfl ?_
      refine j_callSi1 (As := [.int (nI code), .int (nI 1), .int (nI 7)]) (rest := []) (wr := [(m, .inr (9, [.ref sa, .ref ia, .ref ka, .ref ra, .ref ba, .int (nI bm), .ref la, .ref ha, .int (nI ap), .int (nI wr), .int (nI wa), .int (nI go)])), (sa, .inl (cI, 1072, .inl (stA w sz ev n g L t x y z)))]) C (c_X9_in l D cI cZ cH (nI code) (nI 1) (nI 7) (((code : Nat) : Int)) (((1 : Nat) : Int)) (((7 : Nat) : Int)) (q_t (by omega)) (q_t (n := 1) (Nat.le_of_ble_eq_true rfl)) (q_t (n := 7) (Nat.le_of_ble_eq_true rfl))) gX9_canCode_X9_in dX9_canCode_14 rfl yd_X9_in.2 (Nat.le_of_ble_eq_true rfl) (Nat.le_of_ble_eq_true rfl) rfl _ rfl (Nat.le_of_ble_eq_true rfl) (Nat.zero_le _) (Nat.zero_le _) [] [0, 1] rfl rfl rfl rfl rfl (by decide) [0, 1] [(m, .inr (9, [.ref sa, .ref ia, .ref ka, .ref ra, .ref ba, .int (nI bm), .ref la, .ref ha, .int (nI ap), .int (nI wr), .int (nI wa), .int (nI go)])), (sa, .inl (cI, 1072, .inl (stA w sz ev n g L t x y z)))] rfl rfl rfl 17 rfl ?_
      refine j_ifb_eq C dX9_canCode_17 38 (by decide) 20 rfl (fun h17 => ?_) (fun h17 => ?_)
      · refine j_iconst C dX9_canCode_38 (nI 0) (by decide) 39 rfl ?_
        exact j_zret C dX9_canCode_39 rfl () (show (nI 0 : Int32) = (if okC w code then 1 else 0) from by first | rfl | omega | ((repeat' split) <;> first | rfl | omega | (exfalso; omega))) rfl
      · refine j_iload_n C dX9_canCode_20 1 rfl 21 rfl ?_
        refine j_iconst C dX9_canCode_21 (nI 1) (by decide) 22 rfl ?_
        refine j_isub C dX9_canCode_22 (nI (code - 1)) (pk_sub (by omega)) 23 rfl ?_
        refine j_aload_n C dX9_canCode_23 0 rfl 24 rfl ?_
        refine j_get C dX9_canCode_24 0 0 1 inX9_canCode_9 rfl rfl (by decide) rfl rfl rfl 27 rfl ?_
        refine j_sipush C dX9_canCode_27 (nI 1066) (by decide) 30 rfl ?_
        refine j_ialdI C dX9_canCode_30 1 rfl (Nat.le_of_ble_eq_true rfl) (Nat.le_of_ble_eq_true rfl) (nI w) rfl 31 rfl ?_
        refine j_icmp_ge C dX9_canCode_31 38 (by decide) (q_t (by omega)) (q_t (by omega)) 34 rfl (fun h31 => ?_) (fun h31 => ?_)
        · refine j_iconst C dX9_canCode_38 (nI 0) (by decide) 39 rfl ?_
          exact j_zret C dX9_canCode_39 rfl () (show (nI 0 : Int32) = (if okC w code then 1 else 0) from by first | rfl | omega | ((repeat' split) <;> first | rfl | omega | (exfalso; omega))) rfl
        · refine j_iconst C dX9_canCode_34 (nI 1) (by decide) 35 rfl ?_
          refine j_goto C dX9_canCode_35 39 (by decide) ?_
          exact j_zret C dX9_canCode_39 rfl () (show (nI 1 : Int32) = (if okC w code then 1 else 0) from by first | rfl | omega | ((repeat' split) <;> first | rfl | omega | (exfalso; omega))) rfl
set_option maxHeartbeats 4000000 in
set_option maxRecDepth 100000 in
theorem c_X9_bitsOf (l : Launch) (D : va_G) (cI cZ cH : ClassId) (m sa ia ka ra ba bm la ha ap wr wa go : Nat) (w sz ev n : Nat) (g : Nat → Nat) (L : Nat) (t : Nat → Nat) (x : Nat) (y z : Int32) (f code : Nat) (hf : f ≤ 255) (hc : code ≤ 8) (hw : w ≤ 8) : Mi l D cI cZ cH yX9_bitsOf wsX9_bitsOf 0 0 [.ref m, .int (nI f), .int (nI code)] [(m, .inr (9, [.ref sa, .ref ia, .ref ka, .ref ra, .ref ba, .int (nI bm), .ref la, .ref ha, .int (nI ap), .int (nI wr), .int (nI wa), .int (nI go)])), (sa, .inl (cI, 1072, .inl (stA w sz ev n g L t x y z)))] (fun (r9 : Int32) (_ : Unit) => r9 = if code = 0 ∧ ¬ f = 0 then -6 else nI (fbC w code f)) (fun (_ : Unit) => [(m, .inr (9, [.ref sa, .ref ia, .ref ka, .ref ra, .ref ba, .int (nI bm), .ref la, .ref ha, .int (nI ap), .int (nI wr), .int (nI wa), .int (nI go)])), (sa, .inl (cI, 1072, .inl (stA w sz ev n g L t x y z)))]) := by
  refine Mi.start (cc := cX9_bitsOf) (nL := 3) (ret := (some .int)) (lv0 := [(0, .ref m), (1, .int (nI f)), (2, .int (nI code))]) (by decide) rfl (Nat.le_of_ble_eq_true rfl) rfl ?_
  intro pX eX sX mX bX methX cX AX C
  refine j_iload_n C dX9_bitsOf_0 2 rfl 1 rfl ?_
  refine j_if_ne C dX9_bitsOf_1 15 (by decide) (q_t (by omega)) 4 rfl (fun h1 => ?_) (fun h1 => ?_)
  · refine j_iload_n C dX9_bitsOf_15 2 rfl 16 rfl ?_
    refine j_bipush C dX9_bitsOf_16 (nI 8) (by decide) 18 rfl ?_
    refine j_icmp_ne C dX9_bitsOf_18 32 (by decide) (q_t (by omega)) (q_t (n := 8) (Nat.le_of_ble_eq_true rfl)) 21 rfl (fun h18 => ?_) (fun h18 => ?_)
    · refine j_iload_n C dX9_bitsOf_32 1 rfl 33 rfl ?_
      refine j_iload_n C dX9_bitsOf_33 2 rfl 34 rfl ?_
      refine j_iconst C dX9_bitsOf_34 (nI 1) (by decide) 35 rfl ?_
      refine j_isub C dX9_bitsOf_35 (nI (code - 1)) (pk_sub (by omega)) 36 rfl ?_
      refine j_ishr C dX9_bitsOf_36 (nI (f / 2 ^ (code - 1))) (q_shr (by omega) (by omega)) 37 rfl ?_
      have hshr36 := Nat.div_le_self f (2 ^ (code - 1))
      refine j_iload_n C dX9_bitsOf_37 2 rfl 38 rfl ?_
      refine j_iadd C dX9_bitsOf_38 (nI (f / 2 ^ (code - 1) + code)) (nI_add (f / 2 ^ (code - 1)) code) 39 rfl ?_
      exact j_iret C dX9_bitsOf_39 () (show (nI (f / 2 ^ (code - 1) + code) : Int32) = if code = 0 ∧ ¬ f = 0 then -6 else nI (fbC w code f) from by simp only [fbC]; (repeat' split) <;> first | rfl | (exfalso; omega) | (congr 1; omega)) rfl
    · refine j_aload_n C dX9_bitsOf_21 0 rfl 22 rfl ?_
      refine j_get C dX9_bitsOf_22 0 0 1 inX9_bitsOf_9 rfl rfl (by decide) rfl rfl rfl 25 rfl ?_
      refine j_sipush C dX9_bitsOf_25 (nI 1066) (by decide) 28 rfl ?_
      refine j_ialdI C dX9_bitsOf_28 1 rfl (Nat.le_of_ble_eq_true rfl) (Nat.le_of_ble_eq_true rfl) (nI w) rfl 29 rfl ?_
      refine j_goto C dX9_bitsOf_29 39 (by decide) ?_
      exact j_iret C dX9_bitsOf_39 () (show (nI w : Int32) = if code = 0 ∧ ¬ f = 0 then -6 else nI (fbC w code f) from by simp only [fbC]; (repeat' split) <;> first | rfl | (exfalso; omega) | (congr 1; omega)) rfl
  · refine j_iload_n C dX9_bitsOf_4 1 rfl 5 rfl ?_
    refine j_if_ne C dX9_bitsOf_5 12 (by decide) (q_t (by omega)) 8 rfl (fun h5 => ?_) (fun h5 => ?_)
    · refine j_bipush C dX9_bitsOf_12 (-6) (by decide) 14 rfl ?_
      exact j_iret C dX9_bitsOf_14 () (show (-6 : Int32) = if code = 0 ∧ ¬ f = 0 then -6 else nI (fbC w code f) from by simp only [fbC]; (repeat' split) <;> first | rfl | (exfalso; omega) | (congr 1; omega)) rfl
    · refine j_iconst C dX9_bitsOf_8 (nI 0) (by decide) 9 rfl ?_
      refine j_goto C dX9_bitsOf_9 14 (by decide) ?_
      exact j_iret C dX9_bitsOf_14 () (show (nI 0 : Int32) = if code = 0 ∧ ¬ f = 0 then -6 else nI (fbC w code f) from by simp only [fbC]; (repeat' split) <;> first | rfl | (exfalso; omega) | (congr 1; omega)) rfl
set_option maxHeartbeats 4000000 in
set_option maxRecDepth 100000 in
theorem c_X9_isBlock (l : Launch) (D : va_G) (cI cZ cH : ClassId) (m sa ia ka ra ba bm la ha ap wr wa go : Nat) (w sz ev n : Nat) (g : Nat → Nat) (L : Nat) (t : Nat → Nat) (x : Nat) (y z : Int32) (b : Int32) (hsz : 1 ≤ sz ∧ sz ≤ 8) (hn : n ≤ 64) : Mi l D cI cZ cH yX9_isBlock wsX9_isBlock 2 40 [.ref m, .int b] [(m, .inr (9, [.ref sa, .ref ia, .ref ka, .ref ra, .ref ba, .int (nI bm), .ref la, .ref ha, .int (nI ap), .int (nI wr), .int (nI wa), .int (nI go)])), (sa, .inl (cI, 1072, .inl (stA w sz ev n g L t x y z)))] (fun (r9 : Int32) (_ : Unit) => r9 = (if 0 ≤ b.toInt ∧ b.toInt < (nbk sz n : Int) then 1 else 0)) (fun (_ : Unit) => [(m, .inr (9, [.ref sa, .ref ia, .ref ka, .ref ra, .ref ba, .int (nI bm), .ref la, .ref ha, .int (nI ap), .int (nI wr), .int (nI wa), .int (nI go)])), (sa, .inl (cI, 1072, .inl (stA w sz ev n g L t x y z)))]) := by
  refine Mi.start (cc := cX9_isBlock) (nL := 2) (ret := (some .boolean)) (lv0 := [(0, .ref m), (1, .int b)]) (by decide) rfl (Nat.le_of_ble_eq_true rfl) rfl ?_
  intro pX eX sX mX bX methX cX AX C
  have hnb : nbk sz n ≤ 64 := nbk_le hsz.1 hn
  refine j_iload_n C dX9_isBlock_0 1 rfl 1 rfl ?_
  refine j_iconst C dX9_isBlock_1 (nI 0) (by decide) 2 rfl ?_
  refine j_aload_n C dX9_isBlock_2 0 rfl 3 rfl ?_
  refine j_callVi1 (As := []) (rest := [.int (nI 0), .int b]) (wr := []) C (c_X9_blocks l D cI cZ cH m sa ia ka ra ba bm la ha ap wr wa go w sz ev n g L t x y z (by omega) (by omega)) gX9_isBlock_X9_blocks dX9_isBlock_3 rfl yd_X9_blocks (Nat.le_of_ble_eq_true rfl) (Nat.le_of_ble_eq_true rfl) rfl rfl rfl _ rfl (Nat.le_of_ble_eq_true rfl) (Nat.zero_le _) (Nat.zero_le _) [0, 1] [] rfl rfl rfl rfl rfl (by decide) [0, 1] [(m, .inr (9, [.ref sa, .ref ia, .ref ka, .ref ra, .ref ba, .int (nI bm), .ref la, .ref ha, .int (nI ap), .int (nI wr), .int (nI wa), .int (nI go)])), (sa, .inl (cI, 1072, .inl (stA w sz ev n g L t x y z)))] rfl rfl rfl 6 rfl ?_
  refine j_iconst C dX9_isBlock_6 (nI 1) (by decide) 7 rfl ?_
  refine j_isub C dX9_isBlock_7 (nI (nbk sz n) - nI 1) rfl 8 rfl ?_
  refine j_callSi1 (As := [.int b, .int (nI 0), .int (nI (nbk sz n) - nI 1)]) (rest := []) (wr := [(m, .inr (9, [.ref sa, .ref ia, .ref ka, .ref ra, .ref ba, .int (nI bm), .ref la, .ref ha, .int (nI ap), .int (nI wr), .int (nI wa), .int (nI go)])), (sa, .inl (cI, 1072, .inl (stA w sz ev n g L t x y z)))]) C (c_X9_in l D cI cZ cH b (nI 0) (nI (nbk sz n) - nI 1) ((b).toInt) (((0 : Nat) : Int)) ((nbk sz n : Int) - 1) rfl (q_t (n := 0) (Nat.le_of_ble_eq_true rfl)) (q_m1t (by omega))) gX9_isBlock_X9_in dX9_isBlock_8 rfl yd_X9_in.2 (Nat.le_of_ble_eq_true rfl) (Nat.le_of_ble_eq_true rfl) rfl _ rfl (Nat.le_of_ble_eq_true rfl) (Nat.zero_le _) (Nat.zero_le _) [] [0, 1] rfl rfl rfl rfl rfl (by decide) [0, 1] [(m, .inr (9, [.ref sa, .ref ia, .ref ka, .ref ra, .ref ba, .int (nI bm), .ref la, .ref ha, .int (nI ap), .int (nI wr), .int (nI wa), .int (nI go)])), (sa, .inl (cI, 1072, .inl (stA w sz ev n g L t x y z)))] rfl rfl rfl 11 rfl ?_
  exact j_zret C dX9_isBlock_11 (by split <;> rfl) () (show (if ((0 : Nat) : Int) ≤ b.toInt ∧ b.toInt ≤ (nbk sz n : Int) - 1 then (1 : Int32) else 0) = (if 0 ≤ b.toInt ∧ b.toInt < (nbk sz n : Int) then 1 else 0) from by split <;> split <;> first | rfl | (exfalso; omega)) rfl
