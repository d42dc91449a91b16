set_option maxHeartbeats 4000000 in
set_option maxRecDepth 100000 in
theorem c_X9_fail (l : Launch) (D : va_G) (cI cZ cH : ClassId) (m sa ia ka ra ba bm la ha ap wr wa go : Nat) (num pl : Nat)  : Mv l D cI cZ cH yX9_fail wsX9_fail 0 0 [.ref m, .int (nI num), .int (nI pl)] [(m, .inr (9, [.ref sa, .ref ia, .ref ka, .ref ra, .ref ba, .int (nI bm), .ref la, .ref ha, .int (nI ap), .int (nI wr), .int (nI wa), .int (nI go)]))] (fun (_ : Unit) => True) (fun (_ : Unit) => [(m, .inr (9, [.ref sa, .ref ia, .ref ka, .ref ra, .ref ba, .int (nI bm), .ref la, .ref ha, .int (nI ap), .int (nI num), .int (nI pl), .int (nI go)]))]) := by
  refine Mv.start (cc := cX9_fail) (nL := 3) (ret := none) (lv0 := [(0, .ref m), (1, .int (nI num)), (2, .int (nI pl))]) (by decide) rfl (Nat.le_of_ble_eq_true rfl) rfl ?_
  intro pX eX sX mX bX methX cX AX C
  refine j_aload_n C dX9_fail_0 0 rfl 1 rfl ?_
  refine j_iload_n C dX9_fail_1 1 rfl 2 rfl ?_
  refine j_put C dX9_fail_2 0 9 1 inX9_fail_9 tyX9 tyX9_ok nmX9 rfl rfl (by decide) rfl rfl rfl rfl rfl (Nat.le_of_ble_eq_true rfl) [(m, .inr (9, [.ref sa, .ref ia, .ref ka, .ref ra, .ref ba, .int (nI bm), .ref la, .ref ha, .int (nI ap), .int (nI num), .int (nI wa), .int (nI go)]))] rfl 5 rfl ?_
  refine j_aload_n C dX9_fail_5 0 rfl 6 rfl ?_
  refine j_iload_n C dX9_fail_6 2 rfl 7 rfl ?_
  refine j_put C dX9_fail_7 0 10 2 inX9_fail_9 tyX9 tyX9_ok nmX9 rfl rfl (by decide) rfl rfl rfl rfl rfl (Nat.le_of_ble_eq_true rfl) [(m, .inr (9, [.ref sa, .ref ia, .ref ka, .ref ra, .ref ba, .int (nI bm), .ref la, .ref ha, .int (nI ap), .int (nI num), .int (nI pl), .int (nI go)]))] rfl 10 rfl ?_
  exact j_vret C dX9_fail_10 () trivial rfl
set_option maxHeartbeats 4000000 in
set_option maxRecDepth 100000 in
theorem c_X9_numOk (l : Launch) (D : va_G) (cI cZ cH : ClassId) (m sa ia ka ra ba bm la ha ap wa go : Nat) (w sz ev n : Nat) (g : Nat → Nat) (L : Nat) (t : Nat → Nat) (x : Nat) (y z : Int32) (wd : Nat) (hL : L ≤ 1000) (hok : ap + wd ≤ L) (hwd : wd ≤ 8) : Mi l D cI cZ cH yX9_number wsX9_number 0 0 [.ref m, .int (nI wd)] [(m, .inr (9, [.ref sa, .ref ia, .ref ka, .ref ra, .ref ba, .int (nI bm), .ref la, .ref ha, .int (nI ap), .int (nI 0), .int (nI wa), .int (nI go)])), (sa, .inl (cI, 1072, .inl (stA w sz ev n g L t x y z)))] (fun (r9 : Int32) (_ : Unit) => r9 = nI (rn t ap wd)) (fun (_ : Unit) => [(m, .inr (9, [.ref sa, .ref ia, .ref ka, .ref ra, .ref ba, .int (nI bm), .ref la, .ref ha, .int (nI (ap + wd)), .int (nI 0), .int (nI wa), .int (nI go)])), (sa, .inl (cI, 1072, .inl (stA w sz ev n g L t x y z)))]) := by
  refine Mi.start (cc := cX9_number) (nL := 4) (ret := (some .int)) (lv0 := [(0, .ref m), (1, .int (nI wd))]) (by decide) rfl (Nat.le_of_ble_eq_true rfl) rfl ?_
  intro pX eX sX mX bX methX cX AX C
  refine j_iconst C dX9_number_0 (nI 0) (by decide) 1 rfl ?_
  refine j_istore_n C dX9_number_1 [(2, .int (nI 0)), (0, .ref m), (1, .int (nI wd))] (by decide) rfl 2 rfl ?_
  refine j_iconst C dX9_number_2 (nI 0) (by decide) 3 rfl ?_
  refine j_istore_n C dX9_number_3 [(3, .int (nI 0)), (2, .int (nI 0)), (0, .ref m), (1, .int (nI wd))] (by decide) rfl 4 rfl ?_
  refine j_loop2 (fun (k : Nat) (acc : Nat) => k ≤ wd ∧ acc = rn t ap k) (fun (k : Nat) (acc : Nat) => wd - k) (fun (k : Nat) (acc : Nat) => [(m, .inr (9, [.ref sa, .ref ia, .ref ka, .ref ra, .ref ba, .int (nI bm), .ref la, .ref ha, .int (nI (ap + k)), .int (nI 0), .int (nI wa), .int (nI go)])), (sa, .inl (cI, 1072, .inl (stA w sz ev n g L t x y z)))]) (fun (k : Nat) (acc : Nat) => [(3, .int (nI k)), (2, .int (nI acc)), (0, .ref m), (1, .int (nI wd))]) ?_ 0 0 ⟨by omega, rfl⟩ rfl rfl
  intro k acc hI4 ih4
  obtain ⟨hk, hacc⟩ := hI4
  show J D AX pX l eX _ sX mX _ bX methX cX 0 0 _ 4 [(m, .inr (9, [.ref sa, .ref ia, .ref ka, .ref ra, .ref ba, .int (nI bm), .ref la, .ref ha, .int (nI (ap + k)), .int (nI 0), .int (nI wa), .int (nI go)])), (sa, .inl (cI, 1072, .inl (stA w sz ev n g L t x y z)))] [(3, .int (nI k)), (2, .int (nI acc)), (0, .ref m), (1, .int (nI wd))] 4 []
  refine j_iload_n C dX9_number_4 0 rfl 5 rfl ?_
  refine j_iload_n C dX9_number_5 3 rfl 6 rfl ?_
  refine j_icmp_ge C dX9_number_6 80 (by decide) (q_t (by omega)) (q_t (by omega)) 9 rfl (fun h6 => ?_) (fun h6 => ?_)
  · refine j_iload_n C dX9_number_80 1 rfl 81 rfl ?_
    exact j_iret C dX9_number_81 () (show (nI acc : Int32) = nI (rn t ap wd) from by rw [hacc, show k = wd by omega]) (by rw [show k = wd by omega])
  · refine j_aload_n C dX9_number_9 2 rfl 10 rfl ?_
    refine j_get C dX9_number_10 0 9 1 inX9_number_9 rfl rfl (by decide) rfl rfl rfl 13 rfl ?_
    refine j_if_ne C dX9_number_13 80 (by decide) (q_t (n := 0) (Nat.le_of_ble_eq_true rfl)) 16 rfl (fun h9 => by exfalso; omega) (fun h13 => ?_)
    refine j_aload_n C dX9_number_16 2 rfl 17 rfl ?_
    refine j_get C dX9_number_17 0 8 2 inX9_number_9 rfl rfl (by decide) rfl rfl rfl 20 rfl ?_
    refine j_aload_n C dX9_number_20 2 rfl 21 rfl ?_
    refine j_get C dX9_number_21 0 0 3 inX9_number_9 rfl rfl (by decide) rfl rfl rfl 24 rfl ?_
    refine j_sipush C dX9_number_24 (nI 1065) (by decide) 27 rfl ?_
    refine j_ialdI C dX9_number_27 1 rfl (Nat.le_of_ble_eq_true rfl) (Nat.le_of_ble_eq_true rfl) (nI L) rfl 28 rfl ?_
    refine j_icmp_ne C dX9_number_28 47 (by decide) (q_t (by omega)) (q_t (by omega)) 31 rfl (fun h28 => ?_) (fun h9 => by exfalso; omega)
    refine j_iconst C dX9_number_47 (nI 2) (by decide) 48 rfl ?_
    refine j_iload_n C dX9_number_48 1 rfl 49 rfl ?_
    refine j_imul C dX9_number_49 (nI (2 * acc)) (pk_mul 2 acc) 50 rfl ?_
    refine j_aload_n C dX9_number_50 2 rfl 51 rfl ?_
    refine j_get C dX9_number_51 0 0 3 inX9_number_9 rfl rfl (by decide) rfl rfl rfl 54 rfl ?_
    refine j_bipush C dX9_number_54 (nI 64) (by decide) 56 rfl ?_
    refine j_aload_n C dX9_number_56 2 rfl 57 rfl ?_
    refine j_get C dX9_number_57 0 8 2 inX9_number_9 rfl rfl (by decide) rfl rfl rfl 60 rfl ?_
    refine j_iadd C dX9_number_60 (nI (64 + (ap + k))) (nI_add 64 (ap + k)) 61 rfl ?_
    refine j_ialdI C dX9_number_61 1 rfl (by omega) (Nat.le_of_ble_eq_true rfl) (nI (t (ap + k))) (stA_tape (by omega)) 62 rfl ?_
    refine j_iadd C dX9_number_62 (nI (2 * acc + (t (ap + k)))) (nI_add (2 * acc) (t (ap + k))) 63 rfl ?_
    refine j_istore_n C dX9_number_63 [(2, .int (nI (2 * acc + (t (ap + k))))), (3, .int (nI k)), (0, .ref m), (1, .int (nI wd))] (by decide) rfl 64 rfl ?_
    refine j_aload_n C dX9_number_64 2 rfl 65 rfl ?_
    refine j_dup C dX9_number_65 rfl 66 rfl ?_
    refine j_get C dX9_number_66 0 8 2 inX9_number_9 rfl rfl (by decide) rfl rfl rfl 69 rfl ?_
    refine j_iconst C dX9_number_69 (nI 1) (by decide) 70 rfl ?_
    refine j_iadd C dX9_number_70 (nI (ap + k + 1)) (nI_add (ap + k) 1) 71 rfl ?_
    refine j_put C dX9_number_71 0 8 2 inX9_number_9 tyX9 tyX9_ok nmX9 rfl rfl (by decide) rfl rfl rfl rfl rfl (Nat.le_of_ble_eq_true rfl) [(m, .inr (9, [.ref sa, .ref ia, .ref ka, .ref ra, .ref ba, .int (nI bm), .ref la, .ref ha, .int (nI (ap + k + 1)), .int (nI 0), .int (nI wa), .int (nI go)])), (sa, .inl (cI, 1072, .inl (stA w sz ev n g L t x y z)))] rfl 74 rfl ?_
    refine j_iinc C dX9_number_74 1 rfl (nI (k + 1)) (nI_1 (k)) [(3, .int (nI (k + 1))), (2, .int (nI (2 * acc + (t (ap + k))))), (0, .ref m), (1, .int (nI wd))] (by decide) rfl 77 rfl ?_
    refine j_goto C dX9_number_77 4 (by decide) ?_
    refine j_world [(m, .inr (9, [.ref sa, .ref ia, .ref ka, .ref ra, .ref ba, .int (nI bm), .ref la, .ref ha, .int (nI (ap + (k + 1))), .int (nI 0), .int (nI wa), .int (nI go)])), (sa, .inl (cI, 1072, .inl (stA w sz ev n g L t x y z)))] rfl ?_
    exact ih4 (k + 1) (2 * acc + (t (ap + k))) ⟨by omega, by rw [hacc]; rfl⟩ (by omega)
set_option maxHeartbeats 4000000 in
set_option maxRecDepth 100000 in
theorem c_X9_numNo (l : Launch) (D : va_G) (cI cZ cH : ClassId) (m sa ia ka ra ba bm la ha ap wa go : Nat) (w sz ev n : Nat) (g : Nat → Nat) (L : Nat) (t : Nat → Nat) (x : Nat) (y z : Int32) (wd : Nat) (hL : L ≤ 1000) (hap : ap ≤ L) (hno : L < ap + wd) (hwd : wd ≤ 8) : Mi l D cI cZ cH yX9_number wsX9_number 1 22 [.ref m, .int (nI wd)] [(m, .inr (9, [.ref sa, .ref ia, .ref ka, .ref ra, .ref ba, .int (nI bm), .ref la, .ref ha, .int (nI ap), .int (nI 0), .int (nI wa), .int (nI go)])), (sa, .inl (cI, 1072, .inl (stA w sz ev n g L t x y z)))] (fun (r9 : Int32) (_ : Unit) => r9 = nI (rn t ap (L - ap))) (fun (_ : Unit) => [(m, .inr (9, [.ref sa, .ref ia, .ref ka, .ref ra, .ref ba, .int (nI bm), .ref la, .ref ha, .int (nI L), .int (nI 1), .int (nI L), .int (nI go)])), (sa, .inl (cI, 1072, .inl (stA w sz ev n g L t x y z)))]) := by
  refine Mi.start (cc := cX9_number) (nL := 4) (ret := (some .int)) (lv0 := [(0, .ref m), (1, .int (nI wd))]) (by decide) rfl (Nat.le_of_ble_eq_true rfl) rfl ?_
  intro pX eX sX mX bX methX cX AX C
  refine j_iconst C dX9_number_0 (nI 0) (by decide) 1 rfl ?_
  refine j_istore_n C dX9_number_1 [(2, .int (nI 0)), (0, .ref m), (1, .int (nI wd))] (by decide) rfl 2 rfl ?_
  refine j_iconst C dX9_number_2 (nI 0) (by decide) 3 rfl ?_
  refine j_istore_n C dX9_number_3 [(3, .int (nI 0)), (2, .int (nI 0)), (0, .ref m), (1, .int (nI wd))] (by decide) rfl 4 rfl ?_
  refine j_loop2 (fun (k : Nat) (acc : Nat) => ap + k ≤ L ∧ acc = rn t ap k) (fun (k : Nat) (acc : Nat) => wd - k) (fun (k : Nat) (acc : Nat) => [(m, .inr (9, [.ref sa, .ref ia, .ref ka, .ref ra, .ref ba, .int (nI bm), .ref la, .ref ha, .int (nI (ap + k)), .int (nI 0), .int (nI wa), .int (nI go)])), (sa, .inl (cI, 1072, .inl (stA w sz ev n g L t x y z)))]) (fun (k : Nat) (acc : Nat) => [(3, .int (nI k)), (2, .int (nI acc)), (0, .ref m), (1, .int (nI wd))]) ?_ 0 0 ⟨by omega, rfl⟩ rfl rfl
  intro k acc hI4 ih4
  obtain ⟨hk, hacc⟩ := hI4
  show J D AX pX l eX _ sX mX _ bX methX cX 0 0 _ 4 [(m, .inr (9, [.ref sa, .ref ia, .ref ka, .ref ra, .ref ba, .int (nI bm), .ref la, .ref ha, .int (nI (ap + k)), .int (nI 0), .int (nI wa), .int (nI go)])), (sa, .inl (cI, 1072, .inl (stA w sz ev n g L t x y z)))] [(3, .int (nI k)), (2, .int (nI acc)), (0, .ref m), (1, .int (nI wd))] 4 []
  refine j_iload_n C dX9_number_4 0 rfl 5 rfl ?_
  refine j_iload_n C dX9_number_5 3 rfl 6 rfl ?_
  refine j_icmp_ge C dX9_number_6 80 (by decide) (q_t (by omega)) (q_t (by omega)) 9 rfl (fun h9 => by exfalso; omega) (fun h6 => ?_)
  refine j_aload_n C dX9_number_9 2 rfl 10 rfl ?_
  refine j_get C dX9_number_10 0 9 1 inX9_number_9 rfl rfl (by decide) rfl rfl rfl 13 rfl ?_
  refine j_if_ne C dX9_number_13 80 (by decide) (q_t (n := 0) (Nat.le_of_ble_eq_true rfl)) 16 rfl (fun h9 => by exfalso; omega) (fun h13 => ?_)
  refine j_aload_n C dX9_number_16 2 rfl 17 rfl ?_
  refine j_get C dX9_number_17 0 8 2 inX9_number_9 rfl rfl (by decide) rfl rfl rfl 20 rfl ?_
  refine j_aload_n C dX9_number_20 2 rfl 21 rfl ?_
  refine j_get C dX9_number_21 0 0 3 inX9_number_9 rfl rfl (by decide) rfl rfl rfl 24 rfl ?_
  refine j_sipush C dX9_number_24 (nI 1065) (by decide) 27 rfl ?_
  refine j_ialdI C dX9_number_27 1 rfl (Nat.le_of_ble_eq_true rfl) (Nat.le_of_ble_eq_true rfl) (nI L) rfl 28 rfl ?_
  refine j_icmp_ne C dX9_number_28 47 (by decide) (q_t (by omega)) (q_t (by omega)) 31 rfl (fun h28 => ?_) (fun h28 => ?_)
  · refine j_iconst C dX9_number_47 (nI 2) (by decide) 48 rfl ?_
    refine j_iload_n C dX9_number_48 1 rfl 49 rfl ?_
    refine j_imul C dX9_number_49 (nI (2 * acc)) (pk_mul 2 acc) 50 rfl ?_
    refine j_aload_n C dX9_number_50 2 rfl 51 rfl ?_
    refine j_get C dX9_number_51 0 0 3 inX9_number_9 rfl rfl (by decide) rfl rfl rfl 54 rfl ?_
    refine j_bipush C dX9_number_54 (nI 64) (by decide) 56 rfl ?_
    refine j_aload_n C dX9_number_56 2 rfl 57 rfl ?_
    refine j_get C dX9_number_57 0 8 2 inX9_number_9 rfl rfl (by decide) rfl rfl rfl 60 rfl ?_
    refine j_iadd C dX9_number_60 (nI (64 + (ap + k))) (nI_add 64 (ap + k)) 61 rfl ?_
    refine j_ialdI C dX9_number_61 1 rfl (by omega) (Nat.le_of_ble_eq_true rfl) (nI (t (ap + k))) (stA_tape (by omega)) 62 rfl ?_
    refine j_iadd C dX9_number_62 (nI (2 * acc + (t (ap + k)))) (nI_add (2 * acc) (t (ap + k))) 63 rfl ?_
    refine j_istore_n C dX9_number_63 [(2, .int (nI (2 * acc + (t (ap + k))))), (3, .int (nI k)), (0, .ref m), (1, .int (nI wd))] (by decide) rfl 64 rfl ?_
    refine j_aload_n C dX9_number_64 2 rfl 65 rfl ?_
    refine j_dup C dX9_number_65 rfl 66 rfl ?_
    refine j_get C dX9_number_66 0 8 2 inX9_number_9 rfl rfl (by decide) rfl rfl rfl 69 rfl ?_
    refine j_iconst C dX9_number_69 (nI 1) (by decide) 70 rfl ?_
    refine j_iadd C dX9_number_70 (nI (ap + k + 1)) (nI_add (ap + k) 1) 71 rfl ?_
    refine j_put C dX9_number_71 0 8 2 inX9_number_9 tyX9 tyX9_ok nmX9 rfl rfl (by decide) rfl rfl rfl rfl rfl (Nat.le_of_ble_eq_true rfl) [(m, .inr (9, [.ref sa, .ref ia, .ref ka, .ref ra, .ref ba, .int (nI bm), .ref la, .ref ha, .int (nI (ap + k + 1)), .int (nI 0), .int (nI wa), .int (nI go)])), (sa, .inl (cI, 1072, .inl (stA w sz ev n g L t x y z)))] rfl 74 rfl ?_
    refine j_iinc C dX9_number_74 1 rfl (nI (k + 1)) (nI_1 (k)) [(3, .int (nI (k + 1))), (2, .int (nI (2 * acc + (t (ap + k))))), (0, .ref m), (1, .int (nI wd))] (by decide) rfl 77 rfl ?_
    refine j_goto C dX9_number_77 4 (by decide) ?_
    refine j_world [(m, .inr (9, [.ref sa, .ref ia, .ref ka, .ref ra, .ref ba, .int (nI bm), .ref la, .ref ha, .int (nI (ap + (k + 1))), .int (nI 0), .int (nI wa), .int (nI go)])), (sa, .inl (cI, 1072, .inl (stA w sz ev n g L t x y z)))] rfl ?_
    exact ih4 (k + 1) (2 * acc + (t (ap + k))) ⟨by omega, by rw [hacc]; rfl⟩ (by omega)
  · refine j_aload_n C dX9_number_31 2 rfl 32 rfl ?_
    refine j_iconst C dX9_number_32 (nI 1) (by decide) 33 rfl ?_
    refine j_aload_n C dX9_number_33 2 rfl 34 rfl ?_
    refine j_get C dX9_number_34 0 0 3 inX9_number_9 rfl rfl (by decide) rfl rfl rfl 37 rfl ?_
    refine j_sipush C dX9_number_37 (nI 1065) (by decide) 40 rfl ?_
    refine j_ialdI C dX9_number_40 1 rfl (Nat.le_of_ble_eq_true rfl) (Nat.le_of_ble_eq_true rfl) (nI L) rfl 41 rfl ?_
    refine j_callVv1 (As := [.int (nI 1), .int (nI L)]) (rest := []) (wr := [(sa, .inl (cI, 1072, .inl (stA w sz ev n g L t x y z)))]) C (c_X9_fail l D cI cZ cH m sa ia ka ra ba bm la ha (ap + k) 0 wa go 1 L ) gX9_number_X9_fail dX9_number_41 rfl yd_X9_fail (Nat.le_of_ble_eq_true rfl) (Nat.le_of_ble_eq_true rfl) rfl rfl rfl _ rfl (Nat.le_of_ble_eq_true rfl) (Nat.zero_le _) (Nat.zero_le _) [0] [1] rfl rfl rfl rfl rfl (by decide) [1, 0] [(m, .inr (9, [.ref sa, .ref ia, .ref ka, .ref ra, .ref ba, .int (nI bm), .ref la, .ref ha, .int (nI (ap + k)), .int (nI 1), .int (nI L), .int (nI go)])), (sa, .inl (cI, 1072, .inl (stA w sz ev n g L t x y z)))] rfl rfl rfl 44 rfl ?_
    refine j_goto C dX9_number_44 74 (by decide) ?_
    refine j_iinc C dX9_number_74 0 rfl (nI (k + 1)) (nI_1 (k)) [(3, .int (nI (k + 1))), (2, .int (nI acc)), (0, .ref m), (1, .int (nI wd))] (by decide) rfl 77 rfl ?_
    refine j_goto C dX9_number_77 4 (by decide) ?_
    refine j_iload_n C dX9_number_4 0 rfl 5 rfl ?_
    refine j_iload_n C dX9_number_5 3 rfl 6 rfl ?_
    refine j_icmp_ge C dX9_number_6 80 (by decide) (q_t (by omega)) (q_t (by omega)) 9 rfl (fun h6 => ?_) (fun h6 => ?_)
    · refine j_iload_n C dX9_number_80 1 rfl 81 rfl ?_
      exact j_iret C dX9_number_81 () (show (nI acc : Int32) = nI (rn t ap (L - ap)) from by rw [hacc]; congr 2; omega) (by rw [show ap + k = L by omega])
    · refine j_aload_n C dX9_number_9 2 rfl 10 rfl ?_
      refine j_get C dX9_number_10 0 9 1 inX9_number_9 rfl rfl (by decide) rfl rfl rfl 13 rfl ?_
      refine j_if_ne C dX9_number_13 80 (by decide) (q_t (n := 1) (Nat.le_of_ble_eq_true rfl)) 16 rfl (fun h13 => ?_) (fun h9 => by exfalso; omega)
      refine j_iload_n C dX9_number_80 1 rfl 81 rfl ?_
      exact j_iret C dX9_number_81 () (show (nI acc : Int32) = nI (rn t ap (L - ap)) from by rw [hacc]; congr 2; omega) (by rw [show ap + k = L by omega])
set_option maxHeartbeats 4000000 in
set_option maxRecDepth 100000 in
theorem c_X9_numW (l : Launch) (D : va_G) (cI cZ cH : ClassId) (m sa ia ka ra ba bm la ha ap wr wa go : Nat) (w sz ev n : Nat) (g : Nat → Nat) (L : Nat) (t : Nat → Nat) (x : Nat) (y z : Int32) (wd : Nat) (hwr : ¬ wr = 0) (hwr5 : wr < 5) (hwd : wd ≤ 8) : Mi l D cI cZ cH yX9_number wsX9_number 0 0 [.ref m, .int (nI wd)] [(m, .inr (9, [.ref sa, .ref ia, .ref ka, .ref ra, .ref ba, .int (nI bm), .ref la, .ref ha, .int (nI ap), .int (nI wr), .int (nI wa), .int (nI go)])), (sa, .inl (cI, 1072, .inl (stA w sz ev n g L t x y z)))] (fun (r9 : Int32) (_ : Unit) => r9 = nI 0) (fun (_ : Unit) => [(m, .inr (9, [.ref sa, .ref ia, .ref ka, .ref ra, .ref ba, .int (nI bm), .ref la, .ref ha, .int (nI ap), .int (nI wr), .int (nI wa), .int (nI go)])), (sa, .inl (cI, 1072, .inl (stA w sz ev n g L t x y z)))]) := by
  refine Mi.start (cc := cX9_number) (nL := 4) (ret := (some .int)) (lv0 := [(0, .ref m), (1, .int (nI wd))]) (by decide) rfl (Nat.le_of_ble_eq_true rfl) rfl ?_
  intro pX eX sX mX bX methX cX AX C
  refine j_iconst C dX9_number_0 (nI 0) (by decide) 1 rfl ?_
  refine j_istore_n C dX9_number_1 [(2, .int (nI 0)), (0, .ref m), (1, .int (nI wd))] (by decide) rfl 2 rfl ?_
  refine j_iconst C dX9_number_2 (nI 0) (by decide) 3 rfl ?_
  refine j_istore_n C dX9_number_3 [(3, .int (nI 0)), (2, .int (nI 0)), (0, .ref m), (1, .int (nI wd))] (by decide) rfl 4 rfl ?_
  refine j_iload_n C dX9_number_4 0 rfl 5 rfl ?_
  refine j_iload_n C dX9_number_5 3 rfl 6 rfl ?_
  refine j_icmp_ge C dX9_number_6 80 (by decide) (q_t (n := 0) (Nat.le_of_ble_eq_true rfl)) (q_t (by omega)) 9 rfl (fun h6 => ?_) (fun h6 => ?_)
  · refine j_iload_n C dX9_number_80 1 rfl 81 rfl ?_
    exact j_iret C dX9_number_81 () rfl rfl
  · refine j_aload_n C dX9_number_9 2 rfl 10 rfl ?_
    refine j_get C dX9_number_10 0 9 1 inX9_number_9 rfl rfl (by decide) rfl rfl rfl 13 rfl ?_
    refine j_if_ne C dX9_number_13 80 (by decide) (q_t (by omega)) 16 rfl (fun h13 => ?_) (fun h9 => by exfalso; omega)
    refine j_iload_n C dX9_number_80 1 rfl 81 rfl ?_
    exact j_iret C dX9_number_81 () rfl rfl
set_option maxHeartbeats 4000000 in
set_option maxRecDepth 100000 in
theorem c_X9_rfOk (l : Launch) (D : va_G) (cI cZ cH : ClassId) (m sa ia ka ra ba bm la ha ap wa go : Nat) (w sz ev n : Nat) (g : Nat → Nat) (L : Nat) (t : Nat → Nat) (x : Nat) (y z : Int32) (code : Nat) (hw : 2 ≤ w ∧ w ≤ 8) (hL : L ≤ 1000) (ht : ∀ j, j < L → t j ≤ 1) (hap : ap ≤ L) (hc : okC w code) (hok : (rfold t L w ap code).1 = 0) : Mi l D cI cZ cH yX9_readFold wsX9_readFold 2 45 [.ref m, .int (nI code)] [(m, .inr (9, [.ref sa, .ref ia, .ref ka, .ref ra, .ref ba, .int (nI bm), .ref la, .ref ha, .int (nI ap), .int (nI 0), .int (nI wa), .int (nI go)])), (sa, .inl (cI, 1072, .inl (stA w sz ev n g L t x y z)))] (fun (r9 : Int32) (_ : Unit) => r9 = nI ((rfold t L w ap code).2.1)) (fun (_ : Unit) => [(m, .inr (9, [.ref sa, .ref ia, .ref ka, .ref ra, .ref ba, .int (nI bm), .ref la, .ref ha, .int (nI ((rfold t L w ap code).2.2)), .int (nI 0), .int (nI wa), .int (nI go)])), (sa, .inl (cI, 1072, .inl (stA w sz ev n g L t x y z)))]) := by
  refine Mi.start (cc := cX9_readFold) (nL := 6) (ret := (some .int)) (lv0 := [(0, .ref m), (1, .int (nI code))]) (by decide) rfl (Nat.le_of_ble_eq_true rfl) rfl ?_
  intro pX eX sX mX bX methX cX AX C
  have h2w := tpW_le hw.2
  obtain ⟨mo, hmo⟩ : ∃ q, q = tpW w / 2 ^ (code - 1) := ⟨_, rfl⟩
  have hmo2 : mo ≤ 255 := by rw [hmo]; exact Nat.le_trans (Nat.div_le_self _ _) h2w
  refine j_iload_n C dX9_readFold_0 1 rfl 1 rfl ?_
  refine j_if_ne C dX9_readFold_1 6 (by decide) (q_t (by omega)) 4 rfl (fun h1 => ?_) (fun h1 => ?_)
  · refine j_iload_n C dX9_readFold_6 1 rfl 7 rfl ?_
    refine j_bipush C dX9_readFold_7 (nI 8) (by decide) 9 rfl ?_
    refine j_icmp_ne C dX9_readFold_9 25 (by decide) (q_t (by omega)) (q_t (n := 8) (Nat.le_of_ble_eq_true rfl)) 12 rfl (fun h9 => ?_) (fun h9 => ?_)
    · have hrf : rfold t L w ap code = rnou t L w ap (code - 1) := by unfold rfold; rw [if_neg (by omega), if_neg (by omega)]
      refine j_aload_n C dX9_readFold_25 0 rfl 26 rfl ?_
      refine j_get C dX9_readFold_26 0 8 2 inX9_readFold_9 rfl rfl (by decide) rfl rfl rfl 29 rfl ?_
      refine j_istore_n C dX9_readFold_29 [(2, .int (nI ap)), (0, .ref m), (1, .int (nI code))] (by decide) rfl 30 rfl ?_
      refine j_iconst C dX9_readFold_30 (nI 0) (by decide) 31 rfl ?_
      refine j_istore_n C dX9_readFold_31 [(3, .int (nI 0)), (2, .int (nI ap)), (0, .ref m), (1, .int (nI code))] (by decide) rfl 32 rfl ?_
      refine j_aload_n C dX9_readFold_32 2 rfl 33 rfl ?_
      refine j_iconst C dX9_readFold_33 (nI 1) (by decide) 34 rfl ?_
      rcases Nat.lt_or_ge L (ap + 1) with h34 | h34
      · refine j_callVi1 (As := [.int (nI 1)]) (rest := []) (wr := []) C (c_X9_numNo l D cI cZ cH m sa ia ka ra ba bm la ha ap wa go w sz ev n g L t x y z 1 (by omega) (by omega) (by omega) (by omega)) gX9_readFold_X9_number dX9_readFold_34 rfl yd_X9_number (Nat.le_of_ble_eq_true rfl) (Nat.le_of_ble_eq_true rfl) rfl rfl rfl _ rfl (Nat.le_of_ble_eq_true rfl) (Nat.zero_le _) (Nat.zero_le _) [0, 1] [] rfl rfl rfl rfl rfl (by decide) [0, 1] [(m, .inr (9, [.ref sa, .ref ia, .ref ka, .ref ra, .ref ba, .int (nI bm), .ref la, .ref ha, .int (nI L), .int (nI 1), .int (nI L), .int (nI go)])), (sa, .inl (cI, 1072, .inl (stA w sz ev n g L t x y z)))] rfl rfl rfl 37 rfl ?_
        have hz : zc t L (mo + 1) ap = 0 := zc_stop (by omega)
        have hz2 : zc t L (tpW w / 2 ^ (code - 1) + 1) ap = 0 := by rw [← hmo]; exact hz
        have hrr := rnou_1 (w := w) (k := code - 1) hz2 (Nat.zero_le _) (by omega)
        refine j_istore C dX9_readFold_37 [(4, .int (nI (rn t ap (L - ap)))), (3, .int (nI 0)), (2, .int (nI ap)), (0, .ref m), (1, .int (nI code))] (by decide) rfl 39 rfl ?_
        refine j_aload_n C dX9_readFold_39 3 rfl 40 rfl ?_
        refine j_get C dX9_readFold_40 0 9 3 inX9_readFold_9 rfl rfl (by decide) rfl rfl rfl 43 rfl ?_
        refine j_if_ne C dX9_readFold_43 85 (by decide) (q_t (n := 1) (Nat.le_of_ble_eq_true rfl)) 46 rfl (fun h43 => ?_) (fun h9 => by exfalso; omega)
        refine j_aload_n C dX9_readFold_85 3 rfl 86 rfl ?_
        refine j_get C dX9_readFold_86 0 9 3 inX9_readFold_9 rfl rfl (by decide) rfl rfl rfl 89 rfl ?_
        refine j_if_ne C dX9_readFold_89 102 (by decide) (q_t (n := 1) (Nat.le_of_ble_eq_true rfl)) 92 rfl (fun h89 => ?_) (fun h9 => by exfalso; omega)
        refine j_iconst C dX9_readFold_102 (nI 0) (by decide) 103 rfl ?_
        refine j_istore C dX9_readFold_103 [(5, .int (nI 0)), (4, .int (nI (rn t ap (L - ap)))), (3, .int (nI 0)), (2, .int (nI ap)), (0, .ref m), (1, .int (nI code))] (by decide) rfl 105 rfl ?_
        refine j_iload_n C dX9_readFold_105 2 rfl 106 rfl ?_
        refine j_iload_n C dX9_readFold_106 5 rfl 107 rfl ?_
        refine j_iconst C dX9_readFold_107 (nI 1) (by decide) 108 rfl ?_
        refine j_isub C dX9_readFold_108 (nI (code - 1)) (pk_sub (by omega)) 109 rfl ?_
        refine j_ishl C dX9_readFold_109 (nI (0 * 2 ^ (code - 1))) (q_shl (by omega) (by omega)) 110 rfl ?_
        refine j_iload C dX9_readFold_110 0 rfl 112 rfl ?_
        refine j_iadd C dX9_readFold_112 (nI (0 * 2 ^ (code - 1) + 0)) (nI_add (0 * 2 ^ (code - 1)) 0) 113 rfl ?_
        exact j_iret C dX9_readFold_113 () (by exfalso; rw [hrf, hrr] at hok; simp at hok) (by exfalso; rw [hrf, hrr] at hok; simp at hok)
      · refine j_callVi1 (As := [.int (nI 1)]) (rest := []) (wr := []) C (c_X9_numOk l D cI cZ cH m sa ia ka ra ba bm la ha ap wa go w sz ev n g L t x y z 1 (by omega) (by omega) (by omega)) gX9_readFold_X9_number dX9_readFold_34 rfl yd_X9_number (Nat.le_of_ble_eq_true rfl) (Nat.le_of_ble_eq_true rfl) rfl rfl rfl _ rfl (Nat.le_of_ble_eq_true rfl) (Nat.zero_le _) (Nat.zero_le _) [0, 1] [] rfl rfl rfl rfl rfl (by decide) [0, 1] [(m, .inr (9, [.ref sa, .ref ia, .ref ka, .ref ra, .ref ba, .int (nI bm), .ref la, .ref ha, .int (nI (ap + 1)), .int (nI 0), .int (nI wa), .int (nI go)])), (sa, .inl (cI, 1072, .inl (stA w sz ev n g L t x y z)))] rfl rfl rfl 37 rfl ?_
        refine j_istore C dX9_readFold_37 [(4, .int (nI (rn t ap 1))), (3, .int (nI 0)), (2, .int (nI ap)), (0, .ref m), (1, .int (nI code))] (by decide) rfl 39 rfl ?_
        refine j_loop1 (fun (k : Nat) => k ≤ mo ∧ ap + k < L ∧ zc t L (mo + 1) ap = k + zc t L (mo + 1 - k) (ap + k)) (fun (k : Nat) => mo + 1 - k) (fun (k : Nat) => [(m, .inr (9, [.ref sa, .ref ia, .ref ka, .ref ra, .ref ba, .int (nI bm), .ref la, .ref ha, .int (nI (ap + k + 1)), .int (nI 0), .int (nI wa), .int (nI go)])), (sa, .inl (cI, 1072, .inl (stA w sz ev n g L t x y z)))]) (fun (k : Nat) => [(4, .int (nI (t (ap + k)))), (3, .int (nI k)), (2, .int (nI ap)), (0, .ref m), (1, .int (nI code))]) ?_ 0 ⟨by omega, by omega, by simp⟩ rfl (by simp only [rn, Nat.mul_zero, Nat.zero_add, Nat.add_zero])
        intro k hI39 ih39
        obtain ⟨hk, hkl, hzc⟩ := hI39
        show J D AX pX l eX _ sX mX _ bX methX cX 0 0 _ 6 [(m, .inr (9, [.ref sa, .ref ia, .ref ka, .ref ra, .ref ba, .int (nI bm), .ref la, .ref ha, .int (nI (ap + k + 1)), .int (nI 0), .int (nI wa), .int (nI go)])), (sa, .inl (cI, 1072, .inl (stA w sz ev n g L t x y z)))] [(4, .int (nI (t (ap + k)))), (3, .int (nI k)), (2, .int (nI ap)), (0, .ref m), (1, .int (nI code))] 39 []
        have htk := ht _ hkl
        refine j_aload_n C dX9_readFold_39 3 rfl 40 rfl ?_
        refine j_get C dX9_readFold_40 0 9 3 inX9_readFold_9 rfl rfl (by decide) rfl rfl rfl 43 rfl ?_
        refine j_if_ne C dX9_readFold_43 85 (by decide) (q_t (n := 0) (Nat.le_of_ble_eq_true rfl)) 46 rfl (fun h9 => by exfalso; omega) (fun h43 => ?_)
        refine j_iload C dX9_readFold_46 0 rfl 48 rfl ?_
        refine j_if_ne C dX9_readFold_48 85 (by decide) (q_t (by omega)) 51 rfl (fun h48 => ?_) (fun h48 => ?_)
        · have hz : zc t L (mo + 1) ap = k := by rw [hzc, zc_stop (by omega)]; rfl
          have hz2 : zc t L (tpW w / 2 ^ (code - 1) + 1) ap = k := by rw [← hmo]; exact hz
          have hm2 : k * 2 ^ (code - 1) ≤ 257 * 2 ^ 7 := Nat.mul_le_mul (by omega) (Nat.pow_le_pow_right (by decide) (by omega))
          refine j_aload_n C dX9_readFold_85 3 rfl 86 rfl ?_
          refine j_get C dX9_readFold_86 0 9 3 inX9_readFold_9 rfl rfl (by decide) rfl rfl rfl 89 rfl ?_
          refine j_if_ne C dX9_readFold_89 102 (by decide) (q_t (n := 0) (Nat.le_of_ble_eq_true rfl)) 92 rfl (fun h9 => by exfalso; omega) (fun h89 => ?_)
          refine j_aload_n C dX9_readFold_92 3 rfl 93 rfl ?_
          refine j_iload_n C dX9_readFold_93 4 rfl 94 rfl ?_
          refine j_iconst C dX9_readFold_94 (nI 1) (by decide) 95 rfl ?_
          refine j_isub C dX9_readFold_95 (nI (code - 1)) (pk_sub (by omega)) 96 rfl ?_
          rcases Nat.lt_or_ge L (ap + k + 1 + (code - 1)) with h96 | h96
          · refine j_callVi1 (As := [.int (nI (code - 1))]) (rest := []) (wr := []) C (c_X9_numNo l D cI cZ cH m sa ia ka ra ba bm la ha (ap + k + 1) wa go w sz ev n g L t x y z (code - 1) (by omega) (by omega) (by omega) (by omega)) gX9_readFold_X9_number dX9_readFold_96 rfl yd_X9_number (Nat.le_of_ble_eq_true rfl) (Nat.le_of_ble_eq_true rfl) rfl rfl rfl _ rfl (Nat.le_of_ble_eq_true rfl) (Nat.zero_le _) (Nat.zero_le _) [0, 1] [] rfl rfl rfl rfl rfl (by decide) [0, 1] [(m, .inr (9, [.ref sa, .ref ia, .ref ka, .ref ra, .ref ba, .int (nI bm), .ref la, .ref ha, .int (nI L), .int (nI 1), .int (nI L), .int (nI go)])), (sa, .inl (cI, 1072, .inl (stA w sz ev n g L t x y z)))] rfl rfl rfl 99 rfl ?_
            have hrr := rnou_1b (w := w) (k := code - 1) hz2 (by rw [← hmo]; omega) hkl h96
            have hrl : rn t (ap + k + 1) (L - (ap + k + 1)) < 2 ^ (L - (ap + k + 1)) := rn_lt ht (by omega)
            have hrp : 2 ^ (L - (ap + k + 1)) ≤ 2 ^ 8 := Nat.pow_le_pow_right (by decide) (by omega)
            refine j_goto C dX9_readFold_99 103 (by decide) ?_
            refine j_istore C dX9_readFold_103 [(5, .int (nI (rn t (ap + k + 1) (L - (ap + k + 1))))), (4, .int (nI (t (ap + k)))), (3, .int (nI k)), (2, .int (nI ap)), (0, .ref m), (1, .int (nI code))] (by decide) rfl 105 rfl ?_
            refine j_iload_n C dX9_readFold_105 2 rfl 106 rfl ?_
            refine j_iload_n C dX9_readFold_106 5 rfl 107 rfl ?_
            refine j_iconst C dX9_readFold_107 (nI 1) (by decide) 108 rfl ?_
            refine j_isub C dX9_readFold_108 (nI (code - 1)) (pk_sub (by omega)) 109 rfl ?_
            refine j_ishl C dX9_readFold_109 (nI (k * 2 ^ (code - 1))) (q_shl (by omega) (by omega)) 110 rfl ?_
            refine j_iload C dX9_readFold_110 0 rfl 112 rfl ?_
            refine j_iadd C dX9_readFold_112 (nI (k * 2 ^ (code - 1) + (rn t (ap + k + 1) (L - (ap + k + 1))))) (nI_add (k * 2 ^ (code - 1)) (rn t (ap + k + 1) (L - (ap + k + 1)))) 113 rfl ?_
            exact j_iret C dX9_readFold_113 () (by exfalso; rw [hrf, hrr] at hok; simp at hok) (by exfalso; rw [hrf, hrr] at hok; simp at hok)
          · refine j_callVi1 (As := [.int (nI (code - 1))]) (rest := []) (wr := []) C (c_X9_numOk l D cI cZ cH m sa ia ka ra ba bm la ha (ap + k + 1) wa go w sz ev n g L t x y z (code - 1) (by omega) (by omega) (by omega)) gX9_readFold_X9_number dX9_readFold_96 rfl yd_X9_number (Nat.le_of_ble_eq_true rfl) (Nat.le_of_ble_eq_true rfl) rfl rfl rfl _ rfl (Nat.le_of_ble_eq_true rfl) (Nat.zero_le _) (Nat.zero_le _) [0, 1] [] rfl rfl rfl rfl rfl (by decide) [0, 1] [(m, .inr (9, [.ref sa, .ref ia, .ref ka, .ref ra, .ref ba, .int (nI bm), .ref la, .ref ha, .int (nI ((ap + k + 1) + (code - 1))), .int (nI 0), .int (nI wa), .int (nI go)])), (sa, .inl (cI, 1072, .inl (stA w sz ev n g L t x y z)))] rfl rfl rfl 99 rfl ?_
            have hrr := rnou_0 (w := w) (k := code - 1) hz2 (by rw [← hmo]; omega) hkl h96
            refine j_goto C dX9_readFold_99 103 (by decide) ?_
            refine j_istore C dX9_readFold_103 [(5, .int (nI (rn t (ap + k + 1) (code - 1)))), (4, .int (nI (t (ap + k)))), (3, .int (nI k)), (2, .int (nI ap)), (0, .ref m), (1, .int (nI code))] (by decide) rfl 105 rfl ?_
            refine j_iload_n C dX9_readFold_105 2 rfl 106 rfl ?_
            refine j_iload_n C dX9_readFold_106 5 rfl 107 rfl ?_
            refine j_iconst C dX9_readFold_107 (nI 1) (by decide) 108 rfl ?_
            refine j_isub C dX9_readFold_108 (nI (code - 1)) (pk_sub (by omega)) 109 rfl ?_
            refine j_ishl C dX9_readFold_109 (nI (k * 2 ^ (code - 1))) (q_shl (by omega) (by omega)) 110 rfl ?_
            refine j_iload C dX9_readFold_110 0 rfl 112 rfl ?_
            refine j_iadd C dX9_readFold_112 (nI (k * 2 ^ (code - 1) + (rn t (ap + k + 1) (code - 1)))) (nI_add (k * 2 ^ (code - 1)) (rn t (ap + k + 1) (code - 1))) 113 rfl ?_
            exact j_iret C dX9_readFold_113 () (show (nI (k * 2 ^ (code - 1) + (rn t (ap + k + 1) (code - 1))) : Int32) = nI ((rfold t L w ap code).2.1) from by rw [hrf, hrr]) (by rw [hrf, hrr])
        · refine j_iinc C dX9_readFold_51 1 rfl (nI (k + 1)) (nI_1 (k)) [(3, .int (nI (k + 1))), (4, .int (nI (t (ap + k)))), (2, .int (nI ap)), (0, .ref m), (1, .int (nI code))] (by decide) rfl 54 rfl ?_
          refine j_iload_n C dX9_readFold_54 0 rfl 55 rfl ?_
          refine j_aload_n C dX9_readFold_55 3 rfl 56 rfl ?_
          refine j_callVi1 (As := []) (rest := [.int (nI (k + 1))]) (wr := []) C (c_X9_top l D cI cZ cH m sa ia ka ra ba bm la ha (ap + k + 1) 0 wa go w sz ev n g L t x y z hw.2) gX9_readFold_X9_top dX9_readFold_56 rfl yd_X9_top (Nat.le_of_ble_eq_true rfl) (Nat.le_of_ble_eq_true rfl) rfl rfl rfl _ rfl (Nat.le_of_ble_eq_true rfl) (Nat.zero_le _) (Nat.zero_le _) [0, 1] [] rfl rfl rfl rfl rfl (by decide) [0, 1] [(m, .inr (9, [.ref sa, .ref ia, .ref ka, .ref ra, .ref ba, .int (nI bm), .ref la, .ref ha, .int (nI (ap + k + 1)), .int (nI 0), .int (nI wa), .int (nI go)])), (sa, .inl (cI, 1072, .inl (stA w sz ev n g L t x y z)))] rfl rfl rfl 59 rfl ?_
          refine j_iload_n C dX9_readFold_59 4 rfl 60 rfl ?_
          refine j_iconst C dX9_readFold_60 (nI 1) (by decide) 61 rfl ?_
          refine j_isub C dX9_readFold_61 (nI (code - 1)) (pk_sub (by omega)) 62 rfl ?_
          refine j_ishr C dX9_readFold_62 (nI (tpW w / 2 ^ (code - 1))) (q_shr (by omega) (by omega)) 63 rfl ?_
          have hshr62 := Nat.div_le_self (tpW w) (2 ^ (code - 1))
          refine j_top (nI mo) (by rw [hmo]) ?_
          refine j_icmp_le C dX9_readFold_63 75 (by decide) (q_t (by omega)) (q_t (by omega)) 66 rfl (fun h63 => ?_) (fun h63 => ?_)
          · refine j_aload_n C dX9_readFold_75 3 rfl 76 rfl ?_
            refine j_iconst C dX9_readFold_76 (nI 1) (by decide) 77 rfl ?_
            rcases Nat.lt_or_ge L (ap + k + 1 + 1) with h77 | h77
            · refine j_callVi1 (As := [.int (nI 1)]) (rest := []) (wr := []) C (c_X9_numNo l D cI cZ cH m sa ia ka ra ba bm la ha (ap + k + 1) wa go w sz ev n g L t x y z 1 (by omega) (by omega) (by omega) (by omega)) gX9_readFold_X9_number dX9_readFold_77 rfl yd_X9_number (Nat.le_of_ble_eq_true rfl) (Nat.le_of_ble_eq_true rfl) rfl rfl rfl _ rfl (Nat.le_of_ble_eq_true rfl) (Nat.zero_le _) (Nat.zero_le _) [0, 1] [] rfl rfl rfl rfl rfl (by decide) [0, 1] [(m, .inr (9, [.ref sa, .ref ia, .ref ka, .ref ra, .ref ba, .int (nI bm), .ref la, .ref ha, .int (nI L), .int (nI 1), .int (nI L), .int (nI go)])), (sa, .inl (cI, 1072, .inl (stA w sz ev n g L t x y z)))] rfl rfl rfl 80 rfl ?_
              have hz : zc t L (mo + 1) ap = k + 1 := by rw [hzc, show mo + 1 - k = (mo - k) + 1 by omega, zc_go hkl (by omega), zc_stop (by omega)]
              have hz2 : zc t L (tpW w / 2 ^ (code - 1) + 1) ap = k + 1 := by rw [← hmo]; exact hz
              have hm2 : (k + 1) * 2 ^ (code - 1) ≤ 257 * 2 ^ 7 := Nat.mul_le_mul (by omega) (Nat.pow_le_pow_right (by decide) (by omega))
              have hrr := rnou_1 (w := w) (k := code - 1) hz2 (by rw [← hmo]; omega) (by omega)
              refine j_istore C dX9_readFold_80 [(4, .int (nI (rn t (ap + k + 1) (L - (ap + k + 1))))), (3, .int (nI (k + 1))), (2, .int (nI ap)), (0, .ref m), (1, .int (nI code))] (by decide) rfl 82 rfl ?_
              refine j_goto C dX9_readFold_82 39 (by decide) ?_
              refine j_aload_n C dX9_readFold_39 3 rfl 40 rfl ?_
              refine j_get C dX9_readFold_40 0 9 3 inX9_readFold_9 rfl rfl (by decide) rfl rfl rfl 43 rfl ?_
              refine j_if_ne C dX9_readFold_43 85 (by decide) (q_t (n := 1) (Nat.le_of_ble_eq_true rfl)) 46 rfl (fun h43 => ?_) (fun h9 => by exfalso; omega)
              refine j_aload_n C dX9_readFold_85 3 rfl 86 rfl ?_
              refine j_get C dX9_readFold_86 0 9 3 inX9_readFold_9 rfl rfl (by decide) rfl rfl rfl 89 rfl ?_
              refine j_if_ne C dX9_readFold_89 102 (by decide) (q_t (n := 1) (Nat.le_of_ble_eq_true rfl)) 92 rfl (fun h89 => ?_) (fun h9 => by exfalso; omega)
              refine j_iconst C dX9_readFold_102 (nI 0) (by decide) 103 rfl ?_
              refine j_istore C dX9_readFold_103 [(5, .int (nI 0)), (4, .int (nI (rn t (ap + k + 1) (L - (ap + k + 1))))), (3, .int (nI (k + 1))), (2, .int (nI ap)), (0, .ref m), (1, .int (nI code))] (by decide) rfl 105 rfl ?_
              refine j_iload_n C dX9_readFold_105 2 rfl 106 rfl ?_
              refine j_iload_n C dX9_readFold_106 5 rfl 107 rfl ?_
              refine j_iconst C dX9_readFold_107 (nI 1) (by decide) 108 rfl ?_
              refine j_isub C dX9_readFold_108 (nI (code - 1)) (pk_sub (by omega)) 109 rfl ?_
              refine j_ishl C dX9_readFold_109 (nI ((k + 1) * 2 ^ (code - 1))) (q_shl (by omega) (by omega)) 110 rfl ?_
              refine j_iload C dX9_readFold_110 0 rfl 112 rfl ?_
              refine j_iadd C dX9_readFold_112 (nI ((k + 1) * 2 ^ (code - 1) + 0)) (nI_add ((k + 1) * 2 ^ (code - 1)) 0) 113 rfl ?_
              exact j_iret C dX9_readFold_113 () (by exfalso; rw [hrf, hrr] at hok; simp at hok) (by exfalso; rw [hrf, hrr] at hok; simp at hok)
            · refine j_callVi1 (As := [.int (nI 1)]) (rest := []) (wr := []) C (c_X9_numOk l D cI cZ cH m sa ia ka ra ba bm la ha (ap + k + 1) wa go w sz ev n g L t x y z 1 (by omega) (by omega) (by omega)) gX9_readFold_X9_number dX9_readFold_77 rfl yd_X9_number (Nat.le_of_ble_eq_true rfl) (Nat.le_of_ble_eq_true rfl) rfl rfl rfl _ rfl (Nat.le_of_ble_eq_true rfl) (Nat.zero_le _) (Nat.zero_le _) [0, 1] [] rfl rfl rfl rfl rfl (by decide) [0, 1] [(m, .inr (9, [.ref sa, .ref ia, .ref ka, .ref ra, .ref ba, .int (nI bm), .ref la, .ref ha, .int (nI ((ap + k + 1) + 1)), .int (nI 0), .int (nI wa), .int (nI go)])), (sa, .inl (cI, 1072, .inl (stA w sz ev n g L t x y z)))] rfl rfl rfl 80 rfl ?_
              refine j_istore C dX9_readFold_80 [(4, .int (nI (rn t (ap + k + 1) 1))), (3, .int (nI (k + 1))), (2, .int (nI ap)), (0, .ref m), (1, .int (nI code))] (by decide) rfl 82 rfl ?_
              refine j_goto C dX9_readFold_82 39 (by decide) ?_
              refine j_world [(m, .inr (9, [.ref sa, .ref ia, .ref ka, .ref ra, .ref ba, .int (nI bm), .ref la, .ref ha, .int (nI (ap + (k + 1) + 1)), .int (nI 0), .int (nI wa), .int (nI go)])), (sa, .inl (cI, 1072, .inl (stA w sz ev n g L t x y z)))] rfl ?_
              refine j_lveq [(4, .int (nI (t (ap + (k + 1))))), (3, .int (nI (k + 1))), (2, .int (nI ap)), (0, .ref m), (1, .int (nI code))] (by simp only [rn, Nat.mul_zero, Nat.zero_add, Nat.add_zero]; rfl) ?_
              exact ih39 (k + 1) ⟨by omega, by omega, by rw [hzc, show mo + 1 - k = (mo + 1 - (k + 1)) + 1 by omega, zc_go hkl (by omega), Nat.add_assoc ap k 1]; omega⟩ (by omega)
          · have hz : zc t L (mo + 1) ap = k + 1 := by rw [hzc, show mo + 1 - k = 0 + 1 by omega, zc_go hkl (by omega)]; rfl
            have hz2 : zc t L (tpW w / 2 ^ (code - 1) + 1) ap = k + 1 := by rw [← hmo]; exact hz
            have hm2 : (k + 1) * 2 ^ (code - 1) ≤ 257 * 2 ^ 7 := Nat.mul_le_mul (by omega) (Nat.pow_le_pow_right (by decide) (by omega))
            have hrr := rnou_3 (w := w) (k := code - 1) hz2 (by rw [← hmo]; omega)
            refine j_aload_n C dX9_readFold_66 3 rfl 67 rfl ?_
            refine j_iconst C dX9_readFold_67 (nI 3) (by decide) 68 rfl ?_
            refine j_iload_n C dX9_readFold_68 2 rfl 69 rfl ?_
            refine j_callVv1 (As := [.int (nI 3), .int (nI ap)]) (rest := []) (wr := [(sa, .inl (cI, 1072, .inl (stA w sz ev n g L t x y z)))]) C (c_X9_fail l D cI cZ cH m sa ia ka ra ba bm la ha (ap + k + 1) 0 wa go 3 ap ) gX9_readFold_X9_fail dX9_readFold_69 rfl yd_X9_fail (Nat.le_of_ble_eq_true rfl) (Nat.le_of_ble_eq_true rfl) rfl rfl rfl _ rfl (Nat.le_of_ble_eq_true rfl) (Nat.zero_le _) (Nat.zero_le _) [0] [1] rfl rfl rfl rfl rfl (by decide) [1, 0] [(m, .inr (9, [.ref sa, .ref ia, .ref ka, .ref ra, .ref ba, .int (nI bm), .ref la, .ref ha, .int (nI (ap + k + 1)), .int (nI 3), .int (nI ap), .int (nI go)])), (sa, .inl (cI, 1072, .inl (stA w sz ev n g L t x y z)))] rfl rfl rfl 72 rfl ?_
            refine j_goto C dX9_readFold_72 39 (by decide) ?_
            refine j_aload_n C dX9_readFold_39 3 rfl 40 rfl ?_
            refine j_get C dX9_readFold_40 0 9 3 inX9_readFold_9 rfl rfl (by decide) rfl rfl rfl 43 rfl ?_
            refine j_if_ne C dX9_readFold_43 85 (by decide) (q_t (n := 3) (Nat.le_of_ble_eq_true rfl)) 46 rfl (fun h43 => ?_) (fun h9 => by exfalso; omega)
            refine j_aload_n C dX9_readFold_85 3 rfl 86 rfl ?_
            refine j_get C dX9_readFold_86 0 9 3 inX9_readFold_9 rfl rfl (by decide) rfl rfl rfl 89 rfl ?_
            refine j_if_ne C dX9_readFold_89 102 (by decide) (q_t (n := 3) (Nat.le_of_ble_eq_true rfl)) 92 rfl (fun h89 => ?_) (fun h9 => by exfalso; omega)
            refine j_iconst C dX9_readFold_102 (nI 0) (by decide) 103 rfl ?_
            refine j_istore C dX9_readFold_103 [(5, .int (nI 0)), (3, .int (nI (k + 1))), (4, .int (nI (t (ap + k)))), (2, .int (nI ap)), (0, .ref m), (1, .int (nI code))] (by decide) rfl 105 rfl ?_
            refine j_iload_n C dX9_readFold_105 1 rfl 106 rfl ?_
            refine j_iload_n C dX9_readFold_106 5 rfl 107 rfl ?_
            refine j_iconst C dX9_readFold_107 (nI 1) (by decide) 108 rfl ?_
            refine j_isub C dX9_readFold_108 (nI (code - 1)) (pk_sub (by omega)) 109 rfl ?_
            refine j_ishl C dX9_readFold_109 (nI ((k + 1) * 2 ^ (code - 1))) (q_shl (by omega) (by omega)) 110 rfl ?_
            refine j_iload C dX9_readFold_110 0 rfl 112 rfl ?_
            refine j_iadd C dX9_readFold_112 (nI ((k + 1) * 2 ^ (code - 1) + 0)) (nI_add ((k + 1) * 2 ^ (code - 1)) 0) 113 rfl ?_
            exact j_iret C dX9_readFold_113 () (by exfalso; rw [hrf, hrr] at hok; simp at hok) (by exfalso; rw [hrf, hrr] at hok; simp at hok)
    · have hrf : rfold t L w ap code = rnum t L ap w := by unfold rfold; rw [if_pos (by omega)]
      refine j_aload_n C dX9_readFold_12 0 rfl 13 rfl ?_
      refine j_aload_n C dX9_readFold_13 0 rfl 14 rfl ?_
      refine j_get C dX9_readFold_14 0 0 1 inX9_readFold_9 rfl rfl (by decide) rfl rfl rfl 17 rfl ?_
      refine j_sipush C dX9_readFold_17 (nI 1066) (by decide) 20 rfl ?_
      refine j_ialdI C dX9_readFold_20 1 rfl (Nat.le_of_ble_eq_true rfl) (Nat.le_of_ble_eq_true rfl) (nI w) rfl 21 rfl ?_
      rcases Nat.lt_or_ge L (ap + w) with h21 | h21
      · refine j_callVi1 (As := [.int (nI w)]) (rest := []) (wr := []) C (c_X9_numNo l D cI cZ cH m sa ia ka ra ba bm la ha ap wa go w sz ev n g L t x y z w (by omega) (by omega) (by omega) (by omega)) gX9_readFold_X9_number dX9_readFold_21 rfl yd_X9_number (Nat.le_of_ble_eq_true rfl) (Nat.le_of_ble_eq_true rfl) rfl rfl rfl _ rfl (Nat.le_of_ble_eq_true rfl) (Nat.zero_le _) (Nat.zero_le _) [0, 1] [] rfl rfl rfl rfl rfl (by decide) [0, 1] [(m, .inr (9, [.ref sa, .ref ia, .ref ka, .ref ra, .ref ba, .int (nI bm), .ref la, .ref ha, .int (nI L), .int (nI 1), .int (nI L), .int (nI go)])), (sa, .inl (cI, 1072, .inl (stA w sz ev n g L t x y z)))] rfl rfl rfl 24 rfl ?_
        exact j_iret C dX9_readFold_24 () (by exfalso; rw [hrf, rnum_no h21] at hok; simp at hok) (by exfalso; rw [hrf, rnum_no h21] at hok; simp at hok)
      · refine j_callVi1 (As := [.int (nI w)]) (rest := []) (wr := []) C (c_X9_numOk l D cI cZ cH m sa ia ka ra ba bm la ha ap wa go w sz ev n g L t x y z w (by omega) (by omega) (by omega)) gX9_readFold_X9_number dX9_readFold_21 rfl yd_X9_number (Nat.le_of_ble_eq_true rfl) (Nat.le_of_ble_eq_true rfl) rfl rfl rfl _ rfl (Nat.le_of_ble_eq_true rfl) (Nat.zero_le _) (Nat.zero_le _) [0, 1] [] rfl rfl rfl rfl rfl (by decide) [0, 1] [(m, .inr (9, [.ref sa, .ref ia, .ref ka, .ref ra, .ref ba, .int (nI bm), .ref la, .ref ha, .int (nI (ap + w)), .int (nI 0), .int (nI wa), .int (nI go)])), (sa, .inl (cI, 1072, .inl (stA w sz ev n g L t x y z)))] rfl rfl rfl 24 rfl ?_
        exact j_iret C dX9_readFold_24 () (show (nI (rn t ap w) : Int32) = nI ((rfold t L w ap code).2.1) from by rw [hrf, rnum_ok h21]) (by rw [hrf, rnum_ok h21])
  · have hrf : rfold t L w ap code = (0, 0, ap) := by unfold rfold; rw [if_neg (by omega), if_pos (by omega)]
    refine j_iconst C dX9_readFold_4 (nI 0) (by decide) 5 rfl ?_
    exact j_iret C dX9_readFold_5 () (show (nI 0 : Int32) = nI ((rfold t L w ap code).2.1) from by rw [hrf]) (by rw [hrf])
set_option maxHeartbeats 4000000 in
set_option maxRecDepth 100000 in
theorem c_X9_rfNo (l : Launch) (D : va_G) (cI cZ cH : ClassId) (m sa ia ka ra ba bm la ha ap wa go : Nat) (w sz ev n : Nat) (g : Nat → Nat) (L : Nat) (t : Nat → Nat) (x : Nat) (y z : Int32) (code : Nat) (hw : 2 ≤ w ∧ w ≤ 8) (hL : L ≤ 1000) (ht : ∀ j, j < L → t j ≤ 1) (hap : ap ≤ L) (hc : okC w code) (hok : ¬ (rfold t L w ap code).1 = 0) : Mi l D cI cZ cH yX9_readFold wsX9_readFold 2 45 [.ref m, .int (nI code)] [(m, .inr (9, [.ref sa, .ref ia, .ref ka, .ref ra, .ref ba, .int (nI bm), .ref la, .ref ha, .int (nI ap), .int (nI 0), .int (nI wa), .int (nI go)])), (sa, .inl (cI, 1072, .inl (stA w sz ev n g L t x y z)))] (fun (r9 : Int32) (u9 : Nat × Nat) => r9 = nI (u9.2) ∧ (u9.2) < 2 ^ 20) (fun (u9 : Nat × Nat) => [(m, .inr (9, [.ref sa, .ref ia, .ref ka, .ref ra, .ref ba, .int (nI bm), .ref la, .ref ha, .int (nI (u9.1)), .int (nI ((rfold t L w ap code).1)), .int (nI ((rfold t L w ap code).2.1)), .int (nI go)])), (sa, .inl (cI, 1072, .inl (stA w sz ev n g L t x y z)))]) := by
  refine Mi.start (cc := cX9_readFold) (nL := 6) (ret := (some .int)) (lv0 := [(0, .ref m), (1, .int (nI code))]) (by decide) rfl (Nat.le_of_ble_eq_true rfl) rfl ?_
  intro pX eX sX mX bX methX cX AX C
  have h2w := tpW_le hw.2
  obtain ⟨mo, hmo⟩ : ∃ q, q = tpW w / 2 ^ (code - 1) := ⟨_, rfl⟩
  have hmo2 : mo ≤ 255 := by rw [hmo]; exact Nat.le_trans (Nat.div_le_self _ _) h2w
  refine j_iload_n C dX9_readFold_0 1 rfl 1 rfl ?_
  refine j_if_ne C dX9_readFold_1 6 (by decide) (q_t (by omega)) 4 rfl (fun h1 => ?_) (fun h1 => ?_)
  · refine j_iload_n C dX9_readFold_6 1 rfl 7 rfl ?_
    refine j_bipush C dX9_readFold_7 (nI 8) (by decide) 9 rfl ?_
    refine j_icmp_ne C dX9_readFold_9 25 (by decide) (q_t (by omega)) (q_t (n := 8) (Nat.le_of_ble_eq_true rfl)) 12 rfl (fun h9 => ?_) (fun h9 => ?_)
    · have hrf : rfold t L w ap code = rnou t L w ap (code - 1) := by unfold rfold; rw [if_neg (by omega), if_neg (by omega)]
      refine j_aload_n C dX9_readFold_25 0 rfl 26 rfl ?_
      refine j_get C dX9_readFold_26 0 8 2 inX9_readFold_9 rfl rfl (by decide) rfl rfl rfl 29 rfl ?_
      refine j_istore_n C dX9_readFold_29 [(2, .int (nI ap)), (0, .ref m), (1, .int (nI code))] (by decide) rfl 30 rfl ?_
      refine j_iconst C dX9_readFold_30 (nI 0) (by decide) 31 rfl ?_
      refine j_istore_n C dX9_readFold_31 [(3, .int (nI 0)), (2, .int (nI ap)), (0, .ref m), (1, .int (nI code))] (by decide) rfl 32 rfl ?_
      refine j_aload_n C dX9_readFold_32 2 rfl 33 rfl ?_
      refine j_iconst C dX9_readFold_33 (nI 1) (by decide) 34 rfl ?_
      rcases Nat.lt_or_ge L (ap + 1) with h34 | h34
      · refine j_callVi1 (As := [.int (nI 1)]) (rest := []) (wr := []) C (c_X9_numNo l D cI cZ cH m sa ia ka ra ba bm la ha ap wa go w sz ev n g L t x y z 1 (by omega) (by omega) (by omega) (by omega)) gX9_readFold_X9_number dX9_readFold_34 rfl yd_X9_number (Nat.le_of_ble_eq_true rfl) (Nat.le_of_ble_eq_true rfl) rfl rfl rfl _ rfl (Nat.le_of_ble_eq_true rfl) (Nat.zero_le _) (Nat.zero_le _) [0, 1] [] rfl rfl rfl rfl rfl (by decide) [0, 1] [(m, .inr (9, [.ref sa, .ref ia, .ref ka, .ref ra, .ref ba, .int (nI bm), .ref la, .ref ha, .int (nI L), .int (nI 1), .int (nI L), .int (nI go)])), (sa, .inl (cI, 1072, .inl (stA w sz ev n g L t x y z)))] rfl rfl rfl 37 rfl ?_
        have hz : zc t L (mo + 1) ap = 0 := zc_stop (by omega)
        have hz2 : zc t L (tpW w / 2 ^ (code - 1) + 1) ap = 0 := by rw [← hmo]; exact hz
        have hrr := rnou_1 (w := w) (k := code - 1) hz2 (Nat.zero_le _) (by omega)
        refine j_istore C dX9_readFold_37 [(4, .int (nI (rn t ap (L - ap)))), (3, .int (nI 0)), (2, .int (nI ap)), (0, .ref m), (1, .int (nI code))] (by decide) rfl 39 rfl ?_
        refine j_aload_n C dX9_readFold_39 3 rfl 40 rfl ?_
        refine j_get C dX9_readFold_40 0 9 3 inX9_readFold_9 rfl rfl (by decide) rfl rfl rfl 43 rfl ?_
        refine j_if_ne C dX9_readFold_43 85 (by decide) (q_t (n := 1) (Nat.le_of_ble_eq_true rfl)) 46 rfl (fun h43 => ?_) (fun h9 => by exfalso; omega)
        refine j_aload_n C dX9_readFold_85 3 rfl 86 rfl ?_
        refine j_get C dX9_readFold_86 0 9 3 inX9_readFold_9 rfl rfl (by decide) rfl rfl rfl 89 rfl ?_
        refine j_if_ne C dX9_readFold_89 102 (by decide) (q_t (n := 1) (Nat.le_of_ble_eq_true rfl)) 92 rfl (fun h89 => ?_) (fun h9 => by exfalso; omega)
        refine j_iconst C dX9_readFold_102 (nI 0) (by decide) 103 rfl ?_
        refine j_istore C dX9_readFold_103 [(5, .int (nI 0)), (4, .int (nI (rn t ap (L - ap)))), (3, .int (nI 0)), (2, .int (nI ap)), (0, .ref m), (1, .int (nI code))] (by decide) rfl 105 rfl ?_
        refine j_iload_n C dX9_readFold_105 2 rfl 106 rfl ?_
        refine j_iload_n C dX9_readFold_106 5 rfl 107 rfl ?_
        refine j_iconst C dX9_readFold_107 (nI 1) (by decide) 108 rfl ?_
        refine j_isub C dX9_readFold_108 (nI (code - 1)) (pk_sub (by omega)) 109 rfl ?_
        refine j_ishl C dX9_readFold_109 (nI (0 * 2 ^ (code - 1))) (q_shl (by omega) (by omega)) 110 rfl ?_
        refine j_iload C dX9_readFold_110 0 rfl 112 rfl ?_
        refine j_iadd C dX9_readFold_112 (nI (0 * 2 ^ (code - 1) + 0)) (nI_add (0 * 2 ^ (code - 1)) 0) 113 rfl ?_
        exact j_iret C dX9_readFold_113 (L, 0 * 2 ^ (code - 1) + 0) ⟨rfl, by show _ < 2 ^ 20; omega⟩ (by rw [hrf, hrr])
      · refine j_callVi1 (As := [.int (nI 1)]) (rest := []) (wr := []) C (c_X9_numOk l D cI cZ cH m sa ia ka ra ba bm la ha ap wa go w sz ev n g L t x y z 1 (by omega) (by omega) (by omega)) gX9_readFold_X9_number dX9_readFold_34 rfl yd_X9_number (Nat.le_of_ble_eq_true rfl) (Nat.le_of_ble_eq_true rfl) rfl rfl rfl _ rfl (Nat.le_of_ble_eq_true rfl) (Nat.zero_le _) (Nat.zero_le _) [0, 1] [] rfl rfl rfl rfl rfl (by decide) [0, 1] [(m, .inr (9, [.ref sa, .ref ia, .ref ka, .ref ra, .ref ba, .int (nI bm), .ref la, .ref ha, .int (nI (ap + 1)), .int (nI 0), .int (nI wa), .int (nI go)])), (sa, .inl (cI, 1072, .inl (stA w sz ev n g L t x y z)))] rfl rfl rfl 37 rfl ?_
        refine j_istore C dX9_readFold_37 [(4, .int (nI (rn t ap 1))), (3, .int (nI 0)), (2, .int (nI ap)), (0, .ref m), (1, .int (nI code))] (by decide) rfl 39 rfl ?_
        refine j_loop1 (fun (k : Nat) => k ≤ mo ∧ ap + k < L ∧ zc t L (mo + 1) ap = k + zc t L (mo + 1 - k) (ap + k)) (fun (k : Nat) => mo + 1 - k) (fun (k : Nat) => [(m, .inr (9, [.ref sa, .ref ia, .ref ka, .ref ra, .ref ba, .int (nI bm), .ref la, .ref ha, .int (nI (ap + k + 1)), .int (nI 0), .int (nI wa), .int (nI go)])), (sa, .inl (cI, 1072, .inl (stA w sz ev n g L t x y z)))]) (fun (k : Nat) => [(4, .int (nI (t (ap + k)))), (3, .int (nI k)), (2, .int (nI ap)), (0, .ref m), (1, .int (nI code))]) ?_ 0 ⟨by omega, by omega, by simp⟩ rfl (by simp only [rn, Nat.mul_zero, Nat.zero_add, Nat.add_zero])
        intro k hI39 ih39
        obtain ⟨hk, hkl, hzc⟩ := hI39
        show J D AX pX l eX _ sX mX _ bX methX cX 0 0 _ 6 [(m, .inr (9, [.ref sa, .ref ia, .ref ka, .ref ra, .ref ba, .int (nI bm), .ref la, .ref ha, .int (nI (ap + k + 1)), .int (nI 0), .int (nI wa), .int (nI go)])), (sa, .inl (cI, 1072, .inl (stA w sz ev n g L t x y z)))] [(4, .int (nI (t (ap + k)))), (3, .int (nI k)), (2, .int (nI ap)), (0, .ref m), (1, .int (nI code))] 39 []
        have htk := ht _ hkl
        refine j_aload_n C dX9_readFold_39 3 rfl 40 rfl ?_
        refine j_get C dX9_readFold_40 0 9 3 inX9_readFold_9 rfl rfl (by decide) rfl rfl rfl 43 rfl ?_
        refine j_if_ne C dX9_readFold_43 85 (by decide) (q_t (n := 0) (Nat.le_of_ble_eq_true rfl)) 46 rfl (fun h9 => by exfalso; omega) (fun h43 => ?_)
        refine j_iload C dX9_readFold_46 0 rfl 48 rfl ?_
        refine j_if_ne C dX9_readFold_48 85 (by decide) (q_t (by omega)) 51 rfl (fun h48 => ?_) (fun h48 => ?_)
        · have hz : zc t L (mo + 1) ap = k := by rw [hzc, zc_stop (by omega)]; rfl
          have hz2 : zc t L (tpW w / 2 ^ (code - 1) + 1) ap = k := by rw [← hmo]; exact hz
          have hm2 : k * 2 ^ (code - 1) ≤ 257 * 2 ^ 7 := Nat.mul_le_mul (by omega) (Nat.pow_le_pow_right (by decide) (by omega))
          refine j_aload_n C dX9_readFold_85 3 rfl 86 rfl ?_
          refine j_get C dX9_readFold_86 0 9 3 inX9_readFold_9 rfl rfl (by decide) rfl rfl rfl 89 rfl ?_
          refine j_if_ne C dX9_readFold_89 102 (by decide) (q_t (n := 0) (Nat.le_of_ble_eq_true rfl)) 92 rfl (fun h9 => by exfalso; omega) (fun h89 => ?_)
          refine j_aload_n C dX9_readFold_92 3 rfl 93 rfl ?_
          refine j_iload_n C dX9_readFold_93 4 rfl 94 rfl ?_
          refine j_iconst C dX9_readFold_94 (nI 1) (by decide) 95 rfl ?_
          refine j_isub C dX9_readFold_95 (nI (code - 1)) (pk_sub (by omega)) 96 rfl ?_
          rcases Nat.lt_or_ge L (ap + k + 1 + (code - 1)) with h96 | h96
          · refine j_callVi1 (As := [.int (nI (code - 1))]) (rest := []) (wr := []) C (c_X9_numNo l D cI cZ cH m sa ia ka ra ba bm la ha (ap + k + 1) wa go w sz ev n g L t x y z (code - 1) (by omega) (by omega) (by omega) (by omega)) gX9_readFold_X9_number dX9_readFold_96 rfl yd_X9_number (Nat.le_of_ble_eq_true rfl) (Nat.le_of_ble_eq_true rfl) rfl rfl rfl _ rfl (Nat.le_of_ble_eq_true rfl) (Nat.zero_le _) (Nat.zero_le _) [0, 1] [] rfl rfl rfl rfl rfl (by decide) [0, 1] [(m, .inr (9, [.ref sa, .ref ia, .ref ka, .ref ra, .ref ba, .int (nI bm), .ref la, .ref ha, .int (nI L), .int (nI 1), .int (nI L), .int (nI go)])), (sa, .inl (cI, 1072, .inl (stA w sz ev n g L t x y z)))] rfl rfl rfl 99 rfl ?_
            have hrr := rnou_1b (w := w) (k := code - 1) hz2 (by rw [← hmo]; omega) hkl h96
            have hrl : rn t (ap + k + 1) (L - (ap + k + 1)) < 2 ^ (L - (ap + k + 1)) := rn_lt ht (by omega)
            have hrp : 2 ^ (L - (ap + k + 1)) ≤ 2 ^ 8 := Nat.pow_le_pow_right (by decide) (by omega)
            refine j_goto C dX9_readFold_99 103 (by decide) ?_
            refine j_istore C dX9_readFold_103 [(5, .int (nI (rn t (ap + k + 1) (L - (ap + k + 1))))), (4, .int (nI (t (ap + k)))), (3, .int (nI k)), (2, .int (nI ap)), (0, .ref m), (1, .int (nI code))] (by decide) rfl 105 rfl ?_
            refine j_iload_n C dX9_readFold_105 2 rfl 106 rfl ?_
            refine j_iload_n C dX9_readFold_106 5 rfl 107 rfl ?_
            refine j_iconst C dX9_readFold_107 (nI 1) (by decide) 108 rfl ?_
            refine j_isub C dX9_readFold_108 (nI (code - 1)) (pk_sub (by omega)) 109 rfl ?_
            refine j_ishl C dX9_readFold_109 (nI (k * 2 ^ (code - 1))) (q_shl (by omega) (by omega)) 110 rfl ?_
            refine j_iload C dX9_readFold_110 0 rfl 112 rfl ?_
            refine j_iadd C dX9_readFold_112 (nI (k * 2 ^ (code - 1) + (rn t (ap + k + 1) (L - (ap + k + 1))))) (nI_add (k * 2 ^ (code - 1)) (rn t (ap + k + 1) (L - (ap + k + 1)))) 113 rfl ?_
            exact j_iret C dX9_readFold_113 (L, k * 2 ^ (code - 1) + (rn t (ap + k + 1) (L - (ap + k + 1)))) ⟨rfl, by show _ < 2 ^ 20; omega⟩ (by rw [hrf, hrr])
          · refine j_callVi1 (As := [.int (nI (code - 1))]) (rest := []) (wr := []) C (c_X9_numOk l D cI cZ cH m sa ia ka ra ba bm la ha (ap + k + 1) wa go w sz ev n g L t x y z (code - 1) (by omega) (by omega) (by omega)) gX9_readFold_X9_number dX9_readFold_96 rfl yd_X9_number (Nat.le_of_ble_eq_true rfl) (Nat.le_of_ble_eq_true rfl) rfl rfl rfl _ rfl (Nat.le_of_ble_eq_true rfl) (Nat.zero_le _) (Nat.zero_le _) [0, 1] [] rfl rfl rfl rfl rfl (by decide) [0, 1] [(m, .inr (9, [.ref sa, .ref ia, .ref ka, .ref ra, .ref ba, .int (nI bm), .ref la, .ref ha, .int (nI ((ap + k + 1) + (code - 1))), .int (nI 0), .int (nI wa), .int (nI go)])), (sa, .inl (cI, 1072, .inl (stA w sz ev n g L t x y z)))] rfl rfl rfl 99 rfl ?_
            have hrr := rnou_0 (w := w) (k := code - 1) hz2 (by rw [← hmo]; omega) hkl h96
            refine j_goto C dX9_readFold_99 103 (by decide) ?_
            refine j_istore C dX9_readFold_103 [(5, .int (nI (rn t (ap + k + 1) (code - 1)))), (4, .int (nI (t (ap + k)))), (3, .int (nI k)), (2, .int (nI ap)), (0, .ref m), (1, .int (nI code))] (by decide) rfl 105 rfl ?_
            refine j_iload_n C dX9_readFold_105 2 rfl 106 rfl ?_
            refine j_iload_n C dX9_readFold_106 5 rfl 107 rfl ?_
            refine j_iconst C dX9_readFold_107 (nI 1) (by decide) 108 rfl ?_
            refine j_isub C dX9_readFold_108 (nI (code - 1)) (pk_sub (by omega)) 109 rfl ?_
            refine j_ishl C dX9_readFold_109 (nI (k * 2 ^ (code - 1))) (q_shl (by omega) (by omega)) 110 rfl ?_
            refine j_iload C dX9_readFold_110 0 rfl 112 rfl ?_
            refine j_iadd C dX9_readFold_112 (nI (k * 2 ^ (code - 1) + (rn t (ap + k + 1) (code - 1)))) (nI_add (k * 2 ^ (code - 1)) (rn t (ap + k + 1) (code - 1))) 113 rfl ?_
            exact j_iret C dX9_readFold_113 ((ap + k + 1) + (code - 1), k * 2 ^ (code - 1) + (rn t (ap + k + 1) (code - 1))) (by exfalso; rw [hrf, hrr] at hok; simp at hok) (by exfalso; rw [hrf, hrr] at hok; simp at hok)
        · refine j_iinc C dX9_readFold_51 1 rfl (nI (k + 1)) (nI_1 (k)) [(3, .int (nI (k + 1))), (4, .int (nI (t (ap + k)))), (2, .int (nI ap)), (0, .ref m), (1, .int (nI code))] (by decide) rfl 54 rfl ?_
          refine j_iload_n C dX9_readFold_54 0 rfl 55 rfl ?_
          refine j_aload_n C dX9_readFold_55 3 rfl 56 rfl ?_
          refine j_callVi1 (As := []) (rest := [.int (nI (k + 1))]) (wr := []) C (c_X9_top l D cI cZ cH m sa ia ka ra ba bm la ha (ap + k + 1) 0 wa go w sz ev n g L t x y z hw.2) gX9_readFold_X9_top dX9_readFold_56 rfl yd_X9_top (Nat.le_of_ble_eq_true rfl) (Nat.le_of_ble_eq_true rfl) rfl rfl rfl _ rfl (Nat.le_of_ble_eq_true rfl) (Nat.zero_le _) (Nat.zero_le _) [0, 1] [] rfl rfl rfl rfl rfl (by decide) [0, 1] [(m, .inr (9, [.ref sa, .ref ia, .ref ka, .ref ra, .ref ba, .int (nI bm), .ref la, .ref ha, .int (nI (ap + k + 1)), .int (nI 0), .int (nI wa), .int (nI go)])), (sa, .inl (cI, 1072, .inl (stA w sz ev n g L t x y z)))] rfl rfl rfl 59 rfl ?_
          refine j_iload_n C dX9_readFold_59 4 rfl 60 rfl ?_
          refine j_iconst C dX9_readFold_60 (nI 1) (by decide) 61 rfl ?_
          refine j_isub C dX9_readFold_61 (nI (code - 1)) (pk_sub (by omega)) 62 rfl ?_
          refine j_ishr C dX9_readFold_62 (nI (tpW w / 2 ^ (code - 1))) (q_shr (by omega) (by omega)) 63 rfl ?_
          have hshr62 := Nat.div_le_self (tpW w) (2 ^ (code - 1))
          refine j_top (nI mo) (by rw [hmo]) ?_
          refine j_icmp_le C dX9_readFold_63 75 (by decide) (q_t (by omega)) (q_t (by omega)) 66 rfl (fun h63 => ?_) (fun h63 => ?_)
          · refine j_aload_n C dX9_readFold_75 3 rfl 76 rfl ?_
            refine j_iconst C dX9_readFold_76 (nI 1) (by decide) 77 rfl ?_
            rcases Nat.lt_or_ge L (ap + k + 1 + 1) with h77 | h77
            · refine j_callVi1 (As := [.int (nI 1)]) (rest := []) (wr := []) C (c_X9_numNo l D cI cZ cH m sa ia ka ra ba bm la ha (ap + k + 1) wa go w sz ev n g L t x y z 1 (by omega) (by omega) (by omega) (by omega)) gX9_readFold_X9_number dX9_readFold_77 rfl yd_X9_number (Nat.le_of_ble_eq_true rfl) (Nat.le_of_ble_eq_true rfl) rfl rfl rfl _ rfl (Nat.le_of_ble_eq_true rfl) (Nat.zero_le _) (Nat.zero_le _) [0, 1] [] rfl rfl rfl rfl rfl (by decide) [0, 1] [(m, .inr (9, [.ref sa, .ref ia, .ref ka, .ref ra, .ref ba, .int (nI bm), .ref la, .ref ha, .int (nI L), .int (nI 1), .int (nI L), .int (nI go)])), (sa, .inl (cI, 1072, .inl (stA w sz ev n g L t x y z)))] rfl rfl rfl 80 rfl ?_
              have hz : zc t L (mo + 1) ap = k + 1 := by rw [hzc, show mo + 1 - k = (mo - k) + 1 by omega, zc_go hkl (by omega), zc_stop (by omega)]
              have hz2 : zc t L (tpW w / 2 ^ (code - 1) + 1) ap = k + 1 := by rw [← hmo]; exact hz
              have hm2 : (k + 1) * 2 ^ (code - 1) ≤ 257 * 2 ^ 7 := Nat.mul_le_mul (by omega) (Nat.pow_le_pow_right (by decide) (by omega))
              have hrr := rnou_1 (w := w) (k := code - 1) hz2 (by rw [← hmo]; omega) (by omega)
              refine j_istore C dX9_readFold_80 [(4, .int (nI (rn t (ap + k + 1) (L - (ap + k + 1))))), (3, .int (nI (k + 1))), (2, .int (nI ap)), (0, .ref m), (1, .int (nI code))] (by decide) rfl 82 rfl ?_
              refine j_goto C dX9_readFold_82 39 (by decide) ?_
              refine j_aload_n C dX9_readFold_39 3 rfl 40 rfl ?_
              refine j_get C dX9_readFold_40 0 9 3 inX9_readFold_9 rfl rfl (by decide) rfl rfl rfl 43 rfl ?_
              refine j_if_ne C dX9_readFold_43 85 (by decide) (q_t (n := 1) (Nat.le_of_ble_eq_true rfl)) 46 rfl (fun h43 => ?_) (fun h9 => by exfalso; omega)
              refine j_aload_n C dX9_readFold_85 3 rfl 86 rfl ?_
              refine j_get C dX9_readFold_86 0 9 3 inX9_readFold_9 rfl rfl (by decide) rfl rfl rfl 89 rfl ?_
              refine j_if_ne C dX9_readFold_89 102 (by decide) (q_t (n := 1) (Nat.le_of_ble_eq_true rfl)) 92 rfl (fun h89 => ?_) (fun h9 => by exfalso; omega)
              refine j_iconst C dX9_readFold_102 (nI 0) (by decide) 103 rfl ?_
              refine j_istore C dX9_readFold_103 [(5, .int (nI 0)), (4, .int (nI (rn t (ap + k + 1) (L - (ap + k + 1))))), (3, .int (nI (k + 1))), (2, .int (nI ap)), (0, .ref m), (1, .int (nI code))] (by decide) rfl 105 rfl ?_
              refine j_iload_n C dX9_readFold_105 2 rfl 106 rfl ?_
              refine j_iload_n C dX9_readFold_106 5 rfl 107 rfl ?_
              refine j_iconst C dX9_readFold_107 (nI 1) (by decide) 108 rfl ?_
              refine j_isub C dX9_readFold_108 (nI (code - 1)) (pk_sub (by omega)) 109 rfl ?_
              refine j_ishl C dX9_readFold_109 (nI ((k + 1) * 2 ^ (code - 1))) (q_shl (by omega) (by omega)) 110 rfl ?_
              refine j_iload C dX9_readFold_110 0 rfl 112 rfl ?_
              refine j_iadd C dX9_readFold_112 (nI ((k + 1) * 2 ^ (code - 1) + 0)) (nI_add ((k + 1) * 2 ^ (code - 1)) 0) 113 rfl ?_
              exact j_iret C dX9_readFold_113 (L, (k + 1) * 2 ^ (code - 1) + 0) ⟨rfl, by show _ < 2 ^ 20; omega⟩ (by rw [hrf, hrr])
            · refine j_callVi1 (As := [.int (nI 1)]) (rest := []) (wr := []) C (c_X9_numOk l D cI cZ cH m sa ia ka ra ba bm la ha (ap + k + 1) wa go w sz ev n g L t x y z 1 (by omega) (by omega) (by omega)) gX9_readFold_X9_number dX9_readFold_77 rfl yd_X9_number (Nat.le_of_ble_eq_true rfl) (Nat.le_of_ble_eq_true rfl) rfl rfl rfl _ rfl (Nat.le_of_ble_eq_true rfl) (Nat.zero_le _) (Nat.zero_le _) [0, 1] [] rfl rfl rfl rfl rfl (by decide) [0, 1] [(m, .inr (9, [.ref sa, .ref ia, .ref ka, .ref ra, .ref ba, .int (nI bm), .ref la, .ref ha, .int (nI ((ap + k + 1) + 1)), .int (nI 0), .int (nI wa), .int (nI go)])), (sa, .inl (cI, 1072, .inl (stA w sz ev n g L t x y z)))] rfl rfl rfl 80 rfl ?_
              refine j_istore C dX9_readFold_80 [(4, .int (nI (rn t (ap + k + 1) 1))), (3, .int (nI (k + 1))), (2, .int (nI ap)), (0, .ref m), (1, .int (nI code))] (by decide) rfl 82 rfl ?_
              refine j_goto C dX9_readFold_82 39 (by decide) ?_
              refine j_world [(m, .inr (9, [.ref sa, .ref ia, .ref ka, .ref ra, .ref ba, .int (nI bm), .ref la, .ref ha, .int (nI (ap + (k + 1) + 1)), .int (nI 0), .int (nI wa), .int (nI go)])), (sa, .inl (cI, 1072, .inl (stA w sz ev n g L t x y z)))] rfl ?_
              refine j_lveq [(4, .int (nI (t (ap + (k + 1))))), (3, .int (nI (k + 1))), (2, .int (nI ap)), (0, .ref m), (1, .int (nI code))] (by simp only [rn, Nat.mul_zero, Nat.zero_add, Nat.add_zero]; rfl) ?_
              exact ih39 (k + 1) ⟨by omega, by omega, by rw [hzc, show mo + 1 - k = (mo + 1 - (k + 1)) + 1 by omega, zc_go hkl (by omega), Nat.add_assoc ap k 1]; omega⟩ (by omega)
          · have hz : zc t L (mo + 1) ap = k + 1 := by rw [hzc, show mo + 1 - k = 0 + 1 by omega, zc_go hkl (by omega)]; rfl
            have hz2 : zc t L (tpW w / 2 ^ (code - 1) + 1) ap = k + 1 := by rw [← hmo]; exact hz
            have hm2 : (k + 1) * 2 ^ (code - 1) ≤ 257 * 2 ^ 7 := Nat.mul_le_mul (by omega) (Nat.pow_le_pow_right (by decide) (by omega))
            have hrr := rnou_3 (w := w) (k := code - 1) hz2 (by rw [← hmo]; omega)
            refine j_aload_n C dX9_readFold_66 3 rfl 67 rfl ?_
            refine j_iconst C dX9_readFold_67 (nI 3) (by decide) 68 rfl ?_
            refine j_iload_n C dX9_readFold_68 2 rfl 69 rfl ?_
            refine j_callVv1 (As := [.int (nI 3), .int (nI ap)]) (rest := []) (wr := [(sa, .inl (cI, 1072, .inl (stA w sz ev n g L t x y z)))]) C (c_X9_fail l D cI cZ cH m sa ia ka ra ba bm la ha (ap + k + 1) 0 wa go 3 ap ) gX9_readFold_X9_fail dX9_readFold_69 rfl yd_X9_fail (Nat.le_of_ble_eq_true rfl) (Nat.le_of_ble_eq_true rfl) rfl rfl rfl _ rfl (Nat.le_of_ble_eq_true rfl) (Nat.zero_le _) (Nat.zero_le _) [0] [1] rfl rfl rfl rfl rfl (by decide) [1, 0] [(m, .inr (9, [.ref sa, .ref ia, .ref ka, .ref ra, .ref ba, .int (nI bm), .ref la, .ref ha, .int (nI (ap + k + 1)), .int (nI 3), .int (nI ap), .int (nI go)])), (sa, .inl (cI, 1072, .inl (stA w sz ev n g L t x y z)))] rfl rfl rfl 72 rfl ?_
            refine j_goto C dX9_readFold_72 39 (by decide) ?_
            refine j_aload_n C dX9_readFold_39 3 rfl 40 rfl ?_
            refine j_get C dX9_readFold_40 0 9 3 inX9_readFold_9 rfl rfl (by decide) rfl rfl rfl 43 rfl ?_
            refine j_if_ne C dX9_readFold_43 85 (by decide) (q_t (n := 3) (Nat.le_of_ble_eq_true rfl)) 46 rfl (fun h43 => ?_) (fun h9 => by exfalso; omega)
            refine j_aload_n C dX9_readFold_85 3 rfl 86 rfl ?_
            refine j_get C dX9_readFold_86 0 9 3 inX9_readFold_9 rfl rfl (by decide) rfl rfl rfl 89 rfl ?_
            refine j_if_ne C dX9_readFold_89 102 (by decide) (q_t (n := 3) (Nat.le_of_ble_eq_true rfl)) 92 rfl (fun h89 => ?_) (fun h9 => by exfalso; omega)
            refine j_iconst C dX9_readFold_102 (nI 0) (by decide) 103 rfl ?_
            refine j_istore C dX9_readFold_103 [(5, .int (nI 0)), (3, .int (nI (k + 1))), (4, .int (nI (t (ap + k)))), (2, .int (nI ap)), (0, .ref m), (1, .int (nI code))] (by decide) rfl 105 rfl ?_
            refine j_iload_n C dX9_readFold_105 1 rfl 106 rfl ?_
            refine j_iload_n C dX9_readFold_106 5 rfl 107 rfl ?_
            refine j_iconst C dX9_readFold_107 (nI 1) (by decide) 108 rfl ?_
            refine j_isub C dX9_readFold_108 (nI (code - 1)) (pk_sub (by omega)) 109 rfl ?_
            refine j_ishl C dX9_readFold_109 (nI ((k + 1) * 2 ^ (code - 1))) (q_shl (by omega) (by omega)) 110 rfl ?_
            refine j_iload C dX9_readFold_110 0 rfl 112 rfl ?_
            refine j_iadd C dX9_readFold_112 (nI ((k + 1) * 2 ^ (code - 1) + 0)) (nI_add ((k + 1) * 2 ^ (code - 1)) 0) 113 rfl ?_
            exact j_iret C dX9_readFold_113 (ap + k + 1, (k + 1) * 2 ^ (code - 1) + 0) ⟨rfl, by show _ < 2 ^ 20; omega⟩ (by rw [hrf, hrr])
    · have hrf : rfold t L w ap code = rnum t L ap w := by unfold rfold; rw [if_pos (by omega)]
      refine j_aload_n C dX9_readFold_12 0 rfl 13 rfl ?_
      refine j_aload_n C dX9_readFold_13 0 rfl 14 rfl ?_
      refine j_get C dX9_readFold_14 0 0 1 inX9_readFold_9 rfl rfl (by decide) rfl rfl rfl 17 rfl ?_
      refine j_sipush C dX9_readFold_17 (nI 1066) (by decide) 20 rfl ?_
      refine j_ialdI C dX9_readFold_20 1 rfl (Nat.le_of_ble_eq_true rfl) (Nat.le_of_ble_eq_true rfl) (nI w) rfl 21 rfl ?_
      rcases Nat.lt_or_ge L (ap + w) with h21 | h21
      · refine j_callVi1 (As := [.int (nI w)]) (rest := []) (wr := []) C (c_X9_numNo l D cI cZ cH m sa ia ka ra ba bm la ha ap wa go w sz ev n g L t x y z w (by omega) (by omega) (by omega) (by omega)) gX9_readFold_X9_number dX9_readFold_21 rfl yd_X9_number (Nat.le_of_ble_eq_true rfl) (Nat.le_of_ble_eq_true rfl) rfl rfl rfl _ rfl (Nat.le_of_ble_eq_true rfl) (Nat.zero_le _) (Nat.zero_le _) [0, 1] [] rfl rfl rfl rfl rfl (by decide) [0, 1] [(m, .inr (9, [.ref sa, .ref ia, .ref ka, .ref ra, .ref ba, .int (nI bm), .ref la, .ref ha, .int (nI L), .int (nI 1), .int (nI L), .int (nI go)])), (sa, .inl (cI, 1072, .inl (stA w sz ev n g L t x y z)))] rfl rfl rfl 24 rfl ?_
        have hrl : rn t ap (L - ap) < 2 ^ (L - ap) := rn_lt ht (by omega)
        have hrp : 2 ^ (L - ap) ≤ 2 ^ 8 := Nat.pow_le_pow_right (by decide) (by omega)
        exact j_iret C dX9_readFold_24 (L, rn t ap (L - ap)) ⟨rfl, by show _ < 2 ^ 20; omega⟩ (by rw [hrf, rnum_no h21])
      · refine j_callVi1 (As := [.int (nI w)]) (rest := []) (wr := []) C (c_X9_numOk l D cI cZ cH m sa ia ka ra ba bm la ha ap wa go w sz ev n g L t x y z w (by omega) (by omega) (by omega)) gX9_readFold_X9_number dX9_readFold_21 rfl yd_X9_number (Nat.le_of_ble_eq_true rfl) (Nat.le_of_ble_eq_true rfl) rfl rfl rfl _ rfl (Nat.le_of_ble_eq_true rfl) (Nat.zero_le _) (Nat.zero_le _) [0, 1] [] rfl rfl rfl rfl rfl (by decide) [0, 1] [(m, .inr (9, [.ref sa, .ref ia, .ref ka, .ref ra, .ref ba, .int (nI bm), .ref la, .ref ha, .int (nI (ap + w)), .int (nI 0), .int (nI wa), .int (nI go)])), (sa, .inl (cI, 1072, .inl (stA w sz ev n g L t x y z)))] rfl rfl rfl 24 rfl ?_
        exact j_iret C dX9_readFold_24 (ap + w, rn t ap w) (by exfalso; rw [hrf, rnum_ok h21] at hok; simp at hok) (by exfalso; rw [hrf, rnum_ok h21] at hok; simp at hok)
  · have hrf : rfold t L w ap code = (0, 0, ap) := by unfold rfold; rw [if_neg (by omega), if_pos (by omega)]
    refine j_iconst C dX9_readFold_4 (nI 0) (by decide) 5 rfl ?_
    exact j_iret C dX9_readFold_5 (ap, 0) (by exfalso; rw [hrf] at hok; simp at hok) (by exfalso; rw [hrf] at hok; simp at hok)
set_option maxHeartbeats 4000000 in
set_option maxRecDepth 100000 in
theorem c_X9_rsOk (l : Launch) (D : va_G) (cI cZ cH : ClassId) (m sa ia ka ra ba bm la ha ap wa go : Nat) (w sz ev n : Nat) (g : Nat → Nat) (L : Nat) (t : Nat → Nat) (x : Nat) (y z : Int32) (rf q : Nat → Nat) (i way code : Nat) (hw : 2 ≤ w ∧ w ≤ 8) (hsz : 1 ≤ sz ∧ sz ≤ 8) (hev : 1 ≤ ev ∧ ev ≤ 8) (hL : L ≤ 1000) (ht : ∀ j, j < L → t j ≤ 1) (hap : ap ≤ L) (hi64 : i < 64) (hrq : ∀ j, j < i → rf j = q j) (hq : ∀ j, j < i → q j ≤ tpW w) (hway : way ≤ 3) (hc : okC w code) (hok : (rsam t L w sz ev q ap i way code).1 = 0) : Mv l D cI cZ cH yX9_readSample wsX9_readSample 3 70 [.ref m, .int (nI i), .int (nI way), .int (nI code)] [(m, .inr (9, [.ref sa, .ref ia, .ref ka, .ref ra, .ref ba, .int (nI bm), .ref la, .ref ha, .int (nI ap), .int (nI 0), .int (nI wa), .int (nI go)])), (sa, .inl (cI, 1072, .inl (stA w sz ev n g L t x y z))), (ra, .inl (cI, 64, .inl (aN rf)))] (fun (_ : Unit) => True) (fun (_ : Unit) => [(m, .inr (9, [.ref sa, .ref ia, .ref ka, .ref ra, .ref ba, .int (nI bm), .ref la, .ref ha, .int (nI ((rsam t L w sz ev q ap i way code).2.2)), .int (nI 0), .int (nI wa), .int (nI (go + 1))])), (sa, .inl (cI, 1072, .inl (stA w sz ev n g L t x y z))), (ra, .inl (cI, 64, .inl (aN (va_up rf i (rsam t L w sz ev q ap i way code).2.1))))]) := by
  refine Mv.start (cc := cX9_readSample) (nL := 5) (ret := none) (lv0 := [(0, .ref m), (1, .int (nI i)), (2, .int (nI way)), (3, .int (nI code))]) (by decide) rfl (Nat.le_of_ble_eq_true rfl) rfl ?_
  intro pX eX sX mX bX methX cX AX C
  have h2w := tpW_le hw.2
  refine j_aload_n C dX9_readSample_0 0 rfl 1 rfl ?_
  refine j_iload_n C dX9_readSample_1 1 rfl 2 rfl ?_
  refine j_callVi1 (As := [.int (nI i)]) (rest := []) (wr := [(ra, .inl (cI, 64, .inl (aN rf)))]) C (c_X9_isBare l D cI cZ cH m sa ia ka ra ba bm la ha ap 0 wa go w sz ev n g L t x y z i (by omega) (by omega) (by omega)) gX9_readSample_X9_isBare dX9_readSample_2 rfl yd_X9_isBare (Nat.le_of_ble_eq_true rfl) (Nat.le_of_ble_eq_true rfl) rfl rfl rfl _ rfl (Nat.le_of_ble_eq_true rfl) (Nat.zero_le _) (Nat.zero_le _) [0, 1] [2] rfl rfl rfl rfl rfl (by decide) [1, 2, 0] [(m, .inr (9, [.ref sa, .ref ia, .ref ka, .ref ra, .ref ba, .int (nI bm), .ref la, .ref ha, .int (nI ap), .int (nI 0), .int (nI wa), .int (nI go)])), (sa, .inl (cI, 1072, .inl (stA w sz ev n g L t x y z))), (ra, .inl (cI, 64, .inl (aN rf)))] rfl rfl rfl 5 rfl ?_
  refine j_ifb_eq C dX9_readSample_5 25 (by decide) 8 rfl (fun h5 => ?_) (fun h5 => ?_)
  · have hi1 := pos_of_mod h5
    have hrf : (rfold t L w ap code).1 = 0 := by
      unfold rsam at hok; rw [if_neg h5] at hok; split at hok
      · assumption
      · exact hok
    have hrs : rsam t L w sz ev q ap i way code = (0, unfoldN (rfold t L w ap code).2.1 (told w sz ev q i way) (tpW w), (rfold t L w ap code).2.2) := by unfold rsam; rw [if_neg h5, if_pos hrf]
    have hrl := rfold_le ht hap hc hrf
    refine j_aload_n C dX9_readSample_25 0 rfl 26 rfl ?_
    refine j_aload_n C dX9_readSample_26 0 rfl 27 rfl ?_
    refine j_iload_n C dX9_readSample_27 3 rfl 28 rfl ?_
    refine j_callVi1 (As := [.int (nI code)]) (rest := [.ref m]) (wr := [(ra, .inl (cI, 64, .inl (aN rf)))]) C (c_X9_rfOk l D cI cZ cH m sa ia ka ra ba bm la ha ap wa go w sz ev n g L t x y z code hw (by omega) ht (by omega) hc hrf) gX9_readSample_X9_readFold dX9_readSample_28 rfl yd_X9_readFold (Nat.le_of_ble_eq_true rfl) (Nat.le_of_ble_eq_true rfl) rfl rfl rfl _ rfl (Nat.le_of_ble_eq_true rfl) (Nat.zero_le _) (Nat.zero_le _) [0, 1] [2] rfl rfl rfl rfl rfl (by decide) [1, 2, 0] [(m, .inr (9, [.ref sa, .ref ia, .ref ka, .ref ra, .ref ba, .int (nI bm), .ref la, .ref ha, .int (nI ((rfold t L w ap code).2.2)), .int (nI 0), .int (nI wa), .int (nI go)])), (sa, .inl (cI, 1072, .inl (stA w sz ev n g L t x y z))), (ra, .inl (cI, 64, .inl (aN rf)))] rfl rfl rfl 31 rfl ?_
    refine j_aload_n C dX9_readSample_31 0 rfl 32 rfl ?_
    refine j_iload_n C dX9_readSample_32 1 rfl 33 rfl ?_
    refine j_iload_n C dX9_readSample_33 2 rfl 34 rfl ?_
    refine j_callVi1 (As := [.int (nI i), .int (nI way)]) (rest := [.int (nI ((rfold t L w ap code).2.1)), .ref m]) (wr := []) C (c_X9_expected l D cI cZ cH m sa ia ka ra ba bm la ha ((rfold t L w ap code).2.2) 0 wa go w sz ev n g L t x y z rf q i way hw hsz hev hrq hq hi1 (by omega) (by omega)) gX9_readSample_X9_expected dX9_readSample_34 rfl yd_X9_expected (Nat.le_of_ble_eq_true rfl) (Nat.le_of_ble_eq_true rfl) rfl rfl rfl _ rfl (Nat.le_of_ble_eq_true rfl) (Nat.zero_le _) (Nat.zero_le _) [0, 1, 2] [] rfl rfl rfl rfl rfl (by decide) [0, 1, 2] [(m, .inr (9, [.ref sa, .ref ia, .ref ka, .ref ra, .ref ba, .int (nI bm), .ref la, .ref ha, .int (nI ((rfold t L w ap code).2.2)), .int (nI 0), .int (nI wa), .int (nI go)])), (sa, .inl (cI, 1072, .inl (stA w sz ev n g L t x y z))), (ra, .inl (cI, 64, .inl (aN rf)))] rfl rfl rfl 37 rfl ?_
    have hto := told_le (sz := sz) (ev := ev) (way := way) hw.1 hq hi1 (Nat.le_refl i)
    refine j_callVi1 (As := [.int (nI ((rfold t L w ap code).2.1)), .int (nI (told w sz ev q i way))]) (rest := []) (wr := [(ra, .inl (cI, 64, .inl (aN rf)))]) C (c_X9_unfoldOk l D cI cZ cH m sa ia ka ra ba bm la ha ((rfold t L w ap code).2.2) 0 wa go w sz ev n g L t x y z ((rfold t L w ap code).2.1) (told w sz ev q i way) (by omega) (by omega) (by omega)) gX9_readSample_X9_unfold dX9_readSample_37 rfl yd_X9_unfold (Nat.le_of_ble_eq_true rfl) (Nat.le_of_ble_eq_true rfl) rfl rfl rfl _ rfl (Nat.le_of_ble_eq_true rfl) (Nat.zero_le _) (Nat.zero_le _) [0, 1] [2] rfl rfl rfl rfl rfl (by decide) [1, 2, 0] [(m, .inr (9, [.ref sa, .ref ia, .ref ka, .ref ra, .ref ba, .int (nI bm), .ref la, .ref ha, .int (nI ((rfold t L w ap code).2.2)), .int (nI 0), .int (nI wa), .int (nI go)])), (sa, .inl (cI, 1072, .inl (stA w sz ev n g L t x y z))), (ra, .inl (cI, 64, .inl (aN rf)))] rfl rfl rfl 40 rfl ?_
    refine j_istore C dX9_readSample_40 [(4, .int (nI (unfoldN ((rfold t L w ap code).2.1) (told w sz ev q i way) (tpW w)))), (0, .ref m), (1, .int (nI i)), (2, .int (nI way)), (3, .int (nI code))] (by decide) rfl 42 rfl ?_
    refine j_aload_n C dX9_readSample_42 1 rfl 43 rfl ?_
    refine j_get C dX9_readSample_43 0 9 2 inX9_readSample_9 rfl rfl (by decide) rfl rfl rfl 46 rfl ?_
    refine j_if_ne C dX9_readSample_46 67 (by decide) (q_t (n := 0) (Nat.le_of_ble_eq_true rfl)) 49 rfl (fun h9 => by exfalso; omega) (fun h46 => ?_)
    refine j_aload_n C dX9_readSample_49 1 rfl 50 rfl ?_
    refine j_get C dX9_readSample_50 0 3 3 inX9_readSample_9 rfl rfl (by decide) rfl rfl rfl 53 rfl ?_
    refine j_iload_n C dX9_readSample_53 2 rfl 54 rfl ?_
    refine j_iload C dX9_readSample_54 0 rfl 56 rfl ?_
    refine j_iast C dX9_readSample_56 2 rfl (by omega) (Nat.le_of_ble_eq_true rfl) [(m, .inr (9, [.ref sa, .ref ia, .ref ka, .ref ra, .ref ba, .int (nI bm), .ref la, .ref ha, .int (nI ((rfold t L w ap code).2.2)), .int (nI 0), .int (nI wa), .int (nI go)])), (sa, .inl (cI, 1072, .inl (stA w sz ev n g L t x y z))), (ra, .inl (cI, 64, .inl (aN (va_up rf i (unfoldN ((rfold t L w ap code).2.1) (told w sz ev q i way) (tpW w))))))] rfl 57 rfl ?_
    refine j_aload_n C dX9_readSample_57 1 rfl 58 rfl ?_
    refine j_dup C dX9_readSample_58 rfl 59 rfl ?_
    refine j_get C dX9_readSample_59 0 11 4 inX9_readSample_9 rfl rfl (by decide) rfl rfl rfl 62 rfl ?_
    refine j_iconst C dX9_readSample_62 (nI 1) (by decide) 63 rfl ?_
    refine j_iadd C dX9_readSample_63 (nI (go + 1)) (nI_add go 1) 64 rfl ?_
    refine j_put C dX9_readSample_64 0 11 4 inX9_readSample_9 tyX9 tyX9_ok nmX9 rfl rfl (by decide) rfl rfl rfl rfl rfl (Nat.le_of_ble_eq_true rfl) [(m, .inr (9, [.ref sa, .ref ia, .ref ka, .ref ra, .ref ba, .int (nI bm), .ref la, .ref ha, .int (nI ((rfold t L w ap code).2.2)), .int (nI 0), .int (nI wa), .int (nI (go + 1))])), (sa, .inl (cI, 1072, .inl (stA w sz ev n g L t x y z))), (ra, .inl (cI, 64, .inl (aN (va_up rf i (unfoldN ((rfold t L w ap code).2.1) (told w sz ev q i way) (tpW w))))))] rfl 67 rfl ?_
    exact j_vret C dX9_readSample_67 () trivial (by first | (rw [hrs, rnum_ok hle]; done) | (rw [hrs]; done))
  · have hrs : rsam t L w sz ev q ap i way code = rnum t L ap w := by unfold rsam; rw [if_pos h5]
    have hle : ap + w ≤ L := by
      rcases Nat.lt_or_ge L (ap + w) with h9 | h9
      · rw [hrs, rnum_no h9] at hok; simp at hok
      · exact h9
    refine j_aload_n C dX9_readSample_8 0 rfl 9 rfl ?_
    refine j_aload_n C dX9_readSample_9 0 rfl 10 rfl ?_
    refine j_get C dX9_readSample_10 0 0 1 inX9_readSample_9 rfl rfl (by decide) rfl rfl rfl 13 rfl ?_
    refine j_sipush C dX9_readSample_13 (nI 1066) (by decide) 16 rfl ?_
    refine j_ialdI C dX9_readSample_16 1 rfl (Nat.le_of_ble_eq_true rfl) (Nat.le_of_ble_eq_true rfl) (nI w) rfl 17 rfl ?_
    refine j_callVi1 (As := [.int (nI w)]) (rest := []) (wr := [(ra, .inl (cI, 64, .inl (aN rf)))]) C (c_X9_numOk l D cI cZ cH m sa ia ka ra ba bm la ha ap wa go w sz ev n g L t x y z w (by omega) (by omega) (by omega)) gX9_readSample_X9_number dX9_readSample_17 rfl yd_X9_number (Nat.le_of_ble_eq_true rfl) (Nat.le_of_ble_eq_true rfl) rfl rfl rfl _ rfl (Nat.le_of_ble_eq_true rfl) (Nat.zero_le _) (Nat.zero_le _) [0, 1] [2] rfl rfl rfl rfl rfl (by decide) [1, 2, 0] [(m, .inr (9, [.ref sa, .ref ia, .ref ka, .ref ra, .ref ba, .int (nI bm), .ref la, .ref ha, .int (nI (ap + w)), .int (nI 0), .int (nI wa), .int (nI go)])), (sa, .inl (cI, 1072, .inl (stA w sz ev n g L t x y z))), (ra, .inl (cI, 64, .inl (aN rf)))] rfl rfl rfl 20 rfl ?_
    refine j_istore C dX9_readSample_20 [(4, .int (nI (rn t ap w))), (0, .ref m), (1, .int (nI i)), (2, .int (nI way)), (3, .int (nI code))] (by decide) rfl 22 rfl ?_
    refine j_goto C dX9_readSample_22 42 (by decide) ?_
    refine j_aload_n C dX9_readSample_42 1 rfl 43 rfl ?_
    refine j_get C dX9_readSample_43 0 9 2 inX9_readSample_9 rfl rfl (by decide) rfl rfl rfl 46 rfl ?_
    refine j_if_ne C dX9_readSample_46 67 (by decide) (q_t (n := 0) (Nat.le_of_ble_eq_true rfl)) 49 rfl (fun h9 => by exfalso; omega) (fun h46 => ?_)
    refine j_aload_n C dX9_readSample_49 1 rfl 50 rfl ?_
    refine j_get C dX9_readSample_50 0 3 3 inX9_readSample_9 rfl rfl (by decide) rfl rfl rfl 53 rfl ?_
    refine j_iload_n C dX9_readSample_53 2 rfl 54 rfl ?_
    refine j_iload C dX9_readSample_54 0 rfl 56 rfl ?_
    refine j_iast C dX9_readSample_56 2 rfl (by omega) (Nat.le_of_ble_eq_true rfl) [(m, .inr (9, [.ref sa, .ref ia, .ref ka, .ref ra, .ref ba, .int (nI bm), .ref la, .ref ha, .int (nI (ap + w)), .int (nI 0), .int (nI wa), .int (nI go)])), (sa, .inl (cI, 1072, .inl (stA w sz ev n g L t x y z))), (ra, .inl (cI, 64, .inl (aN (va_up rf i (rn t ap w)))))] rfl 57 rfl ?_
    refine j_aload_n C dX9_readSample_57 1 rfl 58 rfl ?_
    refine j_dup C dX9_readSample_58 rfl 59 rfl ?_
    refine j_get C dX9_readSample_59 0 11 4 inX9_readSample_9 rfl rfl (by decide) rfl rfl rfl 62 rfl ?_
    refine j_iconst C dX9_readSample_62 (nI 1) (by decide) 63 rfl ?_
    refine j_iadd C dX9_readSample_63 (nI (go + 1)) (nI_add go 1) 64 rfl ?_
    refine j_put C dX9_readSample_64 0 11 4 inX9_readSample_9 tyX9 tyX9_ok nmX9 rfl rfl (by decide) rfl rfl rfl rfl rfl (Nat.le_of_ble_eq_true rfl) [(m, .inr (9, [.ref sa, .ref ia, .ref ka, .ref ra, .ref ba, .int (nI bm), .ref la, .ref ha, .int (nI (ap + w)), .int (nI 0), .int (nI wa), .int (nI (go + 1))])), (sa, .inl (cI, 1072, .inl (stA w sz ev n g L t x y z))), (ra, .inl (cI, 64, .inl (aN (va_up rf i (rn t ap w)))))] rfl 67 rfl ?_
    exact j_vret C dX9_readSample_67 () trivial (by first | (rw [hrs, rnum_ok hle]; done) | (rw [hrs]; done))
set_option maxHeartbeats 4000000 in
set_option maxRecDepth 100000 in
theorem c_X9_rsNo (l : Launch) (D : va_G) (cI cZ cH : ClassId) (m sa ia ka ra ba bm la ha ap wa go : Nat) (w sz ev n : Nat) (g : Nat → Nat) (L : Nat) (t : Nat → Nat) (x : Nat) (y z : Int32) (rf q : Nat → Nat) (i way code : Nat) (hw : 2 ≤ w ∧ w ≤ 8) (hsz : 1 ≤ sz ∧ sz ≤ 8) (hev : 1 ≤ ev ∧ ev ≤ 8) (hL : L ≤ 1000) (ht : ∀ j, j < L → t j ≤ 1) (hap : ap ≤ L) (hi64 : i < 64) (hrq : ∀ j, j < i → rf j = q j) (hq : ∀ j, j < i → q j ≤ tpW w) (hway : way ≤ 3) (hc : okC w code) (hok : ¬ (rsam t L w sz ev q ap i way code).1 = 0) : Mv l D cI cZ cH yX9_readSample wsX9_readSample 3 70 [.ref m, .int (nI i), .int (nI way), .int (nI code)] [(m, .inr (9, [.ref sa, .ref ia, .ref ka, .ref ra, .ref ba, .int (nI bm), .ref la, .ref ha, .int (nI ap), .int (nI 0), .int (nI wa), .int (nI go)])), (sa, .inl (cI, 1072, .inl (stA w sz ev n g L t x y z))), (ra, .inl (cI, 64, .inl (aN rf)))] (fun (ap2 : Nat) => True) (fun (ap2 : Nat) => [(m, .inr (9, [.ref sa, .ref ia, .ref ka, .ref ra, .ref ba, .int (nI bm), .ref la, .ref ha, .int (nI ap2), .int (nI ((rsam t L w sz ev q ap i way code).1)), .int (nI ((rsam t L w sz ev q ap i way code).2.1)), .int (nI go)])), (sa, .inl (cI, 1072, .inl (stA w sz ev n g L t x y z))), (ra, .inl (cI, 64, .inl (aN rf)))]) := by
  refine Mv.start (cc := cX9_readSample) (nL := 5) (ret := none) (lv0 := [(0, .ref m), (1, .int (nI i)), (2, .int (nI way)), (3, .int (nI code))]) (by decide) rfl (Nat.le_of_ble_eq_true rfl) rfl ?_
  intro pX eX sX mX bX methX cX AX C
  have h2w := tpW_le hw.2
  refine j_aload_n C dX9_readSample_0 0 rfl 1 rfl ?_
  refine j_iload_n C dX9_readSample_1 1 rfl 2 rfl ?_
  refine j_callVi1 (As := [.int (nI i)]) (rest := []) (wr := [(ra, .inl (cI, 64, .inl (aN rf)))]) C (c_X9_isBare l D cI cZ cH m sa ia ka ra ba bm la ha ap 0 wa go w sz ev n g L t x y z i (by omega) (by omega) (by omega)) gX9_readSample_X9_isBare dX9_readSample_2 rfl yd_X9_isBare (Nat.le_of_ble_eq_true rfl) (Nat.le_of_ble_eq_true rfl) rfl rfl rfl _ rfl (Nat.le_of_ble_eq_true rfl) (Nat.zero_le _) (Nat.zero_le _) [0, 1] [2] rfl rfl rfl rfl rfl (by decide) [1, 2, 0] [(m, .inr (9, [.ref sa, .ref ia, .ref ka, .ref ra, .ref ba, .int (nI bm), .ref la, .ref ha, .int (nI ap), .int (nI 0), .int (nI wa), .int (nI go)])), (sa, .inl (cI, 1072, .inl (stA w sz ev n g L t x y z))), (ra, .inl (cI, 64, .inl (aN rf)))] rfl rfl rfl 5 rfl ?_
  refine j_ifb_eq C dX9_readSample_5 25 (by decide) 8 rfl (fun h5 => ?_) (fun h5 => ?_)
  · have hi1 := pos_of_mod h5
    have hrf : ¬ (rfold t L w ap code).1 = 0 := by
      intro h9; apply hok; unfold rsam; rw [if_neg h5, if_pos h9]
    have hrs : rsam t L w sz ev q ap i way code = rfold t L w ap code := by unfold rsam; rw [if_neg h5, if_neg hrf]
    have hlt9 := rfold_lt t L w ap code
    refine j_aload_n C dX9_readSample_25 0 rfl 26 rfl ?_
    refine j_aload_n C dX9_readSample_26 0 rfl 27 rfl ?_
    refine j_iload_n C dX9_readSample_27 3 rfl 28 rfl ?_
    refine j_callVi (As := [.int (nI code)]) (rest := [.ref m]) (wr := [(ra, .inl (cI, 64, .inl (aN rf)))]) C (c_X9_rfNo l D cI cZ cH m sa ia ka ra ba bm la ha ap wa go w sz ev n g L t x y z code hw (by omega) ht (by omega) hc hrf) gX9_readSample_X9_readFold dX9_readSample_28 rfl yd_X9_readFold (Nat.le_of_ble_eq_true rfl) (Nat.le_of_ble_eq_true rfl) rfl rfl rfl _ rfl (Nat.le_of_ble_eq_true rfl) (Nat.zero_le _) (Nat.zero_le _) [0, 1] [2] rfl rfl rfl rfl rfl (by decide) [1, 2, 0] (fun u9 => [(m, .inr (9, [.ref sa, .ref ia, .ref ka, .ref ra, .ref ba, .int (nI bm), .ref la, .ref ha, .int (nI (u9.1)), .int (nI ((rfold t L w ap code).1)), .int (nI ((rfold t L w ap code).2.1)), .int (nI go)])), (sa, .inl (cI, 1072, .inl (stA w sz ev n g L t x y z))), (ra, .inl (cI, 64, .inl (aN rf)))]) (fun _ => rfl) (fun _ => rfl) rfl 31 rfl (fun r_28 u9 hpo28 => ?_)
    obtain ⟨ap2_28, v2_28⟩ := u9
    replace hpo28 : r_28 = nI v2_28 ∧ v2_28 < 2 ^ 20 := hpo28
    show J D AX pX l eX _ sX mX _ bX methX cX 0 0 _ 5 [(m, .inr (9, [.ref sa, .ref ia, .ref ka, .ref ra, .ref ba, .int (nI bm), .ref la, .ref ha, .int (nI ap2_28), .int (nI ((rfold t L w ap code).1)), .int (nI ((rfold t L w ap code).2.1)), .int (nI go)])), (sa, .inl (cI, 1072, .inl (stA w sz ev n g L t x y z))), (ra, .inl (cI, 64, .inl (aN rf)))] [(0, .ref m), (1, .int (nI i)), (2, .int (nI way)), (3, .int (nI code))] 31 [.int r_28, .ref m]
    obtain ⟨hr9, hv9⟩ := hpo28
    refine j_top (nI v2_28) hr9 ?_
    refine j_aload_n C dX9_readSample_31 0 rfl 32 rfl ?_
    refine j_iload_n C dX9_readSample_32 1 rfl 33 rfl ?_
    refine j_iload_n C dX9_readSample_33 2 rfl 34 rfl ?_
    refine j_callVi1 (As := [.int (nI i), .int (nI way)]) (rest := [.int (nI v2_28), .ref m]) (wr := []) C (c_X9_expected l D cI cZ cH m sa ia ka ra ba bm la ha ap2_28 ((rfold t L w ap code).1) ((rfold t L w ap code).2.1) go w sz ev n g L t x y z rf q i way hw hsz hev hrq hq hi1 (by omega) (by omega)) gX9_readSample_X9_expected dX9_readSample_34 rfl yd_X9_expected (Nat.le_of_ble_eq_true rfl) (Nat.le_of_ble_eq_true rfl) rfl rfl rfl _ rfl (Nat.le_of_ble_eq_true rfl) (Nat.zero_le _) (Nat.zero_le _) [0, 1, 2] [] rfl rfl rfl rfl rfl (by decide) [0, 1, 2] [(m, .inr (9, [.ref sa, .ref ia, .ref ka, .ref ra, .ref ba, .int (nI bm), .ref la, .ref ha, .int (nI ap2_28), .int (nI ((rfold t L w ap code).1)), .int (nI ((rfold t L w ap code).2.1)), .int (nI go)])), (sa, .inl (cI, 1072, .inl (stA w sz ev n g L t x y z))), (ra, .inl (cI, 64, .inl (aN rf)))] rfl rfl rfl 37 rfl ?_
    have hto := told_le (sz := sz) (ev := ev) (way := way) hw.1 hq hi1 (Nat.le_refl i)
    refine j_callVi (As := [.int (nI v2_28), .int (nI (told w sz ev q i way))]) (rest := []) (wr := [(ra, .inl (cI, 64, .inl (aN rf)))]) C (c_X9_unfoldAny l D cI cZ cH m sa ia ka ra ba bm la ha ap2_28 ((rfold t L w ap code).1) ((rfold t L w ap code).2.1) go w sz ev n g L t x y z v2_28 (told w sz ev q i way) (by omega) (by omega) (by omega)) gX9_readSample_X9_unfold dX9_readSample_37 rfl yd_X9_unfold (Nat.le_of_ble_eq_true rfl) (Nat.le_of_ble_eq_true rfl) rfl rfl rfl _ rfl (Nat.le_of_ble_eq_true rfl) (Nat.zero_le _) (Nat.zero_le _) [0, 1] [2] rfl rfl rfl rfl rfl (by decide) [1, 2, 0] (fun u8_37 => [(m, .inr (9, [.ref sa, .ref ia, .ref ka, .ref ra, .ref ba, .int (nI bm), .ref la, .ref ha, .int (nI ap2_28), .int (nI ((rfold t L w ap code).1)), .int (nI ((rfold t L w ap code).2.1)), .int (nI go)])), (sa, .inl (cI, 1072, .inl (stA w sz ev n g L t x y z))), (ra, .inl (cI, 64, .inl (aN rf)))]) (fun _ => rfl) (fun _ => rfl) rfl 40 rfl (fun r_37 u9 hpo37 => ?_)
    obtain ⟨u8_37, hu9⟩ : ∃ z, z = u9 := ⟨_, rfl⟩
    subst hu9
    replace hpo37 : True := hpo37
    show J D AX pX l eX _ sX mX _ bX methX cX 0 0 _ 5 [(m, .inr (9, [.ref sa, .ref ia, .ref ka, .ref ra, .ref ba, .int (nI bm), .ref la, .ref ha, .int (nI ap2_28), .int (nI ((rfold t L w ap code).1)), .int (nI ((rfold t L w ap code).2.1)), .int (nI go)])), (sa, .inl (cI, 1072, .inl (stA w sz ev n g L t x y z))), (ra, .inl (cI, 64, .inl (aN rf)))] [(0, .ref m), (1, .int (nI i)), (2, .int (nI way)), (3, .int (nI code))] 40 [.int r_37]
    refine j_istore C dX9_readSample_40 [(4, .int r_37), (0, .ref m), (1, .int (nI i)), (2, .int (nI way)), (3, .int (nI code))] (by decide) rfl 42 rfl ?_
    refine j_aload_n C dX9_readSample_42 1 rfl 43 rfl ?_
    refine j_get C dX9_readSample_43 0 9 2 inX9_readSample_9 rfl rfl (by decide) rfl rfl rfl 46 rfl ?_
    refine j_if_ne C dX9_readSample_46 67 (by decide) (q_t (by omega)) 49 rfl (fun h46 => ?_) (fun h9 => by exfalso; omega)
    exact j_vret C dX9_readSample_67 (ap2_28) trivial (by first | (rw [hrs, rnum_no hle]; done) | (rw [hrs]; done))
  · have hrs : rsam t L w sz ev q ap i way code = rnum t L ap w := by unfold rsam; rw [if_pos h5]
    have hle : L < ap + w := by
      rcases Nat.lt_or_ge L (ap + w) with h9 | h9
      · exact h9
      · rw [hrs, rnum_ok h9] at hok; simp at hok
    refine j_aload_n C dX9_readSample_8 0 rfl 9 rfl ?_
    refine j_aload_n C dX9_readSample_9 0 rfl 10 rfl ?_
    refine j_get C dX9_readSample_10 0 0 1 inX9_readSample_9 rfl rfl (by decide) rfl rfl rfl 13 rfl ?_
    refine j_sipush C dX9_readSample_13 (nI 1066) (by decide) 16 rfl ?_
    refine j_ialdI C dX9_readSample_16 1 rfl (Nat.le_of_ble_eq_true rfl) (Nat.le_of_ble_eq_true rfl) (nI w) rfl 17 rfl ?_
    refine j_callVi1 (As := [.int (nI w)]) (rest := []) (wr := [(ra, .inl (cI, 64, .inl (aN rf)))]) C (c_X9_numNo l D cI cZ cH m sa ia ka ra ba bm la ha ap wa go w sz ev n g L t x y z w (by omega) (by omega) (by omega) (by omega)) gX9_readSample_X9_number dX9_readSample_17 rfl yd_X9_number (Nat.le_of_ble_eq_true rfl) (Nat.le_of_ble_eq_true rfl) rfl rfl rfl _ rfl (Nat.le_of_ble_eq_true rfl) (Nat.zero_le _) (Nat.zero_le _) [0, 1] [2] rfl rfl rfl rfl rfl (by decide) [1, 2, 0] [(m, .inr (9, [.ref sa, .ref ia, .ref ka, .ref ra, .ref ba, .int (nI bm), .ref la, .ref ha, .int (nI L), .int (nI 1), .int (nI L), .int (nI go)])), (sa, .inl (cI, 1072, .inl (stA w sz ev n g L t x y z))), (ra, .inl (cI, 64, .inl (aN rf)))] rfl rfl rfl 20 rfl ?_
    refine j_istore C dX9_readSample_20 [(4, .int (nI (rn t ap (L - ap)))), (0, .ref m), (1, .int (nI i)), (2, .int (nI way)), (3, .int (nI code))] (by decide) rfl 22 rfl ?_
    refine j_goto C dX9_readSample_22 42 (by decide) ?_
    refine j_aload_n C dX9_readSample_42 1 rfl 43 rfl ?_
    refine j_get C dX9_readSample_43 0 9 2 inX9_readSample_9 rfl rfl (by decide) rfl rfl rfl 46 rfl ?_
    refine j_if_ne C dX9_readSample_46 67 (by decide) (q_t (n := 1) (Nat.le_of_ble_eq_true rfl)) 49 rfl (fun h46 => ?_) (fun h9 => by exfalso; omega)
    exact j_vret C dX9_readSample_67 (L) trivial (by first | (rw [hrs, rnum_no hle]; done) | (rw [hrs]; done))
set_option maxHeartbeats 4000000 in
set_option maxRecDepth 100000 in
theorem c_X9_readBlock (l : Launch) (D : va_G) (cI cZ cH : ClassId) (m sa ia ka ra ba bm la ha ap wa : Nat) (w sz ev n : Nat) (g : Nat → Nat) (L : Nat) (t : Nat → Nat) (x : Nat) (y z : Int32) (rf q : Nat → Nat) (i en : Nat) (hw : 2 ≤ w ∧ w ≤ 8) (hsz : 1 ≤ sz ∧ sz ≤ 8) (hev : 1 ≤ ev ∧ ev ≤ 8) (hL : L ≤ 1000) (ht : ∀ j, j < L → t j ≤ 1) (hap : ap ≤ L) (hen : i ≤ en) (hen64 : en ≤ 64) (hrq : ∀ j, j < i → rf j = q j) (hq : ∀ j, j < i → q j ≤ tpW w) : Mv l D cI cZ cH yX9_readBlock wsX9_readBlock 4 94 [.ref m, .int (nI i), .int (nI en)] [(m, .inr (9, [.ref sa, .ref ia, .ref ka, .ref ra, .ref ba, .int (nI bm), .ref la, .ref ha, .int (nI ap), .int (nI 0), .int (nI wa), .int (nI i)])), (sa, .inl (cI, 1072, .inl (stA w sz ev n g L t x y z))), (ra, .inl (cI, 64, .inl (aN rf)))] (fun (u9 : Nat × (Nat → Nat) × Nat × Nat × Nat) => (u9.2.2.1) = (rblk t L w sz ev ap q i en).1 ∧ (u9.2.2.2.2) = (rblk t L w sz ev ap q i en).2.2.2.2 ∧ (∀ j, j < (u9.2.2.2.2) → (u9.2.1) j = (rblk t L w sz ev ap q i en).2.2.2.1 j) ∧ ((rblk t L w sz ev ap q i en).1 = 0 → (u9.1) = (rblk t L w sz ev ap q i en).2.2.1) ∧ (¬ (rblk t L w sz ev ap q i en).1 = 0 → (u9.2.2.2.1) = (rblk t L w sz ev ap q i en).2.1)) (fun (u9 : Nat × (Nat → Nat) × Nat × Nat × Nat) => [(m, .inr (9, [.ref sa, .ref ia, .ref ka, .ref ra, .ref ba, .int (nI bm), .ref la, .ref ha, .int (nI (u9.1)), .int (nI (u9.2.2.1)), .int (nI (u9.2.2.2.1)), .int (nI (u9.2.2.2.2))])), (sa, .inl (cI, 1072, .inl (stA w sz ev n g L t x y z))), (ra, .inl (cI, 64, .inl (aN (u9.2.1))))]) := by
  refine Mv.start (cc := cX9_readBlock) (nL := 7) (ret := none) (lv0 := [(0, .ref m), (1, .int (nI i)), (2, .int (nI en))]) (by decide) rfl (Nat.le_of_ble_eq_true rfl) rfl ?_
  intro pX eX sX mX bX methX cX AX C
  refine j_aload_n C dX9_readBlock_0 0 rfl 1 rfl ?_
  refine j_get C dX9_readBlock_1 0 8 1 inX9_readBlock_9 rfl rfl (by decide) rfl rfl rfl 4 rfl ?_
  refine j_istore_n C dX9_readBlock_4 [(3, .int (nI ap)), (0, .ref m), (1, .int (nI i)), (2, .int (nI en))] (by decide) rfl 5 rfl ?_
  refine j_aload_n C dX9_readBlock_5 1 rfl 6 rfl ?_
  refine j_iconst C dX9_readBlock_6 (nI 2) (by decide) 7 rfl ?_
  rcases Nat.lt_or_ge L (ap + 2) with h7 | h7
  · refine j_callVi1 (As := [.int (nI 2)]) (rest := []) (wr := [(ra, .inl (cI, 64, .inl (aN rf)))]) C (c_X9_numNo l D cI cZ cH m sa ia ka ra ba bm la ha ap wa i w sz ev n g L t x y z 2 (by omega) (by omega) (by omega) (by omega)) gX9_readBlock_X9_number dX9_readBlock_7 rfl yd_X9_number (Nat.le_of_ble_eq_true rfl) (Nat.le_of_ble_eq_true rfl) rfl rfl rfl _ rfl (Nat.le_of_ble_eq_true rfl) (Nat.zero_le _) (Nat.zero_le _) [0, 1] [2] rfl rfl rfl rfl rfl (by decide) [1, 2, 0] [(m, .inr (9, [.ref sa, .ref ia, .ref ka, .ref ra, .ref ba, .int (nI bm), .ref la, .ref ha, .int (nI L), .int (nI 1), .int (nI L), .int (nI i)])), (sa, .inl (cI, 1072, .inl (stA w sz ev n g L t x y z))), (ra, .inl (cI, 64, .inl (aN rf)))] rfl rfl rfl 10 rfl ?_
    refine j_istore C dX9_readBlock_10 [(4, .int (nI (rn t ap (L - ap)))), (3, .int (nI ap)), (0, .ref m), (1, .int (nI i)), (2, .int (nI en))] (by decide) rfl 12 rfl ?_
    refine j_aload_n C dX9_readBlock_12 2 rfl 13 rfl ?_
    refine j_iconst C dX9_readBlock_13 (nI 4) (by decide) 14 rfl ?_
    refine j_callVi1 (As := [.int (nI 4)]) (rest := []) (wr := [(ra, .inl (cI, 64, .inl (aN rf)))]) C (c_X9_numW l D cI cZ cH m sa ia ka ra ba bm la ha L 1 L i w sz ev n g L t x y z 4 (by omega) (by omega) (by omega)) gX9_readBlock_X9_number dX9_readBlock_14 rfl yd_X9_number (Nat.le_of_ble_eq_true rfl) (Nat.le_of_ble_eq_true rfl) rfl rfl rfl _ rfl (Nat.le_of_ble_eq_true rfl) (Nat.zero_le _) (Nat.zero_le _) [0, 1] [2] rfl rfl rfl rfl rfl (by decide) [1, 2, 0] [(m, .inr (9, [.ref sa, .ref ia, .ref ka, .ref ra, .ref ba, .int (nI bm), .ref la, .ref ha, .int (nI L), .int (nI 1), .int (nI L), .int (nI i)])), (sa, .inl (cI, 1072, .inl (stA w sz ev n g L t x y z))), (ra, .inl (cI, 64, .inl (aN rf)))] rfl rfl rfl 17 rfl ?_
    refine j_istore C dX9_readBlock_17 [(5, .int (nI 0)), (4, .int (nI (rn t ap (L - ap)))), (3, .int (nI ap)), (0, .ref m), (1, .int (nI i)), (2, .int (nI en))] (by decide) rfl 19 rfl ?_
    refine j_aload_n C dX9_readBlock_19 3 rfl 20 rfl ?_
    refine j_get C dX9_readBlock_20 0 9 2 inX9_readBlock_9 rfl rfl (by decide) rfl rfl rfl 23 rfl ?_
    refine j_if_ne C dX9_readBlock_23 41 (by decide) (q_t (n := 1) (Nat.le_of_ble_eq_true rfl)) 26 rfl (fun h23 => ?_) (fun h9 => by exfalso; omega)
    refine j_iload_n C dX9_readBlock_41 4 rfl 42 rfl ?_
    refine j_istore C dX9_readBlock_42 [(6, .int (nI i)), (5, .int (nI 0)), (4, .int (nI (rn t ap (L - ap)))), (3, .int (nI ap)), (0, .ref m), (1, .int (nI i)), (2, .int (nI en))] (by decide) rfl 44 rfl ?_
    refine j_iload C dX9_readBlock_44 0 rfl 46 rfl ?_
    refine j_iload_n C dX9_readBlock_46 6 rfl 47 rfl ?_
    refine j_icmp_ge C dX9_readBlock_47 73 (by decide) (q_t (by omega)) (q_t (by omega)) 50 rfl (fun h47 => ?_) (fun h47 => ?_)
    · exact j_vret C dX9_readBlock_73 (L, rf, 1, L, i) (by rw [show rblk t L w sz ev ap q i en = (1, L, ap, q, i) from rblk_1 (by omega)]; exact ⟨rfl, rfl, hrq, fun h => by simp at h, fun _ => rfl⟩) rfl
    · refine j_aload_n C dX9_readBlock_50 4 rfl 51 rfl ?_
      refine j_get C dX9_readBlock_51 0 9 2 inX9_readBlock_9 rfl rfl (by decide) rfl rfl rfl 54 rfl ?_
      refine j_if_ne C dX9_readBlock_54 73 (by decide) (q_t (n := 1) (Nat.le_of_ble_eq_true rfl)) 57 rfl (fun h54 => ?_) (fun h9 => by exfalso; omega)
      exact j_vret C dX9_readBlock_73 (L, rf, 1, L, i) (by rw [show rblk t L w sz ev ap q i en = (1, L, ap, q, i) from rblk_1 (by omega)]; exact ⟨rfl, rfl, hrq, fun h => by simp at h, fun _ => rfl⟩) rfl
  · refine j_callVi1 (As := [.int (nI 2)]) (rest := []) (wr := [(ra, .inl (cI, 64, .inl (aN rf)))]) C (c_X9_numOk l D cI cZ cH m sa ia ka ra ba bm la ha ap wa i w sz ev n g L t x y z 2 (by omega) (by omega) (by omega)) gX9_readBlock_X9_number dX9_readBlock_7 rfl yd_X9_number (Nat.le_of_ble_eq_true rfl) (Nat.le_of_ble_eq_true rfl) rfl rfl rfl _ rfl (Nat.le_of_ble_eq_true rfl) (Nat.zero_le _) (Nat.zero_le _) [0, 1] [2] rfl rfl rfl rfl rfl (by decide) [1, 2, 0] [(m, .inr (9, [.ref sa, .ref ia, .ref ka, .ref ra, .ref ba, .int (nI bm), .ref la, .ref ha, .int (nI (ap + 2)), .int (nI 0), .int (nI wa), .int (nI i)])), (sa, .inl (cI, 1072, .inl (stA w sz ev n g L t x y z))), (ra, .inl (cI, 64, .inl (aN rf)))] rfl rfl rfl 10 rfl ?_
    refine j_istore C dX9_readBlock_10 [(4, .int (nI (rn t ap 2))), (3, .int (nI ap)), (0, .ref m), (1, .int (nI i)), (2, .int (nI en))] (by decide) rfl 12 rfl ?_
    refine j_aload_n C dX9_readBlock_12 2 rfl 13 rfl ?_
    refine j_iconst C dX9_readBlock_13 (nI 4) (by decide) 14 rfl ?_
    rcases Nat.lt_or_ge L (ap + 6) with h14 | h14
    · refine j_callVi1 (As := [.int (nI 4)]) (rest := []) (wr := [(ra, .inl (cI, 64, .inl (aN rf)))]) C (c_X9_numNo l D cI cZ cH m sa ia ka ra ba bm la ha (ap + 2) wa i w sz ev n g L t x y z 4 (by omega) (by omega) (by omega) (by omega)) gX9_readBlock_X9_number dX9_readBlock_14 rfl yd_X9_number (Nat.le_of_ble_eq_true rfl) (Nat.le_of_ble_eq_true rfl) rfl rfl rfl _ rfl (Nat.le_of_ble_eq_true rfl) (Nat.zero_le _) (Nat.zero_le _) [0, 1] [2] rfl rfl rfl rfl rfl (by decide) [1, 2, 0] [(m, .inr (9, [.ref sa, .ref ia, .ref ka, .ref ra, .ref ba, .int (nI bm), .ref la, .ref ha, .int (nI L), .int (nI 1), .int (nI L), .int (nI i)])), (sa, .inl (cI, 1072, .inl (stA w sz ev n g L t x y z))), (ra, .inl (cI, 64, .inl (aN rf)))] rfl rfl rfl 17 rfl ?_
      refine j_istore C dX9_readBlock_17 [(5, .int (nI (rn t (ap + 2) (L - (ap + 2))))), (4, .int (nI (rn t ap 2))), (3, .int (nI ap)), (0, .ref m), (1, .int (nI i)), (2, .int (nI en))] (by decide) rfl 19 rfl ?_
      refine j_aload_n C dX9_readBlock_19 3 rfl 20 rfl ?_
      refine j_get C dX9_readBlock_20 0 9 2 inX9_readBlock_9 rfl rfl (by decide) rfl rfl rfl 23 rfl ?_
      refine j_if_ne C dX9_readBlock_23 41 (by decide) (q_t (n := 1) (Nat.le_of_ble_eq_true rfl)) 26 rfl (fun h23 => ?_) (fun h9 => by exfalso; omega)
      refine j_iload_n C dX9_readBlock_41 4 rfl 42 rfl ?_
      refine j_istore C dX9_readBlock_42 [(6, .int (nI i)), (5, .int (nI (rn t (ap + 2) (L - (ap + 2))))), (4, .int (nI (rn t ap 2))), (3, .int (nI ap)), (0, .ref m), (1, .int (nI i)), (2, .int (nI en))] (by decide) rfl 44 rfl ?_
      refine j_iload C dX9_readBlock_44 0 rfl 46 rfl ?_
      refine j_iload_n C dX9_readBlock_46 6 rfl 47 rfl ?_
      refine j_icmp_ge C dX9_readBlock_47 73 (by decide) (q_t (by omega)) (q_t (by omega)) 50 rfl (fun h47 => ?_) (fun h47 => ?_)
      · exact j_vret C dX9_readBlock_73 (L, rf, 1, L, i) (by rw [show rblk t L w sz ev ap q i en = (1, L, ap, q, i) from rblk_1 h14]; exact ⟨rfl, rfl, hrq, fun h => by simp at h, fun _ => rfl⟩) rfl
      · refine j_aload_n C dX9_readBlock_50 4 rfl 51 rfl ?_
        refine j_get C dX9_readBlock_51 0 9 2 inX9_readBlock_9 rfl rfl (by decide) rfl rfl rfl 54 rfl ?_
        refine j_if_ne C dX9_readBlock_54 73 (by decide) (q_t (n := 1) (Nat.le_of_ble_eq_true rfl)) 57 rfl (fun h54 => ?_) (fun h9 => by exfalso; omega)
        exact j_vret C dX9_readBlock_73 (L, rf, 1, L, i) (by rw [show rblk t L w sz ev ap q i en = (1, L, ap, q, i) from rblk_1 h14]; exact ⟨rfl, rfl, hrq, fun h => by simp at h, fun _ => rfl⟩) rfl
    · refine j_callVi1 (As := [.int (nI 4)]) (rest := []) (wr := [(ra, .inl (cI, 64, .inl (aN rf)))]) C (c_X9_numOk l D cI cZ cH m sa ia ka ra ba bm la ha (ap + 2) wa i w sz ev n g L t x y z 4 (by omega) (by omega) (by omega)) gX9_readBlock_X9_number dX9_readBlock_14 rfl yd_X9_number (Nat.le_of_ble_eq_true rfl) (Nat.le_of_ble_eq_true rfl) rfl rfl rfl _ rfl (Nat.le_of_ble_eq_true rfl) (Nat.zero_le _) (Nat.zero_le _) [0, 1] [2] rfl rfl rfl rfl rfl (by decide) [1, 2, 0] [(m, .inr (9, [.ref sa, .ref ia, .ref ka, .ref ra, .ref ba, .int (nI bm), .ref la, .ref ha, .int (nI ((ap + 2) + 4)), .int (nI 0), .int (nI wa), .int (nI i)])), (sa, .inl (cI, 1072, .inl (stA w sz ev n g L t x y z))), (ra, .inl (cI, 64, .inl (aN rf)))] rfl rfl rfl 17 rfl ?_
      have hhd := rn_head ht h14
      refine j_istore C dX9_readBlock_17 [(5, .int (nI (rn t (ap + 2) 4))), (4, .int (nI (rn t ap 2))), (3, .int (nI ap)), (0, .ref m), (1, .int (nI i)), (2, .int (nI en))] (by decide) rfl 19 rfl ?_
      refine j_aload_n C dX9_readBlock_19 3 rfl 20 rfl ?_
      refine j_get C dX9_readBlock_20 0 9 2 inX9_readBlock_9 rfl rfl (by decide) rfl rfl rfl 23 rfl ?_
      refine j_if_ne C dX9_readBlock_23 41 (by decide) (q_t (n := 0) (Nat.le_of_ble_eq_true rfl)) 26 rfl (fun h9 => by exfalso; omega) (fun h23 => ?_)
      refine j_aload_n C dX9_readBlock_26 3 rfl 27 rfl ?_
      refine j_iload C dX9_readBlock_27 0 rfl 29 rfl ?_
      refine j_callVi1 (As := [.int (nI (rn t (ap + 2) 4))]) (rest := []) (wr := [(ra, .inl (cI, 64, .inl (aN rf)))]) C (c_X9_canCode l D cI cZ cH m sa ia ka ra ba bm la ha ((ap + 2) + 4) 0 wa i w sz ev n g L t x y z (rn t (ap + 2) 4) (by omega) (by omega)) gX9_readBlock_X9_canCode dX9_readBlock_29 rfl yd_X9_canCode (Nat.le_of_ble_eq_true rfl) (Nat.le_of_ble_eq_true rfl) rfl rfl rfl _ rfl (Nat.le_of_ble_eq_true rfl) (Nat.zero_le _) (Nat.zero_le _) [0, 1] [2] rfl rfl rfl rfl rfl (by decide) [1, 2, 0] [(m, .inr (9, [.ref sa, .ref ia, .ref ka, .ref ra, .ref ba, .int (nI bm), .ref la, .ref ha, .int (nI ((ap + 2) + 4)), .int (nI 0), .int (nI wa), .int (nI i)])), (sa, .inl (cI, 1072, .inl (stA w sz ev n g L t x y z))), (ra, .inl (cI, 64, .inl (aN rf)))] rfl rfl rfl 32 rfl ?_
      refine j_ifb_ne C dX9_readBlock_32 41 (by decide) 35 rfl (fun h32 => ?_) (fun h32 => ?_)
      · have hB0 : rblk t L w sz ev ap q i en = rS t L w sz ev (rn t ap 2) (rn t (ap + 2) 4) (0, 0, ap + 6, q, i) (en - i) := by rw [rblk_0 h14 (by rw [hhd.2.1]; exact h32), hhd.1, hhd.2.1]
        refine j_iload_n C dX9_readBlock_41 4 rfl 42 rfl ?_
        refine j_istore C dX9_readBlock_42 [(6, .int (nI i)), (5, .int (nI (rn t (ap + 2) 4))), (4, .int (nI (rn t ap 2))), (3, .int (nI ap)), (0, .ref m), (1, .int (nI i)), (2, .int (nI en))] (by decide) rfl 44 rfl ?_
        refine j_loop4 (fun (k : Nat) (ap1 : Nat) (rf1 : Nat → Nat) (q1 : Nat → Nat) => i + k ≤ en ∧ rS t L w sz ev (rn t ap 2) (rn t (ap + 2) 4) (0, 0, ap + 6, q, i) k = (0, 0, ap1, q1, i + k) ∧ ∀ j, j < i + k → rf1 j = q1 j) (fun (k : Nat) (ap1 : Nat) (rf1 : Nat → Nat) (q1 : Nat → Nat) => en - (i + k)) (fun (k : Nat) (ap1 : Nat) (rf1 : Nat → Nat) (q1 : Nat → Nat) => [(m, .inr (9, [.ref sa, .ref ia, .ref ka, .ref ra, .ref ba, .int (nI bm), .ref la, .ref ha, .int (nI ap1), .int (nI 0), .int (nI wa), .int (nI (i + k))])), (sa, .inl (cI, 1072, .inl (stA w sz ev n g L t x y z))), (ra, .inl (cI, 64, .inl (aN rf1)))]) (fun (k : Nat) (ap1 : Nat) (rf1 : Nat → Nat) (q1 : Nat → Nat) => [(6, .int (nI (i + k))), (5, .int (nI (rn t (ap + 2) 4))), (4, .int (nI (rn t ap 2))), (3, .int (nI ap)), (0, .ref m), (1, .int (nI i)), (2, .int (nI en))]) ?_ 0 ((ap + 2) + 4) rf q ⟨by omega, rfl, hrq⟩ rfl rfl
        intro k ap1 rf1 q1 hI44 ih44
        obtain ⟨hk, hS, hrq1⟩ := hI44
        show J D AX pX l eX _ sX mX _ bX methX cX 0 0 _ 7 [(m, .inr (9, [.ref sa, .ref ia, .ref ka, .ref ra, .ref ba, .int (nI bm), .ref la, .ref ha, .int (nI ap1), .int (nI 0), .int (nI wa), .int (nI (i + k))])), (sa, .inl (cI, 1072, .inl (stA w sz ev n g L t x y z))), (ra, .inl (cI, 64, .inl (aN rf1)))] [(6, .int (nI (i + k))), (5, .int (nI (rn t (ap + 2) 4))), (4, .int (nI (rn t ap 2))), (3, .int (nI ap)), (0, .ref m), (1, .int (nI i)), (2, .int (nI en))] 44 []
        have hgd := rS_good (sz := sz) (ev := ev) (way := rn t ap 2) (s := (0, 0, ap + 6, q, i)) hw.1 ht h32 ⟨h14, Nat.le_refl _, hq, by simp, fun h => absurd rfl h⟩ k
        rw [hS] at hgd
        have hap1 : ap1 ≤ L := hgd.1.1
        have hq1 : ∀ j, j < i + k → q1 j ≤ tpW w := hgd.1.2.2.1
        refine j_iload C dX9_readBlock_44 0 rfl 46 rfl ?_
        refine j_iload_n C dX9_readBlock_46 6 rfl 47 rfl ?_
        refine j_icmp_ge C dX9_readBlock_47 73 (by decide) (q_t (by omega)) (q_t (by omega)) 50 rfl (fun h47 => ?_) (fun h47 => ?_)
        · exact j_vret C dX9_readBlock_73 (ap1, rf1, 0, wa, i + k) (by rw [show rblk t L w sz ev ap q i en = (0, 0, ap1, q1, i + k) from hB0.trans (by rw [show en - i = k by omega]; exact hS)]; exact ⟨rfl, rfl, hrq1, fun _ => rfl, fun h => absurd rfl h⟩) rfl
        · refine j_aload_n C dX9_readBlock_50 4 rfl 51 rfl ?_
          refine j_get C dX9_readBlock_51 0 9 2 inX9_readBlock_9 rfl rfl (by decide) rfl rfl rfl 54 rfl ?_
          refine j_if_ne C dX9_readBlock_54 73 (by decide) (q_t (n := 0) (Nat.le_of_ble_eq_true rfl)) 57 rfl (fun h9 => by exfalso; omega) (fun h54 => ?_)
          refine j_aload_n C dX9_readBlock_57 4 rfl 58 rfl ?_
          refine j_iload C dX9_readBlock_58 0 rfl 60 rfl ?_
          refine j_iload C dX9_readBlock_60 2 rfl 62 rfl ?_
          refine j_iload C dX9_readBlock_62 1 rfl 64 rfl ?_
          rcases Nat.eq_zero_or_pos (rsam t L w sz ev q1 ap1 (i + k) (rn t ap 2) (rn t (ap + 2) 4)).1 with h64 | h64
          · refine j_callVv1 (As := [.int (nI (i + k)), .int (nI (rn t ap 2)), .int (nI (rn t (ap + 2) 4))]) (rest := []) (wr := []) C (c_X9_rsOk l D cI cZ cH m sa ia ka ra ba bm la ha ap1 wa (i + k) w sz ev n g L t x y z rf1 q1 (i + k) (rn t ap 2) (rn t (ap + 2) 4) hw hsz hev (by omega) ht (by omega) (by omega) hrq1 hq1 (by omega) h32 h64) gX9_readBlock_X9_readSample dX9_readBlock_64 rfl yd_X9_readSample (Nat.le_of_ble_eq_true rfl) (Nat.le_of_ble_eq_true rfl) rfl rfl rfl _ rfl (Nat.le_of_ble_eq_true rfl) (Nat.zero_le _) (Nat.zero_le _) [0, 1, 2] [] rfl rfl rfl rfl rfl (by decide) [0, 1, 2] [(m, .inr (9, [.ref sa, .ref ia, .ref ka, .ref ra, .ref ba, .int (nI bm), .ref la, .ref ha, .int (nI ((rsam t L w sz ev q1 ap1 (i + k) (rn t ap 2) (rn t (ap + 2) 4)).2.2)), .int (nI 0), .int (nI wa), .int (nI ((i + k) + 1))])), (sa, .inl (cI, 1072, .inl (stA w sz ev n g L t x y z))), (ra, .inl (cI, 64, .inl (aN (va_up rf1 (i + k) (rsam t L w sz ev q1 ap1 (i + k) (rn t ap 2) (rn t (ap + 2) 4)).2.1))))] rfl rfl rfl 67 rfl ?_
            refine j_iinc C dX9_readBlock_67 0 rfl (nI (i + k + 1)) (nI_1 (i + k)) [(6, .int (nI (i + k + 1))), (5, .int (nI (rn t (ap + 2) 4))), (4, .int (nI (rn t ap 2))), (3, .int (nI ap)), (0, .ref m), (1, .int (nI i)), (2, .int (nI en))] (by decide) rfl 70 rfl ?_
            refine j_goto C dX9_readBlock_70 44 (by decide) ?_
            refine j_world [(m, .inr (9, [.ref sa, .ref ia, .ref ka, .ref ra, .ref ba, .int (nI bm), .ref la, .ref ha, .int (nI ((rsam t L w sz ev q1 ap1 (i + k) (rn t ap 2) (rn t (ap + 2) 4)).2.2)), .int (nI 0), .int (nI wa), .int (nI (i + (k + 1)))])), (sa, .inl (cI, 1072, .inl (stA w sz ev n g L t x y z))), (ra, .inl (cI, 64, .inl (aN (va_up rf1 (i + k) (rsam t L w sz ev q1 ap1 (i + k) (rn t ap 2) (rn t (ap + 2) 4)).2.1))))] rfl ?_
            refine j_lveq [(6, .int (nI (i + (k + 1)))), (5, .int (nI (rn t (ap + 2) 4))), (4, .int (nI (rn t ap 2))), (3, .int (nI ap)), (0, .ref m), (1, .int (nI i)), (2, .int (nI en))] rfl ?_
            exact ih44 (k + 1) ((rsam t L w sz ev q1 ap1 (i + k) (rn t ap 2) (rn t (ap + 2) 4)).2.2) (va_up rf1 (i + k) (rsam t L w sz ev q1 ap1 (i + k) (rn t ap 2) (rn t (ap + 2) 4)).2.1) (va_up q1 (i + k) (rsam t L w sz ev q1 ap1 (i + k) (rn t ap 2) (rn t (ap + 2) 4)).2.1) ⟨by omega, rS_go hS rfl h64, fun j hj => by simp only [va_up]; split; rfl; exact hrq1 j (by omega)⟩ (by omega)
          · refine j_callVv (As := [.int (nI (i + k)), .int (nI (rn t ap 2)), .int (nI (rn t (ap + 2) 4))]) (rest := []) (wr := []) C (c_X9_rsNo l D cI cZ cH m sa ia ka ra ba bm la ha ap1 wa (i + k) w sz ev n g L t x y z rf1 q1 (i + k) (rn t ap 2) (rn t (ap + 2) 4) hw hsz hev (by omega) ht (by omega) (by omega) hrq1 hq1 (by omega) h32 (by omega)) gX9_readBlock_X9_readSample dX9_readBlock_64 rfl yd_X9_readSample (Nat.le_of_ble_eq_true rfl) (Nat.le_of_ble_eq_true rfl) rfl rfl rfl _ rfl (Nat.le_of_ble_eq_true rfl) (Nat.zero_le _) (Nat.zero_le _) [0, 1, 2] [] rfl rfl rfl rfl rfl (by decide) [0, 1, 2] (fun ap2_64 => [(m, .inr (9, [.ref sa, .ref ia, .ref ka, .ref ra, .ref ba, .int (nI bm), .ref la, .ref ha, .int (nI ap2_64), .int (nI ((rsam t L w sz ev q1 ap1 (i + k) (rn t ap 2) (rn t (ap + 2) 4)).1)), .int (nI ((rsam t L w sz ev q1 ap1 (i + k) (rn t ap 2) (rn t (ap + 2) 4)).2.1)), .int (nI (i + k))])), (sa, .inl (cI, 1072, .inl (stA w sz ev n g L t x y z))), (ra, .inl (cI, 64, .inl (aN rf1)))]) (fun _ => rfl) (fun _ => rfl) rfl 67 rfl (fun u9 hpo64 => ?_)
            obtain ⟨ap2_64, hu9⟩ : ∃ z, z = u9 := ⟨_, rfl⟩
            subst hu9
            replace hpo64 : True := hpo64
            show J D AX pX l eX _ sX mX _ bX methX cX 0 0 _ 7 [(m, .inr (9, [.ref sa, .ref ia, .ref ka, .ref ra, .ref ba, .int (nI bm), .ref la, .ref ha, .int (nI ap2_64), .int (nI ((rsam t L w sz ev q1 ap1 (i + k) (rn t ap 2) (rn t (ap + 2) 4)).1)), .int (nI ((rsam t L w sz ev q1 ap1 (i + k) (rn t ap 2) (rn t (ap + 2) 4)).2.1)), .int (nI (i + k))])), (sa, .inl (cI, 1072, .inl (stA w sz ev n g L t x y z))), (ra, .inl (cI, 64, .inl (aN rf1)))] [(6, .int (nI (i + k))), (5, .int (nI (rn t (ap + 2) 4))), (4, .int (nI (rn t ap 2))), (3, .int (nI ap)), (0, .ref m), (1, .int (nI i)), (2, .int (nI en))] 67 []
            have hne : ¬ (rsam t L w sz ev q1 ap1 (i + k) (rn t ap 2) (rn t (ap + 2) 4)).1 = 0 := by omega
            have hB1 := hB0.trans (rS_no hS rfl hne (show k < en - i by omega))
            have hlt9 := (rsam_err (t := t) (w := w) (sz := sz) (ev := ev) (i := i + k) (way := rn t ap 2) (code := rn t (ap + 2) 4) (g := q1) hap1).1
            refine j_iinc C dX9_readBlock_67 0 rfl (nI (i + k + 1)) (nI_1 (i + k)) [(6, .int (nI (i + k + 1))), (5, .int (nI (rn t (ap + 2) 4))), (4, .int (nI (rn t ap 2))), (3, .int (nI ap)), (0, .ref m), (1, .int (nI i)), (2, .int (nI en))] (by decide) rfl 70 rfl ?_
            refine j_goto C dX9_readBlock_70 44 (by decide) ?_
            refine j_iload C dX9_readBlock_44 0 rfl 46 rfl ?_
            refine j_iload_n C dX9_readBlock_46 6 rfl 47 rfl ?_
            refine j_icmp_ge C dX9_readBlock_47 73 (by decide) (q_t (by omega)) (q_t (by omega)) 50 rfl (fun h47 => ?_) (fun h47 => ?_)
            · exact j_vret C dX9_readBlock_73 (ap2_64, rf1, (rsam t L w sz ev q1 ap1 (i + k) (rn t ap 2) (rn t (ap + 2) 4)).1, (rsam t L w sz ev q1 ap1 (i + k) (rn t ap 2) (rn t (ap + 2) 4)).2.1, i + k) (by rw [hB1]; exact ⟨rfl, rfl, hrq1, fun h => absurd h hne, fun _ => rfl⟩) rfl
            · refine j_aload_n C dX9_readBlock_50 4 rfl 51 rfl ?_
              refine j_get C dX9_readBlock_51 0 9 2 inX9_readBlock_9 rfl rfl (by decide) rfl rfl rfl 54 rfl ?_
              refine j_if_ne C dX9_readBlock_54 73 (by decide) (q_t (by omega)) 57 rfl (fun h54 => ?_) (fun h9 => by exfalso; omega)
              exact j_vret C dX9_readBlock_73 (ap2_64, rf1, (rsam t L w sz ev q1 ap1 (i + k) (rn t ap 2) (rn t (ap + 2) 4)).1, (rsam t L w sz ev q1 ap1 (i + k) (rn t ap 2) (rn t (ap + 2) 4)).2.1, i + k) (by rw [hB1]; exact ⟨rfl, rfl, hrq1, fun h => absurd h hne, fun _ => rfl⟩) rfl
      · refine j_aload_n C dX9_readBlock_35 3 rfl 36 rfl ?_
        refine j_iconst C dX9_readBlock_36 (nI 2) (by decide) 37 rfl ?_
        refine j_iload_n C dX9_readBlock_37 2 rfl 38 rfl ?_
        refine j_callVv1 (As := [.int (nI 2), .int (nI ap)]) (rest := []) (wr := [(sa, .inl (cI, 1072, .inl (stA w sz ev n g L t x y z))), (ra, .inl (cI, 64, .inl (aN rf)))]) C (c_X9_fail l D cI cZ cH m sa ia ka ra ba bm la ha ((ap + 2) + 4) 0 wa i 2 ap ) gX9_readBlock_X9_fail dX9_readBlock_38 rfl yd_X9_fail (Nat.le_of_ble_eq_true rfl) (Nat.le_of_ble_eq_true rfl) rfl rfl rfl _ rfl (Nat.le_of_ble_eq_true rfl) (Nat.zero_le _) (Nat.zero_le _) [0] [1, 2] rfl rfl rfl rfl rfl (by decide) [2, 0, 1] [(m, .inr (9, [.ref sa, .ref ia, .ref ka, .ref ra, .ref ba, .int (nI bm), .ref la, .ref ha, .int (nI ((ap + 2) + 4)), .int (nI 2), .int (nI ap), .int (nI i)])), (sa, .inl (cI, 1072, .inl (stA w sz ev n g L t x y z))), (ra, .inl (cI, 64, .inl (aN rf)))] rfl rfl rfl 41 rfl ?_
        refine j_iload_n C dX9_readBlock_41 4 rfl 42 rfl ?_
        refine j_istore C dX9_readBlock_42 [(6, .int (nI i)), (5, .int (nI (rn t (ap + 2) 4))), (4, .int (nI (rn t ap 2))), (3, .int (nI ap)), (0, .ref m), (1, .int (nI i)), (2, .int (nI en))] (by decide) rfl 44 rfl ?_
        refine j_iload C dX9_readBlock_44 0 rfl 46 rfl ?_
        refine j_iload_n C dX9_readBlock_46 6 rfl 47 rfl ?_
        refine j_icmp_ge C dX9_readBlock_47 73 (by decide) (q_t (by omega)) (q_t (by omega)) 50 rfl (fun h47 => ?_) (fun h47 => ?_)
        · exact j_vret C dX9_readBlock_73 ((ap + 2) + 4, rf, 2, ap, i) (by rw [show rblk t L w sz ev ap q i en = (2, ap, ap, q, i) from rblk_2 h14 (by rw [hhd.2.1]; exact h32)]; exact ⟨rfl, rfl, hrq, fun h => by simp at h, fun _ => rfl⟩) rfl
        · refine j_aload_n C dX9_readBlock_50 4 rfl 51 rfl ?_
          refine j_get C dX9_readBlock_51 0 9 2 inX9_readBlock_9 rfl rfl (by decide) rfl rfl rfl 54 rfl ?_
          refine j_if_ne C dX9_readBlock_54 73 (by decide) (q_t (n := 2) (Nat.le_of_ble_eq_true rfl)) 57 rfl (fun h54 => ?_) (fun h9 => by exfalso; omega)
          exact j_vret C dX9_readBlock_73 ((ap + 2) + 4, rf, 2, ap, i) (by rw [show rblk t L w sz ev ap q i en = (2, ap, ap, q, i) from rblk_2 h14 (by rw [hhd.2.1]; exact h32)]; exact ⟨rfl, rfl, hrq, fun h => by simp at h, fun _ => rfl⟩) rfl
