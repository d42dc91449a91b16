section LW
variable {p : Program} {l : Launch} {e : Env} {s : State} {m : MethodId} {below : List Frame} {meth : Method} {c : Code} {D : va_G} {cI cZ cH : ClassId} {b L : Nat} {xs : Nat → Int32} {ws : va_W} {lv : List (Nat × Value)} {pc : Nat} {rest : List Value}
theorem l_len (C : Cx RL wsL_law code 4 ret D cI cZ cH (fun q : Nat => s.heap.size ≤ q) p s m #[Value.ref b] meth c) (hX : va_X b L xs s s.heap) (hbl : b < s.heap.size) (hd : decode code pc = .ok (.arraylength, 1)) (n1 : Nat) (h1 : pc + 1 = n1) (kk : J D (fun q : Nat => s.heap.size ≤ q) p l e room_1 s m #[Value.ref b] below meth c 43 8951 (lw_Z below #[Value.ref b] s) 4 ws lv n1 (.int (nI L) :: rest)) : J D (fun q : Nat => s.heap.size ≤ q) p l e room_1 s m #[Value.ref b] below meth c 43 8951 (lw_Z below #[Value.ref b] s) 4 ws lv pc (.ref b :: rest) := fun H locs ls hP hD hS hl => va_slen C.1.1 C.1.2.1 hX hbl (Nat.not_le.mpr hbl) hS hd (by rw [h1]; exact kk H locs ls hP hD hS hl)
theorem l_ld (C : Cx RL wsL_law code 4 ret D cI cZ cH (fun q : Nat => s.heap.size ≤ q) p s m #[Value.ref b] meth c) (hX : va_X b L xs s s.heap) (hbl : b < s.heap.size) {i : Nat} (hi : i < L) (hL : L < 2 ^ 31) (hd : decode code pc = .ok (.iaload, 1)) (n1 : Nat) (h1 : pc + 1 = n1) (kk : J D (fun q : Nat => s.heap.size ≤ q) p l e room_1 s m #[Value.ref b] below meth c 43 8951 (lw_Z below #[Value.ref b] s) 4 ws lv n1 (.int (xs i) :: rest)) : J D (fun q : Nat => s.heap.size ≤ q) p l e room_1 s m #[Value.ref b] below meth c 43 8951 (lw_Z below #[Value.ref b] s) 4 ws lv pc (.int (nI i) :: .ref b :: rest) := fun H locs ls hP hD hS hl => va_sld C.1.1 C.1.2.1 hX hbl (Nat.not_le.mpr hbl) hS (vp_in_nI hi hL) hd (by rw [nI_clamp (Nat.lt_trans hi hL), h1]; exact kk H locs ls hP hD hS hl)
theorem l_ret (C : Cx RL wsL_law code 4 ret D cI cZ cH (fun q : Nat => s.heap.size ≤ q) p s m #[Value.ref b] meth c) (hd : decode code pc = .ok (.ireturn, 1)) : J D (fun q : Nat => s.heap.size ≤ q) p l e room_1 s m #[Value.ref b] below meth c 43 8951 (lw_Z below #[Value.ref b] s) 4 ws lv pc [.int (nI 1)] := fun H locs ls hP hD hS hl => va_forget (fun q hq => hS.2.2 q hq) (lw_ret C.1.1 C.1.2.1 C.1.2.2.1 C.2.2.2.2.2 hd)
end LW
set_option maxHeartbeats 4000000 in
set_option maxRecDepth 100000 in
theorem law_rule {p : Program} {l : Launch} {e : Env} {s : State} {m : MethodId} {below : List Frame} {meth : Method} {c : Code} {D : va_G} {cI cZ cH : ClassId} {b L : Nat} {xs : Nat → Int32} {ad am : Nat → Nat} (C : Cx RL wsL_law code 4 ret D cI cZ cH (fun q : Nat => s.heap.size ≤ q) p s m #[Value.ref b] meth c) (hX : va_X b L xs s s.heap) (hbl : b < s.heap.size) (hL : L ≤ 2048) (A : AT) (X : CS) (Y : MT) (hR : CRel A X) (hM : MRel A Y) (i : Nat) (hi : i + 4 ≤ L) (kk : ∀ (A1 : AT) (X1 : CS) (Y1 : MT), CRel A1 X1 → MRel A1 Y1 → J D (fun q : Nat => s.heap.size ≤ q) p l e room_1 s m #[Value.ref b] below meth c 43 8951 (lw_Z below #[Value.ref b] s) 4 (wC cI cH ad X1 ++ wM cI cZ am Y1) [(3, .int (nI i)), (2, .ref (am 0)), (1, .ref (ad 0)), (0, .ref b)] 601 []) : J D (fun q : Nat => s.heap.size ≤ q) p l e room_1 s m #[Value.ref b] below meth c 43 8951 (lw_Z below #[Value.ref b] s) 4 (wC cI cH ad X ++ wM cI cZ am Y) [(3, .int (nI i)), (2, .ref (am 0)), (1, .ref (ad 0)), (0, .ref b)] 124 [] := by
  have hL31 : L < 2 ^ 31 := by omega
  refine j_aload_n C dL_law_124 2 rfl 125 rfl ?_
  refine j_aload_n C dL_law_125 3 rfl 126 rfl ?_
  refine j_iload_n C dL_law_126 0 rfl 127 rfl ?_
  refine j_iconst C dL_law_127 (nI 1) (by decide) 128 rfl ?_
  refine j_iadd C dL_law_128 (nI (i + 1)) (nI_add i 1) 129 rfl ?_
  refine l_ld C hX hbl (by omega) hL31 dL_law_129 130 rfl ?_
  refine j_aload_n C dL_law_130 3 rfl 131 rfl ?_
  refine j_iload_n C dL_law_131 0 rfl 132 rfl ?_
  refine j_iconst C dL_law_132 (nI 2) (by decide) 133 rfl ?_
  refine j_iadd C dL_law_133 (nI (i + 2)) (nI_add i 2) 134 rfl ?_
  refine l_ld C hX hbl (by omega) hL31 dL_law_134 135 rfl ?_
  refine j_callVi (As := [.int (xs (i + 1)), .int (xs (i + 2))]) (rest := []) (wr := (wM cI cZ am Y)) C (k_X8_rule l D cI cZ cH ad A X hR (xs (i + 1)) (xs (i + 2))) gL_law_X8_rule dL_law_135 rfl yd_X8_rule (Nat.le_of_ble_eq_true rfl) (Nat.le_of_ble_eq_true rfl) rfl rfl rfl _ rfl (Nat.le_of_ble_eq_true rfl) (Nat.le_refl _) (Nat.le_refl _) [0, 1, 2, 3, 4, 5, 6, 7, 8, 9, 10, 11, 12, 13, 14, 15, 16, 17, 18, 19, 20, 21, 22, 23, 24, 25, 26, 27, 28, 29, 30, 31, 32, 33, 34] [35, 36, 37, 38, 39, 40, 41, 42] rfl rfl rfl rfl rfl (by decide) [8, 9, 10, 11, 12, 13, 14, 15, 16, 17, 18, 19, 20, 21, 22, 23, 24, 25, 26, 27, 28, 29, 30, 31, 32, 33, 34, 35, 36, 37, 38, 39, 40, 41, 42, 0, 1, 2, 3, 4, 5, 6, 7] (fun X9 => wC cI cH ad X9 ++ wM cI cZ am Y) (fun _ => rfl) (fun _ => rfl) rfl 138 rfl (fun r1 X1 h1 => ?_)
  refine j_aload_n C dL_law_138 1 rfl 139 rfl ?_
  refine j_aload_n C dL_law_139 3 rfl 140 rfl ?_
  refine j_iload_n C dL_law_140 0 rfl 141 rfl ?_
  refine j_iconst C dL_law_141 (nI 1) (by decide) 142 rfl ?_
  refine j_iadd C dL_law_142 (nI (i + 1)) (nI_add i 1) 143 rfl ?_
  refine l_ld C hX hbl (by omega) hL31 dL_law_143 144 rfl ?_
  refine j_aload_n C dL_law_144 3 rfl 145 rfl ?_
  refine j_iload_n C dL_law_145 0 rfl 146 rfl ?_
  refine j_iconst C dL_law_146 (nI 2) (by decide) 147 rfl ?_
  refine j_iadd C dL_law_147 (nI (i + 2)) (nI_add i 2) 148 rfl ?_
  refine l_ld C hX hbl (by omega) hL31 dL_law_148 149 rfl ?_
  refine j_callVi (As := [.int (xs (i + 1)), .int (xs (i + 2))]) (rest := [.int r1]) (wr := (wC cI cH ad X1)) C (k_X9_rule l D cI cZ cH am A Y hM (xs (i + 1)) (xs (i + 2))) gL_law_X9_rule dL_law_149 rfl yd_X9_rule (Nat.le_of_ble_eq_true rfl) (Nat.le_of_ble_eq_true rfl) rfl rfl rfl _ rfl (Nat.le_of_ble_eq_true rfl) (Nat.le_refl _) (Nat.le_refl _) [35, 36, 37, 38, 39, 40, 41, 42] [0, 1, 2, 3, 4, 5, 6, 7, 8, 9, 10, 11, 12, 13, 14, 15, 16, 17, 18, 19, 20, 21, 22, 23, 24, 25, 26, 27, 28, 29, 30, 31, 32, 33, 34] rfl rfl rfl rfl rfl (by decide) [0, 1, 2, 3, 4, 5, 6, 7, 8, 9, 10, 11, 12, 13, 14, 15, 16, 17, 18, 19, 20, 21, 22, 23, 24, 25, 26, 27, 28, 29, 30, 31, 32, 33, 34, 35, 36, 37, 38, 39, 40, 41, 42] (fun Y9 => wC cI cH ad X1 ++ wM cI cZ am Y9) (fun _ => rfl) (fun _ => rfl) rfl 152 rfl (fun r2 Y1 h2 => ?_)
  refine j_icmp_eq C dL_law_152 601 (by decide) rfl rfl 155 rfl (fun _ => ?_) (fun h9 => absurd (by rw [h1.1, h2.1]) h9)
  exact kk _ X1 Y1 h1.2 h2.2
set_option maxHeartbeats 4000000 in
set_option maxRecDepth 100000 in
theorem law_add {p : Program} {l : Launch} {e : Env} {s : State} {m : MethodId} {below : List Frame} {meth : Method} {c : Code} {D : va_G} {cI cZ cH : ClassId} {b L : Nat} {xs : Nat → Int32} {ad am : Nat → Nat} (C : Cx RL wsL_law code 4 ret D cI cZ cH (fun q : Nat => s.heap.size ≤ q) p s m #[Value.ref b] meth c) (hX : va_X b L xs s s.heap) (hbl : b < s.heap.size) (hL : L ≤ 2048) (A : AT) (X : CS) (Y : MT) (hR : CRel A X) (hM : MRel A Y) (i : Nat) (hi : i + 4 ≤ L) (kk : ∀ (A1 : AT) (X1 : CS) (Y1 : MT), CRel A1 X1 → MRel A1 Y1 → J D (fun q : Nat => s.heap.size ≤ q) p l e room_1 s m #[Value.ref b] below meth c 43 8951 (lw_Z below #[Value.ref b] s) 4 (wC cI cH ad X1 ++ wM cI cZ am Y1) [(3, .int (nI i)), (2, .ref (am 0)), (1, .ref (ad 0)), (0, .ref b)] 601 []) : J D (fun q : Nat => s.heap.size ≤ q) p l e room_1 s m #[Value.ref b] below meth c 43 8951 (lw_Z below #[Value.ref b] s) 4 (wC cI cH ad X ++ wM cI cZ am Y) [(3, .int (nI i)), (2, .ref (am 0)), (1, .ref (ad 0)), (0, .ref b)] 157 [] := by
  have hL31 : L < 2 ^ 31 := by omega
  refine j_aload_n C dL_law_157 2 rfl 158 rfl ?_
  refine j_aload_n C dL_law_158 3 rfl 159 rfl ?_
  refine j_iload_n C dL_law_159 0 rfl 160 rfl ?_
  refine j_iconst C dL_law_160 (nI 1) (by decide) 161 rfl ?_
  refine j_iadd C dL_law_161 (nI (i + 1)) (nI_add i 1) 162 rfl ?_
  refine l_ld C hX hbl (by omega) hL31 dL_law_162 163 rfl ?_
  refine j_callVi (As := [.int (xs (i + 1))]) (rest := []) (wr := (wM cI cZ am Y)) C (k_X8_add l D cI cZ cH ad A X hR (xs (i + 1))) gL_law_X8_add dL_law_163 rfl yd_X8_add (Nat.le_of_ble_eq_true rfl) (Nat.le_of_ble_eq_true rfl) rfl rfl rfl _ rfl (Nat.le_of_ble_eq_true rfl) (Nat.le_refl _) (Nat.le_refl _) [0, 1, 2, 3, 4, 5, 6, 7, 8, 9, 10, 11, 12, 13, 14, 15, 16, 17, 18, 19, 20, 21, 22, 23, 24, 25, 26, 27, 28, 29, 30, 31, 32, 33, 34] [35, 36, 37, 38, 39, 40, 41, 42] rfl rfl rfl rfl rfl (by decide) [8, 9, 10, 11, 12, 13, 14, 15, 16, 17, 18, 19, 20, 21, 22, 23, 24, 25, 26, 27, 28, 29, 30, 31, 32, 33, 34, 35, 36, 37, 38, 39, 40, 41, 42, 0, 1, 2, 3, 4, 5, 6, 7] (fun X9 => wC cI cH ad X9 ++ wM cI cZ am Y) (fun _ => rfl) (fun _ => rfl) rfl 166 rfl (fun r1 X1 h1 => ?_)
  refine j_aload_n C dL_law_166 1 rfl 167 rfl ?_
  refine j_aload_n C dL_law_167 3 rfl 168 rfl ?_
  refine j_iload_n C dL_law_168 0 rfl 169 rfl ?_
  refine j_iconst C dL_law_169 (nI 1) (by decide) 170 rfl ?_
  refine j_iadd C dL_law_170 (nI (i + 1)) (nI_add i 1) 171 rfl ?_
  refine l_ld C hX hbl (by omega) hL31 dL_law_171 172 rfl ?_
  refine j_callVi (As := [.int (xs (i + 1))]) (rest := [.int r1]) (wr := (wC cI cH ad X1)) C (k_X9_add l D cI cZ cH am A Y hM (xs (i + 1))) gL_law_X9_add dL_law_172 rfl yd_X9_add (Nat.le_of_ble_eq_true rfl) (Nat.le_of_ble_eq_true rfl) rfl rfl rfl _ rfl (Nat.le_of_ble_eq_true rfl) (Nat.le_refl _) (Nat.le_refl _) [35, 36, 37, 38, 39, 40, 41, 42] [0, 1, 2, 3, 4, 5, 6, 7, 8, 9, 10, 11, 12, 13, 14, 15, 16, 17, 18, 19, 20, 21, 22, 23, 24, 25, 26, 27, 28, 29, 30, 31, 32, 33, 34] rfl rfl rfl rfl rfl (by decide) [0, 1, 2, 3, 4, 5, 6, 7, 8, 9, 10, 11, 12, 13, 14, 15, 16, 17, 18, 19, 20, 21, 22, 23, 24, 25, 26, 27, 28, 29, 30, 31, 32, 33, 34, 35, 36, 37, 38, 39, 40, 41, 42] (fun Y9 => wC cI cH ad X1 ++ wM cI cZ am Y9) (fun _ => rfl) (fun _ => rfl) rfl 175 rfl (fun r2 Y1 h2 => ?_)
  refine j_icmp_eq C dL_law_175 601 (by decide) rfl rfl 178 rfl (fun _ => ?_) (fun h9 => absurd (by rw [h1.1, h2.1]) h9)
  exact kk _ X1 Y1 h1.2 h2.2
set_option maxHeartbeats 4000000 in
set_option maxRecDepth 100000 in
theorem law_clear {p : Program} {l : Launch} {e : Env} {s : State} {m : MethodId} {below : List Frame} {meth : Method} {c : Code} {D : va_G} {cI cZ cH : ClassId} {b L : Nat} {xs : Nat → Int32} {ad am : Nat → Nat} (C : Cx RL wsL_law code 4 ret D cI cZ cH (fun q : Nat => s.heap.size ≤ q) p s m #[Value.ref b] meth c) (hX : va_X b L xs s s.heap) (hbl : b < s.heap.size) (hL : L ≤ 2048) (A : AT) (X : CS) (Y : MT) (hR : CRel A X) (hM : MRel A Y) (i : Nat) (hi : i + 4 ≤ L) (kk : ∀ (A1 : AT) (X1 : CS) (Y1 : MT), CRel A1 X1 → MRel A1 Y1 → J D (fun q : Nat => s.heap.size ≤ q) p l e room_1 s m #[Value.ref b] below meth c 43 8951 (lw_Z below #[Value.ref b] s) 4 (wC cI cH ad X1 ++ wM cI cZ am Y1) [(3, .int (nI i)), (2, .ref (am 0)), (1, .ref (ad 0)), (0, .ref b)] 601 []) : J D (fun q : Nat => s.heap.size ≤ q) p l e room_1 s m #[Value.ref b] below meth c 43 8951 (lw_Z below #[Value.ref b] s) 4 (wC cI cH ad X ++ wM cI cZ am Y) [(3, .int (nI i)), (2, .ref (am 0)), (1, .ref (ad 0)), (0, .ref b)] 180 [] := by
  have hL31 : L < 2 ^ 31 := by omega
  refine j_aload_n C dL_law_180 2 rfl 181 rfl ?_
  refine j_callVi (As := []) (rest := []) (wr := (wM cI cZ am Y)) C (k_X8_clear l D cI cZ cH ad A X hR ) gL_law_X8_clear dL_law_181 rfl yd_X8_clear (Nat.le_of_ble_eq_true rfl) (Nat.le_of_ble_eq_true rfl) rfl rfl rfl _ rfl (Nat.le_of_ble_eq_true rfl) (Nat.le_refl _) (Nat.le_refl _) [0, 1, 2, 3, 4, 5, 6, 7, 8, 9, 10, 11, 12, 13, 14, 15, 16, 17, 18, 19, 20, 21, 22, 23, 24, 25, 26, 27, 28, 29, 30, 31, 32, 33, 34] [35, 36, 37, 38, 39, 40, 41, 42] rfl rfl rfl rfl rfl (by decide) [8, 9, 10, 11, 12, 13, 14, 15, 16, 17, 18, 19, 20, 21, 22, 23, 24, 25, 26, 27, 28, 29, 30, 31, 32, 33, 34, 35, 36, 37, 38, 39, 40, 41, 42, 0, 1, 2, 3, 4, 5, 6, 7] (fun X9 => wC cI cH ad X9 ++ wM cI cZ am Y) (fun _ => rfl) (fun _ => rfl) rfl 184 rfl (fun r1 X1 h1 => ?_)
  refine j_aload_n C dL_law_184 1 rfl 185 rfl ?_
  refine j_callVi (As := []) (rest := [.int r1]) (wr := (wC cI cH ad X1)) C (k_X9_clear l D cI cZ cH am A Y hM ) gL_law_X9_clear dL_law_185 rfl yd_X9_clear (Nat.le_of_ble_eq_true rfl) (Nat.le_of_ble_eq_true rfl) rfl rfl rfl _ rfl (Nat.le_of_ble_eq_true rfl) (Nat.le_refl _) (Nat.le_refl _) [35, 36, 37, 38, 39, 40, 41, 42] [0, 1, 2, 3, 4, 5, 6, 7, 8, 9, 10, 11, 12, 13, 14, 15, 16, 17, 18, 19, 20, 21, 22, 23, 24, 25, 26, 27, 28, 29, 30, 31, 32, 33, 34] rfl rfl rfl rfl rfl (by decide) [0, 1, 2, 3, 4, 5, 6, 7, 8, 9, 10, 11, 12, 13, 14, 15, 16, 17, 18, 19, 20, 21, 22, 23, 24, 25, 26, 27, 28, 29, 30, 31, 32, 33, 34, 35, 36, 37, 38, 39, 40, 41, 42] (fun Y9 => wC cI cH ad X1 ++ wM cI cZ am Y9) (fun _ => rfl) (fun _ => rfl) rfl 188 rfl (fun r2 Y1 h2 => ?_)
  refine j_icmp_eq C dL_law_188 601 (by decide) rfl rfl 191 rfl (fun _ => ?_) (fun h9 => absurd (by rw [h1.1, h2.1]) h9)
  exact kk _ X1 Y1 h1.2 h2.2
set_option maxHeartbeats 4000000 in
set_option maxRecDepth 100000 in
theorem law_sample {p : Program} {l : Launch} {e : Env} {s : State} {m : MethodId} {below : List Frame} {meth : Method} {c : Code} {D : va_G} {cI cZ cH : ClassId} {b L : Nat} {xs : Nat → Int32} {ad am : Nat → Nat} (C : Cx RL wsL_law code 4 ret D cI cZ cH (fun q : Nat => s.heap.size ≤ q) p s m #[Value.ref b] meth c) (hX : va_X b L xs s s.heap) (hbl : b < s.heap.size) (hL : L ≤ 2048) (A : AT) (X : CS) (Y : MT) (hR : CRel A X) (hM : MRel A Y) (i : Nat) (hi : i + 4 ≤ L) (kk : ∀ (A1 : AT) (X1 : CS) (Y1 : MT), CRel A1 X1 → MRel A1 Y1 → J D (fun q : Nat => s.heap.size ≤ q) p l e room_1 s m #[Value.ref b] below meth c 43 8951 (lw_Z below #[Value.ref b] s) 4 (wC cI cH ad X1 ++ wM cI cZ am Y1) [(3, .int (nI i)), (2, .ref (am 0)), (1, .ref (ad 0)), (0, .ref b)] 601 []) : J D (fun q : Nat => s.heap.size ≤ q) p l e room_1 s m #[Value.ref b] below meth c 43 8951 (lw_Z below #[Value.ref b] s) 4 (wC cI cH ad X ++ wM cI cZ am Y) [(3, .int (nI i)), (2, .ref (am 0)), (1, .ref (ad 0)), (0, .ref b)] 193 [] := by
  have hL31 : L < 2 ^ 31 := by omega
  refine j_aload_n C dL_law_193 2 rfl 194 rfl ?_
  refine j_aload_n C dL_law_194 3 rfl 195 rfl ?_
  refine j_iload_n C dL_law_195 0 rfl 196 rfl ?_
  refine j_iconst C dL_law_196 (nI 1) (by decide) 197 rfl ?_
  refine j_iadd C dL_law_197 (nI (i + 1)) (nI_add i 1) 198 rfl ?_
  refine l_ld C hX hbl (by omega) hL31 dL_law_198 199 rfl ?_
  refine j_callVi (As := [.int (xs (i + 1))]) (rest := []) (wr := (wM cI cZ am Y)) C (k_X8_sample l D cI cZ cH ad A X hR (xs (i + 1))) gL_law_X8_sample dL_law_199 rfl yd_X8_sample (Nat.le_of_ble_eq_true rfl) (Nat.le_of_ble_eq_true rfl) rfl rfl rfl _ rfl (Nat.le_of_ble_eq_true rfl) (Nat.le_refl _) (Nat.le_refl _) [0, 1, 2, 3, 4, 5, 6, 7, 8, 9, 10, 11, 12, 13, 14, 15, 16, 17, 18, 19, 20, 21, 22, 23, 24, 25, 26, 27, 28, 29, 30, 31, 32, 33, 34] [35, 36, 37, 38, 39, 40, 41, 42] rfl rfl rfl rfl rfl (by decide) [8, 9, 10, 11, 12, 13, 14, 15, 16, 17, 18, 19, 20, 21, 22, 23, 24, 25, 26, 27, 28, 29, 30, 31, 32, 33, 34, 35, 36, 37, 38, 39, 40, 41, 42, 0, 1, 2, 3, 4, 5, 6, 7] (fun X9 => wC cI cH ad X9 ++ wM cI cZ am Y) (fun _ => rfl) (fun _ => rfl) rfl 202 rfl (fun r1 X1 h1 => ?_)
  refine j_aload_n C dL_law_202 1 rfl 203 rfl ?_
  refine j_aload_n C dL_law_203 3 rfl 204 rfl ?_
  refine j_iload_n C dL_law_204 0 rfl 205 rfl ?_
  refine j_iconst C dL_law_205 (nI 1) (by decide) 206 rfl ?_
  refine j_iadd C dL_law_206 (nI (i + 1)) (nI_add i 1) 207 rfl ?_
  refine l_ld C hX hbl (by omega) hL31 dL_law_207 208 rfl ?_
  refine j_callVi (As := [.int (xs (i + 1))]) (rest := [.int r1]) (wr := (wC cI cH ad X1)) C (k_X9_sample l D cI cZ cH am A Y hM (xs (i + 1))) gL_law_X9_sample dL_law_208 rfl yd_X9_sample (Nat.le_of_ble_eq_true rfl) (Nat.le_of_ble_eq_true rfl) rfl rfl rfl _ rfl (Nat.le_of_ble_eq_true rfl) (Nat.le_refl _) (Nat.le_refl _) [35, 36, 37, 38, 39, 40, 41, 42] [0, 1, 2, 3, 4, 5, 6, 7, 8, 9, 10, 11, 12, 13, 14, 15, 16, 17, 18, 19, 20, 21, 22, 23, 24, 25, 26, 27, 28, 29, 30, 31, 32, 33, 34] rfl rfl rfl rfl rfl (by decide) [0, 1, 2, 3, 4, 5, 6, 7, 8, 9, 10, 11, 12, 13, 14, 15, 16, 17, 18, 19, 20, 21, 22, 23, 24, 25, 26, 27, 28, 29, 30, 31, 32, 33, 34, 35, 36, 37, 38, 39, 40, 41, 42] (fun Y9 => wC cI cH ad X1 ++ wM cI cZ am Y9) (fun _ => rfl) (fun _ => rfl) rfl 211 rfl (fun r2 Y1 h2 => ?_)
  refine j_icmp_eq C dL_law_211 601 (by decide) rfl rfl 214 rfl (fun _ => ?_) (fun h9 => absurd (by rw [h1.1, h2.1]) h9)
  exact kk _ X1 Y1 h1.2 h2.2
set_option maxHeartbeats 4000000 in
set_option maxRecDepth 100000 in
theorem law_ahead {p : Program} {l : Launch} {e : Env} {s : State} {m : MethodId} {below : List Frame} {meth : Method} {c : Code} {D : va_G} {cI cZ cH : ClassId} {b L : Nat} {xs : Nat → Int32} {ad am : Nat → Nat} (C : Cx RL wsL_law code 4 ret D cI cZ cH (fun q : Nat => s.heap.size ≤ q) p s m #[Value.ref b] meth c) (hX : va_X b L xs s s.heap) (hbl : b < s.heap.size) (hL : L ≤ 2048) (A : AT) (X : CS) (Y : MT) (hR : CRel A X) (hM : MRel A Y) (i : Nat) (hi : i + 4 ≤ L) (kk : ∀ (A1 : AT) (X1 : CS) (Y1 : MT), CRel A1 X1 → MRel A1 Y1 → J D (fun q : Nat => s.heap.size ≤ q) p l e room_1 s m #[Value.ref b] below meth c 43 8951 (lw_Z below #[Value.ref b] s) 4 (wC cI cH ad X1 ++ wM cI cZ am Y1) [(3, .int (nI i)), (2, .ref (am 0)), (1, .ref (ad 0)), (0, .ref b)] 601 []) : J D (fun q : Nat => s.heap.size ≤ q) p l e room_1 s m #[Value.ref b] below meth c 43 8951 (lw_Z below #[Value.ref b] s) 4 (wC cI cH ad X ++ wM cI cZ am Y) [(3, .int (nI i)), (2, .ref (am 0)), (1, .ref (ad 0)), (0, .ref b)] 216 [] := by
  have hL31 : L < 2 ^ 31 := by omega
  refine j_aload_n C dL_law_216 2 rfl 217 rfl ?_
  refine j_aload_n C dL_law_217 3 rfl 218 rfl ?_
  refine j_iload_n C dL_law_218 0 rfl 219 rfl ?_
  refine j_iconst C dL_law_219 (nI 1) (by decide) 220 rfl ?_
  refine j_iadd C dL_law_220 (nI (i + 1)) (nI_add i 1) 221 rfl ?_
  refine l_ld C hX hbl (by omega) hL31 dL_law_221 222 rfl ?_
  refine j_aload_n C dL_law_222 3 rfl 223 rfl ?_
  refine j_iload_n C dL_law_223 0 rfl 224 rfl ?_
  refine j_iconst C dL_law_224 (nI 2) (by decide) 225 rfl ?_
  refine j_iadd C dL_law_225 (nI (i + 2)) (nI_add i 2) 226 rfl ?_
  refine l_ld C hX hbl (by omega) hL31 dL_law_226 227 rfl ?_
  refine j_aload_n C dL_law_227 3 rfl 228 rfl ?_
  refine j_iload_n C dL_law_228 0 rfl 229 rfl ?_
  refine j_iconst C dL_law_229 (nI 3) (by decide) 230 rfl ?_
  refine j_iadd C dL_law_230 (nI (i + 3)) (nI_add i 3) 231 rfl ?_
  refine l_ld C hX hbl (by omega) hL31 dL_law_231 232 rfl ?_
  refine j_callVi (As := [.int (xs (i + 1)), .int (xs (i + 2)), .int (xs (i + 3))]) (rest := []) (wr := (wM cI cZ am Y)) C (k_X8_ahead l D cI cZ cH ad A X hR (xs (i + 1)) (xs (i + 2)) (xs (i + 3))) gL_law_X8_ahead dL_law_232 rfl yd_X8_ahead (Nat.le_of_ble_eq_true rfl) (Nat.le_of_ble_eq_true rfl) rfl rfl rfl _ rfl (Nat.le_of_ble_eq_true rfl) (Nat.le_refl _) (Nat.le_refl _) [0, 1, 2, 3, 4, 5, 6, 7, 8, 9, 10, 11, 12, 13, 14, 15, 16, 17, 18, 19, 20, 21, 22, 23, 24, 25, 26, 27, 28, 29, 30, 31, 32, 33, 34] [35, 36, 37, 38, 39, 40, 41, 42] rfl rfl rfl rfl rfl (by decide) [8, 9, 10, 11, 12, 13, 14, 15, 16, 17, 18, 19, 20, 21, 22, 23, 24, 25, 26, 27, 28, 29, 30, 31, 32, 33, 34, 35, 36, 37, 38, 39, 40, 41, 42, 0, 1, 2, 3, 4, 5, 6, 7] (fun X9 => wC cI cH ad X9 ++ wM cI cZ am Y) (fun _ => rfl) (fun _ => rfl) rfl 235 rfl (fun r1 X1 h1 => ?_)
  refine j_aload_n C dL_law_235 1 rfl 236 rfl ?_
  refine j_aload_n C dL_law_236 3 rfl 237 rfl ?_
  refine j_iload_n C dL_law_237 0 rfl 238 rfl ?_
  refine j_iconst C dL_law_238 (nI 1) (by decide) 239 rfl ?_
  refine j_iadd C dL_law_239 (nI (i + 1)) (nI_add i 1) 240 rfl ?_
  refine l_ld C hX hbl (by omega) hL31 dL_law_240 241 rfl ?_
  refine j_aload_n C dL_law_241 3 rfl 242 rfl ?_
  refine j_iload_n C dL_law_242 0 rfl 243 rfl ?_
  refine j_iconst C dL_law_243 (nI 2) (by decide) 244 rfl ?_
  refine j_iadd C dL_law_244 (nI (i + 2)) (nI_add i 2) 245 rfl ?_
  refine l_ld C hX hbl (by omega) hL31 dL_law_245 246 rfl ?_
  refine j_aload_n C dL_law_246 3 rfl 247 rfl ?_
  refine j_iload_n C dL_law_247 0 rfl 248 rfl ?_
  refine j_iconst C dL_law_248 (nI 3) (by decide) 249 rfl ?_
  refine j_iadd C dL_law_249 (nI (i + 3)) (nI_add i 3) 250 rfl ?_
  refine l_ld C hX hbl (by omega) hL31 dL_law_250 251 rfl ?_
  refine j_callVi (As := [.int (xs (i + 1)), .int (xs (i + 2)), .int (xs (i + 3))]) (rest := [.int r1]) (wr := (wC cI cH ad X1)) C (k_X9_ahead l D cI cZ cH am A Y hM (xs (i + 1)) (xs (i + 2)) (xs (i + 3))) gL_law_X9_ahead dL_law_251 rfl yd_X9_ahead (Nat.le_of_ble_eq_true rfl) (Nat.le_of_ble_eq_true rfl) rfl rfl rfl _ rfl (Nat.le_of_ble_eq_true rfl) (Nat.le_refl _) (Nat.le_refl _) [35, 36, 37, 38, 39, 40, 41, 42] [0, 1, 2, 3, 4, 5, 6, 7, 8, 9, 10, 11, 12, 13, 14, 15, 16, 17, 18, 19, 20, 21, 22, 23, 24, 25, 26, 27, 28, 29, 30, 31, 32, 33, 34] rfl rfl rfl rfl rfl (by decide) [0, 1, 2, 3, 4, 5, 6, 7, 8, 9, 10, 11, 12, 13, 14, 15, 16, 17, 18, 19, 20, 21, 22, 23, 24, 25, 26, 27, 28, 29, 30, 31, 32, 33, 34, 35, 36, 37, 38, 39, 40, 41, 42] (fun Y9 => wC cI cH ad X1 ++ wM cI cZ am Y9) (fun _ => rfl) (fun _ => rfl) rfl 254 rfl (fun r2 Y1 h2 => ?_)
  refine j_icmp_eq C dL_law_254 601 (by decide) rfl rfl 257 rfl (fun _ => ?_) (fun h9 => absurd (by rw [h1.1, h2.1]) h9)
  exact kk _ X1 Y1 h1.2 h2.2
set_option maxHeartbeats 4000000 in
set_option maxRecDepth 100000 in
theorem law_cost {p : Program} {l : Launch} {e : Env} {s : State} {m : MethodId} {below : List Frame} {meth : Method} {c : Code} {D : va_G} {cI cZ cH : ClassId} {b L : Nat} {xs : Nat → Int32} {ad am : Nat → Nat} (C : Cx RL wsL_law code 4 ret D cI cZ cH (fun q : Nat => s.heap.size ≤ q) p s m #[Value.ref b] meth c) (hX : va_X b L xs s s.heap) (hbl : b < s.heap.size) (hL : L ≤ 2048) (A : AT) (X : CS) (Y : MT) (hR : CRel A X) (hM : MRel A Y) (i : Nat) (hi : i + 4 ≤ L) (kk : ∀ (A1 : AT) (X1 : CS) (Y1 : MT), CRel A1 X1 → MRel A1 Y1 → J D (fun q : Nat => s.heap.size ≤ q) p l e room_1 s m #[Value.ref b] below meth c 43 8951 (lw_Z below #[Value.ref b] s) 4 (wC cI cH ad X1 ++ wM cI cZ am Y1) [(3, .int (nI i)), (2, .ref (am 0)), (1, .ref (ad 0)), (0, .ref b)] 601 []) : J D (fun q : Nat => s.heap.size ≤ q) p l e room_1 s m #[Value.ref b] below meth c 43 8951 (lw_Z below #[Value.ref b] s) 4 (wC cI cH ad X ++ wM cI cZ am Y) [(3, .int (nI i)), (2, .ref (am 0)), (1, .ref (ad 0)), (0, .ref b)] 259 [] := by
  have hL31 : L < 2 ^ 31 := by omega
  refine j_aload_n C dL_law_259 2 rfl 260 rfl ?_
  refine j_aload_n C dL_law_260 3 rfl 261 rfl ?_
  refine j_iload_n C dL_law_261 0 rfl 262 rfl ?_
  refine j_iconst C dL_law_262 (nI 1) (by decide) 263 rfl ?_
  refine j_iadd C dL_law_263 (nI (i + 1)) (nI_add i 1) 264 rfl ?_
  refine l_ld C hX hbl (by omega) hL31 dL_law_264 265 rfl ?_
  refine j_aload_n C dL_law_265 3 rfl 266 rfl ?_
  refine j_iload_n C dL_law_266 0 rfl 267 rfl ?_
  refine j_iconst C dL_law_267 (nI 2) (by decide) 268 rfl ?_
  refine j_iadd C dL_law_268 (nI (i + 2)) (nI_add i 2) 269 rfl ?_
  refine l_ld C hX hbl (by omega) hL31 dL_law_269 270 rfl ?_
  refine j_aload_n C dL_law_270 3 rfl 271 rfl ?_
  refine j_iload_n C dL_law_271 0 rfl 272 rfl ?_
  refine j_iconst C dL_law_272 (nI 3) (by decide) 273 rfl ?_
  refine j_iadd C dL_law_273 (nI (i + 3)) (nI_add i 3) 274 rfl ?_
  refine l_ld C hX hbl (by omega) hL31 dL_law_274 275 rfl ?_
  refine j_callVi (As := [.int (xs (i + 1)), .int (xs (i + 2)), .int (xs (i + 3))]) (rest := []) (wr := (wM cI cZ am Y)) C (k_X8_cost l D cI cZ cH ad A X hR (xs (i + 1)) (xs (i + 2)) (xs (i + 3))) gL_law_X8_cost dL_law_275 rfl yd_X8_cost (Nat.le_of_ble_eq_true rfl) (Nat.le_of_ble_eq_true rfl) rfl rfl rfl _ rfl (Nat.le_of_ble_eq_true rfl) (Nat.le_refl _) (Nat.le_refl _) [0, 1, 2, 3, 4, 5, 6, 7, 8, 9, 10, 11, 12, 13, 14, 15, 16, 17, 18, 19, 20, 21, 22, 23, 24, 25, 26, 27, 28, 29, 30, 31, 32, 33, 34] [35, 36, 37, 38, 39, 40, 41, 42] rfl rfl rfl rfl rfl (by decide) [8, 9, 10, 11, 12, 13, 14, 15, 16, 17, 18, 19, 20, 21, 22, 23, 24, 25, 26, 27, 28, 29, 30, 31, 32, 33, 34, 35, 36, 37, 38, 39, 40, 41, 42, 0, 1, 2, 3, 4, 5, 6, 7] (fun X9 => wC cI cH ad X9 ++ wM cI cZ am Y) (fun _ => rfl) (fun _ => rfl) rfl 278 rfl (fun r1 X1 h1 => ?_)
  refine j_aload_n C dL_law_278 1 rfl 279 rfl ?_
  refine j_aload_n C dL_law_279 3 rfl 280 rfl ?_
  refine j_iload_n C dL_law_280 0 rfl 281 rfl ?_
  refine j_iconst C dL_law_281 (nI 1) (by decide) 282 rfl ?_
  refine j_iadd C dL_law_282 (nI (i + 1)) (nI_add i 1) 283 rfl ?_
  refine l_ld C hX hbl (by omega) hL31 dL_law_283 284 rfl ?_
  refine j_aload_n C dL_law_284 3 rfl 285 rfl ?_
  refine j_iload_n C dL_law_285 0 rfl 286 rfl ?_
  refine j_iconst C dL_law_286 (nI 2) (by decide) 287 rfl ?_
  refine j_iadd C dL_law_287 (nI (i + 2)) (nI_add i 2) 288 rfl ?_
  refine l_ld C hX hbl (by omega) hL31 dL_law_288 289 rfl ?_
  refine j_aload_n C dL_law_289 3 rfl 290 rfl ?_
  refine j_iload_n C dL_law_290 0 rfl 291 rfl ?_
  refine j_iconst C dL_law_291 (nI 3) (by decide) 292 rfl ?_
  refine j_iadd C dL_law_292 (nI (i + 3)) (nI_add i 3) 293 rfl ?_
  refine l_ld C hX hbl (by omega) hL31 dL_law_293 294 rfl ?_
  refine j_callVi (As := [.int (xs (i + 1)), .int (xs (i + 2)), .int (xs (i + 3))]) (rest := [.int r1]) (wr := (wC cI cH ad X1)) C (k_X9_cost l D cI cZ cH am A Y hM (xs (i + 1)) (xs (i + 2)) (xs (i + 3))) gL_law_X9_cost dL_law_294 rfl yd_X9_cost (Nat.le_of_ble_eq_true rfl) (Nat.le_of_ble_eq_true rfl) rfl rfl rfl _ rfl (Nat.le_of_ble_eq_true rfl) (Nat.le_refl _) (Nat.le_refl _) [35, 36, 37, 38, 39, 40, 41, 42] [0, 1, 2, 3, 4, 5, 6, 7, 8, 9, 10, 11, 12, 13, 14, 15, 16, 17, 18, 19, 20, 21, 22, 23, 24, 25, 26, 27, 28, 29, 30, 31, 32, 33, 34] rfl rfl rfl rfl rfl (by decide) [0, 1, 2, 3, 4, 5, 6, 7, 8, 9, 10, 11, 12, 13, 14, 15, 16, 17, 18, 19, 20, 21, 22, 23, 24, 25, 26, 27, 28, 29, 30, 31, 32, 33, 34, 35, 36, 37, 38, 39, 40, 41, 42] (fun Y9 => wC cI cH ad X1 ++ wM cI cZ am Y9) (fun _ => rfl) (fun _ => rfl) rfl 297 rfl (fun r2 Y1 h2 => ?_)
  refine j_icmp_eq C dL_law_297 601 (by decide) rfl rfl 300 rfl (fun _ => ?_) (fun h9 => absurd (by rw [h1.1, h2.1]) h9)
  exact kk _ X1 Y1 h1.2 h2.2
set_option maxHeartbeats 4000000 in
set_option maxRecDepth 100000 in
theorem law_block {p : Program} {l : Launch} {e : Env} {s : State} {m : MethodId} {below : List Frame} {meth : Method} {c : Code} {D : va_G} {cI cZ cH : ClassId} {b L : Nat} {xs : Nat → Int32} {ad am : Nat → Nat} (C : Cx RL wsL_law code 4 ret D cI cZ cH (fun q : Nat => s.heap.size ≤ q) p s m #[Value.ref b] meth c) (hX : va_X b L xs s s.heap) (hbl : b < s.heap.size) (hL : L ≤ 2048) (A : AT) (X : CS) (Y : MT) (hR : CRel A X) (hM : MRel A Y) (i : Nat) (hi : i + 4 ≤ L) (kk : ∀ (A1 : AT) (X1 : CS) (Y1 : MT), CRel A1 X1 → MRel A1 Y1 → J D (fun q : Nat => s.heap.size ≤ q) p l e room_1 s m #[Value.ref b] below meth c 43 8951 (lw_Z below #[Value.ref b] s) 4 (wC cI cH ad X1 ++ wM cI cZ am Y1) [(3, .int (nI i)), (2, .ref (am 0)), (1, .ref (ad 0)), (0, .ref b)] 601 []) : J D (fun q : Nat => s.heap.size ≤ q) p l e room_1 s m #[Value.ref b] below meth c 43 8951 (lw_Z below #[Value.ref b] s) 4 (wC cI cH ad X ++ wM cI cZ am Y) [(3, .int (nI i)), (2, .ref (am 0)), (1, .ref (ad 0)), (0, .ref b)] 302 [] := by
  have hL31 : L < 2 ^ 31 := by omega
  refine j_aload_n C dL_law_302 2 rfl 303 rfl ?_
  refine j_aload_n C dL_law_303 3 rfl 304 rfl ?_
  refine j_iload_n C dL_law_304 0 rfl 305 rfl ?_
  refine j_iconst C dL_law_305 (nI 1) (by decide) 306 rfl ?_
  refine j_iadd C dL_law_306 (nI (i + 1)) (nI_add i 1) 307 rfl ?_
  refine l_ld C hX hbl (by omega) hL31 dL_law_307 308 rfl ?_
  refine j_aload_n C dL_law_308 3 rfl 309 rfl ?_
  refine j_iload_n C dL_law_309 0 rfl 310 rfl ?_
  refine j_iconst C dL_law_310 (nI 2) (by decide) 311 rfl ?_
  refine j_iadd C dL_law_311 (nI (i + 2)) (nI_add i 2) 312 rfl ?_
  refine l_ld C hX hbl (by omega) hL31 dL_law_312 313 rfl ?_
  refine j_callVi (As := [.int (xs (i + 1)), .int (xs (i + 2))]) (rest := []) (wr := (wM cI cZ am Y)) C (k_X8_block l D cI cZ cH ad A X hR (xs (i + 1)) (xs (i + 2))) gL_law_X8_block dL_law_313 rfl yd_X8_block (Nat.le_of_ble_eq_true rfl) (Nat.le_of_ble_eq_true rfl) rfl rfl rfl _ rfl (Nat.le_of_ble_eq_true rfl) (Nat.le_refl _) (Nat.le_refl _) [0, 1, 2, 3, 4, 5, 6, 7, 8, 9, 10, 11, 12, 13, 14, 15, 16, 17, 18, 19, 20, 21, 22, 23, 24, 25, 26, 27, 28, 29, 30, 31, 32, 33, 34] [35, 36, 37, 38, 39, 40, 41, 42] rfl rfl rfl rfl rfl (by decide) [8, 9, 10, 11, 12, 13, 14, 15, 16, 17, 18, 19, 20, 21, 22, 23, 24, 25, 26, 27, 28, 29, 30, 31, 32, 33, 34, 35, 36, 37, 38, 39, 40, 41, 42, 0, 1, 2, 3, 4, 5, 6, 7] (fun X9 => wC cI cH ad X9 ++ wM cI cZ am Y) (fun _ => rfl) (fun _ => rfl) rfl 316 rfl (fun r1 X1 h1 => ?_)
  refine j_aload_n C dL_law_316 1 rfl 317 rfl ?_
  refine j_aload_n C dL_law_317 3 rfl 318 rfl ?_
  refine j_iload_n C dL_law_318 0 rfl 319 rfl ?_
  refine j_iconst C dL_law_319 (nI 1) (by decide) 320 rfl ?_
  refine j_iadd C dL_law_320 (nI (i + 1)) (nI_add i 1) 321 rfl ?_
  refine l_ld C hX hbl (by omega) hL31 dL_law_321 322 rfl ?_
  refine j_aload_n C dL_law_322 3 rfl 323 rfl ?_
  refine j_iload_n C dL_law_323 0 rfl 324 rfl ?_
  refine j_iconst C dL_law_324 (nI 2) (by decide) 325 rfl ?_
  refine j_iadd C dL_law_325 (nI (i + 2)) (nI_add i 2) 326 rfl ?_
  refine l_ld C hX hbl (by omega) hL31 dL_law_326 327 rfl ?_
  refine j_callVi (As := [.int (xs (i + 1)), .int (xs (i + 2))]) (rest := [.int r1]) (wr := (wC cI cH ad X1)) C (k_X9_block l D cI cZ cH am A Y hM (xs (i + 1)) (xs (i + 2))) gL_law_X9_block dL_law_327 rfl yd_X9_block (Nat.le_of_ble_eq_true rfl) (Nat.le_of_ble_eq_true rfl) rfl rfl rfl _ rfl (Nat.le_of_ble_eq_true rfl) (Nat.le_refl _) (Nat.le_refl _) [35, 36, 37, 38, 39, 40, 41, 42] [0, 1, 2, 3, 4, 5, 6, 7, 8, 9, 10, 11, 12, 13, 14, 15, 16, 17, 18, 19, 20, 21, 22, 23, 24, 25, 26, 27, 28, 29, 30, 31, 32, 33, 34] rfl rfl rfl rfl rfl (by decide) [0, 1, 2, 3, 4, 5, 6, 7, 8, 9, 10, 11, 12, 13, 14, 15, 16, 17, 18, 19, 20, 21, 22, 23, 24, 25, 26, 27, 28, 29, 30, 31, 32, 33, 34, 35, 36, 37, 38, 39, 40, 41, 42] (fun Y9 => wC cI cH ad X1 ++ wM cI cZ am Y9) (fun _ => rfl) (fun _ => rfl) rfl 330 rfl (fun r2 Y1 h2 => ?_)
  refine j_icmp_eq C dL_law_330 601 (by decide) rfl rfl 333 rfl (fun _ => ?_) (fun h9 => absurd (by rw [h1.1, h2.1]) h9)
  exact kk _ X1 Y1 h1.2 h2.2
set_option maxHeartbeats 4000000 in
set_option maxRecDepth 100000 in
theorem law_packed {p : Program} {l : Launch} {e : Env} {s : State} {m : MethodId} {below : List Frame} {meth : Method} {c : Code} {D : va_G} {cI cZ cH : ClassId} {b L : Nat} {xs : Nat → Int32} {ad am : Nat → Nat} (C : Cx RL wsL_law code 4 ret D cI cZ cH (fun q : Nat => s.heap.size ≤ q) p s m #[Value.ref b] meth c) (hX : va_X b L xs s s.heap) (hbl : b < s.heap.size) (hL : L ≤ 2048) (A : AT) (X : CS) (Y : MT) (hR : CRel A X) (hM : MRel A Y) (i : Nat) (hi : i + 4 ≤ L) (kk : ∀ (A1 : AT) (X1 : CS) (Y1 : MT), CRel A1 X1 → MRel A1 Y1 → J D (fun q : Nat => s.heap.size ≤ q) p l e room_1 s m #[Value.ref b] below meth c 43 8951 (lw_Z below #[Value.ref b] s) 4 (wC cI cH ad X1 ++ wM cI cZ am Y1) [(3, .int (nI i)), (2, .ref (am 0)), (1, .ref (ad 0)), (0, .ref b)] 601 []) : J D (fun q : Nat => s.heap.size ≤ q) p l e room_1 s m #[Value.ref b] below meth c 43 8951 (lw_Z below #[Value.ref b] s) 4 (wC cI cH ad X ++ wM cI cZ am Y) [(3, .int (nI i)), (2, .ref (am 0)), (1, .ref (ad 0)), (0, .ref b)] 335 [] := by
  have hL31 : L < 2 ^ 31 := by omega
  refine j_aload_n C dL_law_335 2 rfl 336 rfl ?_
  refine j_aload_n C dL_law_336 3 rfl 337 rfl ?_
  refine j_iload_n C dL_law_337 0 rfl 338 rfl ?_
  refine j_iconst C dL_law_338 (nI 1) (by decide) 339 rfl ?_
  refine j_iadd C dL_law_339 (nI (i + 1)) (nI_add i 1) 340 rfl ?_
  refine l_ld C hX hbl (by omega) hL31 dL_law_340 341 rfl ?_
  refine j_callVi (As := [.int (xs (i + 1))]) (rest := []) (wr := (wM cI cZ am Y)) C (k_X8_packed l D cI cZ cH ad A X hR (xs (i + 1))) gL_law_X8_packed dL_law_341 rfl yd_X8_packed (Nat.le_of_ble_eq_true rfl) (Nat.le_of_ble_eq_true rfl) rfl rfl rfl _ rfl (Nat.le_of_ble_eq_true rfl) (Nat.le_refl _) (Nat.le_refl _) [0, 1, 2, 3, 4, 5, 6, 7, 8, 9, 10, 11, 12, 13, 14, 15, 16, 17, 18, 19, 20, 21, 22, 23, 24, 25, 26, 27, 28, 29, 30, 31, 32, 33, 34] [35, 36, 37, 38, 39, 40, 41, 42] rfl rfl rfl rfl rfl (by decide) [8, 9, 10, 11, 12, 13, 14, 15, 16, 17, 18, 19, 20, 21, 22, 23, 24, 25, 26, 27, 28, 29, 30, 31, 32, 33, 34, 35, 36, 37, 38, 39, 40, 41, 42, 0, 1, 2, 3, 4, 5, 6, 7] (fun X9 => wC cI cH ad X9 ++ wM cI cZ am Y) (fun _ => rfl) (fun _ => rfl) rfl 344 rfl (fun r1 X1 h1 => ?_)
  refine j_aload_n C dL_law_344 1 rfl 345 rfl ?_
  refine j_aload_n C dL_law_345 3 rfl 346 rfl ?_
  refine j_iload_n C dL_law_346 0 rfl 347 rfl ?_
  refine j_iconst C dL_law_347 (nI 1) (by decide) 348 rfl ?_
  refine j_iadd C dL_law_348 (nI (i + 1)) (nI_add i 1) 349 rfl ?_
  refine l_ld C hX hbl (by omega) hL31 dL_law_349 350 rfl ?_
  refine j_callVi (As := [.int (xs (i + 1))]) (rest := [.int r1]) (wr := (wC cI cH ad X1)) C (k_X9_packed l D cI cZ cH am A Y hM (xs (i + 1))) gL_law_X9_packed dL_law_350 rfl yd_X9_packed (Nat.le_of_ble_eq_true rfl) (Nat.le_of_ble_eq_true rfl) rfl rfl rfl _ rfl (Nat.le_of_ble_eq_true rfl) (Nat.le_refl _) (Nat.le_refl _) [35, 36, 37, 38, 39, 40, 41, 42] [0, 1, 2, 3, 4, 5, 6, 7, 8, 9, 10, 11, 12, 13, 14, 15, 16, 17, 18, 19, 20, 21, 22, 23, 24, 25, 26, 27, 28, 29, 30, 31, 32, 33, 34] rfl rfl rfl rfl rfl (by decide) [0, 1, 2, 3, 4, 5, 6, 7, 8, 9, 10, 11, 12, 13, 14, 15, 16, 17, 18, 19, 20, 21, 22, 23, 24, 25, 26, 27, 28, 29, 30, 31, 32, 33, 34, 35, 36, 37, 38, 39, 40, 41, 42] (fun Y9 => wC cI cH ad X1 ++ wM cI cZ am Y9) (fun _ => rfl) (fun _ => rfl) rfl 353 rfl (fun r2 Y1 h2 => ?_)
  refine j_icmp_eq C dL_law_353 601 (by decide) rfl rfl 356 rfl (fun _ => ?_) (fun h9 => absurd (by rw [h1.1, h2.1]) h9)
  exact kk _ X1 Y1 h1.2 h2.2
set_option maxHeartbeats 4000000 in
set_option maxRecDepth 100000 in
theorem law_lost {p : Program} {l : Launch} {e : Env} {s : State} {m : MethodId} {below : List Frame} {meth : Method} {c : Code} {D : va_G} {cI cZ cH : ClassId} {b L : Nat} {xs : Nat → Int32} {ad am : Nat → Nat} (C : Cx RL wsL_law code 4 ret D cI cZ cH (fun q : Nat => s.heap.size ≤ q) p s m #[Value.ref b] meth c) (hX : va_X b L xs s s.heap) (hbl : b < s.heap.size) (hL : L ≤ 2048) (A : AT) (X : CS) (Y : MT) (hR : CRel A X) (hM : MRel A Y) (i : Nat) (hi : i + 4 ≤ L) (kk : ∀ (A1 : AT) (X1 : CS) (Y1 : MT), CRel A1 X1 → MRel A1 Y1 → J D (fun q : Nat => s.heap.size ≤ q) p l e room_1 s m #[Value.ref b] below meth c 43 8951 (lw_Z below #[Value.ref b] s) 4 (wC cI cH ad X1 ++ wM cI cZ am Y1) [(3, .int (nI i)), (2, .ref (am 0)), (1, .ref (ad 0)), (0, .ref b)] 601 []) : J D (fun q : Nat => s.heap.size ≤ q) p l e room_1 s m #[Value.ref b] below meth c 43 8951 (lw_Z below #[Value.ref b] s) 4 (wC cI cH ad X ++ wM cI cZ am Y) [(3, .int (nI i)), (2, .ref (am 0)), (1, .ref (ad 0)), (0, .ref b)] 358 [] := by
  have hL31 : L < 2 ^ 31 := by omega
  refine j_aload_n C dL_law_358 2 rfl 359 rfl ?_
  refine j_aload_n C dL_law_359 3 rfl 360 rfl ?_
  refine j_iload_n C dL_law_360 0 rfl 361 rfl ?_
  refine j_iconst C dL_law_361 (nI 1) (by decide) 362 rfl ?_
  refine j_iadd C dL_law_362 (nI (i + 1)) (nI_add i 1) 363 rfl ?_
  refine l_ld C hX hbl (by omega) hL31 dL_law_363 364 rfl ?_
  refine j_callVi (As := [.int (xs (i + 1))]) (rest := []) (wr := (wM cI cZ am Y)) C (k_X8_lost l D cI cZ cH ad A X hR (xs (i + 1))) gL_law_X8_lost dL_law_364 rfl yd_X8_lost (Nat.le_of_ble_eq_true rfl) (Nat.le_of_ble_eq_true rfl) rfl rfl rfl _ rfl (Nat.le_of_ble_eq_true rfl) (Nat.le_refl _) (Nat.le_refl _) [0, 1, 2, 3, 4, 5, 6, 7, 8, 9, 10, 11, 12, 13, 14, 15, 16, 17, 18, 19, 20, 21, 22, 23, 24, 25, 26, 27, 28, 29, 30, 31, 32, 33, 34] [35, 36, 37, 38, 39, 40, 41, 42] rfl rfl rfl rfl rfl (by decide) [8, 9, 10, 11, 12, 13, 14, 15, 16, 17, 18, 19, 20, 21, 22, 23, 24, 25, 26, 27, 28, 29, 30, 31, 32, 33, 34, 35, 36, 37, 38, 39, 40, 41, 42, 0, 1, 2, 3, 4, 5, 6, 7] (fun X9 => wC cI cH ad X9 ++ wM cI cZ am Y) (fun _ => rfl) (fun _ => rfl) rfl 367 rfl (fun r1 X1 h1 => ?_)
  refine j_aload_n C dL_law_367 1 rfl 368 rfl ?_
  refine j_aload_n C dL_law_368 3 rfl 369 rfl ?_
  refine j_iload_n C dL_law_369 0 rfl 370 rfl ?_
  refine j_iconst C dL_law_370 (nI 1) (by decide) 371 rfl ?_
  refine j_iadd C dL_law_371 (nI (i + 1)) (nI_add i 1) 372 rfl ?_
  refine l_ld C hX hbl (by omega) hL31 dL_law_372 373 rfl ?_
  refine j_callVi (As := [.int (xs (i + 1))]) (rest := [.int r1]) (wr := (wC cI cH ad X1)) C (k_X9_lost l D cI cZ cH am A Y hM (xs (i + 1))) gL_law_X9_lost dL_law_373 rfl yd_X9_lost (Nat.le_of_ble_eq_true rfl) (Nat.le_of_ble_eq_true rfl) rfl rfl rfl _ rfl (Nat.le_of_ble_eq_true rfl) (Nat.le_refl _) (Nat.le_refl _) [35, 36, 37, 38, 39, 40, 41, 42] [0, 1, 2, 3, 4, 5, 6, 7, 8, 9, 10, 11, 12, 13, 14, 15, 16, 17, 18, 19, 20, 21, 22, 23, 24, 25, 26, 27, 28, 29, 30, 31, 32, 33, 34] rfl rfl rfl rfl rfl (by decide) [0, 1, 2, 3, 4, 5, 6, 7, 8, 9, 10, 11, 12, 13, 14, 15, 16, 17, 18, 19, 20, 21, 22, 23, 24, 25, 26, 27, 28, 29, 30, 31, 32, 33, 34, 35, 36, 37, 38, 39, 40, 41, 42] (fun Y9 => wC cI cH ad X1 ++ wM cI cZ am Y9) (fun _ => rfl) (fun _ => rfl) rfl 376 rfl (fun r2 Y1 h2 => ?_)
  refine j_icmp_eq C dL_law_376 601 (by decide) rfl rfl 379 rfl (fun _ => ?_) (fun h9 => absurd (by rw [h1.1, h2.1]) h9)
  exact kk _ X1 Y1 h1.2 h2.2
set_option maxHeartbeats 4000000 in
set_option maxRecDepth 100000 in
theorem law_tape {p : Program} {l : Launch} {e : Env} {s : State} {m : MethodId} {below : List Frame} {meth : Method} {c : Code} {D : va_G} {cI cZ cH : ClassId} {b L : Nat} {xs : Nat → Int32} {ad am : Nat → Nat} (C : Cx RL wsL_law code 4 ret D cI cZ cH (fun q : Nat => s.heap.size ≤ q) p s m #[Value.ref b] meth c) (hX : va_X b L xs s s.heap) (hbl : b < s.heap.size) (hL : L ≤ 2048) (A : AT) (X : CS) (Y : MT) (hR : CRel A X) (hM : MRel A Y) (i : Nat) (hi : i + 4 ≤ L) (kk : ∀ (A1 : AT) (X1 : CS) (Y1 : MT), CRel A1 X1 → MRel A1 Y1 → J D (fun q : Nat => s.heap.size ≤ q) p l e room_1 s m #[Value.ref b] below meth c 43 8951 (lw_Z below #[Value.ref b] s) 4 (wC cI cH ad X1 ++ wM cI cZ am Y1) [(3, .int (nI i)), (2, .ref (am 0)), (1, .ref (ad 0)), (0, .ref b)] 601 []) : J D (fun q : Nat => s.heap.size ≤ q) p l e room_1 s m #[Value.ref b] below meth c 43 8951 (lw_Z below #[Value.ref b] s) 4 (wC cI cH ad X ++ wM cI cZ am Y) [(3, .int (nI i)), (2, .ref (am 0)), (1, .ref (ad 0)), (0, .ref b)] 381 [] := by
  have hL31 : L < 2 ^ 31 := by omega
  refine j_aload_n C dL_law_381 2 rfl 382 rfl ?_
  refine j_callVi (As := []) (rest := []) (wr := (wM cI cZ am Y)) C (k_X8_tape l D cI cZ cH ad A X hR ) gL_law_X8_tape dL_law_382 rfl yd_X8_tape (Nat.le_of_ble_eq_true rfl) (Nat.le_of_ble_eq_true rfl) rfl rfl rfl _ rfl (Nat.le_of_ble_eq_true rfl) (Nat.le_refl _) (Nat.le_refl _) [0, 1, 2, 3, 4, 5, 6, 7, 8, 9, 10, 11, 12, 13, 14, 15, 16, 17, 18, 19, 20, 21, 22, 23, 24, 25, 26, 27, 28, 29, 30, 31, 32, 33, 34] [35, 36, 37, 38, 39, 40, 41, 42] rfl rfl rfl rfl rfl (by decide) [8, 9, 10, 11, 12, 13, 14, 15, 16, 17, 18, 19, 20, 21, 22, 23, 24, 25, 26, 27, 28, 29, 30, 31, 32, 33, 34, 35, 36, 37, 38, 39, 40, 41, 42, 0, 1, 2, 3, 4, 5, 6, 7] (fun X9 => wC cI cH ad X9 ++ wM cI cZ am Y) (fun _ => rfl) (fun _ => rfl) rfl 385 rfl (fun r1 X1 h1 => ?_)
  refine j_aload_n C dL_law_385 1 rfl 386 rfl ?_
  refine j_callVi (As := []) (rest := [.int r1]) (wr := (wC cI cH ad X1)) C (k_X9_tape l D cI cZ cH am A Y hM ) gL_law_X9_tape dL_law_386 rfl yd_X9_tape (Nat.le_of_ble_eq_true rfl) (Nat.le_of_ble_eq_true rfl) rfl rfl rfl _ rfl (Nat.le_of_ble_eq_true rfl) (Nat.le_refl _) (Nat.le_refl _) [35, 36, 37, 38, 39, 40, 41, 42] [0, 1, 2, 3, 4, 5, 6, 7, 8, 9, 10, 11, 12, 13, 14, 15, 16, 17, 18, 19, 20, 21, 22, 23, 24, 25, 26, 27, 28, 29, 30, 31, 32, 33, 34] rfl rfl rfl rfl rfl (by decide) [0, 1, 2, 3, 4, 5, 6, 7, 8, 9, 10, 11, 12, 13, 14, 15, 16, 17, 18, 19, 20, 21, 22, 23, 24, 25, 26, 27, 28, 29, 30, 31, 32, 33, 34, 35, 36, 37, 38, 39, 40, 41, 42] (fun Y9 => wC cI cH ad X1 ++ wM cI cZ am Y9) (fun _ => rfl) (fun _ => rfl) rfl 389 rfl (fun r2 Y1 h2 => ?_)
  refine j_icmp_eq C dL_law_389 601 (by decide) rfl rfl 392 rfl (fun _ => ?_) (fun h9 => absurd (by rw [h1.1, h2.1]) h9)
  exact kk _ X1 Y1 h1.2 h2.2
set_option maxHeartbeats 4000000 in
set_option maxRecDepth 100000 in
theorem law_push {p : Program} {l : Launch} {e : Env} {s : State} {m : MethodId} {below : List Frame} {meth : Method} {c : Code} {D : va_G} {cI cZ cH : ClassId} {b L : Nat} {xs : Nat → Int32} {ad am : Nat → Nat} (C : Cx RL wsL_law code 4 ret D cI cZ cH (fun q : Nat => s.heap.size ≤ q) p s m #[Value.ref b] meth c) (hX : va_X b L xs s s.heap) (hbl : b < s.heap.size) (hL : L ≤ 2048) (A : AT) (X : CS) (Y : MT) (hR : CRel A X) (hM : MRel A Y) (i : Nat) (hi : i + 4 ≤ L) (kk : ∀ (A1 : AT) (X1 : CS) (Y1 : MT), CRel A1 X1 → MRel A1 Y1 → J D (fun q : Nat => s.heap.size ≤ q) p l e room_1 s m #[Value.ref b] below meth c 43 8951 (lw_Z below #[Value.ref b] s) 4 (wC cI cH ad X1 ++ wM cI cZ am Y1) [(3, .int (nI i)), (2, .ref (am 0)), (1, .ref (ad 0)), (0, .ref b)] 601 []) : J D (fun q : Nat => s.heap.size ≤ q) p l e room_1 s m #[Value.ref b] below meth c 43 8951 (lw_Z below #[Value.ref b] s) 4 (wC cI cH ad X ++ wM cI cZ am Y) [(3, .int (nI i)), (2, .ref (am 0)), (1, .ref (ad 0)), (0, .ref b)] 394 [] := by
  have hL31 : L < 2 ^ 31 := by omega
  refine j_aload_n C dL_law_394 2 rfl 395 rfl ?_
  refine j_aload_n C dL_law_395 3 rfl 396 rfl ?_
  refine j_iload_n C dL_law_396 0 rfl 397 rfl ?_
  refine j_iconst C dL_law_397 (nI 1) (by decide) 398 rfl ?_
  refine j_iadd C dL_law_398 (nI (i + 1)) (nI_add i 1) 399 rfl ?_
  refine l_ld C hX hbl (by omega) hL31 dL_law_399 400 rfl ?_
  refine j_callVi (As := [.int (xs (i + 1))]) (rest := []) (wr := (wM cI cZ am Y)) C (k_X8_push l D cI cZ cH ad A X hR (xs (i + 1))) gL_law_X8_push dL_law_400 rfl yd_X8_push (Nat.le_of_ble_eq_true rfl) (Nat.le_of_ble_eq_true rfl) rfl rfl rfl _ rfl (Nat.le_of_ble_eq_true rfl) (Nat.le_refl _) (Nat.le_refl _) [0, 1, 2, 3, 4, 5, 6, 7, 8, 9, 10, 11, 12, 13, 14, 15, 16, 17, 18, 19, 20, 21, 22, 23, 24, 25, 26, 27, 28, 29, 30, 31, 32, 33, 34] [35, 36, 37, 38, 39, 40, 41, 42] rfl rfl rfl rfl rfl (by decide) [8, 9, 10, 11, 12, 13, 14, 15, 16, 17, 18, 19, 20, 21, 22, 23, 24, 25, 26, 27, 28, 29, 30, 31, 32, 33, 34, 35, 36, 37, 38, 39, 40, 41, 42, 0, 1, 2, 3, 4, 5, 6, 7] (fun X9 => wC cI cH ad X9 ++ wM cI cZ am Y) (fun _ => rfl) (fun _ => rfl) rfl 403 rfl (fun r1 X1 h1 => ?_)
  refine j_aload_n C dL_law_403 1 rfl 404 rfl ?_
  refine j_aload_n C dL_law_404 3 rfl 405 rfl ?_
  refine j_iload_n C dL_law_405 0 rfl 406 rfl ?_
  refine j_iconst C dL_law_406 (nI 1) (by decide) 407 rfl ?_
  refine j_iadd C dL_law_407 (nI (i + 1)) (nI_add i 1) 408 rfl ?_
  refine l_ld C hX hbl (by omega) hL31 dL_law_408 409 rfl ?_
  refine j_callVi (As := [.int (xs (i + 1))]) (rest := [.int r1]) (wr := (wC cI cH ad X1)) C (k_X9_push l D cI cZ cH am A Y hM (xs (i + 1))) gL_law_X9_push dL_law_409 rfl yd_X9_push (Nat.le_of_ble_eq_true rfl) (Nat.le_of_ble_eq_true rfl) rfl rfl rfl _ rfl (Nat.le_of_ble_eq_true rfl) (Nat.le_refl _) (Nat.le_refl _) [35, 36, 37, 38, 39, 40, 41, 42] [0, 1, 2, 3, 4, 5, 6, 7, 8, 9, 10, 11, 12, 13, 14, 15, 16, 17, 18, 19, 20, 21, 22, 23, 24, 25, 26, 27, 28, 29, 30, 31, 32, 33, 34] rfl rfl rfl rfl rfl (by decide) [0, 1, 2, 3, 4, 5, 6, 7, 8, 9, 10, 11, 12, 13, 14, 15, 16, 17, 18, 19, 20, 21, 22, 23, 24, 25, 26, 27, 28, 29, 30, 31, 32, 33, 34, 35, 36, 37, 38, 39, 40, 41, 42] (fun Y9 => wC cI cH ad X1 ++ wM cI cZ am Y9) (fun _ => rfl) (fun _ => rfl) rfl 412 rfl (fun r2 Y1 h2 => ?_)
  refine j_icmp_eq C dL_law_412 601 (by decide) rfl rfl 415 rfl (fun _ => ?_) (fun h9 => absurd (by rw [h1.1, h2.1]) h9)
  exact kk _ X1 Y1 h1.2 h2.2
set_option maxHeartbeats 4000000 in
set_option maxRecDepth 100000 in
theorem law_flip {p : Program} {l : Launch} {e : Env} {s : State} {m : MethodId} {below : List Frame} {meth : Method} {c : Code} {D : va_G} {cI cZ cH : ClassId} {b L : Nat} {xs : Nat → Int32} {ad am : Nat → Nat} (C : Cx RL wsL_law code 4 ret D cI cZ cH (fun q : Nat => s.heap.size ≤ q) p s m #[Value.ref b] meth c) (hX : va_X b L xs s s.heap) (hbl : b < s.heap.size) (hL : L ≤ 2048) (A : AT) (X : CS) (Y : MT) (hR : CRel A X) (hM : MRel A Y) (i : Nat) (hi : i + 4 ≤ L) (kk : ∀ (A1 : AT) (X1 : CS) (Y1 : MT), CRel A1 X1 → MRel A1 Y1 → J D (fun q : Nat => s.heap.size ≤ q) p l e room_1 s m #[Value.ref b] below meth c 43 8951 (lw_Z below #[Value.ref b] s) 4 (wC cI cH ad X1 ++ wM cI cZ am Y1) [(3, .int (nI i)), (2, .ref (am 0)), (1, .ref (ad 0)), (0, .ref b)] 601 []) : J D (fun q : Nat => s.heap.size ≤ q) p l e room_1 s m #[Value.ref b] below meth c 43 8951 (lw_Z below #[Value.ref b] s) 4 (wC cI cH ad X ++ wM cI cZ am Y) [(3, .int (nI i)), (2, .ref (am 0)), (1, .ref (ad 0)), (0, .ref b)] 417 [] := by
  have hL31 : L < 2 ^ 31 := by omega
  refine j_aload_n C dL_law_417 2 rfl 418 rfl ?_
  refine j_aload_n C dL_law_418 3 rfl 419 rfl ?_
  refine j_iload_n C dL_law_419 0 rfl 420 rfl ?_
  refine j_iconst C dL_law_420 (nI 1) (by decide) 421 rfl ?_
  refine j_iadd C dL_law_421 (nI (i + 1)) (nI_add i 1) 422 rfl ?_
  refine l_ld C hX hbl (by omega) hL31 dL_law_422 423 rfl ?_
  refine j_callVi (As := [.int (xs (i + 1))]) (rest := []) (wr := (wM cI cZ am Y)) C (k_X8_flip l D cI cZ cH ad A X hR (xs (i + 1))) gL_law_X8_flip dL_law_423 rfl yd_X8_flip (Nat.le_of_ble_eq_true rfl) (Nat.le_of_ble_eq_true rfl) rfl rfl rfl _ rfl (Nat.le_of_ble_eq_true rfl) (Nat.le_refl _) (Nat.le_refl _) [0, 1, 2, 3, 4, 5, 6, 7, 8, 9, 10, 11, 12, 13, 14, 15, 16, 17, 18, 19, 20, 21, 22, 23, 24, 25, 26, 27, 28, 29, 30, 31, 32, 33, 34] [35, 36, 37, 38, 39, 40, 41, 42] rfl rfl rfl rfl rfl (by decide) [8, 9, 10, 11, 12, 13, 14, 15, 16, 17, 18, 19, 20, 21, 22, 23, 24, 25, 26, 27, 28, 29, 30, 31, 32, 33, 34, 35, 36, 37, 38, 39, 40, 41, 42, 0, 1, 2, 3, 4, 5, 6, 7] (fun X9 => wC cI cH ad X9 ++ wM cI cZ am Y) (fun _ => rfl) (fun _ => rfl) rfl 426 rfl (fun r1 X1 h1 => ?_)
  refine j_aload_n C dL_law_426 1 rfl 427 rfl ?_
  refine j_aload_n C dL_law_427 3 rfl 428 rfl ?_
  refine j_iload_n C dL_law_428 0 rfl 429 rfl ?_
  refine j_iconst C dL_law_429 (nI 1) (by decide) 430 rfl ?_
  refine j_iadd C dL_law_430 (nI (i + 1)) (nI_add i 1) 431 rfl ?_
  refine l_ld C hX hbl (by omega) hL31 dL_law_431 432 rfl ?_
  refine j_callVi (As := [.int (xs (i + 1))]) (rest := [.int r1]) (wr := (wC cI cH ad X1)) C (k_X9_flip l D cI cZ cH am A Y hM (xs (i + 1))) gL_law_X9_flip dL_law_432 rfl yd_X9_flip (Nat.le_of_ble_eq_true rfl) (Nat.le_of_ble_eq_true rfl) rfl rfl rfl _ rfl (Nat.le_of_ble_eq_true rfl) (Nat.le_refl _) (Nat.le_refl _) [35, 36, 37, 38, 39, 40, 41, 42] [0, 1, 2, 3, 4, 5, 6, 7, 8, 9, 10, 11, 12, 13, 14, 15, 16, 17, 18, 19, 20, 21, 22, 23, 24, 25, 26, 27, 28, 29, 30, 31, 32, 33, 34] rfl rfl rfl rfl rfl (by decide) [0, 1, 2, 3, 4, 5, 6, 7, 8, 9, 10, 11, 12, 13, 14, 15, 16, 17, 18, 19, 20, 21, 22, 23, 24, 25, 26, 27, 28, 29, 30, 31, 32, 33, 34, 35, 36, 37, 38, 39, 40, 41, 42] (fun Y9 => wC cI cH ad X1 ++ wM cI cZ am Y9) (fun _ => rfl) (fun _ => rfl) rfl 435 rfl (fun r2 Y1 h2 => ?_)
  refine j_icmp_eq C dL_law_435 601 (by decide) rfl rfl 438 rfl (fun _ => ?_) (fun h9 => absurd (by rw [h1.1, h2.1]) h9)
  exact kk _ X1 Y1 h1.2 h2.2
set_option maxHeartbeats 4000000 in
set_option maxRecDepth 100000 in
theorem law_cut {p : Program} {l : Launch} {e : Env} {s : State} {m : MethodId} {below : List Frame} {meth : Method} {c : Code} {D : va_G} {cI cZ cH : ClassId} {b L : Nat} {xs : Nat → Int32} {ad am : Nat → Nat} (C : Cx RL wsL_law code 4 ret D cI cZ cH (fun q : Nat => s.heap.size ≤ q) p s m #[Value.ref b] meth c) (hX : va_X b L xs s s.heap) (hbl : b < s.heap.size) (hL : L ≤ 2048) (A : AT) (X : CS) (Y : MT) (hR : CRel A X) (hM : MRel A Y) (i : Nat) (hi : i + 4 ≤ L) (kk : ∀ (A1 : AT) (X1 : CS) (Y1 : MT), CRel A1 X1 → MRel A1 Y1 → J D (fun q : Nat => s.heap.size ≤ q) p l e room_1 s m #[Value.ref b] below meth c 43 8951 (lw_Z below #[Value.ref b] s) 4 (wC cI cH ad X1 ++ wM cI cZ am Y1) [(3, .int (nI i)), (2, .ref (am 0)), (1, .ref (ad 0)), (0, .ref b)] 601 []) : J D (fun q : Nat => s.heap.size ≤ q) p l e room_1 s m #[Value.ref b] below meth c 43 8951 (lw_Z below #[Value.ref b] s) 4 (wC cI cH ad X ++ wM cI cZ am Y) [(3, .int (nI i)), (2, .ref (am 0)), (1, .ref (ad 0)), (0, .ref b)] 440 [] := by
  have hL31 : L < 2 ^ 31 := by omega
  refine j_aload_n C dL_law_440 2 rfl 441 rfl ?_
  refine j_aload_n C dL_law_441 3 rfl 442 rfl ?_
  refine j_iload_n C dL_law_442 0 rfl 443 rfl ?_
  refine j_iconst C dL_law_443 (nI 1) (by decide) 444 rfl ?_
  refine j_iadd C dL_law_444 (nI (i + 1)) (nI_add i 1) 445 rfl ?_
  refine l_ld C hX hbl (by omega) hL31 dL_law_445 446 rfl ?_
  refine j_callVi (As := [.int (xs (i + 1))]) (rest := []) (wr := (wM cI cZ am Y)) C (k_X8_cut l D cI cZ cH ad A X hR (xs (i + 1))) gL_law_X8_cut dL_law_446 rfl yd_X8_cut (Nat.le_of_ble_eq_true rfl) (Nat.le_of_ble_eq_true rfl) rfl rfl rfl _ rfl (Nat.le_of_ble_eq_true rfl) (Nat.le_refl _) (Nat.le_refl _) [0, 1, 2, 3, 4, 5, 6, 7, 8, 9, 10, 11, 12, 13, 14, 15, 16, 17, 18, 19, 20, 21, 22, 23, 24, 25, 26, 27, 28, 29, 30, 31, 32, 33, 34] [35, 36, 37, 38, 39, 40, 41, 42] rfl rfl rfl rfl rfl (by decide) [8, 9, 10, 11, 12, 13, 14, 15, 16, 17, 18, 19, 20, 21, 22, 23, 24, 25, 26, 27, 28, 29, 30, 31, 32, 33, 34, 35, 36, 37, 38, 39, 40, 41, 42, 0, 1, 2, 3, 4, 5, 6, 7] (fun X9 => wC cI cH ad X9 ++ wM cI cZ am Y) (fun _ => rfl) (fun _ => rfl) rfl 449 rfl (fun r1 X1 h1 => ?_)
  refine j_aload_n C dL_law_449 1 rfl 450 rfl ?_
  refine j_aload_n C dL_law_450 3 rfl 451 rfl ?_
  refine j_iload_n C dL_law_451 0 rfl 452 rfl ?_
  refine j_iconst C dL_law_452 (nI 1) (by decide) 453 rfl ?_
  refine j_iadd C dL_law_453 (nI (i + 1)) (nI_add i 1) 454 rfl ?_
  refine l_ld C hX hbl (by omega) hL31 dL_law_454 455 rfl ?_
  refine j_callVi (As := [.int (xs (i + 1))]) (rest := [.int r1]) (wr := (wC cI cH ad X1)) C (k_X9_cut l D cI cZ cH am A Y hM (xs (i + 1))) gL_law_X9_cut dL_law_455 rfl yd_X9_cut (Nat.le_of_ble_eq_true rfl) (Nat.le_of_ble_eq_true rfl) rfl rfl rfl _ rfl (Nat.le_of_ble_eq_true rfl) (Nat.le_refl _) (Nat.le_refl _) [35, 36, 37, 38, 39, 40, 41, 42] [0, 1, 2, 3, 4, 5, 6, 7, 8, 9, 10, 11, 12, 13, 14, 15, 16, 17, 18, 19, 20, 21, 22, 23, 24, 25, 26, 27, 28, 29, 30, 31, 32, 33, 34] rfl rfl rfl rfl rfl (by decide) [0, 1, 2, 3, 4, 5, 6, 7, 8, 9, 10, 11, 12, 13, 14, 15, 16, 17, 18, 19, 20, 21, 22, 23, 24, 25, 26, 27, 28, 29, 30, 31, 32, 33, 34, 35, 36, 37, 38, 39, 40, 41, 42] (fun Y9 => wC cI cH ad X1 ++ wM cI cZ am Y9) (fun _ => rfl) (fun _ => rfl) rfl 458 rfl (fun r2 Y1 h2 => ?_)
  refine j_icmp_eq C dL_law_458 601 (by decide) rfl rfl 461 rfl (fun _ => ?_) (fun h9 => absurd (by rw [h1.1, h2.1]) h9)
  exact kk _ X1 Y1 h1.2 h2.2
set_option maxHeartbeats 4000000 in
set_option maxRecDepth 100000 in
theorem law_bit {p : Program} {l : Launch} {e : Env} {s : State} {m : MethodId} {below : List Frame} {meth : Method} {c : Code} {D : va_G} {cI cZ cH : ClassId} {b L : Nat} {xs : Nat → Int32} {ad am : Nat → Nat} (C : Cx RL wsL_law code 4 ret D cI cZ cH (fun q : Nat => s.heap.size ≤ q) p s m #[Value.ref b] meth c) (hX : va_X b L xs s s.heap) (hbl : b < s.heap.size) (hL : L ≤ 2048) (A : AT) (X : CS) (Y : MT) (hR : CRel A X) (hM : MRel A Y) (i : Nat) (hi : i + 4 ≤ L) (kk : ∀ (A1 : AT) (X1 : CS) (Y1 : MT), CRel A1 X1 → MRel A1 Y1 → J D (fun q : Nat => s.heap.size ≤ q) p l e room_1 s m #[Value.ref b] below meth c 43 8951 (lw_Z below #[Value.ref b] s) 4 (wC cI cH ad X1 ++ wM cI cZ am Y1) [(3, .int (nI i)), (2, .ref (am 0)), (1, .ref (ad 0)), (0, .ref b)] 601 []) : J D (fun q : Nat => s.heap.size ≤ q) p l e room_1 s m #[Value.ref b] below meth c 43 8951 (lw_Z below #[Value.ref b] s) 4 (wC cI cH ad X ++ wM cI cZ am Y) [(3, .int (nI i)), (2, .ref (am 0)), (1, .ref (ad 0)), (0, .ref b)] 463 [] := by
  have hL31 : L < 2 ^ 31 := by omega
  refine j_aload_n C dL_law_463 2 rfl 464 rfl ?_
  refine j_aload_n C dL_law_464 3 rfl 465 rfl ?_
  refine j_iload_n C dL_law_465 0 rfl 466 rfl ?_
  refine j_iconst C dL_law_466 (nI 1) (by decide) 467 rfl ?_
  refine j_iadd C dL_law_467 (nI (i + 1)) (nI_add i 1) 468 rfl ?_
  refine l_ld C hX hbl (by omega) hL31 dL_law_468 469 rfl ?_
  refine j_callVi (As := [.int (xs (i + 1))]) (rest := []) (wr := (wM cI cZ am Y)) C (k_X8_bit l D cI cZ cH ad A X hR (xs (i + 1))) gL_law_X8_bit dL_law_469 rfl yd_X8_bit (Nat.le_of_ble_eq_true rfl) (Nat.le_of_ble_eq_true rfl) rfl rfl rfl _ rfl (Nat.le_of_ble_eq_true rfl) (Nat.le_refl _) (Nat.le_refl _) [0, 1, 2, 3, 4, 5, 6, 7, 8, 9, 10, 11, 12, 13, 14, 15, 16, 17, 18, 19, 20, 21, 22, 23, 24, 25, 26, 27, 28, 29, 30, 31, 32, 33, 34] [35, 36, 37, 38, 39, 40, 41, 42] rfl rfl rfl rfl rfl (by decide) [8, 9, 10, 11, 12, 13, 14, 15, 16, 17, 18, 19, 20, 21, 22, 23, 24, 25, 26, 27, 28, 29, 30, 31, 32, 33, 34, 35, 36, 37, 38, 39, 40, 41, 42, 0, 1, 2, 3, 4, 5, 6, 7] (fun X9 => wC cI cH ad X9 ++ wM cI cZ am Y) (fun _ => rfl) (fun _ => rfl) rfl 472 rfl (fun r1 X1 h1 => ?_)
  refine j_aload_n C dL_law_472 1 rfl 473 rfl ?_
  refine j_aload_n C dL_law_473 3 rfl 474 rfl ?_
  refine j_iload_n C dL_law_474 0 rfl 475 rfl ?_
  refine j_iconst C dL_law_475 (nI 1) (by decide) 476 rfl ?_
  refine j_iadd C dL_law_476 (nI (i + 1)) (nI_add i 1) 477 rfl ?_
  refine l_ld C hX hbl (by omega) hL31 dL_law_477 478 rfl ?_
  refine j_callVi (As := [.int (xs (i + 1))]) (rest := [.int r1]) (wr := (wC cI cH ad X1)) C (k_X9_bit l D cI cZ cH am A Y hM (xs (i + 1))) gL_law_X9_bit dL_law_478 rfl yd_X9_bit (Nat.le_of_ble_eq_true rfl) (Nat.le_of_ble_eq_true rfl) rfl rfl rfl _ rfl (Nat.le_of_ble_eq_true rfl) (Nat.le_refl _) (Nat.le_refl _) [35, 36, 37, 38, 39, 40, 41, 42] [0, 1, 2, 3, 4, 5, 6, 7, 8, 9, 10, 11, 12, 13, 14, 15, 16, 17, 18, 19, 20, 21, 22, 23, 24, 25, 26, 27, 28, 29, 30, 31, 32, 33, 34] rfl rfl rfl rfl rfl (by decide) [0, 1, 2, 3, 4, 5, 6, 7, 8, 9, 10, 11, 12, 13, 14, 15, 16, 17, 18, 19, 20, 21, 22, 23, 24, 25, 26, 27, 28, 29, 30, 31, 32, 33, 34, 35, 36, 37, 38, 39, 40, 41, 42] (fun Y9 => wC cI cH ad X1 ++ wM cI cZ am Y9) (fun _ => rfl) (fun _ => rfl) rfl 481 rfl (fun r2 Y1 h2 => ?_)
  refine j_icmp_eq C dL_law_481 601 (by decide) rfl rfl 484 rfl (fun _ => ?_) (fun h9 => absurd (by rw [h1.1, h2.1]) h9)
  exact kk _ X1 Y1 h1.2 h2.2
set_option maxHeartbeats 4000000 in
set_option maxRecDepth 100000 in
theorem law_read {p : Program} {l : Launch} {e : Env} {s : State} {m : MethodId} {below : List Frame} {meth : Method} {c : Code} {D : va_G} {cI cZ cH : ClassId} {b L : Nat} {xs : Nat → Int32} {ad am : Nat → Nat} (C : Cx RL wsL_law code 4 ret D cI cZ cH (fun q : Nat => s.heap.size ≤ q) p s m #[Value.ref b] meth c) (hX : va_X b L xs s s.heap) (hbl : b < s.heap.size) (hL : L ≤ 2048) (A : AT) (X : CS) (Y : MT) (hR : CRel A X) (hM : MRel A Y) (i : Nat) (hi : i + 4 ≤ L) (kk : ∀ (A1 : AT) (X1 : CS) (Y1 : MT), CRel A1 X1 → MRel A1 Y1 → J D (fun q : Nat => s.heap.size ≤ q) p l e room_1 s m #[Value.ref b] below meth c 43 8951 (lw_Z below #[Value.ref b] s) 4 (wC cI cH ad X1 ++ wM cI cZ am Y1) [(3, .int (nI i)), (2, .ref (am 0)), (1, .ref (ad 0)), (0, .ref b)] 601 []) : J D (fun q : Nat => s.heap.size ≤ q) p l e room_1 s m #[Value.ref b] below meth c 43 8951 (lw_Z below #[Value.ref b] s) 4 (wC cI cH ad X ++ wM cI cZ am Y) [(3, .int (nI i)), (2, .ref (am 0)), (1, .ref (ad 0)), (0, .ref b)] 486 [] := by
  have hL31 : L < 2 ^ 31 := by omega
  refine j_aload_n C dL_law_486 2 rfl 487 rfl ?_
  refine j_aload_n C dL_law_487 3 rfl 488 rfl ?_
  refine j_iload_n C dL_law_488 0 rfl 489 rfl ?_
  refine j_iconst C dL_law_489 (nI 1) (by decide) 490 rfl ?_
  refine j_iadd C dL_law_490 (nI (i + 1)) (nI_add i 1) 491 rfl ?_
  refine l_ld C hX hbl (by omega) hL31 dL_law_491 492 rfl ?_
  refine j_callVi (As := [.int (xs (i + 1))]) (rest := []) (wr := (wM cI cZ am Y)) C (k_X8_read l D cI cZ cH ad A X hR (xs (i + 1))) gL_law_X8_read dL_law_492 rfl yd_X8_read (Nat.le_of_ble_eq_true rfl) (Nat.le_of_ble_eq_true rfl) rfl rfl rfl _ rfl (Nat.le_of_ble_eq_true rfl) (Nat.le_refl _) (Nat.le_refl _) [0, 1, 2, 3, 4, 5, 6, 7, 8, 9, 10, 11, 12, 13, 14, 15, 16, 17, 18, 19, 20, 21, 22, 23, 24, 25, 26, 27, 28, 29, 30, 31, 32, 33, 34] [35, 36, 37, 38, 39, 40, 41, 42] rfl rfl rfl rfl rfl (by decide) [8, 9, 10, 11, 12, 13, 14, 15, 16, 17, 18, 19, 20, 21, 22, 23, 24, 25, 26, 27, 28, 29, 30, 31, 32, 33, 34, 35, 36, 37, 38, 39, 40, 41, 42, 0, 1, 2, 3, 4, 5, 6, 7] (fun X9 => wC cI cH ad X9 ++ wM cI cZ am Y) (fun _ => rfl) (fun _ => rfl) rfl 495 rfl (fun r1 X1 h1 => ?_)
  refine j_aload_n C dL_law_495 1 rfl 496 rfl ?_
  refine j_aload_n C dL_law_496 3 rfl 497 rfl ?_
  refine j_iload_n C dL_law_497 0 rfl 498 rfl ?_
  refine j_iconst C dL_law_498 (nI 1) (by decide) 499 rfl ?_
  refine j_iadd C dL_law_499 (nI (i + 1)) (nI_add i 1) 500 rfl ?_
  refine l_ld C hX hbl (by omega) hL31 dL_law_500 501 rfl ?_
  refine j_callVi (As := [.int (xs (i + 1))]) (rest := [.int r1]) (wr := (wC cI cH ad X1)) C (k_X9_read l D cI cZ cH am A Y hM (xs (i + 1))) gL_law_X9_read dL_law_501 rfl yd_X9_read (Nat.le_of_ble_eq_true rfl) (Nat.le_of_ble_eq_true rfl) rfl rfl rfl _ rfl (Nat.le_of_ble_eq_true rfl) (Nat.le_refl _) (Nat.le_refl _) [35, 36, 37, 38, 39, 40, 41, 42] [0, 1, 2, 3, 4, 5, 6, 7, 8, 9, 10, 11, 12, 13, 14, 15, 16, 17, 18, 19, 20, 21, 22, 23, 24, 25, 26, 27, 28, 29, 30, 31, 32, 33, 34] rfl rfl rfl rfl rfl (by decide) [0, 1, 2, 3, 4, 5, 6, 7, 8, 9, 10, 11, 12, 13, 14, 15, 16, 17, 18, 19, 20, 21, 22, 23, 24, 25, 26, 27, 28, 29, 30, 31, 32, 33, 34, 35, 36, 37, 38, 39, 40, 41, 42] (fun Y9 => wC cI cH ad X1 ++ wM cI cZ am Y9) (fun _ => rfl) (fun _ => rfl) rfl 504 rfl (fun r2 Y1 h2 => ?_)
  refine j_icmp_eq C dL_law_504 601 (by decide) rfl rfl 507 rfl (fun _ => ?_) (fun h9 => absurd (by rw [h1.1, h2.1]) h9)
  exact kk _ X1 Y1 h1.2 h2.2
set_option maxHeartbeats 4000000 in
set_option maxRecDepth 100000 in
theorem law_fault {p : Program} {l : Launch} {e : Env} {s : State} {m : MethodId} {below : List Frame} {meth : Method} {c : Code} {D : va_G} {cI cZ cH : ClassId} {b L : Nat} {xs : Nat → Int32} {ad am : Nat → Nat} (C : Cx RL wsL_law code 4 ret D cI cZ cH (fun q : Nat => s.heap.size ≤ q) p s m #[Value.ref b] meth c) (hX : va_X b L xs s s.heap) (hbl : b < s.heap.size) (hL : L ≤ 2048) (A : AT) (X : CS) (Y : MT) (hR : CRel A X) (hM : MRel A Y) (i : Nat) (hi : i + 4 ≤ L) (kk : ∀ (A1 : AT) (X1 : CS) (Y1 : MT), CRel A1 X1 → MRel A1 Y1 → J D (fun q : Nat => s.heap.size ≤ q) p l e room_1 s m #[Value.ref b] below meth c 43 8951 (lw_Z below #[Value.ref b] s) 4 (wC cI cH ad X1 ++ wM cI cZ am Y1) [(3, .int (nI i)), (2, .ref (am 0)), (1, .ref (ad 0)), (0, .ref b)] 601 []) : J D (fun q : Nat => s.heap.size ≤ q) p l e room_1 s m #[Value.ref b] below meth c 43 8951 (lw_Z below #[Value.ref b] s) 4 (wC cI cH ad X ++ wM cI cZ am Y) [(3, .int (nI i)), (2, .ref (am 0)), (1, .ref (ad 0)), (0, .ref b)] 509 [] := by
  have hL31 : L < 2 ^ 31 := by omega
  refine j_aload_n C dL_law_509 2 rfl 510 rfl ?_
  refine j_aload_n C dL_law_510 3 rfl 511 rfl ?_
  refine j_iload_n C dL_law_511 0 rfl 512 rfl ?_
  refine j_iconst C dL_law_512 (nI 1) (by decide) 513 rfl ?_
  refine j_iadd C dL_law_513 (nI (i + 1)) (nI_add i 1) 514 rfl ?_
  refine l_ld C hX hbl (by omega) hL31 dL_law_514 515 rfl ?_
  refine j_callVi (As := [.int (xs (i + 1))]) (rest := []) (wr := (wM cI cZ am Y)) C (k_X8_fault l D cI cZ cH ad A X hR (xs (i + 1))) gL_law_X8_fault dL_law_515 rfl yd_X8_fault (Nat.le_of_ble_eq_true rfl) (Nat.le_of_ble_eq_true rfl) rfl rfl rfl _ rfl (Nat.le_of_ble_eq_true rfl) (Nat.le_refl _) (Nat.le_refl _) [0, 1, 2, 3, 4, 5, 6, 7, 8, 9, 10, 11, 12, 13, 14, 15, 16, 17, 18, 19, 20, 21, 22, 23, 24, 25, 26, 27, 28, 29, 30, 31, 32, 33, 34] [35, 36, 37, 38, 39, 40, 41, 42] rfl rfl rfl rfl rfl (by decide) [8, 9, 10, 11, 12, 13, 14, 15, 16, 17, 18, 19, 20, 21, 22, 23, 24, 25, 26, 27, 28, 29, 30, 31, 32, 33, 34, 35, 36, 37, 38, 39, 40, 41, 42, 0, 1, 2, 3, 4, 5, 6, 7] (fun X9 => wC cI cH ad X9 ++ wM cI cZ am Y) (fun _ => rfl) (fun _ => rfl) rfl 518 rfl (fun r1 X1 h1 => ?_)
  refine j_aload_n C dL_law_518 1 rfl 519 rfl ?_
  refine j_aload_n C dL_law_519 3 rfl 520 rfl ?_
  refine j_iload_n C dL_law_520 0 rfl 521 rfl ?_
  refine j_iconst C dL_law_521 (nI 1) (by decide) 522 rfl ?_
  refine j_iadd C dL_law_522 (nI (i + 1)) (nI_add i 1) 523 rfl ?_
  refine l_ld C hX hbl (by omega) hL31 dL_law_523 524 rfl ?_
  refine j_callVi (As := [.int (xs (i + 1))]) (rest := [.int r1]) (wr := (wC cI cH ad X1)) C (k_X9_fault l D cI cZ cH am A Y hM (xs (i + 1))) gL_law_X9_fault dL_law_524 rfl yd_X9_fault (Nat.le_of_ble_eq_true rfl) (Nat.le_of_ble_eq_true rfl) rfl rfl rfl _ rfl (Nat.le_of_ble_eq_true rfl) (Nat.le_refl _) (Nat.le_refl _) [35, 36, 37, 38, 39, 40, 41, 42] [0, 1, 2, 3, 4, 5, 6, 7, 8, 9, 10, 11, 12, 13, 14, 15, 16, 17, 18, 19, 20, 21, 22, 23, 24, 25, 26, 27, 28, 29, 30, 31, 32, 33, 34] rfl rfl rfl rfl rfl (by decide) [0, 1, 2, 3, 4, 5, 6, 7, 8, 9, 10, 11, 12, 13, 14, 15, 16, 17, 18, 19, 20, 21, 22, 23, 24, 25, 26, 27, 28, 29, 30, 31, 32, 33, 34, 35, 36, 37, 38, 39, 40, 41, 42] (fun Y9 => wC cI cH ad X1 ++ wM cI cZ am Y9) (fun _ => rfl) (fun _ => rfl) rfl 527 rfl (fun r2 Y1 h2 => ?_)
  refine j_icmp_eq C dL_law_527 601 (by decide) rfl rfl 530 rfl (fun _ => ?_) (fun h9 => absurd (by rw [h1.1, h2.1]) h9)
  exact kk _ X1 Y1 h1.2 h2.2
set_option maxHeartbeats 4000000 in
set_option maxRecDepth 100000 in
theorem law_image {p : Program} {l : Launch} {e : Env} {s : State} {m : MethodId} {below : List Frame} {meth : Method} {c : Code} {D : va_G} {cI cZ cH : ClassId} {b L : Nat} {xs : Nat → Int32} {ad am : Nat → Nat} (C : Cx RL wsL_law code 4 ret D cI cZ cH (fun q : Nat => s.heap.size ≤ q) p s m #[Value.ref b] meth c) (hX : va_X b L xs s s.heap) (hbl : b < s.heap.size) (hL : L ≤ 2048) (A : AT) (X : CS) (Y : MT) (hR : CRel A X) (hM : MRel A Y) (i : Nat) (hi : i + 4 ≤ L) (kk : ∀ (A1 : AT) (X1 : CS) (Y1 : MT), CRel A1 X1 → MRel A1 Y1 → J D (fun q : Nat => s.heap.size ≤ q) p l e room_1 s m #[Value.ref b] below meth c 43 8951 (lw_Z below #[Value.ref b] s) 4 (wC cI cH ad X1 ++ wM cI cZ am Y1) [(3, .int (nI i)), (2, .ref (am 0)), (1, .ref (ad 0)), (0, .ref b)] 601 []) : J D (fun q : Nat => s.heap.size ≤ q) p l e room_1 s m #[Value.ref b] below meth c 43 8951 (lw_Z below #[Value.ref b] s) 4 (wC cI cH ad X ++ wM cI cZ am Y) [(3, .int (nI i)), (2, .ref (am 0)), (1, .ref (ad 0)), (0, .ref b)] 532 [] := by
  have hL31 : L < 2 ^ 31 := by omega
  refine j_aload_n C dL_law_532 2 rfl 533 rfl ?_
  refine j_aload_n C dL_law_533 3 rfl 534 rfl ?_
  refine j_iload_n C dL_law_534 0 rfl 535 rfl ?_
  refine j_iconst C dL_law_535 (nI 1) (by decide) 536 rfl ?_
  refine j_iadd C dL_law_536 (nI (i + 1)) (nI_add i 1) 537 rfl ?_
  refine l_ld C hX hbl (by omega) hL31 dL_law_537 538 rfl ?_
  refine j_callVi (As := [.int (xs (i + 1))]) (rest := []) (wr := (wM cI cZ am Y)) C (k_X8_image l D cI cZ cH ad A X hR (xs (i + 1))) gL_law_X8_image dL_law_538 rfl yd_X8_image (Nat.le_of_ble_eq_true rfl) (Nat.le_of_ble_eq_true rfl) rfl rfl rfl _ rfl (Nat.le_of_ble_eq_true rfl) (Nat.le_refl _) (Nat.le_refl _) [0, 1, 2, 3, 4, 5, 6, 7, 8, 9, 10, 11, 12, 13, 14, 15, 16, 17, 18, 19, 20, 21, 22, 23, 24, 25, 26, 27, 28, 29, 30, 31, 32, 33, 34] [35, 36, 37, 38, 39, 40, 41, 42] rfl rfl rfl rfl rfl (by decide) [8, 9, 10, 11, 12, 13, 14, 15, 16, 17, 18, 19, 20, 21, 22, 23, 24, 25, 26, 27, 28, 29, 30, 31, 32, 33, 34, 35, 36, 37, 38, 39, 40, 41, 42, 0, 1, 2, 3, 4, 5, 6, 7] (fun X9 => wC cI cH ad X9 ++ wM cI cZ am Y) (fun _ => rfl) (fun _ => rfl) rfl 541 rfl (fun r1 X1 h1 => ?_)
  refine j_aload_n C dL_law_541 1 rfl 542 rfl ?_
  refine j_aload_n C dL_law_542 3 rfl 543 rfl ?_
  refine j_iload_n C dL_law_543 0 rfl 544 rfl ?_
  refine j_iconst C dL_law_544 (nI 1) (by decide) 545 rfl ?_
  refine j_iadd C dL_law_545 (nI (i + 1)) (nI_add i 1) 546 rfl ?_
  refine l_ld C hX hbl (by omega) hL31 dL_law_546 547 rfl ?_
  refine j_callVi (As := [.int (xs (i + 1))]) (rest := [.int r1]) (wr := (wC cI cH ad X1)) C (k_X9_image l D cI cZ cH am A Y hM (xs (i + 1))) gL_law_X9_image dL_law_547 rfl yd_X9_image (Nat.le_of_ble_eq_true rfl) (Nat.le_of_ble_eq_true rfl) rfl rfl rfl _ rfl (Nat.le_of_ble_eq_true rfl) (Nat.le_refl _) (Nat.le_refl _) [35, 36, 37, 38, 39, 40, 41, 42] [0, 1, 2, 3, 4, 5, 6, 7, 8, 9, 10, 11, 12, 13, 14, 15, 16, 17, 18, 19, 20, 21, 22, 23, 24, 25, 26, 27, 28, 29, 30, 31, 32, 33, 34] rfl rfl rfl rfl rfl (by decide) [0, 1, 2, 3, 4, 5, 6, 7, 8, 9, 10, 11, 12, 13, 14, 15, 16, 17, 18, 19, 20, 21, 22, 23, 24, 25, 26, 27, 28, 29, 30, 31, 32, 33, 34, 35, 36, 37, 38, 39, 40, 41, 42] (fun Y9 => wC cI cH ad X1 ++ wM cI cZ am Y9) (fun _ => rfl) (fun _ => rfl) rfl 550 rfl (fun r2 Y1 h2 => ?_)
  refine j_icmp_eq C dL_law_550 601 (by decide) rfl rfl 553 rfl (fun _ => ?_) (fun h9 => absurd (by rw [h1.1, h2.1]) h9)
  exact kk _ X1 Y1 h1.2 h2.2
set_option maxHeartbeats 4000000 in
set_option maxRecDepth 100000 in
theorem law_restore {p : Program} {l : Launch} {e : Env} {s : State} {m : MethodId} {below : List Frame} {meth : Method} {c : Code} {D : va_G} {cI cZ cH : ClassId} {b L : Nat} {xs : Nat → Int32} {ad am : Nat → Nat} (C : Cx RL wsL_law code 4 ret D cI cZ cH (fun q : Nat => s.heap.size ≤ q) p s m #[Value.ref b] meth c) (hX : va_X b L xs s s.heap) (hbl : b < s.heap.size) (hL : L ≤ 2048) (A : AT) (X : CS) (Y : MT) (hR : CRel A X) (hM : MRel A Y) (i : Nat) (hi : i + 4 ≤ L) (kk : ∀ (A1 : AT) (X1 : CS) (Y1 : MT), CRel A1 X1 → MRel A1 Y1 → J D (fun q : Nat => s.heap.size ≤ q) p l e room_1 s m #[Value.ref b] below meth c 43 8951 (lw_Z below #[Value.ref b] s) 4 (wC cI cH ad X1 ++ wM cI cZ am Y1) [(3, .int (nI i)), (2, .ref (am 0)), (1, .ref (ad 0)), (0, .ref b)] 601 []) : J D (fun q : Nat => s.heap.size ≤ q) p l e room_1 s m #[Value.ref b] below meth c 43 8951 (lw_Z below #[Value.ref b] s) 4 (wC cI cH ad X ++ wM cI cZ am Y) [(3, .int (nI i)), (2, .ref (am 0)), (1, .ref (ad 0)), (0, .ref b)] 555 [] := by
  have hL31 : L < 2 ^ 31 := by omega
  refine j_aload_n C dL_law_555 2 rfl 556 rfl ?_
  refine j_aload_n C dL_law_556 3 rfl 557 rfl ?_
  refine j_iload_n C dL_law_557 0 rfl 558 rfl ?_
  refine j_iconst C dL_law_558 (nI 1) (by decide) 559 rfl ?_
  refine j_iadd C dL_law_559 (nI (i + 1)) (nI_add i 1) 560 rfl ?_
  refine l_ld C hX hbl (by omega) hL31 dL_law_560 561 rfl ?_
  refine j_callVi (As := [.int (xs (i + 1))]) (rest := []) (wr := (wM cI cZ am Y)) C (k_X8_restore l D cI cZ cH ad A X hR (xs (i + 1))) gL_law_X8_restore dL_law_561 rfl yd_X8_restore (Nat.le_of_ble_eq_true rfl) (Nat.le_of_ble_eq_true rfl) rfl rfl rfl _ rfl (Nat.le_of_ble_eq_true rfl) (Nat.le_refl _) (Nat.le_refl _) [0, 1, 2, 3, 4, 5, 6, 7, 8, 9, 10, 11, 12, 13, 14, 15, 16, 17, 18, 19, 20, 21, 22, 23, 24, 25, 26, 27, 28, 29, 30, 31, 32, 33, 34] [35, 36, 37, 38, 39, 40, 41, 42] rfl rfl rfl rfl rfl (by decide) [8, 9, 10, 11, 12, 13, 14, 15, 16, 17, 18, 19, 20, 21, 22, 23, 24, 25, 26, 27, 28, 29, 30, 31, 32, 33, 34, 35, 36, 37, 38, 39, 40, 41, 42, 0, 1, 2, 3, 4, 5, 6, 7] (fun X9 => wC cI cH ad X9 ++ wM cI cZ am Y) (fun _ => rfl) (fun _ => rfl) rfl 564 rfl (fun r1 X1 h1 => ?_)
  refine j_aload_n C dL_law_564 1 rfl 565 rfl ?_
  refine j_aload_n C dL_law_565 3 rfl 566 rfl ?_
  refine j_iload_n C dL_law_566 0 rfl 567 rfl ?_
  refine j_iconst C dL_law_567 (nI 1) (by decide) 568 rfl ?_
  refine j_iadd C dL_law_568 (nI (i + 1)) (nI_add i 1) 569 rfl ?_
  refine l_ld C hX hbl (by omega) hL31 dL_law_569 570 rfl ?_
  refine j_callVi (As := [.int (xs (i + 1))]) (rest := [.int r1]) (wr := (wC cI cH ad X1)) C (k_X9_restore l D cI cZ cH am A Y hM (xs (i + 1))) gL_law_X9_restore dL_law_570 rfl yd_X9_restore (Nat.le_of_ble_eq_true rfl) (Nat.le_of_ble_eq_true rfl) rfl rfl rfl _ rfl (Nat.le_of_ble_eq_true rfl) (Nat.le_refl _) (Nat.le_refl _) [35, 36, 37, 38, 39, 40, 41, 42] [0, 1, 2, 3, 4, 5, 6, 7, 8, 9, 10, 11, 12, 13, 14, 15, 16, 17, 18, 19, 20, 21, 22, 23, 24, 25, 26, 27, 28, 29, 30, 31, 32, 33, 34] rfl rfl rfl rfl rfl (by decide) [0, 1, 2, 3, 4, 5, 6, 7, 8, 9, 10, 11, 12, 13, 14, 15, 16, 17, 18, 19, 20, 21, 22, 23, 24, 25, 26, 27, 28, 29, 30, 31, 32, 33, 34, 35, 36, 37, 38, 39, 40, 41, 42] (fun Y9 => wC cI cH ad X1 ++ wM cI cZ am Y9) (fun _ => rfl) (fun _ => rfl) rfl 573 rfl (fun r2 Y1 h2 => ?_)
  refine j_icmp_eq C dL_law_573 601 (by decide) rfl rfl 576 rfl (fun _ => ?_) (fun h9 => absurd (by rw [h1.1, h2.1]) h9)
  exact kk _ X1 Y1 h1.2 h2.2
set_option maxHeartbeats 4000000 in
set_option maxRecDepth 100000 in
theorem law_count {p : Program} {l : Launch} {e : Env} {s : State} {m : MethodId} {below : List Frame} {meth : Method} {c : Code} {D : va_G} {cI cZ cH : ClassId} {b L : Nat} {xs : Nat → Int32} {ad am : Nat → Nat} (C : Cx RL wsL_law code 4 ret D cI cZ cH (fun q : Nat => s.heap.size ≤ q) p s m #[Value.ref b] meth c) (hX : va_X b L xs s s.heap) (hbl : b < s.heap.size) (hL : L ≤ 2048) (A : AT) (X : CS) (Y : MT) (hR : CRel A X) (hM : MRel A Y) (i : Nat) (hi : i + 4 ≤ L) (kk : ∀ (A1 : AT) (X1 : CS) (Y1 : MT), CRel A1 X1 → MRel A1 Y1 → J D (fun q : Nat => s.heap.size ≤ q) p l e room_1 s m #[Value.ref b] below meth c 43 8951 (lw_Z below #[Value.ref b] s) 4 (wC cI cH ad X1 ++ wM cI cZ am Y1) [(3, .int (nI i)), (2, .ref (am 0)), (1, .ref (ad 0)), (0, .ref b)] 601 []) : J D (fun q : Nat => s.heap.size ≤ q) p l e room_1 s m #[Value.ref b] below meth c 43 8951 (lw_Z below #[Value.ref b] s) 4 (wC cI cH ad X ++ wM cI cZ am Y) [(3, .int (nI i)), (2, .ref (am 0)), (1, .ref (ad 0)), (0, .ref b)] 578 [] := by
  have hL31 : L < 2 ^ 31 := by omega
  refine j_aload_n C dL_law_578 2 rfl 579 rfl ?_
  refine j_aload_n C dL_law_579 3 rfl 580 rfl ?_
  refine j_iload_n C dL_law_580 0 rfl 581 rfl ?_
  refine j_iconst C dL_law_581 (nI 1) (by decide) 582 rfl ?_
  refine j_iadd C dL_law_582 (nI (i + 1)) (nI_add i 1) 583 rfl ?_
  refine l_ld C hX hbl (by omega) hL31 dL_law_583 584 rfl ?_
  refine j_callVi (As := [.int (xs (i + 1))]) (rest := []) (wr := (wM cI cZ am Y)) C (k_X8_count l D cI cZ cH ad A X hR (xs (i + 1))) gL_law_X8_count dL_law_584 rfl yd_X8_count (Nat.le_of_ble_eq_true rfl) (Nat.le_of_ble_eq_true rfl) rfl rfl rfl _ rfl (Nat.le_of_ble_eq_true rfl) (Nat.le_refl _) (Nat.le_refl _) [0, 1, 2, 3, 4, 5, 6, 7, 8, 9, 10, 11, 12, 13, 14, 15, 16, 17, 18, 19, 20, 21, 22, 23, 24, 25, 26, 27, 28, 29, 30, 31, 32, 33, 34] [35, 36, 37, 38, 39, 40, 41, 42] rfl rfl rfl rfl rfl (by decide) [8, 9, 10, 11, 12, 13, 14, 15, 16, 17, 18, 19, 20, 21, 22, 23, 24, 25, 26, 27, 28, 29, 30, 31, 32, 33, 34, 35, 36, 37, 38, 39, 40, 41, 42, 0, 1, 2, 3, 4, 5, 6, 7] (fun X9 => wC cI cH ad X9 ++ wM cI cZ am Y) (fun _ => rfl) (fun _ => rfl) rfl 587 rfl (fun r1 X1 h1 => ?_)
  refine j_aload_n C dL_law_587 1 rfl 588 rfl ?_
  refine j_aload_n C dL_law_588 3 rfl 589 rfl ?_
  refine j_iload_n C dL_law_589 0 rfl 590 rfl ?_
  refine j_iconst C dL_law_590 (nI 1) (by decide) 591 rfl ?_
  refine j_iadd C dL_law_591 (nI (i + 1)) (nI_add i 1) 592 rfl ?_
  refine l_ld C hX hbl (by omega) hL31 dL_law_592 593 rfl ?_
  refine j_callVi (As := [.int (xs (i + 1))]) (rest := [.int r1]) (wr := (wC cI cH ad X1)) C (k_X9_count l D cI cZ cH am A Y hM (xs (i + 1))) gL_law_X9_count dL_law_593 rfl yd_X9_count (Nat.le_of_ble_eq_true rfl) (Nat.le_of_ble_eq_true rfl) rfl rfl rfl _ rfl (Nat.le_of_ble_eq_true rfl) (Nat.le_refl _) (Nat.le_refl _) [35, 36, 37, 38, 39, 40, 41, 42] [0, 1, 2, 3, 4, 5, 6, 7, 8, 9, 10, 11, 12, 13, 14, 15, 16, 17, 18, 19, 20, 21, 22, 23, 24, 25, 26, 27, 28, 29, 30, 31, 32, 33, 34] rfl rfl rfl rfl rfl (by decide) [0, 1, 2, 3, 4, 5, 6, 7, 8, 9, 10, 11, 12, 13, 14, 15, 16, 17, 18, 19, 20, 21, 22, 23, 24, 25, 26, 27, 28, 29, 30, 31, 32, 33, 34, 35, 36, 37, 38, 39, 40, 41, 42] (fun Y9 => wC cI cH ad X1 ++ wM cI cZ am Y9) (fun _ => rfl) (fun _ => rfl) rfl 596 rfl (fun r2 Y1 h2 => ?_)
  refine j_icmp_eq C dL_law_596 601 (by decide) rfl rfl 599 rfl (fun _ => ?_) (fun h9 => absurd (by rw [h1.1, h2.1]) h9)
  exact kk _ X1 Y1 h1.2 h2.2
