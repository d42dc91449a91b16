def PreK (D : va_G) (cI cZ cH : ClassId) (av : List Value) (wc : va_W) (sz : Nat) : Array Value → State → Prop := va_Pc av (fun U => U.heap.size = sz ∧ va_P D vwCl wc U.heap ∧ (va_K D vwCl (ty3 cI cZ cH) U ∧ Nz U ∧ va_AO RX3 U) ∧ va_D (fun _ => True) wc)
theorem PreK.blind {D : va_G} {cI cZ cH : ClassId} {av : List Value} {wc : va_W} {sz : Nat} : FrameBlind (PreK D cI cZ cH av wc sz) := fun a U g mk q => by
  obtain ⟨q0, q1, qP, ⟨qK, qN, qO⟩, qD⟩ := q
  exact ⟨q0, q1, qP, ⟨va_K.moved (u := U) (U := U.calling g mk a) (Vm.Alike.refl U.vm) qK, qN.same rfl, va_AO.moved (u := U) (U := U.calling g mk a) (Vm.Alike.refl U.vm) qO⟩, qD⟩
/-- contract of a constructor: mc cells of ms slots are made -/
def Mk (l : Launch) (D : va_G) (cI cZ cH : ClassId) (y : MethodName) (wy : List Cond) (fr lo mc ms : Nat) (av : List Value) (wc : va_W) {S : Type} (post : S → Prop) (w1 : S → va_W) : Prop := ∀ sz : Nat, Met l y wy { frames := fr, cells := mc, slots := ms, locals := lo } (PreK D cI cZ cH av wc sz) (va_Qv post (fun u t => va_P D vwCl (w1 u) t.heap ∧ va_D (va_A wc sz) (w1 u)) (va_A wc sz)) mc ms (va_A wc sz)
def sX_find (s : State) (ty : FieldType) (cA : ClassId) : Prop := s.vm.findClass ("[" ++ ty.toString) = some cA
section JK
variable {p : Program} {l : Launch} {e : Env} {R : Room} {s : State} {m : MethodId} {args : Array Value} {below : List Frame} {meth : Method} {c : Code} {cells slots : Nat} {Q : State → Prop} {cc : ByteArray} {nL : Nat} {own : String} {Ts : List Cond} {ret : Option FieldType} {D : va_G} {cI cZ cH : ClassId} {A : Nat → Prop} {ws : va_W} {lv : List (Nat × Value)} {pc : Nat} {rest : List Value}
theorem Mk.start {y : MethodName} {wy wy' : List Cond} {fr lo mc ms : Nat} {av : List Value} {lv0 : List (Nat × Value)} {wc : va_W} {S : Type} {post : S → Prop} {w1 : S → va_W} (hy : plainName y.cls = true) (hyn : y.name = "<init>") (hw : wy = Cond.code y cc nL ret :: wy') (hlen : (lg_sl av).length ≤ nL) (hlv : lv_args 0 av = lv0)
    (body : ∀ (p : Program) (e : Env) (s : State) (m : MethodId) (below : List Frame) (meth : Method) (c : Code) (A : Nat → Prop), Cx y.cls wy cc nL ret D cI cZ cH A p s m av.toArray meth c → meth.name = "<init>" → va_AO RX3 s → J D A p l e { frames := fr, cells := mc, slots := ms, locals := lo } s m av.toArray below meth c 0 0 (MQ below (va_Qv post (fun u t => va_P D vwCl (w1 u) t.heap ∧ va_D A (w1 u)) A) av.toArray s mc ms A) nL wc lv0 0 []) : Mk l D cI cZ cH y wy fr lo mc ms av wc post w1 := by
  intro sz
  refine Met.ofW (cc := cc) (maxL := nL) (ret := ret) hy hw ?_
  intro p e s m args below meth c s₁ B hml hv
  obtain ⟨rfl, hsz, hP, ⟨hK, hN, hO⟩, hD0⟩ := hv
  subst hsz
  have hts := atoms_spec (ws := wy) B.pre
  have hown : s.vm.findClass y.cls = some m.cls := findClass_of_methodNamed B.named
  have hl := lv_entry av (n := nL) hlen
  rw [lg_entry_eq]
  rw [hlv] at hl
  exact body p e s m below meth c (va_A wc s.heap.size) ⟨⟨B.exec, B.bytes, B.returns, hml, hown⟩, hts, hK, hN, fun q h => Or.inr h, B.notSynchronized⟩ ((name_of_methodNamed B.named B.method).1.trans hyn) hO s.heap [] _ hP hD0.self va_S.rf hl
theorem j_kret {S : Type} {post : S → Prop} {w1 : S → va_W} {mc ms : Nat} (C : Cx own Ts cc nL none D cI cZ cH A p s m args meth c) (hd : decode cc pc = .ok (.return_, 1)) (hc : cells ≤ mc) (hs : slots ≤ ms) (u : S) (hp : post u) (hw : ws = w1 u) : J D A p l e R s m args below meth c cells slots (MQ below (va_Qv post (fun u t => va_P D vwCl (w1 u) t.heap ∧ va_D A (w1 u)) A) args s mc ms A) nL ws lv pc [] := by
  intro H locs ls hP hD hS hl
  subst hw
  refine W.widen hc hs ?_
  exact W.vret C.1.1 C.1.2.1 C.1.2.2.1 (fun t ht hW => ⟨⟨u, rfl, hp, by rw [ht]; exact hP, hD⟩, hS.F ht⟩) hS.2.2 hd C.2.2.2.2.2
theorem j_obj (C : Cx own Ts cc nL ret D cI cZ cH A p s m args meth c) {index a : Nat} (hd : decode cc pc = .ok (.invokespecial index, 3)) (i0 i1 i2 : Nat) (hl0 : Ts[i0]? = some (.methodLink own index objectInit)) (hl1 : Ts[i1]? = some (.instanceMethod objectInit)) (hl2 : Ts[i2]? = some (.code objectInit ⟨#[0xb1]⟩ 1 none)) (hfr : 1 ≤ R.frames) (hlo : (rest.map fun v => v.category).sum + 12 ≤ R.locals) (n1 : Nat) (h1 : pc + 3 = n1) (kk : J D A p l e R s m args below meth c cells slots Q nL ws lv n1 rest) : J D A p l e R s m args below meth c cells slots Q nL ws lv pc (.ref a :: rest) := fun H locs ls hP hD hS hl => W.objInit C.1.1 C.1.2.1 C.1.2.2.2.2 (C.2.1 _ (List.mem_of_getElem? hl0)) (C.2.1 _ (List.mem_of_getElem? hl1)) (C.2.1 _ (List.mem_of_getElem? hl2)) (g := F0 m pc ls (.ref a :: rest)) rfl (by rw [C.1.2.2.2.1]; exact hl.1) rfl hd hfr (by show 2 * 0 + _ + 12 ≤ _; omega) (W.eq (g2 := F0 m n1 ls rest) (by rw [← h1]) (kk H locs ls hP hD hS hl))
theorem j_new (C : Cx own Ts cc nL ret D cI cZ cH A p s m args meth c) {Cn : String} {T : u_T} {N ci index : Nat} (hd : decode cc pc = .ok (.new index, 3)) (i0 i1 i2 : Nat) (hin : ∀ w ∈ u_ws Cn T N, w ∈ Ts) (ty : Nat → FieldType) (hty : ∀ k, k < N → parseFieldDescriptor (T k).2.2.1 = some (ty k)) (hl0 : Ts[i0]? = some (.classLink own index Cn)) (hl1 : Ts[i1]? = some (.instantiable Cn N)) (hl2 : Ts[i2]? = some (.initialized Cn)) (hc : vwCl[ci]? = some (Cn, T, N)) (fs : List Value) (hfs : ∀ j, j < N → defaultValue (ty j) = vp_V fs j) (hcl : cells + 1 ≤ R.cells) (hsl : slots + N ≤ R.slots) (w2 : Nat → va_W) (hw : ∀ q, ws ++ [(q, .inr (ci, fs))] = w2 q) (c1 s1 : Nat) (hc1 : cells + 1 = c1) (hs1 : slots + N = s1) (n1 : Nat) (h1 : pc + 3 = n1) (kk : ∀ q : Nat, J D A p l e R s m args below meth c c1 s1 Q nL (w2 q) lv n1 (.ref q :: rest)) : J D A p l e R s m args below meth c cells slots Q nL ws lv pc rest := fun H locs ls hP hD hS hl => va_new C.1.1 C.1.2.1 C.2.1 hin ty hty C.1.2.2.2.2 (C.2.1 _ (List.mem_of_getElem? hl0)) (C.2.1 _ (List.mem_of_getElem? hl1)) (C.2.1 _ (List.mem_of_getElem? hl2)) C.2.2.1 hP hD hS C.2.2.2.2.1 hc hfs hcl hsl hd (fun q H1 hP1 hD1 hS1 => by rw [hw] at hP1 hD1; rw [h1, hc1, hs1]; exact kk q H1 locs ls hP1 hD1 hS1 hl)
theorem j_newa_int (C : Cx own Ts cc nL ret D cI cZ cH A p s m args meth c) {N' : Nat} (hd : decode cc pc = .ok (.newarray .int, 2)) (i0 : Nat) (hl0 : Ts[i0]? = some (.arrayClass .int)) (hN : N' < 2 ^ 16) (hcl : cells + 1 ≤ R.cells) (hsl : slots + N' ≤ R.slots) (w2 : Nat → va_W) (hw : ∀ q, ws ++ [(q, .inl (cI, N', .inl (aN (fun _ => 0))))] = w2 q) (c1 s1 : Nat) (hc1 : cells + 1 = c1) (hs1 : slots + N' = s1) (n1 : Nat) (h1 : pc + 2 = n1) (kk : ∀ q : Nat, J D A p l e R s m args below meth c c1 s1 Q nL (w2 q) lv n1 (.ref q :: rest)) : J D A p l e R s m args below meth c cells slots Q nL ws lv pc (.int (nI N') :: rest) := by
  intro H locs ls hP hD hS hl
  refine va_newa (atype := .int) (ty := .int) (a0 := (N', .inl (aN (fun _ => 0)))) C.1.1 C.1.2.1 (C.2.1 _ (List.mem_of_getElem? hl0)) rfl C.2.2.1 hP hD hS C.2.2.2.2.1 (fun cA => rfl) (nI_pos (by omega)) (nI_clamp (by omega)) (by show N' * _ ≤ _; have h9 : N' * componentBytes .int ≤ N' * 8 := Nat.mul_le_mul (Nat.le_refl _) (by decide); omega) hcl hsl hd (fun q cA H1 hK1 hP1 hD1 hS1 => ?_)
  have e1 : sX_find s .int cA := (hK1.2 3 _ rfl).2
  have e2 : sX_find s .int cI := (C.2.2.1.2 0 _ rfl).2
  have e3 : cA = cI := Option.some.inj (e1.symm.trans e2)
  subst e3
  rw [hw] at hP1 hD1
  rw [h1, hc1, hs1]
  exact kk q H1 locs ls hP1 hD1 hS1 hl
theorem j_newa_bool (C : Cx own Ts cc nL ret D cI cZ cH A p s m args meth c) {N' : Nat} (hd : decode cc pc = .ok (.newarray .boolean, 2)) (i0 : Nat) (hl0 : Ts[i0]? = some (.arrayClass .boolean)) (hN : N' < 2 ^ 16) (hcl : cells + 1 ≤ R.cells) (hsl : slots + N' ≤ R.slots) (w2 : Nat → va_W) (hw : ∀ q, ws ++ [(q, .inl (cZ, N', .inl (fun _ => 0)))] = w2 q) (c1 s1 : Nat) (hc1 : cells + 1 = c1) (hs1 : slots + N' = s1) (n1 : Nat) (h1 : pc + 2 = n1) (kk : ∀ q : Nat, J D A p l e R s m args below meth c c1 s1 Q nL (w2 q) lv n1 (.ref q :: rest)) : J D A p l e R s m args below meth c cells slots Q nL ws lv pc (.int (nI N') :: rest) := by
  intro H locs ls hP hD hS hl
  refine va_newa (atype := .boolean) (ty := .boolean) (a0 := (N', .inl (fun _ => 0))) C.1.1 C.1.2.1 (C.2.1 _ (List.mem_of_getElem? hl0)) rfl C.2.2.1 hP hD hS C.2.2.2.2.1 (fun cA => rfl) (nI_pos (by omega)) (nI_clamp (by omega)) (by show N' * _ ≤ _; have h9 : N' * componentBytes .boolean ≤ N' * 8 := Nat.mul_le_mul (Nat.le_refl _) (by decide); omega) hcl hsl hd (fun q cA H1 hK1 hP1 hD1 hS1 => ?_)
  have e1 : sX_find s .boolean cA := (hK1.2 3 _ rfl).2
  have e2 : sX_find s .boolean cZ := (C.2.2.1.2 1 _ rfl).2
  have e3 : cA = cZ := Option.some.inj (e1.symm.trans e2)
  subst e3
  rw [hw] at hP1 hD1
  rw [h1, hc1, hs1]
  exact kk q H1 locs ls hP1 hD1 hS1 hl
theorem j_newq (C : Cx own Ts cc nL ret D cI cZ cH A p s m args meth c) {index N' : Nat} (hO : va_AO RX3 s) (hd : decode cc pc = .ok (.anewarray index, 3)) (i0 : Nat) (hl0 : Ts[i0]? = some (.classLink own index RX3)) (hN : N' < 2 ^ 16) (hcl : cells + 1 ≤ R.cells) (hsl : slots + N' ≤ R.slots) (w2 : Nat → va_W) (hw : ∀ q, ws ++ [(q, .inl (cH, N', .inr (.inr (.inr (.inr (fun _ => none))))))] = w2 q) (c1 s1 : Nat) (hc1 : cells + 1 = c1) (hs1 : slots + N' = s1) (n1 : Nat) (h1 : pc + 3 = n1) (kk : ∀ q : Nat, J D A p l e R s m args below meth c c1 s1 Q nL (w2 q) lv n1 (.ref q :: rest)) : J D A p l e R s m args below meth c cells slots Q nL ws lv pc (.int (nI N') :: rest) := by
  intro H locs ls hP hD hS hl
  refine va_newq C.1.1 C.1.2.1 C.1.2.2.2.2 (C.2.1 _ (List.mem_of_getElem? hl0)) hO C.2.2.1 hP hD hS C.2.2.2.2.1 (nI_pos (by omega)) (nI_clamp (by omega)) (by omega) hcl hsl hd (fun q cA H1 hK1 hP1 hD1 hS1 => ?_)
  obtain ⟨k1, p1, a1, a2, a3, a4⟩ := (hK1.2 3 _ rfl).2
  obtain ⟨k2, p2, b1, b2, b3, b4⟩ := (C.2.2.1.2 2 _ rfl).2
  have e3 : cA = cH := Option.some.inj (a4.symm.trans b4)
  subst e3
  rw [hw] at hP1 hD1
  rw [h1, hc1, hs1]
  exact kk q H1 locs ls hP1 hD1 hS1 hl
theorem j_astq (C : Cx own Ts cc nL ret D cI cZ cH A p s m args meth c) {n a i v : Nat} {vs : List Value} {f : Nat → Option Nat} (hd : decode cc pc = .ok (.aastore, 1)) (q0 qk : Nat) (he : ws[q0]? = some (a, .inl (cH, n, .inr (.inr (.inr (.inr f)))))) (hv : ws[qk]? = some (v, .inr (3, vs))) (hi : i < n) (hn : n < 2 ^ 31) (ws2 : va_W) (hw : ws.set q0 (a, .inl (cH, n, .inr (.inr (.inr (.inr (va_up f i (some v))))))) = ws2) (n1 : Nat) (h1 : pc + 1 = n1) (kk : J D A p l e R s m args below meth c cells slots Q nL ws2 lv n1 rest) : J D A p l e R s m args below meth c cells slots Q nL ws lv pc (.ref v :: .int (nI i) :: .ref a :: rest) := fun H locs ls hP hD hS hl2 => va_astq C.1.1 C.1.2.1 C.2.2.1 hP hD hS q0 2 qk 3 he rfl hv rfl (vp_in_nI hi hn) hd (fun H1 locs1 hP1 hD1 hS1 => by rw [nI_clamp (Nat.lt_trans hi hn), hw] at hP1 hD1; rw [h1]; exact kk H1 locs1 ls hP1 hD1 hS1 hl2)
theorem j_putF (C : Cx own Ts cc nL ret D cI cZ cH A p s m args meth c) (hin2 : meth.name = "<init>") {ref Cn : String} {T : u_T} {N ci index a : Nat} {fs : List Value} {v : Value} (hd : decode cc pc = .ok (.putfield index, 3)) (q0 k i : Nat) (hin : ∀ w ∈ u_ws Cn T N, w ∈ Ts) (ty0 : Nat → FieldType) (hty : ∀ k, k < N → parseFieldDescriptor (T k).2.2.1 = some (ty0 k)) (hnm : ∀ a, a < N → ∀ b, b < N → a ≠ b → (T a).2.1 ≠ (T b).2.1) (he : ws[q0]? = some (a, .inr (ci, fs))) (hc : vwCl[ci]? = some (Cn, T, N)) (hk : k < N) (hl : Ts[i]? = some (.fieldLink own index ref (T k).2.1 (T k).2.2.1)) (hs : (T k).1 = ref) (hf : (T k).2.2.2 = true) (hdc : (T k).1 = own) (hn : narrow (ty0 k) v = v) (hfit : fits (ty0 k) v = true) (hlen : k < fs.length) (ws2 : va_W) (hw : ws.set q0 (a, .inr (ci, fs.set k v)) = ws2) (n1 : Nat) (h1 : pc + 3 = n1) (kk : J D A p l e R s m args below meth c cells slots Q nL ws2 lv n1 rest) : J D A p l e R s m args below meth c cells slots Q nL ws lv pc (v :: .ref a :: rest) := fun H locs ls hP hD hS hl2 => va_putF C.1.1 C.1.2.1 C.2.1 hin ty0 hty hnm C.1.2.2.2.2 C.2.2.1 hP hD hS q0 he hc k hk (C.2.1 _ (List.mem_of_getElem? hl)) (fun _ h9 => hs ▸ h9) hf hin2 hdc (hty k hk) hn hfit hlen hd (fun H1 locs1 hP1 hD1 hS1 => by rw [hw] at hP1 hD1; rw [h1]; exact kk H1 locs1 ls hP1 hD1 hS1 hl2)
theorem j_callKN (C : Cx own Ts cc nL ret D cI cZ cH A p s m args meth c) (hAO : va_AO RX3 s) {y : MethodName} {wy wy2 : List Cond} {fr lo mc ms index maxL b : Nat} {wc wr : va_W} {S : Type} {post : S → Prop} {w1 : S → va_W} {bytes : ByteArray} (hM : Mk l D cI cZ cH y wy fr lo mc ms [.ref b] wc post w1) (g : GoodIn Ts wy) (kN : Nat) (hN : nestL[kN]? = some (own, index, y, RX8)) (iS iI : Nat) (hS1 : Ts[iS]? = some (.instanceMethod y)) (hI1 : Ts[iI]? = some (.initialized y.cls)) (hyn : y.name = "<init>") (hd : decode cc pc = .ok (.invokespecial index, 3)) (hw : wy = Cond.code y bytes maxL none :: wy2) (hy : y.cls ≠ "java/lang/invoke/MethodHandle" ∧ y.cls ≠ "java/lang/invoke/VarHandle" ∧ (parseMethodDescriptor y.desc).map (fun d => d.parameters.length) = some 0) (hfr : fr + 1 ≤ R.frames) (hlo : 8 + (maxL + 11) + lo ≤ R.locals) (hrs : (rest.map fun v => v.category).sum ≤ 8) (hcl : cells + mc ≤ R.cells) (hsl : slots + ms ≤ R.slots) (isC isR : List Nat) (hC : isC.map (fun i => ws[i]?) = wc.map some) (hC2 : isC.filterMap (fun i => ws[i]?) = wc) (hnC : va_nd isC = true) (hR : isR.map (fun i => ws[i]?) = wr.map some) (hnR : va_nd isR = true) (hdis : ∀ i ∈ isR, i ∉ isC) (w2 : S → va_W) (hO : ∀ u, wr ++ w1 u = w2 u) (c1 s1 : Nat) (hc1 : cells + mc = c1) (hs1 : slots + ms = s1) (n1 : Nat) (h1 : pc + 3 = n1) (kk : ∀ (u : S), post u → J D A p l e R s m args below meth c c1 s1 Q nL (w2 u) lv n1 rest) : J D A p l e R s m args below meth c cells slots Q nL ws lv pc (.ref b :: rest) := by
  intro H locs ls hP hD hS hl
  have hPc := hP.sub isC hC2
  have hDc := hD.sub isC hnC hC
  have hFc := va_free (wc := wc) hD hS C.2.2.2.2.1 isC hC
  refine va_callv (va_runIN (As := []) (rest := rest) (host := RX8) ⟨C.1.1, C.1.2.1, C.1.2.2.2.1, C.1.2.2.2.2, C.2.1⟩ (hM H.size) ⟨va_cnB 0 C.2.1 g hw rfl rfl (C.2.2.2.1 _ (List.mem_of_getElem? hN)) (C.2.1 _ (List.mem_of_getElem? hI1)) hy ⟨hfr, hlo⟩, hyn, C.2.1 _ (List.mem_of_getElem? hS1)⟩ ⟨PreK.blind, fun U hU hW => ⟨rfl, by rw [hU], by rw [hU]; exact hPc, ⟨va_K.moved hW.alike C.2.2.1, C.2.2.2.1.warm hW, hAO.moved hW.alike⟩, hDc.weaken (fun _ _ _ _ => trivial)⟩⟩ rfl rfl hl.1 rfl (lv_room hrs) hd ⟨hcl, hsl⟩) hS (fun q _ h => hFc q h) hFc (fun u t H1 locs1 ht hvm hpo hB hz1 hk1 hS1 => ?_)
  obtain ⟨hP1, hD1⟩ := hB
  rw [ht] at hP1
  obtain ⟨hP2, hD2⟩ := va_join hP hD isC isR hC hR hnR hdis hk1 hFc hP1 hD1
  rw [hO] at hP2 hD2
  rw [h1, hc1, hs1]
  exact kk u hpo H1 locs1 ls hP2 hD2 hS1 hl
theorem j_callKL (C : Cx own Ts cc nL ret D cI cZ cH A p s m args meth c) (hAO : va_AO RX3 s) {y : MethodName} {wy wy2 : List Cond} {fr lo mc ms index maxL b : Nat} {wc wr : va_W} {S : Type} {post : S → Prop} {w1 : S → va_W} {bytes : ByteArray} (hM : Mk l D cI cZ cH y wy fr lo mc ms [.ref b] wc post w1) (g : GoodIn Ts wy) (iL : Nat) (hL : Ts[iL]? = some (.methodLink own index y)) (iS iI : Nat) (hS1 : Ts[iS]? = some (.instanceMethod y)) (hI1 : Ts[iI]? = some (.initialized y.cls)) (hyn : y.name = "<init>") (hd : decode cc pc = .ok (.invokespecial index, 3)) (hw : wy = Cond.code y bytes maxL none :: wy2) (hy : y.cls ≠ "java/lang/invoke/MethodHandle" ∧ y.cls ≠ "java/lang/invoke/VarHandle" ∧ (parseMethodDescriptor y.desc).map (fun d => d.parameters.length) = some 0) (hfr : fr + 1 ≤ R.frames) (hlo : 8 + (maxL + 11) + lo ≤ R.locals) (hrs : (rest.map fun v => v.category).sum ≤ 8) (hcl : cells + mc ≤ R.cells) (hsl : slots + ms ≤ R.slots) (isC isR : List Nat) (hC : isC.map (fun i => ws[i]?) = wc.map some) (hC2 : isC.filterMap (fun i => ws[i]?) = wc) (hnC : va_nd isC = true) (hR : isR.map (fun i => ws[i]?) = wr.map some) (hnR : va_nd isR = true) (hdis : ∀ i ∈ isR, i ∉ isC) (w2 : S → va_W) (hO : ∀ u, wr ++ w1 u = w2 u) (c1 s1 : Nat) (hc1 : cells + mc = c1) (hs1 : slots + ms = s1) (n1 : Nat) (h1 : pc + 3 = n1) (kk : ∀ (u : S), post u → J D A p l e R s m args below meth c c1 s1 Q nL (w2 u) lv n1 rest) : J D A p l e R s m args below meth c cells slots Q nL ws lv pc (.ref b :: rest) := by
  intro H locs ls hP hD hS hl
  have hPc := hP.sub isC hC2
  have hDc := hD.sub isC hnC hC
  have hFc := va_free (wc := wc) hD hS C.2.2.2.2.1 isC hC
  refine va_callv (va_runI (As := []) (rest := rest) ⟨C.1.1, C.1.2.1, C.1.2.2.2.1, C.1.2.2.2.2, C.2.1⟩ (hM H.size) (cwI 0 C.2.1 g hw rfl rfl (C.2.1 _ (List.mem_of_getElem? hI1)) (C.2.1 _ (List.mem_of_getElem? hL)) (C.2.1 _ (List.mem_of_getElem? hS1)) hyn hy ⟨hfr, hlo⟩) ⟨PreK.blind, fun U hU hW => ⟨rfl, by rw [hU], by rw [hU]; exact hPc, ⟨va_K.moved hW.alike C.2.2.1, C.2.2.2.1.warm hW, hAO.moved hW.alike⟩, hDc.weaken (fun _ _ _ _ => trivial)⟩⟩ rfl rfl hl.1 rfl (lv_room hrs) hd ⟨hcl, hsl⟩) hS (fun q _ h => hFc q h) hFc (fun u t H1 locs1 ht hvm hpo hB hz1 hk1 hS1 => ?_)
  obtain ⟨hP1, hD1⟩ := hB
  rw [ht] at hP1
  obtain ⟨hP2, hD2⟩ := va_join hP hD isC isR hC hR hnR hdis hk1 hFc hP1 hD1
  rw [hO] at hP2 hD2
  rw [h1, hc1, hs1]
  exact kk u hpo H1 locs1 ls hP2 hD2 hS1 hl
end JK
