section
-- ===== PART A: goes FIRST, ahead of the names: the tables' words, and 'selects' of the private methods out of them =====
/-- a private method of a class that the tables say can be made, by its rows of tables_1 -/
def lw_okq (q : MethodName × Nat) : Prop := (q.1.cls ≠ "java/lang/invoke/MethodHandle" ∧ q.1.cls ≠ "java/lang/invoke/VarHandle") ∧ Cond.instantiable q.1.cls q.2 ∈ tables_1 ∧ Cond.privateMethod q.1 ∈ tables_1 ∧ Cond.instanceMethod q.1 ∈ tables_1
theorem lw_p0 : lw_okq (⟨"SensorTapes", "hasBlock", "(I)Z"⟩, 5) := ⟨⟨by decide +kernel, by decide +kernel⟩, List.mem_of_getElem? (i := 14) (by decide +kernel), List.mem_of_getElem? (i := 308) (by decide +kernel), List.mem_of_getElem? (i := 309) (by decide +kernel)⟩
theorem lw_p1 : lw_okq (⟨"SensorTapes", "blocks", "()I"⟩, 5) := ⟨⟨by decide +kernel, by decide +kernel⟩, List.mem_of_getElem? (i := 14) (by decide +kernel), List.mem_of_getElem? (i := 312) (by decide +kernel), List.mem_of_getElem? (i := 313) (by decide +kernel)⟩
theorem lw_p2 : lw_okq (⟨"SensorTapes", "settleAll", "()V"⟩, 5) := ⟨⟨by decide +kernel, by decide +kernel⟩, List.mem_of_getElem? (i := 14) (by decide +kernel), List.mem_of_getElem? (i := 384) (by decide +kernel), List.mem_of_getElem? (i := 385) (by decide +kernel)⟩
theorem lw_p3 : lw_okq (⟨"SensorTapesModel", "fitsBelow", "(I)Z"⟩, 12) := ⟨⟨by decide +kernel, by decide +kernel⟩, List.mem_of_getElem? (i := 530) (by decide +kernel), List.mem_of_getElem? (i := 581) (by decide +kernel), List.mem_of_getElem? (i := 582) (by decide +kernel)⟩
theorem lw_p4 : lw_okq (⟨"SensorTapesModel", "many", "()I"⟩, 12) := ⟨⟨by decide +kernel, by decide +kernel⟩, List.mem_of_getElem? (i := 530) (by decide +kernel), List.mem_of_getElem? (i := 585) (by decide +kernel), List.mem_of_getElem? (i := 586) (by decide +kernel)⟩
theorem lw_p5 : lw_okq (⟨"SensorTapesModel", "top", "()I"⟩, 12) := ⟨⟨by decide +kernel, by decide +kernel⟩, List.mem_of_getElem? (i := 530) (by decide +kernel), List.mem_of_getElem? (i := 593) (by decide +kernel), List.mem_of_getElem? (i := 594) (by decide +kernel)⟩
theorem lw_p6 : lw_okq (⟨"SensorTapesModel", "isBare", "(I)Z"⟩, 12) := ⟨⟨by decide +kernel, by decide +kernel⟩, List.mem_of_getElem? (i := 530) (by decide +kernel), List.mem_of_getElem? (i := 609) (by decide +kernel), List.mem_of_getElem? (i := 610) (by decide +kernel)⟩
theorem lw_p7 : lw_okq (⟨"SensorTapesModel", "segmentLong", "()I"⟩, 12) := ⟨⟨by decide +kernel, by decide +kernel⟩, List.mem_of_getElem? (i := 530) (by decide +kernel), List.mem_of_getElem? (i := 613) (by decide +kernel), List.mem_of_getElem? (i := 614) (by decide +kernel)⟩
theorem lw_p8 : lw_okq (⟨"SensorTapesModel", "takeRow", "()V"⟩, 12) := ⟨⟨by decide +kernel, by decide +kernel⟩, List.mem_of_getElem? (i := 530) (by decide +kernel), List.mem_of_getElem? (i := 617) (by decide +kernel), List.mem_of_getElem? (i := 618) (by decide +kernel)⟩
theorem lw_p9 : lw_okq (⟨"SensorTapesModel", "expected", "(II)I"⟩, 12) := ⟨⟨by decide +kernel, by decide +kernel⟩, List.mem_of_getElem? (i := 530) (by decide +kernel), List.mem_of_getElem? (i := 621) (by decide +kernel), List.mem_of_getElem? (i := 622) (by decide +kernel)⟩
theorem lw_p10 : lw_okq (⟨"SensorTapesModel", "fold", "(II)I"⟩, 12) := ⟨⟨by decide +kernel, by decide +kernel⟩, List.mem_of_getElem? (i := 530) (by decide +kernel), List.mem_of_getElem? (i := 625) (by decide +kernel), List.mem_of_getElem? (i := 626) (by decide +kernel)⟩
theorem lw_p11 : lw_okq (⟨"SensorTapesModel", "room", "(I)I"⟩, 12) := ⟨⟨by decide +kernel, by decide +kernel⟩, List.mem_of_getElem? (i := 530) (by decide +kernel), List.mem_of_getElem? (i := 629) (by decide +kernel), List.mem_of_getElem? (i := 630) (by decide +kernel)⟩
theorem lw_p12 : lw_okq (⟨"SensorTapesModel", "isBlock", "(I)Z"⟩, 12) := ⟨⟨by decide +kernel, by decide +kernel⟩, List.mem_of_getElem? (i := 530) (by decide +kernel), List.mem_of_getElem? (i := 637) (by decide +kernel), List.mem_of_getElem? (i := 638) (by decide +kernel)⟩
theorem lw_p13 : lw_okq (⟨"SensorTapesModel", "blocks", "()I"⟩, 12) := ⟨⟨by decide +kernel, by decide +kernel⟩, List.mem_of_getElem? (i := 530) (by decide +kernel), List.mem_of_getElem? (i := 641) (by decide +kernel), List.mem_of_getElem? (i := 642) (by decide +kernel)⟩
theorem lw_p14 : lw_okq (⟨"SensorTapesModel", "costOf", "(III)I"⟩, 12) := ⟨⟨by decide +kernel, by decide +kernel⟩, List.mem_of_getElem? (i := 530) (by decide +kernel), List.mem_of_getElem? (i := 645) (by decide +kernel), List.mem_of_getElem? (i := 646) (by decide +kernel)⟩
theorem lw_p15 : lw_okq (⟨"SensorTapesModel", "canCode", "(I)Z"⟩, 12) := ⟨⟨by decide +kernel, by decide +kernel⟩, List.mem_of_getElem? (i := 530) (by decide +kernel), List.mem_of_getElem? (i := 649) (by decide +kernel), List.mem_of_getElem? (i := 650) (by decide +kernel)⟩
def lw_privs_1 : List (MethodName × Nat) := [(⟨"SensorTapes", "hasBlock", "(I)Z"⟩, 5), (⟨"SensorTapes", "blocks", "()I"⟩, 5), (⟨"SensorTapes", "settleAll", "()V"⟩, 5), (⟨"SensorTapesModel", "fitsBelow", "(I)Z"⟩, 12), (⟨"SensorTapesModel", "many", "()I"⟩, 12), (⟨"SensorTapesModel", "top", "()I"⟩, 12), (⟨"SensorTapesModel", "isBare", "(I)Z"⟩, 12), (⟨"SensorTapesModel", "segmentLong", "()I"⟩, 12), (⟨"SensorTapesModel", "takeRow", "()V"⟩, 12), (⟨"SensorTapesModel", "expected", "(II)I"⟩, 12), (⟨"SensorTapesModel", "fold", "(II)I"⟩, 12), (⟨"SensorTapesModel", "room", "(I)I"⟩, 12), (⟨"SensorTapesModel", "isBlock", "(I)Z"⟩, 12), (⟨"SensorTapesModel", "blocks", "()I"⟩, 12), (⟨"SensorTapesModel", "costOf", "(III)I"⟩, 12), (⟨"SensorTapesModel", "canCode", "(I)Z"⟩, 12)]
theorem lw_r1 : ∀ q ∈ lw_privs_1, lw_okq q := List.forall_mem_cons.mpr ⟨lw_p0, List.forall_mem_cons.mpr ⟨lw_p1, List.forall_mem_cons.mpr ⟨lw_p2, List.forall_mem_cons.mpr ⟨lw_p3, List.forall_mem_cons.mpr ⟨lw_p4, List.forall_mem_cons.mpr ⟨lw_p5, List.forall_mem_cons.mpr ⟨lw_p6, List.forall_mem_cons.mpr ⟨lw_p7, List.forall_mem_cons.mpr ⟨lw_p8, List.forall_mem_cons.mpr ⟨lw_p9, List.forall_mem_cons.mpr ⟨lw_p10, List.forall_mem_cons.mpr ⟨lw_p11, List.forall_mem_cons.mpr ⟨lw_p12, List.forall_mem_cons.mpr ⟨lw_p13, List.forall_mem_cons.mpr ⟨lw_p14, List.forall_mem_cons.mpr ⟨lw_p15, fun _ h => absurd h List.not_mem_nil⟩⟩⟩⟩⟩⟩⟩⟩⟩⟩⟩⟩⟩⟩⟩⟩
theorem lw_p16 : lw_okq (⟨"SensorTapesModel", "firstOf", "(I)I"⟩, 12) := ⟨⟨by decide +kernel, by decide +kernel⟩, List.mem_of_getElem? (i := 530) (by decide +kernel), List.mem_of_getElem? (i := 653) (by decide +kernel), List.mem_of_getElem? (i := 654) (by decide +kernel)⟩
theorem lw_p17 : lw_okq (⟨"SensorTapesModel", "endOf", "(I)I"⟩, 12) := ⟨⟨by decide +kernel, by decide +kernel⟩, List.mem_of_getElem? (i := 530) (by decide +kernel), List.mem_of_getElem? (i := 657) (by decide +kernel), List.mem_of_getElem? (i := 658) (by decide +kernel)⟩
theorem lw_p18 : lw_okq (⟨"SensorTapesModel", "bitsOf", "(II)I"⟩, 12) := ⟨⟨by decide +kernel, by decide +kernel⟩, List.mem_of_getElem? (i := 530) (by decide +kernel), List.mem_of_getElem? (i := 664) (by decide +kernel), List.mem_of_getElem? (i := 665) (by decide +kernel)⟩
theorem lw_p19 : lw_okq (⟨"SensorTapesModel", "pack", "()V"⟩, 12) := ⟨⟨by decide +kernel, by decide +kernel⟩, List.mem_of_getElem? (i := 530) (by decide +kernel), List.mem_of_getElem? (i := 672) (by decide +kernel), List.mem_of_getElem? (i := 673) (by decide +kernel)⟩
theorem lw_p20 : lw_okq (⟨"SensorTapesModel", "choice", "(I)I"⟩, 12) := ⟨⟨by decide +kernel, by decide +kernel⟩, List.mem_of_getElem? (i := 530) (by decide +kernel), List.mem_of_getElem? (i := 676) (by decide +kernel), List.mem_of_getElem? (i := 677) (by decide +kernel)⟩
theorem lw_p21 : lw_okq (⟨"SensorTapesModel", "write", "(II)V"⟩, 12) := ⟨⟨by decide +kernel, by decide +kernel⟩, List.mem_of_getElem? (i := 530) (by decide +kernel), List.mem_of_getElem? (i := 680) (by decide +kernel), List.mem_of_getElem? (i := 681) (by decide +kernel)⟩
theorem lw_p22 : lw_okq (⟨"SensorTapesModel", "writeFold", "(II)V"⟩, 12) := ⟨⟨by decide +kernel, by decide +kernel⟩, List.mem_of_getElem? (i := 530) (by decide +kernel), List.mem_of_getElem? (i := 684) (by decide +kernel), List.mem_of_getElem? (i := 685) (by decide +kernel)⟩
theorem lw_p23 : lw_okq (⟨"SensorTapesModel", "readBlock", "(II)V"⟩, 12) := ⟨⟨by decide +kernel, by decide +kernel⟩, List.mem_of_getElem? (i := 530) (by decide +kernel), List.mem_of_getElem? (i := 720) (by decide +kernel), List.mem_of_getElem? (i := 721) (by decide +kernel)⟩
theorem lw_p24 : lw_okq (⟨"SensorTapesModel", "number", "(I)I"⟩, 12) := ⟨⟨by decide +kernel, by decide +kernel⟩, List.mem_of_getElem? (i := 530) (by decide +kernel), List.mem_of_getElem? (i := 724) (by decide +kernel), List.mem_of_getElem? (i := 725) (by decide +kernel)⟩
theorem lw_p25 : lw_okq (⟨"SensorTapesModel", "fail", "(II)V"⟩, 12) := ⟨⟨by decide +kernel, by decide +kernel⟩, List.mem_of_getElem? (i := 530) (by decide +kernel), List.mem_of_getElem? (i := 728) (by decide +kernel), List.mem_of_getElem? (i := 729) (by decide +kernel)⟩
theorem lw_p26 : lw_okq (⟨"SensorTapesModel", "readSample", "(III)V"⟩, 12) := ⟨⟨by decide +kernel, by decide +kernel⟩, List.mem_of_getElem? (i := 530) (by decide +kernel), List.mem_of_getElem? (i := 732) (by decide +kernel), List.mem_of_getElem? (i := 733) (by decide +kernel)⟩
theorem lw_p27 : lw_okq (⟨"SensorTapesModel", "readFold", "(I)I"⟩, 12) := ⟨⟨by decide +kernel, by decide +kernel⟩, List.mem_of_getElem? (i := 530) (by decide +kernel), List.mem_of_getElem? (i := 736) (by decide +kernel), List.mem_of_getElem? (i := 737) (by decide +kernel)⟩
theorem lw_p28 : lw_okq (⟨"SensorTapesModel", "unfold", "(II)I"⟩, 12) := ⟨⟨by decide +kernel, by decide +kernel⟩, List.mem_of_getElem? (i := 530) (by decide +kernel), List.mem_of_getElem? (i := 740) (by decide +kernel), List.mem_of_getElem? (i := 741) (by decide +kernel)⟩
theorem lw_p29 : lw_okq (⟨"SensorTapesModel", "plainBlocks", "()I"⟩, 12) := ⟨⟨by decide +kernel, by decide +kernel⟩, List.mem_of_getElem? (i := 530) (by decide +kernel), List.mem_of_getElem? (i := 761) (by decide +kernel), List.mem_of_getElem? (i := 762) (by decide +kernel)⟩
def lw_privs_2 : List (MethodName × Nat) := [(⟨"SensorTapesModel", "firstOf", "(I)I"⟩, 12), (⟨"SensorTapesModel", "endOf", "(I)I"⟩, 12), (⟨"SensorTapesModel", "bitsOf", "(II)I"⟩, 12), (⟨"SensorTapesModel", "pack", "()V"⟩, 12), (⟨"SensorTapesModel", "choice", "(I)I"⟩, 12), (⟨"SensorTapesModel", "write", "(II)V"⟩, 12), (⟨"SensorTapesModel", "writeFold", "(II)V"⟩, 12), (⟨"SensorTapesModel", "readBlock", "(II)V"⟩, 12), (⟨"SensorTapesModel", "number", "(I)I"⟩, 12), (⟨"SensorTapesModel", "fail", "(II)V"⟩, 12), (⟨"SensorTapesModel", "readSample", "(III)V"⟩, 12), (⟨"SensorTapesModel", "readFold", "(I)I"⟩, 12), (⟨"SensorTapesModel", "unfold", "(II)I"⟩, 12), (⟨"SensorTapesModel", "plainBlocks", "()I"⟩, 12)]
theorem lw_r2 : ∀ q ∈ lw_privs_2, lw_okq q := List.forall_mem_cons.mpr ⟨lw_p16, List.forall_mem_cons.mpr ⟨lw_p17, List.forall_mem_cons.mpr ⟨lw_p18, List.forall_mem_cons.mpr ⟨lw_p19, List.forall_mem_cons.mpr ⟨lw_p20, List.forall_mem_cons.mpr ⟨lw_p21, List.forall_mem_cons.mpr ⟨lw_p22, List.forall_mem_cons.mpr ⟨lw_p23, List.forall_mem_cons.mpr ⟨lw_p24, List.forall_mem_cons.mpr ⟨lw_p25, List.forall_mem_cons.mpr ⟨lw_p26, List.forall_mem_cons.mpr ⟨lw_p27, List.forall_mem_cons.mpr ⟨lw_p28, List.forall_mem_cons.mpr ⟨lw_p29, fun _ h => absurd h List.not_mem_nil⟩⟩⟩⟩⟩⟩⟩⟩⟩⟩⟩⟩⟩⟩
def lw_privs : List (MethodName × Nat) := lw_privs_1 ++ (lw_privs_2)
def lw_tbl : List Cond := k2_sels lw_privs ++ tables_1
theorem lw_privs_ok : ∀ q ∈ lw_privs, lw_okq q := by
  show ∀ q ∈ lw_privs_1 ++ (lw_privs_2), lw_okq q
  exact List.forall_mem_append.mpr ⟨lw_r1, lw_r2⟩
end
section
/-! ===== BEGIN words of one list among another's, by their places ===== -/
theorem goodIn_r {big : List Cond} (ws : List Cond) (ps : List Nat) (hp : ws = ps.filterMap (fun i => big[i]?)) (h : ws.all goodWord = true) : GoodIn big ws := by
  intro w hw
  have h1 := List.all_eq_true.mp h w hw
  rw [hp] at hw
  obtain ⟨i, -, hi⟩ := List.mem_filterMap.mp hw
  have hm : w ∈ big := by first | exact List.mem_of_getElem? hi | exact List.getElem?_mem hi
  exact ⟨hm, good_of_word h1⟩
theorem goodIn_app {big a b : List Cond} (ha : GoodIn big a) (hb : GoodIn big b) : GoodIn big (a ++ b) := fun w h => (List.mem_append.mp h).elim (ha w) (hb w)
theorem goodIn_ca {big a b : List Cond} {c : Cond} (ha : GoodIn big (c :: a)) (hb : GoodIn big b) : GoodIn big (c :: (a ++ b)) := fun w h => (List.mem_cons.mp h).elim (fun e => ha w (List.mem_cons.mpr (Or.inl e))) (fun h => (List.mem_append.mp h).elim (fun h => ha w (List.mem_cons.mpr (Or.inr h))) (hb w))
theorem goodIn_sub {big ws : List Cond} (hm : ∀ w ∈ ws, w ∈ big) (h : ws.all goodWord = true) : GoodIn big ws := fun w hw => ⟨hm w hw, good_of_word (List.all_eq_true.mp h w hw)⟩
/-! ===== END ===== -/

/-! ===== BEGIN printed: names, fields, word lists, decode rows ===== -/
def RX0 : String := "SensorTapes$Bits"
def TX0 : u_T := fun k => match k with
  | 0 => ("SensorTapes$Bits", "bits", "[I", true)
  | _ => ("SensorTapes$Bits", "length", "I", false)
def tyX0 : Nat → FieldType := fun k => match k with
  | 0 => .array .int
  | _ => .int
abbrev wsX00 : List Cond := u_ws RX0 TX0 2
theorem nmX0 : ∀ a, a < 2 → ∀ b, b < 2 → a ≠ b → (TX0 a).2.1 ≠ (TX0 b).2.1 := by decide +kernel
theorem tyX0_ok : ∀ k, k < 2 → parseFieldDescriptor (TX0 k).2.2.1 = some (tyX0 k) := by decide +kernel
abbrev cX0_init : ByteArray := prog_2_method_1_code
def yX0_init : MethodName := ⟨RX0, "<init>", "()V"⟩
abbrev cX0_has : ByteArray := prog_2_method_2_code
def yX0_has : MethodName := ⟨RX0, "has", "(I)Z"⟩
abbrev cX0_at : ByteArray := prog_2_method_3_code
def yX0_at : MethodName := ⟨RX0, "at", "(I)I"⟩
abbrev cX0_turn : ByteArray := prog_2_method_4_code
def yX0_turn : MethodName := ⟨RX0, "turn", "(I)I"⟩
abbrev cX0_append : ByteArray := prog_2_method_5_code
def yX0_append : MethodName := ⟨RX0, "append", "(I)V"⟩
abbrev cX0_appendNumber : ByteArray := prog_2_method_6_code
def yX0_appendNumber : MethodName := ⟨RX0, "appendNumber", "(II)V"⟩
abbrev cX0_takeOver : ByteArray := prog_2_method_7_code
def yX0_takeOver : MethodName := ⟨RX0, "takeOver", "(LSensorTapes$Bits;)V"⟩
def RX1 : String := "SensorTapes$Fault"
def TX1 : u_T := fun k => match k with
  | 0 => ("SensorTapes$Fault", "number", "I", false)
  | 1 => ("SensorTapes$Fault", "place", "I", false)
  | _ => ("SensorTapes$Fault", "samples", "I", false)
def tyX1 : Nat → FieldType := fun k => match k with
  | 0 => .int
  | 1 => .int
  | _ => .int
abbrev wsX10 : List Cond := u_ws RX1 TX1 3
theorem nmX1 : ∀ a, a < 3 → ∀ b, b < 3 → a ≠ b → (TX1 a).2.1 ≠ (TX1 b).2.1 := by decide +kernel
theorem tyX1_ok : ∀ k, k < 3 → parseFieldDescriptor (TX1 k).2.2.1 = some (tyX1 k) := by decide +kernel
abbrev cX1_init : ByteArray := prog_3_method_1_code
def yX1_init : MethodName := ⟨RX1, "<init>", "()V"⟩
abbrev cX1_isTold : ByteArray := prog_3_method_2_code
def yX1_isTold : MethodName := ⟨RX1, "isTold", "()Z"⟩
abbrev cX1_forget : ByteArray := prog_3_method_3_code
def yX1_forget : MethodName := ⟨RX1, "forget", "()V"⟩
abbrev cX1_takeOver : ByteArray := prog_3_method_4_code
def yX1_takeOver : MethodName := ⟨RX1, "takeOver", "(LSensorTapes$Fault;)V"⟩
def RX2 : String := "SensorTapes$Folded"
def TX2 : u_T := fun k => match k with
  | 0 => ("SensorTapes$Folded", "folds", "[I", true)
  | 1 => ("SensorTapes$Folded", "length", "I", false)
  | 2 => ("SensorTapes$Folded", "way", "I", false)
  | 3 => ("SensorTapes$Folded", "width", "I", false)
  | 4 => ("SensorTapes$Folded", "hasBare", "Z", false)
  | _ => ("SensorTapes$Folded", "bare", "I", false)
def tyX2 : Nat → FieldType := fun k => match k with
  | 0 => .array .int
  | 1 => .int
  | 2 => .int
  | 3 => .int
  | 4 => .boolean
  | _ => .int
abbrev wsX20 : List Cond := u_ws RX2 TX2 6
theorem nmX2 : ∀ a, a < 6 → ∀ b, b < 6 → a ≠ b → (TX2 a).2.1 ≠ (TX2 b).2.1 := by decide +kernel
theorem tyX2_ok : ∀ k, k < 6 → parseFieldDescriptor (TX2 k).2.2.1 = some (tyX2 k) := by decide +kernel
abbrev cX2_init : ByteArray := prog_4_method_1_code
def yX2_init : MethodName := ⟨RX2, "<init>", "()V"⟩
abbrev cX2_fill : ByteArray := prog_4_method_2_code
def yX2_fill : MethodName := ⟨RX2, "fill", "(LSensorTapes$Rules;LSensorTapes$Row;II)V"⟩
abbrev cX2_costBy : ByteArray := prog_4_method_3_code
def yX2_costBy : MethodName := ⟨RX2, "costBy", "(I)I"⟩
abbrev cX2_isAllNothing : ByteArray := prog_4_method_4_code
def yX2_isAllNothing : MethodName := ⟨RX2, "isAllNothing", "()Z"⟩
abbrev cX2_write : ByteArray := prog_4_method_5_code
def yX2_write : MethodName := ⟨RX2, "write", "(LSensorTapes$Bits;I)V"⟩
abbrev cX2_writeByNoughts : ByteArray := prog_4_method_6_code
def yX2_writeByNoughts : MethodName := ⟨RX2, "writeByNoughts", "(LSensorTapes$Bits;II)V"⟩
def RX3 : String := "SensorTapes$Held"
def TX3 : u_T := fun k => match k with
  | 0 => ("SensorTapes$Held", "rules", "LSensorTapes$Rules;", true)
  | 1 => ("SensorTapes$Held", "row", "LSensorTapes$Row;", true)
  | 2 => ("SensorTapes$Held", "tape", "LSensorTapes$Bits;", true)
  | _ => ("SensorTapes$Held", "fault", "LSensorTapes$Fault;", true)
def tyX3 : Nat → FieldType := fun k => match k with
  | 0 => .object "SensorTapes$Rules"
  | 1 => .object "SensorTapes$Row"
  | 2 => .object "SensorTapes$Bits"
  | _ => .object "SensorTapes$Fault"
abbrev wsX30 : List Cond := u_ws RX3 TX3 4
theorem nmX3 : ∀ a, a < 4 → ∀ b, b < 4 → a ≠ b → (TX3 a).2.1 ≠ (TX3 b).2.1 := by decide +kernel
theorem tyX3_ok : ∀ k, k < 4 → parseFieldDescriptor (TX3 k).2.2.1 = some (tyX3 k) := by decide +kernel
abbrev cX3_init : ByteArray := prog_5_method_1_code
def yX3_init : MethodName := ⟨RX3, "<init>", "()V"⟩
abbrev cX3_takeOver : ByteArray := prog_5_method_2_code
def yX3_takeOver : MethodName := ⟨RX3, "takeOver", "(LSensorTapes$Held;)V"⟩
def RX4 : String := "SensorTapes$Packer"
def TX4 : u_T := fun k => match k with
  | 0 => ("SensorTapes$Packer", "ways", "[I", true)
  | 1 => ("SensorTapes$Packer", "codes", "[I", true)
  | 2 => ("SensorTapes$Packer", "firsts", "[I", true)
  | 3 => ("SensorTapes$Packer", "bits", "LSensorTapes$Bits;", true)
  | 4 => ("SensorTapes$Packer", "folded", "LSensorTapes$Folded;", true)
  | _ => ("SensorTapes$Packer", "settled", "I", false)
def tyX4 : Nat → FieldType := fun k => match k with
  | 0 => .array .int
  | 1 => .array .int
  | 2 => .array .int
  | 3 => .object "SensorTapes$Bits"
  | 4 => .object "SensorTapes$Folded"
  | _ => .int
abbrev wsX40 : List Cond := u_ws RX4 TX4 6
theorem nmX4 : ∀ a, a < 6 → ∀ b, b < 6 → a ≠ b → (TX4 a).2.1 ≠ (TX4 b).2.1 := by decide +kernel
theorem tyX4_ok : ∀ k, k < 6 → parseFieldDescriptor (TX4 k).2.2.1 = some (tyX4 k) := by decide +kernel
abbrev cX4_init : ByteArray := prog_6_method_1_code
def yX4_init : MethodName := ⟨RX4, "<init>", "()V"⟩
abbrev cX4_keepOnly : ByteArray := prog_6_method_2_code
def yX4_keepOnly : MethodName := ⟨RX4, "keepOnly", "(I)V"⟩
abbrev cX4_settle : ByteArray := prog_6_method_3_code
def yX4_settle : MethodName := ⟨RX4, "settle", "(LSensorTapes$Rules;LSensorTapes$Row;I)V"⟩
abbrev cX4_choose : ByteArray := prog_6_method_4_code
def yX4_choose : MethodName := ⟨RX4, "choose", "(LSensorTapes$Rules;LSensorTapes$Row;I)V"⟩
abbrev cX4_costOf : ByteArray := prog_6_method_5_code
def yX4_costOf : MethodName := ⟨RX4, "costOf", "(LSensorTapes$Rules;LSensorTapes$Row;III)I"⟩
abbrev cX4_settledWith : ByteArray := prog_6_method_6_code
def yX4_settledWith : MethodName := ⟨RX4, "settledWith", "(I)I"⟩
def RX5 : String := "SensorTapes$Reader"
def TX5 : u_T := fun k => match k with
  | 0 => ("SensorTapes$Reader", "row", "LSensorTapes$Row;", true)
  | 1 => ("SensorTapes$Reader", "fault", "LSensorTapes$Fault;", true)
  | _ => ("SensorTapes$Reader", "next", "I", false)
def tyX5 : Nat → FieldType := fun k => match k with
  | 0 => .object "SensorTapes$Row"
  | 1 => .object "SensorTapes$Fault"
  | _ => .int
abbrev wsX50 : List Cond := u_ws RX5 TX5 3
theorem nmX5 : ∀ a, a < 3 → ∀ b, b < 3 → a ≠ b → (TX5 a).2.1 ≠ (TX5 b).2.1 := by decide +kernel
theorem tyX5_ok : ∀ k, k < 3 → parseFieldDescriptor (TX5 k).2.2.1 = some (tyX5 k) := by decide +kernel
abbrev cX5_init : ByteArray := prog_7_method_1_code
def yX5_init : MethodName := ⟨RX5, "<init>", "()V"⟩
abbrev cX5_takeAll : ByteArray := prog_7_method_2_code
def yX5_takeAll : MethodName := ⟨RX5, "takeAll", "(LSensorTapes$Rules;LSensorTapes$Bits;I)V"⟩
abbrev cX5_takeBlock : ByteArray := prog_7_method_3_code
def yX5_takeBlock : MethodName := ⟨RX5, "takeBlock", "(LSensorTapes$Rules;LSensorTapes$Bits;I)V"⟩
abbrev cX5_takeTold : ByteArray := prog_7_method_4_code
def yX5_takeTold : MethodName := ⟨RX5, "takeTold", "(LSensorTapes$Rules;LSensorTapes$Bits;II)I"⟩
abbrev cX5_takeByNoughts : ByteArray := prog_7_method_5_code
def yX5_takeByNoughts : MethodName := ⟨RX5, "takeByNoughts", "(LSensorTapes$Bits;II)I"⟩
abbrev cX5_takeNumber : ByteArray := prog_7_method_6_code
def yX5_takeNumber : MethodName := ⟨RX5, "takeNumber", "(LSensorTapes$Bits;I)I"⟩
abbrev cX5_fail : ByteArray := prog_7_method_7_code
def yX5_fail : MethodName := ⟨RX5, "fail", "(II)I"⟩
def RX6 : String := "SensorTapes$Row"
def TX6 : u_T := fun k => match k with
  | 0 => ("SensorTapes$Row", "samples", "[I", true)
  | _ => ("SensorTapes$Row", "length", "I", false)
def tyX6 : Nat → FieldType := fun k => match k with
  | 0 => .array .int
  | _ => .int
abbrev wsX60 : List Cond := u_ws RX6 TX6 2
theorem nmX6 : ∀ a, a < 2 → ∀ b, b < 2 → a ≠ b → (TX6 a).2.1 ≠ (TX6 b).2.1 := by decide +kernel
theorem tyX6_ok : ∀ k, k < 2 → parseFieldDescriptor (TX6 k).2.2.1 = some (tyX6 k) := by decide +kernel
abbrev cX6_init : ByteArray := prog_8_method_1_code
def yX6_init : MethodName := ⟨RX6, "<init>", "()V"⟩
abbrev cX6_has : ByteArray := prog_8_method_2_code
def yX6_has : MethodName := ⟨RX6, "has", "(I)Z"⟩
abbrev cX6_at : ByteArray := prog_8_method_3_code
def yX6_at : MethodName := ⟨RX6, "at", "(I)I"⟩
abbrev cX6_append : ByteArray := prog_8_method_4_code
def yX6_append : MethodName := ⟨RX6, "append", "(I)V"⟩
abbrev cX6_highest : ByteArray := prog_8_method_5_code
def yX6_highest : MethodName := ⟨RX6, "highest", "()I"⟩
abbrev cX6_takeOver : ByteArray := prog_8_method_6_code
def yX6_takeOver : MethodName := ⟨RX6, "takeOver", "(LSensorTapes$Row;)V"⟩
def RX7 : String := "SensorTapes$Rules"
def TX7 : u_T := fun k => match k with
  | 0 => ("SensorTapes$Rules", "width", "I", false)
  | 1 => ("SensorTapes$Rules", "size", "I", false)
  | _ => ("SensorTapes$Rules", "every", "I", false)
def tyX7 : Nat → FieldType := fun k => match k with
  | 0 => .int
  | 1 => .int
  | _ => .int
abbrev wsX70 : List Cond := u_ws RX7 TX7 3
theorem nmX7 : ∀ a, a < 3 → ∀ b, b < 3 → a ≠ b → (TX7 a).2.1 ≠ (TX7 b).2.1 := by decide +kernel
theorem tyX7_ok : ∀ k, k < 3 → parseFieldDescriptor (TX7 k).2.2.1 = some (tyX7 k) := by decide +kernel
abbrev cX7_init : ByteArray := prog_9_method_1_code
def yX7_init : MethodName := ⟨RX7, "<init>", "()V"⟩
abbrev cX7_top : ByteArray := prog_9_method_2_code
def yX7_top : MethodName := ⟨RX7, "top", "()I"⟩
abbrev cX7_segmentSize : ByteArray := prog_9_method_3_code
def yX7_segmentSize : MethodName := ⟨RX7, "segmentSize", "()I"⟩
abbrev cX7_isBare : ByteArray := prog_9_method_4_code
def yX7_isBare : MethodName := ⟨RX7, "isBare", "(I)Z"⟩
abbrev cX7_blockWith : ByteArray := prog_9_method_5_code
def yX7_blockWith : MethodName := ⟨RX7, "blockWith", "(I)I"⟩
abbrev cX7_endOfBlock : ByteArray := prog_9_method_6_code
def yX7_endOfBlock : MethodName := ⟨RX7, "endOfBlock", "(II)I"⟩
abbrev cX7_value : ByteArray := prog_9_method_7_code
def yX7_value : MethodName := ⟨RX7, "value", "(I)I"⟩
abbrev cX7_change : ByteArray := prog_9_method_8_code
def yX7_change : MethodName := ⟨RX7, "change", "(II)V"⟩
abbrev cX7_takeOver : ByteArray := prog_9_method_9_code
def yX7_takeOver : MethodName := ⟨RX7, "takeOver", "(LSensorTapes$Rules;)V"⟩
def RX8 : String := "SensorTapes"
def TX8 : u_T := fun k => match k with
  | 0 => ("SensorTapes", "now", "LSensorTapes$Held;", true)
  | 1 => ("SensorTapes", "images", "[LSensorTapes$Held;", true)
  | 2 => ("SensorTapes", "imagesKept", "I", false)
  | 3 => ("SensorTapes", "packer", "LSensorTapes$Packer;", true)
  | _ => ("SensorTapes", "reader", "LSensorTapes$Reader;", true)
def tyX8 : Nat → FieldType := fun k => match k with
  | 0 => .object "SensorTapes$Held"
  | 1 => .array (.object "SensorTapes$Held")
  | 2 => .int
  | 3 => .object "SensorTapes$Packer"
  | _ => .object "SensorTapes$Reader"
abbrev wsX80 : List Cond := u_ws RX8 TX8 5
theorem nmX8 : ∀ a, a < 5 → ∀ b, b < 5 → a ≠ b → (TX8 a).2.1 ≠ (TX8 b).2.1 := by decide +kernel
theorem tyX8_ok : ∀ k, k < 5 → parseFieldDescriptor (TX8 k).2.2.1 = some (tyX8 k) := by decide +kernel
abbrev cX8_init : ByteArray := prog_1_method_1_code
def yX8_init : MethodName := ⟨RX8, "<init>", "()V"⟩
abbrev cX8_rule : ByteArray := prog_1_method_2_code
def yX8_rule : MethodName := ⟨RX8, "rule", "(II)I"⟩
abbrev cX8_add : ByteArray := prog_1_method_3_code
def yX8_add : MethodName := ⟨RX8, "add", "(I)I"⟩
abbrev cX8_clear : ByteArray := prog_1_method_4_code
def yX8_clear : MethodName := ⟨RX8, "clear", "()I"⟩
abbrev cX8_sample : ByteArray := prog_1_method_5_code
def yX8_sample : MethodName := ⟨RX8, "sample", "(I)I"⟩
abbrev cX8_ahead : ByteArray := prog_1_method_6_code
def yX8_ahead : MethodName := ⟨RX8, "ahead", "(III)I"⟩
abbrev cX8_cost : ByteArray := prog_1_method_7_code
def yX8_cost : MethodName := ⟨RX8, "cost", "(III)I"⟩
abbrev cX8_block : ByteArray := prog_1_method_8_code
def yX8_block : MethodName := ⟨RX8, "block", "(II)I"⟩
abbrev cX8_packed : ByteArray := prog_1_method_9_code
def yX8_packed : MethodName := ⟨RX8, "packed", "(I)I"⟩
abbrev cX8_lost : ByteArray := prog_1_method_10_code
def yX8_lost : MethodName := ⟨RX8, "lost", "(I)I"⟩
abbrev cX8_tape : ByteArray := prog_1_method_11_code
def yX8_tape : MethodName := ⟨RX8, "tape", "()I"⟩
abbrev cX8_push : ByteArray := prog_1_method_12_code
def yX8_push : MethodName := ⟨RX8, "push", "(I)I"⟩
abbrev cX8_flip : ByteArray := prog_1_method_13_code
def yX8_flip : MethodName := ⟨RX8, "flip", "(I)I"⟩
abbrev cX8_cut : ByteArray := prog_1_method_14_code
def yX8_cut : MethodName := ⟨RX8, "cut", "(I)I"⟩
abbrev cX8_bit : ByteArray := prog_1_method_15_code
def yX8_bit : MethodName := ⟨RX8, "bit", "(I)I"⟩
abbrev cX8_read : ByteArray := prog_1_method_16_code
def yX8_read : MethodName := ⟨RX8, "read", "(I)I"⟩
abbrev cX8_fault : ByteArray := prog_1_method_17_code
def yX8_fault : MethodName := ⟨RX8, "fault", "(I)I"⟩
abbrev cX8_image : ByteArray := prog_1_method_18_code
def yX8_image : MethodName := ⟨RX8, "image", "(I)I"⟩
abbrev cX8_restore : ByteArray := prog_1_method_19_code
def yX8_restore : MethodName := ⟨RX8, "restore", "(I)I"⟩
abbrev cX8_count : ByteArray := prog_1_method_20_code
def yX8_count : MethodName := ⟨RX8, "count", "(I)I"⟩
abbrev cX8_blocks : ByteArray := prog_1_method_21_code
def yX8_blocks : MethodName := ⟨RX8, "blocks", "()I"⟩
abbrev cX8_hasBlock : ByteArray := prog_1_method_22_code
def yX8_hasBlock : MethodName := ⟨RX8, "hasBlock", "(I)Z"⟩
abbrev cX8_settleAll : ByteArray := prog_1_method_23_code
def yX8_settleAll : MethodName := ⟨RX8, "settleAll", "()V"⟩
abbrev cX8_isWay : ByteArray := prog_1_method_24_code
def yX8_isWay : MethodName := ⟨RX8, "isWay", "(I)Z"⟩
abbrev cX8_isImage : ByteArray := prog_1_method_25_code
def yX8_isImage : MethodName := ⟨RX8, "isImage", "(I)Z"⟩
abbrev cX8_topOf : ByteArray := prog_1_method_26_code
def yX8_topOf : MethodName := ⟨RX8, "topOf", "(I)I"⟩
abbrev cX8_quotient : ByteArray := prog_1_method_27_code
def yX8_quotient : MethodName := ⟨RX8, "quotient", "(II)I"⟩
abbrev cX8_quotientUp : ByteArray := prog_1_method_28_code
def yX8_quotientUp : MethodName := ⟨RX8, "quotientUp", "(II)I"⟩
abbrev cX8_toldAhead : ByteArray := prog_1_method_29_code
def yX8_toldAhead : MethodName := ⟨RX8, "toldAhead", "(LSensorTapes$Rules;LSensorTapes$Row;II)I"⟩
abbrev cX8_fold : ByteArray := prog_1_method_30_code
def yX8_fold : MethodName := ⟨RX8, "fold", "(III)I"⟩
abbrev cX8_unfold : ByteArray := prog_1_method_31_code
def yX8_unfold : MethodName := ⟨RX8, "unfold", "(III)I"⟩
abbrev cX8_isCode : ByteArray := prog_1_method_32_code
def yX8_isCode : MethodName := ⟨RX8, "isCode", "(II)Z"⟩
def RX9 : String := "SensorTapesModel"
def TX9 : u_T := fun k => match k with
  | 0 => ("SensorTapesModel", "state", "[I", true)
  | 1 => ("SensorTapesModel", "images", "[I", true)
  | 2 => ("SensorTapesModel", "isKept", "[Z", true)
  | 3 => ("SensorTapesModel", "row", "[I", true)
  | 4 => ("SensorTapesModel", "bits", "[I", true)
  | 5 => ("SensorTapesModel", "bitMany", "I", false)
  | 6 => ("SensorTapesModel", "blockAt", "[I", true)
  | 7 => ("SensorTapesModel", "chosen", "[I", true)
  | 8 => ("SensorTapesModel", "at", "I", false)
  | 9 => ("SensorTapesModel", "wrong", "I", false)
  | 10 => ("SensorTapesModel", "wrongAt", "I", false)
  | _ => ("SensorTapesModel", "got", "I", false)
def tyX9 : Nat → FieldType := fun k => match k with
  | 0 => .array .int
  | 1 => .array .int
  | 2 => .array .boolean
  | 3 => .array .int
  | 4 => .array .int
  | 5 => .int
  | 6 => .array .int
  | 7 => .array .int
  | 8 => .int
  | 9 => .int
  | 10 => .int
  | _ => .int
abbrev wsX90 : List Cond := u_ws RX9 TX9 12
theorem nmX9 : ∀ a, a < 12 → ∀ b, b < 12 → a ≠ b → (TX9 a).2.1 ≠ (TX9 b).2.1 := by decide +kernel
theorem tyX9_ok : ∀ k, k < 12 → parseFieldDescriptor (TX9 k).2.2.1 = some (tyX9 k) := by decide +kernel
abbrev cX9_init : ByteArray := prog_11_method_1_code
def yX9_init : MethodName := ⟨RX9, "<init>", "()V"⟩
abbrev cX9_in : ByteArray := prog_11_method_2_code
def yX9_in : MethodName := ⟨RX9, "in", "(III)Z"⟩
abbrev cX9_top : ByteArray := prog_11_method_3_code
def yX9_top : MethodName := ⟨RX9, "top", "()I"⟩
abbrev cX9_many : ByteArray := prog_11_method_4_code
def yX9_many : MethodName := ⟨RX9, "many", "()I"⟩
abbrev cX9_fitsBelow : ByteArray := prog_11_method_5_code
def yX9_fitsBelow : MethodName := ⟨RX9, "fitsBelow", "(I)Z"⟩
abbrev cX9_rule : ByteArray := prog_11_method_6_code
def yX9_rule : MethodName := ⟨RX9, "rule", "(II)I"⟩
abbrev cX9_add : ByteArray := prog_11_method_7_code
def yX9_add : MethodName := ⟨RX9, "add", "(I)I"⟩
abbrev cX9_clear : ByteArray := prog_11_method_8_code
def yX9_clear : MethodName := ⟨RX9, "clear", "()I"⟩
abbrev cX9_sample : ByteArray := prog_11_method_9_code
def yX9_sample : MethodName := ⟨RX9, "sample", "(I)I"⟩
abbrev cX9_segmentLong : ByteArray := prog_11_method_10_code
def yX9_segmentLong : MethodName := ⟨RX9, "segmentLong", "()I"⟩
abbrev cX9_isBare : ByteArray := prog_11_method_11_code
def yX9_isBare : MethodName := ⟨RX9, "isBare", "(I)Z"⟩
abbrev cX9_expected : ByteArray := prog_11_method_12_code
def yX9_expected : MethodName := ⟨RX9, "expected", "(II)I"⟩
abbrev cX9_room : ByteArray := prog_11_method_13_code
def yX9_room : MethodName := ⟨RX9, "room", "(I)I"⟩
abbrev cX9_fold : ByteArray := prog_11_method_14_code
def yX9_fold : MethodName := ⟨RX9, "fold", "(II)I"⟩
abbrev cX9_unfold : ByteArray := prog_11_method_15_code
def yX9_unfold : MethodName := ⟨RX9, "unfold", "(II)I"⟩
abbrev cX9_takeRow : ByteArray := prog_11_method_16_code
def yX9_takeRow : MethodName := ⟨RX9, "takeRow", "()V"⟩
abbrev cX9_ahead : ByteArray := prog_11_method_17_code
def yX9_ahead : MethodName := ⟨RX9, "ahead", "(III)I"⟩
abbrev cX9_blocks : ByteArray := prog_11_method_18_code
def yX9_blocks : MethodName := ⟨RX9, "blocks", "()I"⟩
abbrev cX9_firstOf : ByteArray := prog_11_method_19_code
def yX9_firstOf : MethodName := ⟨RX9, "firstOf", "(I)I"⟩
abbrev cX9_less : ByteArray := prog_11_method_20_code
def yX9_less : MethodName := ⟨RX9, "less", "(II)I"⟩
abbrev cX9_endOf : ByteArray := prog_11_method_21_code
def yX9_endOf : MethodName := ⟨RX9, "endOf", "(I)I"⟩
abbrev cX9_canCode : ByteArray := prog_11_method_22_code
def yX9_canCode : MethodName := ⟨RX9, "canCode", "(I)Z"⟩
abbrev cX9_bitsOf : ByteArray := prog_11_method_23_code
def yX9_bitsOf : MethodName := ⟨RX9, "bitsOf", "(II)I"⟩
abbrev cX9_costOf : ByteArray := prog_11_method_24_code
def yX9_costOf : MethodName := ⟨RX9, "costOf", "(III)I"⟩
abbrev cX9_isBlock : ByteArray := prog_11_method_25_code
def yX9_isBlock : MethodName := ⟨RX9, "isBlock", "(I)Z"⟩
abbrev cX9_cost : ByteArray := prog_11_method_26_code
def yX9_cost : MethodName := ⟨RX9, "cost", "(III)I"⟩
abbrev cX9_choice : ByteArray := prog_11_method_27_code
def yX9_choice : MethodName := ⟨RX9, "choice", "(I)I"⟩
abbrev cX9_write : ByteArray := prog_11_method_28_code
def yX9_write : MethodName := ⟨RX9, "write", "(II)V"⟩
abbrev cX9_writeFold : ByteArray := prog_11_method_29_code
def yX9_writeFold : MethodName := ⟨RX9, "writeFold", "(II)V"⟩
abbrev cX9_pack : ByteArray := prog_11_method_30_code
def yX9_pack : MethodName := ⟨RX9, "pack", "()V"⟩
abbrev cX9_block : ByteArray := prog_11_method_31_code
def yX9_block : MethodName := ⟨RX9, "block", "(II)I"⟩
abbrev cX9_packed : ByteArray := prog_11_method_32_code
def yX9_packed : MethodName := ⟨RX9, "packed", "(I)I"⟩
abbrev cX9_lost : ByteArray := prog_11_method_33_code
def yX9_lost : MethodName := ⟨RX9, "lost", "(I)I"⟩
abbrev cX9_tape : ByteArray := prog_11_method_34_code
def yX9_tape : MethodName := ⟨RX9, "tape", "()I"⟩
abbrev cX9_push : ByteArray := prog_11_method_35_code
def yX9_push : MethodName := ⟨RX9, "push", "(I)I"⟩
abbrev cX9_flip : ByteArray := prog_11_method_36_code
def yX9_flip : MethodName := ⟨RX9, "flip", "(I)I"⟩
abbrev cX9_cut : ByteArray := prog_11_method_37_code
def yX9_cut : MethodName := ⟨RX9, "cut", "(I)I"⟩
abbrev cX9_bit : ByteArray := prog_11_method_38_code
def yX9_bit : MethodName := ⟨RX9, "bit", "(I)I"⟩
abbrev cX9_fail : ByteArray := prog_11_method_39_code
def yX9_fail : MethodName := ⟨RX9, "fail", "(II)V"⟩
abbrev cX9_number : ByteArray := prog_11_method_40_code
def yX9_number : MethodName := ⟨RX9, "number", "(I)I"⟩
abbrev cX9_readFold : ByteArray := prog_11_method_41_code
def yX9_readFold : MethodName := ⟨RX9, "readFold", "(I)I"⟩
abbrev cX9_readSample : ByteArray := prog_11_method_42_code
def yX9_readSample : MethodName := ⟨RX9, "readSample", "(III)V"⟩
abbrev cX9_readBlock : ByteArray := prog_11_method_43_code
def yX9_readBlock : MethodName := ⟨RX9, "readBlock", "(II)V"⟩
abbrev cX9_read : ByteArray := prog_11_method_44_code
def yX9_read : MethodName := ⟨RX9, "read", "(I)I"⟩
abbrev cX9_fault : ByteArray := prog_11_method_45_code
def yX9_fault : MethodName := ⟨RX9, "fault", "(I)I"⟩
abbrev cX9_image : ByteArray := prog_11_method_46_code
def yX9_image : MethodName := ⟨RX9, "image", "(I)I"⟩
abbrev cX9_restore : ByteArray := prog_11_method_47_code
def yX9_restore : MethodName := ⟨RX9, "restore", "(I)I"⟩
abbrev cX9_plainBlocks : ByteArray := prog_11_method_48_code
def yX9_plainBlocks : MethodName := ⟨RX9, "plainBlocks", "()I"⟩
abbrev cX9_count : ByteArray := prog_11_method_49_code
def yX9_count : MethodName := ⟨RX9, "count", "(I)I"⟩
def RJ9 : String := "java/lang/Math"
def TJ9 : u_T := fun k => match k with
  | _ => ("", "", "", false)
def tyJ9 : Nat → FieldType := fun k => match k with
  | _ => .int
abbrev wsJ90 : List Cond := u_ws RJ9 TJ9 0
theorem nmJ9 : ∀ a, a < 0 → ∀ b, b < 0 → a ≠ b → (TJ9 a).2.1 ≠ (TJ9 b).2.1 := by decide +kernel
theorem tyJ9_ok : ∀ k, k < 0 → parseFieldDescriptor (TJ9 k).2.2.1 = some (tyJ9 k) := by decide +kernel
abbrev cJ9_abs_0f7a4 : ByteArray := prog_12_method_59_code
def yJ9_abs_0f7a4 : MethodName := ⟨RJ9, "abs", "(I)I"⟩
abbrev cJ9_max_7cf53 : ByteArray := prog_12_method_65_code
def yJ9_max_7cf53 : MethodName := ⟨RJ9, "max", "(II)I"⟩
abbrev cJ9_min_7cf53 : ByteArray := prog_12_method_69_code
def yJ9_min_7cf53 : MethodName := ⟨RJ9, "min", "(II)I"⟩
def RJ10 : String := "java/lang/System"
def TJ10 : u_T := fun k => match k with
  | _ => ("", "", "", false)
def tyJ10 : Nat → FieldType := fun k => match k with
  | _ => .int
abbrev wsJ100 : List Cond := u_ws RJ10 TJ10 0
theorem nmJ10 : ∀ a, a < 0 → ∀ b, b < 0 → a ≠ b → (TJ10 a).2.1 ≠ (TJ10 b).2.1 := by decide +kernel
theorem tyJ10_ok : ∀ k, k < 0 → parseFieldDescriptor (TJ10 k).2.2.1 = some (tyJ10 k) := by decide +kernel
def RL : String := "SensorTapesLaw"
abbrev cL_law : ByteArray := code
def yL_law : MethodName := ⟨RL, "law", "([I)Z"⟩
def wsX0_init : List Cond := .code yX0_init cX0_init 1 none :: ([.methodLink RX0 3 objectInit, .instanceMethod objectInit, .code objectInit ⟨#[0xb1]⟩ 1 none, .arrayClass .int, .fieldLink RX0 9 "SensorTapes$Bits" "bits" "[I"] ++ wsX00)
def wsX0_has : List Cond := .code yX0_has cX0_has 2 (some .boolean) :: ([.fieldLink RX0 15 "SensorTapes$Bits" "length" "I"] ++ wsX00)
def wsX0_at : List Cond := .code yX0_at cX0_at 2 (some .int) :: ([.fieldLink RX0 15 "SensorTapes$Bits" "length" "I", .fieldLink RX0 9 "SensorTapes$Bits" "bits" "[I"] ++ wsX00)
def wsX0_turn : List Cond := .code yX0_turn cX0_turn 2 (some .int) :: ([.fieldLink RX0 9 "SensorTapes$Bits" "bits" "[I", .methodLink RX0 19 yX0_has, .instanceMethod yX0_has, .selects RX0 yX0_has yX0_has, .initialized RX0, .code yX0_has cX0_has 2 (some .boolean), .fieldLink RX0 15 "SensorTapes$Bits" "length" "I"] ++ wsX00)
def wsX0_append : List Cond := .code yX0_append cX0_append 2 none :: ([.fieldLink RX0 15 "SensorTapes$Bits" "length" "I", .fieldLink RX0 9 "SensorTapes$Bits" "bits" "[I"] ++ wsX00)
def wsX0_appendNumber : List Cond := .code yX0_appendNumber cX0_appendNumber 4 none :: ([.methodLink RX0 23 yX0_append, .instanceMethod yX0_append, .selects RX0 yX0_append yX0_append, .initialized RX0, .code yX0_append cX0_append 2 none, .fieldLink RX0 15 "SensorTapes$Bits" "length" "I", .fieldLink RX0 9 "SensorTapes$Bits" "bits" "[I"] ++ wsX00)
def wsX0_takeOver : List Cond := .code yX0_takeOver cX0_takeOver 2 none :: ([.fieldLink RX0 9 "SensorTapes$Bits" "bits" "[I", .fieldLink RX0 15 "SensorTapes$Bits" "length" "I", .methodLink RX0 27 arraycopyName, .native arraycopyName, .static arraycopyName, .initialized "java/lang/System"] ++ wsX00)
def wsX1_init : List Cond := .code yX1_init cX1_init 1 none :: ([.methodLink RX1 3 objectInit, .instanceMethod objectInit, .code objectInit ⟨#[0xb1]⟩ 1 none, .fieldLink RX1 9 "SensorTapes$Fault" "number" "I", .fieldLink RX1 15 "SensorTapes$Fault" "place" "I", .fieldLink RX1 18 "SensorTapes$Fault" "samples" "I"] ++ wsX10)
def wsX1_isTold : List Cond := .code yX1_isTold cX1_isTold 1 (some .boolean) :: ([.fieldLink RX1 9 "SensorTapes$Fault" "number" "I"] ++ wsX10)
def wsX1_forget : List Cond := .code yX1_forget cX1_forget 1 none :: ([.fieldLink RX1 9 "SensorTapes$Fault" "number" "I", .fieldLink RX1 15 "SensorTapes$Fault" "place" "I", .fieldLink RX1 18 "SensorTapes$Fault" "samples" "I"] ++ wsX10)
def wsX1_takeOver : List Cond := .code yX1_takeOver cX1_takeOver 2 none :: ([.fieldLink RX1 9 "SensorTapes$Fault" "number" "I", .fieldLink RX1 15 "SensorTapes$Fault" "place" "I", .fieldLink RX1 18 "SensorTapes$Fault" "samples" "I"] ++ wsX10)
def wsX2_init : List Cond := .code yX2_init cX2_init 1 none :: ([.methodLink RX2 3 objectInit, .instanceMethod objectInit, .code objectInit ⟨#[0xb1]⟩ 1 none, .arrayClass .int, .fieldLink RX2 9 "SensorTapes$Folded" "folds" "[I"] ++ wsX20)
def wsX7_endOfBlock : List Cond := .code yX7_endOfBlock cX7_endOfBlock 3 (some .int) :: ([.fieldLink RX7 13 "SensorTapes$Rules" "size" "I", .methodLink RX7 29 Lib.Math.min.name, .static Lib.Math.min.name, .initialized "java/lang/Math", .code Lib.Math.min.name Lib.Math.min.code 2 (some .int)] ++ wsX70)
def wsX7_isBare : List Cond := .code yX7_isBare cX7_isBare 3 (some .boolean) :: ([.fieldLink RX7 13 "SensorTapes$Rules" "size" "I", .fieldLink RX7 16 "SensorTapes$Rules" "every" "I"] ++ wsX70)
def wsX6_at : List Cond := .code yX6_at cX6_at 2 (some .int) :: ([.fieldLink RX6 15 "SensorTapes$Row" "length" "I", .fieldLink RX6 9 "SensorTapes$Row" "samples" "[I"] ++ wsX60)
def wsX8_topOf : List Cond := .code yX8_topOf cX8_topOf 1 (some .int) :: ([])
def wsX8_toldAhead_r1 : List Cond := [Cond.fieldLink RX8 213 "SensorTapes$Rules" "width" "I", Cond.methodLink RX8 147 Lib.Math.min.name, Cond.static Lib.Math.min.name, Cond.initialized "java/lang/Math", Cond.code Lib.Math.min.name Lib.Math.min.code 2 (some .int), Cond.methodLink RX8 216 Lib.Math.max.name, Cond.static Lib.Math.max.name, Cond.code Lib.Math.max.name Lib.Math.max.code 2 (some .int), Cond.methodLink RX8 44 yX8_topOf, Cond.static yX8_topOf, Cond.initialized RX8, Cond.code yX8_topOf cX8_topOf 1 (some .int), Cond.methodLink RX8 78 yX6_at, Cond.instanceMethod yX6_at, Cond.selects RX6 yX6_at yX6_at, Cond.initialized RX6, Cond.code yX6_at cX6_at 2 (some .int), Cond.fieldLink RX6 15 "SensorTapes$Row" "length" "I", Cond.fieldLink RX6 9 "SensorTapes$Row" "samples" "[I", Cond.methodLink RX8 88 yX7_isBare, Cond.instanceMethod yX7_isBare, Cond.selects RX7 yX7_isBare yX7_isBare, Cond.initialized RX7, Cond.code yX7_isBare cX7_isBare 3 (some .boolean)]
def wsX8_toldAhead_r2 : List Cond := [Cond.fieldLink RX7 13 "SensorTapes$Rules" "size" "I", Cond.fieldLink RX7 16 "SensorTapes$Rules" "every" "I"]
def wsX8_toldAhead : List Cond := .code yX8_toldAhead cX8_toldAhead 7 (some .int) :: ((wsX8_toldAhead_r1 ++ wsX8_toldAhead_r2) ++ wsX70 ++ wsX60)
def wsX7_top : List Cond := .code yX7_top cX7_top 1 (some .int) :: ([.fieldLink RX7 7 "SensorTapes$Rules" "width" "I", .static yX8_topOf, .initialized RX8, .code yX8_topOf cX8_topOf 1 (some .int)] ++ wsX70)
def wsX8_fold : List Cond := .code yX8_fold cX8_fold 4 (some .int) :: ([.methodLink RX8 147 Lib.Math.min.name, .static Lib.Math.min.name, .initialized "java/lang/Math", .code Lib.Math.min.name Lib.Math.min.code 2 (some .int), .methodLink RX8 219 Lib.Math.abs.name, .static Lib.Math.abs.name, .code Lib.Math.abs.name Lib.Math.abs.code 1 (some .int)])
def wsX2_fill_r1 : List Cond := [Cond.fieldLink RX2 15 "SensorTapes$Rules" "size" "I", Cond.fieldLink RX2 21 "SensorTapes$Row" "length" "I", Cond.fieldLink RX2 30 "SensorTapes$Folded" "way" "I", Cond.fieldLink RX2 33 "SensorTapes$Rules" "width" "I", Cond.fieldLink RX2 36 "SensorTapes$Folded" "width" "I", Cond.fieldLink RX2 41 "SensorTapes$Folded" "hasBare" "Z", Cond.fieldLink RX2 49 "SensorTapes$Folded" "bare" "I", Cond.fieldLink RX2 52 "SensorTapes$Folded" "length" "I", Cond.fieldLink RX2 9 "SensorTapes$Folded" "folds" "[I", Cond.methodLink RX2 26 yX7_endOfBlock, Cond.instanceMethod yX7_endOfBlock, Cond.selects RX7 yX7_endOfBlock yX7_endOfBlock, Cond.initialized RX7, Cond.code yX7_endOfBlock cX7_endOfBlock 3 (some .int), Cond.fieldLink RX7 13 "SensorTapes$Rules" "size" "I", Cond.methodLink RX7 29 Lib.Math.min.name, Cond.static Lib.Math.min.name, Cond.initialized "java/lang/Math", Cond.code Lib.Math.min.name Lib.Math.min.code 2 (some .int), Cond.methodLink RX2 37 yX7_isBare, Cond.instanceMethod yX7_isBare, Cond.selects RX7 yX7_isBare yX7_isBare, Cond.code yX7_isBare cX7_isBare 3 (some .boolean), Cond.fieldLink RX7 16 "SensorTapes$Rules" "every" "I"]
def wsX2_fill_r2 : List Cond := [Cond.methodLink RX2 45 yX6_at, Cond.instanceMethod yX6_at, Cond.selects RX6 yX6_at yX6_at, Cond.initialized RX6, Cond.code yX6_at cX6_at 2 (some .int), Cond.fieldLink RX6 15 "SensorTapes$Row" "length" "I", Cond.fieldLink RX6 9 "SensorTapes$Row" "samples" "[I", Cond.static yX8_toldAhead, Cond.initialized RX8, Cond.code yX8_toldAhead cX8_toldAhead 7 (some .int), Cond.fieldLink RX8 213 "SensorTapes$Rules" "width" "I", Cond.methodLink RX8 147 Lib.Math.min.name, Cond.methodLink RX8 216 Lib.Math.max.name, Cond.static Lib.Math.max.name, Cond.code Lib.Math.max.name Lib.Math.max.code 2 (some .int), Cond.methodLink RX8 44 yX8_topOf, Cond.static yX8_topOf, Cond.code yX8_topOf cX8_topOf 1 (some .int), Cond.methodLink RX8 78 yX6_at, Cond.methodLink RX8 88 yX7_isBare, Cond.methodLink RX2 57 yX7_top, Cond.instanceMethod yX7_top, Cond.selects RX7 yX7_top yX7_top, Cond.code yX7_top cX7_top 1 (some .int)]
def wsX2_fill_r3 : List Cond := [Cond.fieldLink RX7 7 "SensorTapes$Rules" "width" "I", Cond.static yX8_fold, Cond.code yX8_fold cX8_fold 4 (some .int), Cond.methodLink RX8 219 Lib.Math.abs.name, Cond.static Lib.Math.abs.name, Cond.code Lib.Math.abs.name Lib.Math.abs.code 1 (some .int)]
def wsX2_fill : List Cond := .code yX2_fill cX2_fill 8 none :: ((wsX2_fill_r1 ++ (wsX2_fill_r2 ++ wsX2_fill_r3)) ++ wsX70 ++ wsX60 ++ wsX20)
def wsX8_isCode : List Cond := .code yX8_isCode cX8_isCode 2 (some .boolean) :: ([])
def wsX2_isAllNothing : List Cond := .code yX2_isAllNothing cX2_isAllNothing 2 (some .boolean) :: ([.fieldLink RX2 52 "SensorTapes$Folded" "length" "I", .fieldLink RX2 9 "SensorTapes$Folded" "folds" "[I"] ++ wsX20)
def wsX2_costBy : List Cond := .code yX2_costBy cX2_costBy 5 (some .int) :: ([.fieldLink RX2 36 "SensorTapes$Folded" "width" "I", .fieldLink RX2 41 "SensorTapes$Folded" "hasBare" "Z", .fieldLink RX2 52 "SensorTapes$Folded" "length" "I", .fieldLink RX2 9 "SensorTapes$Folded" "folds" "[I", .static yX8_isCode, .initialized RX8, .code yX8_isCode cX8_isCode 2 (some .boolean), .methodLink RX2 69 yX2_isAllNothing, .instanceMethod yX2_isAllNothing, .selects RX2 yX2_isAllNothing yX2_isAllNothing, .initialized RX2, .code yX2_isAllNothing cX2_isAllNothing 2 (some .boolean)] ++ wsX20)
def wsX2_writeByNoughts : List Cond := .code yX2_writeByNoughts cX2_writeByNoughts 6 none :: ([.methodLink RX2 83 yX0_append, .instanceMethod yX0_append, .selects RX0 yX0_append yX0_append, .initialized RX0, .code yX0_append cX0_append 2 none, .fieldLink RX0 15 "SensorTapes$Bits" "length" "I", .fieldLink RX0 9 "SensorTapes$Bits" "bits" "[I", .methodLink RX2 73 yX0_appendNumber, .instanceMethod yX0_appendNumber, .selects RX0 yX0_appendNumber yX0_appendNumber, .code yX0_appendNumber cX0_appendNumber 4 none, .methodLink RX0 23 yX0_append] ++ wsX00)
def wsX2_write : List Cond := .code yX2_write cX2_write 4 none :: ([.fieldLink RX2 30 "SensorTapes$Folded" "way" "I", .fieldLink RX2 41 "SensorTapes$Folded" "hasBare" "Z", .fieldLink RX2 49 "SensorTapes$Folded" "bare" "I", .fieldLink RX2 36 "SensorTapes$Folded" "width" "I", .fieldLink RX2 52 "SensorTapes$Folded" "length" "I", .fieldLink RX2 9 "SensorTapes$Folded" "folds" "[I", .methodLink RX2 73 yX0_appendNumber, .instanceMethod yX0_appendNumber, .selects RX0 yX0_appendNumber yX0_appendNumber, .initialized RX0, .code yX0_appendNumber cX0_appendNumber 4 none, .methodLink RX0 23 yX0_append, .instanceMethod yX0_append, .selects RX0 yX0_append yX0_append, .code yX0_append cX0_append 2 none, .fieldLink RX0 15 "SensorTapes$Bits" "length" "I", .fieldLink RX0 9 "SensorTapes$Bits" "bits" "[I", .methodLink RX2 79 yX2_writeByNoughts, .instanceMethod yX2_writeByNoughts, .selects RX2 yX2_writeByNoughts yX2_writeByNoughts, .initialized RX2, .code yX2_writeByNoughts cX2_writeByNoughts 6 none, .methodLink RX2 83 yX0_append] ++ wsX20 ++ wsX00)
def wsX7_init : List Cond := .code yX7_init cX7_init 1 none :: ([.methodLink RX7 1 objectInit, .instanceMethod objectInit, .code objectInit ⟨#[0xb1]⟩ 1 none, .fieldLink RX7 7 "SensorTapes$Rules" "width" "I", .fieldLink RX7 13 "SensorTapes$Rules" "size" "I", .fieldLink RX7 16 "SensorTapes$Rules" "every" "I"] ++ wsX70)
def wsX6_init : List Cond := .code yX6_init cX6_init 1 none :: ([.methodLink RX6 3 objectInit, .instanceMethod objectInit, .code objectInit ⟨#[0xb1]⟩ 1 none, .arrayClass .int, .fieldLink RX6 9 "SensorTapes$Row" "samples" "[I"] ++ wsX60)
def wsX3_init_r1 : List Cond := [Cond.methodLink RX3 1 objectInit, Cond.instanceMethod objectInit, Cond.code objectInit ⟨#[0xb1]⟩ 1 none, Cond.classLink RX3 7 RX7, Cond.instantiable RX7 3, Cond.initialized RX7, Cond.fieldLink RX3 10 "SensorTapes$Held" "rules" "LSensorTapes$Rules;", Cond.classLink RX3 16 RX6, Cond.instantiable RX6 2, Cond.initialized RX6, Cond.fieldLink RX3 19 "SensorTapes$Held" "row" "LSensorTapes$Row;", Cond.classLink RX3 23 RX0, Cond.instantiable RX0 2, Cond.initialized RX0, Cond.fieldLink RX3 26 "SensorTapes$Held" "tape" "LSensorTapes$Bits;", Cond.classLink RX3 30 RX1, Cond.instantiable RX1 3, Cond.initialized RX1, Cond.fieldLink RX3 33 "SensorTapes$Held" "fault" "LSensorTapes$Fault;", Cond.instanceMethod yX7_init, Cond.code yX7_init cX7_init 1 none, Cond.methodLink RX7 1 objectInit, Cond.fieldLink RX7 7 "SensorTapes$Rules" "width" "I", Cond.fieldLink RX7 13 "SensorTapes$Rules" "size" "I"]
def wsX3_init_r2 : List Cond := [Cond.fieldLink RX7 16 "SensorTapes$Rules" "every" "I", Cond.instanceMethod yX6_init, Cond.code yX6_init cX6_init 1 none, Cond.methodLink RX6 3 objectInit, Cond.arrayClass .int, Cond.fieldLink RX6 9 "SensorTapes$Row" "samples" "[I", Cond.instanceMethod yX0_init, Cond.code yX0_init cX0_init 1 none, Cond.methodLink RX0 3 objectInit, Cond.fieldLink RX0 9 "SensorTapes$Bits" "bits" "[I", Cond.instanceMethod yX1_init, Cond.code yX1_init cX1_init 1 none, Cond.methodLink RX1 3 objectInit, Cond.fieldLink RX1 9 "SensorTapes$Fault" "number" "I", Cond.fieldLink RX1 15 "SensorTapes$Fault" "place" "I", Cond.fieldLink RX1 18 "SensorTapes$Fault" "samples" "I"]
def wsX3_init : List Cond := .code yX3_init cX3_init 1 none :: ((wsX3_init_r1 ++ wsX3_init_r2) ++ wsX70 ++ wsX30 ++ wsX60 ++ wsX00 ++ wsX10)
def wsX7_takeOver : List Cond := .code yX7_takeOver cX7_takeOver 2 none :: ([.fieldLink RX7 7 "SensorTapes$Rules" "width" "I", .fieldLink RX7 13 "SensorTapes$Rules" "size" "I", .fieldLink RX7 16 "SensorTapes$Rules" "every" "I"] ++ wsX70)
def wsX6_takeOver : List Cond := .code yX6_takeOver cX6_takeOver 2 none :: ([.fieldLink RX6 9 "SensorTapes$Row" "samples" "[I", .fieldLink RX6 15 "SensorTapes$Row" "length" "I", .methodLink RX6 25 arraycopyName, .native arraycopyName, .static arraycopyName, .initialized "java/lang/System"] ++ wsX60)
def wsX3_takeOver_r1 : List Cond := [Cond.fieldLink RX3 10 "SensorTapes$Held" "rules" "LSensorTapes$Rules;", Cond.fieldLink RX3 19 "SensorTapes$Held" "row" "LSensorTapes$Row;", Cond.fieldLink RX3 26 "SensorTapes$Held" "tape" "LSensorTapes$Bits;", Cond.fieldLink RX3 33 "SensorTapes$Held" "fault" "LSensorTapes$Fault;", Cond.methodLink RX3 37 yX7_takeOver, Cond.instanceMethod yX7_takeOver, Cond.selects RX7 yX7_takeOver yX7_takeOver, Cond.initialized RX7, Cond.code yX7_takeOver cX7_takeOver 2 none, Cond.fieldLink RX7 7 "SensorTapes$Rules" "width" "I", Cond.fieldLink RX7 13 "SensorTapes$Rules" "size" "I", Cond.fieldLink RX7 16 "SensorTapes$Rules" "every" "I", Cond.methodLink RX3 41 yX6_takeOver, Cond.instanceMethod yX6_takeOver, Cond.selects RX6 yX6_takeOver yX6_takeOver, Cond.initialized RX6, Cond.code yX6_takeOver cX6_takeOver 2 none, Cond.fieldLink RX6 9 "SensorTapes$Row" "samples" "[I", Cond.fieldLink RX6 15 "SensorTapes$Row" "length" "I", Cond.methodLink RX6 25 arraycopyName, Cond.native arraycopyName, Cond.static arraycopyName, Cond.initialized "java/lang/System", Cond.methodLink RX3 44 yX0_takeOver]
def wsX3_takeOver_r2 : List Cond := [Cond.instanceMethod yX0_takeOver, Cond.selects RX0 yX0_takeOver yX0_takeOver, Cond.initialized RX0, Cond.code yX0_takeOver cX0_takeOver 2 none, Cond.fieldLink RX0 9 "SensorTapes$Bits" "bits" "[I", Cond.fieldLink RX0 15 "SensorTapes$Bits" "length" "I", Cond.methodLink RX0 27 arraycopyName, Cond.methodLink RX3 47 yX1_takeOver, Cond.instanceMethod yX1_takeOver, Cond.selects RX1 yX1_takeOver yX1_takeOver, Cond.initialized RX1, Cond.code yX1_takeOver cX1_takeOver 2 none, Cond.fieldLink RX1 9 "SensorTapes$Fault" "number" "I", Cond.fieldLink RX1 15 "SensorTapes$Fault" "place" "I", Cond.fieldLink RX1 18 "SensorTapes$Fault" "samples" "I"]
def wsX3_takeOver : List Cond := .code yX3_takeOver cX3_takeOver 2 none :: ((wsX3_takeOver_r1 ++ wsX3_takeOver_r2) ++ wsX30 ++ wsX70 ++ wsX60 ++ wsX00 ++ wsX10)
def wsX4_init : List Cond := .code yX4_init cX4_init 1 none :: ([.methodLink RX4 3 objectInit, .instanceMethod objectInit, .code objectInit ⟨#[0xb1]⟩ 1 none, .arrayClass .int, .fieldLink RX4 9 "SensorTapes$Packer" "ways" "[I", .fieldLink RX4 15 "SensorTapes$Packer" "codes" "[I", .fieldLink RX4 18 "SensorTapes$Packer" "firsts" "[I", .classLink RX4 21 RX0, .instantiable RX0 2, .initialized RX0, .fieldLink RX4 24 "SensorTapes$Packer" "bits" "LSensorTapes$Bits;", .classLink RX4 28 RX2, .instantiable RX2 6, .initialized RX2, .fieldLink RX4 31 "SensorTapes$Packer" "folded" "LSensorTapes$Folded;", .instanceMethod yX0_init, .code yX0_init cX0_init 1 none, .methodLink RX0 3 objectInit, .fieldLink RX0 9 "SensorTapes$Bits" "bits" "[I", .instanceMethod yX2_init, .code yX2_init cX2_init 1 none, .methodLink RX2 3 objectInit, .fieldLink RX2 9 "SensorTapes$Folded" "folds" "[I"] ++ wsX40 ++ wsX00 ++ wsX20)
def wsX4_keepOnly : List Cond := .code yX4_keepOnly cX4_keepOnly 2 none :: ([.fieldLink RX4 35 "SensorTapes$Packer" "settled" "I", .fieldLink RX4 24 "SensorTapes$Packer" "bits" "LSensorTapes$Bits;", .fieldLink RX4 18 "SensorTapes$Packer" "firsts" "[I", .fieldLink RX4 39 "SensorTapes$Bits" "length" "I"] ++ wsX40 ++ wsX00)
def wsX4_choose_r1 : List Cond := [Cond.fieldLink RX4 31 "SensorTapes$Packer" "folded" "LSensorTapes$Folded;", Cond.fieldLink RX4 9 "SensorTapes$Packer" "ways" "[I", Cond.fieldLink RX4 15 "SensorTapes$Packer" "codes" "[I", Cond.methodLink RX4 52 yX2_fill, Cond.instanceMethod yX2_fill, Cond.selects RX2 yX2_fill yX2_fill, Cond.initialized RX2, Cond.code yX2_fill cX2_fill 8 none, Cond.fieldLink RX2 15 "SensorTapes$Rules" "size" "I", Cond.fieldLink RX2 21 "SensorTapes$Row" "length" "I", Cond.fieldLink RX2 30 "SensorTapes$Folded" "way" "I", Cond.fieldLink RX2 33 "SensorTapes$Rules" "width" "I", Cond.fieldLink RX2 36 "SensorTapes$Folded" "width" "I", Cond.fieldLink RX2 41 "SensorTapes$Folded" "hasBare" "Z", Cond.fieldLink RX2 49 "SensorTapes$Folded" "bare" "I", Cond.fieldLink RX2 52 "SensorTapes$Folded" "length" "I", Cond.fieldLink RX2 9 "SensorTapes$Folded" "folds" "[I", Cond.methodLink RX2 26 yX7_endOfBlock, Cond.instanceMethod yX7_endOfBlock, Cond.selects RX7 yX7_endOfBlock yX7_endOfBlock, Cond.initialized RX7, Cond.code yX7_endOfBlock cX7_endOfBlock 3 (some .int), Cond.fieldLink RX7 13 "SensorTapes$Rules" "size" "I", Cond.methodLink RX7 29 Lib.Math.min.name]
def wsX4_choose_r2 : List Cond := [Cond.static Lib.Math.min.name, Cond.initialized "java/lang/Math", Cond.code Lib.Math.min.name Lib.Math.min.code 2 (some .int), Cond.methodLink RX2 37 yX7_isBare, Cond.instanceMethod yX7_isBare, Cond.selects RX7 yX7_isBare yX7_isBare, Cond.code yX7_isBare cX7_isBare 3 (some .boolean), Cond.fieldLink RX7 16 "SensorTapes$Rules" "every" "I", Cond.methodLink RX2 45 yX6_at, Cond.instanceMethod yX6_at, Cond.selects RX6 yX6_at yX6_at, Cond.initialized RX6, Cond.code yX6_at cX6_at 2 (some .int), Cond.fieldLink RX6 15 "SensorTapes$Row" "length" "I", Cond.fieldLink RX6 9 "SensorTapes$Row" "samples" "[I", Cond.static yX8_toldAhead, Cond.initialized RX8, Cond.code yX8_toldAhead cX8_toldAhead 7 (some .int), Cond.fieldLink RX8 213 "SensorTapes$Rules" "width" "I", Cond.methodLink RX8 147 Lib.Math.min.name, Cond.methodLink RX8 216 Lib.Math.max.name, Cond.static Lib.Math.max.name, Cond.code Lib.Math.max.name Lib.Math.max.code 2 (some .int), Cond.methodLink RX8 44 yX8_topOf]
def wsX4_choose_r3 : List Cond := [Cond.static yX8_topOf, Cond.code yX8_topOf cX8_topOf 1 (some .int), Cond.methodLink RX8 78 yX6_at, Cond.methodLink RX8 88 yX7_isBare, Cond.methodLink RX2 57 yX7_top, Cond.instanceMethod yX7_top, Cond.selects RX7 yX7_top yX7_top, Cond.code yX7_top cX7_top 1 (some .int), Cond.fieldLink RX7 7 "SensorTapes$Rules" "width" "I", Cond.static yX8_fold, Cond.code yX8_fold cX8_fold 4 (some .int), Cond.methodLink RX8 219 Lib.Math.abs.name, Cond.static Lib.Math.abs.name, Cond.code Lib.Math.abs.name Lib.Math.abs.code 1 (some .int), Cond.methodLink RX4 60 yX2_costBy, Cond.instanceMethod yX2_costBy, Cond.selects RX2 yX2_costBy yX2_costBy, Cond.code yX2_costBy cX2_costBy 5 (some .int), Cond.static yX8_isCode, Cond.code yX8_isCode cX8_isCode 2 (some .boolean), Cond.methodLink RX2 69 yX2_isAllNothing, Cond.instanceMethod yX2_isAllNothing, Cond.selects RX2 yX2_isAllNothing yX2_isAllNothing, Cond.code yX2_isAllNothing cX2_isAllNothing 2 (some .boolean)]
def wsX4_choose : List Cond := .code yX4_choose cX4_choose 8 none :: ((wsX4_choose_r1 ++ (wsX4_choose_r2 ++ wsX4_choose_r3)) ++ wsX40 ++ wsX70 ++ wsX60 ++ wsX20)
def wsX4_settle_r1 : List Cond := [Cond.methodLink RX4 42 Lib.Math.min.name, Cond.static Lib.Math.min.name, Cond.initialized "java/lang/Math", Cond.code Lib.Math.min.name Lib.Math.min.code 2 (some .int), Cond.fieldLink RX4 35 "SensorTapes$Packer" "settled" "I", Cond.fieldLink RX4 31 "SensorTapes$Packer" "folded" "LSensorTapes$Folded;", Cond.fieldLink RX4 9 "SensorTapes$Packer" "ways" "[I", Cond.fieldLink RX4 24 "SensorTapes$Packer" "bits" "LSensorTapes$Bits;", Cond.fieldLink RX4 15 "SensorTapes$Packer" "codes" "[I", Cond.fieldLink RX4 18 "SensorTapes$Packer" "firsts" "[I", Cond.fieldLink RX4 39 "SensorTapes$Bits" "length" "I", Cond.methodLink RX4 48 yX4_choose, Cond.instanceMethod yX4_choose, Cond.selects RX4 yX4_choose yX4_choose, Cond.initialized RX4, Cond.code yX4_choose cX4_choose 8 none, Cond.methodLink RX4 52 yX2_fill, Cond.instanceMethod yX2_fill, Cond.selects RX2 yX2_fill yX2_fill, Cond.initialized RX2, Cond.code yX2_fill cX2_fill 8 none, Cond.fieldLink RX2 15 "SensorTapes$Rules" "size" "I", Cond.fieldLink RX2 21 "SensorTapes$Row" "length" "I", Cond.fieldLink RX2 30 "SensorTapes$Folded" "way" "I"]
def wsX4_settle_r2 : List Cond := [Cond.fieldLink RX2 33 "SensorTapes$Rules" "width" "I", Cond.fieldLink RX2 36 "SensorTapes$Folded" "width" "I", Cond.fieldLink RX2 41 "SensorTapes$Folded" "hasBare" "Z", Cond.fieldLink RX2 49 "SensorTapes$Folded" "bare" "I", Cond.fieldLink RX2 52 "SensorTapes$Folded" "length" "I", Cond.fieldLink RX2 9 "SensorTapes$Folded" "folds" "[I", Cond.methodLink RX2 26 yX7_endOfBlock, Cond.instanceMethod yX7_endOfBlock, Cond.selects RX7 yX7_endOfBlock yX7_endOfBlock, Cond.initialized RX7, Cond.code yX7_endOfBlock cX7_endOfBlock 3 (some .int), Cond.fieldLink RX7 13 "SensorTapes$Rules" "size" "I", Cond.methodLink RX7 29 Lib.Math.min.name, Cond.methodLink RX2 37 yX7_isBare, Cond.instanceMethod yX7_isBare, Cond.selects RX7 yX7_isBare yX7_isBare, Cond.code yX7_isBare cX7_isBare 3 (some .boolean), Cond.fieldLink RX7 16 "SensorTapes$Rules" "every" "I", Cond.methodLink RX2 45 yX6_at, Cond.instanceMethod yX6_at, Cond.selects RX6 yX6_at yX6_at, Cond.initialized RX6, Cond.code yX6_at cX6_at 2 (some .int), Cond.fieldLink RX6 15 "SensorTapes$Row" "length" "I"]
def wsX4_settle_r3 : List Cond := [Cond.fieldLink RX6 9 "SensorTapes$Row" "samples" "[I", Cond.static yX8_toldAhead, Cond.initialized RX8, Cond.code yX8_toldAhead cX8_toldAhead 7 (some .int), Cond.fieldLink RX8 213 "SensorTapes$Rules" "width" "I", Cond.methodLink RX8 147 Lib.Math.min.name, Cond.methodLink RX8 216 Lib.Math.max.name, Cond.static Lib.Math.max.name, Cond.code Lib.Math.max.name Lib.Math.max.code 2 (some .int), Cond.methodLink RX8 44 yX8_topOf, Cond.static yX8_topOf, Cond.code yX8_topOf cX8_topOf 1 (some .int), Cond.methodLink RX8 78 yX6_at, Cond.methodLink RX8 88 yX7_isBare, Cond.methodLink RX2 57 yX7_top, Cond.instanceMethod yX7_top, Cond.selects RX7 yX7_top yX7_top, Cond.code yX7_top cX7_top 1 (some .int), Cond.fieldLink RX7 7 "SensorTapes$Rules" "width" "I", Cond.static yX8_fold, Cond.code yX8_fold cX8_fold 4 (some .int), Cond.methodLink RX8 219 Lib.Math.abs.name, Cond.static Lib.Math.abs.name, Cond.code Lib.Math.abs.name Lib.Math.abs.code 1 (some .int)]
def wsX4_settle_r4 : List Cond := [Cond.methodLink RX4 60 yX2_costBy, Cond.instanceMethod yX2_costBy, Cond.selects RX2 yX2_costBy yX2_costBy, Cond.code yX2_costBy cX2_costBy 5 (some .int), Cond.static yX8_isCode, Cond.code yX8_isCode cX8_isCode 2 (some .boolean), Cond.methodLink RX2 69 yX2_isAllNothing, Cond.instanceMethod yX2_isAllNothing, Cond.selects RX2 yX2_isAllNothing yX2_isAllNothing, Cond.code yX2_isAllNothing cX2_isAllNothing 2 (some .boolean), Cond.methodLink RX4 56 yX2_write, Cond.instanceMethod yX2_write, Cond.selects RX2 yX2_write yX2_write, Cond.code yX2_write cX2_write 4 none, Cond.methodLink RX2 73 yX0_appendNumber, Cond.instanceMethod yX0_appendNumber, Cond.selects RX0 yX0_appendNumber yX0_appendNumber, Cond.initialized RX0, Cond.code yX0_appendNumber cX0_appendNumber 4 none, Cond.methodLink RX0 23 yX0_append, Cond.instanceMethod yX0_append, Cond.selects RX0 yX0_append yX0_append, Cond.code yX0_append cX0_append 2 none, Cond.fieldLink RX0 15 "SensorTapes$Bits" "length" "I"]
def wsX4_settle_r5 : List Cond := [Cond.fieldLink RX0 9 "SensorTapes$Bits" "bits" "[I", Cond.methodLink RX2 79 yX2_writeByNoughts, Cond.instanceMethod yX2_writeByNoughts, Cond.selects RX2 yX2_writeByNoughts yX2_writeByNoughts, Cond.code yX2_writeByNoughts cX2_writeByNoughts 6 none, Cond.methodLink RX2 83 yX0_append]
def wsX4_settle : List Cond := .code yX4_settle cX4_settle 6 none :: ((wsX4_settle_r1 ++ (wsX4_settle_r2 ++ (wsX4_settle_r3 ++ (wsX4_settle_r4 ++ wsX4_settle_r5)))) ++ wsX40 ++ wsX00 ++ wsX70 ++ wsX60 ++ wsX20)
def wsX4_costOf_r1 : List Cond := [Cond.fieldLink RX4 31 "SensorTapes$Packer" "folded" "LSensorTapes$Folded;", Cond.methodLink RX4 52 yX2_fill, Cond.instanceMethod yX2_fill, Cond.selects RX2 yX2_fill yX2_fill, Cond.initialized RX2, Cond.code yX2_fill cX2_fill 8 none, Cond.fieldLink RX2 15 "SensorTapes$Rules" "size" "I", Cond.fieldLink RX2 21 "SensorTapes$Row" "length" "I", Cond.fieldLink RX2 30 "SensorTapes$Folded" "way" "I", Cond.fieldLink RX2 33 "SensorTapes$Rules" "width" "I", Cond.fieldLink RX2 36 "SensorTapes$Folded" "width" "I", Cond.fieldLink RX2 41 "SensorTapes$Folded" "hasBare" "Z", Cond.fieldLink RX2 49 "SensorTapes$Folded" "bare" "I", Cond.fieldLink RX2 52 "SensorTapes$Folded" "length" "I", Cond.fieldLink RX2 9 "SensorTapes$Folded" "folds" "[I", Cond.methodLink RX2 26 yX7_endOfBlock, Cond.instanceMethod yX7_endOfBlock, Cond.selects RX7 yX7_endOfBlock yX7_endOfBlock, Cond.initialized RX7, Cond.code yX7_endOfBlock cX7_endOfBlock 3 (some .int), Cond.fieldLink RX7 13 "SensorTapes$Rules" "size" "I", Cond.methodLink RX7 29 Lib.Math.min.name, Cond.static Lib.Math.min.name, Cond.initialized "java/lang/Math"]
def wsX4_costOf_r2 : List Cond := [Cond.code Lib.Math.min.name Lib.Math.min.code 2 (some .int), Cond.methodLink RX2 37 yX7_isBare, Cond.instanceMethod yX7_isBare, Cond.selects RX7 yX7_isBare yX7_isBare, Cond.code yX7_isBare cX7_isBare 3 (some .boolean), Cond.fieldLink RX7 16 "SensorTapes$Rules" "every" "I", Cond.methodLink RX2 45 yX6_at, Cond.instanceMethod yX6_at, Cond.selects RX6 yX6_at yX6_at, Cond.initialized RX6, Cond.code yX6_at cX6_at 2 (some .int), Cond.fieldLink RX6 15 "SensorTapes$Row" "length" "I", Cond.fieldLink RX6 9 "SensorTapes$Row" "samples" "[I", Cond.static yX8_toldAhead, Cond.initialized RX8, Cond.code yX8_toldAhead cX8_toldAhead 7 (some .int), Cond.fieldLink RX8 213 "SensorTapes$Rules" "width" "I", Cond.methodLink RX8 147 Lib.Math.min.name, Cond.methodLink RX8 216 Lib.Math.max.name, Cond.static Lib.Math.max.name, Cond.code Lib.Math.max.name Lib.Math.max.code 2 (some .int), Cond.methodLink RX8 44 yX8_topOf, Cond.static yX8_topOf, Cond.code yX8_topOf cX8_topOf 1 (some .int)]
def wsX4_costOf_r3 : List Cond := [Cond.methodLink RX8 78 yX6_at, Cond.methodLink RX8 88 yX7_isBare, Cond.methodLink RX2 57 yX7_top, Cond.instanceMethod yX7_top, Cond.selects RX7 yX7_top yX7_top, Cond.code yX7_top cX7_top 1 (some .int), Cond.fieldLink RX7 7 "SensorTapes$Rules" "width" "I", Cond.static yX8_fold, Cond.code yX8_fold cX8_fold 4 (some .int), Cond.methodLink RX8 219 Lib.Math.abs.name, Cond.static Lib.Math.abs.name, Cond.code Lib.Math.abs.name Lib.Math.abs.code 1 (some .int), Cond.methodLink RX4 60 yX2_costBy, Cond.instanceMethod yX2_costBy, Cond.selects RX2 yX2_costBy yX2_costBy, Cond.code yX2_costBy cX2_costBy 5 (some .int), Cond.static yX8_isCode, Cond.code yX8_isCode cX8_isCode 2 (some .boolean), Cond.methodLink RX2 69 yX2_isAllNothing, Cond.instanceMethod yX2_isAllNothing, Cond.selects RX2 yX2_isAllNothing yX2_isAllNothing, Cond.code yX2_isAllNothing cX2_isAllNothing 2 (some .boolean)]
def wsX4_costOf : List Cond := .code yX4_costOf cX4_costOf 6 (some .int) :: ((wsX4_costOf_r1 ++ (wsX4_costOf_r2 ++ wsX4_costOf_r3)) ++ wsX40 ++ wsX70 ++ wsX60 ++ wsX20)
def wsX4_settledWith : List Cond := .code yX4_settledWith cX4_settledWith 4 (some .int) :: ([.fieldLink RX4 35 "SensorTapes$Packer" "settled" "I", .fieldLink RX4 15 "SensorTapes$Packer" "codes" "[I"] ++ wsX40)
def wsX5_init : List Cond := .code yX5_init cX5_init 1 none :: ([.methodLink RX5 3 objectInit, .instanceMethod objectInit, .code objectInit ⟨#[0xb1]⟩ 1 none, .classLink RX5 9 RX6, .instantiable RX6 2, .initialized RX6, .fieldLink RX5 12 "SensorTapes$Reader" "row" "LSensorTapes$Row;", .classLink RX5 18 RX1, .instantiable RX1 3, .initialized RX1, .fieldLink RX5 21 "SensorTapes$Reader" "fault" "LSensorTapes$Fault;", .instanceMethod yX6_init, .code yX6_init cX6_init 1 none, .methodLink RX6 3 objectInit, .arrayClass .int, .fieldLink RX6 9 "SensorTapes$Row" "samples" "[I", .instanceMethod yX1_init, .code yX1_init cX1_init 1 none, .methodLink RX1 3 objectInit, .fieldLink RX1 9 "SensorTapes$Fault" "number" "I", .fieldLink RX1 15 "SensorTapes$Fault" "place" "I", .fieldLink RX1 18 "SensorTapes$Fault" "samples" "I"] ++ wsX60 ++ wsX50 ++ wsX10)
def wsX8_quotient : List Cond := .code yX8_quotient cX8_quotient 2 (some .int) :: ([])
def wsX8_quotientUp : List Cond := .code yX8_quotientUp cX8_quotientUp 2 (some .int) :: ([.methodLink RX8 130 yX8_quotient, .static yX8_quotient, .initialized RX8, .code yX8_quotient cX8_quotient 2 (some .int)])
def wsX5_fail : List Cond := .code yX5_fail cX5_fail 3 (some .int) :: ([.fieldLink RX5 21 "SensorTapes$Reader" "fault" "LSensorTapes$Fault;", .fieldLink RX5 110 "SensorTapes$Fault" "number" "I", .fieldLink RX5 113 "SensorTapes$Fault" "place" "I", .fieldLink RX5 12 "SensorTapes$Reader" "row" "LSensorTapes$Row;", .fieldLink RX5 25 "SensorTapes$Row" "length" "I", .fieldLink RX5 116 "SensorTapes$Fault" "samples" "I"] ++ wsX50 ++ wsX10 ++ wsX60)
def wsX5_takeNumber : List Cond := .code yX5_takeNumber cX5_takeNumber 5 (some .int) :: ([.fieldLink RX5 55 "SensorTapes$Bits" "length" "I", .fieldLink RX5 29 "SensorTapes$Reader" "next" "I", .methodLink RX5 58 yX5_fail, .instanceMethod yX5_fail, .selects RX5 yX5_fail yX5_fail, .initialized RX5, .code yX5_fail cX5_fail 3 (some .int), .fieldLink RX5 21 "SensorTapes$Reader" "fault" "LSensorTapes$Fault;", .fieldLink RX5 110 "SensorTapes$Fault" "number" "I", .fieldLink RX5 113 "SensorTapes$Fault" "place" "I", .fieldLink RX5 12 "SensorTapes$Reader" "row" "LSensorTapes$Row;", .fieldLink RX5 25 "SensorTapes$Row" "length" "I", .fieldLink RX5 116 "SensorTapes$Fault" "samples" "I", .methodLink RX5 104 yX0_at, .instanceMethod yX0_at, .selects RX0 yX0_at yX0_at, .initialized RX0, .code yX0_at cX0_at 2 (some .int), .fieldLink RX0 15 "SensorTapes$Bits" "length" "I", .fieldLink RX0 9 "SensorTapes$Bits" "bits" "[I"] ++ wsX00 ++ wsX50 ++ wsX10 ++ wsX60)
def wsX5_takeByNoughts_r1 : List Cond := [Cond.fieldLink RX5 29 "SensorTapes$Reader" "next" "I", Cond.fieldLink RX5 55 "SensorTapes$Bits" "length" "I", Cond.fieldLink RX5 21 "SensorTapes$Reader" "fault" "LSensorTapes$Fault;", Cond.static yX8_topOf, Cond.initialized RX8, Cond.code yX8_topOf cX8_topOf 1 (some .int), Cond.methodLink RX5 104 yX0_at, Cond.instanceMethod yX0_at, Cond.selects RX0 yX0_at yX0_at, Cond.initialized RX0, Cond.code yX0_at cX0_at 2 (some .int), Cond.fieldLink RX0 15 "SensorTapes$Bits" "length" "I", Cond.fieldLink RX0 9 "SensorTapes$Bits" "bits" "[I", Cond.methodLink RX5 58 yX5_fail, Cond.instanceMethod yX5_fail, Cond.selects RX5 yX5_fail yX5_fail, Cond.initialized RX5, Cond.code yX5_fail cX5_fail 3 (some .int), Cond.fieldLink RX5 110 "SensorTapes$Fault" "number" "I", Cond.fieldLink RX5 113 "SensorTapes$Fault" "place" "I", Cond.fieldLink RX5 12 "SensorTapes$Reader" "row" "LSensorTapes$Row;", Cond.fieldLink RX5 25 "SensorTapes$Row" "length" "I", Cond.fieldLink RX5 116 "SensorTapes$Fault" "samples" "I", Cond.methodLink RX5 107 yX0_has]
def wsX5_takeByNoughts_r2 : List Cond := [Cond.instanceMethod yX0_has, Cond.selects RX0 yX0_has yX0_has, Cond.code yX0_has cX0_has 2 (some .boolean), Cond.methodLink RX5 61 yX5_takeNumber, Cond.instanceMethod yX5_takeNumber, Cond.selects RX5 yX5_takeNumber yX5_takeNumber, Cond.code yX5_takeNumber cX5_takeNumber 5 (some .int), Cond.methodLink RX5 44 yX1_isTold, Cond.instanceMethod yX1_isTold, Cond.selects RX1 yX1_isTold yX1_isTold, Cond.initialized RX1, Cond.code yX1_isTold cX1_isTold 1 (some .boolean), Cond.fieldLink RX1 9 "SensorTapes$Fault" "number" "I"]
def wsX5_takeByNoughts : List Cond := .code yX5_takeByNoughts cX5_takeByNoughts 7 (some .int) :: ((wsX5_takeByNoughts_r1 ++ wsX5_takeByNoughts_r2) ++ wsX50 ++ wsX00 ++ wsX10 ++ wsX60)
def wsX8_unfold : List Cond := .code yX8_unfold cX8_unfold 4 (some .int) :: ([.methodLink RX8 147 Lib.Math.min.name, .static Lib.Math.min.name, .initialized "java/lang/Math", .code Lib.Math.min.name Lib.Math.min.code 2 (some .int)])
def wsX5_takeTold_r1 : List Cond := [Cond.fieldLink RX5 69 "SensorTapes$Rules" "width" "I", Cond.fieldLink RX5 21 "SensorTapes$Reader" "fault" "LSensorTapes$Fault;", Cond.fieldLink RX5 12 "SensorTapes$Reader" "row" "LSensorTapes$Row;", Cond.fieldLink RX5 25 "SensorTapes$Row" "length" "I", Cond.methodLink RX5 61 yX5_takeNumber, Cond.instanceMethod yX5_takeNumber, Cond.selects RX5 yX5_takeNumber yX5_takeNumber, Cond.initialized RX5, Cond.code yX5_takeNumber cX5_takeNumber 5 (some .int), Cond.fieldLink RX5 55 "SensorTapes$Bits" "length" "I", Cond.fieldLink RX5 29 "SensorTapes$Reader" "next" "I", Cond.methodLink RX5 58 yX5_fail, Cond.instanceMethod yX5_fail, Cond.selects RX5 yX5_fail yX5_fail, Cond.code yX5_fail cX5_fail 3 (some .int), Cond.fieldLink RX5 110 "SensorTapes$Fault" "number" "I", Cond.fieldLink RX5 113 "SensorTapes$Fault" "place" "I", Cond.fieldLink RX5 116 "SensorTapes$Fault" "samples" "I", Cond.methodLink RX5 104 yX0_at, Cond.instanceMethod yX0_at, Cond.selects RX0 yX0_at yX0_at, Cond.initialized RX0, Cond.code yX0_at cX0_at 2 (some .int), Cond.fieldLink RX0 15 "SensorTapes$Bits" "length" "I"]
def wsX5_takeTold_r2 : List Cond := [Cond.fieldLink RX0 9 "SensorTapes$Bits" "bits" "[I", Cond.methodLink RX5 88 yX5_takeByNoughts, Cond.instanceMethod yX5_takeByNoughts, Cond.selects RX5 yX5_takeByNoughts yX5_takeByNoughts, Cond.code yX5_takeByNoughts cX5_takeByNoughts 7 (some .int), Cond.static yX8_topOf, Cond.initialized RX8, Cond.code yX8_topOf cX8_topOf 1 (some .int), Cond.methodLink RX5 107 yX0_has, Cond.instanceMethod yX0_has, Cond.selects RX0 yX0_has yX0_has, Cond.code yX0_has cX0_has 2 (some .boolean), Cond.methodLink RX5 44 yX1_isTold, Cond.instanceMethod yX1_isTold, Cond.selects RX1 yX1_isTold yX1_isTold, Cond.initialized RX1, Cond.code yX1_isTold cX1_isTold 1 (some .boolean), Cond.fieldLink RX1 9 "SensorTapes$Fault" "number" "I", Cond.static yX8_toldAhead, Cond.code yX8_toldAhead cX8_toldAhead 7 (some .int), Cond.fieldLink RX8 213 "SensorTapes$Rules" "width" "I", Cond.methodLink RX8 147 Lib.Math.min.name, Cond.static Lib.Math.min.name, Cond.initialized "java/lang/Math"]
def wsX5_takeTold_r3 : List Cond := [Cond.code Lib.Math.min.name Lib.Math.min.code 2 (some .int), Cond.methodLink RX8 216 Lib.Math.max.name, Cond.static Lib.Math.max.name, Cond.code Lib.Math.max.name Lib.Math.max.code 2 (some .int), Cond.methodLink RX8 44 yX8_topOf, Cond.methodLink RX8 78 yX6_at, Cond.instanceMethod yX6_at, Cond.selects RX6 yX6_at yX6_at, Cond.initialized RX6, Cond.code yX6_at cX6_at 2 (some .int), Cond.fieldLink RX6 15 "SensorTapes$Row" "length" "I", Cond.fieldLink RX6 9 "SensorTapes$Row" "samples" "[I", Cond.methodLink RX8 88 yX7_isBare, Cond.instanceMethod yX7_isBare, Cond.selects RX7 yX7_isBare yX7_isBare, Cond.initialized RX7, Cond.code yX7_isBare cX7_isBare 3 (some .boolean), Cond.fieldLink RX7 13 "SensorTapes$Rules" "size" "I", Cond.fieldLink RX7 16 "SensorTapes$Rules" "every" "I", Cond.methodLink RX5 96 yX7_top, Cond.instanceMethod yX7_top, Cond.selects RX7 yX7_top yX7_top, Cond.code yX7_top cX7_top 1 (some .int), Cond.fieldLink RX7 7 "SensorTapes$Rules" "width" "I"]
def wsX5_takeTold_r4 : List Cond := [Cond.static yX8_unfold, Cond.code yX8_unfold cX8_unfold 4 (some .int)]
def wsX5_takeTold : List Cond := .code yX5_takeTold cX5_takeTold 6 (some .int) :: ((wsX5_takeTold_r1 ++ (wsX5_takeTold_r2 ++ (wsX5_takeTold_r3 ++ wsX5_takeTold_r4))) ++ wsX70 ++ wsX50 ++ wsX60 ++ wsX00 ++ wsX10)
def wsX6_append : List Cond := .code yX6_append cX6_append 2 none :: ([.fieldLink RX6 15 "SensorTapes$Row" "length" "I", .fieldLink RX6 9 "SensorTapes$Row" "samples" "[I"] ++ wsX60)
def wsX5_takeBlock_r1 : List Cond := [Cond.fieldLink RX5 29 "SensorTapes$Reader" "next" "I", Cond.fieldLink RX5 21 "SensorTapes$Reader" "fault" "LSensorTapes$Fault;", Cond.fieldLink RX5 69 "SensorTapes$Rules" "width" "I", Cond.fieldLink RX5 12 "SensorTapes$Reader" "row" "LSensorTapes$Row;", Cond.fieldLink RX5 25 "SensorTapes$Row" "length" "I", Cond.methodLink RX5 61 yX5_takeNumber, Cond.instanceMethod yX5_takeNumber, Cond.selects RX5 yX5_takeNumber yX5_takeNumber, Cond.initialized RX5, Cond.code yX5_takeNumber cX5_takeNumber 5 (some .int), Cond.fieldLink RX5 55 "SensorTapes$Bits" "length" "I", Cond.methodLink RX5 58 yX5_fail, Cond.instanceMethod yX5_fail, Cond.selects RX5 yX5_fail yX5_fail, Cond.code yX5_fail cX5_fail 3 (some .int), Cond.fieldLink RX5 110 "SensorTapes$Fault" "number" "I", Cond.fieldLink RX5 113 "SensorTapes$Fault" "place" "I", Cond.fieldLink RX5 116 "SensorTapes$Fault" "samples" "I", Cond.methodLink RX5 104 yX0_at, Cond.instanceMethod yX0_at, Cond.selects RX0 yX0_at yX0_at, Cond.initialized RX0, Cond.code yX0_at cX0_at 2 (some .int), Cond.fieldLink RX0 15 "SensorTapes$Bits" "length" "I"]
def wsX5_takeBlock_r2 : List Cond := [Cond.fieldLink RX0 9 "SensorTapes$Bits" "bits" "[I", Cond.methodLink RX5 44 yX1_isTold, Cond.instanceMethod yX1_isTold, Cond.selects RX1 yX1_isTold yX1_isTold, Cond.initialized RX1, Cond.code yX1_isTold cX1_isTold 1 (some .boolean), Cond.fieldLink RX1 9 "SensorTapes$Fault" "number" "I", Cond.static yX8_topOf, Cond.initialized RX8, Cond.code yX8_topOf cX8_topOf 1 (some .int), Cond.static yX8_isCode, Cond.code yX8_isCode cX8_isCode 2 (some .boolean), Cond.methodLink RX5 76 yX7_isBare, Cond.instanceMethod yX7_isBare, Cond.selects RX7 yX7_isBare yX7_isBare, Cond.initialized RX7, Cond.code yX7_isBare cX7_isBare 3 (some .boolean), Cond.fieldLink RX7 13 "SensorTapes$Rules" "size" "I", Cond.fieldLink RX7 16 "SensorTapes$Rules" "every" "I", Cond.methodLink RX5 80 yX5_takeTold, Cond.instanceMethod yX5_takeTold, Cond.selects RX5 yX5_takeTold yX5_takeTold, Cond.code yX5_takeTold cX5_takeTold 6 (some .int), Cond.methodLink RX5 88 yX5_takeByNoughts]
def wsX5_takeBlock_r3 : List Cond := [Cond.instanceMethod yX5_takeByNoughts, Cond.selects RX5 yX5_takeByNoughts yX5_takeByNoughts, Cond.code yX5_takeByNoughts cX5_takeByNoughts 7 (some .int), Cond.methodLink RX5 107 yX0_has, Cond.instanceMethod yX0_has, Cond.selects RX0 yX0_has yX0_has, Cond.code yX0_has cX0_has 2 (some .boolean), Cond.static yX8_toldAhead, Cond.code yX8_toldAhead cX8_toldAhead 7 (some .int), Cond.fieldLink RX8 213 "SensorTapes$Rules" "width" "I", Cond.methodLink RX8 147 Lib.Math.min.name, Cond.static Lib.Math.min.name, Cond.initialized "java/lang/Math", Cond.code Lib.Math.min.name Lib.Math.min.code 2 (some .int), Cond.methodLink RX8 216 Lib.Math.max.name, Cond.static Lib.Math.max.name, Cond.code Lib.Math.max.name Lib.Math.max.code 2 (some .int), Cond.methodLink RX8 44 yX8_topOf, Cond.methodLink RX8 78 yX6_at, Cond.instanceMethod yX6_at, Cond.selects RX6 yX6_at yX6_at, Cond.initialized RX6, Cond.code yX6_at cX6_at 2 (some .int), Cond.fieldLink RX6 15 "SensorTapes$Row" "length" "I"]
def wsX5_takeBlock_r4 : List Cond := [Cond.fieldLink RX6 9 "SensorTapes$Row" "samples" "[I", Cond.methodLink RX8 88 yX7_isBare, Cond.methodLink RX5 96 yX7_top, Cond.instanceMethod yX7_top, Cond.selects RX7 yX7_top yX7_top, Cond.code yX7_top cX7_top 1 (some .int), Cond.fieldLink RX7 7 "SensorTapes$Rules" "width" "I", Cond.static yX8_unfold, Cond.code yX8_unfold cX8_unfold 4 (some .int), Cond.methodLink RX5 84 yX6_append, Cond.instanceMethod yX6_append, Cond.selects RX6 yX6_append yX6_append, Cond.code yX6_append cX6_append 2 none]
def wsX5_takeBlock : List Cond := .code yX5_takeBlock cX5_takeBlock 10 none :: ((wsX5_takeBlock_r1 ++ (wsX5_takeBlock_r2 ++ (wsX5_takeBlock_r3 ++ wsX5_takeBlock_r4))) ++ wsX50 ++ wsX70 ++ wsX60 ++ wsX00 ++ wsX10)
def wsX5_takeAll_r1 : List Cond := [Cond.fieldLink RX5 12 "SensorTapes$Reader" "row" "LSensorTapes$Row;", Cond.fieldLink RX5 25 "SensorTapes$Row" "length" "I", Cond.fieldLink RX5 29 "SensorTapes$Reader" "next" "I", Cond.fieldLink RX5 21 "SensorTapes$Reader" "fault" "LSensorTapes$Fault;", Cond.fieldLink RX5 35 "SensorTapes$Rules" "size" "I", Cond.fieldLink RX5 55 "SensorTapes$Bits" "length" "I", Cond.methodLink RX5 32 yX1_forget, Cond.instanceMethod yX1_forget, Cond.selects RX1 yX1_forget yX1_forget, Cond.initialized RX1, Cond.code yX1_forget cX1_forget 1 none, Cond.fieldLink RX1 9 "SensorTapes$Fault" "number" "I", Cond.fieldLink RX1 15 "SensorTapes$Fault" "place" "I", Cond.fieldLink RX1 18 "SensorTapes$Fault" "samples" "I", Cond.static yX8_quotientUp, Cond.initialized RX8, Cond.code yX8_quotientUp cX8_quotientUp 2 (some .int), Cond.methodLink RX8 130 yX8_quotient, Cond.static yX8_quotient, Cond.code yX8_quotient cX8_quotient 2 (some .int), Cond.methodLink RX5 44 yX1_isTold, Cond.instanceMethod yX1_isTold, Cond.selects RX1 yX1_isTold yX1_isTold, Cond.code yX1_isTold cX1_isTold 1 (some .boolean)]
def wsX5_takeAll_r2 : List Cond := [Cond.methodLink RX5 48 yX7_endOfBlock, Cond.instanceMethod yX7_endOfBlock, Cond.selects RX7 yX7_endOfBlock yX7_endOfBlock, Cond.initialized RX7, Cond.code yX7_endOfBlock cX7_endOfBlock 3 (some .int), Cond.fieldLink RX7 13 "SensorTapes$Rules" "size" "I", Cond.methodLink RX7 29 Lib.Math.min.name, Cond.static Lib.Math.min.name, Cond.initialized "java/lang/Math", Cond.code Lib.Math.min.name Lib.Math.min.code 2 (some .int), Cond.methodLink RX5 51 yX5_takeBlock, Cond.instanceMethod yX5_takeBlock, Cond.selects RX5 yX5_takeBlock yX5_takeBlock, Cond.initialized RX5, Cond.code yX5_takeBlock cX5_takeBlock 10 none, Cond.fieldLink RX5 69 "SensorTapes$Rules" "width" "I", Cond.methodLink RX5 61 yX5_takeNumber, Cond.instanceMethod yX5_takeNumber, Cond.selects RX5 yX5_takeNumber yX5_takeNumber, Cond.code yX5_takeNumber cX5_takeNumber 5 (some .int), Cond.methodLink RX5 58 yX5_fail, Cond.instanceMethod yX5_fail, Cond.selects RX5 yX5_fail yX5_fail, Cond.code yX5_fail cX5_fail 3 (some .int)]
def wsX5_takeAll_r3 : List Cond := [Cond.fieldLink RX5 110 "SensorTapes$Fault" "number" "I", Cond.fieldLink RX5 113 "SensorTapes$Fault" "place" "I", Cond.fieldLink RX5 116 "SensorTapes$Fault" "samples" "I", Cond.methodLink RX5 104 yX0_at, Cond.instanceMethod yX0_at, Cond.selects RX0 yX0_at yX0_at, Cond.initialized RX0, Cond.code yX0_at cX0_at 2 (some .int), Cond.fieldLink RX0 15 "SensorTapes$Bits" "length" "I", Cond.fieldLink RX0 9 "SensorTapes$Bits" "bits" "[I", Cond.static yX8_topOf, Cond.code yX8_topOf cX8_topOf 1 (some .int), Cond.static yX8_isCode, Cond.code yX8_isCode cX8_isCode 2 (some .boolean), Cond.methodLink RX5 76 yX7_isBare, Cond.instanceMethod yX7_isBare, Cond.selects RX7 yX7_isBare yX7_isBare, Cond.code yX7_isBare cX7_isBare 3 (some .boolean), Cond.fieldLink RX7 16 "SensorTapes$Rules" "every" "I", Cond.methodLink RX5 80 yX5_takeTold, Cond.instanceMethod yX5_takeTold, Cond.selects RX5 yX5_takeTold yX5_takeTold, Cond.code yX5_takeTold cX5_takeTold 6 (some .int), Cond.methodLink RX5 88 yX5_takeByNoughts]
def wsX5_takeAll_r4 : List Cond := [Cond.instanceMethod yX5_takeByNoughts, Cond.selects RX5 yX5_takeByNoughts yX5_takeByNoughts, Cond.code yX5_takeByNoughts cX5_takeByNoughts 7 (some .int), Cond.methodLink RX5 107 yX0_has, Cond.instanceMethod yX0_has, Cond.selects RX0 yX0_has yX0_has, Cond.code yX0_has cX0_has 2 (some .boolean), Cond.static yX8_toldAhead, Cond.code yX8_toldAhead cX8_toldAhead 7 (some .int), Cond.fieldLink RX8 213 "SensorTapes$Rules" "width" "I", Cond.methodLink RX8 147 Lib.Math.min.name, Cond.methodLink RX8 216 Lib.Math.max.name, Cond.static Lib.Math.max.name, Cond.code Lib.Math.max.name Lib.Math.max.code 2 (some .int), Cond.methodLink RX8 44 yX8_topOf, Cond.methodLink RX8 78 yX6_at, Cond.instanceMethod yX6_at, Cond.selects RX6 yX6_at yX6_at, Cond.initialized RX6, Cond.code yX6_at cX6_at 2 (some .int), Cond.fieldLink RX6 15 "SensorTapes$Row" "length" "I", Cond.fieldLink RX6 9 "SensorTapes$Row" "samples" "[I", Cond.methodLink RX8 88 yX7_isBare, Cond.methodLink RX5 96 yX7_top]
def wsX5_takeAll_r5 : List Cond := [Cond.instanceMethod yX7_top, Cond.selects RX7 yX7_top yX7_top, Cond.code yX7_top cX7_top 1 (some .int), Cond.fieldLink RX7 7 "SensorTapes$Rules" "width" "I", Cond.static yX8_unfold, Cond.code yX8_unfold cX8_unfold 4 (some .int), Cond.methodLink RX5 84 yX6_append, Cond.instanceMethod yX6_append, Cond.selects RX6 yX6_append yX6_append, Cond.code yX6_append cX6_append 2 none]
def wsX5_takeAll : List Cond := .code yX5_takeAll cX5_takeAll 6 none :: ((wsX5_takeAll_r1 ++ (wsX5_takeAll_r2 ++ (wsX5_takeAll_r3 ++ (wsX5_takeAll_r4 ++ wsX5_takeAll_r5)))) ++ wsX50 ++ wsX60 ++ wsX70 ++ wsX00 ++ wsX10)
def wsX6_has : List Cond := .code yX6_has cX6_has 2 (some .boolean) :: ([.fieldLink RX6 15 "SensorTapes$Row" "length" "I"] ++ wsX60)
def wsX6_highest : List Cond := .code yX6_highest cX6_highest 3 (some .int) :: ([.fieldLink RX6 15 "SensorTapes$Row" "length" "I", .fieldLink RX6 9 "SensorTapes$Row" "samples" "[I", .methodLink RX6 19 Lib.Math.max.name, .static Lib.Math.max.name, .initialized "java/lang/Math", .code Lib.Math.max.name Lib.Math.max.code 2 (some .int)] ++ wsX60)
def wsX7_segmentSize : List Cond := .code yX7_segmentSize cX7_segmentSize 1 (some .int) :: ([.fieldLink RX7 13 "SensorTapes$Rules" "size" "I", .fieldLink RX7 16 "SensorTapes$Rules" "every" "I"] ++ wsX70)
def wsX7_blockWith : List Cond := .code yX7_blockWith cX7_blockWith 2 (some .int) :: ([.fieldLink RX7 13 "SensorTapes$Rules" "size" "I", .static yX8_quotient, .initialized RX8, .code yX8_quotient cX8_quotient 2 (some .int)] ++ wsX70)
def wsX7_value : List Cond := .code yX7_value cX7_value 2 (some .int) :: ([.fieldLink RX7 7 "SensorTapes$Rules" "width" "I", .fieldLink RX7 13 "SensorTapes$Rules" "size" "I", .fieldLink RX7 16 "SensorTapes$Rules" "every" "I"] ++ wsX70)
def wsX7_change : List Cond := .code yX7_change cX7_change 3 none :: ([.fieldLink RX7 7 "SensorTapes$Rules" "width" "I", .fieldLink RX7 13 "SensorTapes$Rules" "size" "I", .fieldLink RX7 16 "SensorTapes$Rules" "every" "I"] ++ wsX70)
def wsX8_init_r1 : List Cond := [Cond.methodLink RX8 1 objectInit, Cond.instanceMethod objectInit, Cond.code objectInit ⟨#[0xb1]⟩ 1 none, Cond.classLink RX8 7 RX3, Cond.instantiable RX3 4, Cond.initialized RX3, Cond.fieldLink RX8 10 "SensorTapes" "now" "LSensorTapes$Held;", Cond.fieldLink RX8 16 "SensorTapes" "images" "[LSensorTapes$Held;", Cond.classLink RX8 20 RX4, Cond.instantiable RX4 6, Cond.initialized RX4, Cond.fieldLink RX8 23 "SensorTapes" "packer" "LSensorTapes$Packer;", Cond.classLink RX8 27 RX5, Cond.instantiable RX5 3, Cond.initialized RX5, Cond.fieldLink RX8 30 "SensorTapes" "reader" "LSensorTapes$Reader;", Cond.instanceMethod yX3_init, Cond.code yX3_init cX3_init 1 none, Cond.methodLink RX3 1 objectInit, Cond.classLink RX3 7 RX7, Cond.instantiable RX7 3, Cond.initialized RX7, Cond.fieldLink RX3 10 "SensorTapes$Held" "rules" "LSensorTapes$Rules;", Cond.classLink RX3 16 RX6]
def wsX8_init_r2 : List Cond := [Cond.instantiable RX6 2, Cond.initialized RX6, Cond.fieldLink RX3 19 "SensorTapes$Held" "row" "LSensorTapes$Row;", Cond.classLink RX3 23 RX0, Cond.instantiable RX0 2, Cond.initialized RX0, Cond.fieldLink RX3 26 "SensorTapes$Held" "tape" "LSensorTapes$Bits;", Cond.classLink RX3 30 RX1, Cond.instantiable RX1 3, Cond.initialized RX1, Cond.fieldLink RX3 33 "SensorTapes$Held" "fault" "LSensorTapes$Fault;", Cond.instanceMethod yX7_init, Cond.code yX7_init cX7_init 1 none, Cond.methodLink RX7 1 objectInit, Cond.fieldLink RX7 7 "SensorTapes$Rules" "width" "I", Cond.fieldLink RX7 13 "SensorTapes$Rules" "size" "I", Cond.fieldLink RX7 16 "SensorTapes$Rules" "every" "I", Cond.instanceMethod yX6_init, Cond.code yX6_init cX6_init 1 none, Cond.methodLink RX6 3 objectInit, Cond.arrayClass .int, Cond.fieldLink RX6 9 "SensorTapes$Row" "samples" "[I", Cond.instanceMethod yX0_init, Cond.code yX0_init cX0_init 1 none]
def wsX8_init_r3 : List Cond := [Cond.methodLink RX0 3 objectInit, Cond.fieldLink RX0 9 "SensorTapes$Bits" "bits" "[I", Cond.instanceMethod yX1_init, Cond.code yX1_init cX1_init 1 none, Cond.methodLink RX1 3 objectInit, Cond.fieldLink RX1 9 "SensorTapes$Fault" "number" "I", Cond.fieldLink RX1 15 "SensorTapes$Fault" "place" "I", Cond.fieldLink RX1 18 "SensorTapes$Fault" "samples" "I", Cond.instanceMethod yX4_init, Cond.code yX4_init cX4_init 1 none, Cond.methodLink RX4 3 objectInit, Cond.fieldLink RX4 9 "SensorTapes$Packer" "ways" "[I", Cond.fieldLink RX4 15 "SensorTapes$Packer" "codes" "[I", Cond.fieldLink RX4 18 "SensorTapes$Packer" "firsts" "[I", Cond.classLink RX4 21 RX0, Cond.fieldLink RX4 24 "SensorTapes$Packer" "bits" "LSensorTapes$Bits;", Cond.classLink RX4 28 RX2, Cond.instantiable RX2 6, Cond.initialized RX2, Cond.fieldLink RX4 31 "SensorTapes$Packer" "folded" "LSensorTapes$Folded;", Cond.instanceMethod yX2_init, Cond.code yX2_init cX2_init 1 none, Cond.methodLink RX2 3 objectInit, Cond.fieldLink RX2 9 "SensorTapes$Folded" "folds" "[I"]
def wsX8_init_r4 : List Cond := [Cond.instanceMethod yX5_init, Cond.code yX5_init cX5_init 1 none, Cond.methodLink RX5 3 objectInit, Cond.classLink RX5 9 RX6, Cond.fieldLink RX5 12 "SensorTapes$Reader" "row" "LSensorTapes$Row;", Cond.classLink RX5 18 RX1, Cond.fieldLink RX5 21 "SensorTapes$Reader" "fault" "LSensorTapes$Fault;"]
def wsX8_init : List Cond := .code yX8_init cX8_init 1 none :: ((wsX8_init_r1 ++ (wsX8_init_r2 ++ (wsX8_init_r3 ++ wsX8_init_r4))) ++ wsX30 ++ wsX80 ++ wsX40 ++ wsX50 ++ wsX70 ++ wsX60 ++ wsX00 ++ wsX10 ++ wsX20)
def wsX8_rule_r1 : List Cond := [Cond.fieldLink RX8 10 "SensorTapes" "now" "LSensorTapes$Held;", Cond.fieldLink RX8 34 "SensorTapes$Held" "row" "LSensorTapes$Row;", Cond.fieldLink RX8 48 "SensorTapes$Held" "rules" "LSensorTapes$Rules;", Cond.fieldLink RX8 23 "SensorTapes" "packer" "LSensorTapes$Packer;", Cond.methodLink RX8 38 yX6_highest, Cond.instanceMethod yX6_highest, Cond.selects RX6 yX6_highest yX6_highest, Cond.initialized RX6, Cond.code yX6_highest cX6_highest 3 (some .int), Cond.fieldLink RX6 15 "SensorTapes$Row" "length" "I", Cond.fieldLink RX6 9 "SensorTapes$Row" "samples" "[I", Cond.methodLink RX6 19 Lib.Math.max.name, Cond.static Lib.Math.max.name, Cond.initialized "java/lang/Math", Cond.code Lib.Math.max.name Lib.Math.max.code 2 (some .int), Cond.methodLink RX8 44 yX8_topOf, Cond.static yX8_topOf, Cond.initialized RX8, Cond.code yX8_topOf cX8_topOf 1 (some .int), Cond.methodLink RX8 52 yX7_value, Cond.instanceMethod yX7_value, Cond.selects RX7 yX7_value yX7_value, Cond.initialized RX7, Cond.code yX7_value cX7_value 2 (some .int)]
def wsX8_rule_r2 : List Cond := [Cond.fieldLink RX7 7 "SensorTapes$Rules" "width" "I", Cond.fieldLink RX7 13 "SensorTapes$Rules" "size" "I", Cond.fieldLink RX7 16 "SensorTapes$Rules" "every" "I", Cond.methodLink RX8 57 yX7_change, Cond.instanceMethod yX7_change, Cond.selects RX7 yX7_change yX7_change, Cond.code yX7_change cX7_change 3 none, Cond.methodLink RX8 61 yX4_keepOnly, Cond.instanceMethod yX4_keepOnly, Cond.selects RX4 yX4_keepOnly yX4_keepOnly, Cond.initialized RX4, Cond.code yX4_keepOnly cX4_keepOnly 2 none, Cond.fieldLink RX4 35 "SensorTapes$Packer" "settled" "I", Cond.fieldLink RX4 24 "SensorTapes$Packer" "bits" "LSensorTapes$Bits;", Cond.fieldLink RX4 18 "SensorTapes$Packer" "firsts" "[I", Cond.fieldLink RX4 39 "SensorTapes$Bits" "length" "I"]
def wsX8_rule : List Cond := .code yX8_rule cX8_rule 5 (some .int) :: ((wsX8_rule_r1 ++ wsX8_rule_r2) ++ wsX80 ++ wsX30 ++ wsX60 ++ wsX70 ++ wsX40 ++ wsX00)
def wsX8_add_r1 : List Cond := [Cond.fieldLink RX8 10 "SensorTapes" "now" "LSensorTapes$Held;", Cond.fieldLink RX8 48 "SensorTapes$Held" "rules" "LSensorTapes$Rules;", Cond.fieldLink RX8 34 "SensorTapes$Held" "row" "LSensorTapes$Row;", Cond.fieldLink RX8 68 "SensorTapes$Row" "length" "I", Cond.fieldLink RX8 23 "SensorTapes" "packer" "LSensorTapes$Packer;", Cond.methodLink RX8 65 yX7_top, Cond.instanceMethod yX7_top, Cond.selects RX7 yX7_top yX7_top, Cond.initialized RX7, Cond.code yX7_top cX7_top 1 (some .int), Cond.fieldLink RX7 7 "SensorTapes$Rules" "width" "I", Cond.static yX8_topOf, Cond.initialized RX8, Cond.code yX8_topOf cX8_topOf 1 (some .int), Cond.methodLink RX8 72 yX7_blockWith, Cond.instanceMethod yX7_blockWith, Cond.selects RX7 yX7_blockWith yX7_blockWith, Cond.code yX7_blockWith cX7_blockWith 2 (some .int), Cond.fieldLink RX7 13 "SensorTapes$Rules" "size" "I", Cond.static yX8_quotient, Cond.code yX8_quotient cX8_quotient 2 (some .int), Cond.methodLink RX8 61 yX4_keepOnly, Cond.instanceMethod yX4_keepOnly, Cond.selects RX4 yX4_keepOnly yX4_keepOnly]
def wsX8_add_r2 : List Cond := [Cond.initialized RX4, Cond.code yX4_keepOnly cX4_keepOnly 2 none, Cond.fieldLink RX4 35 "SensorTapes$Packer" "settled" "I", Cond.fieldLink RX4 24 "SensorTapes$Packer" "bits" "LSensorTapes$Bits;", Cond.fieldLink RX4 18 "SensorTapes$Packer" "firsts" "[I", Cond.fieldLink RX4 39 "SensorTapes$Bits" "length" "I", Cond.methodLink RX8 75 yX6_append, Cond.instanceMethod yX6_append, Cond.selects RX6 yX6_append yX6_append, Cond.initialized RX6, Cond.code yX6_append cX6_append 2 none, Cond.fieldLink RX6 15 "SensorTapes$Row" "length" "I", Cond.fieldLink RX6 9 "SensorTapes$Row" "samples" "[I"]
def wsX8_add : List Cond := .code yX8_add cX8_add 2 (some .int) :: ((wsX8_add_r1 ++ wsX8_add_r2) ++ wsX80 ++ wsX30 ++ wsX60 ++ wsX70 ++ wsX40 ++ wsX00)
def wsX8_clear : List Cond := .code yX8_clear cX8_clear 2 (some .int) :: ([.fieldLink RX8 10 "SensorTapes" "now" "LSensorTapes$Held;", .fieldLink RX8 34 "SensorTapes$Held" "row" "LSensorTapes$Row;", .fieldLink RX8 68 "SensorTapes$Row" "length" "I", .fieldLink RX8 23 "SensorTapes" "packer" "LSensorTapes$Packer;", .methodLink RX8 61 yX4_keepOnly, .instanceMethod yX4_keepOnly, .selects RX4 yX4_keepOnly yX4_keepOnly, .initialized RX4, .code yX4_keepOnly cX4_keepOnly 2 none, .fieldLink RX4 35 "SensorTapes$Packer" "settled" "I", .fieldLink RX4 24 "SensorTapes$Packer" "bits" "LSensorTapes$Bits;", .fieldLink RX4 18 "SensorTapes$Packer" "firsts" "[I", .fieldLink RX4 39 "SensorTapes$Bits" "length" "I"] ++ wsX80 ++ wsX30 ++ wsX60 ++ wsX40 ++ wsX00)
def wsX8_sample : List Cond := .code yX8_sample cX8_sample 2 (some .int) :: ([.fieldLink RX8 10 "SensorTapes" "now" "LSensorTapes$Held;", .fieldLink RX8 34 "SensorTapes$Held" "row" "LSensorTapes$Row;", .methodLink RX8 78 yX6_at, .instanceMethod yX6_at, .selects RX6 yX6_at yX6_at, .initialized RX6, .code yX6_at cX6_at 2 (some .int), .fieldLink RX6 15 "SensorTapes$Row" "length" "I", .fieldLink RX6 9 "SensorTapes$Row" "samples" "[I"] ++ wsX80 ++ wsX30 ++ wsX60)
def wsX8_isWay : List Cond := .code yX8_isWay cX8_isWay 1 (some .boolean) :: ([])
def wsX8_ahead_r1 : List Cond := [Cond.fieldLink RX8 10 "SensorTapes" "now" "LSensorTapes$Held;", Cond.fieldLink RX8 34 "SensorTapes$Held" "row" "LSensorTapes$Row;", Cond.fieldLink RX8 48 "SensorTapes$Held" "rules" "LSensorTapes$Rules;", Cond.methodLink RX8 81 yX8_isWay, Cond.static yX8_isWay, Cond.initialized RX8, Cond.code yX8_isWay cX8_isWay 1 (some .boolean), Cond.methodLink RX8 85 yX6_has, Cond.instanceMethod yX6_has, Cond.selects RX6 yX6_has yX6_has, Cond.initialized RX6, Cond.code yX6_has cX6_has 2 (some .boolean), Cond.fieldLink RX6 15 "SensorTapes$Row" "length" "I", Cond.methodLink RX8 88 yX7_isBare, Cond.instanceMethod yX7_isBare, Cond.selects RX7 yX7_isBare yX7_isBare, Cond.initialized RX7, Cond.code yX7_isBare cX7_isBare 3 (some .boolean), Cond.fieldLink RX7 13 "SensorTapes$Rules" "size" "I", Cond.fieldLink RX7 16 "SensorTapes$Rules" "every" "I", Cond.methodLink RX8 91 yX8_toldAhead, Cond.static yX8_toldAhead, Cond.code yX8_toldAhead cX8_toldAhead 7 (some .int), Cond.fieldLink RX8 213 "SensorTapes$Rules" "width" "I"]
def wsX8_ahead_r2 : List Cond := [Cond.methodLink RX8 147 Lib.Math.min.name, Cond.static Lib.Math.min.name, Cond.initialized "java/lang/Math", Cond.code Lib.Math.min.name Lib.Math.min.code 2 (some .int), Cond.methodLink RX8 216 Lib.Math.max.name, Cond.static Lib.Math.max.name, Cond.code Lib.Math.max.name Lib.Math.max.code 2 (some .int), Cond.methodLink RX8 44 yX8_topOf, Cond.static yX8_topOf, Cond.code yX8_topOf cX8_topOf 1 (some .int), Cond.methodLink RX8 78 yX6_at, Cond.instanceMethod yX6_at, Cond.selects RX6 yX6_at yX6_at, Cond.code yX6_at cX6_at 2 (some .int), Cond.fieldLink RX6 9 "SensorTapes$Row" "samples" "[I", Cond.methodLink RX8 65 yX7_top, Cond.instanceMethod yX7_top, Cond.selects RX7 yX7_top yX7_top, Cond.code yX7_top cX7_top 1 (some .int), Cond.fieldLink RX7 7 "SensorTapes$Rules" "width" "I", Cond.methodLink RX8 95 yX8_fold, Cond.static yX8_fold, Cond.code yX8_fold cX8_fold 4 (some .int), Cond.methodLink RX8 219 Lib.Math.abs.name]
def wsX8_ahead_r3 : List Cond := [Cond.static Lib.Math.abs.name, Cond.code Lib.Math.abs.name Lib.Math.abs.code 1 (some .int)]
def wsX8_ahead : List Cond := .code yX8_ahead cX8_ahead 5 (some .int) :: ((wsX8_ahead_r1 ++ (wsX8_ahead_r2 ++ wsX8_ahead_r3)) ++ wsX80 ++ wsX30 ++ wsX60 ++ wsX70)
def wsX8_blocks : List Cond := .code yX8_blocks cX8_blocks 1 (some .int) :: ([.fieldLink RX8 10 "SensorTapes" "now" "LSensorTapes$Held;", .fieldLink RX8 34 "SensorTapes$Held" "row" "LSensorTapes$Row;", .fieldLink RX8 68 "SensorTapes$Row" "length" "I", .fieldLink RX8 48 "SensorTapes$Held" "rules" "LSensorTapes$Rules;", .fieldLink RX8 124 "SensorTapes$Rules" "size" "I", .methodLink RX8 207 yX8_quotientUp, .static yX8_quotientUp, .initialized RX8, .code yX8_quotientUp cX8_quotientUp 2 (some .int), .methodLink RX8 130 yX8_quotient, .static yX8_quotient, .code yX8_quotient cX8_quotient 2 (some .int)] ++ wsX80 ++ wsX30 ++ wsX60 ++ wsX70)
def wsX8_hasBlock : List Cond := .code yX8_hasBlock cX8_hasBlock 2 (some .boolean) :: ([.methodLink RX8 204 yX8_blocks, .instanceMethod yX8_blocks, .selects RX8 yX8_blocks yX8_blocks, .initialized RX8, .code yX8_blocks cX8_blocks 1 (some .int), .fieldLink RX8 10 "SensorTapes" "now" "LSensorTapes$Held;", .fieldLink RX8 34 "SensorTapes$Held" "row" "LSensorTapes$Row;", .fieldLink RX8 68 "SensorTapes$Row" "length" "I", .fieldLink RX8 48 "SensorTapes$Held" "rules" "LSensorTapes$Rules;", .fieldLink RX8 124 "SensorTapes$Rules" "size" "I", .methodLink RX8 207 yX8_quotientUp, .static yX8_quotientUp, .code yX8_quotientUp cX8_quotientUp 2 (some .int), .methodLink RX8 130 yX8_quotient, .static yX8_quotient, .code yX8_quotient cX8_quotient 2 (some .int)] ++ wsX80 ++ wsX30 ++ wsX60 ++ wsX70)
def wsX8_cost_r1 : List Cond := [Cond.fieldLink RX8 23 "SensorTapes" "packer" "LSensorTapes$Packer;", Cond.fieldLink RX8 10 "SensorTapes" "now" "LSensorTapes$Held;", Cond.fieldLink RX8 48 "SensorTapes$Held" "rules" "LSensorTapes$Rules;", Cond.fieldLink RX8 34 "SensorTapes$Held" "row" "LSensorTapes$Row;", Cond.methodLink RX8 81 yX8_isWay, Cond.static yX8_isWay, Cond.initialized RX8, Cond.code yX8_isWay cX8_isWay 1 (some .boolean), Cond.methodLink RX8 99 yX8_hasBlock, Cond.instanceMethod yX8_hasBlock, Cond.selects RX8 yX8_hasBlock yX8_hasBlock, Cond.code yX8_hasBlock cX8_hasBlock 2 (some .boolean), Cond.methodLink RX8 204 yX8_blocks, Cond.instanceMethod yX8_blocks, Cond.selects RX8 yX8_blocks yX8_blocks, Cond.code yX8_blocks cX8_blocks 1 (some .int), Cond.fieldLink RX8 68 "SensorTapes$Row" "length" "I", Cond.fieldLink RX8 124 "SensorTapes$Rules" "size" "I", Cond.methodLink RX8 207 yX8_quotientUp, Cond.static yX8_quotientUp, Cond.code yX8_quotientUp cX8_quotientUp 2 (some .int), Cond.methodLink RX8 130 yX8_quotient, Cond.static yX8_quotient, Cond.code yX8_quotient cX8_quotient 2 (some .int)]
def wsX8_cost_r2 : List Cond := [Cond.methodLink RX8 102 yX4_costOf, Cond.instanceMethod yX4_costOf, Cond.selects RX4 yX4_costOf yX4_costOf, Cond.initialized RX4, Cond.code yX4_costOf cX4_costOf 6 (some .int), Cond.fieldLink RX4 31 "SensorTapes$Packer" "folded" "LSensorTapes$Folded;", Cond.methodLink RX4 52 yX2_fill, Cond.instanceMethod yX2_fill, Cond.selects RX2 yX2_fill yX2_fill, Cond.initialized RX2, Cond.code yX2_fill cX2_fill 8 none, Cond.fieldLink RX2 15 "SensorTapes$Rules" "size" "I", Cond.fieldLink RX2 21 "SensorTapes$Row" "length" "I", Cond.fieldLink RX2 30 "SensorTapes$Folded" "way" "I", Cond.fieldLink RX2 33 "SensorTapes$Rules" "width" "I", Cond.fieldLink RX2 36 "SensorTapes$Folded" "width" "I", Cond.fieldLink RX2 41 "SensorTapes$Folded" "hasBare" "Z", Cond.fieldLink RX2 49 "SensorTapes$Folded" "bare" "I", Cond.fieldLink RX2 52 "SensorTapes$Folded" "length" "I", Cond.fieldLink RX2 9 "SensorTapes$Folded" "folds" "[I", Cond.methodLink RX2 26 yX7_endOfBlock, Cond.instanceMethod yX7_endOfBlock, Cond.selects RX7 yX7_endOfBlock yX7_endOfBlock, Cond.initialized RX7]
def wsX8_cost_r3 : List Cond := [Cond.code yX7_endOfBlock cX7_endOfBlock 3 (some .int), Cond.fieldLink RX7 13 "SensorTapes$Rules" "size" "I", Cond.methodLink RX7 29 Lib.Math.min.name, Cond.static Lib.Math.min.name, Cond.initialized "java/lang/Math", Cond.code Lib.Math.min.name Lib.Math.min.code 2 (some .int), Cond.methodLink RX2 37 yX7_isBare, Cond.instanceMethod yX7_isBare, Cond.selects RX7 yX7_isBare yX7_isBare, Cond.code yX7_isBare cX7_isBare 3 (some .boolean), Cond.fieldLink RX7 16 "SensorTapes$Rules" "every" "I", Cond.methodLink RX2 45 yX6_at, Cond.instanceMethod yX6_at, Cond.selects RX6 yX6_at yX6_at, Cond.initialized RX6, Cond.code yX6_at cX6_at 2 (some .int), Cond.fieldLink RX6 15 "SensorTapes$Row" "length" "I", Cond.fieldLink RX6 9 "SensorTapes$Row" "samples" "[I", Cond.static yX8_toldAhead, Cond.code yX8_toldAhead cX8_toldAhead 7 (some .int), Cond.fieldLink RX8 213 "SensorTapes$Rules" "width" "I", Cond.methodLink RX8 147 Lib.Math.min.name, Cond.methodLink RX8 216 Lib.Math.max.name, Cond.static Lib.Math.max.name]
def wsX8_cost_r4 : List Cond := [Cond.code Lib.Math.max.name Lib.Math.max.code 2 (some .int), Cond.methodLink RX8 44 yX8_topOf, Cond.static yX8_topOf, Cond.code yX8_topOf cX8_topOf 1 (some .int), Cond.methodLink RX8 78 yX6_at, Cond.methodLink RX8 88 yX7_isBare, Cond.methodLink RX2 57 yX7_top, Cond.instanceMethod yX7_top, Cond.selects RX7 yX7_top yX7_top, Cond.code yX7_top cX7_top 1 (some .int), Cond.fieldLink RX7 7 "SensorTapes$Rules" "width" "I", Cond.static yX8_fold, Cond.code yX8_fold cX8_fold 4 (some .int), Cond.methodLink RX8 219 Lib.Math.abs.name, Cond.static Lib.Math.abs.name, Cond.code Lib.Math.abs.name Lib.Math.abs.code 1 (some .int), Cond.methodLink RX4 60 yX2_costBy, Cond.instanceMethod yX2_costBy, Cond.selects RX2 yX2_costBy yX2_costBy, Cond.code yX2_costBy cX2_costBy 5 (some .int), Cond.static yX8_isCode, Cond.code yX8_isCode cX8_isCode 2 (some .boolean), Cond.methodLink RX2 69 yX2_isAllNothing, Cond.instanceMethod yX2_isAllNothing]
def wsX8_cost_r5 : List Cond := [Cond.selects RX2 yX2_isAllNothing yX2_isAllNothing, Cond.code yX2_isAllNothing cX2_isAllNothing 2 (some .boolean)]
def wsX8_cost : List Cond := .code yX8_cost cX8_cost 4 (some .int) :: ((wsX8_cost_r1 ++ (wsX8_cost_r2 ++ (wsX8_cost_r3 ++ (wsX8_cost_r4 ++ wsX8_cost_r5)))) ++ wsX80 ++ wsX30 ++ wsX60 ++ wsX70 ++ wsX40 ++ wsX20)
def wsX8_block_r1 : List Cond := [Cond.fieldLink RX8 23 "SensorTapes" "packer" "LSensorTapes$Packer;", Cond.fieldLink RX8 10 "SensorTapes" "now" "LSensorTapes$Held;", Cond.fieldLink RX8 48 "SensorTapes$Held" "rules" "LSensorTapes$Rules;", Cond.fieldLink RX8 34 "SensorTapes$Held" "row" "LSensorTapes$Row;", Cond.fieldLink RX8 110 "SensorTapes$Packer" "ways" "[I", Cond.fieldLink RX8 114 "SensorTapes$Packer" "codes" "[I", Cond.fieldLink RX8 117 "SensorTapes$Packer" "firsts" "[I", Cond.fieldLink RX8 68 "SensorTapes$Row" "length" "I", Cond.fieldLink RX8 124 "SensorTapes$Rules" "size" "I", Cond.fieldLink RX8 127 "SensorTapes$Rules" "every" "I", Cond.methodLink RX8 99 yX8_hasBlock, Cond.instanceMethod yX8_hasBlock, Cond.selects RX8 yX8_hasBlock yX8_hasBlock, Cond.initialized RX8, Cond.code yX8_hasBlock cX8_hasBlock 2 (some .boolean), Cond.methodLink RX8 204 yX8_blocks, Cond.instanceMethod yX8_blocks, Cond.selects RX8 yX8_blocks yX8_blocks, Cond.code yX8_blocks cX8_blocks 1 (some .int), Cond.methodLink RX8 207 yX8_quotientUp, Cond.static yX8_quotientUp, Cond.code yX8_quotientUp cX8_quotientUp 2 (some .int), Cond.methodLink RX8 130 yX8_quotient, Cond.static yX8_quotient]
def wsX8_block_r2 : List Cond := [Cond.code yX8_quotient cX8_quotient 2 (some .int), Cond.methodLink RX8 106 yX4_settle, Cond.instanceMethod yX4_settle, Cond.selects RX4 yX4_settle yX4_settle, Cond.initialized RX4, Cond.code yX4_settle cX4_settle 6 none, Cond.methodLink RX4 42 Lib.Math.min.name, Cond.static Lib.Math.min.name, Cond.initialized "java/lang/Math", Cond.code Lib.Math.min.name Lib.Math.min.code 2 (some .int), Cond.fieldLink RX4 35 "SensorTapes$Packer" "settled" "I", Cond.fieldLink RX4 31 "SensorTapes$Packer" "folded" "LSensorTapes$Folded;", Cond.fieldLink RX4 9 "SensorTapes$Packer" "ways" "[I", Cond.fieldLink RX4 24 "SensorTapes$Packer" "bits" "LSensorTapes$Bits;", Cond.fieldLink RX4 15 "SensorTapes$Packer" "codes" "[I", Cond.fieldLink RX4 18 "SensorTapes$Packer" "firsts" "[I", Cond.fieldLink RX4 39 "SensorTapes$Bits" "length" "I", Cond.methodLink RX4 48 yX4_choose, Cond.instanceMethod yX4_choose, Cond.selects RX4 yX4_choose yX4_choose, Cond.code yX4_choose cX4_choose 8 none, Cond.methodLink RX4 52 yX2_fill, Cond.instanceMethod yX2_fill, Cond.selects RX2 yX2_fill yX2_fill]
def wsX8_block_r3 : List Cond := [Cond.initialized RX2, Cond.code yX2_fill cX2_fill 8 none, Cond.fieldLink RX2 15 "SensorTapes$Rules" "size" "I", Cond.fieldLink RX2 21 "SensorTapes$Row" "length" "I", Cond.fieldLink RX2 30 "SensorTapes$Folded" "way" "I", Cond.fieldLink RX2 33 "SensorTapes$Rules" "width" "I", Cond.fieldLink RX2 36 "SensorTapes$Folded" "width" "I", Cond.fieldLink RX2 41 "SensorTapes$Folded" "hasBare" "Z", Cond.fieldLink RX2 49 "SensorTapes$Folded" "bare" "I", Cond.fieldLink RX2 52 "SensorTapes$Folded" "length" "I", Cond.fieldLink RX2 9 "SensorTapes$Folded" "folds" "[I", Cond.methodLink RX2 26 yX7_endOfBlock, Cond.instanceMethod yX7_endOfBlock, Cond.selects RX7 yX7_endOfBlock yX7_endOfBlock, Cond.initialized RX7, Cond.code yX7_endOfBlock cX7_endOfBlock 3 (some .int), Cond.fieldLink RX7 13 "SensorTapes$Rules" "size" "I", Cond.methodLink RX7 29 Lib.Math.min.name, Cond.methodLink RX2 37 yX7_isBare, Cond.instanceMethod yX7_isBare, Cond.selects RX7 yX7_isBare yX7_isBare, Cond.code yX7_isBare cX7_isBare 3 (some .boolean), Cond.fieldLink RX7 16 "SensorTapes$Rules" "every" "I", Cond.methodLink RX2 45 yX6_at]
def wsX8_block_r4 : List Cond := [Cond.instanceMethod yX6_at, Cond.selects RX6 yX6_at yX6_at, Cond.initialized RX6, Cond.code yX6_at cX6_at 2 (some .int), Cond.fieldLink RX6 15 "SensorTapes$Row" "length" "I", Cond.fieldLink RX6 9 "SensorTapes$Row" "samples" "[I", Cond.static yX8_toldAhead, Cond.code yX8_toldAhead cX8_toldAhead 7 (some .int), Cond.fieldLink RX8 213 "SensorTapes$Rules" "width" "I", Cond.methodLink RX8 147 Lib.Math.min.name, Cond.methodLink RX8 216 Lib.Math.max.name, Cond.static Lib.Math.max.name, Cond.code Lib.Math.max.name Lib.Math.max.code 2 (some .int), Cond.methodLink RX8 44 yX8_topOf, Cond.static yX8_topOf, Cond.code yX8_topOf cX8_topOf 1 (some .int), Cond.methodLink RX8 78 yX6_at, Cond.methodLink RX8 88 yX7_isBare, Cond.methodLink RX2 57 yX7_top, Cond.instanceMethod yX7_top, Cond.selects RX7 yX7_top yX7_top, Cond.code yX7_top cX7_top 1 (some .int), Cond.fieldLink RX7 7 "SensorTapes$Rules" "width" "I", Cond.static yX8_fold]
def wsX8_block_r5 : List Cond := [Cond.code yX8_fold cX8_fold 4 (some .int), Cond.methodLink RX8 219 Lib.Math.abs.name, Cond.static Lib.Math.abs.name, Cond.code Lib.Math.abs.name Lib.Math.abs.code 1 (some .int), Cond.methodLink RX4 60 yX2_costBy, Cond.instanceMethod yX2_costBy, Cond.selects RX2 yX2_costBy yX2_costBy, Cond.code yX2_costBy cX2_costBy 5 (some .int), Cond.static yX8_isCode, Cond.code yX8_isCode cX8_isCode 2 (some .boolean), Cond.methodLink RX2 69 yX2_isAllNothing, Cond.instanceMethod yX2_isAllNothing, Cond.selects RX2 yX2_isAllNothing yX2_isAllNothing, Cond.code yX2_isAllNothing cX2_isAllNothing 2 (some .boolean), Cond.methodLink RX4 56 yX2_write, Cond.instanceMethod yX2_write, Cond.selects RX2 yX2_write yX2_write, Cond.code yX2_write cX2_write 4 none, Cond.methodLink RX2 73 yX0_appendNumber, Cond.instanceMethod yX0_appendNumber, Cond.selects RX0 yX0_appendNumber yX0_appendNumber, Cond.initialized RX0, Cond.code yX0_appendNumber cX0_appendNumber 4 none, Cond.methodLink RX0 23 yX0_append]
def wsX8_block_r6 : List Cond := [Cond.instanceMethod yX0_append, Cond.selects RX0 yX0_append yX0_append, Cond.code yX0_append cX0_append 2 none, Cond.fieldLink RX0 15 "SensorTapes$Bits" "length" "I", Cond.fieldLink RX0 9 "SensorTapes$Bits" "bits" "[I", Cond.methodLink RX2 79 yX2_writeByNoughts, Cond.instanceMethod yX2_writeByNoughts, Cond.selects RX2 yX2_writeByNoughts yX2_writeByNoughts, Cond.code yX2_writeByNoughts cX2_writeByNoughts 6 none, Cond.methodLink RX2 83 yX0_append, Cond.methodLink RX8 120 yX7_endOfBlock]
def wsX8_block : List Cond := .code yX8_block cX8_block 3 (some .int) :: ((wsX8_block_r1 ++ (wsX8_block_r2 ++ (wsX8_block_r3 ++ (wsX8_block_r4 ++ (wsX8_block_r5 ++ wsX8_block_r6))))) ++ wsX80 ++ wsX30 ++ wsX40 ++ wsX60 ++ wsX70 ++ wsX00 ++ wsX20)
def wsX8_settleAll_r1 : List Cond := [Cond.fieldLink RX8 23 "SensorTapes" "packer" "LSensorTapes$Packer;", Cond.fieldLink RX8 10 "SensorTapes" "now" "LSensorTapes$Held;", Cond.fieldLink RX8 48 "SensorTapes$Held" "rules" "LSensorTapes$Rules;", Cond.fieldLink RX8 34 "SensorTapes$Held" "row" "LSensorTapes$Row;", Cond.methodLink RX8 204 yX8_blocks, Cond.instanceMethod yX8_blocks, Cond.selects RX8 yX8_blocks yX8_blocks, Cond.initialized RX8, Cond.code yX8_blocks cX8_blocks 1 (some .int), Cond.fieldLink RX8 68 "SensorTapes$Row" "length" "I", Cond.fieldLink RX8 124 "SensorTapes$Rules" "size" "I", Cond.methodLink RX8 207 yX8_quotientUp, Cond.static yX8_quotientUp, Cond.code yX8_quotientUp cX8_quotientUp 2 (some .int), Cond.methodLink RX8 130 yX8_quotient, Cond.static yX8_quotient, Cond.code yX8_quotient cX8_quotient 2 (some .int), Cond.methodLink RX8 106 yX4_settle, Cond.instanceMethod yX4_settle, Cond.selects RX4 yX4_settle yX4_settle, Cond.initialized RX4, Cond.code yX4_settle cX4_settle 6 none, Cond.methodLink RX4 42 Lib.Math.min.name, Cond.static Lib.Math.min.name]
def wsX8_settleAll_r2 : List Cond := [Cond.initialized "java/lang/Math", Cond.code Lib.Math.min.name Lib.Math.min.code 2 (some .int), Cond.fieldLink RX4 35 "SensorTapes$Packer" "settled" "I", Cond.fieldLink RX4 31 "SensorTapes$Packer" "folded" "LSensorTapes$Folded;", Cond.fieldLink RX4 9 "SensorTapes$Packer" "ways" "[I", Cond.fieldLink RX4 24 "SensorTapes$Packer" "bits" "LSensorTapes$Bits;", Cond.fieldLink RX4 15 "SensorTapes$Packer" "codes" "[I", Cond.fieldLink RX4 18 "SensorTapes$Packer" "firsts" "[I", Cond.fieldLink RX4 39 "SensorTapes$Bits" "length" "I", Cond.methodLink RX4 48 yX4_choose, Cond.instanceMethod yX4_choose, Cond.selects RX4 yX4_choose yX4_choose, Cond.code yX4_choose cX4_choose 8 none, Cond.methodLink RX4 52 yX2_fill, Cond.instanceMethod yX2_fill, Cond.selects RX2 yX2_fill yX2_fill, Cond.initialized RX2, Cond.code yX2_fill cX2_fill 8 none, Cond.fieldLink RX2 15 "SensorTapes$Rules" "size" "I", Cond.fieldLink RX2 21 "SensorTapes$Row" "length" "I", Cond.fieldLink RX2 30 "SensorTapes$Folded" "way" "I", Cond.fieldLink RX2 33 "SensorTapes$Rules" "width" "I", Cond.fieldLink RX2 36 "SensorTapes$Folded" "width" "I", Cond.fieldLink RX2 41 "SensorTapes$Folded" "hasBare" "Z"]
def wsX8_settleAll_r3 : List Cond := [Cond.fieldLink RX2 49 "SensorTapes$Folded" "bare" "I", Cond.fieldLink RX2 52 "SensorTapes$Folded" "length" "I", Cond.fieldLink RX2 9 "SensorTapes$Folded" "folds" "[I", Cond.methodLink RX2 26 yX7_endOfBlock, Cond.instanceMethod yX7_endOfBlock, Cond.selects RX7 yX7_endOfBlock yX7_endOfBlock, Cond.initialized RX7, Cond.code yX7_endOfBlock cX7_endOfBlock 3 (some .int), Cond.fieldLink RX7 13 "SensorTapes$Rules" "size" "I", Cond.methodLink RX7 29 Lib.Math.min.name, Cond.methodLink RX2 37 yX7_isBare, Cond.instanceMethod yX7_isBare, Cond.selects RX7 yX7_isBare yX7_isBare, Cond.code yX7_isBare cX7_isBare 3 (some .boolean), Cond.fieldLink RX7 16 "SensorTapes$Rules" "every" "I", Cond.methodLink RX2 45 yX6_at, Cond.instanceMethod yX6_at, Cond.selects RX6 yX6_at yX6_at, Cond.initialized RX6, Cond.code yX6_at cX6_at 2 (some .int), Cond.fieldLink RX6 15 "SensorTapes$Row" "length" "I", Cond.fieldLink RX6 9 "SensorTapes$Row" "samples" "[I", Cond.static yX8_toldAhead, Cond.code yX8_toldAhead cX8_toldAhead 7 (some .int)]
def wsX8_settleAll_r4 : List Cond := [Cond.fieldLink RX8 213 "SensorTapes$Rules" "width" "I", Cond.methodLink RX8 147 Lib.Math.min.name, Cond.methodLink RX8 216 Lib.Math.max.name, Cond.static Lib.Math.max.name, Cond.code Lib.Math.max.name Lib.Math.max.code 2 (some .int), Cond.methodLink RX8 44 yX8_topOf, Cond.static yX8_topOf, Cond.code yX8_topOf cX8_topOf 1 (some .int), Cond.methodLink RX8 78 yX6_at, Cond.methodLink RX8 88 yX7_isBare, Cond.methodLink RX2 57 yX7_top, Cond.instanceMethod yX7_top, Cond.selects RX7 yX7_top yX7_top, Cond.code yX7_top cX7_top 1 (some .int), Cond.fieldLink RX7 7 "SensorTapes$Rules" "width" "I", Cond.static yX8_fold, Cond.code yX8_fold cX8_fold 4 (some .int), Cond.methodLink RX8 219 Lib.Math.abs.name, Cond.static Lib.Math.abs.name, Cond.code Lib.Math.abs.name Lib.Math.abs.code 1 (some .int), Cond.methodLink RX4 60 yX2_costBy, Cond.instanceMethod yX2_costBy, Cond.selects RX2 yX2_costBy yX2_costBy, Cond.code yX2_costBy cX2_costBy 5 (some .int)]
def wsX8_settleAll_r5 : List Cond := [Cond.static yX8_isCode, Cond.code yX8_isCode cX8_isCode 2 (some .boolean), Cond.methodLink RX2 69 yX2_isAllNothing, Cond.instanceMethod yX2_isAllNothing, Cond.selects RX2 yX2_isAllNothing yX2_isAllNothing, Cond.code yX2_isAllNothing cX2_isAllNothing 2 (some .boolean), Cond.methodLink RX4 56 yX2_write, Cond.instanceMethod yX2_write, Cond.selects RX2 yX2_write yX2_write, Cond.code yX2_write cX2_write 4 none, Cond.methodLink RX2 73 yX0_appendNumber, Cond.instanceMethod yX0_appendNumber, Cond.selects RX0 yX0_appendNumber yX0_appendNumber, Cond.initialized RX0, Cond.code yX0_appendNumber cX0_appendNumber 4 none, Cond.methodLink RX0 23 yX0_append, Cond.instanceMethod yX0_append, Cond.selects RX0 yX0_append yX0_append, Cond.code yX0_append cX0_append 2 none, Cond.fieldLink RX0 15 "SensorTapes$Bits" "length" "I", Cond.fieldLink RX0 9 "SensorTapes$Bits" "bits" "[I", Cond.methodLink RX2 79 yX2_writeByNoughts, Cond.instanceMethod yX2_writeByNoughts, Cond.selects RX2 yX2_writeByNoughts yX2_writeByNoughts]
def wsX8_settleAll_r6 : List Cond := [Cond.code yX2_writeByNoughts cX2_writeByNoughts 6 none, Cond.methodLink RX2 83 yX0_append]
def wsX8_settleAll : List Cond := .code yX8_settleAll cX8_settleAll 1 none :: ((wsX8_settleAll_r1 ++ (wsX8_settleAll_r2 ++ (wsX8_settleAll_r3 ++ (wsX8_settleAll_r4 ++ (wsX8_settleAll_r5 ++ wsX8_settleAll_r6))))) ++ wsX80 ++ wsX30 ++ wsX60 ++ wsX70 ++ wsX40 ++ wsX00 ++ wsX20)
def wsX8_packed_r1 : List Cond := [Cond.fieldLink RX8 23 "SensorTapes" "packer" "LSensorTapes$Packer;", Cond.fieldLink RX8 136 "SensorTapes$Packer" "bits" "LSensorTapes$Bits;", Cond.fieldLink RX8 140 "SensorTapes$Bits" "length" "I", Cond.methodLink RX8 133 yX8_settleAll, Cond.instanceMethod yX8_settleAll, Cond.selects RX8 yX8_settleAll yX8_settleAll, Cond.initialized RX8, Cond.code yX8_settleAll cX8_settleAll 1 none, Cond.fieldLink RX8 10 "SensorTapes" "now" "LSensorTapes$Held;", Cond.fieldLink RX8 48 "SensorTapes$Held" "rules" "LSensorTapes$Rules;", Cond.fieldLink RX8 34 "SensorTapes$Held" "row" "LSensorTapes$Row;", Cond.methodLink RX8 204 yX8_blocks, Cond.instanceMethod yX8_blocks, Cond.selects RX8 yX8_blocks yX8_blocks, Cond.code yX8_blocks cX8_blocks 1 (some .int), Cond.fieldLink RX8 68 "SensorTapes$Row" "length" "I", Cond.fieldLink RX8 124 "SensorTapes$Rules" "size" "I", Cond.methodLink RX8 207 yX8_quotientUp, Cond.static yX8_quotientUp, Cond.code yX8_quotientUp cX8_quotientUp 2 (some .int), Cond.methodLink RX8 130 yX8_quotient, Cond.static yX8_quotient, Cond.code yX8_quotient cX8_quotient 2 (some .int), Cond.methodLink RX8 106 yX4_settle]
def wsX8_packed_r2 : List Cond := [Cond.instanceMethod yX4_settle, Cond.selects RX4 yX4_settle yX4_settle, Cond.initialized RX4, Cond.code yX4_settle cX4_settle 6 none, Cond.methodLink RX4 42 Lib.Math.min.name, Cond.static Lib.Math.min.name, Cond.initialized "java/lang/Math", Cond.code Lib.Math.min.name Lib.Math.min.code 2 (some .int), Cond.fieldLink RX4 35 "SensorTapes$Packer" "settled" "I", Cond.fieldLink RX4 31 "SensorTapes$Packer" "folded" "LSensorTapes$Folded;", Cond.fieldLink RX4 9 "SensorTapes$Packer" "ways" "[I", Cond.fieldLink RX4 24 "SensorTapes$Packer" "bits" "LSensorTapes$Bits;", Cond.fieldLink RX4 15 "SensorTapes$Packer" "codes" "[I", Cond.fieldLink RX4 18 "SensorTapes$Packer" "firsts" "[I", Cond.fieldLink RX4 39 "SensorTapes$Bits" "length" "I", Cond.methodLink RX4 48 yX4_choose, Cond.instanceMethod yX4_choose, Cond.selects RX4 yX4_choose yX4_choose, Cond.code yX4_choose cX4_choose 8 none, Cond.methodLink RX4 52 yX2_fill, Cond.instanceMethod yX2_fill, Cond.selects RX2 yX2_fill yX2_fill, Cond.initialized RX2, Cond.code yX2_fill cX2_fill 8 none]
def wsX8_packed_r3 : List Cond := [Cond.fieldLink RX2 15 "SensorTapes$Rules" "size" "I", Cond.fieldLink RX2 21 "SensorTapes$Row" "length" "I", Cond.fieldLink RX2 30 "SensorTapes$Folded" "way" "I", Cond.fieldLink RX2 33 "SensorTapes$Rules" "width" "I", Cond.fieldLink RX2 36 "SensorTapes$Folded" "width" "I", Cond.fieldLink RX2 41 "SensorTapes$Folded" "hasBare" "Z", Cond.fieldLink RX2 49 "SensorTapes$Folded" "bare" "I", Cond.fieldLink RX2 52 "SensorTapes$Folded" "length" "I", Cond.fieldLink RX2 9 "SensorTapes$Folded" "folds" "[I", Cond.methodLink RX2 26 yX7_endOfBlock, Cond.instanceMethod yX7_endOfBlock, Cond.selects RX7 yX7_endOfBlock yX7_endOfBlock, Cond.initialized RX7, Cond.code yX7_endOfBlock cX7_endOfBlock 3 (some .int), Cond.fieldLink RX7 13 "SensorTapes$Rules" "size" "I", Cond.methodLink RX7 29 Lib.Math.min.name, Cond.methodLink RX2 37 yX7_isBare, Cond.instanceMethod yX7_isBare, Cond.selects RX7 yX7_isBare yX7_isBare, Cond.code yX7_isBare cX7_isBare 3 (some .boolean), Cond.fieldLink RX7 16 "SensorTapes$Rules" "every" "I", Cond.methodLink RX2 45 yX6_at, Cond.instanceMethod yX6_at, Cond.selects RX6 yX6_at yX6_at]
def wsX8_packed_r4 : List Cond := [Cond.initialized RX6, Cond.code yX6_at cX6_at 2 (some .int), Cond.fieldLink RX6 15 "SensorTapes$Row" "length" "I", Cond.fieldLink RX6 9 "SensorTapes$Row" "samples" "[I", Cond.static yX8_toldAhead, Cond.code yX8_toldAhead cX8_toldAhead 7 (some .int), Cond.fieldLink RX8 213 "SensorTapes$Rules" "width" "I", Cond.methodLink RX8 147 Lib.Math.min.name, Cond.methodLink RX8 216 Lib.Math.max.name, Cond.static Lib.Math.max.name, Cond.code Lib.Math.max.name Lib.Math.max.code 2 (some .int), Cond.methodLink RX8 44 yX8_topOf, Cond.static yX8_topOf, Cond.code yX8_topOf cX8_topOf 1 (some .int), Cond.methodLink RX8 78 yX6_at, Cond.methodLink RX8 88 yX7_isBare, Cond.methodLink RX2 57 yX7_top, Cond.instanceMethod yX7_top, Cond.selects RX7 yX7_top yX7_top, Cond.code yX7_top cX7_top 1 (some .int), Cond.fieldLink RX7 7 "SensorTapes$Rules" "width" "I", Cond.static yX8_fold, Cond.code yX8_fold cX8_fold 4 (some .int), Cond.methodLink RX8 219 Lib.Math.abs.name]
def wsX8_packed_r5 : List Cond := [Cond.static Lib.Math.abs.name, Cond.code Lib.Math.abs.name Lib.Math.abs.code 1 (some .int), Cond.methodLink RX4 60 yX2_costBy, Cond.instanceMethod yX2_costBy, Cond.selects RX2 yX2_costBy yX2_costBy, Cond.code yX2_costBy cX2_costBy 5 (some .int), Cond.static yX8_isCode, Cond.code yX8_isCode cX8_isCode 2 (some .boolean), Cond.methodLink RX2 69 yX2_isAllNothing, Cond.instanceMethod yX2_isAllNothing, Cond.selects RX2 yX2_isAllNothing yX2_isAllNothing, Cond.code yX2_isAllNothing cX2_isAllNothing 2 (some .boolean), Cond.methodLink RX4 56 yX2_write, Cond.instanceMethod yX2_write, Cond.selects RX2 yX2_write yX2_write, Cond.code yX2_write cX2_write 4 none, Cond.methodLink RX2 73 yX0_appendNumber, Cond.instanceMethod yX0_appendNumber, Cond.selects RX0 yX0_appendNumber yX0_appendNumber, Cond.initialized RX0, Cond.code yX0_appendNumber cX0_appendNumber 4 none, Cond.methodLink RX0 23 yX0_append, Cond.instanceMethod yX0_append, Cond.selects RX0 yX0_append yX0_append]
def wsX8_packed_r6 : List Cond := [Cond.code yX0_append cX0_append 2 none, Cond.fieldLink RX0 15 "SensorTapes$Bits" "length" "I", Cond.fieldLink RX0 9 "SensorTapes$Bits" "bits" "[I", Cond.methodLink RX2 79 yX2_writeByNoughts, Cond.instanceMethod yX2_writeByNoughts, Cond.selects RX2 yX2_writeByNoughts yX2_writeByNoughts, Cond.code yX2_writeByNoughts cX2_writeByNoughts 6 none, Cond.methodLink RX2 83 yX0_append, Cond.methodLink RX8 143 yX0_at, Cond.instanceMethod yX0_at, Cond.selects RX0 yX0_at yX0_at, Cond.code yX0_at cX0_at 2 (some .int)]
def wsX8_packed : List Cond := .code yX8_packed cX8_packed 2 (some .int) :: ((wsX8_packed_r1 ++ (wsX8_packed_r2 ++ (wsX8_packed_r3 ++ (wsX8_packed_r4 ++ (wsX8_packed_r5 ++ wsX8_packed_r6))))) ++ wsX80 ++ wsX40 ++ wsX00 ++ wsX30 ++ wsX60 ++ wsX70 ++ wsX20)
def wsX8_lost_r1 : List Cond := [Cond.fieldLink RX8 10 "SensorTapes" "now" "LSensorTapes$Held;", Cond.fieldLink RX8 48 "SensorTapes$Held" "rules" "LSensorTapes$Rules;", Cond.fieldLink RX8 127 "SensorTapes$Rules" "every" "I", Cond.fieldLink RX8 34 "SensorTapes$Held" "row" "LSensorTapes$Row;", Cond.fieldLink RX8 68 "SensorTapes$Row" "length" "I", Cond.methodLink RX8 147 Lib.Math.min.name, Cond.static Lib.Math.min.name, Cond.initialized "java/lang/Math", Cond.code Lib.Math.min.name Lib.Math.min.code 2 (some .int), Cond.fieldLink RX8 124 "SensorTapes$Rules" "size" "I", Cond.methodLink RX8 99 yX8_hasBlock, Cond.instanceMethod yX8_hasBlock, Cond.selects RX8 yX8_hasBlock yX8_hasBlock, Cond.initialized RX8, Cond.code yX8_hasBlock cX8_hasBlock 2 (some .boolean), Cond.methodLink RX8 204 yX8_blocks, Cond.instanceMethod yX8_blocks, Cond.selects RX8 yX8_blocks yX8_blocks, Cond.code yX8_blocks cX8_blocks 1 (some .int), Cond.methodLink RX8 207 yX8_quotientUp, Cond.static yX8_quotientUp, Cond.code yX8_quotientUp cX8_quotientUp 2 (some .int), Cond.methodLink RX8 130 yX8_quotient, Cond.static yX8_quotient]
def wsX8_lost_r2 : List Cond := [Cond.code yX8_quotient cX8_quotient 2 (some .int), Cond.methodLink RX8 144 yX7_segmentSize, Cond.instanceMethod yX7_segmentSize, Cond.selects RX7 yX7_segmentSize yX7_segmentSize, Cond.initialized RX7, Cond.code yX7_segmentSize cX7_segmentSize 1 (some .int), Cond.fieldLink RX7 13 "SensorTapes$Rules" "size" "I", Cond.fieldLink RX7 16 "SensorTapes$Rules" "every" "I"]
def wsX8_lost : List Cond := .code yX8_lost cX8_lost 4 (some .int) :: ((wsX8_lost_r1 ++ wsX8_lost_r2) ++ wsX80 ++ wsX30 ++ wsX70 ++ wsX60)
def wsX8_tape_r1 : List Cond := [Cond.fieldLink RX8 10 "SensorTapes" "now" "LSensorTapes$Held;", Cond.fieldLink RX8 152 "SensorTapes$Held" "tape" "LSensorTapes$Bits;", Cond.fieldLink RX8 23 "SensorTapes" "packer" "LSensorTapes$Packer;", Cond.fieldLink RX8 136 "SensorTapes$Packer" "bits" "LSensorTapes$Bits;", Cond.fieldLink RX8 140 "SensorTapes$Bits" "length" "I", Cond.methodLink RX8 133 yX8_settleAll, Cond.instanceMethod yX8_settleAll, Cond.selects RX8 yX8_settleAll yX8_settleAll, Cond.initialized RX8, Cond.code yX8_settleAll cX8_settleAll 1 none, Cond.fieldLink RX8 48 "SensorTapes$Held" "rules" "LSensorTapes$Rules;", Cond.fieldLink RX8 34 "SensorTapes$Held" "row" "LSensorTapes$Row;", Cond.methodLink RX8 204 yX8_blocks, Cond.instanceMethod yX8_blocks, Cond.selects RX8 yX8_blocks yX8_blocks, Cond.code yX8_blocks cX8_blocks 1 (some .int), Cond.fieldLink RX8 68 "SensorTapes$Row" "length" "I", Cond.fieldLink RX8 124 "SensorTapes$Rules" "size" "I", Cond.methodLink RX8 207 yX8_quotientUp, Cond.static yX8_quotientUp, Cond.code yX8_quotientUp cX8_quotientUp 2 (some .int), Cond.methodLink RX8 130 yX8_quotient, Cond.static yX8_quotient, Cond.code yX8_quotient cX8_quotient 2 (some .int)]
def wsX8_tape_r2 : List Cond := [Cond.methodLink RX8 106 yX4_settle, Cond.instanceMethod yX4_settle, Cond.selects RX4 yX4_settle yX4_settle, Cond.initialized RX4, Cond.code yX4_settle cX4_settle 6 none, Cond.methodLink RX4 42 Lib.Math.min.name, Cond.static Lib.Math.min.name, Cond.initialized "java/lang/Math", Cond.code Lib.Math.min.name Lib.Math.min.code 2 (some .int), Cond.fieldLink RX4 35 "SensorTapes$Packer" "settled" "I", Cond.fieldLink RX4 31 "SensorTapes$Packer" "folded" "LSensorTapes$Folded;", Cond.fieldLink RX4 9 "SensorTapes$Packer" "ways" "[I", Cond.fieldLink RX4 24 "SensorTapes$Packer" "bits" "LSensorTapes$Bits;", Cond.fieldLink RX4 15 "SensorTapes$Packer" "codes" "[I", Cond.fieldLink RX4 18 "SensorTapes$Packer" "firsts" "[I", Cond.fieldLink RX4 39 "SensorTapes$Bits" "length" "I", Cond.methodLink RX4 48 yX4_choose, Cond.instanceMethod yX4_choose, Cond.selects RX4 yX4_choose yX4_choose, Cond.code yX4_choose cX4_choose 8 none, Cond.methodLink RX4 52 yX2_fill, Cond.instanceMethod yX2_fill, Cond.selects RX2 yX2_fill yX2_fill, Cond.initialized RX2]
def wsX8_tape_r3 : List Cond := [Cond.code yX2_fill cX2_fill 8 none, Cond.fieldLink RX2 15 "SensorTapes$Rules" "size" "I", Cond.fieldLink RX2 21 "SensorTapes$Row" "length" "I", Cond.fieldLink RX2 30 "SensorTapes$Folded" "way" "I", Cond.fieldLink RX2 33 "SensorTapes$Rules" "width" "I", Cond.fieldLink RX2 36 "SensorTapes$Folded" "width" "I", Cond.fieldLink RX2 41 "SensorTapes$Folded" "hasBare" "Z", Cond.fieldLink RX2 49 "SensorTapes$Folded" "bare" "I", Cond.fieldLink RX2 52 "SensorTapes$Folded" "length" "I", Cond.fieldLink RX2 9 "SensorTapes$Folded" "folds" "[I", Cond.methodLink RX2 26 yX7_endOfBlock, Cond.instanceMethod yX7_endOfBlock, Cond.selects RX7 yX7_endOfBlock yX7_endOfBlock, Cond.initialized RX7, Cond.code yX7_endOfBlock cX7_endOfBlock 3 (some .int), Cond.fieldLink RX7 13 "SensorTapes$Rules" "size" "I", Cond.methodLink RX7 29 Lib.Math.min.name, Cond.methodLink RX2 37 yX7_isBare, Cond.instanceMethod yX7_isBare, Cond.selects RX7 yX7_isBare yX7_isBare, Cond.code yX7_isBare cX7_isBare 3 (some .boolean), Cond.fieldLink RX7 16 "SensorTapes$Rules" "every" "I", Cond.methodLink RX2 45 yX6_at, Cond.instanceMethod yX6_at]
def wsX8_tape_r4 : List Cond := [Cond.selects RX6 yX6_at yX6_at, Cond.initialized RX6, Cond.code yX6_at cX6_at 2 (some .int), Cond.fieldLink RX6 15 "SensorTapes$Row" "length" "I", Cond.fieldLink RX6 9 "SensorTapes$Row" "samples" "[I", Cond.static yX8_toldAhead, Cond.code yX8_toldAhead cX8_toldAhead 7 (some .int), Cond.fieldLink RX8 213 "SensorTapes$Rules" "width" "I", Cond.methodLink RX8 147 Lib.Math.min.name, Cond.methodLink RX8 216 Lib.Math.max.name, Cond.static Lib.Math.max.name, Cond.code Lib.Math.max.name Lib.Math.max.code 2 (some .int), Cond.methodLink RX8 44 yX8_topOf, Cond.static yX8_topOf, Cond.code yX8_topOf cX8_topOf 1 (some .int), Cond.methodLink RX8 78 yX6_at, Cond.methodLink RX8 88 yX7_isBare, Cond.methodLink RX2 57 yX7_top, Cond.instanceMethod yX7_top, Cond.selects RX7 yX7_top yX7_top, Cond.code yX7_top cX7_top 1 (some .int), Cond.fieldLink RX7 7 "SensorTapes$Rules" "width" "I", Cond.static yX8_fold, Cond.code yX8_fold cX8_fold 4 (some .int)]
def wsX8_tape_r5 : List Cond := [Cond.methodLink RX8 219 Lib.Math.abs.name, Cond.static Lib.Math.abs.name, Cond.code Lib.Math.abs.name Lib.Math.abs.code 1 (some .int), Cond.methodLink RX4 60 yX2_costBy, Cond.instanceMethod yX2_costBy, Cond.selects RX2 yX2_costBy yX2_costBy, Cond.code yX2_costBy cX2_costBy 5 (some .int), Cond.static yX8_isCode, Cond.code yX8_isCode cX8_isCode 2 (some .boolean), Cond.methodLink RX2 69 yX2_isAllNothing, Cond.instanceMethod yX2_isAllNothing, Cond.selects RX2 yX2_isAllNothing yX2_isAllNothing, Cond.code yX2_isAllNothing cX2_isAllNothing 2 (some .boolean), Cond.methodLink RX4 56 yX2_write, Cond.instanceMethod yX2_write, Cond.selects RX2 yX2_write yX2_write, Cond.code yX2_write cX2_write 4 none, Cond.methodLink RX2 73 yX0_appendNumber, Cond.instanceMethod yX0_appendNumber, Cond.selects RX0 yX0_appendNumber yX0_appendNumber, Cond.initialized RX0, Cond.code yX0_appendNumber cX0_appendNumber 4 none, Cond.methodLink RX0 23 yX0_append, Cond.instanceMethod yX0_append]
def wsX8_tape_r6 : List Cond := [Cond.selects RX0 yX0_append yX0_append, Cond.code yX0_append cX0_append 2 none, Cond.fieldLink RX0 15 "SensorTapes$Bits" "length" "I", Cond.fieldLink RX0 9 "SensorTapes$Bits" "bits" "[I", Cond.methodLink RX2 79 yX2_writeByNoughts, Cond.instanceMethod yX2_writeByNoughts, Cond.selects RX2 yX2_writeByNoughts yX2_writeByNoughts, Cond.code yX2_writeByNoughts cX2_writeByNoughts 6 none, Cond.methodLink RX2 83 yX0_append, Cond.methodLink RX8 155 yX0_takeOver, Cond.instanceMethod yX0_takeOver, Cond.selects RX0 yX0_takeOver yX0_takeOver, Cond.code yX0_takeOver cX0_takeOver 2 none, Cond.methodLink RX0 27 arraycopyName, Cond.native arraycopyName, Cond.static arraycopyName, Cond.initialized "java/lang/System"]
def wsX8_tape : List Cond := .code yX8_tape cX8_tape 1 (some .int) :: ((wsX8_tape_r1 ++ (wsX8_tape_r2 ++ (wsX8_tape_r3 ++ (wsX8_tape_r4 ++ (wsX8_tape_r5 ++ wsX8_tape_r6))))) ++ wsX80 ++ wsX30 ++ wsX40 ++ wsX00 ++ wsX60 ++ wsX70 ++ wsX20)
def wsX8_push : List Cond := .code yX8_push cX8_push 2 (some .int) :: ([.fieldLink RX8 10 "SensorTapes" "now" "LSensorTapes$Held;", .fieldLink RX8 152 "SensorTapes$Held" "tape" "LSensorTapes$Bits;", .fieldLink RX8 140 "SensorTapes$Bits" "length" "I", .methodLink RX8 159 yX0_append, .instanceMethod yX0_append, .selects RX0 yX0_append yX0_append, .initialized RX0, .code yX0_append cX0_append 2 none, .fieldLink RX0 15 "SensorTapes$Bits" "length" "I", .fieldLink RX0 9 "SensorTapes$Bits" "bits" "[I"] ++ wsX80 ++ wsX30 ++ wsX00)
def wsX8_flip : List Cond := .code yX8_flip cX8_flip 2 (some .int) :: ([.fieldLink RX8 10 "SensorTapes" "now" "LSensorTapes$Held;", .fieldLink RX8 152 "SensorTapes$Held" "tape" "LSensorTapes$Bits;", .methodLink RX8 160 yX0_has, .instanceMethod yX0_has, .selects RX0 yX0_has yX0_has, .initialized RX0, .code yX0_has cX0_has 2 (some .boolean), .fieldLink RX0 15 "SensorTapes$Bits" "length" "I", .methodLink RX8 161 yX0_turn, .instanceMethod yX0_turn, .selects RX0 yX0_turn yX0_turn, .code yX0_turn cX0_turn 2 (some .int), .fieldLink RX0 9 "SensorTapes$Bits" "bits" "[I", .methodLink RX0 19 yX0_has] ++ wsX80 ++ wsX30 ++ wsX00)
def wsX8_cut : List Cond := .code yX8_cut cX8_cut 3 (some .int) :: ([.fieldLink RX8 10 "SensorTapes" "now" "LSensorTapes$Held;", .fieldLink RX8 152 "SensorTapes$Held" "tape" "LSensorTapes$Bits;", .fieldLink RX8 140 "SensorTapes$Bits" "length" "I"] ++ wsX80 ++ wsX30 ++ wsX00)
def wsX8_bit : List Cond := .code yX8_bit cX8_bit 2 (some .int) :: ([.fieldLink RX8 10 "SensorTapes" "now" "LSensorTapes$Held;", .fieldLink RX8 152 "SensorTapes$Held" "tape" "LSensorTapes$Bits;", .fieldLink RX8 140 "SensorTapes$Bits" "length" "I", .methodLink RX8 143 yX0_at, .instanceMethod yX0_at, .selects RX0 yX0_at yX0_at, .initialized RX0, .code yX0_at cX0_at 2 (some .int), .fieldLink RX0 15 "SensorTapes$Bits" "length" "I", .fieldLink RX0 9 "SensorTapes$Bits" "bits" "[I"] ++ wsX80 ++ wsX30 ++ wsX00)
def wsX8_read_r1 : List Cond := [Cond.fieldLink RX8 30 "SensorTapes" "reader" "LSensorTapes$Reader;", Cond.fieldLink RX8 10 "SensorTapes" "now" "LSensorTapes$Held;", Cond.fieldLink RX8 48 "SensorTapes$Held" "rules" "LSensorTapes$Rules;", Cond.fieldLink RX8 152 "SensorTapes$Held" "tape" "LSensorTapes$Bits;", Cond.fieldLink RX8 168 "SensorTapes$Held" "fault" "LSensorTapes$Fault;", Cond.fieldLink RX8 172 "SensorTapes$Reader" "fault" "LSensorTapes$Fault;", Cond.fieldLink RX8 34 "SensorTapes$Held" "row" "LSensorTapes$Row;", Cond.fieldLink RX8 182 "SensorTapes$Reader" "row" "LSensorTapes$Row;", Cond.fieldLink RX8 23 "SensorTapes" "packer" "LSensorTapes$Packer;", Cond.methodLink RX8 164 yX5_takeAll, Cond.instanceMethod yX5_takeAll, Cond.selects RX5 yX5_takeAll yX5_takeAll, Cond.initialized RX5, Cond.code yX5_takeAll cX5_takeAll 6 none, Cond.fieldLink RX5 12 "SensorTapes$Reader" "row" "LSensorTapes$Row;", Cond.fieldLink RX5 25 "SensorTapes$Row" "length" "I", Cond.fieldLink RX5 29 "SensorTapes$Reader" "next" "I", Cond.fieldLink RX5 21 "SensorTapes$Reader" "fault" "LSensorTapes$Fault;", Cond.fieldLink RX5 35 "SensorTapes$Rules" "size" "I", Cond.fieldLink RX5 55 "SensorTapes$Bits" "length" "I", Cond.methodLink RX5 32 yX1_forget, Cond.instanceMethod yX1_forget, Cond.selects RX1 yX1_forget yX1_forget, Cond.initialized RX1]
def wsX8_read_r2 : List Cond := [Cond.code yX1_forget cX1_forget 1 none, Cond.fieldLink RX1 9 "SensorTapes$Fault" "number" "I", Cond.fieldLink RX1 15 "SensorTapes$Fault" "place" "I", Cond.fieldLink RX1 18 "SensorTapes$Fault" "samples" "I", Cond.static yX8_quotientUp, Cond.initialized RX8, Cond.code yX8_quotientUp cX8_quotientUp 2 (some .int), Cond.methodLink RX8 130 yX8_quotient, Cond.static yX8_quotient, Cond.code yX8_quotient cX8_quotient 2 (some .int), Cond.methodLink RX5 44 yX1_isTold, Cond.instanceMethod yX1_isTold, Cond.selects RX1 yX1_isTold yX1_isTold, Cond.code yX1_isTold cX1_isTold 1 (some .boolean), Cond.methodLink RX5 48 yX7_endOfBlock, Cond.instanceMethod yX7_endOfBlock, Cond.selects RX7 yX7_endOfBlock yX7_endOfBlock, Cond.initialized RX7, Cond.code yX7_endOfBlock cX7_endOfBlock 3 (some .int), Cond.fieldLink RX7 13 "SensorTapes$Rules" "size" "I", Cond.methodLink RX7 29 Lib.Math.min.name, Cond.static Lib.Math.min.name, Cond.initialized "java/lang/Math", Cond.code Lib.Math.min.name Lib.Math.min.code 2 (some .int)]
def wsX8_read_r3 : List Cond := [Cond.methodLink RX5 51 yX5_takeBlock, Cond.instanceMethod yX5_takeBlock, Cond.selects RX5 yX5_takeBlock yX5_takeBlock, Cond.code yX5_takeBlock cX5_takeBlock 10 none, Cond.fieldLink RX5 69 "SensorTapes$Rules" "width" "I", Cond.methodLink RX5 61 yX5_takeNumber, Cond.instanceMethod yX5_takeNumber, Cond.selects RX5 yX5_takeNumber yX5_takeNumber, Cond.code yX5_takeNumber cX5_takeNumber 5 (some .int), Cond.methodLink RX5 58 yX5_fail, Cond.instanceMethod yX5_fail, Cond.selects RX5 yX5_fail yX5_fail, Cond.code yX5_fail cX5_fail 3 (some .int), Cond.fieldLink RX5 110 "SensorTapes$Fault" "number" "I", Cond.fieldLink RX5 113 "SensorTapes$Fault" "place" "I", Cond.fieldLink RX5 116 "SensorTapes$Fault" "samples" "I", Cond.methodLink RX5 104 yX0_at, Cond.instanceMethod yX0_at, Cond.selects RX0 yX0_at yX0_at, Cond.initialized RX0, Cond.code yX0_at cX0_at 2 (some .int), Cond.fieldLink RX0 15 "SensorTapes$Bits" "length" "I", Cond.fieldLink RX0 9 "SensorTapes$Bits" "bits" "[I", Cond.static yX8_topOf]
def wsX8_read_r4 : List Cond := [Cond.code yX8_topOf cX8_topOf 1 (some .int), Cond.static yX8_isCode, Cond.code yX8_isCode cX8_isCode 2 (some .boolean), Cond.methodLink RX5 76 yX7_isBare, Cond.instanceMethod yX7_isBare, Cond.selects RX7 yX7_isBare yX7_isBare, Cond.code yX7_isBare cX7_isBare 3 (some .boolean), Cond.fieldLink RX7 16 "SensorTapes$Rules" "every" "I", Cond.methodLink RX5 80 yX5_takeTold, Cond.instanceMethod yX5_takeTold, Cond.selects RX5 yX5_takeTold yX5_takeTold, Cond.code yX5_takeTold cX5_takeTold 6 (some .int), Cond.methodLink RX5 88 yX5_takeByNoughts, Cond.instanceMethod yX5_takeByNoughts, Cond.selects RX5 yX5_takeByNoughts yX5_takeByNoughts, Cond.code yX5_takeByNoughts cX5_takeByNoughts 7 (some .int), Cond.methodLink RX5 107 yX0_has, Cond.instanceMethod yX0_has, Cond.selects RX0 yX0_has yX0_has, Cond.code yX0_has cX0_has 2 (some .boolean), Cond.static yX8_toldAhead, Cond.code yX8_toldAhead cX8_toldAhead 7 (some .int), Cond.fieldLink RX8 213 "SensorTapes$Rules" "width" "I", Cond.methodLink RX8 147 Lib.Math.min.name]
def wsX8_read_r5 : List Cond := [Cond.methodLink RX8 216 Lib.Math.max.name, Cond.static Lib.Math.max.name, Cond.code Lib.Math.max.name Lib.Math.max.code 2 (some .int), Cond.methodLink RX8 44 yX8_topOf, Cond.methodLink RX8 78 yX6_at, Cond.instanceMethod yX6_at, Cond.selects RX6 yX6_at yX6_at, Cond.initialized RX6, Cond.code yX6_at cX6_at 2 (some .int), Cond.fieldLink RX6 15 "SensorTapes$Row" "length" "I", Cond.fieldLink RX6 9 "SensorTapes$Row" "samples" "[I", Cond.methodLink RX8 88 yX7_isBare, Cond.methodLink RX5 96 yX7_top, Cond.instanceMethod yX7_top, Cond.selects RX7 yX7_top yX7_top, Cond.code yX7_top cX7_top 1 (some .int), Cond.fieldLink RX7 7 "SensorTapes$Rules" "width" "I", Cond.static yX8_unfold, Cond.code yX8_unfold cX8_unfold 4 (some .int), Cond.methodLink RX5 84 yX6_append, Cond.instanceMethod yX6_append, Cond.selects RX6 yX6_append yX6_append, Cond.code yX6_append cX6_append 2 none, Cond.methodLink RX8 173 yX1_takeOver]
def wsX8_read_r6 : List Cond := [Cond.instanceMethod yX1_takeOver, Cond.selects RX1 yX1_takeOver yX1_takeOver, Cond.code yX1_takeOver cX1_takeOver 2 none, Cond.methodLink RX8 178 yX1_isTold, Cond.methodLink RX8 183 yX6_takeOver, Cond.instanceMethod yX6_takeOver, Cond.selects RX6 yX6_takeOver yX6_takeOver, Cond.code yX6_takeOver cX6_takeOver 2 none, Cond.methodLink RX6 25 arraycopyName, Cond.native arraycopyName, Cond.static arraycopyName, Cond.initialized "java/lang/System", Cond.methodLink RX8 61 yX4_keepOnly, Cond.instanceMethod yX4_keepOnly, Cond.selects RX4 yX4_keepOnly yX4_keepOnly, Cond.initialized RX4, Cond.code yX4_keepOnly cX4_keepOnly 2 none, Cond.fieldLink RX4 35 "SensorTapes$Packer" "settled" "I", Cond.fieldLink RX4 24 "SensorTapes$Packer" "bits" "LSensorTapes$Bits;", Cond.fieldLink RX4 18 "SensorTapes$Packer" "firsts" "[I", Cond.fieldLink RX4 39 "SensorTapes$Bits" "length" "I"]
def wsX8_read : List Cond := .code yX8_read cX8_read 2 (some .int) :: ((wsX8_read_r1 ++ (wsX8_read_r2 ++ (wsX8_read_r3 ++ (wsX8_read_r4 ++ (wsX8_read_r5 ++ wsX8_read_r6))))) ++ wsX80 ++ wsX30 ++ wsX50 ++ wsX60 ++ wsX70 ++ wsX00 ++ wsX10 ++ wsX40)
def wsX8_fault : List Cond := .code yX8_fault cX8_fault 2 (some .int) :: ([.fieldLink RX8 10 "SensorTapes" "now" "LSensorTapes$Held;", .fieldLink RX8 168 "SensorTapes$Held" "fault" "LSensorTapes$Fault;", .fieldLink RX8 186 "SensorTapes$Fault" "number" "I", .fieldLink RX8 189 "SensorTapes$Fault" "place" "I", .fieldLink RX8 192 "SensorTapes$Fault" "samples" "I"] ++ wsX80 ++ wsX30 ++ wsX10)
def wsX8_isImage : List Cond := .code yX8_isImage cX8_isImage 1 (some .boolean) :: ([])
def wsX8_image_r1 : List Cond := [Cond.fieldLink RX8 16 "SensorTapes" "images" "[LSensorTapes$Held;", Cond.fieldLink RX8 10 "SensorTapes" "now" "LSensorTapes$Held;", Cond.fieldLink RX8 201 "SensorTapes" "imagesKept" "I", Cond.methodLink RX8 195 yX8_isImage, Cond.static yX8_isImage, Cond.initialized RX8, Cond.code yX8_isImage cX8_isImage 1 (some .boolean), Cond.methodLink RX8 198 yX3_takeOver, Cond.instanceMethod yX3_takeOver, Cond.selects RX3 yX3_takeOver yX3_takeOver, Cond.initialized RX3, Cond.code yX3_takeOver cX3_takeOver 2 none, Cond.fieldLink RX3 10 "SensorTapes$Held" "rules" "LSensorTapes$Rules;", Cond.fieldLink RX3 19 "SensorTapes$Held" "row" "LSensorTapes$Row;", Cond.fieldLink RX3 26 "SensorTapes$Held" "tape" "LSensorTapes$Bits;", Cond.fieldLink RX3 33 "SensorTapes$Held" "fault" "LSensorTapes$Fault;", Cond.methodLink RX3 37 yX7_takeOver, Cond.instanceMethod yX7_takeOver, Cond.selects RX7 yX7_takeOver yX7_takeOver, Cond.initialized RX7, Cond.code yX7_takeOver cX7_takeOver 2 none, Cond.fieldLink RX7 7 "SensorTapes$Rules" "width" "I", Cond.fieldLink RX7 13 "SensorTapes$Rules" "size" "I", Cond.fieldLink RX7 16 "SensorTapes$Rules" "every" "I"]
def wsX8_image_r2 : List Cond := [Cond.methodLink RX3 41 yX6_takeOver, Cond.instanceMethod yX6_takeOver, Cond.selects RX6 yX6_takeOver yX6_takeOver, Cond.initialized RX6, Cond.code yX6_takeOver cX6_takeOver 2 none, Cond.fieldLink RX6 9 "SensorTapes$Row" "samples" "[I", Cond.fieldLink RX6 15 "SensorTapes$Row" "length" "I", Cond.methodLink RX6 25 arraycopyName, Cond.native arraycopyName, Cond.static arraycopyName, Cond.initialized "java/lang/System", Cond.methodLink RX3 44 yX0_takeOver, Cond.instanceMethod yX0_takeOver, Cond.selects RX0 yX0_takeOver yX0_takeOver, Cond.initialized RX0, Cond.code yX0_takeOver cX0_takeOver 2 none, Cond.fieldLink RX0 9 "SensorTapes$Bits" "bits" "[I", Cond.fieldLink RX0 15 "SensorTapes$Bits" "length" "I", Cond.methodLink RX0 27 arraycopyName, Cond.methodLink RX3 47 yX1_takeOver, Cond.instanceMethod yX1_takeOver, Cond.selects RX1 yX1_takeOver yX1_takeOver, Cond.initialized RX1, Cond.code yX1_takeOver cX1_takeOver 2 none]
def wsX8_image_r3 : List Cond := [Cond.fieldLink RX1 9 "SensorTapes$Fault" "number" "I", Cond.fieldLink RX1 15 "SensorTapes$Fault" "place" "I", Cond.fieldLink RX1 18 "SensorTapes$Fault" "samples" "I"]
def wsX8_image : List Cond := .code yX8_image cX8_image 2 (some .int) :: ((wsX8_image_r1 ++ (wsX8_image_r2 ++ wsX8_image_r3)) ++ wsX80 ++ wsX30 ++ wsX70 ++ wsX60 ++ wsX00 ++ wsX10)
def wsX8_restore_r1 : List Cond := [Cond.fieldLink RX8 201 "SensorTapes" "imagesKept" "I", Cond.fieldLink RX8 10 "SensorTapes" "now" "LSensorTapes$Held;", Cond.fieldLink RX8 16 "SensorTapes" "images" "[LSensorTapes$Held;", Cond.fieldLink RX8 23 "SensorTapes" "packer" "LSensorTapes$Packer;", Cond.methodLink RX8 195 yX8_isImage, Cond.static yX8_isImage, Cond.initialized RX8, Cond.code yX8_isImage cX8_isImage 1 (some .boolean), Cond.methodLink RX8 198 yX3_takeOver, Cond.instanceMethod yX3_takeOver, Cond.selects RX3 yX3_takeOver yX3_takeOver, Cond.initialized RX3, Cond.code yX3_takeOver cX3_takeOver 2 none, Cond.fieldLink RX3 10 "SensorTapes$Held" "rules" "LSensorTapes$Rules;", Cond.fieldLink RX3 19 "SensorTapes$Held" "row" "LSensorTapes$Row;", Cond.fieldLink RX3 26 "SensorTapes$Held" "tape" "LSensorTapes$Bits;", Cond.fieldLink RX3 33 "SensorTapes$Held" "fault" "LSensorTapes$Fault;", Cond.methodLink RX3 37 yX7_takeOver, Cond.instanceMethod yX7_takeOver, Cond.selects RX7 yX7_takeOver yX7_takeOver, Cond.initialized RX7, Cond.code yX7_takeOver cX7_takeOver 2 none, Cond.fieldLink RX7 7 "SensorTapes$Rules" "width" "I", Cond.fieldLink RX7 13 "SensorTapes$Rules" "size" "I"]
def wsX8_restore_r2 : List Cond := [Cond.fieldLink RX7 16 "SensorTapes$Rules" "every" "I", Cond.methodLink RX3 41 yX6_takeOver, Cond.instanceMethod yX6_takeOver, Cond.selects RX6 yX6_takeOver yX6_takeOver, Cond.initialized RX6, Cond.code yX6_takeOver cX6_takeOver 2 none, Cond.fieldLink RX6 9 "SensorTapes$Row" "samples" "[I", Cond.fieldLink RX6 15 "SensorTapes$Row" "length" "I", Cond.methodLink RX6 25 arraycopyName, Cond.native arraycopyName, Cond.static arraycopyName, Cond.initialized "java/lang/System", Cond.methodLink RX3 44 yX0_takeOver, Cond.instanceMethod yX0_takeOver, Cond.selects RX0 yX0_takeOver yX0_takeOver, Cond.initialized RX0, Cond.code yX0_takeOver cX0_takeOver 2 none, Cond.fieldLink RX0 9 "SensorTapes$Bits" "bits" "[I", Cond.fieldLink RX0 15 "SensorTapes$Bits" "length" "I", Cond.methodLink RX0 27 arraycopyName, Cond.methodLink RX3 47 yX1_takeOver, Cond.instanceMethod yX1_takeOver, Cond.selects RX1 yX1_takeOver yX1_takeOver, Cond.initialized RX1]
def wsX8_restore_r3 : List Cond := [Cond.code yX1_takeOver cX1_takeOver 2 none, Cond.fieldLink RX1 9 "SensorTapes$Fault" "number" "I", Cond.fieldLink RX1 15 "SensorTapes$Fault" "place" "I", Cond.fieldLink RX1 18 "SensorTapes$Fault" "samples" "I", Cond.methodLink RX8 61 yX4_keepOnly, Cond.instanceMethod yX4_keepOnly, Cond.selects RX4 yX4_keepOnly yX4_keepOnly, Cond.initialized RX4, Cond.code yX4_keepOnly cX4_keepOnly 2 none, Cond.fieldLink RX4 35 "SensorTapes$Packer" "settled" "I", Cond.fieldLink RX4 24 "SensorTapes$Packer" "bits" "LSensorTapes$Bits;", Cond.fieldLink RX4 18 "SensorTapes$Packer" "firsts" "[I", Cond.fieldLink RX4 39 "SensorTapes$Bits" "length" "I"]
def wsX8_restore : List Cond := .code yX8_restore cX8_restore 2 (some .int) :: ((wsX8_restore_r1 ++ (wsX8_restore_r2 ++ wsX8_restore_r3)) ++ wsX80 ++ wsX30 ++ wsX70 ++ wsX60 ++ wsX00 ++ wsX10 ++ wsX40)
def wsX8_count_r1 : List Cond := [Cond.fieldLink RX8 10 "SensorTapes" "now" "LSensorTapes$Held;", Cond.fieldLink RX8 34 "SensorTapes$Held" "row" "LSensorTapes$Row;", Cond.fieldLink RX8 68 "SensorTapes$Row" "length" "I", Cond.fieldLink RX8 48 "SensorTapes$Held" "rules" "LSensorTapes$Rules;", Cond.fieldLink RX8 23 "SensorTapes" "packer" "LSensorTapes$Packer;", Cond.fieldLink RX8 136 "SensorTapes$Packer" "bits" "LSensorTapes$Bits;", Cond.fieldLink RX8 140 "SensorTapes$Bits" "length" "I", Cond.fieldLink RX8 152 "SensorTapes$Held" "tape" "LSensorTapes$Bits;", Cond.fieldLink RX8 201 "SensorTapes" "imagesKept" "I", Cond.methodLink RX8 204 yX8_blocks, Cond.instanceMethod yX8_blocks, Cond.selects RX8 yX8_blocks yX8_blocks, Cond.initialized RX8, Cond.code yX8_blocks cX8_blocks 1 (some .int), Cond.fieldLink RX8 124 "SensorTapes$Rules" "size" "I", Cond.methodLink RX8 207 yX8_quotientUp, Cond.static yX8_quotientUp, Cond.code yX8_quotientUp cX8_quotientUp 2 (some .int), Cond.methodLink RX8 130 yX8_quotient, Cond.static yX8_quotient, Cond.code yX8_quotient cX8_quotient 2 (some .int), Cond.methodLink RX8 144 yX7_segmentSize, Cond.instanceMethod yX7_segmentSize, Cond.selects RX7 yX7_segmentSize yX7_segmentSize]
def wsX8_count_r2 : List Cond := [Cond.initialized RX7, Cond.code yX7_segmentSize cX7_segmentSize 1 (some .int), Cond.fieldLink RX7 13 "SensorTapes$Rules" "size" "I", Cond.fieldLink RX7 16 "SensorTapes$Rules" "every" "I", Cond.methodLink RX8 133 yX8_settleAll, Cond.instanceMethod yX8_settleAll, Cond.selects RX8 yX8_settleAll yX8_settleAll, Cond.code yX8_settleAll cX8_settleAll 1 none, Cond.methodLink RX8 106 yX4_settle, Cond.instanceMethod yX4_settle, Cond.selects RX4 yX4_settle yX4_settle, Cond.initialized RX4, Cond.code yX4_settle cX4_settle 6 none, Cond.methodLink RX4 42 Lib.Math.min.name, Cond.static Lib.Math.min.name, Cond.initialized "java/lang/Math", Cond.code Lib.Math.min.name Lib.Math.min.code 2 (some .int), Cond.fieldLink RX4 35 "SensorTapes$Packer" "settled" "I", Cond.fieldLink RX4 31 "SensorTapes$Packer" "folded" "LSensorTapes$Folded;", Cond.fieldLink RX4 9 "SensorTapes$Packer" "ways" "[I", Cond.fieldLink RX4 24 "SensorTapes$Packer" "bits" "LSensorTapes$Bits;", Cond.fieldLink RX4 15 "SensorTapes$Packer" "codes" "[I", Cond.fieldLink RX4 18 "SensorTapes$Packer" "firsts" "[I", Cond.fieldLink RX4 39 "SensorTapes$Bits" "length" "I"]
def wsX8_count_r3 : List Cond := [Cond.methodLink RX4 48 yX4_choose, Cond.instanceMethod yX4_choose, Cond.selects RX4 yX4_choose yX4_choose, Cond.code yX4_choose cX4_choose 8 none, Cond.methodLink RX4 52 yX2_fill, Cond.instanceMethod yX2_fill, Cond.selects RX2 yX2_fill yX2_fill, Cond.initialized RX2, Cond.code yX2_fill cX2_fill 8 none, Cond.fieldLink RX2 15 "SensorTapes$Rules" "size" "I", Cond.fieldLink RX2 21 "SensorTapes$Row" "length" "I", Cond.fieldLink RX2 30 "SensorTapes$Folded" "way" "I", Cond.fieldLink RX2 33 "SensorTapes$Rules" "width" "I", Cond.fieldLink RX2 36 "SensorTapes$Folded" "width" "I", Cond.fieldLink RX2 41 "SensorTapes$Folded" "hasBare" "Z", Cond.fieldLink RX2 49 "SensorTapes$Folded" "bare" "I", Cond.fieldLink RX2 52 "SensorTapes$Folded" "length" "I", Cond.fieldLink RX2 9 "SensorTapes$Folded" "folds" "[I", Cond.methodLink RX2 26 yX7_endOfBlock, Cond.instanceMethod yX7_endOfBlock, Cond.selects RX7 yX7_endOfBlock yX7_endOfBlock, Cond.code yX7_endOfBlock cX7_endOfBlock 3 (some .int), Cond.methodLink RX7 29 Lib.Math.min.name, Cond.methodLink RX2 37 yX7_isBare]
def wsX8_count_r4 : List Cond := [Cond.instanceMethod yX7_isBare, Cond.selects RX7 yX7_isBare yX7_isBare, Cond.code yX7_isBare cX7_isBare 3 (some .boolean), Cond.methodLink RX2 45 yX6_at, Cond.instanceMethod yX6_at, Cond.selects RX6 yX6_at yX6_at, Cond.initialized RX6, Cond.code yX6_at cX6_at 2 (some .int), Cond.fieldLink RX6 15 "SensorTapes$Row" "length" "I", Cond.fieldLink RX6 9 "SensorTapes$Row" "samples" "[I", Cond.static yX8_toldAhead, Cond.code yX8_toldAhead cX8_toldAhead 7 (some .int), Cond.fieldLink RX8 213 "SensorTapes$Rules" "width" "I", Cond.methodLink RX8 147 Lib.Math.min.name, Cond.methodLink RX8 216 Lib.Math.max.name, Cond.static Lib.Math.max.name, Cond.code Lib.Math.max.name Lib.Math.max.code 2 (some .int), Cond.methodLink RX8 44 yX8_topOf, Cond.static yX8_topOf, Cond.code yX8_topOf cX8_topOf 1 (some .int), Cond.methodLink RX8 78 yX6_at, Cond.methodLink RX8 88 yX7_isBare, Cond.methodLink RX2 57 yX7_top, Cond.instanceMethod yX7_top]
def wsX8_count_r5 : List Cond := [Cond.selects RX7 yX7_top yX7_top, Cond.code yX7_top cX7_top 1 (some .int), Cond.fieldLink RX7 7 "SensorTapes$Rules" "width" "I", Cond.static yX8_fold, Cond.code yX8_fold cX8_fold 4 (some .int), Cond.methodLink RX8 219 Lib.Math.abs.name, Cond.static Lib.Math.abs.name, Cond.code Lib.Math.abs.name Lib.Math.abs.code 1 (some .int), Cond.methodLink RX4 60 yX2_costBy, Cond.instanceMethod yX2_costBy, Cond.selects RX2 yX2_costBy yX2_costBy, Cond.code yX2_costBy cX2_costBy 5 (some .int), Cond.static yX8_isCode, Cond.code yX8_isCode cX8_isCode 2 (some .boolean), Cond.methodLink RX2 69 yX2_isAllNothing, Cond.instanceMethod yX2_isAllNothing, Cond.selects RX2 yX2_isAllNothing yX2_isAllNothing, Cond.code yX2_isAllNothing cX2_isAllNothing 2 (some .boolean), Cond.methodLink RX4 56 yX2_write, Cond.instanceMethod yX2_write, Cond.selects RX2 yX2_write yX2_write, Cond.code yX2_write cX2_write 4 none, Cond.methodLink RX2 73 yX0_appendNumber, Cond.instanceMethod yX0_appendNumber]
def wsX8_count_r6 : List Cond := [Cond.selects RX0 yX0_appendNumber yX0_appendNumber, Cond.initialized RX0, Cond.code yX0_appendNumber cX0_appendNumber 4 none, Cond.methodLink RX0 23 yX0_append, Cond.instanceMethod yX0_append, Cond.selects RX0 yX0_append yX0_append, Cond.code yX0_append cX0_append 2 none, Cond.fieldLink RX0 15 "SensorTapes$Bits" "length" "I", Cond.fieldLink RX0 9 "SensorTapes$Bits" "bits" "[I", Cond.methodLink RX2 79 yX2_writeByNoughts, Cond.instanceMethod yX2_writeByNoughts, Cond.selects RX2 yX2_writeByNoughts yX2_writeByNoughts, Cond.code yX2_writeByNoughts cX2_writeByNoughts 6 none, Cond.methodLink RX2 83 yX0_append, Cond.methodLink RX8 52 yX7_value, Cond.instanceMethod yX7_value, Cond.selects RX7 yX7_value yX7_value, Cond.code yX7_value cX7_value 2 (some .int), Cond.methodLink RX8 210 yX4_settledWith, Cond.instanceMethod yX4_settledWith, Cond.selects RX4 yX4_settledWith yX4_settledWith, Cond.code yX4_settledWith cX4_settledWith 4 (some .int)]
def wsX8_count : List Cond := .code yX8_count cX8_count 2 (some .int) :: ((wsX8_count_r1 ++ (wsX8_count_r2 ++ (wsX8_count_r3 ++ (wsX8_count_r4 ++ (wsX8_count_r5 ++ wsX8_count_r6))))) ++ wsX80 ++ wsX30 ++ wsX60 ++ wsX40 ++ wsX00 ++ wsX70 ++ wsX20)
def wsX9_init : List Cond := .code yX9_init cX9_init 1 none :: ([.methodLink RX9 1 objectInit, .instanceMethod objectInit, .code objectInit ⟨#[0xb1]⟩ 1 none, .arrayClass .int, .fieldLink RX9 7 "SensorTapesModel" "state" "[I", .fieldLink RX9 13 "SensorTapesModel" "images" "[I", .arrayClass .boolean, .fieldLink RX9 16 "SensorTapesModel" "isKept" "[Z", .fieldLink RX9 20 "SensorTapesModel" "row" "[I", .fieldLink RX9 23 "SensorTapesModel" "bits" "[I", .fieldLink RX9 26 "SensorTapesModel" "blockAt" "[I", .fieldLink RX9 29 "SensorTapesModel" "chosen" "[I"] ++ wsX90)
def wsX9_in : List Cond := .code yX9_in cX9_in 3 (some .boolean) :: ([])
def wsX9_top : List Cond := .code yX9_top cX9_top 1 (some .int) :: ([.fieldLink RX9 7 "SensorTapesModel" "state" "[I"] ++ wsX90)
def wsX9_many : List Cond := .code yX9_many cX9_many 1 (some .int) :: ([.fieldLink RX9 7 "SensorTapesModel" "state" "[I"] ++ wsX90)
def wsX9_fitsBelow : List Cond := .code yX9_fitsBelow cX9_fitsBelow 4 (some .boolean) :: ([.fieldLink RX9 7 "SensorTapesModel" "state" "[I", .methodLink RX9 32 yX9_many, .instanceMethod yX9_many, .selects RX9 yX9_many yX9_many, .initialized RX9, .code yX9_many cX9_many 1 (some .int)] ++ wsX90)
def wsX9_rule : List Cond := .code yX9_rule cX9_rule 4 (some .int) :: ([.fieldLink RX9 7 "SensorTapesModel" "state" "[I", .methodLink RX9 36 yX9_in, .static yX9_in, .initialized RX9, .code yX9_in cX9_in 3 (some .boolean), .methodLink RX9 40 yX9_fitsBelow, .instanceMethod yX9_fitsBelow, .selects RX9 yX9_fitsBelow yX9_fitsBelow, .code yX9_fitsBelow cX9_fitsBelow 4 (some .boolean), .methodLink RX9 32 yX9_many, .instanceMethod yX9_many, .selects RX9 yX9_many yX9_many, .code yX9_many cX9_many 1 (some .int)] ++ wsX90)
def wsX9_add : List Cond := .code yX9_add cX9_add 2 (some .int) :: ([.fieldLink RX9 7 "SensorTapesModel" "state" "[I", .methodLink RX9 44 yX9_top, .instanceMethod yX9_top, .selects RX9 yX9_top yX9_top, .initialized RX9, .code yX9_top cX9_top 1 (some .int), .methodLink RX9 36 yX9_in, .static yX9_in, .code yX9_in cX9_in 3 (some .boolean), .methodLink RX9 32 yX9_many, .instanceMethod yX9_many, .selects RX9 yX9_many yX9_many, .code yX9_many cX9_many 1 (some .int)] ++ wsX90)
def wsX9_clear : List Cond := .code yX9_clear cX9_clear 2 (some .int) :: ([.fieldLink RX9 7 "SensorTapesModel" "state" "[I", .methodLink RX9 32 yX9_many, .instanceMethod yX9_many, .selects RX9 yX9_many yX9_many, .initialized RX9, .code yX9_many cX9_many 1 (some .int)] ++ wsX90)
def wsX9_sample : List Cond := .code yX9_sample cX9_sample 2 (some .int) :: ([.fieldLink RX9 7 "SensorTapesModel" "state" "[I", .methodLink RX9 32 yX9_many, .instanceMethod yX9_many, .selects RX9 yX9_many yX9_many, .initialized RX9, .code yX9_many cX9_many 1 (some .int), .methodLink RX9 36 yX9_in, .static yX9_in, .code yX9_in cX9_in 3 (some .boolean)] ++ wsX90)
def wsX9_segmentLong : List Cond := .code yX9_segmentLong cX9_segmentLong 1 (some .int) :: ([.fieldLink RX9 7 "SensorTapesModel" "state" "[I"] ++ wsX90)
def wsX9_isBare : List Cond := .code yX9_isBare cX9_isBare 2 (some .boolean) :: ([.methodLink RX9 47 yX9_segmentLong, .instanceMethod yX9_segmentLong, .selects RX9 yX9_segmentLong yX9_segmentLong, .initialized RX9, .code yX9_segmentLong cX9_segmentLong 1 (some .int), .fieldLink RX9 7 "SensorTapesModel" "state" "[I"] ++ wsX90)
def wsX9_expected : List Cond := .code yX9_expected cX9_expected 6 (some .int) :: ([.fieldLink RX9 20 "SensorTapesModel" "row" "[I", .methodLink RX9 50 yX9_isBare, .instanceMethod yX9_isBare, .selects RX9 yX9_isBare yX9_isBare, .initialized RX9, .code yX9_isBare cX9_isBare 2 (some .boolean), .methodLink RX9 47 yX9_segmentLong, .instanceMethod yX9_segmentLong, .selects RX9 yX9_segmentLong yX9_segmentLong, .code yX9_segmentLong cX9_segmentLong 1 (some .int), .fieldLink RX9 7 "SensorTapesModel" "state" "[I", .methodLink RX9 44 yX9_top, .instanceMethod yX9_top, .selects RX9 yX9_top yX9_top, .code yX9_top cX9_top 1 (some .int)] ++ wsX90)
def wsX9_room : List Cond := .code yX9_room cX9_room 2 (some .int) :: ([.methodLink RX9 44 yX9_top, .instanceMethod yX9_top, .selects RX9 yX9_top yX9_top, .initialized RX9, .code yX9_top cX9_top 1 (some .int), .fieldLink RX9 7 "SensorTapesModel" "state" "[I"] ++ wsX90)
def wsX9_fold : List Cond := .code yX9_fold cX9_fold 5 (some .int) :: ([.methodLink RX9 53 yX9_room, .instanceMethod yX9_room, .selects RX9 yX9_room yX9_room, .initialized RX9, .code yX9_room cX9_room 2 (some .int), .methodLink RX9 44 yX9_top, .instanceMethod yX9_top, .selects RX9 yX9_top yX9_top, .code yX9_top cX9_top 1 (some .int), .fieldLink RX9 7 "SensorTapesModel" "state" "[I"] ++ wsX90)
def wsX9_unfold : List Cond := .code yX9_unfold cX9_unfold 4 (some .int) :: ([.methodLink RX9 53 yX9_room, .instanceMethod yX9_room, .selects RX9 yX9_room yX9_room, .initialized RX9, .code yX9_room cX9_room 2 (some .int), .methodLink RX9 44 yX9_top, .instanceMethod yX9_top, .selects RX9 yX9_top yX9_top, .code yX9_top cX9_top 1 (some .int), .fieldLink RX9 7 "SensorTapesModel" "state" "[I"] ++ wsX90)
def wsX9_takeRow : List Cond := .code yX9_takeRow cX9_takeRow 2 none :: ([.fieldLink RX9 20 "SensorTapesModel" "row" "[I", .fieldLink RX9 7 "SensorTapesModel" "state" "[I", .methodLink RX9 32 yX9_many, .instanceMethod yX9_many, .selects RX9 yX9_many yX9_many, .initialized RX9, .code yX9_many cX9_many 1 (some .int)] ++ wsX90)
def wsX9_ahead_r1 : List Cond := [Cond.fieldLink RX9 20 "SensorTapesModel" "row" "[I", Cond.methodLink RX9 36 yX9_in, Cond.static yX9_in, Cond.initialized RX9, Cond.code yX9_in cX9_in 3 (some .boolean), Cond.methodLink RX9 32 yX9_many, Cond.instanceMethod yX9_many, Cond.selects RX9 yX9_many yX9_many, Cond.code yX9_many cX9_many 1 (some .int), Cond.fieldLink RX9 7 "SensorTapesModel" "state" "[I", Cond.methodLink RX9 50 yX9_isBare, Cond.instanceMethod yX9_isBare, Cond.selects RX9 yX9_isBare yX9_isBare, Cond.code yX9_isBare cX9_isBare 2 (some .boolean), Cond.methodLink RX9 47 yX9_segmentLong, Cond.instanceMethod yX9_segmentLong, Cond.selects RX9 yX9_segmentLong yX9_segmentLong, Cond.code yX9_segmentLong cX9_segmentLong 1 (some .int), Cond.methodLink RX9 57 yX9_takeRow, Cond.instanceMethod yX9_takeRow, Cond.selects RX9 yX9_takeRow yX9_takeRow, Cond.code yX9_takeRow cX9_takeRow 2 none, Cond.methodLink RX9 60 yX9_expected, Cond.instanceMethod yX9_expected]
def wsX9_ahead_r2 : List Cond := [Cond.selects RX9 yX9_expected yX9_expected, Cond.code yX9_expected cX9_expected 6 (some .int), Cond.methodLink RX9 44 yX9_top, Cond.instanceMethod yX9_top, Cond.selects RX9 yX9_top yX9_top, Cond.code yX9_top cX9_top 1 (some .int), Cond.methodLink RX9 64 yX9_fold, Cond.instanceMethod yX9_fold, Cond.selects RX9 yX9_fold yX9_fold, Cond.code yX9_fold cX9_fold 5 (some .int), Cond.methodLink RX9 53 yX9_room, Cond.instanceMethod yX9_room, Cond.selects RX9 yX9_room yX9_room, Cond.code yX9_room cX9_room 2 (some .int)]
def wsX9_ahead : List Cond := .code yX9_ahead cX9_ahead 5 (some .int) :: ((wsX9_ahead_r1 ++ wsX9_ahead_r2) ++ wsX90)
def wsX9_blocks : List Cond := .code yX9_blocks cX9_blocks 1 (some .int) :: ([.fieldLink RX9 7 "SensorTapesModel" "state" "[I", .methodLink RX9 32 yX9_many, .instanceMethod yX9_many, .selects RX9 yX9_many yX9_many, .initialized RX9, .code yX9_many cX9_many 1 (some .int)] ++ wsX90)
def wsX9_firstOf : List Cond := .code yX9_firstOf cX9_firstOf 2 (some .int) :: ([.fieldLink RX9 7 "SensorTapesModel" "state" "[I"] ++ wsX90)
def wsX9_less : List Cond := .code yX9_less cX9_less 2 (some .int) :: ([])
def wsX9_endOf : List Cond := .code yX9_endOf cX9_endOf 2 (some .int) :: ([.fieldLink RX9 7 "SensorTapesModel" "state" "[I", .methodLink RX9 67 yX9_firstOf, .instanceMethod yX9_firstOf, .selects RX9 yX9_firstOf yX9_firstOf, .initialized RX9, .code yX9_firstOf cX9_firstOf 2 (some .int), .methodLink RX9 32 yX9_many, .instanceMethod yX9_many, .selects RX9 yX9_many yX9_many, .code yX9_many cX9_many 1 (some .int), .methodLink RX9 70 yX9_less, .static yX9_less, .code yX9_less cX9_less 2 (some .int)] ++ wsX90)
def wsX9_canCode : List Cond := .code yX9_canCode cX9_canCode 2 (some .boolean) :: ([.fieldLink RX9 7 "SensorTapesModel" "state" "[I", .methodLink RX9 36 yX9_in, .static yX9_in, .initialized RX9, .code yX9_in cX9_in 3 (some .boolean)] ++ wsX90)
def wsX9_bitsOf : List Cond := .code yX9_bitsOf cX9_bitsOf 3 (some .int) :: ([.fieldLink RX9 7 "SensorTapesModel" "state" "[I"] ++ wsX90)
def wsX9_costOf_r1 : List Cond := [Cond.fieldLink RX9 7 "SensorTapesModel" "state" "[I", Cond.fieldLink RX9 20 "SensorTapesModel" "row" "[I", Cond.methodLink RX9 73 yX9_canCode, Cond.instanceMethod yX9_canCode, Cond.selects RX9 yX9_canCode yX9_canCode, Cond.initialized RX9, Cond.code yX9_canCode cX9_canCode 2 (some .boolean), Cond.methodLink RX9 36 yX9_in, Cond.static yX9_in, Cond.code yX9_in cX9_in 3 (some .boolean), Cond.methodLink RX9 67 yX9_firstOf, Cond.instanceMethod yX9_firstOf, Cond.selects RX9 yX9_firstOf yX9_firstOf, Cond.code yX9_firstOf cX9_firstOf 2 (some .int), Cond.methodLink RX9 76 yX9_endOf, Cond.instanceMethod yX9_endOf, Cond.selects RX9 yX9_endOf yX9_endOf, Cond.code yX9_endOf cX9_endOf 2 (some .int), Cond.methodLink RX9 32 yX9_many, Cond.instanceMethod yX9_many, Cond.selects RX9 yX9_many yX9_many, Cond.code yX9_many cX9_many 1 (some .int), Cond.methodLink RX9 70 yX9_less, Cond.static yX9_less]
def wsX9_costOf_r2 : List Cond := [Cond.code yX9_less cX9_less 2 (some .int), Cond.methodLink RX9 50 yX9_isBare, Cond.instanceMethod yX9_isBare, Cond.selects RX9 yX9_isBare yX9_isBare, Cond.code yX9_isBare cX9_isBare 2 (some .boolean), Cond.methodLink RX9 47 yX9_segmentLong, Cond.instanceMethod yX9_segmentLong, Cond.selects RX9 yX9_segmentLong yX9_segmentLong, Cond.code yX9_segmentLong cX9_segmentLong 1 (some .int), Cond.methodLink RX9 60 yX9_expected, Cond.instanceMethod yX9_expected, Cond.selects RX9 yX9_expected yX9_expected, Cond.code yX9_expected cX9_expected 6 (some .int), Cond.methodLink RX9 44 yX9_top, Cond.instanceMethod yX9_top, Cond.selects RX9 yX9_top yX9_top, Cond.code yX9_top cX9_top 1 (some .int), Cond.methodLink RX9 64 yX9_fold, Cond.instanceMethod yX9_fold, Cond.selects RX9 yX9_fold yX9_fold, Cond.code yX9_fold cX9_fold 5 (some .int), Cond.methodLink RX9 53 yX9_room, Cond.instanceMethod yX9_room, Cond.selects RX9 yX9_room yX9_room]
def wsX9_costOf_r3 : List Cond := [Cond.code yX9_room cX9_room 2 (some .int), Cond.methodLink RX9 79 yX9_bitsOf, Cond.instanceMethod yX9_bitsOf, Cond.selects RX9 yX9_bitsOf yX9_bitsOf, Cond.code yX9_bitsOf cX9_bitsOf 3 (some .int)]
def wsX9_costOf : List Cond := .code yX9_costOf cX9_costOf 7 (some .int) :: ((wsX9_costOf_r1 ++ (wsX9_costOf_r2 ++ wsX9_costOf_r3)) ++ wsX90)
def wsX9_isBlock : List Cond := .code yX9_isBlock cX9_isBlock 2 (some .boolean) :: ([.methodLink RX9 82 yX9_blocks, .instanceMethod yX9_blocks, .selects RX9 yX9_blocks yX9_blocks, .initialized RX9, .code yX9_blocks cX9_blocks 1 (some .int), .fieldLink RX9 7 "SensorTapesModel" "state" "[I", .methodLink RX9 32 yX9_many, .instanceMethod yX9_many, .selects RX9 yX9_many yX9_many, .code yX9_many cX9_many 1 (some .int), .methodLink RX9 36 yX9_in, .static yX9_in, .code yX9_in cX9_in 3 (some .boolean)] ++ wsX90)
def wsX9_cost_r1 : List Cond := [Cond.methodLink RX9 36 yX9_in, Cond.static yX9_in, Cond.initialized RX9, Cond.code yX9_in cX9_in 3 (some .boolean), Cond.methodLink RX9 85 yX9_isBlock, Cond.instanceMethod yX9_isBlock, Cond.selects RX9 yX9_isBlock yX9_isBlock, Cond.code yX9_isBlock cX9_isBlock 2 (some .boolean), Cond.methodLink RX9 82 yX9_blocks, Cond.instanceMethod yX9_blocks, Cond.selects RX9 yX9_blocks yX9_blocks, Cond.code yX9_blocks cX9_blocks 1 (some .int), Cond.fieldLink RX9 7 "SensorTapesModel" "state" "[I", Cond.methodLink RX9 32 yX9_many, Cond.instanceMethod yX9_many, Cond.selects RX9 yX9_many yX9_many, Cond.code yX9_many cX9_many 1 (some .int), Cond.methodLink RX9 57 yX9_takeRow, Cond.instanceMethod yX9_takeRow, Cond.selects RX9 yX9_takeRow yX9_takeRow, Cond.code yX9_takeRow cX9_takeRow 2 none, Cond.fieldLink RX9 20 "SensorTapesModel" "row" "[I", Cond.methodLink RX9 88 yX9_costOf, Cond.instanceMethod yX9_costOf]
def wsX9_cost_r2 : List Cond := [Cond.selects RX9 yX9_costOf yX9_costOf, Cond.code yX9_costOf cX9_costOf 7 (some .int), Cond.methodLink RX9 73 yX9_canCode, Cond.instanceMethod yX9_canCode, Cond.selects RX9 yX9_canCode yX9_canCode, Cond.code yX9_canCode cX9_canCode 2 (some .boolean), Cond.methodLink RX9 67 yX9_firstOf, Cond.instanceMethod yX9_firstOf, Cond.selects RX9 yX9_firstOf yX9_firstOf, Cond.code yX9_firstOf cX9_firstOf 2 (some .int), Cond.methodLink RX9 76 yX9_endOf, Cond.instanceMethod yX9_endOf, Cond.selects RX9 yX9_endOf yX9_endOf, Cond.code yX9_endOf cX9_endOf 2 (some .int), Cond.methodLink RX9 70 yX9_less, Cond.static yX9_less, Cond.code yX9_less cX9_less 2 (some .int), Cond.methodLink RX9 50 yX9_isBare, Cond.instanceMethod yX9_isBare, Cond.selects RX9 yX9_isBare yX9_isBare, Cond.code yX9_isBare cX9_isBare 2 (some .boolean), Cond.methodLink RX9 47 yX9_segmentLong, Cond.instanceMethod yX9_segmentLong, Cond.selects RX9 yX9_segmentLong yX9_segmentLong]
def wsX9_cost_r3 : List Cond := [Cond.code yX9_segmentLong cX9_segmentLong 1 (some .int), Cond.methodLink RX9 60 yX9_expected, Cond.instanceMethod yX9_expected, Cond.selects RX9 yX9_expected yX9_expected, Cond.code yX9_expected cX9_expected 6 (some .int), Cond.methodLink RX9 44 yX9_top, Cond.instanceMethod yX9_top, Cond.selects RX9 yX9_top yX9_top, Cond.code yX9_top cX9_top 1 (some .int), Cond.methodLink RX9 64 yX9_fold, Cond.instanceMethod yX9_fold, Cond.selects RX9 yX9_fold yX9_fold, Cond.code yX9_fold cX9_fold 5 (some .int), Cond.methodLink RX9 53 yX9_room, Cond.instanceMethod yX9_room, Cond.selects RX9 yX9_room yX9_room, Cond.code yX9_room cX9_room 2 (some .int), Cond.methodLink RX9 79 yX9_bitsOf, Cond.instanceMethod yX9_bitsOf, Cond.selects RX9 yX9_bitsOf yX9_bitsOf, Cond.code yX9_bitsOf cX9_bitsOf 3 (some .int)]
def wsX9_cost : List Cond := .code yX9_cost cX9_cost 4 (some .int) :: ((wsX9_cost_r1 ++ (wsX9_cost_r2 ++ wsX9_cost_r3)) ++ wsX90)
def wsX9_choice_r1 : List Cond := [Cond.methodLink RX9 88 yX9_costOf, Cond.instanceMethod yX9_costOf, Cond.selects RX9 yX9_costOf yX9_costOf, Cond.initialized RX9, Cond.code yX9_costOf cX9_costOf 7 (some .int), Cond.fieldLink RX9 7 "SensorTapesModel" "state" "[I", Cond.fieldLink RX9 20 "SensorTapesModel" "row" "[I", Cond.methodLink RX9 73 yX9_canCode, Cond.instanceMethod yX9_canCode, Cond.selects RX9 yX9_canCode yX9_canCode, Cond.code yX9_canCode cX9_canCode 2 (some .boolean), Cond.methodLink RX9 36 yX9_in, Cond.static yX9_in, Cond.code yX9_in cX9_in 3 (some .boolean), Cond.methodLink RX9 67 yX9_firstOf, Cond.instanceMethod yX9_firstOf, Cond.selects RX9 yX9_firstOf yX9_firstOf, Cond.code yX9_firstOf cX9_firstOf 2 (some .int), Cond.methodLink RX9 76 yX9_endOf, Cond.instanceMethod yX9_endOf, Cond.selects RX9 yX9_endOf yX9_endOf, Cond.code yX9_endOf cX9_endOf 2 (some .int), Cond.methodLink RX9 32 yX9_many, Cond.instanceMethod yX9_many]
def wsX9_choice_r2 : List Cond := [Cond.selects RX9 yX9_many yX9_many, Cond.code yX9_many cX9_many 1 (some .int), Cond.methodLink RX9 70 yX9_less, Cond.static yX9_less, Cond.code yX9_less cX9_less 2 (some .int), Cond.methodLink RX9 50 yX9_isBare, Cond.instanceMethod yX9_isBare, Cond.selects RX9 yX9_isBare yX9_isBare, Cond.code yX9_isBare cX9_isBare 2 (some .boolean), Cond.methodLink RX9 47 yX9_segmentLong, Cond.instanceMethod yX9_segmentLong, Cond.selects RX9 yX9_segmentLong yX9_segmentLong, Cond.code yX9_segmentLong cX9_segmentLong 1 (some .int), Cond.methodLink RX9 60 yX9_expected, Cond.instanceMethod yX9_expected, Cond.selects RX9 yX9_expected yX9_expected, Cond.code yX9_expected cX9_expected 6 (some .int), Cond.methodLink RX9 44 yX9_top, Cond.instanceMethod yX9_top, Cond.selects RX9 yX9_top yX9_top, Cond.code yX9_top cX9_top 1 (some .int), Cond.methodLink RX9 64 yX9_fold, Cond.instanceMethod yX9_fold, Cond.selects RX9 yX9_fold yX9_fold]
def wsX9_choice_r3 : List Cond := [Cond.code yX9_fold cX9_fold 5 (some .int), Cond.methodLink RX9 53 yX9_room, Cond.instanceMethod yX9_room, Cond.selects RX9 yX9_room yX9_room, Cond.code yX9_room cX9_room 2 (some .int), Cond.methodLink RX9 79 yX9_bitsOf, Cond.instanceMethod yX9_bitsOf, Cond.selects RX9 yX9_bitsOf yX9_bitsOf, Cond.code yX9_bitsOf cX9_bitsOf 3 (some .int)]
def wsX9_choice : List Cond := .code yX9_choice cX9_choice 7 (some .int) :: ((wsX9_choice_r1 ++ (wsX9_choice_r2 ++ wsX9_choice_r3)) ++ wsX90)
def wsX9_write : List Cond := .code yX9_write cX9_write 4 none :: ([.fieldLink RX9 23 "SensorTapesModel" "bits" "[I", .fieldLink RX9 92 "SensorTapesModel" "bitMany" "I"] ++ wsX90)
def wsX9_writeFold : List Cond := .code yX9_writeFold cX9_writeFold 4 none :: ([.fieldLink RX9 7 "SensorTapesModel" "state" "[I", .methodLink RX9 96 yX9_write, .instanceMethod yX9_write, .selects RX9 yX9_write yX9_write, .initialized RX9, .code yX9_write cX9_write 4 none, .fieldLink RX9 23 "SensorTapesModel" "bits" "[I", .fieldLink RX9 92 "SensorTapesModel" "bitMany" "I"] ++ wsX90)
def wsX9_pack_r1 : List Cond := [Cond.fieldLink RX9 92 "SensorTapesModel" "bitMany" "I", Cond.fieldLink RX9 26 "SensorTapesModel" "blockAt" "[I", Cond.fieldLink RX9 29 "SensorTapesModel" "chosen" "[I", Cond.fieldLink RX9 20 "SensorTapesModel" "row" "[I", Cond.fieldLink RX9 7 "SensorTapesModel" "state" "[I", Cond.methodLink RX9 57 yX9_takeRow, Cond.instanceMethod yX9_takeRow, Cond.selects RX9 yX9_takeRow yX9_takeRow, Cond.initialized RX9, Cond.code yX9_takeRow cX9_takeRow 2 none, Cond.methodLink RX9 32 yX9_many, Cond.instanceMethod yX9_many, Cond.selects RX9 yX9_many yX9_many, Cond.code yX9_many cX9_many 1 (some .int), Cond.methodLink RX9 82 yX9_blocks, Cond.instanceMethod yX9_blocks, Cond.selects RX9 yX9_blocks yX9_blocks, Cond.code yX9_blocks cX9_blocks 1 (some .int), Cond.methodLink RX9 100 yX9_choice, Cond.instanceMethod yX9_choice, Cond.selects RX9 yX9_choice yX9_choice, Cond.code yX9_choice cX9_choice 7 (some .int), Cond.methodLink RX9 88 yX9_costOf, Cond.instanceMethod yX9_costOf]
def wsX9_pack_r2 : List Cond := [Cond.selects RX9 yX9_costOf yX9_costOf, Cond.code yX9_costOf cX9_costOf 7 (some .int), Cond.methodLink RX9 73 yX9_canCode, Cond.instanceMethod yX9_canCode, Cond.selects RX9 yX9_canCode yX9_canCode, Cond.code yX9_canCode cX9_canCode 2 (some .boolean), Cond.methodLink RX9 36 yX9_in, Cond.static yX9_in, Cond.code yX9_in cX9_in 3 (some .boolean), Cond.methodLink RX9 67 yX9_firstOf, Cond.instanceMethod yX9_firstOf, Cond.selects RX9 yX9_firstOf yX9_firstOf, Cond.code yX9_firstOf cX9_firstOf 2 (some .int), Cond.methodLink RX9 76 yX9_endOf, Cond.instanceMethod yX9_endOf, Cond.selects RX9 yX9_endOf yX9_endOf, Cond.code yX9_endOf cX9_endOf 2 (some .int), Cond.methodLink RX9 70 yX9_less, Cond.static yX9_less, Cond.code yX9_less cX9_less 2 (some .int), Cond.methodLink RX9 50 yX9_isBare, Cond.instanceMethod yX9_isBare, Cond.selects RX9 yX9_isBare yX9_isBare, Cond.code yX9_isBare cX9_isBare 2 (some .boolean)]
def wsX9_pack_r3 : List Cond := [Cond.methodLink RX9 47 yX9_segmentLong, Cond.instanceMethod yX9_segmentLong, Cond.selects RX9 yX9_segmentLong yX9_segmentLong, Cond.code yX9_segmentLong cX9_segmentLong 1 (some .int), Cond.methodLink RX9 60 yX9_expected, Cond.instanceMethod yX9_expected, Cond.selects RX9 yX9_expected yX9_expected, Cond.code yX9_expected cX9_expected 6 (some .int), Cond.methodLink RX9 44 yX9_top, Cond.instanceMethod yX9_top, Cond.selects RX9 yX9_top yX9_top, Cond.code yX9_top cX9_top 1 (some .int), Cond.methodLink RX9 64 yX9_fold, Cond.instanceMethod yX9_fold, Cond.selects RX9 yX9_fold yX9_fold, Cond.code yX9_fold cX9_fold 5 (some .int), Cond.methodLink RX9 53 yX9_room, Cond.instanceMethod yX9_room, Cond.selects RX9 yX9_room yX9_room, Cond.code yX9_room cX9_room 2 (some .int), Cond.methodLink RX9 79 yX9_bitsOf, Cond.instanceMethod yX9_bitsOf, Cond.selects RX9 yX9_bitsOf yX9_bitsOf, Cond.code yX9_bitsOf cX9_bitsOf 3 (some .int)]
def wsX9_pack_r4 : List Cond := [Cond.methodLink RX9 96 yX9_write, Cond.instanceMethod yX9_write, Cond.selects RX9 yX9_write yX9_write, Cond.code yX9_write cX9_write 4 none, Cond.fieldLink RX9 23 "SensorTapesModel" "bits" "[I", Cond.methodLink RX9 103 yX9_writeFold, Cond.instanceMethod yX9_writeFold, Cond.selects RX9 yX9_writeFold yX9_writeFold, Cond.code yX9_writeFold cX9_writeFold 4 none]
def wsX9_pack : List Cond := .code yX9_pack cX9_pack 5 none :: ((wsX9_pack_r1 ++ (wsX9_pack_r2 ++ (wsX9_pack_r3 ++ wsX9_pack_r4))) ++ wsX90)
def wsX9_block_r1 : List Cond := [Cond.fieldLink RX9 29 "SensorTapesModel" "chosen" "[I", Cond.fieldLink RX9 26 "SensorTapesModel" "blockAt" "[I", Cond.fieldLink RX9 7 "SensorTapesModel" "state" "[I", Cond.methodLink RX9 36 yX9_in, Cond.static yX9_in, Cond.initialized RX9, Cond.code yX9_in cX9_in 3 (some .boolean), Cond.methodLink RX9 85 yX9_isBlock, Cond.instanceMethod yX9_isBlock, Cond.selects RX9 yX9_isBlock yX9_isBlock, Cond.code yX9_isBlock cX9_isBlock 2 (some .boolean), Cond.methodLink RX9 82 yX9_blocks, Cond.instanceMethod yX9_blocks, Cond.selects RX9 yX9_blocks yX9_blocks, Cond.code yX9_blocks cX9_blocks 1 (some .int), Cond.methodLink RX9 32 yX9_many, Cond.instanceMethod yX9_many, Cond.selects RX9 yX9_many yX9_many, Cond.code yX9_many cX9_many 1 (some .int), Cond.methodLink RX9 106 yX9_pack, Cond.instanceMethod yX9_pack, Cond.selects RX9 yX9_pack yX9_pack, Cond.code yX9_pack cX9_pack 5 none, Cond.fieldLink RX9 92 "SensorTapesModel" "bitMany" "I"]
def wsX9_block_r2 : List Cond := [Cond.fieldLink RX9 20 "SensorTapesModel" "row" "[I", Cond.methodLink RX9 57 yX9_takeRow, Cond.instanceMethod yX9_takeRow, Cond.selects RX9 yX9_takeRow yX9_takeRow, Cond.code yX9_takeRow cX9_takeRow 2 none, Cond.methodLink RX9 100 yX9_choice, Cond.instanceMethod yX9_choice, Cond.selects RX9 yX9_choice yX9_choice, Cond.code yX9_choice cX9_choice 7 (some .int), Cond.methodLink RX9 88 yX9_costOf, Cond.instanceMethod yX9_costOf, Cond.selects RX9 yX9_costOf yX9_costOf, Cond.code yX9_costOf cX9_costOf 7 (some .int), Cond.methodLink RX9 73 yX9_canCode, Cond.instanceMethod yX9_canCode, Cond.selects RX9 yX9_canCode yX9_canCode, Cond.code yX9_canCode cX9_canCode 2 (some .boolean), Cond.methodLink RX9 67 yX9_firstOf, Cond.instanceMethod yX9_firstOf, Cond.selects RX9 yX9_firstOf yX9_firstOf, Cond.code yX9_firstOf cX9_firstOf 2 (some .int), Cond.methodLink RX9 76 yX9_endOf, Cond.instanceMethod yX9_endOf, Cond.selects RX9 yX9_endOf yX9_endOf]
def wsX9_block_r3 : List Cond := [Cond.code yX9_endOf cX9_endOf 2 (some .int), Cond.methodLink RX9 70 yX9_less, Cond.static yX9_less, Cond.code yX9_less cX9_less 2 (some .int), Cond.methodLink RX9 50 yX9_isBare, Cond.instanceMethod yX9_isBare, Cond.selects RX9 yX9_isBare yX9_isBare, Cond.code yX9_isBare cX9_isBare 2 (some .boolean), Cond.methodLink RX9 47 yX9_segmentLong, Cond.instanceMethod yX9_segmentLong, Cond.selects RX9 yX9_segmentLong yX9_segmentLong, Cond.code yX9_segmentLong cX9_segmentLong 1 (some .int), Cond.methodLink RX9 60 yX9_expected, Cond.instanceMethod yX9_expected, Cond.selects RX9 yX9_expected yX9_expected, Cond.code yX9_expected cX9_expected 6 (some .int), Cond.methodLink RX9 44 yX9_top, Cond.instanceMethod yX9_top, Cond.selects RX9 yX9_top yX9_top, Cond.code yX9_top cX9_top 1 (some .int), Cond.methodLink RX9 64 yX9_fold, Cond.instanceMethod yX9_fold, Cond.selects RX9 yX9_fold yX9_fold, Cond.code yX9_fold cX9_fold 5 (some .int)]
def wsX9_block_r4 : List Cond := [Cond.methodLink RX9 53 yX9_room, Cond.instanceMethod yX9_room, Cond.selects RX9 yX9_room yX9_room, Cond.code yX9_room cX9_room 2 (some .int), Cond.methodLink RX9 79 yX9_bitsOf, Cond.instanceMethod yX9_bitsOf, Cond.selects RX9 yX9_bitsOf yX9_bitsOf, Cond.code yX9_bitsOf cX9_bitsOf 3 (some .int), Cond.methodLink RX9 96 yX9_write, Cond.instanceMethod yX9_write, Cond.selects RX9 yX9_write yX9_write, Cond.code yX9_write cX9_write 4 none, Cond.fieldLink RX9 23 "SensorTapesModel" "bits" "[I", Cond.methodLink RX9 103 yX9_writeFold, Cond.instanceMethod yX9_writeFold, Cond.selects RX9 yX9_writeFold yX9_writeFold, Cond.code yX9_writeFold cX9_writeFold 4 none]
def wsX9_block : List Cond := .code yX9_block cX9_block 3 (some .int) :: ((wsX9_block_r1 ++ (wsX9_block_r2 ++ (wsX9_block_r3 ++ wsX9_block_r4))) ++ wsX90)
def wsX9_packed_r1 : List Cond := [Cond.fieldLink RX9 92 "SensorTapesModel" "bitMany" "I", Cond.fieldLink RX9 23 "SensorTapesModel" "bits" "[I", Cond.methodLink RX9 106 yX9_pack, Cond.instanceMethod yX9_pack, Cond.selects RX9 yX9_pack yX9_pack, Cond.initialized RX9, Cond.code yX9_pack cX9_pack 5 none, Cond.fieldLink RX9 26 "SensorTapesModel" "blockAt" "[I", Cond.fieldLink RX9 29 "SensorTapesModel" "chosen" "[I", Cond.fieldLink RX9 20 "SensorTapesModel" "row" "[I", Cond.fieldLink RX9 7 "SensorTapesModel" "state" "[I", Cond.methodLink RX9 57 yX9_takeRow, Cond.instanceMethod yX9_takeRow, Cond.selects RX9 yX9_takeRow yX9_takeRow, Cond.code yX9_takeRow cX9_takeRow 2 none, Cond.methodLink RX9 32 yX9_many, Cond.instanceMethod yX9_many, Cond.selects RX9 yX9_many yX9_many, Cond.code yX9_many cX9_many 1 (some .int), Cond.methodLink RX9 82 yX9_blocks, Cond.instanceMethod yX9_blocks, Cond.selects RX9 yX9_blocks yX9_blocks, Cond.code yX9_blocks cX9_blocks 1 (some .int), Cond.methodLink RX9 100 yX9_choice]
def wsX9_packed_r2 : List Cond := [Cond.instanceMethod yX9_choice, Cond.selects RX9 yX9_choice yX9_choice, Cond.code yX9_choice cX9_choice 7 (some .int), Cond.methodLink RX9 88 yX9_costOf, Cond.instanceMethod yX9_costOf, Cond.selects RX9 yX9_costOf yX9_costOf, Cond.code yX9_costOf cX9_costOf 7 (some .int), Cond.methodLink RX9 73 yX9_canCode, Cond.instanceMethod yX9_canCode, Cond.selects RX9 yX9_canCode yX9_canCode, Cond.code yX9_canCode cX9_canCode 2 (some .boolean), Cond.methodLink RX9 36 yX9_in, Cond.static yX9_in, Cond.code yX9_in cX9_in 3 (some .boolean), Cond.methodLink RX9 67 yX9_firstOf, Cond.instanceMethod yX9_firstOf, Cond.selects RX9 yX9_firstOf yX9_firstOf, Cond.code yX9_firstOf cX9_firstOf 2 (some .int), Cond.methodLink RX9 76 yX9_endOf, Cond.instanceMethod yX9_endOf, Cond.selects RX9 yX9_endOf yX9_endOf, Cond.code yX9_endOf cX9_endOf 2 (some .int), Cond.methodLink RX9 70 yX9_less, Cond.static yX9_less]
def wsX9_packed_r3 : List Cond := [Cond.code yX9_less cX9_less 2 (some .int), Cond.methodLink RX9 50 yX9_isBare, Cond.instanceMethod yX9_isBare, Cond.selects RX9 yX9_isBare yX9_isBare, Cond.code yX9_isBare cX9_isBare 2 (some .boolean), Cond.methodLink RX9 47 yX9_segmentLong, Cond.instanceMethod yX9_segmentLong, Cond.selects RX9 yX9_segmentLong yX9_segmentLong, Cond.code yX9_segmentLong cX9_segmentLong 1 (some .int), Cond.methodLink RX9 60 yX9_expected, Cond.instanceMethod yX9_expected, Cond.selects RX9 yX9_expected yX9_expected, Cond.code yX9_expected cX9_expected 6 (some .int), Cond.methodLink RX9 44 yX9_top, Cond.instanceMethod yX9_top, Cond.selects RX9 yX9_top yX9_top, Cond.code yX9_top cX9_top 1 (some .int), Cond.methodLink RX9 64 yX9_fold, Cond.instanceMethod yX9_fold, Cond.selects RX9 yX9_fold yX9_fold, Cond.code yX9_fold cX9_fold 5 (some .int), Cond.methodLink RX9 53 yX9_room, Cond.instanceMethod yX9_room, Cond.selects RX9 yX9_room yX9_room]
def wsX9_packed_r4 : List Cond := [Cond.code yX9_room cX9_room 2 (some .int), Cond.methodLink RX9 79 yX9_bitsOf, Cond.instanceMethod yX9_bitsOf, Cond.selects RX9 yX9_bitsOf yX9_bitsOf, Cond.code yX9_bitsOf cX9_bitsOf 3 (some .int), Cond.methodLink RX9 96 yX9_write, Cond.instanceMethod yX9_write, Cond.selects RX9 yX9_write yX9_write, Cond.code yX9_write cX9_write 4 none, Cond.methodLink RX9 103 yX9_writeFold, Cond.instanceMethod yX9_writeFold, Cond.selects RX9 yX9_writeFold yX9_writeFold, Cond.code yX9_writeFold cX9_writeFold 4 none]
def wsX9_packed : List Cond := .code yX9_packed cX9_packed 2 (some .int) :: ((wsX9_packed_r1 ++ (wsX9_packed_r2 ++ (wsX9_packed_r3 ++ wsX9_packed_r4))) ++ wsX90)
def wsX9_lost_r1 : List Cond := [Cond.fieldLink RX9 7 "SensorTapesModel" "state" "[I", Cond.methodLink RX9 85 yX9_isBlock, Cond.instanceMethod yX9_isBlock, Cond.selects RX9 yX9_isBlock yX9_isBlock, Cond.initialized RX9, Cond.code yX9_isBlock cX9_isBlock 2 (some .boolean), Cond.methodLink RX9 82 yX9_blocks, Cond.instanceMethod yX9_blocks, Cond.selects RX9 yX9_blocks yX9_blocks, Cond.code yX9_blocks cX9_blocks 1 (some .int), Cond.methodLink RX9 32 yX9_many, Cond.instanceMethod yX9_many, Cond.selects RX9 yX9_many yX9_many, Cond.code yX9_many cX9_many 1 (some .int), Cond.methodLink RX9 36 yX9_in, Cond.static yX9_in, Cond.code yX9_in cX9_in 3 (some .boolean), Cond.methodLink RX9 47 yX9_segmentLong, Cond.instanceMethod yX9_segmentLong, Cond.selects RX9 yX9_segmentLong yX9_segmentLong, Cond.code yX9_segmentLong cX9_segmentLong 1 (some .int), Cond.methodLink RX9 70 yX9_less, Cond.static yX9_less, Cond.code yX9_less cX9_less 2 (some .int)]
def wsX9_lost_r2 : List Cond := [Cond.methodLink RX9 67 yX9_firstOf, Cond.instanceMethod yX9_firstOf, Cond.selects RX9 yX9_firstOf yX9_firstOf, Cond.code yX9_firstOf cX9_firstOf 2 (some .int)]
def wsX9_lost : List Cond := .code yX9_lost cX9_lost 3 (some .int) :: ((wsX9_lost_r1 ++ wsX9_lost_r2) ++ wsX90)
def wsX9_tape_r1 : List Cond := [Cond.fieldLink RX9 92 "SensorTapesModel" "bitMany" "I", Cond.fieldLink RX9 7 "SensorTapesModel" "state" "[I", Cond.fieldLink RX9 23 "SensorTapesModel" "bits" "[I", Cond.methodLink RX9 106 yX9_pack, Cond.instanceMethod yX9_pack, Cond.selects RX9 yX9_pack yX9_pack, Cond.initialized RX9, Cond.code yX9_pack cX9_pack 5 none, Cond.fieldLink RX9 26 "SensorTapesModel" "blockAt" "[I", Cond.fieldLink RX9 29 "SensorTapesModel" "chosen" "[I", Cond.fieldLink RX9 20 "SensorTapesModel" "row" "[I", Cond.methodLink RX9 57 yX9_takeRow, Cond.instanceMethod yX9_takeRow, Cond.selects RX9 yX9_takeRow yX9_takeRow, Cond.code yX9_takeRow cX9_takeRow 2 none, Cond.methodLink RX9 32 yX9_many, Cond.instanceMethod yX9_many, Cond.selects RX9 yX9_many yX9_many, Cond.code yX9_many cX9_many 1 (some .int), Cond.methodLink RX9 82 yX9_blocks, Cond.instanceMethod yX9_blocks, Cond.selects RX9 yX9_blocks yX9_blocks, Cond.code yX9_blocks cX9_blocks 1 (some .int), Cond.methodLink RX9 100 yX9_choice]
def wsX9_tape_r2 : List Cond := [Cond.instanceMethod yX9_choice, Cond.selects RX9 yX9_choice yX9_choice, Cond.code yX9_choice cX9_choice 7 (some .int), Cond.methodLink RX9 88 yX9_costOf, Cond.instanceMethod yX9_costOf, Cond.selects RX9 yX9_costOf yX9_costOf, Cond.code yX9_costOf cX9_costOf 7 (some .int), Cond.methodLink RX9 73 yX9_canCode, Cond.instanceMethod yX9_canCode, Cond.selects RX9 yX9_canCode yX9_canCode, Cond.code yX9_canCode cX9_canCode 2 (some .boolean), Cond.methodLink RX9 36 yX9_in, Cond.static yX9_in, Cond.code yX9_in cX9_in 3 (some .boolean), Cond.methodLink RX9 67 yX9_firstOf, Cond.instanceMethod yX9_firstOf, Cond.selects RX9 yX9_firstOf yX9_firstOf, Cond.code yX9_firstOf cX9_firstOf 2 (some .int), Cond.methodLink RX9 76 yX9_endOf, Cond.instanceMethod yX9_endOf, Cond.selects RX9 yX9_endOf yX9_endOf, Cond.code yX9_endOf cX9_endOf 2 (some .int), Cond.methodLink RX9 70 yX9_less, Cond.static yX9_less]
def wsX9_tape_r3 : List Cond := [Cond.code yX9_less cX9_less 2 (some .int), Cond.methodLink RX9 50 yX9_isBare, Cond.instanceMethod yX9_isBare, Cond.selects RX9 yX9_isBare yX9_isBare, Cond.code yX9_isBare cX9_isBare 2 (some .boolean), Cond.methodLink RX9 47 yX9_segmentLong, Cond.instanceMethod yX9_segmentLong, Cond.selects RX9 yX9_segmentLong yX9_segmentLong, Cond.code yX9_segmentLong cX9_segmentLong 1 (some .int), Cond.methodLink RX9 60 yX9_expected, Cond.instanceMethod yX9_expected, Cond.selects RX9 yX9_expected yX9_expected, Cond.code yX9_expected cX9_expected 6 (some .int), Cond.methodLink RX9 44 yX9_top, Cond.instanceMethod yX9_top, Cond.selects RX9 yX9_top yX9_top, Cond.code yX9_top cX9_top 1 (some .int), Cond.methodLink RX9 64 yX9_fold, Cond.instanceMethod yX9_fold, Cond.selects RX9 yX9_fold yX9_fold, Cond.code yX9_fold cX9_fold 5 (some .int), Cond.methodLink RX9 53 yX9_room, Cond.instanceMethod yX9_room, Cond.selects RX9 yX9_room yX9_room]
def wsX9_tape_r4 : List Cond := [Cond.code yX9_room cX9_room 2 (some .int), Cond.methodLink RX9 79 yX9_bitsOf, Cond.instanceMethod yX9_bitsOf, Cond.selects RX9 yX9_bitsOf yX9_bitsOf, Cond.code yX9_bitsOf cX9_bitsOf 3 (some .int), Cond.methodLink RX9 96 yX9_write, Cond.instanceMethod yX9_write, Cond.selects RX9 yX9_write yX9_write, Cond.code yX9_write cX9_write 4 none, Cond.methodLink RX9 103 yX9_writeFold, Cond.instanceMethod yX9_writeFold, Cond.selects RX9 yX9_writeFold yX9_writeFold, Cond.code yX9_writeFold cX9_writeFold 4 none]
def wsX9_tape : List Cond := .code yX9_tape cX9_tape 2 (some .int) :: ((wsX9_tape_r1 ++ (wsX9_tape_r2 ++ (wsX9_tape_r3 ++ wsX9_tape_r4))) ++ wsX90)
def wsX9_push : List Cond := .code yX9_push cX9_push 2 (some .int) :: ([.fieldLink RX9 7 "SensorTapesModel" "state" "[I", .methodLink RX9 36 yX9_in, .static yX9_in, .initialized RX9, .code yX9_in cX9_in 3 (some .boolean)] ++ wsX90)
def wsX9_flip : List Cond := .code yX9_flip cX9_flip 2 (some .int) :: ([.fieldLink RX9 7 "SensorTapesModel" "state" "[I", .methodLink RX9 36 yX9_in, .static yX9_in, .initialized RX9, .code yX9_in cX9_in 3 (some .boolean)] ++ wsX90)
def wsX9_cut : List Cond := .code yX9_cut cX9_cut 3 (some .int) :: ([.fieldLink RX9 7 "SensorTapesModel" "state" "[I", .methodLink RX9 36 yX9_in, .static yX9_in, .initialized RX9, .code yX9_in cX9_in 3 (some .boolean)] ++ wsX90)
def wsX9_bit : List Cond := .code yX9_bit cX9_bit 2 (some .int) :: ([.fieldLink RX9 7 "SensorTapesModel" "state" "[I"] ++ wsX90)
def wsX9_fail : List Cond := .code yX9_fail cX9_fail 3 none :: ([.fieldLink RX9 109 "SensorTapesModel" "wrong" "I", .fieldLink RX9 112 "SensorTapesModel" "wrongAt" "I"] ++ wsX90)
def wsX9_number : List Cond := .code yX9_number cX9_number 4 (some .int) :: ([.fieldLink RX9 109 "SensorTapesModel" "wrong" "I", .fieldLink RX9 115 "SensorTapesModel" "at" "I", .fieldLink RX9 7 "SensorTapesModel" "state" "[I", .methodLink RX9 118 yX9_fail, .instanceMethod yX9_fail, .selects RX9 yX9_fail yX9_fail, .initialized RX9, .code yX9_fail cX9_fail 3 none, .fieldLink RX9 112 "SensorTapesModel" "wrongAt" "I"] ++ wsX90)
def wsX9_readFold : List Cond := .code yX9_readFold cX9_readFold 6 (some .int) :: ([.fieldLink RX9 7 "SensorTapesModel" "state" "[I", .fieldLink RX9 115 "SensorTapesModel" "at" "I", .fieldLink RX9 109 "SensorTapesModel" "wrong" "I", .methodLink RX9 121 yX9_number, .instanceMethod yX9_number, .selects RX9 yX9_number yX9_number, .initialized RX9, .code yX9_number cX9_number 4 (some .int), .methodLink RX9 118 yX9_fail, .instanceMethod yX9_fail, .selects RX9 yX9_fail yX9_fail, .code yX9_fail cX9_fail 3 none, .fieldLink RX9 112 "SensorTapesModel" "wrongAt" "I", .methodLink RX9 44 yX9_top, .instanceMethod yX9_top, .selects RX9 yX9_top yX9_top, .code yX9_top cX9_top 1 (some .int)] ++ wsX90)
def wsX9_readSample_r1 : List Cond := [Cond.fieldLink RX9 7 "SensorTapesModel" "state" "[I", Cond.fieldLink RX9 109 "SensorTapesModel" "wrong" "I", Cond.fieldLink RX9 20 "SensorTapesModel" "row" "[I", Cond.fieldLink RX9 130 "SensorTapesModel" "got" "I", Cond.methodLink RX9 50 yX9_isBare, Cond.instanceMethod yX9_isBare, Cond.selects RX9 yX9_isBare yX9_isBare, Cond.initialized RX9, Cond.code yX9_isBare cX9_isBare 2 (some .boolean), Cond.methodLink RX9 47 yX9_segmentLong, Cond.instanceMethod yX9_segmentLong, Cond.selects RX9 yX9_segmentLong yX9_segmentLong, Cond.code yX9_segmentLong cX9_segmentLong 1 (some .int), Cond.methodLink RX9 121 yX9_number, Cond.instanceMethod yX9_number, Cond.selects RX9 yX9_number yX9_number, Cond.code yX9_number cX9_number 4 (some .int), Cond.fieldLink RX9 115 "SensorTapesModel" "at" "I", Cond.methodLink RX9 118 yX9_fail, Cond.instanceMethod yX9_fail, Cond.selects RX9 yX9_fail yX9_fail, Cond.code yX9_fail cX9_fail 3 none, Cond.fieldLink RX9 112 "SensorTapesModel" "wrongAt" "I", Cond.methodLink RX9 124 yX9_readFold]
def wsX9_readSample_r2 : List Cond := [Cond.instanceMethod yX9_readFold, Cond.selects RX9 yX9_readFold yX9_readFold, Cond.code yX9_readFold cX9_readFold 6 (some .int), Cond.methodLink RX9 44 yX9_top, Cond.instanceMethod yX9_top, Cond.selects RX9 yX9_top yX9_top, Cond.code yX9_top cX9_top 1 (some .int), Cond.methodLink RX9 60 yX9_expected, Cond.instanceMethod yX9_expected, Cond.selects RX9 yX9_expected yX9_expected, Cond.code yX9_expected cX9_expected 6 (some .int), Cond.methodLink RX9 127 yX9_unfold, Cond.instanceMethod yX9_unfold, Cond.selects RX9 yX9_unfold yX9_unfold, Cond.code yX9_unfold cX9_unfold 4 (some .int), Cond.methodLink RX9 53 yX9_room, Cond.instanceMethod yX9_room, Cond.selects RX9 yX9_room yX9_room, Cond.code yX9_room cX9_room 2 (some .int)]
def wsX9_readSample : List Cond := .code yX9_readSample cX9_readSample 5 none :: ((wsX9_readSample_r1 ++ wsX9_readSample_r2) ++ wsX90)
def wsX9_readBlock_r1 : List Cond := [Cond.fieldLink RX9 115 "SensorTapesModel" "at" "I", Cond.fieldLink RX9 109 "SensorTapesModel" "wrong" "I", Cond.methodLink RX9 121 yX9_number, Cond.instanceMethod yX9_number, Cond.selects RX9 yX9_number yX9_number, Cond.initialized RX9, Cond.code yX9_number cX9_number 4 (some .int), Cond.fieldLink RX9 7 "SensorTapesModel" "state" "[I", Cond.methodLink RX9 118 yX9_fail, Cond.instanceMethod yX9_fail, Cond.selects RX9 yX9_fail yX9_fail, Cond.code yX9_fail cX9_fail 3 none, Cond.fieldLink RX9 112 "SensorTapesModel" "wrongAt" "I", Cond.methodLink RX9 73 yX9_canCode, Cond.instanceMethod yX9_canCode, Cond.selects RX9 yX9_canCode yX9_canCode, Cond.code yX9_canCode cX9_canCode 2 (some .boolean), Cond.methodLink RX9 36 yX9_in, Cond.static yX9_in, Cond.code yX9_in cX9_in 3 (some .boolean), Cond.methodLink RX9 133 yX9_readSample, Cond.instanceMethod yX9_readSample, Cond.selects RX9 yX9_readSample yX9_readSample, Cond.code yX9_readSample cX9_readSample 5 none]
def wsX9_readBlock_r2 : List Cond := [Cond.fieldLink RX9 20 "SensorTapesModel" "row" "[I", Cond.fieldLink RX9 130 "SensorTapesModel" "got" "I", Cond.methodLink RX9 50 yX9_isBare, Cond.instanceMethod yX9_isBare, Cond.selects RX9 yX9_isBare yX9_isBare, Cond.code yX9_isBare cX9_isBare 2 (some .boolean), Cond.methodLink RX9 47 yX9_segmentLong, Cond.instanceMethod yX9_segmentLong, Cond.selects RX9 yX9_segmentLong yX9_segmentLong, Cond.code yX9_segmentLong cX9_segmentLong 1 (some .int), Cond.methodLink RX9 124 yX9_readFold, Cond.instanceMethod yX9_readFold, Cond.selects RX9 yX9_readFold yX9_readFold, Cond.code yX9_readFold cX9_readFold 6 (some .int), Cond.methodLink RX9 44 yX9_top, Cond.instanceMethod yX9_top, Cond.selects RX9 yX9_top yX9_top, Cond.code yX9_top cX9_top 1 (some .int), Cond.methodLink RX9 60 yX9_expected, Cond.instanceMethod yX9_expected, Cond.selects RX9 yX9_expected yX9_expected, Cond.code yX9_expected cX9_expected 6 (some .int), Cond.methodLink RX9 127 yX9_unfold, Cond.instanceMethod yX9_unfold]
def wsX9_readBlock_r3 : List Cond := [Cond.selects RX9 yX9_unfold yX9_unfold, Cond.code yX9_unfold cX9_unfold 4 (some .int), Cond.methodLink RX9 53 yX9_room, Cond.instanceMethod yX9_room, Cond.selects RX9 yX9_room yX9_room, Cond.code yX9_room cX9_room 2 (some .int)]
def wsX9_readBlock : List Cond := .code yX9_readBlock cX9_readBlock 7 none :: ((wsX9_readBlock_r1 ++ (wsX9_readBlock_r2 ++ wsX9_readBlock_r3)) ++ wsX90)
def wsX9_read_r1 : List Cond := [Cond.fieldLink RX9 115 "SensorTapesModel" "at" "I", Cond.fieldLink RX9 109 "SensorTapesModel" "wrong" "I", Cond.fieldLink RX9 130 "SensorTapesModel" "got" "I", Cond.fieldLink RX9 7 "SensorTapesModel" "state" "[I", Cond.fieldLink RX9 112 "SensorTapesModel" "wrongAt" "I", Cond.fieldLink RX9 20 "SensorTapesModel" "row" "[I", Cond.methodLink RX9 36 yX9_in, Cond.static yX9_in, Cond.initialized RX9, Cond.code yX9_in cX9_in 3 (some .boolean), Cond.methodLink RX9 70 yX9_less, Cond.static yX9_less, Cond.code yX9_less cX9_less 2 (some .int), Cond.methodLink RX9 137 yX9_readBlock, Cond.instanceMethod yX9_readBlock, Cond.selects RX9 yX9_readBlock yX9_readBlock, Cond.code yX9_readBlock cX9_readBlock 7 none, Cond.methodLink RX9 121 yX9_number, Cond.instanceMethod yX9_number, Cond.selects RX9 yX9_number yX9_number, Cond.code yX9_number cX9_number 4 (some .int), Cond.methodLink RX9 118 yX9_fail, Cond.instanceMethod yX9_fail, Cond.selects RX9 yX9_fail yX9_fail]
def wsX9_read_r2 : List Cond := [Cond.code yX9_fail cX9_fail 3 none, Cond.methodLink RX9 73 yX9_canCode, Cond.instanceMethod yX9_canCode, Cond.selects RX9 yX9_canCode yX9_canCode, Cond.code yX9_canCode cX9_canCode 2 (some .boolean), Cond.methodLink RX9 133 yX9_readSample, Cond.instanceMethod yX9_readSample, Cond.selects RX9 yX9_readSample yX9_readSample, Cond.code yX9_readSample cX9_readSample 5 none, Cond.methodLink RX9 50 yX9_isBare, Cond.instanceMethod yX9_isBare, Cond.selects RX9 yX9_isBare yX9_isBare, Cond.code yX9_isBare cX9_isBare 2 (some .boolean), Cond.methodLink RX9 47 yX9_segmentLong, Cond.instanceMethod yX9_segmentLong, Cond.selects RX9 yX9_segmentLong yX9_segmentLong, Cond.code yX9_segmentLong cX9_segmentLong 1 (some .int), Cond.methodLink RX9 124 yX9_readFold, Cond.instanceMethod yX9_readFold, Cond.selects RX9 yX9_readFold yX9_readFold, Cond.code yX9_readFold cX9_readFold 6 (some .int), Cond.methodLink RX9 44 yX9_top, Cond.instanceMethod yX9_top, Cond.selects RX9 yX9_top yX9_top]
def wsX9_read_r3 : List Cond := [Cond.code yX9_top cX9_top 1 (some .int), Cond.methodLink RX9 60 yX9_expected, Cond.instanceMethod yX9_expected, Cond.selects RX9 yX9_expected yX9_expected, Cond.code yX9_expected cX9_expected 6 (some .int), Cond.methodLink RX9 127 yX9_unfold, Cond.instanceMethod yX9_unfold, Cond.selects RX9 yX9_unfold yX9_unfold, Cond.code yX9_unfold cX9_unfold 4 (some .int), Cond.methodLink RX9 53 yX9_room, Cond.instanceMethod yX9_room, Cond.selects RX9 yX9_room yX9_room, Cond.code yX9_room cX9_room 2 (some .int)]
def wsX9_read : List Cond := .code yX9_read cX9_read 3 (some .int) :: ((wsX9_read_r1 ++ (wsX9_read_r2 ++ wsX9_read_r3)) ++ wsX90)
def wsX9_fault : List Cond := .code yX9_fault cX9_fault 2 (some .int) :: ([.fieldLink RX9 7 "SensorTapesModel" "state" "[I", .methodLink RX9 36 yX9_in, .static yX9_in, .initialized RX9, .code yX9_in cX9_in 3 (some .boolean)] ++ wsX90)
def wsX9_image : List Cond := .code yX9_image cX9_image 3 (some .int) :: ([.fieldLink RX9 13 "SensorTapesModel" "images" "[I", .fieldLink RX9 7 "SensorTapesModel" "state" "[I", .fieldLink RX9 16 "SensorTapesModel" "isKept" "[Z", .methodLink RX9 36 yX9_in, .static yX9_in, .initialized RX9, .code yX9_in cX9_in 3 (some .boolean)] ++ wsX90)
def wsX9_restore : List Cond := .code yX9_restore cX9_restore 3 (some .int) :: ([.fieldLink RX9 16 "SensorTapesModel" "isKept" "[Z", .fieldLink RX9 7 "SensorTapesModel" "state" "[I", .fieldLink RX9 13 "SensorTapesModel" "images" "[I", .methodLink RX9 36 yX9_in, .static yX9_in, .initialized RX9, .code yX9_in cX9_in 3 (some .boolean)] ++ wsX90)
def wsX9_plainBlocks_r1 : List Cond := [Cond.fieldLink RX9 29 "SensorTapesModel" "chosen" "[I", Cond.methodLink RX9 106 yX9_pack, Cond.instanceMethod yX9_pack, Cond.selects RX9 yX9_pack yX9_pack, Cond.initialized RX9, Cond.code yX9_pack cX9_pack 5 none, Cond.fieldLink RX9 92 "SensorTapesModel" "bitMany" "I", Cond.fieldLink RX9 26 "SensorTapesModel" "blockAt" "[I", Cond.fieldLink RX9 20 "SensorTapesModel" "row" "[I", Cond.fieldLink RX9 7 "SensorTapesModel" "state" "[I", Cond.methodLink RX9 57 yX9_takeRow, Cond.instanceMethod yX9_takeRow, Cond.selects RX9 yX9_takeRow yX9_takeRow, Cond.code yX9_takeRow cX9_takeRow 2 none, Cond.methodLink RX9 32 yX9_many, Cond.instanceMethod yX9_many, Cond.selects RX9 yX9_many yX9_many, Cond.code yX9_many cX9_many 1 (some .int), Cond.methodLink RX9 82 yX9_blocks, Cond.instanceMethod yX9_blocks, Cond.selects RX9 yX9_blocks yX9_blocks, Cond.code yX9_blocks cX9_blocks 1 (some .int), Cond.methodLink RX9 100 yX9_choice, Cond.instanceMethod yX9_choice]
def wsX9_plainBlocks_r2 : List Cond := [Cond.selects RX9 yX9_choice yX9_choice, Cond.code yX9_choice cX9_choice 7 (some .int), Cond.methodLink RX9 88 yX9_costOf, Cond.instanceMethod yX9_costOf, Cond.selects RX9 yX9_costOf yX9_costOf, Cond.code yX9_costOf cX9_costOf 7 (some .int), Cond.methodLink RX9 73 yX9_canCode, Cond.instanceMethod yX9_canCode, Cond.selects RX9 yX9_canCode yX9_canCode, Cond.code yX9_canCode cX9_canCode 2 (some .boolean), Cond.methodLink RX9 36 yX9_in, Cond.static yX9_in, Cond.code yX9_in cX9_in 3 (some .boolean), Cond.methodLink RX9 67 yX9_firstOf, Cond.instanceMethod yX9_firstOf, Cond.selects RX9 yX9_firstOf yX9_firstOf, Cond.code yX9_firstOf cX9_firstOf 2 (some .int), Cond.methodLink RX9 76 yX9_endOf, Cond.instanceMethod yX9_endOf, Cond.selects RX9 yX9_endOf yX9_endOf, Cond.code yX9_endOf cX9_endOf 2 (some .int), Cond.methodLink RX9 70 yX9_less, Cond.static yX9_less, Cond.code yX9_less cX9_less 2 (some .int)]
def wsX9_plainBlocks_r3 : List Cond := [Cond.methodLink RX9 50 yX9_isBare, Cond.instanceMethod yX9_isBare, Cond.selects RX9 yX9_isBare yX9_isBare, Cond.code yX9_isBare cX9_isBare 2 (some .boolean), Cond.methodLink RX9 47 yX9_segmentLong, Cond.instanceMethod yX9_segmentLong, Cond.selects RX9 yX9_segmentLong yX9_segmentLong, Cond.code yX9_segmentLong cX9_segmentLong 1 (some .int), Cond.methodLink RX9 60 yX9_expected, Cond.instanceMethod yX9_expected, Cond.selects RX9 yX9_expected yX9_expected, Cond.code yX9_expected cX9_expected 6 (some .int), Cond.methodLink RX9 44 yX9_top, Cond.instanceMethod yX9_top, Cond.selects RX9 yX9_top yX9_top, Cond.code yX9_top cX9_top 1 (some .int), Cond.methodLink RX9 64 yX9_fold, Cond.instanceMethod yX9_fold, Cond.selects RX9 yX9_fold yX9_fold, Cond.code yX9_fold cX9_fold 5 (some .int), Cond.methodLink RX9 53 yX9_room, Cond.instanceMethod yX9_room, Cond.selects RX9 yX9_room yX9_room, Cond.code yX9_room cX9_room 2 (some .int)]
def wsX9_plainBlocks_r4 : List Cond := [Cond.methodLink RX9 79 yX9_bitsOf, Cond.instanceMethod yX9_bitsOf, Cond.selects RX9 yX9_bitsOf yX9_bitsOf, Cond.code yX9_bitsOf cX9_bitsOf 3 (some .int), Cond.methodLink RX9 96 yX9_write, Cond.instanceMethod yX9_write, Cond.selects RX9 yX9_write yX9_write, Cond.code yX9_write cX9_write 4 none, Cond.fieldLink RX9 23 "SensorTapesModel" "bits" "[I", Cond.methodLink RX9 103 yX9_writeFold, Cond.instanceMethod yX9_writeFold, Cond.selects RX9 yX9_writeFold yX9_writeFold, Cond.code yX9_writeFold cX9_writeFold 4 none]
def wsX9_plainBlocks : List Cond := .code yX9_plainBlocks cX9_plainBlocks 3 (some .int) :: ((wsX9_plainBlocks_r1 ++ (wsX9_plainBlocks_r2 ++ (wsX9_plainBlocks_r3 ++ wsX9_plainBlocks_r4))) ++ wsX90)
def wsX9_count_r1 : List Cond := [Cond.fieldLink RX9 7 "SensorTapesModel" "state" "[I", Cond.fieldLink RX9 16 "SensorTapesModel" "isKept" "[Z", Cond.methodLink RX9 32 yX9_many, Cond.instanceMethod yX9_many, Cond.selects RX9 yX9_many yX9_many, Cond.initialized RX9, Cond.code yX9_many cX9_many 1 (some .int), Cond.methodLink RX9 82 yX9_blocks, Cond.instanceMethod yX9_blocks, Cond.selects RX9 yX9_blocks yX9_blocks, Cond.code yX9_blocks cX9_blocks 1 (some .int), Cond.methodLink RX9 47 yX9_segmentLong, Cond.instanceMethod yX9_segmentLong, Cond.selects RX9 yX9_segmentLong yX9_segmentLong, Cond.code yX9_segmentLong cX9_segmentLong 1 (some .int), Cond.methodLink RX9 140 yX9_packed, Cond.instanceMethod yX9_packed, Cond.selects RX9 yX9_packed yX9_packed, Cond.code yX9_packed cX9_packed 2 (some .int), Cond.fieldLink RX9 92 "SensorTapesModel" "bitMany" "I", Cond.fieldLink RX9 23 "SensorTapesModel" "bits" "[I", Cond.methodLink RX9 106 yX9_pack, Cond.instanceMethod yX9_pack, Cond.selects RX9 yX9_pack yX9_pack]
def wsX9_count_r2 : List Cond := [Cond.code yX9_pack cX9_pack 5 none, Cond.fieldLink RX9 26 "SensorTapesModel" "blockAt" "[I", Cond.fieldLink RX9 29 "SensorTapesModel" "chosen" "[I", Cond.fieldLink RX9 20 "SensorTapesModel" "row" "[I", Cond.methodLink RX9 57 yX9_takeRow, Cond.instanceMethod yX9_takeRow, Cond.selects RX9 yX9_takeRow yX9_takeRow, Cond.code yX9_takeRow cX9_takeRow 2 none, Cond.methodLink RX9 100 yX9_choice, Cond.instanceMethod yX9_choice, Cond.selects RX9 yX9_choice yX9_choice, Cond.code yX9_choice cX9_choice 7 (some .int), Cond.methodLink RX9 88 yX9_costOf, Cond.instanceMethod yX9_costOf, Cond.selects RX9 yX9_costOf yX9_costOf, Cond.code yX9_costOf cX9_costOf 7 (some .int), Cond.methodLink RX9 73 yX9_canCode, Cond.instanceMethod yX9_canCode, Cond.selects RX9 yX9_canCode yX9_canCode, Cond.code yX9_canCode cX9_canCode 2 (some .boolean), Cond.methodLink RX9 36 yX9_in, Cond.static yX9_in, Cond.code yX9_in cX9_in 3 (some .boolean), Cond.methodLink RX9 67 yX9_firstOf]
def wsX9_count_r3 : List Cond := [Cond.instanceMethod yX9_firstOf, Cond.selects RX9 yX9_firstOf yX9_firstOf, Cond.code yX9_firstOf cX9_firstOf 2 (some .int), Cond.methodLink RX9 76 yX9_endOf, Cond.instanceMethod yX9_endOf, Cond.selects RX9 yX9_endOf yX9_endOf, Cond.code yX9_endOf cX9_endOf 2 (some .int), Cond.methodLink RX9 70 yX9_less, Cond.static yX9_less, Cond.code yX9_less cX9_less 2 (some .int), Cond.methodLink RX9 50 yX9_isBare, Cond.instanceMethod yX9_isBare, Cond.selects RX9 yX9_isBare yX9_isBare, Cond.code yX9_isBare cX9_isBare 2 (some .boolean), Cond.methodLink RX9 60 yX9_expected, Cond.instanceMethod yX9_expected, Cond.selects RX9 yX9_expected yX9_expected, Cond.code yX9_expected cX9_expected 6 (some .int), Cond.methodLink RX9 44 yX9_top, Cond.instanceMethod yX9_top, Cond.selects RX9 yX9_top yX9_top, Cond.code yX9_top cX9_top 1 (some .int), Cond.methodLink RX9 64 yX9_fold, Cond.instanceMethod yX9_fold]
def wsX9_count_r4 : List Cond := [Cond.selects RX9 yX9_fold yX9_fold, Cond.code yX9_fold cX9_fold 5 (some .int), Cond.methodLink RX9 53 yX9_room, Cond.instanceMethod yX9_room, Cond.selects RX9 yX9_room yX9_room, Cond.code yX9_room cX9_room 2 (some .int), Cond.methodLink RX9 79 yX9_bitsOf, Cond.instanceMethod yX9_bitsOf, Cond.selects RX9 yX9_bitsOf yX9_bitsOf, Cond.code yX9_bitsOf cX9_bitsOf 3 (some .int), Cond.methodLink RX9 96 yX9_write, Cond.instanceMethod yX9_write, Cond.selects RX9 yX9_write yX9_write, Cond.code yX9_write cX9_write 4 none, Cond.methodLink RX9 103 yX9_writeFold, Cond.instanceMethod yX9_writeFold, Cond.selects RX9 yX9_writeFold yX9_writeFold, Cond.code yX9_writeFold cX9_writeFold 4 none, Cond.methodLink RX9 143 yX9_plainBlocks, Cond.instanceMethod yX9_plainBlocks, Cond.selects RX9 yX9_plainBlocks yX9_plainBlocks, Cond.code yX9_plainBlocks cX9_plainBlocks 3 (some .int)]
def wsX9_count : List Cond := .code yX9_count cX9_count 2 (some .int) :: ((wsX9_count_r1 ++ (wsX9_count_r2 ++ (wsX9_count_r3 ++ wsX9_count_r4))) ++ wsX90)
def wsJ9_abs_0f7a4 : List Cond := .code yJ9_abs_0f7a4 cJ9_abs_0f7a4 1 (some .int) :: ([])
def wsJ9_max_7cf53 : List Cond := .code yJ9_max_7cf53 cJ9_max_7cf53 2 (some .int) :: ([])
def wsJ9_min_7cf53 : List Cond := .code yJ9_min_7cf53 cJ9_min_7cf53 2 (some .int) :: ([])
def wsL_law_r1 : List Cond := [Cond.classLink RL 7 RX8, Cond.instantiable RX8 5, Cond.initialized RX8, Cond.classLink RL 10 RX9, Cond.instantiable RX9 12, Cond.initialized RX9, Cond.methodLink RL 9 yX8_init, Cond.instanceMethod yX8_init, Cond.code yX8_init cX8_init 1 none, Cond.methodLink RX8 1 objectInit, Cond.instanceMethod objectInit, Cond.code objectInit ⟨#[0xb1]⟩ 1 none, Cond.classLink RX8 7 RX3, Cond.instantiable RX3 4, Cond.initialized RX3, Cond.fieldLink RX8 10 "SensorTapes" "now" "LSensorTapes$Held;", Cond.fieldLink RX8 16 "SensorTapes" "images" "[LSensorTapes$Held;", Cond.classLink RX8 20 RX4, Cond.instantiable RX4 6, Cond.initialized RX4, Cond.fieldLink RX8 23 "SensorTapes" "packer" "LSensorTapes$Packer;", Cond.classLink RX8 27 RX5, Cond.instantiable RX5 3, Cond.initialized RX5]
def wsL_law_r2 : List Cond := [Cond.fieldLink RX8 30 "SensorTapes" "reader" "LSensorTapes$Reader;", Cond.instanceMethod yX3_init, Cond.code yX3_init cX3_init 1 none, Cond.methodLink RX3 1 objectInit, Cond.classLink RX3 7 RX7, Cond.instantiable RX7 3, Cond.initialized RX7, Cond.fieldLink RX3 10 "SensorTapes$Held" "rules" "LSensorTapes$Rules;", Cond.classLink RX3 16 RX6, Cond.instantiable RX6 2, Cond.initialized RX6, Cond.fieldLink RX3 19 "SensorTapes$Held" "row" "LSensorTapes$Row;", Cond.classLink RX3 23 RX0, Cond.instantiable RX0 2, Cond.initialized RX0, Cond.fieldLink RX3 26 "SensorTapes$Held" "tape" "LSensorTapes$Bits;", Cond.classLink RX3 30 RX1, Cond.instantiable RX1 3, Cond.initialized RX1, Cond.fieldLink RX3 33 "SensorTapes$Held" "fault" "LSensorTapes$Fault;", Cond.instanceMethod yX7_init, Cond.code yX7_init cX7_init 1 none, Cond.methodLink RX7 1 objectInit, Cond.fieldLink RX7 7 "SensorTapes$Rules" "width" "I"]
def wsL_law_r3 : List Cond := [Cond.fieldLink RX7 13 "SensorTapes$Rules" "size" "I", Cond.fieldLink RX7 16 "SensorTapes$Rules" "every" "I", Cond.instanceMethod yX6_init, Cond.code yX6_init cX6_init 1 none, Cond.methodLink RX6 3 objectInit, Cond.arrayClass .int, Cond.fieldLink RX6 9 "SensorTapes$Row" "samples" "[I", Cond.instanceMethod yX0_init, Cond.code yX0_init cX0_init 1 none, Cond.methodLink RX0 3 objectInit, Cond.fieldLink RX0 9 "SensorTapes$Bits" "bits" "[I", Cond.instanceMethod yX1_init, Cond.code yX1_init cX1_init 1 none, Cond.methodLink RX1 3 objectInit, Cond.fieldLink RX1 9 "SensorTapes$Fault" "number" "I", Cond.fieldLink RX1 15 "SensorTapes$Fault" "place" "I", Cond.fieldLink RX1 18 "SensorTapes$Fault" "samples" "I", Cond.instanceMethod yX4_init, Cond.code yX4_init cX4_init 1 none, Cond.methodLink RX4 3 objectInit, Cond.fieldLink RX4 9 "SensorTapes$Packer" "ways" "[I", Cond.fieldLink RX4 15 "SensorTapes$Packer" "codes" "[I", Cond.fieldLink RX4 18 "SensorTapes$Packer" "firsts" "[I", Cond.classLink RX4 21 RX0]
def wsL_law_r4 : List Cond := [Cond.fieldLink RX4 24 "SensorTapes$Packer" "bits" "LSensorTapes$Bits;", Cond.classLink RX4 28 RX2, Cond.instantiable RX2 6, Cond.initialized RX2, Cond.fieldLink RX4 31 "SensorTapes$Packer" "folded" "LSensorTapes$Folded;", Cond.instanceMethod yX2_init, Cond.code yX2_init cX2_init 1 none, Cond.methodLink RX2 3 objectInit, Cond.fieldLink RX2 9 "SensorTapes$Folded" "folds" "[I", Cond.instanceMethod yX5_init, Cond.code yX5_init cX5_init 1 none, Cond.methodLink RX5 3 objectInit, Cond.classLink RX5 9 RX6, Cond.fieldLink RX5 12 "SensorTapes$Reader" "row" "LSensorTapes$Row;", Cond.classLink RX5 18 RX1, Cond.fieldLink RX5 21 "SensorTapes$Reader" "fault" "LSensorTapes$Fault;", Cond.methodLink RL 12 yX9_init, Cond.instanceMethod yX9_init, Cond.code yX9_init cX9_init 1 none, Cond.methodLink RX9 1 objectInit, Cond.fieldLink RX9 7 "SensorTapesModel" "state" "[I", Cond.fieldLink RX9 13 "SensorTapesModel" "images" "[I", Cond.arrayClass .boolean, Cond.fieldLink RX9 16 "SensorTapesModel" "isKept" "[Z"]
def wsL_law_r5 : List Cond := [Cond.fieldLink RX9 20 "SensorTapesModel" "row" "[I", Cond.fieldLink RX9 23 "SensorTapesModel" "bits" "[I", Cond.fieldLink RX9 26 "SensorTapesModel" "blockAt" "[I", Cond.fieldLink RX9 29 "SensorTapesModel" "chosen" "[I", Cond.methodLink RL 13 yX8_rule, Cond.instanceMethod yX8_rule, Cond.selects RX8 yX8_rule yX8_rule, Cond.code yX8_rule cX8_rule 5 (some .int), Cond.fieldLink RX8 34 "SensorTapes$Held" "row" "LSensorTapes$Row;", Cond.fieldLink RX8 48 "SensorTapes$Held" "rules" "LSensorTapes$Rules;", Cond.methodLink RX8 38 yX6_highest, Cond.instanceMethod yX6_highest, Cond.selects RX6 yX6_highest yX6_highest, Cond.code yX6_highest cX6_highest 3 (some .int), Cond.fieldLink RX6 15 "SensorTapes$Row" "length" "I", Cond.methodLink RX6 19 Lib.Math.max.name, Cond.static Lib.Math.max.name, Cond.initialized "java/lang/Math", Cond.code Lib.Math.max.name Lib.Math.max.code 2 (some .int), Cond.methodLink RX8 44 yX8_topOf, Cond.static yX8_topOf, Cond.code yX8_topOf cX8_topOf 1 (some .int), Cond.methodLink RX8 52 yX7_value, Cond.instanceMethod yX7_value]
def wsL_law_r6 : List Cond := [Cond.selects RX7 yX7_value yX7_value, Cond.code yX7_value cX7_value 2 (some .int), Cond.methodLink RX8 57 yX7_change, Cond.instanceMethod yX7_change, Cond.selects RX7 yX7_change yX7_change, Cond.code yX7_change cX7_change 3 none, Cond.methodLink RX8 61 yX4_keepOnly, Cond.instanceMethod yX4_keepOnly, Cond.selects RX4 yX4_keepOnly yX4_keepOnly, Cond.code yX4_keepOnly cX4_keepOnly 2 none, Cond.fieldLink RX4 35 "SensorTapes$Packer" "settled" "I", Cond.fieldLink RX4 39 "SensorTapes$Bits" "length" "I", Cond.methodLink RL 17 yX9_rule, Cond.instanceMethod yX9_rule, Cond.selects RX9 yX9_rule yX9_rule, Cond.code yX9_rule cX9_rule 4 (some .int), Cond.methodLink RX9 36 yX9_in, Cond.static yX9_in, Cond.code yX9_in cX9_in 3 (some .boolean), Cond.methodLink RX9 40 yX9_fitsBelow, Cond.instanceMethod yX9_fitsBelow, Cond.selects RX9 yX9_fitsBelow yX9_fitsBelow, Cond.code yX9_fitsBelow cX9_fitsBelow 4 (some .boolean), Cond.methodLink RX9 32 yX9_many]
def wsL_law_r7 : List Cond := [Cond.instanceMethod yX9_many, Cond.selects RX9 yX9_many yX9_many, Cond.code yX9_many cX9_many 1 (some .int), Cond.methodLink RL 18 yX8_add, Cond.instanceMethod yX8_add, Cond.selects RX8 yX8_add yX8_add, Cond.code yX8_add cX8_add 2 (some .int), Cond.fieldLink RX8 68 "SensorTapes$Row" "length" "I", Cond.methodLink RX8 65 yX7_top, Cond.instanceMethod yX7_top, Cond.selects RX7 yX7_top yX7_top, Cond.code yX7_top cX7_top 1 (some .int), Cond.methodLink RX8 72 yX7_blockWith, Cond.instanceMethod yX7_blockWith, Cond.selects RX7 yX7_blockWith yX7_blockWith, Cond.code yX7_blockWith cX7_blockWith 2 (some .int), Cond.static yX8_quotient, Cond.code yX8_quotient cX8_quotient 2 (some .int), Cond.methodLink RX8 75 yX6_append, Cond.instanceMethod yX6_append, Cond.selects RX6 yX6_append yX6_append, Cond.code yX6_append cX6_append 2 none, Cond.methodLink RL 22 yX9_add, Cond.instanceMethod yX9_add]
def wsL_law_r8 : List Cond := [Cond.selects RX9 yX9_add yX9_add, Cond.code yX9_add cX9_add 2 (some .int), Cond.methodLink RX9 44 yX9_top, Cond.instanceMethod yX9_top, Cond.selects RX9 yX9_top yX9_top, Cond.code yX9_top cX9_top 1 (some .int), Cond.methodLink RL 23 yX8_clear, Cond.instanceMethod yX8_clear, Cond.selects RX8 yX8_clear yX8_clear, Cond.code yX8_clear cX8_clear 2 (some .int), Cond.methodLink RL 27 yX9_clear, Cond.instanceMethod yX9_clear, Cond.selects RX9 yX9_clear yX9_clear, Cond.code yX9_clear cX9_clear 2 (some .int), Cond.methodLink RL 28 yX8_sample, Cond.instanceMethod yX8_sample, Cond.selects RX8 yX8_sample yX8_sample, Cond.code yX8_sample cX8_sample 2 (some .int), Cond.methodLink RX8 78 yX6_at, Cond.instanceMethod yX6_at, Cond.selects RX6 yX6_at yX6_at, Cond.code yX6_at cX6_at 2 (some .int), Cond.methodLink RL 31 yX9_sample, Cond.instanceMethod yX9_sample]
def wsL_law_r9 : List Cond := [Cond.selects RX9 yX9_sample yX9_sample, Cond.code yX9_sample cX9_sample 2 (some .int), Cond.methodLink RL 32 yX8_ahead, Cond.instanceMethod yX8_ahead, Cond.selects RX8 yX8_ahead yX8_ahead, Cond.code yX8_ahead cX8_ahead 5 (some .int), Cond.methodLink RX8 81 yX8_isWay, Cond.static yX8_isWay, Cond.code yX8_isWay cX8_isWay 1 (some .boolean), Cond.methodLink RX8 85 yX6_has, Cond.instanceMethod yX6_has, Cond.selects RX6 yX6_has yX6_has, Cond.code yX6_has cX6_has 2 (some .boolean), Cond.methodLink RX8 88 yX7_isBare, Cond.instanceMethod yX7_isBare, Cond.selects RX7 yX7_isBare yX7_isBare, Cond.code yX7_isBare cX7_isBare 3 (some .boolean), Cond.methodLink RX8 91 yX8_toldAhead, Cond.static yX8_toldAhead, Cond.code yX8_toldAhead cX8_toldAhead 7 (some .int), Cond.fieldLink RX8 213 "SensorTapes$Rules" "width" "I", Cond.methodLink RX8 147 Lib.Math.min.name, Cond.static Lib.Math.min.name, Cond.code Lib.Math.min.name Lib.Math.min.code 2 (some .int)]
def wsL_law_r10 : List Cond := [Cond.methodLink RX8 216 Lib.Math.max.name, Cond.methodLink RX8 95 yX8_fold, Cond.static yX8_fold, Cond.code yX8_fold cX8_fold 4 (some .int), Cond.methodLink RX8 219 Lib.Math.abs.name, Cond.static Lib.Math.abs.name, Cond.code Lib.Math.abs.name Lib.Math.abs.code 1 (some .int), Cond.methodLink RL 36 yX9_ahead, Cond.instanceMethod yX9_ahead, Cond.selects RX9 yX9_ahead yX9_ahead, Cond.code yX9_ahead cX9_ahead 5 (some .int), Cond.methodLink RX9 50 yX9_isBare, Cond.instanceMethod yX9_isBare, Cond.selects RX9 yX9_isBare yX9_isBare, Cond.code yX9_isBare cX9_isBare 2 (some .boolean), Cond.methodLink RX9 47 yX9_segmentLong, Cond.instanceMethod yX9_segmentLong, Cond.selects RX9 yX9_segmentLong yX9_segmentLong, Cond.code yX9_segmentLong cX9_segmentLong 1 (some .int), Cond.methodLink RX9 57 yX9_takeRow, Cond.instanceMethod yX9_takeRow, Cond.selects RX9 yX9_takeRow yX9_takeRow, Cond.code yX9_takeRow cX9_takeRow 2 none, Cond.methodLink RX9 60 yX9_expected]
def wsL_law_r11 : List Cond := [Cond.instanceMethod yX9_expected, Cond.selects RX9 yX9_expected yX9_expected, Cond.code yX9_expected cX9_expected 6 (some .int), Cond.methodLink RX9 64 yX9_fold, Cond.instanceMethod yX9_fold, Cond.selects RX9 yX9_fold yX9_fold, Cond.code yX9_fold cX9_fold 5 (some .int), Cond.methodLink RX9 53 yX9_room, Cond.instanceMethod yX9_room, Cond.selects RX9 yX9_room yX9_room, Cond.code yX9_room cX9_room 2 (some .int), Cond.methodLink RL 37 yX8_cost, Cond.instanceMethod yX8_cost, Cond.selects RX8 yX8_cost yX8_cost, Cond.code yX8_cost cX8_cost 4 (some .int), Cond.methodLink RX8 99 yX8_hasBlock, Cond.instanceMethod yX8_hasBlock, Cond.selects RX8 yX8_hasBlock yX8_hasBlock, Cond.code yX8_hasBlock cX8_hasBlock 2 (some .boolean), Cond.methodLink RX8 204 yX8_blocks, Cond.instanceMethod yX8_blocks, Cond.selects RX8 yX8_blocks yX8_blocks, Cond.code yX8_blocks cX8_blocks 1 (some .int), Cond.fieldLink RX8 124 "SensorTapes$Rules" "size" "I"]
def wsL_law_r12 : List Cond := [Cond.methodLink RX8 207 yX8_quotientUp, Cond.static yX8_quotientUp, Cond.code yX8_quotientUp cX8_quotientUp 2 (some .int), Cond.methodLink RX8 130 yX8_quotient, Cond.methodLink RX8 102 yX4_costOf, Cond.instanceMethod yX4_costOf, Cond.selects RX4 yX4_costOf yX4_costOf, Cond.code yX4_costOf cX4_costOf 6 (some .int), Cond.methodLink RX4 52 yX2_fill, Cond.instanceMethod yX2_fill, Cond.selects RX2 yX2_fill yX2_fill, Cond.code yX2_fill cX2_fill 8 none, Cond.fieldLink RX2 15 "SensorTapes$Rules" "size" "I", Cond.fieldLink RX2 21 "SensorTapes$Row" "length" "I", Cond.fieldLink RX2 30 "SensorTapes$Folded" "way" "I", Cond.fieldLink RX2 33 "SensorTapes$Rules" "width" "I", Cond.fieldLink RX2 36 "SensorTapes$Folded" "width" "I", Cond.fieldLink RX2 41 "SensorTapes$Folded" "hasBare" "Z", Cond.fieldLink RX2 49 "SensorTapes$Folded" "bare" "I", Cond.fieldLink RX2 52 "SensorTapes$Folded" "length" "I", Cond.methodLink RX2 26 yX7_endOfBlock, Cond.instanceMethod yX7_endOfBlock, Cond.selects RX7 yX7_endOfBlock yX7_endOfBlock, Cond.code yX7_endOfBlock cX7_endOfBlock 3 (some .int)]
def wsL_law_r13 : List Cond := [Cond.methodLink RX7 29 Lib.Math.min.name, Cond.methodLink RX2 37 yX7_isBare, Cond.methodLink RX2 45 yX6_at, Cond.methodLink RX2 57 yX7_top, Cond.methodLink RX4 60 yX2_costBy, Cond.instanceMethod yX2_costBy, Cond.selects RX2 yX2_costBy yX2_costBy, Cond.code yX2_costBy cX2_costBy 5 (some .int), Cond.static yX8_isCode, Cond.code yX8_isCode cX8_isCode 2 (some .boolean), Cond.methodLink RX2 69 yX2_isAllNothing, Cond.instanceMethod yX2_isAllNothing, Cond.selects RX2 yX2_isAllNothing yX2_isAllNothing, Cond.code yX2_isAllNothing cX2_isAllNothing 2 (some .boolean), Cond.methodLink RL 40 yX9_cost, Cond.instanceMethod yX9_cost, Cond.selects RX9 yX9_cost yX9_cost, Cond.code yX9_cost cX9_cost 4 (some .int), Cond.methodLink RX9 85 yX9_isBlock, Cond.instanceMethod yX9_isBlock, Cond.selects RX9 yX9_isBlock yX9_isBlock, Cond.code yX9_isBlock cX9_isBlock 2 (some .boolean), Cond.methodLink RX9 82 yX9_blocks, Cond.instanceMethod yX9_blocks]
def wsL_law_r14 : List Cond := [Cond.selects RX9 yX9_blocks yX9_blocks, Cond.code yX9_blocks cX9_blocks 1 (some .int), Cond.methodLink RX9 88 yX9_costOf, Cond.instanceMethod yX9_costOf, Cond.selects RX9 yX9_costOf yX9_costOf, Cond.code yX9_costOf cX9_costOf 7 (some .int), Cond.methodLink RX9 73 yX9_canCode, Cond.instanceMethod yX9_canCode, Cond.selects RX9 yX9_canCode yX9_canCode, Cond.code yX9_canCode cX9_canCode 2 (some .boolean), Cond.methodLink RX9 67 yX9_firstOf, Cond.instanceMethod yX9_firstOf, Cond.selects RX9 yX9_firstOf yX9_firstOf, Cond.code yX9_firstOf cX9_firstOf 2 (some .int), Cond.methodLink RX9 76 yX9_endOf, Cond.instanceMethod yX9_endOf, Cond.selects RX9 yX9_endOf yX9_endOf, Cond.code yX9_endOf cX9_endOf 2 (some .int), Cond.methodLink RX9 70 yX9_less, Cond.static yX9_less, Cond.code yX9_less cX9_less 2 (some .int), Cond.methodLink RX9 79 yX9_bitsOf, Cond.instanceMethod yX9_bitsOf, Cond.selects RX9 yX9_bitsOf yX9_bitsOf]
def wsL_law_r15 : List Cond := [Cond.code yX9_bitsOf cX9_bitsOf 3 (some .int), Cond.methodLink RL 41 yX8_block, Cond.instanceMethod yX8_block, Cond.selects RX8 yX8_block yX8_block, Cond.code yX8_block cX8_block 3 (some .int), Cond.fieldLink RX8 110 "SensorTapes$Packer" "ways" "[I", Cond.fieldLink RX8 114 "SensorTapes$Packer" "codes" "[I", Cond.fieldLink RX8 117 "SensorTapes$Packer" "firsts" "[I", Cond.fieldLink RX8 127 "SensorTapes$Rules" "every" "I", Cond.methodLink RX8 106 yX4_settle, Cond.instanceMethod yX4_settle, Cond.selects RX4 yX4_settle yX4_settle, Cond.code yX4_settle cX4_settle 6 none, Cond.methodLink RX4 42 Lib.Math.min.name, Cond.methodLink RX4 48 yX4_choose, Cond.instanceMethod yX4_choose, Cond.selects RX4 yX4_choose yX4_choose, Cond.code yX4_choose cX4_choose 8 none, Cond.methodLink RX4 56 yX2_write, Cond.instanceMethod yX2_write, Cond.selects RX2 yX2_write yX2_write, Cond.code yX2_write cX2_write 4 none, Cond.methodLink RX2 73 yX0_appendNumber, Cond.instanceMethod yX0_appendNumber]
def wsL_law_r16 : List Cond := [Cond.selects RX0 yX0_appendNumber yX0_appendNumber, Cond.code yX0_appendNumber cX0_appendNumber 4 none, Cond.methodLink RX0 23 yX0_append, Cond.instanceMethod yX0_append, Cond.selects RX0 yX0_append yX0_append, Cond.code yX0_append cX0_append 2 none, Cond.fieldLink RX0 15 "SensorTapes$Bits" "length" "I", Cond.methodLink RX2 79 yX2_writeByNoughts, Cond.instanceMethod yX2_writeByNoughts, Cond.selects RX2 yX2_writeByNoughts yX2_writeByNoughts, Cond.code yX2_writeByNoughts cX2_writeByNoughts 6 none, Cond.methodLink RX2 83 yX0_append, Cond.methodLink RX8 120 yX7_endOfBlock, Cond.methodLink RL 44 yX9_block, Cond.instanceMethod yX9_block, Cond.selects RX9 yX9_block yX9_block, Cond.code yX9_block cX9_block 3 (some .int), Cond.methodLink RX9 106 yX9_pack, Cond.instanceMethod yX9_pack, Cond.selects RX9 yX9_pack yX9_pack, Cond.code yX9_pack cX9_pack 5 none, Cond.fieldLink RX9 92 "SensorTapesModel" "bitMany" "I", Cond.methodLink RX9 100 yX9_choice, Cond.instanceMethod yX9_choice]
def wsL_law_r17 : List Cond := [Cond.selects RX9 yX9_choice yX9_choice, Cond.code yX9_choice cX9_choice 7 (some .int), Cond.methodLink RX9 96 yX9_write, Cond.instanceMethod yX9_write, Cond.selects RX9 yX9_write yX9_write, Cond.code yX9_write cX9_write 4 none, Cond.methodLink RX9 103 yX9_writeFold, Cond.instanceMethod yX9_writeFold, Cond.selects RX9 yX9_writeFold yX9_writeFold, Cond.code yX9_writeFold cX9_writeFold 4 none, Cond.methodLink RL 45 yX8_packed, Cond.instanceMethod yX8_packed, Cond.selects RX8 yX8_packed yX8_packed, Cond.code yX8_packed cX8_packed 2 (some .int), Cond.fieldLink RX8 136 "SensorTapes$Packer" "bits" "LSensorTapes$Bits;", Cond.fieldLink RX8 140 "SensorTapes$Bits" "length" "I", Cond.methodLink RX8 133 yX8_settleAll, Cond.instanceMethod yX8_settleAll, Cond.selects RX8 yX8_settleAll yX8_settleAll, Cond.code yX8_settleAll cX8_settleAll 1 none, Cond.methodLink RX8 143 yX0_at, Cond.instanceMethod yX0_at, Cond.selects RX0 yX0_at yX0_at, Cond.code yX0_at cX0_at 2 (some .int)]
def wsL_law_r18 : List Cond := [Cond.methodLink RL 48 yX9_packed, Cond.instanceMethod yX9_packed, Cond.selects RX9 yX9_packed yX9_packed, Cond.code yX9_packed cX9_packed 2 (some .int), Cond.methodLink RL 49 yX8_lost, Cond.instanceMethod yX8_lost, Cond.selects RX8 yX8_lost yX8_lost, Cond.code yX8_lost cX8_lost 4 (some .int), Cond.methodLink RX8 144 yX7_segmentSize, Cond.instanceMethod yX7_segmentSize, Cond.selects RX7 yX7_segmentSize yX7_segmentSize, Cond.code yX7_segmentSize cX7_segmentSize 1 (some .int), Cond.methodLink RL 52 yX9_lost, Cond.instanceMethod yX9_lost, Cond.selects RX9 yX9_lost yX9_lost, Cond.code yX9_lost cX9_lost 3 (some .int), Cond.methodLink RL 53 yX8_tape, Cond.instanceMethod yX8_tape, Cond.selects RX8 yX8_tape yX8_tape, Cond.code yX8_tape cX8_tape 1 (some .int), Cond.fieldLink RX8 152 "SensorTapes$Held" "tape" "LSensorTapes$Bits;", Cond.methodLink RX8 155 yX0_takeOver, Cond.instanceMethod yX0_takeOver, Cond.selects RX0 yX0_takeOver yX0_takeOver]
def wsL_law_r19 : List Cond := [Cond.code yX0_takeOver cX0_takeOver 2 none, Cond.methodLink RX0 27 arraycopyName, Cond.native arraycopyName, Cond.static arraycopyName, Cond.initialized "java/lang/System", Cond.methodLink RL 56 yX9_tape, Cond.instanceMethod yX9_tape, Cond.selects RX9 yX9_tape yX9_tape, Cond.code yX9_tape cX9_tape 2 (some .int), Cond.methodLink RL 57 yX8_push, Cond.instanceMethod yX8_push, Cond.selects RX8 yX8_push yX8_push, Cond.code yX8_push cX8_push 2 (some .int), Cond.methodLink RX8 159 yX0_append, Cond.methodLink RL 60 yX9_push, Cond.instanceMethod yX9_push, Cond.selects RX9 yX9_push yX9_push, Cond.code yX9_push cX9_push 2 (some .int), Cond.methodLink RL 61 yX8_flip, Cond.instanceMethod yX8_flip, Cond.selects RX8 yX8_flip yX8_flip, Cond.code yX8_flip cX8_flip 2 (some .int), Cond.methodLink RX8 160 yX0_has, Cond.instanceMethod yX0_has]
def wsL_law_r20 : List Cond := [Cond.selects RX0 yX0_has yX0_has, Cond.code yX0_has cX0_has 2 (some .boolean), Cond.methodLink RX8 161 yX0_turn, Cond.instanceMethod yX0_turn, Cond.selects RX0 yX0_turn yX0_turn, Cond.code yX0_turn cX0_turn 2 (some .int), Cond.methodLink RX0 19 yX0_has, Cond.methodLink RL 64 yX9_flip, Cond.instanceMethod yX9_flip, Cond.selects RX9 yX9_flip yX9_flip, Cond.code yX9_flip cX9_flip 2 (some .int), Cond.methodLink RL 65 yX8_cut, Cond.instanceMethod yX8_cut, Cond.selects RX8 yX8_cut yX8_cut, Cond.code yX8_cut cX8_cut 3 (some .int), Cond.methodLink RL 68 yX9_cut, Cond.instanceMethod yX9_cut, Cond.selects RX9 yX9_cut yX9_cut, Cond.code yX9_cut cX9_cut 3 (some .int), Cond.methodLink RL 69 yX8_bit, Cond.instanceMethod yX8_bit, Cond.selects RX8 yX8_bit yX8_bit, Cond.code yX8_bit cX8_bit 2 (some .int), Cond.methodLink RL 72 yX9_bit]
def wsL_law_r21 : List Cond := [Cond.instanceMethod yX9_bit, Cond.selects RX9 yX9_bit yX9_bit, Cond.code yX9_bit cX9_bit 2 (some .int), Cond.methodLink RL 73 yX8_read, Cond.instanceMethod yX8_read, Cond.selects RX8 yX8_read yX8_read, Cond.code yX8_read cX8_read 2 (some .int), Cond.fieldLink RX8 168 "SensorTapes$Held" "fault" "LSensorTapes$Fault;", Cond.fieldLink RX8 172 "SensorTapes$Reader" "fault" "LSensorTapes$Fault;", Cond.fieldLink RX8 182 "SensorTapes$Reader" "row" "LSensorTapes$Row;", Cond.methodLink RX8 164 yX5_takeAll, Cond.instanceMethod yX5_takeAll, Cond.selects RX5 yX5_takeAll yX5_takeAll, Cond.code yX5_takeAll cX5_takeAll 6 none, Cond.fieldLink RX5 25 "SensorTapes$Row" "length" "I", Cond.fieldLink RX5 29 "SensorTapes$Reader" "next" "I", Cond.fieldLink RX5 35 "SensorTapes$Rules" "size" "I", Cond.fieldLink RX5 55 "SensorTapes$Bits" "length" "I", Cond.methodLink RX5 32 yX1_forget, Cond.instanceMethod yX1_forget, Cond.selects RX1 yX1_forget yX1_forget, Cond.code yX1_forget cX1_forget 1 none, Cond.methodLink RX5 44 yX1_isTold, Cond.instanceMethod yX1_isTold]
def wsL_law_r22 : List Cond := [Cond.selects RX1 yX1_isTold yX1_isTold, Cond.code yX1_isTold cX1_isTold 1 (some .boolean), Cond.methodLink RX5 48 yX7_endOfBlock, Cond.methodLink RX5 51 yX5_takeBlock, Cond.instanceMethod yX5_takeBlock, Cond.selects RX5 yX5_takeBlock yX5_takeBlock, Cond.code yX5_takeBlock cX5_takeBlock 10 none, Cond.fieldLink RX5 69 "SensorTapes$Rules" "width" "I", Cond.methodLink RX5 61 yX5_takeNumber, Cond.instanceMethod yX5_takeNumber, Cond.selects RX5 yX5_takeNumber yX5_takeNumber, Cond.code yX5_takeNumber cX5_takeNumber 5 (some .int), Cond.methodLink RX5 58 yX5_fail, Cond.instanceMethod yX5_fail, Cond.selects RX5 yX5_fail yX5_fail, Cond.code yX5_fail cX5_fail 3 (some .int), Cond.fieldLink RX5 110 "SensorTapes$Fault" "number" "I", Cond.fieldLink RX5 113 "SensorTapes$Fault" "place" "I", Cond.fieldLink RX5 116 "SensorTapes$Fault" "samples" "I", Cond.methodLink RX5 104 yX0_at, Cond.methodLink RX5 76 yX7_isBare, Cond.methodLink RX5 80 yX5_takeTold, Cond.instanceMethod yX5_takeTold, Cond.selects RX5 yX5_takeTold yX5_takeTold]
def wsL_law_r23 : List Cond := [Cond.code yX5_takeTold cX5_takeTold 6 (some .int), Cond.methodLink RX5 88 yX5_takeByNoughts, Cond.instanceMethod yX5_takeByNoughts, Cond.selects RX5 yX5_takeByNoughts yX5_takeByNoughts, Cond.code yX5_takeByNoughts cX5_takeByNoughts 7 (some .int), Cond.methodLink RX5 107 yX0_has, Cond.methodLink RX5 96 yX7_top, Cond.static yX8_unfold, Cond.code yX8_unfold cX8_unfold 4 (some .int), Cond.methodLink RX5 84 yX6_append, Cond.methodLink RX8 173 yX1_takeOver, Cond.instanceMethod yX1_takeOver, Cond.selects RX1 yX1_takeOver yX1_takeOver, Cond.code yX1_takeOver cX1_takeOver 2 none, Cond.methodLink RX8 178 yX1_isTold, Cond.methodLink RX8 183 yX6_takeOver, Cond.instanceMethod yX6_takeOver, Cond.selects RX6 yX6_takeOver yX6_takeOver, Cond.code yX6_takeOver cX6_takeOver 2 none, Cond.methodLink RX6 25 arraycopyName, Cond.methodLink RL 76 yX9_read, Cond.instanceMethod yX9_read, Cond.selects RX9 yX9_read yX9_read, Cond.code yX9_read cX9_read 3 (some .int)]
def wsL_law_r24 : List Cond := [Cond.fieldLink RX9 115 "SensorTapesModel" "at" "I", Cond.fieldLink RX9 109 "SensorTapesModel" "wrong" "I", Cond.fieldLink RX9 130 "SensorTapesModel" "got" "I", Cond.fieldLink RX9 112 "SensorTapesModel" "wrongAt" "I", Cond.methodLink RX9 137 yX9_readBlock, Cond.instanceMethod yX9_readBlock, Cond.selects RX9 yX9_readBlock yX9_readBlock, Cond.code yX9_readBlock cX9_readBlock 7 none, Cond.methodLink RX9 121 yX9_number, Cond.instanceMethod yX9_number, Cond.selects RX9 yX9_number yX9_number, Cond.code yX9_number cX9_number 4 (some .int), Cond.methodLink RX9 118 yX9_fail, Cond.instanceMethod yX9_fail, Cond.selects RX9 yX9_fail yX9_fail, Cond.code yX9_fail cX9_fail 3 none, Cond.methodLink RX9 133 yX9_readSample, Cond.instanceMethod yX9_readSample, Cond.selects RX9 yX9_readSample yX9_readSample, Cond.code yX9_readSample cX9_readSample 5 none, Cond.methodLink RX9 124 yX9_readFold, Cond.instanceMethod yX9_readFold, Cond.selects RX9 yX9_readFold yX9_readFold, Cond.code yX9_readFold cX9_readFold 6 (some .int)]
def wsL_law_r25 : List Cond := [Cond.methodLink RX9 127 yX9_unfold, Cond.instanceMethod yX9_unfold, Cond.selects RX9 yX9_unfold yX9_unfold, Cond.code yX9_unfold cX9_unfold 4 (some .int), Cond.methodLink RL 77 yX8_fault, Cond.instanceMethod yX8_fault, Cond.selects RX8 yX8_fault yX8_fault, Cond.code yX8_fault cX8_fault 2 (some .int), Cond.fieldLink RX8 186 "SensorTapes$Fault" "number" "I", Cond.fieldLink RX8 189 "SensorTapes$Fault" "place" "I", Cond.fieldLink RX8 192 "SensorTapes$Fault" "samples" "I", Cond.methodLink RL 80 yX9_fault, Cond.instanceMethod yX9_fault, Cond.selects RX9 yX9_fault yX9_fault, Cond.code yX9_fault cX9_fault 2 (some .int), Cond.methodLink RL 81 yX8_image, Cond.instanceMethod yX8_image, Cond.selects RX8 yX8_image yX8_image, Cond.code yX8_image cX8_image 2 (some .int), Cond.fieldLink RX8 201 "SensorTapes" "imagesKept" "I", Cond.methodLink RX8 195 yX8_isImage, Cond.static yX8_isImage, Cond.code yX8_isImage cX8_isImage 1 (some .boolean), Cond.methodLink RX8 198 yX3_takeOver]
def wsL_law_r26 : List Cond := [Cond.instanceMethod yX3_takeOver, Cond.selects RX3 yX3_takeOver yX3_takeOver, Cond.code yX3_takeOver cX3_takeOver 2 none, Cond.methodLink RX3 37 yX7_takeOver, Cond.instanceMethod yX7_takeOver, Cond.selects RX7 yX7_takeOver yX7_takeOver, Cond.code yX7_takeOver cX7_takeOver 2 none, Cond.methodLink RX3 41 yX6_takeOver, Cond.methodLink RX3 44 yX0_takeOver, Cond.methodLink RX3 47 yX1_takeOver, Cond.methodLink RL 84 yX9_image, Cond.instanceMethod yX9_image, Cond.selects RX9 yX9_image yX9_image, Cond.code yX9_image cX9_image 3 (some .int), Cond.methodLink RL 85 yX8_restore, Cond.instanceMethod yX8_restore, Cond.selects RX8 yX8_restore yX8_restore, Cond.code yX8_restore cX8_restore 2 (some .int), Cond.methodLink RL 88 yX9_restore, Cond.instanceMethod yX9_restore, Cond.selects RX9 yX9_restore yX9_restore, Cond.code yX9_restore cX9_restore 3 (some .int), Cond.methodLink RL 89 yX8_count, Cond.instanceMethod yX8_count]
def wsL_law_r27 : List Cond := [Cond.selects RX8 yX8_count yX8_count, Cond.code yX8_count cX8_count 2 (some .int), Cond.methodLink RX8 210 yX4_settledWith, Cond.instanceMethod yX4_settledWith, Cond.selects RX4 yX4_settledWith yX4_settledWith, Cond.code yX4_settledWith cX4_settledWith 4 (some .int), Cond.methodLink RL 92 yX9_count, Cond.instanceMethod yX9_count, Cond.selects RX9 yX9_count yX9_count, Cond.code yX9_count cX9_count 2 (some .int), Cond.methodLink RX9 140 yX9_packed, Cond.methodLink RX9 143 yX9_plainBlocks, Cond.instanceMethod yX9_plainBlocks, Cond.selects RX9 yX9_plainBlocks yX9_plainBlocks, Cond.code yX9_plainBlocks cX9_plainBlocks 3 (some .int)]
def wsL_law : List Cond := (wsL_law_r1 ++ (wsL_law_r2 ++ (wsL_law_r3 ++ (wsL_law_r4 ++ (wsL_law_r5 ++ (wsL_law_r6 ++ (wsL_law_r7 ++ (wsL_law_r8 ++ (wsL_law_r9 ++ (wsL_law_r10 ++ (wsL_law_r11 ++ (wsL_law_r12 ++ (wsL_law_r13 ++ (wsL_law_r14 ++ (wsL_law_r15 ++ (wsL_law_r16 ++ (wsL_law_r17 ++ (wsL_law_r18 ++ (wsL_law_r19 ++ (wsL_law_r20 ++ (wsL_law_r21 ++ (wsL_law_r22 ++ (wsL_law_r23 ++ (wsL_law_r24 ++ (wsL_law_r25 ++ (wsL_law_r26 ++ wsL_law_r27)))))))))))))))))))))))))) ++ wsX80 ++ wsX90 ++ wsX30 ++ wsX40 ++ wsX50 ++ wsX70 ++ wsX60 ++ wsX00 ++ wsX10 ++ wsX20 ++ ([] : List Cond)
abbrev vwCl : List vw_C := [(RX0, TX0, 2), (RX1, TX1, 3), (RX2, TX2, 6), (RX3, TX3, 4), (RX4, TX4, 6), (RX5, TX5, 3), (RX6, TX6, 2), (RX7, TX7, 3), (RX8, TX8, 5), (RX9, TX9, 12)]
end
section
theorem dX0_init_0 : decode cX0_init 0 = .ok (.aload_n 0, 1) := by decide +kernel
theorem dX0_init_1 : decode cX0_init 1 = .ok (.invokespecial 3, 3) := by decide +kernel
theorem dX0_init_4 : decode cX0_init 4 = .ok (.aload_n 0, 1) := by decide +kernel
theorem dX0_init_5 : decode cX0_init 5 = .ok (.sipush 1000, 3) := by decide +kernel
theorem dX0_init_8 : decode cX0_init 8 = .ok (.newarray .int, 2) := by decide +kernel
theorem dX0_init_10 : decode cX0_init 10 = .ok (.putfield 9, 3) := by decide +kernel
theorem dX0_init_13 : decode cX0_init 13 = .ok (.return_, 1) := by decide +kernel
theorem dX0_has_0 : decode cX0_has 0 = .ok (.iload_n 1, 1) := by decide +kernel
theorem dX0_has_1 : decode cX0_has 1 = .ok (.ifCond .lt 15, 3) := by decide +kernel
theorem dX0_has_4 : decode cX0_has 4 = .ok (.iload_n 1, 1) := by decide +kernel
theorem dX0_has_5 : decode cX0_has 5 = .ok (.aload_n 0, 1) := by decide +kernel
theorem dX0_has_6 : decode cX0_has 6 = .ok (.getfield 15, 3) := by decide +kernel
theorem dX0_has_9 : decode cX0_has 9 = .ok (.if_icmp .ge 7, 3) := by decide +kernel
theorem dX0_has_12 : decode cX0_has 12 = .ok (.iconst 1, 1) := by decide +kernel
theorem dX0_has_13 : decode cX0_has 13 = .ok (.goto 4, 3) := by decide +kernel
theorem dX0_has_16 : decode cX0_has 16 = .ok (.iconst 0, 1) := by decide +kernel
theorem dX0_has_17 : decode cX0_has 17 = .ok (.ireturn, 1) := by decide +kernel
theorem dX0_at_0 : decode cX0_at 0 = .ok (.iload_n 1, 1) := by decide +kernel
theorem dX0_at_1 : decode cX0_at 1 = .ok (.ifCond .lt 20, 3) := by decide +kernel
theorem dX0_at_4 : decode cX0_at 4 = .ok (.iload_n 1, 1) := by decide +kernel
theorem dX0_at_5 : decode cX0_at 5 = .ok (.aload_n 0, 1) := by decide +kernel
theorem dX0_at_6 : decode cX0_at 6 = .ok (.getfield 15, 3) := by decide +kernel
theorem dX0_at_9 : decode cX0_at 9 = .ok (.if_icmp .ge 12, 3) := by decide +kernel
theorem dX0_at_12 : decode cX0_at 12 = .ok (.aload_n 0, 1) := by decide +kernel
theorem dX0_at_13 : decode cX0_at 13 = .ok (.getfield 9, 3) := by decide +kernel
theorem dX0_at_16 : decode cX0_at 16 = .ok (.iload_n 1, 1) := by decide +kernel
theorem dX0_at_17 : decode cX0_at 17 = .ok (.iaload, 1) := by decide +kernel
theorem dX0_at_18 : decode cX0_at 18 = .ok (.goto 5, 3) := by decide +kernel
theorem dX0_at_21 : decode cX0_at 21 = .ok (.bipush (-6), 2) := by decide +kernel
theorem dX0_at_23 : decode cX0_at 23 = .ok (.ireturn, 1) := by decide +kernel
set_option maxRecDepth 20000 in
theorem ggX0_turn_X0_has : GoodIn wsX0_turn wsX0_has := goodIn_r _ [6, 7, 8, 9] (by decide +kernel) (by decide +kernel)
set_option maxRecDepth 20000 in
theorem gX0_turn_X0_has : GoodIn wsX0_turn (wsV RX0 19 RX0 yX0_has wsX0_has) := goodIn_app (goodIn_of _ (by decide +kernel)) ggX0_turn_X0_has
theorem dX0_turn_0 : decode cX0_turn 0 = .ok (.aload_n 0, 1) := by decide +kernel
theorem dX0_turn_1 : decode cX0_turn 1 = .ok (.iload_n 1, 1) := by decide +kernel
theorem dX0_turn_2 : decode cX0_turn 2 = .ok (.invokevirtual 19, 3) := by decide +kernel
theorem dX0_turn_5 : decode cX0_turn 5 = .ok (.ifCond .ne 6, 3) := by decide +kernel
theorem dX0_turn_8 : decode cX0_turn 8 = .ok (.bipush (-6), 2) := by decide +kernel
theorem dX0_turn_10 : decode cX0_turn 10 = .ok (.ireturn, 1) := by decide +kernel
theorem dX0_turn_11 : decode cX0_turn 11 = .ok (.aload_n 0, 1) := by decide +kernel
theorem dX0_turn_12 : decode cX0_turn 12 = .ok (.getfield 9, 3) := by decide +kernel
theorem dX0_turn_15 : decode cX0_turn 15 = .ok (.iload_n 1, 1) := by decide +kernel
theorem dX0_turn_16 : decode cX0_turn 16 = .ok (.iconst 1, 1) := by decide +kernel
theorem dX0_turn_17 : decode cX0_turn 17 = .ok (.aload_n 0, 1) := by decide +kernel
theorem dX0_turn_18 : decode cX0_turn 18 = .ok (.getfield 9, 3) := by decide +kernel
theorem dX0_turn_21 : decode cX0_turn 21 = .ok (.iload_n 1, 1) := by decide +kernel
theorem dX0_turn_22 : decode cX0_turn 22 = .ok (.iaload, 1) := by decide +kernel
theorem dX0_turn_23 : decode cX0_turn 23 = .ok (.isub, 1) := by decide +kernel
theorem dX0_turn_24 : decode cX0_turn 24 = .ok (.iastore, 1) := by decide +kernel
theorem dX0_turn_25 : decode cX0_turn 25 = .ok (.aload_n 0, 1) := by decide +kernel
theorem dX0_turn_26 : decode cX0_turn 26 = .ok (.getfield 9, 3) := by decide +kernel
theorem dX0_turn_29 : decode cX0_turn 29 = .ok (.iload_n 1, 1) := by decide +kernel
theorem dX0_turn_30 : decode cX0_turn 30 = .ok (.iaload, 1) := by decide +kernel
theorem dX0_turn_31 : decode cX0_turn 31 = .ok (.ireturn, 1) := by decide +kernel
theorem dX0_append_0 : decode cX0_append 0 = .ok (.aload_n 0, 1) := by decide +kernel
theorem dX0_append_1 : decode cX0_append 1 = .ok (.getfield 15, 3) := by decide +kernel
theorem dX0_append_4 : decode cX0_append 4 = .ok (.sipush 1000, 3) := by decide +kernel
theorem dX0_append_7 : decode cX0_append 7 = .ok (.if_icmp .ge 23, 3) := by decide +kernel
theorem dX0_append_10 : decode cX0_append 10 = .ok (.aload_n 0, 1) := by decide +kernel
theorem dX0_append_11 : decode cX0_append 11 = .ok (.getfield 9, 3) := by decide +kernel
theorem dX0_append_14 : decode cX0_append 14 = .ok (.aload_n 0, 1) := by decide +kernel
theorem dX0_append_15 : decode cX0_append 15 = .ok (.getfield 15, 3) := by decide +kernel
theorem dX0_append_18 : decode cX0_append 18 = .ok (.iload_n 1, 1) := by decide +kernel
theorem dX0_append_19 : decode cX0_append 19 = .ok (.iastore, 1) := by decide +kernel
theorem dX0_append_20 : decode cX0_append 20 = .ok (.aload_n 0, 1) := by decide +kernel
theorem dX0_append_21 : decode cX0_append 21 = .ok (.dup, 1) := by decide +kernel
theorem dX0_append_22 : decode cX0_append 22 = .ok (.getfield 15, 3) := by decide +kernel
theorem dX0_append_25 : decode cX0_append 25 = .ok (.iconst 1, 1) := by decide +kernel
theorem dX0_append_26 : decode cX0_append 26 = .ok (.iadd, 1) := by decide +kernel
theorem dX0_append_27 : decode cX0_append 27 = .ok (.putfield 15, 3) := by decide +kernel
theorem dX0_append_30 : decode cX0_append 30 = .ok (.return_, 1) := by decide +kernel
set_option maxRecDepth 20000 in
theorem ggX0_appendNumber_X0_append : GoodIn wsX0_appendNumber wsX0_append := goodIn_r _ [5, 6, 7, 8, 9] (by decide +kernel) (by decide +kernel)
set_option maxRecDepth 20000 in
theorem gX0_appendNumber_X0_append : GoodIn wsX0_appendNumber (wsV RX0 23 RX0 yX0_append wsX0_append) := goodIn_app (goodIn_of _ (by decide +kernel)) ggX0_appendNumber_X0_append
theorem dX0_appendNumber_0 : decode cX0_appendNumber 0 = .ok (.iload_n 2, 1) := by decide +kernel
theorem dX0_appendNumber_1 : decode cX0_appendNumber 1 = .ok (.iconst 1, 1) := by decide +kernel
theorem dX0_appendNumber_2 : decode cX0_appendNumber 2 = .ok (.isub, 1) := by decide +kernel
theorem dX0_appendNumber_3 : decode cX0_appendNumber 3 = .ok (.istore_n 3, 1) := by decide +kernel
theorem dX0_appendNumber_4 : decode cX0_appendNumber 4 = .ok (.iload_n 3, 1) := by decide +kernel
theorem dX0_appendNumber_5 : decode cX0_appendNumber 5 = .ok (.ifCond .lt 18, 3) := by decide +kernel
theorem dX0_appendNumber_8 : decode cX0_appendNumber 8 = .ok (.aload_n 0, 1) := by decide +kernel
theorem dX0_appendNumber_9 : decode cX0_appendNumber 9 = .ok (.iload_n 1, 1) := by decide +kernel
theorem dX0_appendNumber_10 : decode cX0_appendNumber 10 = .ok (.iload_n 3, 1) := by decide +kernel
theorem dX0_appendNumber_11 : decode cX0_appendNumber 11 = .ok (.ishr, 1) := by decide +kernel
theorem dX0_appendNumber_12 : decode cX0_appendNumber 12 = .ok (.iconst 1, 1) := by decide +kernel
theorem dX0_appendNumber_13 : decode cX0_appendNumber 13 = .ok (.iand, 1) := by decide +kernel
theorem dX0_appendNumber_14 : decode cX0_appendNumber 14 = .ok (.invokevirtual 23, 3) := by decide +kernel
theorem dX0_appendNumber_17 : decode cX0_appendNumber 17 = .ok (.iinc 3 (-1), 3) := by decide +kernel
theorem dX0_appendNumber_20 : decode cX0_appendNumber 20 = .ok (.goto (-16), 3) := by decide +kernel
theorem dX0_appendNumber_23 : decode cX0_appendNumber 23 = .ok (.return_, 1) := by decide +kernel
theorem dX0_takeOver_0 : decode cX0_takeOver 0 = .ok (.aload_n 1, 1) := by decide +kernel
theorem dX0_takeOver_1 : decode cX0_takeOver 1 = .ok (.getfield 9, 3) := by decide +kernel
theorem dX0_takeOver_4 : decode cX0_takeOver 4 = .ok (.iconst 0, 1) := by decide +kernel
theorem dX0_takeOver_5 : decode cX0_takeOver 5 = .ok (.aload_n 0, 1) := by decide +kernel
theorem dX0_takeOver_6 : decode cX0_takeOver 6 = .ok (.getfield 9, 3) := by decide +kernel
theorem dX0_takeOver_9 : decode cX0_takeOver 9 = .ok (.iconst 0, 1) := by decide +kernel
theorem dX0_takeOver_10 : decode cX0_takeOver 10 = .ok (.aload_n 1, 1) := by decide +kernel
theorem dX0_takeOver_11 : decode cX0_takeOver 11 = .ok (.getfield 15, 3) := by decide +kernel
theorem dX0_takeOver_14 : decode cX0_takeOver 14 = .ok (.invokestatic 27, 3) := by decide +kernel
theorem dX0_takeOver_17 : decode cX0_takeOver 17 = .ok (.aload_n 0, 1) := by decide +kernel
theorem dX0_takeOver_18 : decode cX0_takeOver 18 = .ok (.aload_n 1, 1) := by decide +kernel
theorem dX0_takeOver_19 : decode cX0_takeOver 19 = .ok (.getfield 15, 3) := by decide +kernel
theorem dX0_takeOver_22 : decode cX0_takeOver 22 = .ok (.putfield 15, 3) := by decide +kernel
theorem dX0_takeOver_25 : decode cX0_takeOver 25 = .ok (.return_, 1) := by decide +kernel
theorem dX1_init_0 : decode cX1_init 0 = .ok (.aload_n 0, 1) := by decide +kernel
theorem dX1_init_1 : decode cX1_init 1 = .ok (.invokespecial 3, 3) := by decide +kernel
theorem dX1_init_4 : decode cX1_init 4 = .ok (.aload_n 0, 1) := by decide +kernel
theorem dX1_init_5 : decode cX1_init 5 = .ok (.iconst 0, 1) := by decide +kernel
theorem dX1_init_6 : decode cX1_init 6 = .ok (.putfield 9, 3) := by decide +kernel
theorem dX1_init_9 : decode cX1_init 9 = .ok (.aload_n 0, 1) := by decide +kernel
theorem dX1_init_10 : decode cX1_init 10 = .ok (.bipush (-6), 2) := by decide +kernel
theorem dX1_init_12 : decode cX1_init 12 = .ok (.putfield 15, 3) := by decide +kernel
theorem dX1_init_15 : decode cX1_init 15 = .ok (.aload_n 0, 1) := by decide +kernel
theorem dX1_init_16 : decode cX1_init 16 = .ok (.bipush (-6), 2) := by decide +kernel
theorem dX1_init_18 : decode cX1_init 18 = .ok (.putfield 18, 3) := by decide +kernel
theorem dX1_init_21 : decode cX1_init 21 = .ok (.return_, 1) := by decide +kernel
theorem dX1_isTold_0 : decode cX1_isTold 0 = .ok (.aload_n 0, 1) := by decide +kernel
theorem dX1_isTold_1 : decode cX1_isTold 1 = .ok (.getfield 9, 3) := by decide +kernel
theorem dX1_isTold_4 : decode cX1_isTold 4 = .ok (.ifCond .eq 7, 3) := by decide +kernel
theorem dX1_isTold_7 : decode cX1_isTold 7 = .ok (.iconst 1, 1) := by decide +kernel
theorem dX1_isTold_8 : decode cX1_isTold 8 = .ok (.goto 4, 3) := by decide +kernel
theorem dX1_isTold_11 : decode cX1_isTold 11 = .ok (.iconst 0, 1) := by decide +kernel
theorem dX1_isTold_12 : decode cX1_isTold 12 = .ok (.ireturn, 1) := by decide +kernel
theorem dX1_forget_0 : decode cX1_forget 0 = .ok (.aload_n 0, 1) := by decide +kernel
theorem dX1_forget_1 : decode cX1_forget 1 = .ok (.iconst 0, 1) := by decide +kernel
theorem dX1_forget_2 : decode cX1_forget 2 = .ok (.putfield 9, 3) := by decide +kernel
theorem dX1_forget_5 : decode cX1_forget 5 = .ok (.aload_n 0, 1) := by decide +kernel
theorem dX1_forget_6 : decode cX1_forget 6 = .ok (.bipush (-6), 2) := by decide +kernel
theorem dX1_forget_8 : decode cX1_forget 8 = .ok (.putfield 15, 3) := by decide +kernel
theorem dX1_forget_11 : decode cX1_forget 11 = .ok (.aload_n 0, 1) := by decide +kernel
theorem dX1_forget_12 : decode cX1_forget 12 = .ok (.bipush (-6), 2) := by decide +kernel
theorem dX1_forget_14 : decode cX1_forget 14 = .ok (.putfield 18, 3) := by decide +kernel
theorem dX1_forget_17 : decode cX1_forget 17 = .ok (.return_, 1) := by decide +kernel
theorem dX1_takeOver_0 : decode cX1_takeOver 0 = .ok (.aload_n 0, 1) := by decide +kernel
theorem dX1_takeOver_1 : decode cX1_takeOver 1 = .ok (.aload_n 1, 1) := by decide +kernel
theorem dX1_takeOver_2 : decode cX1_takeOver 2 = .ok (.getfield 9, 3) := by decide +kernel
theorem dX1_takeOver_5 : decode cX1_takeOver 5 = .ok (.putfield 9, 3) := by decide +kernel
theorem dX1_takeOver_8 : decode cX1_takeOver 8 = .ok (.aload_n 0, 1) := by decide +kernel
theorem dX1_takeOver_9 : decode cX1_takeOver 9 = .ok (.aload_n 1, 1) := by decide +kernel
theorem dX1_takeOver_10 : decode cX1_takeOver 10 = .ok (.getfield 15, 3) := by decide +kernel
theorem dX1_takeOver_13 : decode cX1_takeOver 13 = .ok (.putfield 15, 3) := by decide +kernel
theorem dX1_takeOver_16 : decode cX1_takeOver 16 = .ok (.aload_n 0, 1) := by decide +kernel
theorem dX1_takeOver_17 : decode cX1_takeOver 17 = .ok (.aload_n 1, 1) := by decide +kernel
theorem dX1_takeOver_18 : decode cX1_takeOver 18 = .ok (.getfield 18, 3) := by decide +kernel
theorem dX1_takeOver_21 : decode cX1_takeOver 21 = .ok (.putfield 18, 3) := by decide +kernel
theorem dX1_takeOver_24 : decode cX1_takeOver 24 = .ok (.return_, 1) := by decide +kernel
theorem dX2_init_0 : decode cX2_init 0 = .ok (.aload_n 0, 1) := by decide +kernel
theorem dX2_init_1 : decode cX2_init 1 = .ok (.invokespecial 3, 3) := by decide +kernel
theorem dX2_init_4 : decode cX2_init 4 = .ok (.aload_n 0, 1) := by decide +kernel
theorem dX2_init_5 : decode cX2_init 5 = .ok (.bipush 8, 2) := by decide +kernel
theorem dX2_init_7 : decode cX2_init 7 = .ok (.newarray .int, 2) := by decide +kernel
theorem dX2_init_9 : decode cX2_init 9 = .ok (.putfield 9, 3) := by decide +kernel
theorem dX2_init_12 : decode cX2_init 12 = .ok (.return_, 1) := by decide +kernel
set_option maxRecDepth 20000 in
theorem ggX2_fill_X7_endOfBlock : GoodIn wsX2_fill wsX7_endOfBlock := goodIn_r _ [14, 15, 16, 17, 18, 19, 55, 56, 57] (by decide +kernel) (by decide +kernel)
set_option maxRecDepth 20000 in
theorem gX2_fill_X7_endOfBlock : GoodIn wsX2_fill (wsV RX2 26 RX7 yX7_endOfBlock wsX7_endOfBlock) := goodIn_app (goodIn_of _ (by decide +kernel)) ggX2_fill_X7_endOfBlock
set_option maxRecDepth 20000 in
theorem ggX2_fill_X7_isBare : GoodIn wsX2_fill wsX7_isBare := goodIn_r _ [23, 15, 24, 55, 56, 57] (by decide +kernel) (by decide +kernel)
set_option maxRecDepth 20000 in
theorem gX2_fill_X7_isBare : GoodIn wsX2_fill (wsV RX2 37 RX7 yX7_isBare wsX7_isBare) := goodIn_app (goodIn_of _ (by decide +kernel)) ggX2_fill_X7_isBare
set_option maxRecDepth 20000 in
theorem ggX2_fill_X6_at : GoodIn wsX2_fill wsX6_at := goodIn_r _ [29, 30, 31, 58, 59] (by decide +kernel) (by decide +kernel)
set_option maxRecDepth 20000 in
theorem gX2_fill_X6_at : GoodIn wsX2_fill (wsV RX2 45 RX6 yX6_at wsX6_at) := goodIn_app (goodIn_of _ (by decide +kernel)) ggX2_fill_X6_at
set_option maxRecDepth 20000 in
theorem ggX2_fill_X8_toldAhead : GoodIn wsX2_fill wsX8_toldAhead := goodIn_r _ [34, 35, 36, 17, 18, 19, 37, 38, 39, 40, 41, 33, 42, 43, 26, 27, 28, 29, 30, 31, 44, 21, 22, 13, 23, 15, 24, 55, 56, 57, 58, 59] (by decide +kernel) (by decide +kernel)
set_option maxRecDepth 20000 in
theorem gX2_fill_X8_toldAhead_n53 : GoodIn wsX2_fill (wsX8_toldAhead) := ggX2_fill_X8_toldAhead
set_option maxRecDepth 20000 in
theorem ggX2_fill_X7_top : GoodIn wsX2_fill wsX7_top := goodIn_r _ [48, 49, 41, 33, 42, 55, 56, 57] (by decide +kernel) (by decide +kernel)
set_option maxRecDepth 20000 in
theorem gX2_fill_X7_top : GoodIn wsX2_fill (wsV RX2 57 RX7 yX7_top wsX7_top) := goodIn_app (goodIn_of _ (by decide +kernel)) ggX2_fill_X7_top
set_option maxRecDepth 20000 in
theorem ggX2_fill_X8_fold : GoodIn wsX2_fill wsX8_fold := goodIn_r _ [51, 36, 17, 18, 19, 52, 53, 54] (by decide +kernel) (by decide +kernel)
set_option maxRecDepth 20000 in
theorem gX2_fill_X8_fold_n61 : GoodIn wsX2_fill (wsX8_fold) := ggX2_fill_X8_fold
theorem dX2_fill_0 : decode cX2_fill 0 = .ok (.iload_n 3, 1) := by decide +kernel
theorem dX2_fill_1 : decode cX2_fill 1 = .ok (.aload_n 1, 1) := by decide +kernel
theorem dX2_fill_2 : decode cX2_fill 2 = .ok (.getfield 15, 3) := by decide +kernel
theorem dX2_fill_5 : decode cX2_fill 5 = .ok (.imul, 1) := by decide +kernel
theorem dX2_fill_6 : decode cX2_fill 6 = .ok (.istore 5, 2) := by decide +kernel
theorem dX2_fill_8 : decode cX2_fill 8 = .ok (.aload_n 1, 1) := by decide +kernel
theorem dX2_fill_9 : decode cX2_fill 9 = .ok (.iload_n 3, 1) := by decide +kernel
theorem dX2_fill_10 : decode cX2_fill 10 = .ok (.aload_n 2, 1) := by decide +kernel
theorem dX2_fill_11 : decode cX2_fill 11 = .ok (.getfield 21, 3) := by decide +kernel
theorem dX2_fill_14 : decode cX2_fill 14 = .ok (.invokevirtual 26, 3) := by decide +kernel
theorem dX2_fill_17 : decode cX2_fill 17 = .ok (.istore 6, 2) := by decide +kernel
theorem dX2_fill_19 : decode cX2_fill 19 = .ok (.aload_n 0, 1) := by decide +kernel
theorem dX2_fill_20 : decode cX2_fill 20 = .ok (.iload 4, 2) := by decide +kernel
theorem dX2_fill_22 : decode cX2_fill 22 = .ok (.putfield 30, 3) := by decide +kernel
theorem dX2_fill_25 : decode cX2_fill 25 = .ok (.aload_n 0, 1) := by decide +kernel
theorem dX2_fill_26 : decode cX2_fill 26 = .ok (.aload_n 1, 1) := by decide +kernel
theorem dX2_fill_27 : decode cX2_fill 27 = .ok (.getfield 33, 3) := by decide +kernel
theorem dX2_fill_30 : decode cX2_fill 30 = .ok (.putfield 36, 3) := by decide +kernel
theorem dX2_fill_33 : decode cX2_fill 33 = .ok (.aload_n 0, 1) := by decide +kernel
theorem dX2_fill_34 : decode cX2_fill 34 = .ok (.aload_n 1, 1) := by decide +kernel
theorem dX2_fill_35 : decode cX2_fill 35 = .ok (.iload 5, 2) := by decide +kernel
theorem dX2_fill_37 : decode cX2_fill 37 = .ok (.invokevirtual 37, 3) := by decide +kernel
theorem dX2_fill_40 : decode cX2_fill 40 = .ok (.putfield 41, 3) := by decide +kernel
theorem dX2_fill_43 : decode cX2_fill 43 = .ok (.aload_n 0, 1) := by decide +kernel
theorem dX2_fill_44 : decode cX2_fill 44 = .ok (.aload_n 2, 1) := by decide +kernel
theorem dX2_fill_45 : decode cX2_fill 45 = .ok (.iload 5, 2) := by decide +kernel
theorem dX2_fill_47 : decode cX2_fill 47 = .ok (.invokevirtual 45, 3) := by decide +kernel
theorem dX2_fill_50 : decode cX2_fill 50 = .ok (.putfield 49, 3) := by decide +kernel
theorem dX2_fill_53 : decode cX2_fill 53 = .ok (.aload_n 0, 1) := by decide +kernel
theorem dX2_fill_54 : decode cX2_fill 54 = .ok (.iconst 0, 1) := by decide +kernel
theorem dX2_fill_55 : decode cX2_fill 55 = .ok (.putfield 52, 3) := by decide +kernel
theorem dX2_fill_58 : decode cX2_fill 58 = .ok (.aload_n 0, 1) := by decide +kernel
theorem dX2_fill_59 : decode cX2_fill 59 = .ok (.getfield 41, 3) := by decide +kernel
theorem dX2_fill_62 : decode cX2_fill 62 = .ok (.ifCond .eq 10, 3) := by decide +kernel
theorem dX2_fill_65 : decode cX2_fill 65 = .ok (.iload 5, 2) := by decide +kernel
theorem dX2_fill_67 : decode cX2_fill 67 = .ok (.iconst 1, 1) := by decide +kernel
theorem dX2_fill_68 : decode cX2_fill 68 = .ok (.iadd, 1) := by decide +kernel
theorem dX2_fill_69 : decode cX2_fill 69 = .ok (.goto 5, 3) := by decide +kernel
theorem dX2_fill_72 : decode cX2_fill 72 = .ok (.iload 5, 2) := by decide +kernel
theorem dX2_fill_74 : decode cX2_fill 74 = .ok (.istore 7, 2) := by decide +kernel
theorem dX2_fill_76 : decode cX2_fill 76 = .ok (.iload 7, 2) := by decide +kernel
theorem dX2_fill_78 : decode cX2_fill 78 = .ok (.iload 6, 2) := by decide +kernel
theorem dX2_fill_80 : decode cX2_fill 80 = .ok (.if_icmp .ge 61, 3) := by decide +kernel
theorem dX2_fill_83 : decode cX2_fill 83 = .ok (.aload_n 0, 1) := by decide +kernel
theorem dX2_fill_84 : decode cX2_fill 84 = .ok (.getfield 52, 3) := by decide +kernel
theorem dX2_fill_87 : decode cX2_fill 87 = .ok (.bipush 8, 2) := by decide +kernel
theorem dX2_fill_89 : decode cX2_fill 89 = .ok (.if_icmp .ge 52, 3) := by decide +kernel
theorem dX2_fill_92 : decode cX2_fill 92 = .ok (.aload_n 0, 1) := by decide +kernel
theorem dX2_fill_93 : decode cX2_fill 93 = .ok (.getfield 9, 3) := by decide +kernel
theorem dX2_fill_96 : decode cX2_fill 96 = .ok (.aload_n 0, 1) := by decide +kernel
theorem dX2_fill_97 : decode cX2_fill 97 = .ok (.getfield 52, 3) := by decide +kernel
theorem dX2_fill_100 : decode cX2_fill 100 = .ok (.aload_n 2, 1) := by decide +kernel
theorem dX2_fill_101 : decode cX2_fill 101 = .ok (.iload 7, 2) := by decide +kernel
theorem dX2_fill_103 : decode cX2_fill 103 = .ok (.invokevirtual 45, 3) := by decide +kernel
theorem dX2_fill_106 : decode cX2_fill 106 = .ok (.aload_n 1, 1) := by decide +kernel
theorem dX2_fill_107 : decode cX2_fill 107 = .ok (.aload_n 2, 1) := by decide +kernel
theorem dX2_fill_108 : decode cX2_fill 108 = .ok (.iload 7, 2) := by decide +kernel
theorem dX2_fill_110 : decode cX2_fill 110 = .ok (.aload_n 0, 1) := by decide +kernel
theorem dX2_fill_111 : decode cX2_fill 111 = .ok (.getfield 30, 3) := by decide +kernel
theorem dX2_fill_114 : decode cX2_fill 114 = .ok (.invokestatic 53, 3) := by decide +kernel
theorem dX2_fill_117 : decode cX2_fill 117 = .ok (.aload_n 1, 1) := by decide +kernel
theorem dX2_fill_118 : decode cX2_fill 118 = .ok (.invokevirtual 57, 3) := by decide +kernel
theorem dX2_fill_121 : decode cX2_fill 121 = .ok (.invokestatic 61, 3) := by decide +kernel
theorem dX2_fill_124 : decode cX2_fill 124 = .ok (.iastore, 1) := by decide +kernel
theorem dX2_fill_125 : decode cX2_fill 125 = .ok (.aload_n 0, 1) := by decide +kernel
theorem dX2_fill_126 : decode cX2_fill 126 = .ok (.dup, 1) := by decide +kernel
theorem dX2_fill_127 : decode cX2_fill 127 = .ok (.getfield 52, 3) := by decide +kernel
theorem dX2_fill_130 : decode cX2_fill 130 = .ok (.iconst 1, 1) := by decide +kernel
theorem dX2_fill_131 : decode cX2_fill 131 = .ok (.iadd, 1) := by decide +kernel
theorem dX2_fill_132 : decode cX2_fill 132 = .ok (.putfield 52, 3) := by decide +kernel
theorem dX2_fill_135 : decode cX2_fill 135 = .ok (.iinc 7 1, 3) := by decide +kernel
theorem dX2_fill_138 : decode cX2_fill 138 = .ok (.goto (-62), 3) := by decide +kernel
theorem dX2_fill_141 : decode cX2_fill 141 = .ok (.return_, 1) := by decide +kernel
set_option maxRecDepth 20000 in
theorem ggX2_costBy_X8_isCode : GoodIn wsX2_costBy wsX8_isCode := goodIn_r _ [7] (by decide +kernel) (by decide +kernel)
set_option maxRecDepth 20000 in
theorem gX2_costBy_X8_isCode_n65 : GoodIn wsX2_costBy (wsX8_isCode) := ggX2_costBy_X8_isCode
set_option maxRecDepth 20000 in
theorem ggX2_costBy_X2_isAllNothing : GoodIn wsX2_costBy wsX2_isAllNothing := goodIn_r _ [12, 3, 4, 13, 14, 15, 16, 17, 18] (by decide +kernel) (by decide +kernel)
set_option maxRecDepth 20000 in
theorem gX2_costBy_X2_isAllNothing : GoodIn wsX2_costBy (wsV RX2 69 RX2 yX2_isAllNothing wsX2_isAllNothing) := goodIn_app (goodIn_of _ (by decide +kernel)) ggX2_costBy_X2_isAllNothing
theorem dX2_costBy_0 : decode cX2_costBy 0 = .ok (.iload_n 1, 1) := by decide +kernel
theorem dX2_costBy_1 : decode cX2_costBy 1 = .ok (.aload_n 0, 1) := by decide +kernel
theorem dX2_costBy_2 : decode cX2_costBy 2 = .ok (.getfield 36, 3) := by decide +kernel
theorem dX2_costBy_5 : decode cX2_costBy 5 = .ok (.invokestatic 65, 3) := by decide +kernel
theorem dX2_costBy_8 : decode cX2_costBy 8 = .ok (.ifCond .eq 14, 3) := by decide +kernel
theorem dX2_costBy_11 : decode cX2_costBy 11 = .ok (.iload_n 1, 1) := by decide +kernel
theorem dX2_costBy_12 : decode cX2_costBy 12 = .ok (.ifCond .ne 13, 3) := by decide +kernel
theorem dX2_costBy_15 : decode cX2_costBy 15 = .ok (.aload_n 0, 1) := by decide +kernel
theorem dX2_costBy_16 : decode cX2_costBy 16 = .ok (.invokevirtual 69, 3) := by decide +kernel
theorem dX2_costBy_19 : decode cX2_costBy 19 = .ok (.ifCond .ne 6, 3) := by decide +kernel
theorem dX2_costBy_22 : decode cX2_costBy 22 = .ok (.bipush (-6), 2) := by decide +kernel
theorem dX2_costBy_24 : decode cX2_costBy 24 = .ok (.ireturn, 1) := by decide +kernel
theorem dX2_costBy_25 : decode cX2_costBy 25 = .ok (.bipush 6, 2) := by decide +kernel
theorem dX2_costBy_27 : decode cX2_costBy 27 = .ok (.aload_n 0, 1) := by decide +kernel
theorem dX2_costBy_28 : decode cX2_costBy 28 = .ok (.getfield 41, 3) := by decide +kernel
theorem dX2_costBy_31 : decode cX2_costBy 31 = .ok (.ifCond .eq 10, 3) := by decide +kernel
theorem dX2_costBy_34 : decode cX2_costBy 34 = .ok (.aload_n 0, 1) := by decide +kernel
theorem dX2_costBy_35 : decode cX2_costBy 35 = .ok (.getfield 36, 3) := by decide +kernel
theorem dX2_costBy_38 : decode cX2_costBy 38 = .ok (.goto 4, 3) := by decide +kernel
theorem dX2_costBy_41 : decode cX2_costBy 41 = .ok (.iconst 0, 1) := by decide +kernel
theorem dX2_costBy_42 : decode cX2_costBy 42 = .ok (.iadd, 1) := by decide +kernel
theorem dX2_costBy_43 : decode cX2_costBy 43 = .ok (.istore_n 2, 1) := by decide +kernel
theorem dX2_costBy_44 : decode cX2_costBy 44 = .ok (.iload_n 1, 1) := by decide +kernel
theorem dX2_costBy_45 : decode cX2_costBy 45 = .ok (.ifCond .ne 5, 3) := by decide +kernel
theorem dX2_costBy_48 : decode cX2_costBy 48 = .ok (.iload_n 2, 1) := by decide +kernel
theorem dX2_costBy_49 : decode cX2_costBy 49 = .ok (.ireturn, 1) := by decide +kernel
theorem dX2_costBy_50 : decode cX2_costBy 50 = .ok (.iload_n 1, 1) := by decide +kernel
theorem dX2_costBy_51 : decode cX2_costBy 51 = .ok (.bipush 8, 2) := by decide +kernel
theorem dX2_costBy_53 : decode cX2_costBy 53 = .ok (.if_icmp .ne 15, 3) := by decide +kernel
theorem dX2_costBy_56 : decode cX2_costBy 56 = .ok (.iload_n 2, 1) := by decide +kernel
theorem dX2_costBy_57 : decode cX2_costBy 57 = .ok (.aload_n 0, 1) := by decide +kernel
theorem dX2_costBy_58 : decode cX2_costBy 58 = .ok (.getfield 52, 3) := by decide +kernel
theorem dX2_costBy_61 : decode cX2_costBy 61 = .ok (.aload_n 0, 1) := by decide +kernel
theorem dX2_costBy_62 : decode cX2_costBy 62 = .ok (.getfield 36, 3) := by decide +kernel
theorem dX2_costBy_65 : decode cX2_costBy 65 = .ok (.imul, 1) := by decide +kernel
theorem dX2_costBy_66 : decode cX2_costBy 66 = .ok (.iadd, 1) := by decide +kernel
theorem dX2_costBy_67 : decode cX2_costBy 67 = .ok (.ireturn, 1) := by decide +kernel
theorem dX2_costBy_68 : decode cX2_costBy 68 = .ok (.iload_n 1, 1) := by decide +kernel
theorem dX2_costBy_69 : decode cX2_costBy 69 = .ok (.iconst 1, 1) := by decide +kernel
theorem dX2_costBy_70 : decode cX2_costBy 70 = .ok (.isub, 1) := by decide +kernel
theorem dX2_costBy_71 : decode cX2_costBy 71 = .ok (.istore_n 3, 1) := by decide +kernel
theorem dX2_costBy_72 : decode cX2_costBy 72 = .ok (.iconst 0, 1) := by decide +kernel
theorem dX2_costBy_73 : decode cX2_costBy 73 = .ok (.istore 4, 2) := by decide +kernel
theorem dX2_costBy_75 : decode cX2_costBy 75 = .ok (.iload 4, 2) := by decide +kernel
theorem dX2_costBy_77 : decode cX2_costBy 77 = .ok (.aload_n 0, 1) := by decide +kernel
theorem dX2_costBy_78 : decode cX2_costBy 78 = .ok (.getfield 52, 3) := by decide +kernel
theorem dX2_costBy_81 : decode cX2_costBy 81 = .ok (.if_icmp .ge 25, 3) := by decide +kernel
theorem dX2_costBy_84 : decode cX2_costBy 84 = .ok (.iload_n 2, 1) := by decide +kernel
theorem dX2_costBy_85 : decode cX2_costBy 85 = .ok (.aload_n 0, 1) := by decide +kernel
theorem dX2_costBy_86 : decode cX2_costBy 86 = .ok (.getfield 9, 3) := by decide +kernel
theorem dX2_costBy_89 : decode cX2_costBy 89 = .ok (.iload 4, 2) := by decide +kernel
theorem dX2_costBy_91 : decode cX2_costBy 91 = .ok (.iaload, 1) := by decide +kernel
theorem dX2_costBy_92 : decode cX2_costBy 92 = .ok (.iload_n 3, 1) := by decide +kernel
theorem dX2_costBy_93 : decode cX2_costBy 93 = .ok (.ishr, 1) := by decide +kernel
theorem dX2_costBy_94 : decode cX2_costBy 94 = .ok (.iconst 1, 1) := by decide +kernel
theorem dX2_costBy_95 : decode cX2_costBy 95 = .ok (.iadd, 1) := by decide +kernel
theorem dX2_costBy_96 : decode cX2_costBy 96 = .ok (.iload_n 3, 1) := by decide +kernel
theorem dX2_costBy_97 : decode cX2_costBy 97 = .ok (.iadd, 1) := by decide +kernel
theorem dX2_costBy_98 : decode cX2_costBy 98 = .ok (.iadd, 1) := by decide +kernel
theorem dX2_costBy_99 : decode cX2_costBy 99 = .ok (.istore_n 2, 1) := by decide +kernel
theorem dX2_costBy_100 : decode cX2_costBy 100 = .ok (.iinc 4 1, 3) := by decide +kernel
theorem dX2_costBy_103 : decode cX2_costBy 103 = .ok (.goto (-28), 3) := by decide +kernel
theorem dX2_costBy_106 : decode cX2_costBy 106 = .ok (.iload_n 2, 1) := by decide +kernel
theorem dX2_costBy_107 : decode cX2_costBy 107 = .ok (.ireturn, 1) := by decide +kernel
theorem dX2_isAllNothing_0 : decode cX2_isAllNothing 0 = .ok (.iconst 0, 1) := by decide +kernel
theorem dX2_isAllNothing_1 : decode cX2_isAllNothing 1 = .ok (.istore_n 1, 1) := by decide +kernel
theorem dX2_isAllNothing_2 : decode cX2_isAllNothing 2 = .ok (.iload_n 1, 1) := by decide +kernel
theorem dX2_isAllNothing_3 : decode cX2_isAllNothing 3 = .ok (.aload_n 0, 1) := by decide +kernel
theorem dX2_isAllNothing_4 : decode cX2_isAllNothing 4 = .ok (.getfield 52, 3) := by decide +kernel
theorem dX2_isAllNothing_7 : decode cX2_isAllNothing 7 = .ok (.if_icmp .ge 20, 3) := by decide +kernel
theorem dX2_isAllNothing_10 : decode cX2_isAllNothing 10 = .ok (.aload_n 0, 1) := by decide +kernel
theorem dX2_isAllNothing_11 : decode cX2_isAllNothing 11 = .ok (.getfield 9, 3) := by decide +kernel
theorem dX2_isAllNothing_14 : decode cX2_isAllNothing 14 = .ok (.iload_n 1, 1) := by decide +kernel
theorem dX2_isAllNothing_15 : decode cX2_isAllNothing 15 = .ok (.iaload, 1) := by decide +kernel
theorem dX2_isAllNothing_16 : decode cX2_isAllNothing 16 = .ok (.ifCond .eq 5, 3) := by decide +kernel
theorem dX2_isAllNothing_19 : decode cX2_isAllNothing 19 = .ok (.iconst 0, 1) := by decide +kernel
theorem dX2_isAllNothing_20 : decode cX2_isAllNothing 20 = .ok (.ireturn, 1) := by decide +kernel
theorem dX2_isAllNothing_21 : decode cX2_isAllNothing 21 = .ok (.iinc 1 1, 3) := by decide +kernel
theorem dX2_isAllNothing_24 : decode cX2_isAllNothing 24 = .ok (.goto (-22), 3) := by decide +kernel
theorem dX2_isAllNothing_27 : decode cX2_isAllNothing 27 = .ok (.iconst 1, 1) := by decide +kernel
theorem dX2_isAllNothing_28 : decode cX2_isAllNothing 28 = .ok (.ireturn, 1) := by decide +kernel
set_option maxRecDepth 20000 in
theorem ggX2_write_X0_appendNumber : GoodIn wsX2_write wsX0_appendNumber := goodIn_r _ [11, 12, 13, 14, 10, 15, 16, 17, 30, 31] (by decide +kernel) (by decide +kernel)
set_option maxRecDepth 20000 in
theorem gX2_write_X0_appendNumber : GoodIn wsX2_write (wsV RX2 73 RX0 yX0_appendNumber wsX0_appendNumber) := goodIn_app (goodIn_of _ (by decide +kernel)) ggX2_write_X0_appendNumber
set_option maxRecDepth 20000 in
theorem ggX2_write_X2_writeByNoughts : GoodIn wsX2_write wsX2_writeByNoughts := goodIn_r _ [22, 23, 13, 14, 10, 15, 16, 17, 7, 8, 9, 11, 12, 30, 31] (by decide +kernel) (by decide +kernel)
set_option maxRecDepth 20000 in
theorem gX2_write_X2_writeByNoughts : GoodIn wsX2_write (wsV RX2 79 RX2 yX2_writeByNoughts wsX2_writeByNoughts) := goodIn_app (goodIn_of _ (by decide +kernel)) ggX2_write_X2_writeByNoughts
theorem dX2_write_0 : decode cX2_write 0 = .ok (.aload_n 1, 1) := by decide +kernel
theorem dX2_write_1 : decode cX2_write 1 = .ok (.aload_n 0, 1) := by decide +kernel
theorem dX2_write_2 : decode cX2_write 2 = .ok (.getfield 30, 3) := by decide +kernel
theorem dX2_write_5 : decode cX2_write 5 = .ok (.iconst 2, 1) := by decide +kernel
theorem dX2_write_6 : decode cX2_write 6 = .ok (.invokevirtual 73, 3) := by decide +kernel
theorem dX2_write_9 : decode cX2_write 9 = .ok (.aload_n 1, 1) := by decide +kernel
theorem dX2_write_10 : decode cX2_write 10 = .ok (.iload_n 2, 1) := by decide +kernel
theorem dX2_write_11 : decode cX2_write 11 = .ok (.iconst 4, 1) := by decide +kernel
theorem dX2_write_12 : decode cX2_write 12 = .ok (.invokevirtual 73, 3) := by decide +kernel
theorem dX2_write_15 : decode cX2_write 15 = .ok (.aload_n 0, 1) := by decide +kernel
theorem dX2_write_16 : decode cX2_write 16 = .ok (.getfield 41, 3) := by decide +kernel
theorem dX2_write_19 : decode cX2_write 19 = .ok (.ifCond .eq 15, 3) := by decide +kernel
theorem dX2_write_22 : decode cX2_write 22 = .ok (.aload_n 1, 1) := by decide +kernel
theorem dX2_write_23 : decode cX2_write 23 = .ok (.aload_n 0, 1) := by decide +kernel
theorem dX2_write_24 : decode cX2_write 24 = .ok (.getfield 49, 3) := by decide +kernel
theorem dX2_write_27 : decode cX2_write 27 = .ok (.aload_n 0, 1) := by decide +kernel
theorem dX2_write_28 : decode cX2_write 28 = .ok (.getfield 36, 3) := by decide +kernel
theorem dX2_write_31 : decode cX2_write 31 = .ok (.invokevirtual 73, 3) := by decide +kernel
theorem dX2_write_34 : decode cX2_write 34 = .ok (.iload_n 2, 1) := by decide +kernel
theorem dX2_write_35 : decode cX2_write 35 = .ok (.ifCond .ne 4, 3) := by decide +kernel
theorem dX2_write_38 : decode cX2_write 38 = .ok (.return_, 1) := by decide +kernel
theorem dX2_write_39 : decode cX2_write 39 = .ok (.iconst 0, 1) := by decide +kernel
theorem dX2_write_40 : decode cX2_write 40 = .ok (.istore_n 3, 1) := by decide +kernel
theorem dX2_write_41 : decode cX2_write 41 = .ok (.iload_n 3, 1) := by decide +kernel
theorem dX2_write_42 : decode cX2_write 42 = .ok (.aload_n 0, 1) := by decide +kernel
theorem dX2_write_43 : decode cX2_write 43 = .ok (.getfield 52, 3) := by decide +kernel
theorem dX2_write_46 : decode cX2_write 46 = .ok (.if_icmp .ge 46, 3) := by decide +kernel
theorem dX2_write_49 : decode cX2_write 49 = .ok (.iload_n 2, 1) := by decide +kernel
theorem dX2_write_50 : decode cX2_write 50 = .ok (.bipush 8, 2) := by decide +kernel
theorem dX2_write_52 : decode cX2_write 52 = .ok (.if_icmp .ne 20, 3) := by decide +kernel
theorem dX2_write_55 : decode cX2_write 55 = .ok (.aload_n 1, 1) := by decide +kernel
theorem dX2_write_56 : decode cX2_write 56 = .ok (.aload_n 0, 1) := by decide +kernel
theorem dX2_write_57 : decode cX2_write 57 = .ok (.getfield 9, 3) := by decide +kernel
theorem dX2_write_60 : decode cX2_write 60 = .ok (.iload_n 3, 1) := by decide +kernel
theorem dX2_write_61 : decode cX2_write 61 = .ok (.iaload, 1) := by decide +kernel
theorem dX2_write_62 : decode cX2_write 62 = .ok (.aload_n 0, 1) := by decide +kernel
theorem dX2_write_63 : decode cX2_write 63 = .ok (.getfield 36, 3) := by decide +kernel
theorem dX2_write_66 : decode cX2_write 66 = .ok (.invokevirtual 73, 3) := by decide +kernel
theorem dX2_write_69 : decode cX2_write 69 = .ok (.goto 17, 3) := by decide +kernel
theorem dX2_write_72 : decode cX2_write 72 = .ok (.aload_n 0, 1) := by decide +kernel
theorem dX2_write_73 : decode cX2_write 73 = .ok (.aload_n 1, 1) := by decide +kernel
theorem dX2_write_74 : decode cX2_write 74 = .ok (.aload_n 0, 1) := by decide +kernel
theorem dX2_write_75 : decode cX2_write 75 = .ok (.getfield 9, 3) := by decide +kernel
theorem dX2_write_78 : decode cX2_write 78 = .ok (.iload_n 3, 1) := by decide +kernel
theorem dX2_write_79 : decode cX2_write 79 = .ok (.iaload, 1) := by decide +kernel
theorem dX2_write_80 : decode cX2_write 80 = .ok (.iload_n 2, 1) := by decide +kernel
theorem dX2_write_81 : decode cX2_write 81 = .ok (.iconst 1, 1) := by decide +kernel
theorem dX2_write_82 : decode cX2_write 82 = .ok (.isub, 1) := by decide +kernel
theorem dX2_write_83 : decode cX2_write 83 = .ok (.invokevirtual 79, 3) := by decide +kernel
theorem dX2_write_86 : decode cX2_write 86 = .ok (.iinc 3 1, 3) := by decide +kernel
theorem dX2_write_89 : decode cX2_write 89 = .ok (.goto (-48), 3) := by decide +kernel
theorem dX2_write_92 : decode cX2_write 92 = .ok (.return_, 1) := by decide +kernel
set_option maxRecDepth 20000 in
theorem ggX2_writeByNoughts_X0_append : GoodIn wsX2_writeByNoughts wsX0_append := goodIn_r _ [5, 6, 7, 13, 14] (by decide +kernel) (by decide +kernel)
set_option maxRecDepth 20000 in
theorem gX2_writeByNoughts_X0_append : GoodIn wsX2_writeByNoughts (wsV RX2 83 RX0 yX0_append wsX0_append) := goodIn_app (goodIn_of _ (by decide +kernel)) ggX2_writeByNoughts_X0_append
set_option maxRecDepth 20000 in
theorem ggX2_writeByNoughts_X0_appendNumber : GoodIn wsX2_writeByNoughts wsX0_appendNumber := goodIn_r _ [11, 12, 2, 3, 4, 5, 6, 7, 13, 14] (by decide +kernel) (by decide +kernel)
set_option maxRecDepth 20000 in
theorem gX2_writeByNoughts_X0_appendNumber : GoodIn wsX2_writeByNoughts (wsV RX2 73 RX0 yX0_appendNumber wsX0_appendNumber) := goodIn_app (goodIn_of _ (by decide +kernel)) ggX2_writeByNoughts_X0_appendNumber
theorem dX2_writeByNoughts_0 : decode cX2_writeByNoughts 0 = .ok (.iload_n 2, 1) := by decide +kernel
theorem dX2_writeByNoughts_1 : decode cX2_writeByNoughts 1 = .ok (.iload_n 3, 1) := by decide +kernel
theorem dX2_writeByNoughts_2 : decode cX2_writeByNoughts 2 = .ok (.ishr, 1) := by decide +kernel
theorem dX2_writeByNoughts_3 : decode cX2_writeByNoughts 3 = .ok (.istore 4, 2) := by decide +kernel
theorem dX2_writeByNoughts_5 : decode cX2_writeByNoughts 5 = .ok (.iconst 0, 1) := by decide +kernel
theorem dX2_writeByNoughts_6 : decode cX2_writeByNoughts 6 = .ok (.istore 5, 2) := by decide +kernel
theorem dX2_writeByNoughts_8 : decode cX2_writeByNoughts 8 = .ok (.iload 5, 2) := by decide +kernel
theorem dX2_writeByNoughts_10 : decode cX2_writeByNoughts 10 = .ok (.iload 4, 2) := by decide +kernel
theorem dX2_writeByNoughts_12 : decode cX2_writeByNoughts 12 = .ok (.if_icmp .ge 14, 3) := by decide +kernel
theorem dX2_writeByNoughts_15 : decode cX2_writeByNoughts 15 = .ok (.aload_n 1, 1) := by decide +kernel
theorem dX2_writeByNoughts_16 : decode cX2_writeByNoughts 16 = .ok (.iconst 0, 1) := by decide +kernel
theorem dX2_writeByNoughts_17 : decode cX2_writeByNoughts 17 = .ok (.invokevirtual 83, 3) := by decide +kernel
theorem dX2_writeByNoughts_20 : decode cX2_writeByNoughts 20 = .ok (.iinc 5 1, 3) := by decide +kernel
theorem dX2_writeByNoughts_23 : decode cX2_writeByNoughts 23 = .ok (.goto (-15), 3) := by decide +kernel
theorem dX2_writeByNoughts_26 : decode cX2_writeByNoughts 26 = .ok (.aload_n 1, 1) := by decide +kernel
theorem dX2_writeByNoughts_27 : decode cX2_writeByNoughts 27 = .ok (.iconst 1, 1) := by decide +kernel
theorem dX2_writeByNoughts_28 : decode cX2_writeByNoughts 28 = .ok (.invokevirtual 83, 3) := by decide +kernel
theorem dX2_writeByNoughts_31 : decode cX2_writeByNoughts 31 = .ok (.aload_n 1, 1) := by decide +kernel
theorem dX2_writeByNoughts_32 : decode cX2_writeByNoughts 32 = .ok (.iload_n 2, 1) := by decide +kernel
theorem dX2_writeByNoughts_33 : decode cX2_writeByNoughts 33 = .ok (.iload_n 3, 1) := by decide +kernel
theorem dX2_writeByNoughts_34 : decode cX2_writeByNoughts 34 = .ok (.invokevirtual 73, 3) := by decide +kernel
theorem dX2_writeByNoughts_37 : decode cX2_writeByNoughts 37 = .ok (.return_, 1) := by decide +kernel
set_option maxRecDepth 20000 in
theorem ggX3_init_X7_init : GoodIn wsX3_init wsX7_init := goodIn_r _ [21, 22, 2, 3, 23, 24, 25, 41, 42, 43] (by decide +kernel) (by decide +kernel)
set_option maxRecDepth 20000 in
theorem gX3_init_X7_init_n9 : GoodIn wsX3_init (wsX7_init) := ggX3_init_X7_init
set_option maxRecDepth 20000 in
theorem ggX3_init_X6_init : GoodIn wsX3_init wsX6_init := goodIn_r _ [27, 28, 2, 3, 29, 30, 48, 49] (by decide +kernel) (by decide +kernel)
set_option maxRecDepth 20000 in
theorem gX3_init_X6_init_n18 : GoodIn wsX3_init (wsX6_init) := ggX3_init_X6_init
set_option maxRecDepth 20000 in
theorem ggX3_init_X0_init : GoodIn wsX3_init wsX0_init := goodIn_r _ [32, 33, 2, 3, 29, 34, 50, 51] (by decide +kernel) (by decide +kernel)
set_option maxRecDepth 20000 in
theorem gX3_init_X0_init_n25 : GoodIn wsX3_init (wsX0_init) := ggX3_init_X0_init
set_option maxRecDepth 20000 in
theorem ggX3_init_X1_init : GoodIn wsX3_init wsX1_init := goodIn_r _ [36, 37, 2, 3, 38, 39, 40, 52, 53, 54] (by decide +kernel) (by decide +kernel)
set_option maxRecDepth 20000 in
theorem gX3_init_X1_init_n32 : GoodIn wsX3_init (wsX1_init) := ggX3_init_X1_init
theorem dX3_init_0 : decode cX3_init 0 = .ok (.aload_n 0, 1) := by decide +kernel
theorem dX3_init_1 : decode cX3_init 1 = .ok (.invokespecial 1, 3) := by decide +kernel
theorem dX3_init_4 : decode cX3_init 4 = .ok (.aload_n 0, 1) := by decide +kernel
theorem dX3_init_5 : decode cX3_init 5 = .ok (.new 7, 3) := by decide +kernel
theorem dX3_init_8 : decode cX3_init 8 = .ok (.dup, 1) := by decide +kernel
theorem dX3_init_9 : decode cX3_init 9 = .ok (.invokespecial 9, 3) := by decide +kernel
theorem dX3_init_12 : decode cX3_init 12 = .ok (.putfield 10, 3) := by decide +kernel
theorem dX3_init_15 : decode cX3_init 15 = .ok (.aload_n 0, 1) := by decide +kernel
theorem dX3_init_16 : decode cX3_init 16 = .ok (.new 16, 3) := by decide +kernel
theorem dX3_init_19 : decode cX3_init 19 = .ok (.dup, 1) := by decide +kernel
theorem dX3_init_20 : decode cX3_init 20 = .ok (.invokespecial 18, 3) := by decide +kernel
theorem dX3_init_23 : decode cX3_init 23 = .ok (.putfield 19, 3) := by decide +kernel
theorem dX3_init_26 : decode cX3_init 26 = .ok (.aload_n 0, 1) := by decide +kernel
theorem dX3_init_27 : decode cX3_init 27 = .ok (.new 23, 3) := by decide +kernel
theorem dX3_init_30 : decode cX3_init 30 = .ok (.dup, 1) := by decide +kernel
theorem dX3_init_31 : decode cX3_init 31 = .ok (.invokespecial 25, 3) := by decide +kernel
theorem dX3_init_34 : decode cX3_init 34 = .ok (.putfield 26, 3) := by decide +kernel
theorem dX3_init_37 : decode cX3_init 37 = .ok (.aload_n 0, 1) := by decide +kernel
theorem dX3_init_38 : decode cX3_init 38 = .ok (.new 30, 3) := by decide +kernel
theorem dX3_init_41 : decode cX3_init 41 = .ok (.dup, 1) := by decide +kernel
theorem dX3_init_42 : decode cX3_init 42 = .ok (.invokespecial 32, 3) := by decide +kernel
theorem dX3_init_45 : decode cX3_init 45 = .ok (.putfield 33, 3) := by decide +kernel
theorem dX3_init_48 : decode cX3_init 48 = .ok (.return_, 1) := by decide +kernel
set_option maxRecDepth 20000 in
theorem ggX3_takeOver_X7_takeOver : GoodIn wsX3_takeOver wsX7_takeOver := goodIn_r _ [9, 10, 11, 12, 44, 45, 46] (by decide +kernel) (by decide +kernel)
set_option maxRecDepth 20000 in
theorem gX3_takeOver_X7_takeOver : GoodIn wsX3_takeOver (wsV RX3 37 RX7 yX7_takeOver wsX7_takeOver) := goodIn_app (goodIn_of _ (by decide +kernel)) ggX3_takeOver_X7_takeOver
set_option maxRecDepth 20000 in
theorem ggX3_takeOver_X6_takeOver : GoodIn wsX3_takeOver wsX6_takeOver := goodIn_r _ [17, 18, 19, 20, 21, 22, 23, 47, 48] (by decide +kernel) (by decide +kernel)
set_option maxRecDepth 20000 in
theorem gX3_takeOver_X6_takeOver : GoodIn wsX3_takeOver (wsV RX3 41 RX6 yX6_takeOver wsX6_takeOver) := goodIn_app (goodIn_of _ (by decide +kernel)) ggX3_takeOver_X6_takeOver
set_option maxRecDepth 20000 in
theorem ggX3_takeOver_X0_takeOver : GoodIn wsX3_takeOver wsX0_takeOver := goodIn_r _ [28, 29, 30, 31, 21, 22, 23, 49, 50] (by decide +kernel) (by decide +kernel)
set_option maxRecDepth 20000 in
theorem gX3_takeOver_X0_takeOver : GoodIn wsX3_takeOver (wsV RX3 44 RX0 yX0_takeOver wsX0_takeOver) := goodIn_app (goodIn_of _ (by decide +kernel)) ggX3_takeOver_X0_takeOver
set_option maxRecDepth 20000 in
theorem ggX3_takeOver_X1_takeOver : GoodIn wsX3_takeOver wsX1_takeOver := goodIn_r _ [36, 37, 38, 39, 51, 52, 53] (by decide +kernel) (by decide +kernel)
set_option maxRecDepth 20000 in
theorem gX3_takeOver_X1_takeOver : GoodIn wsX3_takeOver (wsV RX3 47 RX1 yX1_takeOver wsX1_takeOver) := goodIn_app (goodIn_of _ (by decide +kernel)) ggX3_takeOver_X1_takeOver
theorem dX3_takeOver_0 : decode cX3_takeOver 0 = .ok (.aload_n 0, 1) := by decide +kernel
theorem dX3_takeOver_1 : decode cX3_takeOver 1 = .ok (.getfield 10, 3) := by decide +kernel
theorem dX3_takeOver_4 : decode cX3_takeOver 4 = .ok (.aload_n 1, 1) := by decide +kernel
theorem dX3_takeOver_5 : decode cX3_takeOver 5 = .ok (.getfield 10, 3) := by decide +kernel
theorem dX3_takeOver_8 : decode cX3_takeOver 8 = .ok (.invokevirtual 37, 3) := by decide +kernel
theorem dX3_takeOver_11 : decode cX3_takeOver 11 = .ok (.aload_n 0, 1) := by decide +kernel
theorem dX3_takeOver_12 : decode cX3_takeOver 12 = .ok (.getfield 19, 3) := by decide +kernel
theorem dX3_takeOver_15 : decode cX3_takeOver 15 = .ok (.aload_n 1, 1) := by decide +kernel
theorem dX3_takeOver_16 : decode cX3_takeOver 16 = .ok (.getfield 19, 3) := by decide +kernel
theorem dX3_takeOver_19 : decode cX3_takeOver 19 = .ok (.invokevirtual 41, 3) := by decide +kernel
theorem dX3_takeOver_22 : decode cX3_takeOver 22 = .ok (.aload_n 0, 1) := by decide +kernel
theorem dX3_takeOver_23 : decode cX3_takeOver 23 = .ok (.getfield 26, 3) := by decide +kernel
theorem dX3_takeOver_26 : decode cX3_takeOver 26 = .ok (.aload_n 1, 1) := by decide +kernel
theorem dX3_takeOver_27 : decode cX3_takeOver 27 = .ok (.getfield 26, 3) := by decide +kernel
theorem dX3_takeOver_30 : decode cX3_takeOver 30 = .ok (.invokevirtual 44, 3) := by decide +kernel
theorem dX3_takeOver_33 : decode cX3_takeOver 33 = .ok (.aload_n 0, 1) := by decide +kernel
theorem dX3_takeOver_34 : decode cX3_takeOver 34 = .ok (.getfield 33, 3) := by decide +kernel
theorem dX3_takeOver_37 : decode cX3_takeOver 37 = .ok (.aload_n 1, 1) := by decide +kernel
theorem dX3_takeOver_38 : decode cX3_takeOver 38 = .ok (.getfield 33, 3) := by decide +kernel
theorem dX3_takeOver_41 : decode cX3_takeOver 41 = .ok (.invokevirtual 47, 3) := by decide +kernel
theorem dX3_takeOver_44 : decode cX3_takeOver 44 = .ok (.return_, 1) := by decide +kernel
set_option maxRecDepth 20000 in
theorem ggX4_init_X0_init : GoodIn wsX4_init wsX0_init := goodIn_r _ [17, 18, 2, 3, 4, 19, 30, 31] (by decide +kernel) (by decide +kernel)
set_option maxRecDepth 20000 in
theorem gX4_init_X0_init_n23 : GoodIn wsX4_init (wsX0_init) := ggX4_init_X0_init
set_option maxRecDepth 20000 in
theorem ggX4_init_X2_init : GoodIn wsX4_init wsX2_init := goodIn_r _ [21, 22, 2, 3, 4, 23, 32, 33, 34, 35, 36, 37] (by decide +kernel) (by decide +kernel)
set_option maxRecDepth 20000 in
theorem gX4_init_X2_init_n30 : GoodIn wsX4_init (wsX2_init) := ggX4_init_X2_init
theorem dX4_init_0 : decode cX4_init 0 = .ok (.aload_n 0, 1) := by decide +kernel
theorem dX4_init_1 : decode cX4_init 1 = .ok (.invokespecial 3, 3) := by decide +kernel
theorem dX4_init_4 : decode cX4_init 4 = .ok (.aload_n 0, 1) := by decide +kernel
theorem dX4_init_5 : decode cX4_init 5 = .ok (.bipush 64, 2) := by decide +kernel
theorem dX4_init_7 : decode cX4_init 7 = .ok (.newarray .int, 2) := by decide +kernel
theorem dX4_init_9 : decode cX4_init 9 = .ok (.putfield 9, 3) := by decide +kernel
theorem dX4_init_12 : decode cX4_init 12 = .ok (.aload_n 0, 1) := by decide +kernel
theorem dX4_init_13 : decode cX4_init 13 = .ok (.bipush 64, 2) := by decide +kernel
theorem dX4_init_15 : decode cX4_init 15 = .ok (.newarray .int, 2) := by decide +kernel
theorem dX4_init_17 : decode cX4_init 17 = .ok (.putfield 15, 3) := by decide +kernel
theorem dX4_init_20 : decode cX4_init 20 = .ok (.aload_n 0, 1) := by decide +kernel
theorem dX4_init_21 : decode cX4_init 21 = .ok (.bipush 65, 2) := by decide +kernel
theorem dX4_init_23 : decode cX4_init 23 = .ok (.newarray .int, 2) := by decide +kernel
theorem dX4_init_25 : decode cX4_init 25 = .ok (.putfield 18, 3) := by decide +kernel
theorem dX4_init_28 : decode cX4_init 28 = .ok (.aload_n 0, 1) := by decide +kernel
theorem dX4_init_29 : decode cX4_init 29 = .ok (.new 21, 3) := by decide +kernel
theorem dX4_init_32 : decode cX4_init 32 = .ok (.dup, 1) := by decide +kernel
theorem dX4_init_33 : decode cX4_init 33 = .ok (.invokespecial 23, 3) := by decide +kernel
theorem dX4_init_36 : decode cX4_init 36 = .ok (.putfield 24, 3) := by decide +kernel
theorem dX4_init_39 : decode cX4_init 39 = .ok (.aload_n 0, 1) := by decide +kernel
theorem dX4_init_40 : decode cX4_init 40 = .ok (.new 28, 3) := by decide +kernel
theorem dX4_init_43 : decode cX4_init 43 = .ok (.dup, 1) := by decide +kernel
theorem dX4_init_44 : decode cX4_init 44 = .ok (.invokespecial 30, 3) := by decide +kernel
theorem dX4_init_47 : decode cX4_init 47 = .ok (.putfield 31, 3) := by decide +kernel
theorem dX4_init_50 : decode cX4_init 50 = .ok (.return_, 1) := by decide +kernel
theorem dX4_keepOnly_0 : decode cX4_keepOnly 0 = .ok (.iload_n 1, 1) := by decide +kernel
theorem dX4_keepOnly_1 : decode cX4_keepOnly 1 = .ok (.ifCond .lt 29, 3) := by decide +kernel
theorem dX4_keepOnly_4 : decode cX4_keepOnly 4 = .ok (.iload_n 1, 1) := by decide +kernel
theorem dX4_keepOnly_5 : decode cX4_keepOnly 5 = .ok (.aload_n 0, 1) := by decide +kernel
theorem dX4_keepOnly_6 : decode cX4_keepOnly 6 = .ok (.getfield 35, 3) := by decide +kernel
theorem dX4_keepOnly_9 : decode cX4_keepOnly 9 = .ok (.if_icmp .ge 21, 3) := by decide +kernel
theorem dX4_keepOnly_12 : decode cX4_keepOnly 12 = .ok (.aload_n 0, 1) := by decide +kernel
theorem dX4_keepOnly_13 : decode cX4_keepOnly 13 = .ok (.iload_n 1, 1) := by decide +kernel
theorem dX4_keepOnly_14 : decode cX4_keepOnly 14 = .ok (.putfield 35, 3) := by decide +kernel
theorem dX4_keepOnly_17 : decode cX4_keepOnly 17 = .ok (.aload_n 0, 1) := by decide +kernel
theorem dX4_keepOnly_18 : decode cX4_keepOnly 18 = .ok (.getfield 24, 3) := by decide +kernel
theorem dX4_keepOnly_21 : decode cX4_keepOnly 21 = .ok (.aload_n 0, 1) := by decide +kernel
theorem dX4_keepOnly_22 : decode cX4_keepOnly 22 = .ok (.getfield 18, 3) := by decide +kernel
theorem dX4_keepOnly_25 : decode cX4_keepOnly 25 = .ok (.iload_n 1, 1) := by decide +kernel
theorem dX4_keepOnly_26 : decode cX4_keepOnly 26 = .ok (.iaload, 1) := by decide +kernel
theorem dX4_keepOnly_27 : decode cX4_keepOnly 27 = .ok (.putfield 39, 3) := by decide +kernel
theorem dX4_keepOnly_30 : decode cX4_keepOnly 30 = .ok (.return_, 1) := by decide +kernel
set_option maxRecDepth 20000 in
theorem ggX4_settle_X4_choose : GoodIn wsX4_settle wsX4_choose := goodIn_r _ [16, 6, 7, 9, 17, 18, 19, 20, 21, 22, 23, 24, 25, 26, 27, 28, 29, 30, 31, 32, 33, 34, 35, 36, 37, 2, 3, 4, 38, 39, 40, 41, 42, 43, 44, 45, 46, 47, 48, 49, 50, 51, 52, 53, 54, 55, 56, 57, 58, 59, 60, 61, 62, 63, 64, 65, 66, 67, 68, 69, 70, 71, 72, 73, 74, 75, 76, 77, 78, 79, 80, 81, 82, 103, 104, 105, 106, 107, 108, 111, 112, 113, 114, 115, 116, 117, 118, 119, 120, 121] (by decide +kernel) (by decide +kernel)
set_option maxRecDepth 20000 in
theorem gX4_settle_X4_choose : GoodIn wsX4_settle (wsV RX4 48 RX4 yX4_choose wsX4_choose) := goodIn_app (goodIn_of _ (by decide +kernel)) ggX4_settle_X4_choose
set_option maxRecDepth 20000 in
theorem ggX4_settle_X2_fill : GoodIn wsX4_settle wsX2_fill := goodIn_r _ [21, 22, 23, 24, 25, 26, 27, 28, 29, 30, 31, 32, 33, 34, 35, 36, 37, 2, 3, 4, 38, 39, 40, 41, 42, 43, 44, 45, 46, 47, 48, 49, 50, 51, 52, 53, 54, 55, 56, 57, 58, 59, 60, 61, 62, 63, 64, 65, 66, 67, 68, 69, 70, 71, 72, 111, 112, 113, 114, 115, 116, 117, 118, 119, 120, 121] (by decide +kernel) (by decide +kernel)
set_option maxRecDepth 20000 in
theorem gX4_settle_X2_fill : GoodIn wsX4_settle (wsV RX4 52 RX2 yX2_fill wsX2_fill) := goodIn_app (goodIn_of _ (by decide +kernel)) ggX4_settle_X2_fill
set_option maxRecDepth 20000 in
theorem ggX4_settle_X2_write : GoodIn wsX4_settle wsX2_write := goodIn_r _ [86, 24, 27, 28, 26, 29, 30, 87, 88, 89, 90, 91, 92, 93, 94, 95, 96, 97, 98, 99, 100, 20, 101, 102, 116, 117, 118, 119, 120, 121, 109, 110] (by decide +kernel) (by decide +kernel)
set_option maxRecDepth 20000 in
theorem gX4_settle_X2_write : GoodIn wsX4_settle (wsV RX4 56 RX2 yX2_write wsX2_write) := goodIn_app (goodIn_of _ (by decide +kernel)) ggX4_settle_X2_write
theorem dX4_settle_0 : decode cX4_settle 0 = .ok (.iload_n 3, 1) := by decide +kernel
theorem dX4_settle_1 : decode cX4_settle 1 = .ok (.bipush 64, 2) := by decide +kernel
theorem dX4_settle_3 : decode cX4_settle 3 = .ok (.invokestatic 42, 3) := by decide +kernel
theorem dX4_settle_6 : decode cX4_settle 6 = .ok (.istore 4, 2) := by decide +kernel
theorem dX4_settle_8 : decode cX4_settle 8 = .ok (.aload_n 0, 1) := by decide +kernel
theorem dX4_settle_9 : decode cX4_settle 9 = .ok (.getfield 35, 3) := by decide +kernel
theorem dX4_settle_12 : decode cX4_settle 12 = .ok (.istore 5, 2) := by decide +kernel
theorem dX4_settle_14 : decode cX4_settle 14 = .ok (.iload 5, 2) := by decide +kernel
theorem dX4_settle_16 : decode cX4_settle 16 = .ok (.iload 4, 2) := by decide +kernel
theorem dX4_settle_18 : decode cX4_settle 18 = .ok (.if_icmp .ge 77, 3) := by decide +kernel
theorem dX4_settle_21 : decode cX4_settle 21 = .ok (.aload_n 0, 1) := by decide +kernel
theorem dX4_settle_22 : decode cX4_settle 22 = .ok (.aload_n 1, 1) := by decide +kernel
theorem dX4_settle_23 : decode cX4_settle 23 = .ok (.aload_n 2, 1) := by decide +kernel
theorem dX4_settle_24 : decode cX4_settle 24 = .ok (.iload 5, 2) := by decide +kernel
theorem dX4_settle_26 : decode cX4_settle 26 = .ok (.invokevirtual 48, 3) := by decide +kernel
theorem dX4_settle_29 : decode cX4_settle 29 = .ok (.aload_n 0, 1) := by decide +kernel
theorem dX4_settle_30 : decode cX4_settle 30 = .ok (.getfield 31, 3) := by decide +kernel
theorem dX4_settle_33 : decode cX4_settle 33 = .ok (.aload_n 1, 1) := by decide +kernel
theorem dX4_settle_34 : decode cX4_settle 34 = .ok (.aload_n 2, 1) := by decide +kernel
theorem dX4_settle_35 : decode cX4_settle 35 = .ok (.iload 5, 2) := by decide +kernel
theorem dX4_settle_37 : decode cX4_settle 37 = .ok (.aload_n 0, 1) := by decide +kernel
theorem dX4_settle_38 : decode cX4_settle 38 = .ok (.getfield 9, 3) := by decide +kernel
theorem dX4_settle_41 : decode cX4_settle 41 = .ok (.iload 5, 2) := by decide +kernel
theorem dX4_settle_43 : decode cX4_settle 43 = .ok (.iaload, 1) := by decide +kernel
theorem dX4_settle_44 : decode cX4_settle 44 = .ok (.invokevirtual 52, 3) := by decide +kernel
theorem dX4_settle_47 : decode cX4_settle 47 = .ok (.aload_n 0, 1) := by decide +kernel
theorem dX4_settle_48 : decode cX4_settle 48 = .ok (.getfield 31, 3) := by decide +kernel
theorem dX4_settle_51 : decode cX4_settle 51 = .ok (.aload_n 0, 1) := by decide +kernel
theorem dX4_settle_52 : decode cX4_settle 52 = .ok (.getfield 24, 3) := by decide +kernel
theorem dX4_settle_55 : decode cX4_settle 55 = .ok (.aload_n 0, 1) := by decide +kernel
theorem dX4_settle_56 : decode cX4_settle 56 = .ok (.getfield 15, 3) := by decide +kernel
theorem dX4_settle_59 : decode cX4_settle 59 = .ok (.iload 5, 2) := by decide +kernel
theorem dX4_settle_61 : decode cX4_settle 61 = .ok (.iaload, 1) := by decide +kernel
theorem dX4_settle_62 : decode cX4_settle 62 = .ok (.invokevirtual 56, 3) := by decide +kernel
theorem dX4_settle_65 : decode cX4_settle 65 = .ok (.aload_n 0, 1) := by decide +kernel
theorem dX4_settle_66 : decode cX4_settle 66 = .ok (.getfield 18, 3) := by decide +kernel
theorem dX4_settle_69 : decode cX4_settle 69 = .ok (.iload 5, 2) := by decide +kernel
theorem dX4_settle_71 : decode cX4_settle 71 = .ok (.iconst 1, 1) := by decide +kernel
theorem dX4_settle_72 : decode cX4_settle 72 = .ok (.iadd, 1) := by decide +kernel
theorem dX4_settle_73 : decode cX4_settle 73 = .ok (.aload_n 0, 1) := by decide +kernel
theorem dX4_settle_74 : decode cX4_settle 74 = .ok (.getfield 24, 3) := by decide +kernel
theorem dX4_settle_77 : decode cX4_settle 77 = .ok (.getfield 39, 3) := by decide +kernel
theorem dX4_settle_80 : decode cX4_settle 80 = .ok (.iastore, 1) := by decide +kernel
theorem dX4_settle_81 : decode cX4_settle 81 = .ok (.aload_n 0, 1) := by decide +kernel
theorem dX4_settle_82 : decode cX4_settle 82 = .ok (.iload 5, 2) := by decide +kernel
theorem dX4_settle_84 : decode cX4_settle 84 = .ok (.iconst 1, 1) := by decide +kernel
theorem dX4_settle_85 : decode cX4_settle 85 = .ok (.iadd, 1) := by decide +kernel
theorem dX4_settle_86 : decode cX4_settle 86 = .ok (.putfield 35, 3) := by decide +kernel
theorem dX4_settle_89 : decode cX4_settle 89 = .ok (.iinc 5 1, 3) := by decide +kernel
theorem dX4_settle_92 : decode cX4_settle 92 = .ok (.goto (-78), 3) := by decide +kernel
theorem dX4_settle_95 : decode cX4_settle 95 = .ok (.return_, 1) := by decide +kernel
set_option maxRecDepth 20000 in
theorem ggX4_choose_X2_fill : GoodIn wsX4_choose wsX2_fill := goodIn_r _ [8, 9, 10, 11, 12, 13, 14, 15, 16, 17, 18, 19, 20, 21, 22, 23, 24, 25, 26, 27, 28, 29, 30, 31, 32, 33, 34, 35, 36, 37, 38, 39, 40, 41, 42, 43, 44, 45, 46, 47, 48, 49, 50, 51, 52, 53, 54, 55, 56, 57, 58, 59, 60, 61, 62, 79, 80, 81, 82, 83, 84, 85, 86, 87, 88, 89] (by decide +kernel) (by decide +kernel)
set_option maxRecDepth 20000 in
theorem gX4_choose_X2_fill : GoodIn wsX4_choose (wsV RX4 52 RX2 yX2_fill wsX2_fill) := goodIn_app (goodIn_of _ (by decide +kernel)) ggX4_choose_X2_fill
set_option maxRecDepth 20000 in
theorem ggX4_choose_X2_costBy : GoodIn wsX4_choose wsX2_costBy := goodIn_r _ [66, 13, 14, 16, 17, 67, 41, 68, 69, 70, 71, 7, 72, 84, 85, 86, 87, 88, 89] (by decide +kernel) (by decide +kernel)
set_option maxRecDepth 20000 in
theorem gX4_choose_X2_costBy : GoodIn wsX4_choose (wsV RX4 60 RX2 yX2_costBy wsX2_costBy) := goodIn_app (goodIn_of _ (by decide +kernel)) ggX4_choose_X2_costBy
theorem dX4_choose_0 : decode cX4_choose 0 = .ok (.bipush (-6), 2) := by decide +kernel
theorem dX4_choose_2 : decode cX4_choose 2 = .ok (.istore 4, 2) := by decide +kernel
theorem dX4_choose_4 : decode cX4_choose 4 = .ok (.iconst 0, 1) := by decide +kernel
theorem dX4_choose_5 : decode cX4_choose 5 = .ok (.istore 5, 2) := by decide +kernel
theorem dX4_choose_7 : decode cX4_choose 7 = .ok (.iload 5, 2) := by decide +kernel
theorem dX4_choose_9 : decode cX4_choose 9 = .ok (.iconst 4, 1) := by decide +kernel
theorem dX4_choose_10 : decode cX4_choose 10 = .ok (.if_icmp .ge 89, 3) := by decide +kernel
theorem dX4_choose_13 : decode cX4_choose 13 = .ok (.aload_n 0, 1) := by decide +kernel
theorem dX4_choose_14 : decode cX4_choose 14 = .ok (.getfield 31, 3) := by decide +kernel
theorem dX4_choose_17 : decode cX4_choose 17 = .ok (.aload_n 1, 1) := by decide +kernel
theorem dX4_choose_18 : decode cX4_choose 18 = .ok (.aload_n 2, 1) := by decide +kernel
theorem dX4_choose_19 : decode cX4_choose 19 = .ok (.iload_n 3, 1) := by decide +kernel
theorem dX4_choose_20 : decode cX4_choose 20 = .ok (.iload 5, 2) := by decide +kernel
theorem dX4_choose_22 : decode cX4_choose 22 = .ok (.invokevirtual 52, 3) := by decide +kernel
theorem dX4_choose_25 : decode cX4_choose 25 = .ok (.iconst 0, 1) := by decide +kernel
theorem dX4_choose_26 : decode cX4_choose 26 = .ok (.istore 6, 2) := by decide +kernel
theorem dX4_choose_28 : decode cX4_choose 28 = .ok (.iload 6, 2) := by decide +kernel
theorem dX4_choose_30 : decode cX4_choose 30 = .ok (.bipush 8, 2) := by decide +kernel
theorem dX4_choose_32 : decode cX4_choose 32 = .ok (.if_icmp .gt 61, 3) := by decide +kernel
theorem dX4_choose_35 : decode cX4_choose 35 = .ok (.aload_n 0, 1) := by decide +kernel
theorem dX4_choose_36 : decode cX4_choose 36 = .ok (.getfield 31, 3) := by decide +kernel
theorem dX4_choose_39 : decode cX4_choose 39 = .ok (.iload 6, 2) := by decide +kernel
theorem dX4_choose_41 : decode cX4_choose 41 = .ok (.invokevirtual 60, 3) := by decide +kernel
theorem dX4_choose_44 : decode cX4_choose 44 = .ok (.istore 7, 2) := by decide +kernel
theorem dX4_choose_46 : decode cX4_choose 46 = .ok (.iload 7, 2) := by decide +kernel
theorem dX4_choose_48 : decode cX4_choose 48 = .ok (.bipush (-6), 2) := by decide +kernel
theorem dX4_choose_50 : decode cX4_choose 50 = .ok (.if_icmp .eq 37, 3) := by decide +kernel
theorem dX4_choose_53 : decode cX4_choose 53 = .ok (.iload 4, 2) := by decide +kernel
theorem dX4_choose_55 : decode cX4_choose 55 = .ok (.bipush (-6), 2) := by decide +kernel
theorem dX4_choose_57 : decode cX4_choose 57 = .ok (.if_icmp .eq 10, 3) := by decide +kernel
theorem dX4_choose_60 : decode cX4_choose 60 = .ok (.iload 7, 2) := by decide +kernel
theorem dX4_choose_62 : decode cX4_choose 62 = .ok (.iload 4, 2) := by decide +kernel
theorem dX4_choose_64 : decode cX4_choose 64 = .ok (.if_icmp .ge 23, 3) := by decide +kernel
theorem dX4_choose_67 : decode cX4_choose 67 = .ok (.iload 7, 2) := by decide +kernel
theorem dX4_choose_69 : decode cX4_choose 69 = .ok (.istore 4, 2) := by decide +kernel
theorem dX4_choose_71 : decode cX4_choose 71 = .ok (.aload_n 0, 1) := by decide +kernel
theorem dX4_choose_72 : decode cX4_choose 72 = .ok (.getfield 9, 3) := by decide +kernel
theorem dX4_choose_75 : decode cX4_choose 75 = .ok (.iload_n 3, 1) := by decide +kernel
theorem dX4_choose_76 : decode cX4_choose 76 = .ok (.iload 5, 2) := by decide +kernel
theorem dX4_choose_78 : decode cX4_choose 78 = .ok (.iastore, 1) := by decide +kernel
theorem dX4_choose_79 : decode cX4_choose 79 = .ok (.aload_n 0, 1) := by decide +kernel
theorem dX4_choose_80 : decode cX4_choose 80 = .ok (.getfield 15, 3) := by decide +kernel
theorem dX4_choose_83 : decode cX4_choose 83 = .ok (.iload_n 3, 1) := by decide +kernel
theorem dX4_choose_84 : decode cX4_choose 84 = .ok (.iload 6, 2) := by decide +kernel
theorem dX4_choose_86 : decode cX4_choose 86 = .ok (.iastore, 1) := by decide +kernel
theorem dX4_choose_87 : decode cX4_choose 87 = .ok (.iinc 6 1, 3) := by decide +kernel
theorem dX4_choose_90 : decode cX4_choose 90 = .ok (.goto (-62), 3) := by decide +kernel
theorem dX4_choose_93 : decode cX4_choose 93 = .ok (.iinc 5 1, 3) := by decide +kernel
theorem dX4_choose_96 : decode cX4_choose 96 = .ok (.goto (-89), 3) := by decide +kernel
theorem dX4_choose_99 : decode cX4_choose 99 = .ok (.return_, 1) := by decide +kernel
set_option maxRecDepth 20000 in
theorem ggX4_costOf_X2_fill : GoodIn wsX4_costOf wsX2_fill := goodIn_r _ [6, 7, 8, 9, 10, 11, 12, 13, 14, 15, 16, 17, 18, 19, 20, 21, 22, 23, 24, 25, 26, 27, 28, 29, 30, 31, 32, 33, 34, 35, 36, 37, 38, 39, 40, 41, 42, 43, 44, 45, 46, 47, 48, 49, 50, 51, 52, 53, 54, 55, 56, 57, 58, 59, 60, 77, 78, 79, 80, 81, 82, 83, 84, 85, 86, 87] (by decide +kernel) (by decide +kernel)
set_option maxRecDepth 20000 in
theorem gX4_costOf_X2_fill : GoodIn wsX4_costOf (wsV RX4 52 RX2 yX2_fill wsX2_fill) := goodIn_app (goodIn_of _ (by decide +kernel)) ggX4_costOf_X2_fill
set_option maxRecDepth 20000 in
theorem ggX4_costOf_X2_costBy : GoodIn wsX4_costOf wsX2_costBy := goodIn_r _ [64, 11, 12, 14, 15, 65, 39, 66, 67, 68, 69, 5, 70, 82, 83, 84, 85, 86, 87] (by decide +kernel) (by decide +kernel)
set_option maxRecDepth 20000 in
theorem gX4_costOf_X2_costBy : GoodIn wsX4_costOf (wsV RX4 60 RX2 yX2_costBy wsX2_costBy) := goodIn_app (goodIn_of _ (by decide +kernel)) ggX4_costOf_X2_costBy
theorem dX4_costOf_0 : decode cX4_costOf 0 = .ok (.aload_n 0, 1) := by decide +kernel
theorem dX4_costOf_1 : decode cX4_costOf 1 = .ok (.getfield 31, 3) := by decide +kernel
theorem dX4_costOf_4 : decode cX4_costOf 4 = .ok (.aload_n 1, 1) := by decide +kernel
theorem dX4_costOf_5 : decode cX4_costOf 5 = .ok (.aload_n 2, 1) := by decide +kernel
theorem dX4_costOf_6 : decode cX4_costOf 6 = .ok (.iload_n 3, 1) := by decide +kernel
theorem dX4_costOf_7 : decode cX4_costOf 7 = .ok (.iload 4, 2) := by decide +kernel
theorem dX4_costOf_9 : decode cX4_costOf 9 = .ok (.invokevirtual 52, 3) := by decide +kernel
theorem dX4_costOf_12 : decode cX4_costOf 12 = .ok (.aload_n 0, 1) := by decide +kernel
theorem dX4_costOf_13 : decode cX4_costOf 13 = .ok (.getfield 31, 3) := by decide +kernel
theorem dX4_costOf_16 : decode cX4_costOf 16 = .ok (.iload 5, 2) := by decide +kernel
theorem dX4_costOf_18 : decode cX4_costOf 18 = .ok (.invokevirtual 60, 3) := by decide +kernel
theorem dX4_costOf_21 : decode cX4_costOf 21 = .ok (.ireturn, 1) := by decide +kernel
theorem dX4_settledWith_0 : decode cX4_settledWith 0 = .ok (.iconst 0, 1) := by decide +kernel
theorem dX4_settledWith_1 : decode cX4_settledWith 1 = .ok (.istore_n 2, 1) := by decide +kernel
theorem dX4_settledWith_2 : decode cX4_settledWith 2 = .ok (.iconst 0, 1) := by decide +kernel
theorem dX4_settledWith_3 : decode cX4_settledWith 3 = .ok (.istore_n 3, 1) := by decide +kernel
theorem dX4_settledWith_4 : decode cX4_settledWith 4 = .ok (.iload_n 3, 1) := by decide +kernel
theorem dX4_settledWith_5 : decode cX4_settledWith 5 = .ok (.aload_n 0, 1) := by decide +kernel
theorem dX4_settledWith_6 : decode cX4_settledWith 6 = .ok (.getfield 35, 3) := by decide +kernel
theorem dX4_settledWith_9 : decode cX4_settledWith 9 = .ok (.if_icmp .ge 22, 3) := by decide +kernel
theorem dX4_settledWith_12 : decode cX4_settledWith 12 = .ok (.aload_n 0, 1) := by decide +kernel
theorem dX4_settledWith_13 : decode cX4_settledWith 13 = .ok (.getfield 15, 3) := by decide +kernel
theorem dX4_settledWith_16 : decode cX4_settledWith 16 = .ok (.iload_n 3, 1) := by decide +kernel
theorem dX4_settledWith_17 : decode cX4_settledWith 17 = .ok (.iaload, 1) := by decide +kernel
theorem dX4_settledWith_18 : decode cX4_settledWith 18 = .ok (.iload_n 1, 1) := by decide +kernel
theorem dX4_settledWith_19 : decode cX4_settledWith 19 = .ok (.if_icmp .ne 6, 3) := by decide +kernel
theorem dX4_settledWith_22 : decode cX4_settledWith 22 = .ok (.iinc 2 1, 3) := by decide +kernel
theorem dX4_settledWith_25 : decode cX4_settledWith 25 = .ok (.iinc 3 1, 3) := by decide +kernel
theorem dX4_settledWith_28 : decode cX4_settledWith 28 = .ok (.goto (-24), 3) := by decide +kernel
theorem dX4_settledWith_31 : decode cX4_settledWith 31 = .ok (.iload_n 2, 1) := by decide +kernel
theorem dX4_settledWith_32 : decode cX4_settledWith 32 = .ok (.ireturn, 1) := by decide +kernel
set_option maxRecDepth 20000 in
theorem ggX5_init_X6_init : GoodIn wsX5_init wsX6_init := goodIn_r _ [13, 14, 2, 3, 15, 16, 23, 24] (by decide +kernel) (by decide +kernel)
set_option maxRecDepth 20000 in
theorem gX5_init_X6_init_n11 : GoodIn wsX5_init (wsX6_init) := ggX5_init_X6_init
set_option maxRecDepth 20000 in
theorem ggX5_init_X1_init : GoodIn wsX5_init wsX1_init := goodIn_r _ [18, 19, 2, 3, 20, 21, 22, 28, 29, 30] (by decide +kernel) (by decide +kernel)
set_option maxRecDepth 20000 in
theorem gX5_init_X1_init_n20 : GoodIn wsX5_init (wsX1_init) := ggX5_init_X1_init
theorem dX5_init_0 : decode cX5_init 0 = .ok (.aload_n 0, 1) := by decide +kernel
theorem dX5_init_1 : decode cX5_init 1 = .ok (.invokespecial 3, 3) := by decide +kernel
theorem dX5_init_4 : decode cX5_init 4 = .ok (.aload_n 0, 1) := by decide +kernel
theorem dX5_init_5 : decode cX5_init 5 = .ok (.new 9, 3) := by decide +kernel
theorem dX5_init_8 : decode cX5_init 8 = .ok (.dup, 1) := by decide +kernel
theorem dX5_init_9 : decode cX5_init 9 = .ok (.invokespecial 11, 3) := by decide +kernel
theorem dX5_init_12 : decode cX5_init 12 = .ok (.putfield 12, 3) := by decide +kernel
theorem dX5_init_15 : decode cX5_init 15 = .ok (.aload_n 0, 1) := by decide +kernel
theorem dX5_init_16 : decode cX5_init 16 = .ok (.new 18, 3) := by decide +kernel
theorem dX5_init_19 : decode cX5_init 19 = .ok (.dup, 1) := by decide +kernel
theorem dX5_init_20 : decode cX5_init 20 = .ok (.invokespecial 20, 3) := by decide +kernel
theorem dX5_init_23 : decode cX5_init 23 = .ok (.putfield 21, 3) := by decide +kernel
theorem dX5_init_26 : decode cX5_init 26 = .ok (.return_, 1) := by decide +kernel
set_option maxRecDepth 20000 in
theorem ggX5_takeAll_X1_forget : GoodIn wsX5_takeAll wsX1_forget := goodIn_r _ [11, 12, 13, 14, 117, 118, 119] (by decide +kernel) (by decide +kernel)
set_option maxRecDepth 20000 in
theorem gX5_takeAll_X1_forget : GoodIn wsX5_takeAll (wsV RX5 32 RX1 yX1_forget wsX1_forget) := goodIn_app (goodIn_of _ (by decide +kernel)) ggX5_takeAll_X1_forget
set_option maxRecDepth 20000 in
theorem ggX5_takeAll_X8_quotientUp : GoodIn wsX5_takeAll wsX8_quotientUp := goodIn_r _ [17, 18, 19, 16, 20] (by decide +kernel) (by decide +kernel)
set_option maxRecDepth 20000 in
theorem gX5_takeAll_X8_quotientUp_n40 : GoodIn wsX5_takeAll (wsX8_quotientUp) := ggX5_takeAll_X8_quotientUp
set_option maxRecDepth 20000 in
theorem ggX5_takeAll_X1_isTold : GoodIn wsX5_takeAll wsX1_isTold := goodIn_r _ [24, 12, 117, 118, 119] (by decide +kernel) (by decide +kernel)
set_option maxRecDepth 20000 in
theorem gX5_takeAll_X1_isTold : GoodIn wsX5_takeAll (wsV RX5 44 RX1 yX1_isTold wsX1_isTold) := goodIn_app (goodIn_of _ (by decide +kernel)) ggX5_takeAll_X1_isTold
set_option maxRecDepth 20000 in
theorem ggX5_takeAll_X7_endOfBlock : GoodIn wsX5_takeAll wsX7_endOfBlock := goodIn_r _ [29, 30, 31, 32, 33, 34, 112, 113, 114] (by decide +kernel) (by decide +kernel)
set_option maxRecDepth 20000 in
theorem gX5_takeAll_X7_endOfBlock : GoodIn wsX5_takeAll (wsV RX5 48 RX7 yX7_endOfBlock wsX7_endOfBlock) := goodIn_app (goodIn_of _ (by decide +kernel)) ggX5_takeAll_X7_endOfBlock
set_option maxRecDepth 20000 in
theorem ggX5_takeAll_X5_takeBlock : GoodIn wsX5_takeAll wsX5_takeBlock := goodIn_r _ [39, 3, 4, 40, 1, 2, 41, 42, 43, 38, 44, 6, 45, 46, 47, 48, 49, 50, 51, 52, 53, 54, 55, 56, 57, 58, 21, 22, 23, 10, 24, 12, 59, 16, 60, 61, 62, 63, 64, 65, 28, 66, 30, 67, 68, 69, 70, 71, 72, 73, 74, 75, 76, 77, 78, 79, 80, 81, 82, 83, 32, 33, 34, 84, 85, 86, 87, 88, 89, 90, 91, 92, 93, 94, 95, 96, 97, 98, 99, 100, 101, 102, 103, 104, 105, 106, 107, 108, 109, 112, 113, 114, 110, 111, 115, 116, 117, 118, 119] (by decide +kernel) (by decide +kernel)
set_option maxRecDepth 20000 in
theorem gX5_takeAll_X5_takeBlock : GoodIn wsX5_takeAll (wsV RX5 51 RX5 yX5_takeBlock wsX5_takeBlock) := goodIn_app (goodIn_of _ (by decide +kernel)) ggX5_takeAll_X5_takeBlock
set_option maxRecDepth 20000 in
theorem ggX5_takeAll_X5_fail : GoodIn wsX5_takeAll wsX5_fail := goodIn_r _ [48, 4, 49, 50, 1, 2, 51, 107, 108, 109, 117, 118, 119, 110, 111] (by decide +kernel) (by decide +kernel)
set_option maxRecDepth 20000 in
theorem gX5_takeAll_X5_fail : GoodIn wsX5_takeAll (wsV RX5 58 RX5 yX5_fail wsX5_fail) := goodIn_app (goodIn_of _ (by decide +kernel)) ggX5_takeAll_X5_fail
theorem dX5_takeAll_0 : decode cX5_takeAll 0 = .ok (.aload_n 0, 1) := by decide +kernel
theorem dX5_takeAll_1 : decode cX5_takeAll 1 = .ok (.getfield 12, 3) := by decide +kernel
theorem dX5_takeAll_4 : decode cX5_takeAll 4 = .ok (.iconst 0, 1) := by decide +kernel
theorem dX5_takeAll_5 : decode cX5_takeAll 5 = .ok (.putfield 25, 3) := by decide +kernel
theorem dX5_takeAll_8 : decode cX5_takeAll 8 = .ok (.aload_n 0, 1) := by decide +kernel
theorem dX5_takeAll_9 : decode cX5_takeAll 9 = .ok (.iconst 0, 1) := by decide +kernel
theorem dX5_takeAll_10 : decode cX5_takeAll 10 = .ok (.putfield 29, 3) := by decide +kernel
theorem dX5_takeAll_13 : decode cX5_takeAll 13 = .ok (.aload_n 0, 1) := by decide +kernel
theorem dX5_takeAll_14 : decode cX5_takeAll 14 = .ok (.getfield 21, 3) := by decide +kernel
theorem dX5_takeAll_17 : decode cX5_takeAll 17 = .ok (.invokevirtual 32, 3) := by decide +kernel
theorem dX5_takeAll_20 : decode cX5_takeAll 20 = .ok (.iload_n 3, 1) := by decide +kernel
theorem dX5_takeAll_21 : decode cX5_takeAll 21 = .ok (.aload_n 1, 1) := by decide +kernel
theorem dX5_takeAll_22 : decode cX5_takeAll 22 = .ok (.getfield 35, 3) := by decide +kernel
theorem dX5_takeAll_25 : decode cX5_takeAll 25 = .ok (.invokestatic 40, 3) := by decide +kernel
theorem dX5_takeAll_28 : decode cX5_takeAll 28 = .ok (.istore 4, 2) := by decide +kernel
theorem dX5_takeAll_30 : decode cX5_takeAll 30 = .ok (.iconst 0, 1) := by decide +kernel
theorem dX5_takeAll_31 : decode cX5_takeAll 31 = .ok (.istore 5, 2) := by decide +kernel
theorem dX5_takeAll_33 : decode cX5_takeAll 33 = .ok (.iload 5, 2) := by decide +kernel
theorem dX5_takeAll_35 : decode cX5_takeAll 35 = .ok (.iload 4, 2) := by decide +kernel
theorem dX5_takeAll_37 : decode cX5_takeAll 37 = .ok (.if_icmp .ge 32, 3) := by decide +kernel
theorem dX5_takeAll_40 : decode cX5_takeAll 40 = .ok (.aload_n 0, 1) := by decide +kernel
theorem dX5_takeAll_41 : decode cX5_takeAll 41 = .ok (.getfield 21, 3) := by decide +kernel
theorem dX5_takeAll_44 : decode cX5_takeAll 44 = .ok (.invokevirtual 44, 3) := by decide +kernel
theorem dX5_takeAll_47 : decode cX5_takeAll 47 = .ok (.ifCond .ne 22, 3) := by decide +kernel
theorem dX5_takeAll_50 : decode cX5_takeAll 50 = .ok (.aload_n 0, 1) := by decide +kernel
theorem dX5_takeAll_51 : decode cX5_takeAll 51 = .ok (.aload_n 1, 1) := by decide +kernel
theorem dX5_takeAll_52 : decode cX5_takeAll 52 = .ok (.aload_n 2, 1) := by decide +kernel
theorem dX5_takeAll_53 : decode cX5_takeAll 53 = .ok (.aload_n 1, 1) := by decide +kernel
theorem dX5_takeAll_54 : decode cX5_takeAll 54 = .ok (.iload 5, 2) := by decide +kernel
theorem dX5_takeAll_56 : decode cX5_takeAll 56 = .ok (.iload_n 3, 1) := by decide +kernel
theorem dX5_takeAll_57 : decode cX5_takeAll 57 = .ok (.invokevirtual 48, 3) := by decide +kernel
theorem dX5_takeAll_60 : decode cX5_takeAll 60 = .ok (.invokevirtual 51, 3) := by decide +kernel
theorem dX5_takeAll_63 : decode cX5_takeAll 63 = .ok (.iinc 5 1, 3) := by decide +kernel
theorem dX5_takeAll_66 : decode cX5_takeAll 66 = .ok (.goto (-33), 3) := by decide +kernel
theorem dX5_takeAll_69 : decode cX5_takeAll 69 = .ok (.aload_n 0, 1) := by decide +kernel
theorem dX5_takeAll_70 : decode cX5_takeAll 70 = .ok (.getfield 21, 3) := by decide +kernel
theorem dX5_takeAll_73 : decode cX5_takeAll 73 = .ok (.invokevirtual 44, 3) := by decide +kernel
theorem dX5_takeAll_76 : decode cX5_takeAll 76 = .ok (.ifCond .ne 24, 3) := by decide +kernel
theorem dX5_takeAll_79 : decode cX5_takeAll 79 = .ok (.aload_n 0, 1) := by decide +kernel
theorem dX5_takeAll_80 : decode cX5_takeAll 80 = .ok (.getfield 29, 3) := by decide +kernel
theorem dX5_takeAll_83 : decode cX5_takeAll 83 = .ok (.aload_n 2, 1) := by decide +kernel
theorem dX5_takeAll_84 : decode cX5_takeAll 84 = .ok (.getfield 55, 3) := by decide +kernel
theorem dX5_takeAll_87 : decode cX5_takeAll 87 = .ok (.if_icmp .ge 13, 3) := by decide +kernel
theorem dX5_takeAll_90 : decode cX5_takeAll 90 = .ok (.aload_n 0, 1) := by decide +kernel
theorem dX5_takeAll_91 : decode cX5_takeAll 91 = .ok (.iconst 4, 1) := by decide +kernel
theorem dX5_takeAll_92 : decode cX5_takeAll 92 = .ok (.aload_n 0, 1) := by decide +kernel
theorem dX5_takeAll_93 : decode cX5_takeAll 93 = .ok (.getfield 29, 3) := by decide +kernel
theorem dX5_takeAll_96 : decode cX5_takeAll 96 = .ok (.invokevirtual 58, 3) := by decide +kernel
theorem dX5_takeAll_99 : decode cX5_takeAll 99 = .ok (.pop, 1) := by decide +kernel
theorem dX5_takeAll_100 : decode cX5_takeAll 100 = .ok (.return_, 1) := by decide +kernel
set_option maxRecDepth 20000 in
theorem ggX5_takeBlock_X5_takeNumber : GoodIn wsX5_takeBlock wsX5_takeNumber := goodIn_r _ [10, 11, 1, 12, 13, 14, 9, 15, 2, 16, 17, 4, 5, 18, 19, 20, 21, 22, 23, 24, 25, 94, 95, 86, 87, 88, 96, 97, 98, 92, 93] (by decide +kernel) (by decide +kernel)
set_option maxRecDepth 20000 in
theorem gX5_takeBlock_X5_takeNumber : GoodIn wsX5_takeBlock (wsV RX5 61 RX5 yX5_takeNumber wsX5_takeNumber) := goodIn_app (goodIn_of _ (by decide +kernel)) ggX5_takeBlock_X5_takeNumber
set_option maxRecDepth 20000 in
theorem ggX5_takeBlock_X1_isTold : GoodIn wsX5_takeBlock wsX1_isTold := goodIn_r _ [30, 31, 96, 97, 98] (by decide +kernel) (by decide +kernel)
set_option maxRecDepth 20000 in
theorem gX5_takeBlock_X1_isTold : GoodIn wsX5_takeBlock (wsV RX5 44 RX1 yX1_isTold wsX1_isTold) := goodIn_app (goodIn_of _ (by decide +kernel)) ggX5_takeBlock_X1_isTold
set_option maxRecDepth 20000 in
theorem ggX5_takeBlock_X8_topOf : GoodIn wsX5_takeBlock wsX8_topOf := goodIn_r _ [34] (by decide +kernel) (by decide +kernel)
set_option maxRecDepth 20000 in
theorem gX5_takeBlock_X8_topOf_n65 : GoodIn wsX5_takeBlock (wsX8_topOf) := ggX5_takeBlock_X8_topOf
set_option maxRecDepth 20000 in
theorem ggX5_takeBlock_X8_isCode : GoodIn wsX5_takeBlock wsX8_isCode := goodIn_r _ [36] (by decide +kernel) (by decide +kernel)
set_option maxRecDepth 20000 in
theorem gX5_takeBlock_X8_isCode_n72 : GoodIn wsX5_takeBlock (wsX8_isCode) := ggX5_takeBlock_X8_isCode
set_option maxRecDepth 20000 in
theorem ggX5_takeBlock_X5_fail : GoodIn wsX5_takeBlock wsX5_fail := goodIn_r _ [15, 2, 16, 17, 4, 5, 18, 86, 87, 88, 96, 97, 98, 92, 93] (by decide +kernel) (by decide +kernel)
set_option maxRecDepth 20000 in
theorem gX5_takeBlock_X5_fail : GoodIn wsX5_takeBlock (wsV RX5 58 RX5 yX5_fail wsX5_fail) := goodIn_app (goodIn_of _ (by decide +kernel)) ggX5_takeBlock_X5_fail
set_option maxRecDepth 20000 in
theorem ggX5_takeBlock_X7_isBare : GoodIn wsX5_takeBlock wsX7_isBare := goodIn_r _ [41, 42, 43, 89, 90, 91] (by decide +kernel) (by decide +kernel)
set_option maxRecDepth 20000 in
theorem gX5_takeBlock_X7_isBare : GoodIn wsX5_takeBlock (wsV RX5 76 RX7 yX7_isBare wsX7_isBare) := goodIn_app (goodIn_of _ (by decide +kernel)) ggX5_takeBlock_X7_isBare
set_option maxRecDepth 20000 in
theorem ggX5_takeBlock_X5_takeTold : GoodIn wsX5_takeBlock wsX5_takeTold := goodIn_r _ [47, 3, 2, 4, 5, 6, 7, 8, 9, 10, 11, 1, 12, 13, 14, 15, 16, 17, 18, 19, 20, 21, 22, 23, 24, 25, 48, 49, 50, 51, 32, 33, 34, 52, 53, 54, 55, 26, 27, 28, 29, 30, 31, 56, 57, 58, 59, 60, 61, 62, 63, 64, 65, 66, 67, 68, 69, 70, 71, 72, 73, 74, 38, 39, 40, 41, 42, 43, 75, 76, 77, 78, 79, 80, 81, 89, 90, 91, 86, 87, 88, 92, 93, 94, 95, 96, 97, 98] (by decide +kernel) (by decide +kernel)
set_option maxRecDepth 20000 in
theorem gX5_takeBlock_X5_takeTold : GoodIn wsX5_takeBlock (wsV RX5 80 RX5 yX5_takeTold wsX5_takeTold) := goodIn_app (goodIn_of _ (by decide +kernel)) ggX5_takeBlock_X5_takeTold
set_option maxRecDepth 20000 in
theorem ggX5_takeBlock_X6_append : GoodIn wsX5_takeBlock wsX6_append := goodIn_r _ [85, 72, 73, 92, 93] (by decide +kernel) (by decide +kernel)
set_option maxRecDepth 20000 in
theorem gX5_takeBlock_X6_append : GoodIn wsX5_takeBlock (wsV RX5 84 RX6 yX6_append wsX6_append) := goodIn_app (goodIn_of _ (by decide +kernel)) ggX5_takeBlock_X6_append
theorem dX5_takeBlock_0 : decode cX5_takeBlock 0 = .ok (.aload_n 0, 1) := by decide +kernel
theorem dX5_takeBlock_1 : decode cX5_takeBlock 1 = .ok (.getfield 29, 3) := by decide +kernel
theorem dX5_takeBlock_4 : decode cX5_takeBlock 4 = .ok (.istore 4, 2) := by decide +kernel
theorem dX5_takeBlock_6 : decode cX5_takeBlock 6 = .ok (.aload_n 0, 1) := by decide +kernel
theorem dX5_takeBlock_7 : decode cX5_takeBlock 7 = .ok (.aload_n 2, 1) := by decide +kernel
theorem dX5_takeBlock_8 : decode cX5_takeBlock 8 = .ok (.bipush 6, 2) := by decide +kernel
theorem dX5_takeBlock_10 : decode cX5_takeBlock 10 = .ok (.invokevirtual 61, 3) := by decide +kernel
theorem dX5_takeBlock_13 : decode cX5_takeBlock 13 = .ok (.istore 5, 2) := by decide +kernel
theorem dX5_takeBlock_15 : decode cX5_takeBlock 15 = .ok (.aload_n 0, 1) := by decide +kernel
theorem dX5_takeBlock_16 : decode cX5_takeBlock 16 = .ok (.getfield 21, 3) := by decide +kernel
theorem dX5_takeBlock_19 : decode cX5_takeBlock 19 = .ok (.invokevirtual 44, 3) := by decide +kernel
theorem dX5_takeBlock_22 : decode cX5_takeBlock 22 = .ok (.ifCond .eq 4, 3) := by decide +kernel
theorem dX5_takeBlock_25 : decode cX5_takeBlock 25 = .ok (.return_, 1) := by decide +kernel
theorem dX5_takeBlock_26 : decode cX5_takeBlock 26 = .ok (.iload 5, 2) := by decide +kernel
theorem dX5_takeBlock_28 : decode cX5_takeBlock 28 = .ok (.iconst 4, 1) := by decide +kernel
theorem dX5_takeBlock_29 : decode cX5_takeBlock 29 = .ok (.ishr, 1) := by decide +kernel
theorem dX5_takeBlock_30 : decode cX5_takeBlock 30 = .ok (.istore 6, 2) := by decide +kernel
theorem dX5_takeBlock_32 : decode cX5_takeBlock 32 = .ok (.iload 5, 2) := by decide +kernel
theorem dX5_takeBlock_34 : decode cX5_takeBlock 34 = .ok (.iconst 4, 1) := by decide +kernel
theorem dX5_takeBlock_35 : decode cX5_takeBlock 35 = .ok (.invokestatic 65, 3) := by decide +kernel
theorem dX5_takeBlock_38 : decode cX5_takeBlock 38 = .ok (.iand, 1) := by decide +kernel
theorem dX5_takeBlock_39 : decode cX5_takeBlock 39 = .ok (.istore 7, 2) := by decide +kernel
theorem dX5_takeBlock_41 : decode cX5_takeBlock 41 = .ok (.iload 7, 2) := by decide +kernel
theorem dX5_takeBlock_43 : decode cX5_takeBlock 43 = .ok (.aload_n 1, 1) := by decide +kernel
theorem dX5_takeBlock_44 : decode cX5_takeBlock 44 = .ok (.getfield 69, 3) := by decide +kernel
theorem dX5_takeBlock_47 : decode cX5_takeBlock 47 = .ok (.invokestatic 72, 3) := by decide +kernel
theorem dX5_takeBlock_50 : decode cX5_takeBlock 50 = .ok (.ifCond .ne 12, 3) := by decide +kernel
theorem dX5_takeBlock_53 : decode cX5_takeBlock 53 = .ok (.aload_n 0, 1) := by decide +kernel
theorem dX5_takeBlock_54 : decode cX5_takeBlock 54 = .ok (.iconst 2, 1) := by decide +kernel
theorem dX5_takeBlock_55 : decode cX5_takeBlock 55 = .ok (.iload 4, 2) := by decide +kernel
theorem dX5_takeBlock_57 : decode cX5_takeBlock 57 = .ok (.invokevirtual 58, 3) := by decide +kernel
theorem dX5_takeBlock_60 : decode cX5_takeBlock 60 = .ok (.pop, 1) := by decide +kernel
theorem dX5_takeBlock_61 : decode cX5_takeBlock 61 = .ok (.return_, 1) := by decide +kernel
theorem dX5_takeBlock_62 : decode cX5_takeBlock 62 = .ok (.aload_n 0, 1) := by decide +kernel
theorem dX5_takeBlock_63 : decode cX5_takeBlock 63 = .ok (.getfield 12, 3) := by decide +kernel
theorem dX5_takeBlock_66 : decode cX5_takeBlock 66 = .ok (.getfield 25, 3) := by decide +kernel
theorem dX5_takeBlock_69 : decode cX5_takeBlock 69 = .ok (.istore 8, 2) := by decide +kernel
theorem dX5_takeBlock_71 : decode cX5_takeBlock 71 = .ok (.iload 8, 2) := by decide +kernel
theorem dX5_takeBlock_73 : decode cX5_takeBlock 73 = .ok (.iload_n 3, 1) := by decide +kernel
theorem dX5_takeBlock_74 : decode cX5_takeBlock 74 = .ok (.if_icmp .ge 62, 3) := by decide +kernel
theorem dX5_takeBlock_77 : decode cX5_takeBlock 77 = .ok (.aload_n 1, 1) := by decide +kernel
theorem dX5_takeBlock_78 : decode cX5_takeBlock 78 = .ok (.iload 8, 2) := by decide +kernel
theorem dX5_takeBlock_80 : decode cX5_takeBlock 80 = .ok (.invokevirtual 76, 3) := by decide +kernel
theorem dX5_takeBlock_83 : decode cX5_takeBlock 83 = .ok (.ifCond .eq 15, 3) := by decide +kernel
theorem dX5_takeBlock_86 : decode cX5_takeBlock 86 = .ok (.aload_n 0, 1) := by decide +kernel
theorem dX5_takeBlock_87 : decode cX5_takeBlock 87 = .ok (.aload_n 2, 1) := by decide +kernel
theorem dX5_takeBlock_88 : decode cX5_takeBlock 88 = .ok (.aload_n 1, 1) := by decide +kernel
theorem dX5_takeBlock_89 : decode cX5_takeBlock 89 = .ok (.getfield 69, 3) := by decide +kernel
theorem dX5_takeBlock_92 : decode cX5_takeBlock 92 = .ok (.invokevirtual 61, 3) := by decide +kernel
theorem dX5_takeBlock_95 : decode cX5_takeBlock 95 = .ok (.goto 13, 3) := by decide +kernel
theorem dX5_takeBlock_98 : decode cX5_takeBlock 98 = .ok (.aload_n 0, 1) := by decide +kernel
theorem dX5_takeBlock_99 : decode cX5_takeBlock 99 = .ok (.aload_n 1, 1) := by decide +kernel
theorem dX5_takeBlock_100 : decode cX5_takeBlock 100 = .ok (.aload_n 2, 1) := by decide +kernel
theorem dX5_takeBlock_101 : decode cX5_takeBlock 101 = .ok (.iload 6, 2) := by decide +kernel
theorem dX5_takeBlock_103 : decode cX5_takeBlock 103 = .ok (.iload 7, 2) := by decide +kernel
theorem dX5_takeBlock_105 : decode cX5_takeBlock 105 = .ok (.invokevirtual 80, 3) := by decide +kernel
theorem dX5_takeBlock_108 : decode cX5_takeBlock 108 = .ok (.istore 9, 2) := by decide +kernel
theorem dX5_takeBlock_110 : decode cX5_takeBlock 110 = .ok (.aload_n 0, 1) := by decide +kernel
theorem dX5_takeBlock_111 : decode cX5_takeBlock 111 = .ok (.getfield 21, 3) := by decide +kernel
theorem dX5_takeBlock_114 : decode cX5_takeBlock 114 = .ok (.invokevirtual 44, 3) := by decide +kernel
theorem dX5_takeBlock_117 : decode cX5_takeBlock 117 = .ok (.ifCond .eq 4, 3) := by decide +kernel
theorem dX5_takeBlock_120 : decode cX5_takeBlock 120 = .ok (.return_, 1) := by decide +kernel
theorem dX5_takeBlock_121 : decode cX5_takeBlock 121 = .ok (.aload_n 0, 1) := by decide +kernel
theorem dX5_takeBlock_122 : decode cX5_takeBlock 122 = .ok (.getfield 12, 3) := by decide +kernel
theorem dX5_takeBlock_125 : decode cX5_takeBlock 125 = .ok (.iload 9, 2) := by decide +kernel
theorem dX5_takeBlock_127 : decode cX5_takeBlock 127 = .ok (.invokevirtual 84, 3) := by decide +kernel
theorem dX5_takeBlock_130 : decode cX5_takeBlock 130 = .ok (.iinc 8 1, 3) := by decide +kernel
theorem dX5_takeBlock_133 : decode cX5_takeBlock 133 = .ok (.goto (-62), 3) := by decide +kernel
theorem dX5_takeBlock_136 : decode cX5_takeBlock 136 = .ok (.return_, 1) := by decide +kernel
set_option maxRecDepth 20000 in
theorem ggX5_takeTold_X5_takeNumber : GoodIn wsX5_takeTold wsX5_takeNumber := goodIn_r _ [9, 10, 11, 12, 13, 14, 8, 15, 2, 16, 17, 3, 4, 18, 19, 20, 21, 22, 23, 24, 25, 83, 84, 78, 79, 80, 85, 86, 87, 81, 82] (by decide +kernel) (by decide +kernel)
set_option maxRecDepth 20000 in
theorem gX5_takeTold_X5_takeNumber : GoodIn wsX5_takeTold (wsV RX5 61 RX5 yX5_takeNumber wsX5_takeNumber) := goodIn_app (goodIn_of _ (by decide +kernel)) ggX5_takeTold_X5_takeNumber
set_option maxRecDepth 20000 in
theorem ggX5_takeTold_X5_takeByNoughts : GoodIn wsX5_takeTold wsX5_takeByNoughts := goodIn_r _ [29, 11, 10, 2, 30, 31, 32, 19, 20, 21, 22, 23, 24, 25, 12, 13, 14, 8, 15, 16, 17, 3, 4, 18, 33, 34, 35, 36, 5, 6, 7, 9, 37, 38, 39, 40, 41, 42, 78, 79, 80, 83, 84, 85, 86, 87, 81, 82] (by decide +kernel) (by decide +kernel)
set_option maxRecDepth 20000 in
theorem gX5_takeTold_X5_takeByNoughts : GoodIn wsX5_takeTold (wsV RX5 88 RX5 yX5_takeByNoughts wsX5_takeByNoughts) := goodIn_app (goodIn_of _ (by decide +kernel)) ggX5_takeTold_X5_takeByNoughts
set_option maxRecDepth 20000 in
theorem ggX5_takeTold_X1_isTold : GoodIn wsX5_takeTold wsX1_isTold := goodIn_r _ [41, 42, 85, 86, 87] (by decide +kernel) (by decide +kernel)
set_option maxRecDepth 20000 in
theorem gX5_takeTold_X1_isTold : GoodIn wsX5_takeTold (wsV RX5 44 RX1 yX1_isTold wsX1_isTold) := goodIn_app (goodIn_of _ (by decide +kernel)) ggX5_takeTold_X1_isTold
set_option maxRecDepth 20000 in
theorem ggX5_takeTold_X8_toldAhead : GoodIn wsX5_takeTold wsX8_toldAhead := goodIn_r _ [44, 45, 46, 47, 48, 49, 50, 51, 52, 53, 30, 31, 32, 54, 55, 56, 57, 58, 59, 60, 61, 62, 63, 64, 65, 66, 67, 75, 76, 77, 81, 82] (by decide +kernel) (by decide +kernel)
set_option maxRecDepth 20000 in
theorem gX5_takeTold_X8_toldAhead_n92 : GoodIn wsX5_takeTold (wsX8_toldAhead) := ggX5_takeTold_X8_toldAhead
set_option maxRecDepth 20000 in
theorem ggX5_takeTold_X7_top : GoodIn wsX5_takeTold wsX7_top := goodIn_r _ [71, 72, 30, 31, 32, 75, 76, 77] (by decide +kernel) (by decide +kernel)
set_option maxRecDepth 20000 in
theorem gX5_takeTold_X7_top : GoodIn wsX5_takeTold (wsV RX5 96 RX7 yX7_top wsX7_top) := goodIn_app (goodIn_of _ (by decide +kernel)) ggX5_takeTold_X7_top
set_option maxRecDepth 20000 in
theorem ggX5_takeTold_X8_unfold : GoodIn wsX5_takeTold wsX8_unfold := goodIn_r _ [74, 46, 47, 48, 49] (by decide +kernel) (by decide +kernel)
set_option maxRecDepth 20000 in
theorem gX5_takeTold_X8_unfold_n100 : GoodIn wsX5_takeTold (wsX8_unfold) := ggX5_takeTold_X8_unfold
theorem dX5_takeTold_0 : decode cX5_takeTold 0 = .ok (.iconst 0, 1) := by decide +kernel
theorem dX5_takeTold_1 : decode cX5_takeTold 1 = .ok (.istore 5, 2) := by decide +kernel
theorem dX5_takeTold_3 : decode cX5_takeTold 3 = .ok (.iload 4, 2) := by decide +kernel
theorem dX5_takeTold_5 : decode cX5_takeTold 5 = .ok (.bipush 8, 2) := by decide +kernel
theorem dX5_takeTold_7 : decode cX5_takeTold 7 = .ok (.if_icmp .ne 17, 3) := by decide +kernel
theorem dX5_takeTold_10 : decode cX5_takeTold 10 = .ok (.aload_n 0, 1) := by decide +kernel
theorem dX5_takeTold_11 : decode cX5_takeTold 11 = .ok (.aload_n 2, 1) := by decide +kernel
theorem dX5_takeTold_12 : decode cX5_takeTold 12 = .ok (.aload_n 1, 1) := by decide +kernel
theorem dX5_takeTold_13 : decode cX5_takeTold 13 = .ok (.getfield 69, 3) := by decide +kernel
theorem dX5_takeTold_16 : decode cX5_takeTold 16 = .ok (.invokevirtual 61, 3) := by decide +kernel
theorem dX5_takeTold_19 : decode cX5_takeTold 19 = .ok (.istore 5, 2) := by decide +kernel
theorem dX5_takeTold_21 : decode cX5_takeTold 21 = .ok (.goto 23, 3) := by decide +kernel
theorem dX5_takeTold_24 : decode cX5_takeTold 24 = .ok (.iload 4, 2) := by decide +kernel
theorem dX5_takeTold_26 : decode cX5_takeTold 26 = .ok (.ifCond .eq 18, 3) := by decide +kernel
theorem dX5_takeTold_29 : decode cX5_takeTold 29 = .ok (.aload_n 0, 1) := by decide +kernel
theorem dX5_takeTold_30 : decode cX5_takeTold 30 = .ok (.aload_n 2, 1) := by decide +kernel
theorem dX5_takeTold_31 : decode cX5_takeTold 31 = .ok (.aload_n 1, 1) := by decide +kernel
theorem dX5_takeTold_32 : decode cX5_takeTold 32 = .ok (.getfield 69, 3) := by decide +kernel
theorem dX5_takeTold_35 : decode cX5_takeTold 35 = .ok (.iload 4, 2) := by decide +kernel
theorem dX5_takeTold_37 : decode cX5_takeTold 37 = .ok (.iconst 1, 1) := by decide +kernel
theorem dX5_takeTold_38 : decode cX5_takeTold 38 = .ok (.isub, 1) := by decide +kernel
theorem dX5_takeTold_39 : decode cX5_takeTold 39 = .ok (.invokevirtual 88, 3) := by decide +kernel
theorem dX5_takeTold_42 : decode cX5_takeTold 42 = .ok (.istore 5, 2) := by decide +kernel
theorem dX5_takeTold_44 : decode cX5_takeTold 44 = .ok (.aload_n 0, 1) := by decide +kernel
theorem dX5_takeTold_45 : decode cX5_takeTold 45 = .ok (.getfield 21, 3) := by decide +kernel
theorem dX5_takeTold_48 : decode cX5_takeTold 48 = .ok (.invokevirtual 44, 3) := by decide +kernel
theorem dX5_takeTold_51 : decode cX5_takeTold 51 = .ok (.ifCond .eq 6, 3) := by decide +kernel
theorem dX5_takeTold_54 : decode cX5_takeTold 54 = .ok (.bipush (-6), 2) := by decide +kernel
theorem dX5_takeTold_56 : decode cX5_takeTold 56 = .ok (.ireturn, 1) := by decide +kernel
theorem dX5_takeTold_57 : decode cX5_takeTold 57 = .ok (.iload 5, 2) := by decide +kernel
theorem dX5_takeTold_59 : decode cX5_takeTold 59 = .ok (.aload_n 1, 1) := by decide +kernel
theorem dX5_takeTold_60 : decode cX5_takeTold 60 = .ok (.aload_n 0, 1) := by decide +kernel
theorem dX5_takeTold_61 : decode cX5_takeTold 61 = .ok (.getfield 12, 3) := by decide +kernel
theorem dX5_takeTold_64 : decode cX5_takeTold 64 = .ok (.aload_n 0, 1) := by decide +kernel
theorem dX5_takeTold_65 : decode cX5_takeTold 65 = .ok (.getfield 12, 3) := by decide +kernel
theorem dX5_takeTold_68 : decode cX5_takeTold 68 = .ok (.getfield 25, 3) := by decide +kernel
theorem dX5_takeTold_71 : decode cX5_takeTold 71 = .ok (.iload_n 3, 1) := by decide +kernel
theorem dX5_takeTold_72 : decode cX5_takeTold 72 = .ok (.invokestatic 92, 3) := by decide +kernel
theorem dX5_takeTold_75 : decode cX5_takeTold 75 = .ok (.aload_n 1, 1) := by decide +kernel
theorem dX5_takeTold_76 : decode cX5_takeTold 76 = .ok (.invokevirtual 96, 3) := by decide +kernel
theorem dX5_takeTold_79 : decode cX5_takeTold 79 = .ok (.invokestatic 100, 3) := by decide +kernel
theorem dX5_takeTold_82 : decode cX5_takeTold 82 = .ok (.ireturn, 1) := by decide +kernel
set_option maxRecDepth 20000 in
theorem ggX5_takeByNoughts_X8_topOf : GoodIn wsX5_takeByNoughts wsX8_topOf := goodIn_r _ [6] (by decide +kernel) (by decide +kernel)
set_option maxRecDepth 20000 in
theorem gX5_takeByNoughts_X8_topOf_n65 : GoodIn wsX5_takeByNoughts (wsX8_topOf) := ggX5_takeByNoughts_X8_topOf
set_option maxRecDepth 20000 in
theorem ggX5_takeByNoughts_X0_at : GoodIn wsX5_takeByNoughts wsX0_at := goodIn_r _ [11, 12, 13, 41, 42] (by decide +kernel) (by decide +kernel)
set_option maxRecDepth 20000 in
theorem gX5_takeByNoughts_X0_at : GoodIn wsX5_takeByNoughts (wsV RX5 104 RX0 yX0_at wsX0_at) := goodIn_app (goodIn_of _ (by decide +kernel)) ggX5_takeByNoughts_X0_at
set_option maxRecDepth 20000 in
theorem ggX5_takeByNoughts_X5_fail : GoodIn wsX5_takeByNoughts wsX5_fail := goodIn_r _ [18, 3, 19, 20, 21, 22, 23, 38, 39, 40, 43, 44, 45, 46, 47] (by decide +kernel) (by decide +kernel)
set_option maxRecDepth 20000 in
theorem gX5_takeByNoughts_X5_fail : GoodIn wsX5_takeByNoughts (wsV RX5 58 RX5 yX5_fail wsX5_fail) := goodIn_app (goodIn_of _ (by decide +kernel)) ggX5_takeByNoughts_X5_fail
set_option maxRecDepth 20000 in
theorem ggX5_takeByNoughts_X0_has : GoodIn wsX5_takeByNoughts wsX0_has := goodIn_r _ [27, 12, 41, 42] (by decide +kernel) (by decide +kernel)
set_option maxRecDepth 20000 in
theorem gX5_takeByNoughts_X0_has : GoodIn wsX5_takeByNoughts (wsV RX5 107 RX0 yX0_has wsX0_has) := goodIn_app (goodIn_of _ (by decide +kernel)) ggX5_takeByNoughts_X0_has
set_option maxRecDepth 20000 in
theorem ggX5_takeByNoughts_X5_takeNumber : GoodIn wsX5_takeByNoughts wsX5_takeNumber := goodIn_r _ [31, 2, 1, 14, 15, 16, 17, 18, 3, 19, 20, 21, 22, 23, 7, 8, 9, 10, 11, 12, 13, 41, 42, 38, 39, 40, 43, 44, 45, 46, 47] (by decide +kernel) (by decide +kernel)
set_option maxRecDepth 20000 in
theorem gX5_takeByNoughts_X5_takeNumber : GoodIn wsX5_takeByNoughts (wsV RX5 61 RX5 yX5_takeNumber wsX5_takeNumber) := goodIn_app (goodIn_of _ (by decide +kernel)) ggX5_takeByNoughts_X5_takeNumber
set_option maxRecDepth 20000 in
theorem ggX5_takeByNoughts_X1_isTold : GoodIn wsX5_takeByNoughts wsX1_isTold := goodIn_r _ [36, 37, 43, 44, 45] (by decide +kernel) (by decide +kernel)
set_option maxRecDepth 20000 in
theorem gX5_takeByNoughts_X1_isTold : GoodIn wsX5_takeByNoughts (wsV RX5 44 RX1 yX1_isTold wsX1_isTold) := goodIn_app (goodIn_of _ (by decide +kernel)) ggX5_takeByNoughts_X1_isTold
theorem dX5_takeByNoughts_0 : decode cX5_takeByNoughts 0 = .ok (.iload_n 2, 1) := by decide +kernel
theorem dX5_takeByNoughts_1 : decode cX5_takeByNoughts 1 = .ok (.invokestatic 65, 3) := by decide +kernel
theorem dX5_takeByNoughts_4 : decode cX5_takeByNoughts 4 = .ok (.iload_n 3, 1) := by decide +kernel
theorem dX5_takeByNoughts_5 : decode cX5_takeByNoughts 5 = .ok (.ishr, 1) := by decide +kernel
theorem dX5_takeByNoughts_6 : decode cX5_takeByNoughts 6 = .ok (.istore 4, 2) := by decide +kernel
theorem dX5_takeByNoughts_8 : decode cX5_takeByNoughts 8 = .ok (.iconst 0, 1) := by decide +kernel
theorem dX5_takeByNoughts_9 : decode cX5_takeByNoughts 9 = .ok (.istore 5, 2) := by decide +kernel
theorem dX5_takeByNoughts_11 : decode cX5_takeByNoughts 11 = .ok (.iload 5, 2) := by decide +kernel
theorem dX5_takeByNoughts_13 : decode cX5_takeByNoughts 13 = .ok (.iload 4, 2) := by decide +kernel
theorem dX5_takeByNoughts_15 : decode cX5_takeByNoughts 15 = .ok (.if_icmp .gt 23, 3) := by decide +kernel
theorem dX5_takeByNoughts_18 : decode cX5_takeByNoughts 18 = .ok (.aload_n 1, 1) := by decide +kernel
theorem dX5_takeByNoughts_19 : decode cX5_takeByNoughts 19 = .ok (.aload_n 0, 1) := by decide +kernel
theorem dX5_takeByNoughts_20 : decode cX5_takeByNoughts 20 = .ok (.getfield 29, 3) := by decide +kernel
theorem dX5_takeByNoughts_23 : decode cX5_takeByNoughts 23 = .ok (.iload 5, 2) := by decide +kernel
theorem dX5_takeByNoughts_25 : decode cX5_takeByNoughts 25 = .ok (.iadd, 1) := by decide +kernel
theorem dX5_takeByNoughts_26 : decode cX5_takeByNoughts 26 = .ok (.invokevirtual 104, 3) := by decide +kernel
theorem dX5_takeByNoughts_29 : decode cX5_takeByNoughts 29 = .ok (.ifCond .ne 9, 3) := by decide +kernel
theorem dX5_takeByNoughts_32 : decode cX5_takeByNoughts 32 = .ok (.iinc 5 1, 3) := by decide +kernel
theorem dX5_takeByNoughts_35 : decode cX5_takeByNoughts 35 = .ok (.goto (-24), 3) := by decide +kernel
theorem dX5_takeByNoughts_38 : decode cX5_takeByNoughts 38 = .ok (.iload 5, 2) := by decide +kernel
theorem dX5_takeByNoughts_40 : decode cX5_takeByNoughts 40 = .ok (.iload 4, 2) := by decide +kernel
theorem dX5_takeByNoughts_42 : decode cX5_takeByNoughts 42 = .ok (.if_icmp .le 13, 3) := by decide +kernel
theorem dX5_takeByNoughts_45 : decode cX5_takeByNoughts 45 = .ok (.aload_n 0, 1) := by decide +kernel
theorem dX5_takeByNoughts_46 : decode cX5_takeByNoughts 46 = .ok (.iconst 3, 1) := by decide +kernel
theorem dX5_takeByNoughts_47 : decode cX5_takeByNoughts 47 = .ok (.aload_n 0, 1) := by decide +kernel
theorem dX5_takeByNoughts_48 : decode cX5_takeByNoughts 48 = .ok (.getfield 29, 3) := by decide +kernel
theorem dX5_takeByNoughts_51 : decode cX5_takeByNoughts 51 = .ok (.invokevirtual 58, 3) := by decide +kernel
theorem dX5_takeByNoughts_54 : decode cX5_takeByNoughts 54 = .ok (.ireturn, 1) := by decide +kernel
theorem dX5_takeByNoughts_55 : decode cX5_takeByNoughts 55 = .ok (.aload_n 1, 1) := by decide +kernel
theorem dX5_takeByNoughts_56 : decode cX5_takeByNoughts 56 = .ok (.aload_n 0, 1) := by decide +kernel
theorem dX5_takeByNoughts_57 : decode cX5_takeByNoughts 57 = .ok (.getfield 29, 3) := by decide +kernel
theorem dX5_takeByNoughts_60 : decode cX5_takeByNoughts 60 = .ok (.iload 5, 2) := by decide +kernel
theorem dX5_takeByNoughts_62 : decode cX5_takeByNoughts 62 = .ok (.iadd, 1) := by decide +kernel
theorem dX5_takeByNoughts_63 : decode cX5_takeByNoughts 63 = .ok (.invokevirtual 107, 3) := by decide +kernel
theorem dX5_takeByNoughts_66 : decode cX5_takeByNoughts 66 = .ok (.ifCond .ne 13, 3) := by decide +kernel
theorem dX5_takeByNoughts_69 : decode cX5_takeByNoughts 69 = .ok (.aload_n 0, 1) := by decide +kernel
theorem dX5_takeByNoughts_70 : decode cX5_takeByNoughts 70 = .ok (.iconst 1, 1) := by decide +kernel
theorem dX5_takeByNoughts_71 : decode cX5_takeByNoughts 71 = .ok (.aload_n 1, 1) := by decide +kernel
theorem dX5_takeByNoughts_72 : decode cX5_takeByNoughts 72 = .ok (.getfield 55, 3) := by decide +kernel
theorem dX5_takeByNoughts_75 : decode cX5_takeByNoughts 75 = .ok (.invokevirtual 58, 3) := by decide +kernel
theorem dX5_takeByNoughts_78 : decode cX5_takeByNoughts 78 = .ok (.ireturn, 1) := by decide +kernel
theorem dX5_takeByNoughts_79 : decode cX5_takeByNoughts 79 = .ok (.aload_n 0, 1) := by decide +kernel
theorem dX5_takeByNoughts_80 : decode cX5_takeByNoughts 80 = .ok (.dup, 1) := by decide +kernel
theorem dX5_takeByNoughts_81 : decode cX5_takeByNoughts 81 = .ok (.getfield 29, 3) := by decide +kernel
theorem dX5_takeByNoughts_84 : decode cX5_takeByNoughts 84 = .ok (.iload 5, 2) := by decide +kernel
theorem dX5_takeByNoughts_86 : decode cX5_takeByNoughts 86 = .ok (.iconst 1, 1) := by decide +kernel
theorem dX5_takeByNoughts_87 : decode cX5_takeByNoughts 87 = .ok (.iadd, 1) := by decide +kernel
theorem dX5_takeByNoughts_88 : decode cX5_takeByNoughts 88 = .ok (.iadd, 1) := by decide +kernel
theorem dX5_takeByNoughts_89 : decode cX5_takeByNoughts 89 = .ok (.putfield 29, 3) := by decide +kernel
theorem dX5_takeByNoughts_92 : decode cX5_takeByNoughts 92 = .ok (.aload_n 0, 1) := by decide +kernel
theorem dX5_takeByNoughts_93 : decode cX5_takeByNoughts 93 = .ok (.aload_n 1, 1) := by decide +kernel
theorem dX5_takeByNoughts_94 : decode cX5_takeByNoughts 94 = .ok (.iload_n 3, 1) := by decide +kernel
theorem dX5_takeByNoughts_95 : decode cX5_takeByNoughts 95 = .ok (.invokevirtual 61, 3) := by decide +kernel
theorem dX5_takeByNoughts_98 : decode cX5_takeByNoughts 98 = .ok (.istore 6, 2) := by decide +kernel
theorem dX5_takeByNoughts_100 : decode cX5_takeByNoughts 100 = .ok (.aload_n 0, 1) := by decide +kernel
theorem dX5_takeByNoughts_101 : decode cX5_takeByNoughts 101 = .ok (.getfield 21, 3) := by decide +kernel
theorem dX5_takeByNoughts_104 : decode cX5_takeByNoughts 104 = .ok (.invokevirtual 44, 3) := by decide +kernel
theorem dX5_takeByNoughts_107 : decode cX5_takeByNoughts 107 = .ok (.ifCond .eq 8, 3) := by decide +kernel
theorem dX5_takeByNoughts_110 : decode cX5_takeByNoughts 110 = .ok (.bipush (-6), 2) := by decide +kernel
theorem dX5_takeByNoughts_112 : decode cX5_takeByNoughts 112 = .ok (.goto 10, 3) := by decide +kernel
theorem dX5_takeByNoughts_115 : decode cX5_takeByNoughts 115 = .ok (.iload 5, 2) := by decide +kernel
theorem dX5_takeByNoughts_117 : decode cX5_takeByNoughts 117 = .ok (.iload_n 3, 1) := by decide +kernel
theorem dX5_takeByNoughts_118 : decode cX5_takeByNoughts 118 = .ok (.ishl, 1) := by decide +kernel
theorem dX5_takeByNoughts_119 : decode cX5_takeByNoughts 119 = .ok (.iload 6, 2) := by decide +kernel
theorem dX5_takeByNoughts_121 : decode cX5_takeByNoughts 121 = .ok (.iadd, 1) := by decide +kernel
theorem dX5_takeByNoughts_122 : decode cX5_takeByNoughts 122 = .ok (.ireturn, 1) := by decide +kernel
set_option maxRecDepth 20000 in
theorem ggX5_takeNumber_X5_fail : GoodIn wsX5_takeNumber wsX5_fail := goodIn_r _ [7, 8, 9, 10, 11, 12, 13, 23, 24, 25, 26, 27, 28, 29, 30] (by decide +kernel) (by decide +kernel)
set_option maxRecDepth 20000 in
theorem gX5_takeNumber_X5_fail : GoodIn wsX5_takeNumber (wsV RX5 58 RX5 yX5_fail wsX5_fail) := goodIn_app (goodIn_of _ (by decide +kernel)) ggX5_takeNumber_X5_fail
set_option maxRecDepth 20000 in
theorem ggX5_takeNumber_X0_at : GoodIn wsX5_takeNumber wsX0_at := goodIn_r _ [18, 19, 20, 21, 22] (by decide +kernel) (by decide +kernel)
set_option maxRecDepth 20000 in
theorem gX5_takeNumber_X0_at : GoodIn wsX5_takeNumber (wsV RX5 104 RX0 yX0_at wsX0_at) := goodIn_app (goodIn_of _ (by decide +kernel)) ggX5_takeNumber_X0_at
theorem dX5_takeNumber_0 : decode cX5_takeNumber 0 = .ok (.iload_n 2, 1) := by decide +kernel
theorem dX5_takeNumber_1 : decode cX5_takeNumber 1 = .ok (.aload_n 1, 1) := by decide +kernel
theorem dX5_takeNumber_2 : decode cX5_takeNumber 2 = .ok (.getfield 55, 3) := by decide +kernel
theorem dX5_takeNumber_5 : decode cX5_takeNumber 5 = .ok (.aload_n 0, 1) := by decide +kernel
theorem dX5_takeNumber_6 : decode cX5_takeNumber 6 = .ok (.getfield 29, 3) := by decide +kernel
theorem dX5_takeNumber_9 : decode cX5_takeNumber 9 = .ok (.isub, 1) := by decide +kernel
theorem dX5_takeNumber_10 : decode cX5_takeNumber 10 = .ok (.if_icmp .le 13, 3) := by decide +kernel
theorem dX5_takeNumber_13 : decode cX5_takeNumber 13 = .ok (.aload_n 0, 1) := by decide +kernel
theorem dX5_takeNumber_14 : decode cX5_takeNumber 14 = .ok (.iconst 1, 1) := by decide +kernel
theorem dX5_takeNumber_15 : decode cX5_takeNumber 15 = .ok (.aload_n 1, 1) := by decide +kernel
theorem dX5_takeNumber_16 : decode cX5_takeNumber 16 = .ok (.getfield 55, 3) := by decide +kernel
theorem dX5_takeNumber_19 : decode cX5_takeNumber 19 = .ok (.invokevirtual 58, 3) := by decide +kernel
theorem dX5_takeNumber_22 : decode cX5_takeNumber 22 = .ok (.ireturn, 1) := by decide +kernel
theorem dX5_takeNumber_23 : decode cX5_takeNumber 23 = .ok (.iconst 0, 1) := by decide +kernel
theorem dX5_takeNumber_24 : decode cX5_takeNumber 24 = .ok (.istore_n 3, 1) := by decide +kernel
theorem dX5_takeNumber_25 : decode cX5_takeNumber 25 = .ok (.iconst 0, 1) := by decide +kernel
theorem dX5_takeNumber_26 : decode cX5_takeNumber 26 = .ok (.istore 4, 2) := by decide +kernel
theorem dX5_takeNumber_28 : decode cX5_takeNumber 28 = .ok (.iload 4, 2) := by decide +kernel
theorem dX5_takeNumber_30 : decode cX5_takeNumber 30 = .ok (.iload_n 2, 1) := by decide +kernel
theorem dX5_takeNumber_31 : decode cX5_takeNumber 31 = .ok (.if_icmp .ge 25, 3) := by decide +kernel
theorem dX5_takeNumber_34 : decode cX5_takeNumber 34 = .ok (.iconst 2, 1) := by decide +kernel
theorem dX5_takeNumber_35 : decode cX5_takeNumber 35 = .ok (.iload_n 3, 1) := by decide +kernel
theorem dX5_takeNumber_36 : decode cX5_takeNumber 36 = .ok (.imul, 1) := by decide +kernel
theorem dX5_takeNumber_37 : decode cX5_takeNumber 37 = .ok (.aload_n 1, 1) := by decide +kernel
theorem dX5_takeNumber_38 : decode cX5_takeNumber 38 = .ok (.aload_n 0, 1) := by decide +kernel
theorem dX5_takeNumber_39 : decode cX5_takeNumber 39 = .ok (.getfield 29, 3) := by decide +kernel
theorem dX5_takeNumber_42 : decode cX5_takeNumber 42 = .ok (.iload 4, 2) := by decide +kernel
theorem dX5_takeNumber_44 : decode cX5_takeNumber 44 = .ok (.iadd, 1) := by decide +kernel
theorem dX5_takeNumber_45 : decode cX5_takeNumber 45 = .ok (.invokevirtual 104, 3) := by decide +kernel
theorem dX5_takeNumber_48 : decode cX5_takeNumber 48 = .ok (.iadd, 1) := by decide +kernel
theorem dX5_takeNumber_49 : decode cX5_takeNumber 49 = .ok (.istore_n 3, 1) := by decide +kernel
theorem dX5_takeNumber_50 : decode cX5_takeNumber 50 = .ok (.iinc 4 1, 3) := by decide +kernel
theorem dX5_takeNumber_53 : decode cX5_takeNumber 53 = .ok (.goto (-25), 3) := by decide +kernel
theorem dX5_takeNumber_56 : decode cX5_takeNumber 56 = .ok (.aload_n 0, 1) := by decide +kernel
theorem dX5_takeNumber_57 : decode cX5_takeNumber 57 = .ok (.dup, 1) := by decide +kernel
theorem dX5_takeNumber_58 : decode cX5_takeNumber 58 = .ok (.getfield 29, 3) := by decide +kernel
theorem dX5_takeNumber_61 : decode cX5_takeNumber 61 = .ok (.iload_n 2, 1) := by decide +kernel
theorem dX5_takeNumber_62 : decode cX5_takeNumber 62 = .ok (.iadd, 1) := by decide +kernel
theorem dX5_takeNumber_63 : decode cX5_takeNumber 63 = .ok (.putfield 29, 3) := by decide +kernel
theorem dX5_takeNumber_66 : decode cX5_takeNumber 66 = .ok (.iload_n 3, 1) := by decide +kernel
theorem dX5_takeNumber_67 : decode cX5_takeNumber 67 = .ok (.ireturn, 1) := by decide +kernel
theorem dX5_fail_0 : decode cX5_fail 0 = .ok (.aload_n 0, 1) := by decide +kernel
theorem dX5_fail_1 : decode cX5_fail 1 = .ok (.getfield 21, 3) := by decide +kernel
theorem dX5_fail_4 : decode cX5_fail 4 = .ok (.iload_n 1, 1) := by decide +kernel
theorem dX5_fail_5 : decode cX5_fail 5 = .ok (.putfield 110, 3) := by decide +kernel
theorem dX5_fail_8 : decode cX5_fail 8 = .ok (.aload_n 0, 1) := by decide +kernel
theorem dX5_fail_9 : decode cX5_fail 9 = .ok (.getfield 21, 3) := by decide +kernel
theorem dX5_fail_12 : decode cX5_fail 12 = .ok (.iload_n 2, 1) := by decide +kernel
theorem dX5_fail_13 : decode cX5_fail 13 = .ok (.putfield 113, 3) := by decide +kernel
theorem dX5_fail_16 : decode cX5_fail 16 = .ok (.aload_n 0, 1) := by decide +kernel
theorem dX5_fail_17 : decode cX5_fail 17 = .ok (.getfield 21, 3) := by decide +kernel
theorem dX5_fail_20 : decode cX5_fail 20 = .ok (.aload_n 0, 1) := by decide +kernel
theorem dX5_fail_21 : decode cX5_fail 21 = .ok (.getfield 12, 3) := by decide +kernel
theorem dX5_fail_24 : decode cX5_fail 24 = .ok (.getfield 25, 3) := by decide +kernel
theorem dX5_fail_27 : decode cX5_fail 27 = .ok (.putfield 116, 3) := by decide +kernel
theorem dX5_fail_30 : decode cX5_fail 30 = .ok (.bipush (-6), 2) := by decide +kernel
theorem dX5_fail_32 : decode cX5_fail 32 = .ok (.ireturn, 1) := by decide +kernel
theorem dX6_init_0 : decode cX6_init 0 = .ok (.aload_n 0, 1) := by decide +kernel
theorem dX6_init_1 : decode cX6_init 1 = .ok (.invokespecial 3, 3) := by decide +kernel
theorem dX6_init_4 : decode cX6_init 4 = .ok (.aload_n 0, 1) := by decide +kernel
theorem dX6_init_5 : decode cX6_init 5 = .ok (.bipush 64, 2) := by decide +kernel
theorem dX6_init_7 : decode cX6_init 7 = .ok (.newarray .int, 2) := by decide +kernel
theorem dX6_init_9 : decode cX6_init 9 = .ok (.putfield 9, 3) := by decide +kernel
theorem dX6_init_12 : decode cX6_init 12 = .ok (.return_, 1) := by decide +kernel
theorem dX6_has_0 : decode cX6_has 0 = .ok (.iload_n 1, 1) := by decide +kernel
theorem dX6_has_1 : decode cX6_has 1 = .ok (.ifCond .lt 15, 3) := by decide +kernel
theorem dX6_has_4 : decode cX6_has 4 = .ok (.iload_n 1, 1) := by decide +kernel
theorem dX6_has_5 : decode cX6_has 5 = .ok (.aload_n 0, 1) := by decide +kernel
theorem dX6_has_6 : decode cX6_has 6 = .ok (.getfield 15, 3) := by decide +kernel
theorem dX6_has_9 : decode cX6_has 9 = .ok (.if_icmp .ge 7, 3) := by decide +kernel
theorem dX6_has_12 : decode cX6_has 12 = .ok (.iconst 1, 1) := by decide +kernel
theorem dX6_has_13 : decode cX6_has 13 = .ok (.goto 4, 3) := by decide +kernel
theorem dX6_has_16 : decode cX6_has 16 = .ok (.iconst 0, 1) := by decide +kernel
theorem dX6_has_17 : decode cX6_has 17 = .ok (.ireturn, 1) := by decide +kernel
theorem dX6_at_0 : decode cX6_at 0 = .ok (.iload_n 1, 1) := by decide +kernel
theorem dX6_at_1 : decode cX6_at 1 = .ok (.ifCond .lt 20, 3) := by decide +kernel
theorem dX6_at_4 : decode cX6_at 4 = .ok (.iload_n 1, 1) := by decide +kernel
theorem dX6_at_5 : decode cX6_at 5 = .ok (.aload_n 0, 1) := by decide +kernel
theorem dX6_at_6 : decode cX6_at 6 = .ok (.getfield 15, 3) := by decide +kernel
theorem dX6_at_9 : decode cX6_at 9 = .ok (.if_icmp .ge 12, 3) := by decide +kernel
theorem dX6_at_12 : decode cX6_at 12 = .ok (.aload_n 0, 1) := by decide +kernel
theorem dX6_at_13 : decode cX6_at 13 = .ok (.getfield 9, 3) := by decide +kernel
theorem dX6_at_16 : decode cX6_at 16 = .ok (.iload_n 1, 1) := by decide +kernel
theorem dX6_at_17 : decode cX6_at 17 = .ok (.iaload, 1) := by decide +kernel
theorem dX6_at_18 : decode cX6_at 18 = .ok (.goto 5, 3) := by decide +kernel
theorem dX6_at_21 : decode cX6_at 21 = .ok (.bipush (-6), 2) := by decide +kernel
theorem dX6_at_23 : decode cX6_at 23 = .ok (.ireturn, 1) := by decide +kernel
theorem dX6_append_0 : decode cX6_append 0 = .ok (.aload_n 0, 1) := by decide +kernel
theorem dX6_append_1 : decode cX6_append 1 = .ok (.getfield 15, 3) := by decide +kernel
theorem dX6_append_4 : decode cX6_append 4 = .ok (.bipush 64, 2) := by decide +kernel
theorem dX6_append_6 : decode cX6_append 6 = .ok (.if_icmp .ge 23, 3) := by decide +kernel
theorem dX6_append_9 : decode cX6_append 9 = .ok (.aload_n 0, 1) := by decide +kernel
theorem dX6_append_10 : decode cX6_append 10 = .ok (.getfield 9, 3) := by decide +kernel
theorem dX6_append_13 : decode cX6_append 13 = .ok (.aload_n 0, 1) := by decide +kernel
theorem dX6_append_14 : decode cX6_append 14 = .ok (.getfield 15, 3) := by decide +kernel
theorem dX6_append_17 : decode cX6_append 17 = .ok (.iload_n 1, 1) := by decide +kernel
theorem dX6_append_18 : decode cX6_append 18 = .ok (.iastore, 1) := by decide +kernel
theorem dX6_append_19 : decode cX6_append 19 = .ok (.aload_n 0, 1) := by decide +kernel
theorem dX6_append_20 : decode cX6_append 20 = .ok (.dup, 1) := by decide +kernel
theorem dX6_append_21 : decode cX6_append 21 = .ok (.getfield 15, 3) := by decide +kernel
theorem dX6_append_24 : decode cX6_append 24 = .ok (.iconst 1, 1) := by decide +kernel
theorem dX6_append_25 : decode cX6_append 25 = .ok (.iadd, 1) := by decide +kernel
theorem dX6_append_26 : decode cX6_append 26 = .ok (.putfield 15, 3) := by decide +kernel
theorem dX6_append_29 : decode cX6_append 29 = .ok (.return_, 1) := by decide +kernel
theorem dX6_highest_0 : decode cX6_highest 0 = .ok (.iconst 0, 1) := by decide +kernel
theorem dX6_highest_1 : decode cX6_highest 1 = .ok (.istore_n 1, 1) := by decide +kernel
theorem dX6_highest_2 : decode cX6_highest 2 = .ok (.iconst 0, 1) := by decide +kernel
theorem dX6_highest_3 : decode cX6_highest 3 = .ok (.istore_n 2, 1) := by decide +kernel
theorem dX6_highest_4 : decode cX6_highest 4 = .ok (.iload_n 2, 1) := by decide +kernel
theorem dX6_highest_5 : decode cX6_highest 5 = .ok (.aload_n 0, 1) := by decide +kernel
theorem dX6_highest_6 : decode cX6_highest 6 = .ok (.getfield 15, 3) := by decide +kernel
theorem dX6_highest_9 : decode cX6_highest 9 = .ok (.if_icmp .ge 20, 3) := by decide +kernel
theorem dX6_highest_12 : decode cX6_highest 12 = .ok (.iload_n 1, 1) := by decide +kernel
theorem dX6_highest_13 : decode cX6_highest 13 = .ok (.aload_n 0, 1) := by decide +kernel
theorem dX6_highest_14 : decode cX6_highest 14 = .ok (.getfield 9, 3) := by decide +kernel
theorem dX6_highest_17 : decode cX6_highest 17 = .ok (.iload_n 2, 1) := by decide +kernel
theorem dX6_highest_18 : decode cX6_highest 18 = .ok (.iaload, 1) := by decide +kernel
theorem dX6_highest_19 : decode cX6_highest 19 = .ok (.invokestatic 19, 3) := by decide +kernel
theorem dX6_highest_22 : decode cX6_highest 22 = .ok (.istore_n 1, 1) := by decide +kernel
theorem dX6_highest_23 : decode cX6_highest 23 = .ok (.iinc 2 1, 3) := by decide +kernel
theorem dX6_highest_26 : decode cX6_highest 26 = .ok (.goto (-22), 3) := by decide +kernel
theorem dX6_highest_29 : decode cX6_highest 29 = .ok (.iload_n 1, 1) := by decide +kernel
theorem dX6_highest_30 : decode cX6_highest 30 = .ok (.ireturn, 1) := by decide +kernel
theorem dX6_takeOver_0 : decode cX6_takeOver 0 = .ok (.aload_n 1, 1) := by decide +kernel
theorem dX6_takeOver_1 : decode cX6_takeOver 1 = .ok (.getfield 9, 3) := by decide +kernel
theorem dX6_takeOver_4 : decode cX6_takeOver 4 = .ok (.iconst 0, 1) := by decide +kernel
theorem dX6_takeOver_5 : decode cX6_takeOver 5 = .ok (.aload_n 0, 1) := by decide +kernel
theorem dX6_takeOver_6 : decode cX6_takeOver 6 = .ok (.getfield 9, 3) := by decide +kernel
theorem dX6_takeOver_9 : decode cX6_takeOver 9 = .ok (.iconst 0, 1) := by decide +kernel
theorem dX6_takeOver_10 : decode cX6_takeOver 10 = .ok (.aload_n 1, 1) := by decide +kernel
theorem dX6_takeOver_11 : decode cX6_takeOver 11 = .ok (.getfield 15, 3) := by decide +kernel
theorem dX6_takeOver_14 : decode cX6_takeOver 14 = .ok (.invokestatic 25, 3) := by decide +kernel
theorem dX6_takeOver_17 : decode cX6_takeOver 17 = .ok (.aload_n 0, 1) := by decide +kernel
theorem dX6_takeOver_18 : decode cX6_takeOver 18 = .ok (.aload_n 1, 1) := by decide +kernel
theorem dX6_takeOver_19 : decode cX6_takeOver 19 = .ok (.getfield 15, 3) := by decide +kernel
theorem dX6_takeOver_22 : decode cX6_takeOver 22 = .ok (.putfield 15, 3) := by decide +kernel
theorem dX6_takeOver_25 : decode cX6_takeOver 25 = .ok (.return_, 1) := by decide +kernel
theorem dX7_init_0 : decode cX7_init 0 = .ok (.aload_n 0, 1) := by decide +kernel
theorem dX7_init_1 : decode cX7_init 1 = .ok (.invokespecial 1, 3) := by decide +kernel
theorem dX7_init_4 : decode cX7_init 4 = .ok (.aload_n 0, 1) := by decide +kernel
theorem dX7_init_5 : decode cX7_init 5 = .ok (.bipush 8, 2) := by decide +kernel
theorem dX7_init_7 : decode cX7_init 7 = .ok (.putfield 7, 3) := by decide +kernel
theorem dX7_init_10 : decode cX7_init 10 = .ok (.aload_n 0, 1) := by decide +kernel
theorem dX7_init_11 : decode cX7_init 11 = .ok (.bipush 8, 2) := by decide +kernel
theorem dX7_init_13 : decode cX7_init 13 = .ok (.putfield 13, 3) := by decide +kernel
theorem dX7_init_16 : decode cX7_init 16 = .ok (.aload_n 0, 1) := by decide +kernel
theorem dX7_init_17 : decode cX7_init 17 = .ok (.iconst 4, 1) := by decide +kernel
theorem dX7_init_18 : decode cX7_init 18 = .ok (.putfield 16, 3) := by decide +kernel
theorem dX7_init_21 : decode cX7_init 21 = .ok (.return_, 1) := by decide +kernel
set_option maxRecDepth 20000 in
theorem ggX7_top_X8_topOf : GoodIn wsX7_top wsX8_topOf := goodIn_r _ [4] (by decide +kernel) (by decide +kernel)
set_option maxRecDepth 20000 in
theorem gX7_top_X8_topOf_n19 : GoodIn wsX7_top (wsX8_topOf) := ggX7_top_X8_topOf
theorem dX7_top_0 : decode cX7_top 0 = .ok (.aload_n 0, 1) := by decide +kernel
theorem dX7_top_1 : decode cX7_top 1 = .ok (.getfield 7, 3) := by decide +kernel
theorem dX7_top_4 : decode cX7_top 4 = .ok (.invokestatic 19, 3) := by decide +kernel
theorem dX7_top_7 : decode cX7_top 7 = .ok (.ireturn, 1) := by decide +kernel
theorem dX7_segmentSize_0 : decode cX7_segmentSize 0 = .ok (.aload_n 0, 1) := by decide +kernel
theorem dX7_segmentSize_1 : decode cX7_segmentSize 1 = .ok (.getfield 13, 3) := by decide +kernel
theorem dX7_segmentSize_4 : decode cX7_segmentSize 4 = .ok (.aload_n 0, 1) := by decide +kernel
theorem dX7_segmentSize_5 : decode cX7_segmentSize 5 = .ok (.getfield 16, 3) := by decide +kernel
theorem dX7_segmentSize_8 : decode cX7_segmentSize 8 = .ok (.imul, 1) := by decide +kernel
theorem dX7_segmentSize_9 : decode cX7_segmentSize 9 = .ok (.ireturn, 1) := by decide +kernel
theorem dX7_isBare_0 : decode cX7_isBare 0 = .ok (.aload_n 0, 1) := by decide +kernel
theorem dX7_isBare_1 : decode cX7_isBare 1 = .ok (.getfield 13, 3) := by decide +kernel
theorem dX7_isBare_4 : decode cX7_isBare 4 = .ok (.aload_n 0, 1) := by decide +kernel
theorem dX7_isBare_5 : decode cX7_isBare 5 = .ok (.getfield 16, 3) := by decide +kernel
theorem dX7_isBare_8 : decode cX7_isBare 8 = .ok (.imul, 1) := by decide +kernel
theorem dX7_isBare_9 : decode cX7_isBare 9 = .ok (.istore_n 2, 1) := by decide +kernel
theorem dX7_isBare_10 : decode cX7_isBare 10 = .ok (.iload_n 2, 1) := by decide +kernel
theorem dX7_isBare_11 : decode cX7_isBare 11 = .ok (.iconst 1, 1) := by decide +kernel
theorem dX7_isBare_12 : decode cX7_isBare 12 = .ok (.if_icmp .lt 9, 3) := by decide +kernel
theorem dX7_isBare_15 : decode cX7_isBare 15 = .ok (.iload_n 1, 1) := by decide +kernel
theorem dX7_isBare_16 : decode cX7_isBare 16 = .ok (.iload_n 2, 1) := by decide +kernel
theorem dX7_isBare_17 : decode cX7_isBare 17 = .ok (.irem, 1) := by decide +kernel
theorem dX7_isBare_18 : decode cX7_isBare 18 = .ok (.ifCond .ne 7, 3) := by decide +kernel
theorem dX7_isBare_21 : decode cX7_isBare 21 = .ok (.iconst 1, 1) := by decide +kernel
theorem dX7_isBare_22 : decode cX7_isBare 22 = .ok (.goto 4, 3) := by decide +kernel
theorem dX7_isBare_25 : decode cX7_isBare 25 = .ok (.iconst 0, 1) := by decide +kernel
theorem dX7_isBare_26 : decode cX7_isBare 26 = .ok (.ireturn, 1) := by decide +kernel
set_option maxRecDepth 20000 in
theorem ggX7_blockWith_X8_quotient : GoodIn wsX7_blockWith wsX8_quotient := goodIn_r _ [4] (by decide +kernel) (by decide +kernel)
set_option maxRecDepth 20000 in
theorem gX7_blockWith_X8_quotient_n25 : GoodIn wsX7_blockWith (wsX8_quotient) := ggX7_blockWith_X8_quotient
theorem dX7_blockWith_0 : decode cX7_blockWith 0 = .ok (.iload_n 1, 1) := by decide +kernel
theorem dX7_blockWith_1 : decode cX7_blockWith 1 = .ok (.aload_n 0, 1) := by decide +kernel
theorem dX7_blockWith_2 : decode cX7_blockWith 2 = .ok (.getfield 13, 3) := by decide +kernel
theorem dX7_blockWith_5 : decode cX7_blockWith 5 = .ok (.invokestatic 25, 3) := by decide +kernel
theorem dX7_blockWith_8 : decode cX7_blockWith 8 = .ok (.ireturn, 1) := by decide +kernel
theorem dX7_endOfBlock_0 : decode cX7_endOfBlock 0 = .ok (.iload_n 2, 1) := by decide +kernel
theorem dX7_endOfBlock_1 : decode cX7_endOfBlock 1 = .ok (.iload_n 1, 1) := by decide +kernel
theorem dX7_endOfBlock_2 : decode cX7_endOfBlock 2 = .ok (.iconst 1, 1) := by decide +kernel
theorem dX7_endOfBlock_3 : decode cX7_endOfBlock 3 = .ok (.iadd, 1) := by decide +kernel
theorem dX7_endOfBlock_4 : decode cX7_endOfBlock 4 = .ok (.aload_n 0, 1) := by decide +kernel
theorem dX7_endOfBlock_5 : decode cX7_endOfBlock 5 = .ok (.getfield 13, 3) := by decide +kernel
theorem dX7_endOfBlock_8 : decode cX7_endOfBlock 8 = .ok (.imul, 1) := by decide +kernel
theorem dX7_endOfBlock_9 : decode cX7_endOfBlock 9 = .ok (.invokestatic 29, 3) := by decide +kernel
theorem dX7_endOfBlock_12 : decode cX7_endOfBlock 12 = .ok (.ireturn, 1) := by decide +kernel
theorem dX7_value_0 : decode cX7_value 0 = .ok (.iload_n 1, 1) := by decide +kernel
theorem dX7_value_1 : decode cX7_value 1 = .ok (.ifCond .ne 8, 3) := by decide +kernel
theorem dX7_value_4 : decode cX7_value 4 = .ok (.aload_n 0, 1) := by decide +kernel
theorem dX7_value_5 : decode cX7_value 5 = .ok (.getfield 7, 3) := by decide +kernel
theorem dX7_value_8 : decode cX7_value 8 = .ok (.ireturn, 1) := by decide +kernel
theorem dX7_value_9 : decode cX7_value 9 = .ok (.iload_n 1, 1) := by decide +kernel
theorem dX7_value_10 : decode cX7_value 10 = .ok (.iconst 1, 1) := by decide +kernel
theorem dX7_value_11 : decode cX7_value 11 = .ok (.if_icmp .ne 10, 3) := by decide +kernel
theorem dX7_value_14 : decode cX7_value 14 = .ok (.aload_n 0, 1) := by decide +kernel
theorem dX7_value_15 : decode cX7_value 15 = .ok (.getfield 13, 3) := by decide +kernel
theorem dX7_value_18 : decode cX7_value 18 = .ok (.goto 7, 3) := by decide +kernel
theorem dX7_value_21 : decode cX7_value 21 = .ok (.aload_n 0, 1) := by decide +kernel
theorem dX7_value_22 : decode cX7_value 22 = .ok (.getfield 16, 3) := by decide +kernel
theorem dX7_value_25 : decode cX7_value 25 = .ok (.ireturn, 1) := by decide +kernel
theorem dX7_change_0 : decode cX7_change 0 = .ok (.iload_n 1, 1) := by decide +kernel
theorem dX7_change_1 : decode cX7_change 1 = .ok (.ifCond .ne 11, 3) := by decide +kernel
theorem dX7_change_4 : decode cX7_change 4 = .ok (.aload_n 0, 1) := by decide +kernel
theorem dX7_change_5 : decode cX7_change 5 = .ok (.iload_n 2, 1) := by decide +kernel
theorem dX7_change_6 : decode cX7_change 6 = .ok (.putfield 7, 3) := by decide +kernel
theorem dX7_change_9 : decode cX7_change 9 = .ok (.goto 21, 3) := by decide +kernel
theorem dX7_change_12 : decode cX7_change 12 = .ok (.iload_n 1, 1) := by decide +kernel
theorem dX7_change_13 : decode cX7_change 13 = .ok (.iconst 1, 1) := by decide +kernel
theorem dX7_change_14 : decode cX7_change 14 = .ok (.if_icmp .ne 11, 3) := by decide +kernel
theorem dX7_change_17 : decode cX7_change 17 = .ok (.aload_n 0, 1) := by decide +kernel
theorem dX7_change_18 : decode cX7_change 18 = .ok (.iload_n 2, 1) := by decide +kernel
theorem dX7_change_19 : decode cX7_change 19 = .ok (.putfield 13, 3) := by decide +kernel
theorem dX7_change_22 : decode cX7_change 22 = .ok (.goto 8, 3) := by decide +kernel
theorem dX7_change_25 : decode cX7_change 25 = .ok (.aload_n 0, 1) := by decide +kernel
theorem dX7_change_26 : decode cX7_change 26 = .ok (.iload_n 2, 1) := by decide +kernel
theorem dX7_change_27 : decode cX7_change 27 = .ok (.putfield 16, 3) := by decide +kernel
theorem dX7_change_30 : decode cX7_change 30 = .ok (.return_, 1) := by decide +kernel
theorem dX7_takeOver_0 : decode cX7_takeOver 0 = .ok (.aload_n 0, 1) := by decide +kernel
theorem dX7_takeOver_1 : decode cX7_takeOver 1 = .ok (.aload_n 1, 1) := by decide +kernel
theorem dX7_takeOver_2 : decode cX7_takeOver 2 = .ok (.getfield 7, 3) := by decide +kernel
theorem dX7_takeOver_5 : decode cX7_takeOver 5 = .ok (.putfield 7, 3) := by decide +kernel
theorem dX7_takeOver_8 : decode cX7_takeOver 8 = .ok (.aload_n 0, 1) := by decide +kernel
theorem dX7_takeOver_9 : decode cX7_takeOver 9 = .ok (.aload_n 1, 1) := by decide +kernel
theorem dX7_takeOver_10 : decode cX7_takeOver 10 = .ok (.getfield 13, 3) := by decide +kernel
theorem dX7_takeOver_13 : decode cX7_takeOver 13 = .ok (.putfield 13, 3) := by decide +kernel
theorem dX7_takeOver_16 : decode cX7_takeOver 16 = .ok (.aload_n 0, 1) := by decide +kernel
theorem dX7_takeOver_17 : decode cX7_takeOver 17 = .ok (.aload_n 1, 1) := by decide +kernel
theorem dX7_takeOver_18 : decode cX7_takeOver 18 = .ok (.getfield 16, 3) := by decide +kernel
theorem dX7_takeOver_21 : decode cX7_takeOver 21 = .ok (.putfield 16, 3) := by decide +kernel
theorem dX7_takeOver_24 : decode cX7_takeOver 24 = .ok (.return_, 1) := by decide +kernel
end
section
set_option maxRecDepth 20000 in
theorem ggX8_init_X3_init : GoodIn wsX8_init wsX3_init := goodIn_r _ [18, 19, 2, 3, 20, 21, 22, 23, 24, 25, 26, 27, 28, 29, 30, 31, 32, 33, 34, 35, 36, 37, 38, 39, 40, 41, 42, 43, 44, 45, 46, 47, 48, 49, 50, 51, 52, 53, 54, 55, 56, 98, 99, 100, 80, 81, 82, 83, 101, 102, 103, 104, 105, 106, 107] (by decide +kernel) (by decide +kernel)
set_option maxRecDepth 20000 in
theorem gX8_init_X3_init_n9 : GoodIn wsX8_init (wsX3_init) := ggX8_init_X3_init
set_option maxRecDepth 20000 in
theorem ggX8_init_X4_init : GoodIn wsX8_init wsX4_init := goodIn_r _ [58, 59, 2, 3, 45, 60, 61, 62, 63, 29, 30, 64, 65, 66, 67, 68, 47, 48, 49, 50, 69, 70, 71, 72, 89, 90, 91, 92, 93, 94, 103, 104, 108, 109, 110, 111, 112, 113] (by decide +kernel) (by decide +kernel)
set_option maxRecDepth 20000 in
theorem gX8_init_X4_init_n22 : GoodIn wsX8_init (wsX4_init) := ggX8_init_X4_init
set_option maxRecDepth 20000 in
theorem ggX8_init_X5_init : GoodIn wsX8_init wsX5_init := goodIn_r _ [74, 75, 2, 3, 76, 25, 26, 77, 78, 33, 34, 79, 42, 43, 44, 45, 46, 51, 52, 53, 54, 55, 56, 101, 102, 95, 96, 97, 105, 106, 107] (by decide +kernel) (by decide +kernel)
set_option maxRecDepth 20000 in
theorem gX8_init_X5_init_n29 : GoodIn wsX8_init (wsX5_init) := ggX8_init_X5_init
theorem dX8_init_0 : decode cX8_init 0 = .ok (.aload_n 0, 1) := by decide +kernel
theorem dX8_init_1 : decode cX8_init 1 = .ok (.invokespecial 1, 3) := by decide +kernel
theorem dX8_init_4 : decode cX8_init 4 = .ok (.aload_n 0, 1) := by decide +kernel
theorem dX8_init_5 : decode cX8_init 5 = .ok (.new 7, 3) := by decide +kernel
theorem dX8_init_8 : decode cX8_init 8 = .ok (.dup, 1) := by decide +kernel
theorem dX8_init_9 : decode cX8_init 9 = .ok (.invokespecial 9, 3) := by decide +kernel
theorem dX8_init_12 : decode cX8_init 12 = .ok (.putfield 10, 3) := by decide +kernel
theorem dX8_init_15 : decode cX8_init 15 = .ok (.aload_n 0, 1) := by decide +kernel
theorem dX8_init_16 : decode cX8_init 16 = .ok (.iconst 2, 1) := by decide +kernel
theorem dX8_init_17 : decode cX8_init 17 = .ok (.anewarray 7, 3) := by decide +kernel
theorem dX8_init_20 : decode cX8_init 20 = .ok (.dup, 1) := by decide +kernel
theorem dX8_init_21 : decode cX8_init 21 = .ok (.iconst 0, 1) := by decide +kernel
theorem dX8_init_22 : decode cX8_init 22 = .ok (.new 7, 3) := by decide +kernel
theorem dX8_init_25 : decode cX8_init 25 = .ok (.dup, 1) := by decide +kernel
theorem dX8_init_26 : decode cX8_init 26 = .ok (.invokespecial 9, 3) := by decide +kernel
theorem dX8_init_29 : decode cX8_init 29 = .ok (.aastore, 1) := by decide +kernel
theorem dX8_init_30 : decode cX8_init 30 = .ok (.dup, 1) := by decide +kernel
theorem dX8_init_31 : decode cX8_init 31 = .ok (.iconst 1, 1) := by decide +kernel
theorem dX8_init_32 : decode cX8_init 32 = .ok (.new 7, 3) := by decide +kernel
theorem dX8_init_35 : decode cX8_init 35 = .ok (.dup, 1) := by decide +kernel
theorem dX8_init_36 : decode cX8_init 36 = .ok (.invokespecial 9, 3) := by decide +kernel
theorem dX8_init_39 : decode cX8_init 39 = .ok (.aastore, 1) := by decide +kernel
theorem dX8_init_40 : decode cX8_init 40 = .ok (.putfield 16, 3) := by decide +kernel
theorem dX8_init_43 : decode cX8_init 43 = .ok (.aload_n 0, 1) := by decide +kernel
theorem dX8_init_44 : decode cX8_init 44 = .ok (.new 20, 3) := by decide +kernel
theorem dX8_init_47 : decode cX8_init 47 = .ok (.dup, 1) := by decide +kernel
theorem dX8_init_48 : decode cX8_init 48 = .ok (.invokespecial 22, 3) := by decide +kernel
theorem dX8_init_51 : decode cX8_init 51 = .ok (.putfield 23, 3) := by decide +kernel
theorem dX8_init_54 : decode cX8_init 54 = .ok (.aload_n 0, 1) := by decide +kernel
theorem dX8_init_55 : decode cX8_init 55 = .ok (.new 27, 3) := by decide +kernel
theorem dX8_init_58 : decode cX8_init 58 = .ok (.dup, 1) := by decide +kernel
theorem dX8_init_59 : decode cX8_init 59 = .ok (.invokespecial 29, 3) := by decide +kernel
theorem dX8_init_62 : decode cX8_init 62 = .ok (.putfield 30, 3) := by decide +kernel
theorem dX8_init_65 : decode cX8_init 65 = .ok (.return_, 1) := by decide +kernel
set_option maxRecDepth 20000 in
theorem ggX8_rule_X6_highest : GoodIn wsX8_rule wsX6_highest := goodIn_r _ [9, 10, 11, 12, 13, 14, 15, 50, 51] (by decide +kernel) (by decide +kernel)
set_option maxRecDepth 20000 in
theorem gX8_rule_X6_highest : GoodIn wsX8_rule (wsV RX8 38 RX6 yX6_highest wsX6_highest) := goodIn_app (goodIn_of _ (by decide +kernel)) ggX8_rule_X6_highest
set_option maxRecDepth 20000 in
theorem ggX8_rule_X8_topOf : GoodIn wsX8_rule wsX8_topOf := goodIn_r _ [19] (by decide +kernel) (by decide +kernel)
set_option maxRecDepth 20000 in
theorem gX8_rule_X8_topOf : GoodIn wsX8_rule (va_wsS RX8 44 yX8_topOf wsX8_topOf) := goodIn_app (goodIn_of _ (by decide +kernel)) ggX8_rule_X8_topOf
set_option maxRecDepth 20000 in
theorem ggX8_rule_X7_value : GoodIn wsX8_rule wsX7_value := goodIn_r _ [24, 25, 26, 27, 52, 53, 54] (by decide +kernel) (by decide +kernel)
set_option maxRecDepth 20000 in
theorem gX8_rule_X7_value : GoodIn wsX8_rule (wsV RX8 52 RX7 yX7_value wsX7_value) := goodIn_app (goodIn_of _ (by decide +kernel)) ggX8_rule_X7_value
set_option maxRecDepth 20000 in
theorem ggX8_rule_X7_change : GoodIn wsX8_rule wsX7_change := goodIn_r _ [31, 25, 26, 27, 52, 53, 54] (by decide +kernel) (by decide +kernel)
set_option maxRecDepth 20000 in
theorem gX8_rule_X7_change : GoodIn wsX8_rule (wsV RX8 57 RX7 yX7_change wsX7_change) := goodIn_app (goodIn_of _ (by decide +kernel)) ggX8_rule_X7_change
set_option maxRecDepth 20000 in
theorem ggX8_rule_X4_keepOnly : GoodIn wsX8_rule wsX4_keepOnly := goodIn_r _ [36, 37, 38, 39, 40, 55, 56, 57, 58, 59, 60, 61, 62] (by decide +kernel) (by decide +kernel)
set_option maxRecDepth 20000 in
theorem gX8_rule_X4_keepOnly : GoodIn wsX8_rule (wsV RX8 61 RX4 yX4_keepOnly wsX4_keepOnly) := goodIn_app (goodIn_of _ (by decide +kernel)) ggX8_rule_X4_keepOnly
theorem dX8_rule_0 : decode cX8_rule 0 = .ok (.iload_n 1, 1) := by decide +kernel
theorem dX8_rule_1 : decode cX8_rule 1 = .ok (.ifCond .lt 8, 3) := by decide +kernel
theorem dX8_rule_4 : decode cX8_rule 4 = .ok (.iload_n 1, 1) := by decide +kernel
theorem dX8_rule_5 : decode cX8_rule 5 = .ok (.iconst 2, 1) := by decide +kernel
theorem dX8_rule_6 : decode cX8_rule 6 = .ok (.if_icmp .le 6, 3) := by decide +kernel
theorem dX8_rule_9 : decode cX8_rule 9 = .ok (.bipush (-2), 2) := by decide +kernel
theorem dX8_rule_11 : decode cX8_rule 11 = .ok (.ireturn, 1) := by decide +kernel
theorem dX8_rule_12 : decode cX8_rule 12 = .ok (.iload_n 1, 1) := by decide +kernel
theorem dX8_rule_13 : decode cX8_rule 13 = .ok (.ifCond .ne 7, 3) := by decide +kernel
theorem dX8_rule_16 : decode cX8_rule 16 = .ok (.iconst 2, 1) := by decide +kernel
theorem dX8_rule_17 : decode cX8_rule 17 = .ok (.goto 4, 3) := by decide +kernel
theorem dX8_rule_20 : decode cX8_rule 20 = .ok (.iconst 1, 1) := by decide +kernel
theorem dX8_rule_21 : decode cX8_rule 21 = .ok (.istore_n 3, 1) := by decide +kernel
theorem dX8_rule_22 : decode cX8_rule 22 = .ok (.iload_n 2, 1) := by decide +kernel
theorem dX8_rule_23 : decode cX8_rule 23 = .ok (.iload_n 3, 1) := by decide +kernel
theorem dX8_rule_24 : decode cX8_rule 24 = .ok (.if_icmp .lt 9, 3) := by decide +kernel
theorem dX8_rule_27 : decode cX8_rule 27 = .ok (.iload_n 2, 1) := by decide +kernel
theorem dX8_rule_28 : decode cX8_rule 28 = .ok (.bipush 8, 2) := by decide +kernel
theorem dX8_rule_30 : decode cX8_rule 30 = .ok (.if_icmp .le 6, 3) := by decide +kernel
theorem dX8_rule_33 : decode cX8_rule 33 = .ok (.bipush (-2), 2) := by decide +kernel
theorem dX8_rule_35 : decode cX8_rule 35 = .ok (.ireturn, 1) := by decide +kernel
theorem dX8_rule_36 : decode cX8_rule 36 = .ok (.iload_n 1, 1) := by decide +kernel
theorem dX8_rule_37 : decode cX8_rule 37 = .ok (.ifCond .ne 23, 3) := by decide +kernel
theorem dX8_rule_40 : decode cX8_rule 40 = .ok (.aload_n 0, 1) := by decide +kernel
theorem dX8_rule_41 : decode cX8_rule 41 = .ok (.getfield 10, 3) := by decide +kernel
theorem dX8_rule_44 : decode cX8_rule 44 = .ok (.getfield 34, 3) := by decide +kernel
theorem dX8_rule_47 : decode cX8_rule 47 = .ok (.invokevirtual 38, 3) := by decide +kernel
theorem dX8_rule_50 : decode cX8_rule 50 = .ok (.iload_n 2, 1) := by decide +kernel
theorem dX8_rule_51 : decode cX8_rule 51 = .ok (.invokestatic 44, 3) := by decide +kernel
theorem dX8_rule_54 : decode cX8_rule 54 = .ok (.if_icmp .le 6, 3) := by decide +kernel
theorem dX8_rule_57 : decode cX8_rule 57 = .ok (.bipush (-3), 2) := by decide +kernel
theorem dX8_rule_59 : decode cX8_rule 59 = .ok (.ireturn, 1) := by decide +kernel
theorem dX8_rule_60 : decode cX8_rule 60 = .ok (.aload_n 0, 1) := by decide +kernel
theorem dX8_rule_61 : decode cX8_rule 61 = .ok (.getfield 10, 3) := by decide +kernel
theorem dX8_rule_64 : decode cX8_rule 64 = .ok (.getfield 48, 3) := by decide +kernel
theorem dX8_rule_67 : decode cX8_rule 67 = .ok (.iload_n 1, 1) := by decide +kernel
theorem dX8_rule_68 : decode cX8_rule 68 = .ok (.invokevirtual 52, 3) := by decide +kernel
theorem dX8_rule_71 : decode cX8_rule 71 = .ok (.istore 4, 2) := by decide +kernel
theorem dX8_rule_73 : decode cX8_rule 73 = .ok (.aload_n 0, 1) := by decide +kernel
theorem dX8_rule_74 : decode cX8_rule 74 = .ok (.getfield 10, 3) := by decide +kernel
theorem dX8_rule_77 : decode cX8_rule 77 = .ok (.getfield 48, 3) := by decide +kernel
theorem dX8_rule_80 : decode cX8_rule 80 = .ok (.iload_n 1, 1) := by decide +kernel
theorem dX8_rule_81 : decode cX8_rule 81 = .ok (.iload_n 2, 1) := by decide +kernel
theorem dX8_rule_82 : decode cX8_rule 82 = .ok (.invokevirtual 57, 3) := by decide +kernel
theorem dX8_rule_85 : decode cX8_rule 85 = .ok (.aload_n 0, 1) := by decide +kernel
theorem dX8_rule_86 : decode cX8_rule 86 = .ok (.getfield 23, 3) := by decide +kernel
theorem dX8_rule_89 : decode cX8_rule 89 = .ok (.iconst 0, 1) := by decide +kernel
theorem dX8_rule_90 : decode cX8_rule 90 = .ok (.invokevirtual 61, 3) := by decide +kernel
theorem dX8_rule_93 : decode cX8_rule 93 = .ok (.iload 4, 2) := by decide +kernel
theorem dX8_rule_95 : decode cX8_rule 95 = .ok (.ireturn, 1) := by decide +kernel
set_option maxRecDepth 20000 in
theorem ggX8_add_X7_top : GoodIn wsX8_add wsX7_top := goodIn_r _ [10, 11, 12, 13, 14, 49, 50, 51] (by decide +kernel) (by decide +kernel)
set_option maxRecDepth 20000 in
theorem gX8_add_X7_top : GoodIn wsX8_add (wsV RX8 65 RX7 yX7_top wsX7_top) := goodIn_app (goodIn_of _ (by decide +kernel)) ggX8_add_X7_top
set_option maxRecDepth 20000 in
theorem ggX8_add_X7_blockWith : GoodIn wsX8_add wsX7_blockWith := goodIn_r _ [18, 19, 20, 13, 21, 49, 50, 51] (by decide +kernel) (by decide +kernel)
set_option maxRecDepth 20000 in
theorem gX8_add_X7_blockWith : GoodIn wsX8_add (wsV RX8 72 RX7 yX7_blockWith wsX7_blockWith) := goodIn_app (goodIn_of _ (by decide +kernel)) ggX8_add_X7_blockWith
set_option maxRecDepth 20000 in
theorem ggX8_add_X4_keepOnly : GoodIn wsX8_add wsX4_keepOnly := goodIn_r _ [26, 27, 28, 29, 30, 52, 53, 54, 55, 56, 57, 58, 59] (by decide +kernel) (by decide +kernel)
set_option maxRecDepth 20000 in
theorem gX8_add_X4_keepOnly : GoodIn wsX8_add (wsV RX8 61 RX4 yX4_keepOnly wsX4_keepOnly) := goodIn_app (goodIn_of _ (by decide +kernel)) ggX8_add_X4_keepOnly
set_option maxRecDepth 20000 in
theorem ggX8_add_X6_append : GoodIn wsX8_add wsX6_append := goodIn_r _ [35, 36, 37, 47, 48] (by decide +kernel) (by decide +kernel)
set_option maxRecDepth 20000 in
theorem gX8_add_X6_append : GoodIn wsX8_add (wsV RX8 75 RX6 yX6_append wsX6_append) := goodIn_app (goodIn_of _ (by decide +kernel)) ggX8_add_X6_append
theorem dX8_add_0 : decode cX8_add 0 = .ok (.iload_n 1, 1) := by decide +kernel
theorem dX8_add_1 : decode cX8_add 1 = .ok (.ifCond .lt 17, 3) := by decide +kernel
theorem dX8_add_4 : decode cX8_add 4 = .ok (.iload_n 1, 1) := by decide +kernel
theorem dX8_add_5 : decode cX8_add 5 = .ok (.aload_n 0, 1) := by decide +kernel
theorem dX8_add_6 : decode cX8_add 6 = .ok (.getfield 10, 3) := by decide +kernel
theorem dX8_add_9 : decode cX8_add 9 = .ok (.getfield 48, 3) := by decide +kernel
theorem dX8_add_12 : decode cX8_add 12 = .ok (.invokevirtual 65, 3) := by decide +kernel
theorem dX8_add_15 : decode cX8_add 15 = .ok (.if_icmp .le 6, 3) := by decide +kernel
theorem dX8_add_18 : decode cX8_add 18 = .ok (.bipush (-2), 2) := by decide +kernel
theorem dX8_add_20 : decode cX8_add 20 = .ok (.ireturn, 1) := by decide +kernel
theorem dX8_add_21 : decode cX8_add 21 = .ok (.aload_n 0, 1) := by decide +kernel
theorem dX8_add_22 : decode cX8_add 22 = .ok (.getfield 10, 3) := by decide +kernel
theorem dX8_add_25 : decode cX8_add 25 = .ok (.getfield 34, 3) := by decide +kernel
theorem dX8_add_28 : decode cX8_add 28 = .ok (.getfield 68, 3) := by decide +kernel
theorem dX8_add_31 : decode cX8_add 31 = .ok (.bipush 64, 2) := by decide +kernel
theorem dX8_add_33 : decode cX8_add 33 = .ok (.if_icmp .lt 6, 3) := by decide +kernel
theorem dX8_add_36 : decode cX8_add 36 = .ok (.bipush (-4), 2) := by decide +kernel
theorem dX8_add_38 : decode cX8_add 38 = .ok (.ireturn, 1) := by decide +kernel
theorem dX8_add_39 : decode cX8_add 39 = .ok (.aload_n 0, 1) := by decide +kernel
theorem dX8_add_40 : decode cX8_add 40 = .ok (.getfield 23, 3) := by decide +kernel
theorem dX8_add_43 : decode cX8_add 43 = .ok (.aload_n 0, 1) := by decide +kernel
theorem dX8_add_44 : decode cX8_add 44 = .ok (.getfield 10, 3) := by decide +kernel
theorem dX8_add_47 : decode cX8_add 47 = .ok (.getfield 48, 3) := by decide +kernel
theorem dX8_add_50 : decode cX8_add 50 = .ok (.aload_n 0, 1) := by decide +kernel
theorem dX8_add_51 : decode cX8_add 51 = .ok (.getfield 10, 3) := by decide +kernel
theorem dX8_add_54 : decode cX8_add 54 = .ok (.getfield 34, 3) := by decide +kernel
theorem dX8_add_57 : decode cX8_add 57 = .ok (.getfield 68, 3) := by decide +kernel
theorem dX8_add_60 : decode cX8_add 60 = .ok (.invokevirtual 72, 3) := by decide +kernel
theorem dX8_add_63 : decode cX8_add 63 = .ok (.invokevirtual 61, 3) := by decide +kernel
theorem dX8_add_66 : decode cX8_add 66 = .ok (.aload_n 0, 1) := by decide +kernel
theorem dX8_add_67 : decode cX8_add 67 = .ok (.getfield 10, 3) := by decide +kernel
theorem dX8_add_70 : decode cX8_add 70 = .ok (.getfield 34, 3) := by decide +kernel
theorem dX8_add_73 : decode cX8_add 73 = .ok (.iload_n 1, 1) := by decide +kernel
theorem dX8_add_74 : decode cX8_add 74 = .ok (.invokevirtual 75, 3) := by decide +kernel
theorem dX8_add_77 : decode cX8_add 77 = .ok (.aload_n 0, 1) := by decide +kernel
theorem dX8_add_78 : decode cX8_add 78 = .ok (.getfield 10, 3) := by decide +kernel
theorem dX8_add_81 : decode cX8_add 81 = .ok (.getfield 34, 3) := by decide +kernel
theorem dX8_add_84 : decode cX8_add 84 = .ok (.getfield 68, 3) := by decide +kernel
theorem dX8_add_87 : decode cX8_add 87 = .ok (.ireturn, 1) := by decide +kernel
set_option maxRecDepth 20000 in
theorem ggX8_clear_X4_keepOnly : GoodIn wsX8_clear wsX4_keepOnly := goodIn_r _ [9, 10, 11, 12, 13, 25, 26, 27, 28, 29, 30, 31, 32] (by decide +kernel) (by decide +kernel)
set_option maxRecDepth 20000 in
theorem gX8_clear_X4_keepOnly : GoodIn wsX8_clear (wsV RX8 61 RX4 yX4_keepOnly wsX4_keepOnly) := goodIn_app (goodIn_of _ (by decide +kernel)) ggX8_clear_X4_keepOnly
theorem dX8_clear_0 : decode cX8_clear 0 = .ok (.aload_n 0, 1) := by decide +kernel
theorem dX8_clear_1 : decode cX8_clear 1 = .ok (.getfield 10, 3) := by decide +kernel
theorem dX8_clear_4 : decode cX8_clear 4 = .ok (.getfield 34, 3) := by decide +kernel
theorem dX8_clear_7 : decode cX8_clear 7 = .ok (.getfield 68, 3) := by decide +kernel
theorem dX8_clear_10 : decode cX8_clear 10 = .ok (.istore_n 1, 1) := by decide +kernel
theorem dX8_clear_11 : decode cX8_clear 11 = .ok (.aload_n 0, 1) := by decide +kernel
theorem dX8_clear_12 : decode cX8_clear 12 = .ok (.getfield 10, 3) := by decide +kernel
theorem dX8_clear_15 : decode cX8_clear 15 = .ok (.getfield 34, 3) := by decide +kernel
theorem dX8_clear_18 : decode cX8_clear 18 = .ok (.iconst 0, 1) := by decide +kernel
theorem dX8_clear_19 : decode cX8_clear 19 = .ok (.putfield 68, 3) := by decide +kernel
theorem dX8_clear_22 : decode cX8_clear 22 = .ok (.aload_n 0, 1) := by decide +kernel
theorem dX8_clear_23 : decode cX8_clear 23 = .ok (.getfield 23, 3) := by decide +kernel
theorem dX8_clear_26 : decode cX8_clear 26 = .ok (.iconst 0, 1) := by decide +kernel
theorem dX8_clear_27 : decode cX8_clear 27 = .ok (.invokevirtual 61, 3) := by decide +kernel
theorem dX8_clear_30 : decode cX8_clear 30 = .ok (.iload_n 1, 1) := by decide +kernel
theorem dX8_clear_31 : decode cX8_clear 31 = .ok (.ireturn, 1) := by decide +kernel
set_option maxRecDepth 20000 in
theorem ggX8_sample_X6_at : GoodIn wsX8_sample wsX6_at := goodIn_r _ [7, 8, 9, 19, 20] (by decide +kernel) (by decide +kernel)
set_option maxRecDepth 20000 in
theorem gX8_sample_X6_at : GoodIn wsX8_sample (wsV RX8 78 RX6 yX6_at wsX6_at) := goodIn_app (goodIn_of _ (by decide +kernel)) ggX8_sample_X6_at
theorem dX8_sample_0 : decode cX8_sample 0 = .ok (.aload_n 0, 1) := by decide +kernel
theorem dX8_sample_1 : decode cX8_sample 1 = .ok (.getfield 10, 3) := by decide +kernel
theorem dX8_sample_4 : decode cX8_sample 4 = .ok (.getfield 34, 3) := by decide +kernel
theorem dX8_sample_7 : decode cX8_sample 7 = .ok (.iload_n 1, 1) := by decide +kernel
theorem dX8_sample_8 : decode cX8_sample 8 = .ok (.invokevirtual 78, 3) := by decide +kernel
theorem dX8_sample_11 : decode cX8_sample 11 = .ok (.ireturn, 1) := by decide +kernel
set_option maxRecDepth 20000 in
theorem ggX8_ahead_X8_isWay : GoodIn wsX8_ahead wsX8_isWay := goodIn_r _ [7] (by decide +kernel) (by decide +kernel)
set_option maxRecDepth 20000 in
theorem gX8_ahead_X8_isWay : GoodIn wsX8_ahead (va_wsS RX8 81 yX8_isWay wsX8_isWay) := goodIn_app (goodIn_of _ (by decide +kernel)) ggX8_ahead_X8_isWay
set_option maxRecDepth 20000 in
theorem ggX8_ahead_X6_has : GoodIn wsX8_ahead wsX6_has := goodIn_r _ [12, 13, 60, 61] (by decide +kernel) (by decide +kernel)
set_option maxRecDepth 20000 in
theorem gX8_ahead_X6_has : GoodIn wsX8_ahead (wsV RX8 85 RX6 yX6_has wsX6_has) := goodIn_app (goodIn_of _ (by decide +kernel)) ggX8_ahead_X6_has
set_option maxRecDepth 20000 in
theorem ggX8_ahead_X7_isBare : GoodIn wsX8_ahead wsX7_isBare := goodIn_r _ [18, 19, 20, 62, 63, 64] (by decide +kernel) (by decide +kernel)
set_option maxRecDepth 20000 in
theorem gX8_ahead_X7_isBare : GoodIn wsX8_ahead (wsV RX8 88 RX7 yX7_isBare wsX7_isBare) := goodIn_app (goodIn_of _ (by decide +kernel)) ggX8_ahead_X7_isBare
set_option maxRecDepth 20000 in
theorem ggX8_ahead_X8_toldAhead : GoodIn wsX8_ahead wsX8_toldAhead := goodIn_r _ [23, 24, 25, 26, 27, 28, 29, 30, 31, 32, 33, 6, 34, 35, 36, 37, 11, 38, 13, 39, 14, 15, 16, 17, 18, 19, 20, 62, 63, 64, 60, 61] (by decide +kernel) (by decide +kernel)
set_option maxRecDepth 20000 in
theorem gX8_ahead_X8_toldAhead : GoodIn wsX8_ahead (va_wsS RX8 91 yX8_toldAhead wsX8_toldAhead) := goodIn_app (goodIn_of _ (by decide +kernel)) ggX8_ahead_X8_toldAhead
set_option maxRecDepth 20000 in
theorem ggX8_ahead_X6_at : GoodIn wsX8_ahead wsX6_at := goodIn_r _ [38, 13, 39, 60, 61] (by decide +kernel) (by decide +kernel)
set_option maxRecDepth 20000 in
theorem gX8_ahead_X6_at : GoodIn wsX8_ahead (wsV RX8 78 RX6 yX6_at wsX6_at) := goodIn_app (goodIn_of _ (by decide +kernel)) ggX8_ahead_X6_at
set_option maxRecDepth 20000 in
theorem ggX8_ahead_X7_top : GoodIn wsX8_ahead wsX7_top := goodIn_r _ [43, 44, 33, 6, 34, 62, 63, 64] (by decide +kernel) (by decide +kernel)
set_option maxRecDepth 20000 in
theorem gX8_ahead_X7_top : GoodIn wsX8_ahead (wsV RX8 65 RX7 yX7_top wsX7_top) := goodIn_app (goodIn_of _ (by decide +kernel)) ggX8_ahead_X7_top
set_option maxRecDepth 20000 in
theorem ggX8_ahead_X8_fold : GoodIn wsX8_ahead wsX8_fold := goodIn_r _ [47, 25, 26, 27, 28, 48, 49, 50] (by decide +kernel) (by decide +kernel)
set_option maxRecDepth 20000 in
theorem gX8_ahead_X8_fold : GoodIn wsX8_ahead (va_wsS RX8 95 yX8_fold wsX8_fold) := goodIn_app (goodIn_of _ (by decide +kernel)) ggX8_ahead_X8_fold
theorem dX8_ahead_0 : decode cX8_ahead 0 = .ok (.iload_n 2, 1) := by decide +kernel
theorem dX8_ahead_1 : decode cX8_ahead 1 = .ok (.invokestatic 81, 3) := by decide +kernel
theorem dX8_ahead_4 : decode cX8_ahead 4 = .ok (.ifCond .eq 12, 3) := by decide +kernel
theorem dX8_ahead_7 : decode cX8_ahead 7 = .ok (.iload_n 3, 1) := by decide +kernel
theorem dX8_ahead_8 : decode cX8_ahead 8 = .ok (.ifCond .lt 8, 3) := by decide +kernel
theorem dX8_ahead_11 : decode cX8_ahead 11 = .ok (.iload_n 3, 1) := by decide +kernel
theorem dX8_ahead_12 : decode cX8_ahead 12 = .ok (.iconst 1, 1) := by decide +kernel
theorem dX8_ahead_13 : decode cX8_ahead 13 = .ok (.if_icmp .le 6, 3) := by decide +kernel
theorem dX8_ahead_16 : decode cX8_ahead 16 = .ok (.bipush (-2), 2) := by decide +kernel
theorem dX8_ahead_18 : decode cX8_ahead 18 = .ok (.ireturn, 1) := by decide +kernel
theorem dX8_ahead_19 : decode cX8_ahead 19 = .ok (.aload_n 0, 1) := by decide +kernel
theorem dX8_ahead_20 : decode cX8_ahead 20 = .ok (.getfield 10, 3) := by decide +kernel
theorem dX8_ahead_23 : decode cX8_ahead 23 = .ok (.getfield 34, 3) := by decide +kernel
theorem dX8_ahead_26 : decode cX8_ahead 26 = .ok (.iload_n 1, 1) := by decide +kernel
theorem dX8_ahead_27 : decode cX8_ahead 27 = .ok (.invokevirtual 85, 3) := by decide +kernel
theorem dX8_ahead_30 : decode cX8_ahead 30 = .ok (.ifCond .eq 17, 3) := by decide +kernel
theorem dX8_ahead_33 : decode cX8_ahead 33 = .ok (.aload_n 0, 1) := by decide +kernel
theorem dX8_ahead_34 : decode cX8_ahead 34 = .ok (.getfield 10, 3) := by decide +kernel
theorem dX8_ahead_37 : decode cX8_ahead 37 = .ok (.getfield 48, 3) := by decide +kernel
theorem dX8_ahead_40 : decode cX8_ahead 40 = .ok (.iload_n 1, 1) := by decide +kernel
theorem dX8_ahead_41 : decode cX8_ahead 41 = .ok (.invokevirtual 88, 3) := by decide +kernel
theorem dX8_ahead_44 : decode cX8_ahead 44 = .ok (.ifCond .eq 6, 3) := by decide +kernel
theorem dX8_ahead_47 : decode cX8_ahead 47 = .ok (.bipush (-6), 2) := by decide +kernel
theorem dX8_ahead_49 : decode cX8_ahead 49 = .ok (.ireturn, 1) := by decide +kernel
theorem dX8_ahead_50 : decode cX8_ahead 50 = .ok (.aload_n 0, 1) := by decide +kernel
theorem dX8_ahead_51 : decode cX8_ahead 51 = .ok (.getfield 10, 3) := by decide +kernel
theorem dX8_ahead_54 : decode cX8_ahead 54 = .ok (.getfield 48, 3) := by decide +kernel
theorem dX8_ahead_57 : decode cX8_ahead 57 = .ok (.aload_n 0, 1) := by decide +kernel
theorem dX8_ahead_58 : decode cX8_ahead 58 = .ok (.getfield 10, 3) := by decide +kernel
theorem dX8_ahead_61 : decode cX8_ahead 61 = .ok (.getfield 34, 3) := by decide +kernel
theorem dX8_ahead_64 : decode cX8_ahead 64 = .ok (.iload_n 1, 1) := by decide +kernel
theorem dX8_ahead_65 : decode cX8_ahead 65 = .ok (.iload_n 2, 1) := by decide +kernel
theorem dX8_ahead_66 : decode cX8_ahead 66 = .ok (.invokestatic 91, 3) := by decide +kernel
theorem dX8_ahead_69 : decode cX8_ahead 69 = .ok (.istore 4, 2) := by decide +kernel
theorem dX8_ahead_71 : decode cX8_ahead 71 = .ok (.iload_n 3, 1) := by decide +kernel
theorem dX8_ahead_72 : decode cX8_ahead 72 = .ok (.ifCond .ne 8, 3) := by decide +kernel
theorem dX8_ahead_75 : decode cX8_ahead 75 = .ok (.iload 4, 2) := by decide +kernel
theorem dX8_ahead_77 : decode cX8_ahead 77 = .ok (.goto 29, 3) := by decide +kernel
theorem dX8_ahead_80 : decode cX8_ahead 80 = .ok (.aload_n 0, 1) := by decide +kernel
theorem dX8_ahead_81 : decode cX8_ahead 81 = .ok (.getfield 10, 3) := by decide +kernel
theorem dX8_ahead_84 : decode cX8_ahead 84 = .ok (.getfield 34, 3) := by decide +kernel
theorem dX8_ahead_87 : decode cX8_ahead 87 = .ok (.iload_n 1, 1) := by decide +kernel
theorem dX8_ahead_88 : decode cX8_ahead 88 = .ok (.invokevirtual 78, 3) := by decide +kernel
theorem dX8_ahead_91 : decode cX8_ahead 91 = .ok (.iload 4, 2) := by decide +kernel
theorem dX8_ahead_93 : decode cX8_ahead 93 = .ok (.aload_n 0, 1) := by decide +kernel
theorem dX8_ahead_94 : decode cX8_ahead 94 = .ok (.getfield 10, 3) := by decide +kernel
theorem dX8_ahead_97 : decode cX8_ahead 97 = .ok (.getfield 48, 3) := by decide +kernel
theorem dX8_ahead_100 : decode cX8_ahead 100 = .ok (.invokevirtual 65, 3) := by decide +kernel
theorem dX8_ahead_103 : decode cX8_ahead 103 = .ok (.invokestatic 95, 3) := by decide +kernel
theorem dX8_ahead_106 : decode cX8_ahead 106 = .ok (.ireturn, 1) := by decide +kernel
set_option maxRecDepth 20000 in
theorem ggX8_cost_X8_isWay : GoodIn wsX8_cost wsX8_isWay := goodIn_r _ [8] (by decide +kernel) (by decide +kernel)
set_option maxRecDepth 20000 in
theorem gX8_cost_X8_isWay : GoodIn wsX8_cost (va_wsS RX8 81 yX8_isWay wsX8_isWay) := goodIn_app (goodIn_of _ (by decide +kernel)) ggX8_cost_X8_isWay
set_option maxRecDepth 20000 in
theorem ggX8_cost_X8_hasBlock : GoodIn wsX8_cost wsX8_hasBlock := goodIn_r _ [12, 13, 14, 15, 7, 16, 2, 4, 17, 3, 18, 19, 20, 21, 22, 23, 24, 99, 100, 101, 102, 103, 104, 105, 106, 107, 108, 109, 110, 111, 112] (by decide +kernel) (by decide +kernel)
set_option maxRecDepth 20000 in
theorem gX8_cost_X8_hasBlock : GoodIn wsX8_cost (wsV RX8 99 RX8 yX8_hasBlock wsX8_hasBlock) := goodIn_app (goodIn_of _ (by decide +kernel)) ggX8_cost_X8_hasBlock
set_option maxRecDepth 20000 in
theorem ggX8_cost_X4_costOf : GoodIn wsX8_cost wsX4_costOf := goodIn_r _ [29, 30, 31, 32, 33, 34, 35, 36, 37, 38, 39, 40, 41, 42, 43, 44, 45, 46, 47, 48, 49, 50, 51, 52, 53, 54, 55, 56, 57, 58, 59, 60, 61, 62, 63, 64, 65, 66, 67, 7, 68, 69, 70, 71, 72, 73, 74, 75, 76, 77, 78, 79, 80, 81, 82, 83, 84, 85, 86, 87, 88, 89, 90, 91, 92, 93, 94, 95, 96, 97, 98, 113, 114, 115, 116, 117, 118, 110, 111, 112, 108, 109, 119, 120, 121, 122, 123, 124] (by decide +kernel) (by decide +kernel)
set_option maxRecDepth 20000 in
theorem gX8_cost_X4_costOf : GoodIn wsX8_cost (wsV RX8 102 RX4 yX4_costOf wsX4_costOf) := goodIn_app (goodIn_of _ (by decide +kernel)) ggX8_cost_X4_costOf
theorem dX8_cost_0 : decode cX8_cost 0 = .ok (.iload_n 2, 1) := by decide +kernel
theorem dX8_cost_1 : decode cX8_cost 1 = .ok (.invokestatic 81, 3) := by decide +kernel
theorem dX8_cost_4 : decode cX8_cost 4 = .ok (.ifCond .eq 13, 3) := by decide +kernel
theorem dX8_cost_7 : decode cX8_cost 7 = .ok (.iload_n 3, 1) := by decide +kernel
theorem dX8_cost_8 : decode cX8_cost 8 = .ok (.ifCond .lt 9, 3) := by decide +kernel
theorem dX8_cost_11 : decode cX8_cost 11 = .ok (.iload_n 3, 1) := by decide +kernel
theorem dX8_cost_12 : decode cX8_cost 12 = .ok (.bipush 8, 2) := by decide +kernel
theorem dX8_cost_14 : decode cX8_cost 14 = .ok (.if_icmp .le 6, 3) := by decide +kernel
theorem dX8_cost_17 : decode cX8_cost 17 = .ok (.bipush (-2), 2) := by decide +kernel
theorem dX8_cost_19 : decode cX8_cost 19 = .ok (.ireturn, 1) := by decide +kernel
theorem dX8_cost_20 : decode cX8_cost 20 = .ok (.aload_n 0, 1) := by decide +kernel
theorem dX8_cost_21 : decode cX8_cost 21 = .ok (.iload_n 1, 1) := by decide +kernel
theorem dX8_cost_22 : decode cX8_cost 22 = .ok (.invokevirtual 99, 3) := by decide +kernel
theorem dX8_cost_25 : decode cX8_cost 25 = .ok (.ifCond .eq 30, 3) := by decide +kernel
theorem dX8_cost_28 : decode cX8_cost 28 = .ok (.aload_n 0, 1) := by decide +kernel
theorem dX8_cost_29 : decode cX8_cost 29 = .ok (.getfield 23, 3) := by decide +kernel
theorem dX8_cost_32 : decode cX8_cost 32 = .ok (.aload_n 0, 1) := by decide +kernel
theorem dX8_cost_33 : decode cX8_cost 33 = .ok (.getfield 10, 3) := by decide +kernel
theorem dX8_cost_36 : decode cX8_cost 36 = .ok (.getfield 48, 3) := by decide +kernel
theorem dX8_cost_39 : decode cX8_cost 39 = .ok (.aload_n 0, 1) := by decide +kernel
theorem dX8_cost_40 : decode cX8_cost 40 = .ok (.getfield 10, 3) := by decide +kernel
theorem dX8_cost_43 : decode cX8_cost 43 = .ok (.getfield 34, 3) := by decide +kernel
theorem dX8_cost_46 : decode cX8_cost 46 = .ok (.iload_n 1, 1) := by decide +kernel
theorem dX8_cost_47 : decode cX8_cost 47 = .ok (.iload_n 2, 1) := by decide +kernel
theorem dX8_cost_48 : decode cX8_cost 48 = .ok (.iload_n 3, 1) := by decide +kernel
theorem dX8_cost_49 : decode cX8_cost 49 = .ok (.invokevirtual 102, 3) := by decide +kernel
theorem dX8_cost_52 : decode cX8_cost 52 = .ok (.goto 5, 3) := by decide +kernel
theorem dX8_cost_55 : decode cX8_cost 55 = .ok (.bipush (-6), 2) := by decide +kernel
theorem dX8_cost_57 : decode cX8_cost 57 = .ok (.ireturn, 1) := by decide +kernel
set_option maxRecDepth 20000 in
theorem ggX8_block_X8_hasBlock : GoodIn wsX8_block wsX8_hasBlock := goodIn_r _ [15, 16, 17, 18, 14, 19, 2, 4, 8, 3, 9, 20, 21, 22, 23, 24, 25, 132, 133, 134, 135, 136, 137, 138, 139, 140, 147, 148, 149, 150, 151] (by decide +kernel) (by decide +kernel)
set_option maxRecDepth 20000 in
theorem gX8_block_X8_hasBlock : GoodIn wsX8_block (wsV RX8 99 RX8 yX8_hasBlock wsX8_hasBlock) := goodIn_app (goodIn_of _ (by decide +kernel)) ggX8_block_X8_hasBlock
set_option maxRecDepth 20000 in
theorem ggX8_block_X4_settle : GoodIn wsX8_block wsX4_settle := goodIn_r _ [30, 31, 32, 33, 34, 35, 36, 37, 38, 39, 40, 41, 42, 43, 44, 29, 45, 46, 47, 48, 49, 50, 51, 52, 53, 54, 55, 56, 57, 58, 59, 60, 61, 62, 63, 64, 65, 66, 67, 68, 69, 70, 71, 72, 73, 74, 75, 76, 77, 78, 79, 14, 80, 81, 82, 83, 84, 85, 86, 87, 88, 89, 90, 91, 92, 93, 94, 95, 96, 97, 98, 99, 100, 101, 102, 103, 104, 105, 106, 107, 108, 109, 110, 111, 112, 113, 114, 115, 116, 117, 118, 119, 120, 121, 122, 123, 124, 125, 126, 127, 128, 129, 130, 141, 142, 143, 144, 145, 146, 152, 153, 149, 150, 151, 147, 148, 154, 155, 156, 157, 158, 159] (by decide +kernel) (by decide +kernel)
set_option maxRecDepth 20000 in
theorem gX8_block_X4_settle : GoodIn wsX8_block (wsV RX8 106 RX4 yX4_settle wsX4_settle) := goodIn_app (goodIn_of _ (by decide +kernel)) ggX8_block_X4_settle
set_option maxRecDepth 20000 in
theorem ggX8_block_X7_endOfBlock : GoodIn wsX8_block wsX7_endOfBlock := goodIn_r _ [64, 65, 66, 32, 33, 34, 149, 150, 151] (by decide +kernel) (by decide +kernel)
set_option maxRecDepth 20000 in
theorem gX8_block_X7_endOfBlock : GoodIn wsX8_block (wsV RX8 120 RX7 yX7_endOfBlock wsX7_endOfBlock) := goodIn_app (goodIn_of _ (by decide +kernel)) ggX8_block_X7_endOfBlock
set_option maxRecDepth 20000 in
theorem ggX8_block_X8_quotient : GoodIn wsX8_block wsX8_quotient := goodIn_r _ [25] (by decide +kernel) (by decide +kernel)
set_option maxRecDepth 20000 in
theorem gX8_block_X8_quotient : GoodIn wsX8_block (va_wsS RX8 130 yX8_quotient wsX8_quotient) := goodIn_app (goodIn_of _ (by decide +kernel)) ggX8_block_X8_quotient
theorem dX8_block_0 : decode cX8_block 0 = .ok (.iload_n 2, 1) := by decide +kernel
theorem dX8_block_1 : decode cX8_block 1 = .ok (.ifCond .lt 8, 3) := by decide +kernel
theorem dX8_block_4 : decode cX8_block 4 = .ok (.iload_n 2, 1) := by decide +kernel
theorem dX8_block_5 : decode cX8_block 5 = .ok (.iconst 5, 1) := by decide +kernel
theorem dX8_block_6 : decode cX8_block 6 = .ok (.if_icmp .le 6, 3) := by decide +kernel
theorem dX8_block_9 : decode cX8_block 9 = .ok (.bipush (-2), 2) := by decide +kernel
theorem dX8_block_11 : decode cX8_block 11 = .ok (.ireturn, 1) := by decide +kernel
theorem dX8_block_12 : decode cX8_block 12 = .ok (.aload_n 0, 1) := by decide +kernel
theorem dX8_block_13 : decode cX8_block 13 = .ok (.iload_n 1, 1) := by decide +kernel
theorem dX8_block_14 : decode cX8_block 14 = .ok (.invokevirtual 99, 3) := by decide +kernel
theorem dX8_block_17 : decode cX8_block 17 = .ok (.ifCond .ne 6, 3) := by decide +kernel
theorem dX8_block_20 : decode cX8_block 20 = .ok (.bipush (-6), 2) := by decide +kernel
theorem dX8_block_22 : decode cX8_block 22 = .ok (.ireturn, 1) := by decide +kernel
theorem dX8_block_23 : decode cX8_block 23 = .ok (.aload_n 0, 1) := by decide +kernel
theorem dX8_block_24 : decode cX8_block 24 = .ok (.getfield 23, 3) := by decide +kernel
theorem dX8_block_27 : decode cX8_block 27 = .ok (.aload_n 0, 1) := by decide +kernel
theorem dX8_block_28 : decode cX8_block 28 = .ok (.getfield 10, 3) := by decide +kernel
theorem dX8_block_31 : decode cX8_block 31 = .ok (.getfield 48, 3) := by decide +kernel
theorem dX8_block_34 : decode cX8_block 34 = .ok (.aload_n 0, 1) := by decide +kernel
theorem dX8_block_35 : decode cX8_block 35 = .ok (.getfield 10, 3) := by decide +kernel
theorem dX8_block_38 : decode cX8_block 38 = .ok (.getfield 34, 3) := by decide +kernel
theorem dX8_block_41 : decode cX8_block 41 = .ok (.iload_n 1, 1) := by decide +kernel
theorem dX8_block_42 : decode cX8_block 42 = .ok (.iconst 1, 1) := by decide +kernel
theorem dX8_block_43 : decode cX8_block 43 = .ok (.iadd, 1) := by decide +kernel
theorem dX8_block_44 : decode cX8_block 44 = .ok (.invokevirtual 106, 3) := by decide +kernel
theorem dX8_block_47 : decode cX8_block 47 = .ok (.iload_n 2, 1) := by decide +kernel
theorem dX8_block_48 : decode cX8_block 48 = .ok (.tableswitch 123 0 4 #[36, 46, 56, 78, 113], 36) := by decide +kernel
theorem dX8_block_84 : decode cX8_block 84 = .ok (.aload_n 0, 1) := by decide +kernel
theorem dX8_block_85 : decode cX8_block 85 = .ok (.getfield 23, 3) := by decide +kernel
theorem dX8_block_88 : decode cX8_block 88 = .ok (.getfield 110, 3) := by decide +kernel
theorem dX8_block_91 : decode cX8_block 91 = .ok (.iload_n 1, 1) := by decide +kernel
theorem dX8_block_92 : decode cX8_block 92 = .ok (.iaload, 1) := by decide +kernel
theorem dX8_block_93 : decode cX8_block 93 = .ok (.ireturn, 1) := by decide +kernel
theorem dX8_block_94 : decode cX8_block 94 = .ok (.aload_n 0, 1) := by decide +kernel
theorem dX8_block_95 : decode cX8_block 95 = .ok (.getfield 23, 3) := by decide +kernel
theorem dX8_block_98 : decode cX8_block 98 = .ok (.getfield 114, 3) := by decide +kernel
theorem dX8_block_101 : decode cX8_block 101 = .ok (.iload_n 1, 1) := by decide +kernel
theorem dX8_block_102 : decode cX8_block 102 = .ok (.iaload, 1) := by decide +kernel
theorem dX8_block_103 : decode cX8_block 103 = .ok (.ireturn, 1) := by decide +kernel
theorem dX8_block_104 : decode cX8_block 104 = .ok (.aload_n 0, 1) := by decide +kernel
theorem dX8_block_105 : decode cX8_block 105 = .ok (.getfield 23, 3) := by decide +kernel
theorem dX8_block_108 : decode cX8_block 108 = .ok (.getfield 117, 3) := by decide +kernel
theorem dX8_block_111 : decode cX8_block 111 = .ok (.iload_n 1, 1) := by decide +kernel
theorem dX8_block_112 : decode cX8_block 112 = .ok (.iconst 1, 1) := by decide +kernel
theorem dX8_block_113 : decode cX8_block 113 = .ok (.iadd, 1) := by decide +kernel
theorem dX8_block_114 : decode cX8_block 114 = .ok (.iaload, 1) := by decide +kernel
theorem dX8_block_115 : decode cX8_block 115 = .ok (.aload_n 0, 1) := by decide +kernel
theorem dX8_block_116 : decode cX8_block 116 = .ok (.getfield 23, 3) := by decide +kernel
theorem dX8_block_119 : decode cX8_block 119 = .ok (.getfield 117, 3) := by decide +kernel
theorem dX8_block_122 : decode cX8_block 122 = .ok (.iload_n 1, 1) := by decide +kernel
theorem dX8_block_123 : decode cX8_block 123 = .ok (.iaload, 1) := by decide +kernel
theorem dX8_block_124 : decode cX8_block 124 = .ok (.isub, 1) := by decide +kernel
theorem dX8_block_125 : decode cX8_block 125 = .ok (.ireturn, 1) := by decide +kernel
theorem dX8_block_126 : decode cX8_block 126 = .ok (.aload_n 0, 1) := by decide +kernel
theorem dX8_block_127 : decode cX8_block 127 = .ok (.getfield 10, 3) := by decide +kernel
theorem dX8_block_130 : decode cX8_block 130 = .ok (.getfield 48, 3) := by decide +kernel
theorem dX8_block_133 : decode cX8_block 133 = .ok (.iload_n 1, 1) := by decide +kernel
theorem dX8_block_134 : decode cX8_block 134 = .ok (.aload_n 0, 1) := by decide +kernel
theorem dX8_block_135 : decode cX8_block 135 = .ok (.getfield 10, 3) := by decide +kernel
theorem dX8_block_138 : decode cX8_block 138 = .ok (.getfield 34, 3) := by decide +kernel
theorem dX8_block_141 : decode cX8_block 141 = .ok (.getfield 68, 3) := by decide +kernel
theorem dX8_block_144 : decode cX8_block 144 = .ok (.invokevirtual 120, 3) := by decide +kernel
theorem dX8_block_147 : decode cX8_block 147 = .ok (.iload_n 1, 1) := by decide +kernel
theorem dX8_block_148 : decode cX8_block 148 = .ok (.aload_n 0, 1) := by decide +kernel
theorem dX8_block_149 : decode cX8_block 149 = .ok (.getfield 10, 3) := by decide +kernel
theorem dX8_block_152 : decode cX8_block 152 = .ok (.getfield 48, 3) := by decide +kernel
theorem dX8_block_155 : decode cX8_block 155 = .ok (.getfield 124, 3) := by decide +kernel
theorem dX8_block_158 : decode cX8_block 158 = .ok (.imul, 1) := by decide +kernel
theorem dX8_block_159 : decode cX8_block 159 = .ok (.isub, 1) := by decide +kernel
theorem dX8_block_160 : decode cX8_block 160 = .ok (.ireturn, 1) := by decide +kernel
theorem dX8_block_161 : decode cX8_block 161 = .ok (.aload_n 0, 1) := by decide +kernel
theorem dX8_block_162 : decode cX8_block 162 = .ok (.getfield 23, 3) := by decide +kernel
theorem dX8_block_165 : decode cX8_block 165 = .ok (.getfield 117, 3) := by decide +kernel
theorem dX8_block_168 : decode cX8_block 168 = .ok (.iload_n 1, 1) := by decide +kernel
theorem dX8_block_169 : decode cX8_block 169 = .ok (.iaload, 1) := by decide +kernel
theorem dX8_block_170 : decode cX8_block 170 = .ok (.ireturn, 1) := by decide +kernel
theorem dX8_block_171 : decode cX8_block 171 = .ok (.iload_n 1, 1) := by decide +kernel
theorem dX8_block_172 : decode cX8_block 172 = .ok (.aload_n 0, 1) := by decide +kernel
theorem dX8_block_173 : decode cX8_block 173 = .ok (.getfield 10, 3) := by decide +kernel
theorem dX8_block_176 : decode cX8_block 176 = .ok (.getfield 48, 3) := by decide +kernel
theorem dX8_block_179 : decode cX8_block 179 = .ok (.getfield 127, 3) := by decide +kernel
theorem dX8_block_182 : decode cX8_block 182 = .ok (.invokestatic 130, 3) := by decide +kernel
theorem dX8_block_185 : decode cX8_block 185 = .ok (.ireturn, 1) := by decide +kernel
set_option maxRecDepth 20000 in
theorem ggX8_packed_X8_settleAll : GoodIn wsX8_packed wsX8_settleAll := goodIn_r _ [8, 1, 9, 10, 11, 12, 13, 14, 7, 15, 16, 17, 18, 19, 20, 21, 22, 23, 24, 25, 26, 27, 28, 29, 30, 31, 32, 33, 34, 35, 36, 37, 38, 39, 40, 41, 42, 43, 44, 45, 46, 47, 48, 49, 50, 51, 52, 53, 54, 55, 56, 57, 58, 59, 60, 61, 62, 63, 64, 65, 66, 67, 68, 69, 70, 71, 72, 73, 74, 75, 76, 77, 78, 79, 80, 81, 82, 83, 84, 85, 86, 87, 88, 89, 90, 91, 92, 93, 94, 95, 96, 97, 98, 99, 100, 101, 102, 103, 104, 105, 106, 107, 108, 109, 110, 111, 112, 113, 114, 115, 116, 117, 118, 119, 120, 121, 122, 123, 124, 125, 126, 127, 128, 133, 134, 135, 136, 137, 146, 147, 148, 149, 150, 151, 152, 153, 154, 138, 139, 140, 141, 142, 143, 144, 145, 155, 156, 157, 158, 159, 160] (by decide +kernel) (by decide +kernel)
set_option maxRecDepth 20000 in
theorem gX8_packed_X8_settleAll : GoodIn wsX8_packed (wsV RX8 133 RX8 yX8_settleAll wsX8_settleAll) := goodIn_app (goodIn_of _ (by decide +kernel)) ggX8_packed_X8_settleAll
set_option maxRecDepth 20000 in
theorem ggX8_packed_X0_at : GoodIn wsX8_packed wsX0_at := goodIn_r _ [132, 122, 123, 144, 145] (by decide +kernel) (by decide +kernel)
set_option maxRecDepth 20000 in
theorem gX8_packed_X0_at : GoodIn wsX8_packed (wsV RX8 143 RX0 yX0_at wsX0_at) := goodIn_app (goodIn_of _ (by decide +kernel)) ggX8_packed_X0_at
theorem dX8_packed_0 : decode cX8_packed 0 = .ok (.iload_n 1, 1) := by decide +kernel
theorem dX8_packed_1 : decode cX8_packed 1 = .ok (.iconst (-1), 1) := by decide +kernel
theorem dX8_packed_2 : decode cX8_packed 2 = .ok (.if_icmp .ge 6, 3) := by decide +kernel
theorem dX8_packed_5 : decode cX8_packed 5 = .ok (.bipush (-2), 2) := by decide +kernel
theorem dX8_packed_7 : decode cX8_packed 7 = .ok (.ireturn, 1) := by decide +kernel
theorem dX8_packed_8 : decode cX8_packed 8 = .ok (.aload_n 0, 1) := by decide +kernel
theorem dX8_packed_9 : decode cX8_packed 9 = .ok (.invokevirtual 133, 3) := by decide +kernel
theorem dX8_packed_12 : decode cX8_packed 12 = .ok (.iload_n 1, 1) := by decide +kernel
theorem dX8_packed_13 : decode cX8_packed 13 = .ok (.iconst (-1), 1) := by decide +kernel
theorem dX8_packed_14 : decode cX8_packed 14 = .ok (.if_icmp .ne 16, 3) := by decide +kernel
theorem dX8_packed_17 : decode cX8_packed 17 = .ok (.aload_n 0, 1) := by decide +kernel
theorem dX8_packed_18 : decode cX8_packed 18 = .ok (.getfield 23, 3) := by decide +kernel
theorem dX8_packed_21 : decode cX8_packed 21 = .ok (.getfield 136, 3) := by decide +kernel
theorem dX8_packed_24 : decode cX8_packed 24 = .ok (.getfield 140, 3) := by decide +kernel
theorem dX8_packed_27 : decode cX8_packed 27 = .ok (.goto 14, 3) := by decide +kernel
theorem dX8_packed_30 : decode cX8_packed 30 = .ok (.aload_n 0, 1) := by decide +kernel
theorem dX8_packed_31 : decode cX8_packed 31 = .ok (.getfield 23, 3) := by decide +kernel
theorem dX8_packed_34 : decode cX8_packed 34 = .ok (.getfield 136, 3) := by decide +kernel
theorem dX8_packed_37 : decode cX8_packed 37 = .ok (.iload_n 1, 1) := by decide +kernel
theorem dX8_packed_38 : decode cX8_packed 38 = .ok (.invokevirtual 143, 3) := by decide +kernel
theorem dX8_packed_41 : decode cX8_packed 41 = .ok (.ireturn, 1) := by decide +kernel
set_option maxRecDepth 20000 in
theorem ggX8_lost_X8_hasBlock : GoodIn wsX8_lost wsX8_hasBlock := goodIn_r _ [15, 16, 17, 18, 14, 19, 1, 4, 5, 2, 10, 20, 21, 22, 23, 24, 25, 33, 34, 35, 36, 37, 38, 39, 40, 41, 45, 46, 42, 43, 44] (by decide +kernel) (by decide +kernel)
set_option maxRecDepth 20000 in
theorem gX8_lost_X8_hasBlock : GoodIn wsX8_lost (wsV RX8 99 RX8 yX8_hasBlock wsX8_hasBlock) := goodIn_app (goodIn_of _ (by decide +kernel)) ggX8_lost_X8_hasBlock
set_option maxRecDepth 20000 in
theorem ggX8_lost_X8_quotient : GoodIn wsX8_lost wsX8_quotient := goodIn_r _ [25] (by decide +kernel) (by decide +kernel)
set_option maxRecDepth 20000 in
theorem gX8_lost_X8_quotient : GoodIn wsX8_lost (va_wsS RX8 130 yX8_quotient wsX8_quotient) := goodIn_app (goodIn_of _ (by decide +kernel)) ggX8_lost_X8_quotient
set_option maxRecDepth 20000 in
theorem ggX8_lost_X7_segmentSize : GoodIn wsX8_lost wsX7_segmentSize := goodIn_r _ [30, 31, 32, 42, 43, 44] (by decide +kernel) (by decide +kernel)
set_option maxRecDepth 20000 in
theorem gX8_lost_X7_segmentSize : GoodIn wsX8_lost (wsV RX8 144 RX7 yX7_segmentSize wsX7_segmentSize) := goodIn_app (goodIn_of _ (by decide +kernel)) ggX8_lost_X7_segmentSize
theorem dX8_lost_0 : decode cX8_lost 0 = .ok (.aload_n 0, 1) := by decide +kernel
theorem dX8_lost_1 : decode cX8_lost 1 = .ok (.iload_n 1, 1) := by decide +kernel
theorem dX8_lost_2 : decode cX8_lost 2 = .ok (.invokevirtual 99, 3) := by decide +kernel
theorem dX8_lost_5 : decode cX8_lost 5 = .ok (.ifCond .ne 6, 3) := by decide +kernel
theorem dX8_lost_8 : decode cX8_lost 8 = .ok (.bipush (-6), 2) := by decide +kernel
theorem dX8_lost_10 : decode cX8_lost 10 = .ok (.ireturn, 1) := by decide +kernel
theorem dX8_lost_11 : decode cX8_lost 11 = .ok (.iload_n 1, 1) := by decide +kernel
theorem dX8_lost_12 : decode cX8_lost 12 = .ok (.aload_n 0, 1) := by decide +kernel
theorem dX8_lost_13 : decode cX8_lost 13 = .ok (.getfield 10, 3) := by decide +kernel
theorem dX8_lost_16 : decode cX8_lost 16 = .ok (.getfield 48, 3) := by decide +kernel
theorem dX8_lost_19 : decode cX8_lost 19 = .ok (.getfield 127, 3) := by decide +kernel
theorem dX8_lost_22 : decode cX8_lost 22 = .ok (.invokestatic 130, 3) := by decide +kernel
theorem dX8_lost_25 : decode cX8_lost 25 = .ok (.istore_n 2, 1) := by decide +kernel
theorem dX8_lost_26 : decode cX8_lost 26 = .ok (.aload_n 0, 1) := by decide +kernel
theorem dX8_lost_27 : decode cX8_lost 27 = .ok (.getfield 10, 3) := by decide +kernel
theorem dX8_lost_30 : decode cX8_lost 30 = .ok (.getfield 34, 3) := by decide +kernel
theorem dX8_lost_33 : decode cX8_lost 33 = .ok (.getfield 68, 3) := by decide +kernel
theorem dX8_lost_36 : decode cX8_lost 36 = .ok (.iload_n 2, 1) := by decide +kernel
theorem dX8_lost_37 : decode cX8_lost 37 = .ok (.iconst 1, 1) := by decide +kernel
theorem dX8_lost_38 : decode cX8_lost 38 = .ok (.iadd, 1) := by decide +kernel
theorem dX8_lost_39 : decode cX8_lost 39 = .ok (.aload_n 0, 1) := by decide +kernel
theorem dX8_lost_40 : decode cX8_lost 40 = .ok (.getfield 10, 3) := by decide +kernel
theorem dX8_lost_43 : decode cX8_lost 43 = .ok (.getfield 48, 3) := by decide +kernel
theorem dX8_lost_46 : decode cX8_lost 46 = .ok (.invokevirtual 144, 3) := by decide +kernel
theorem dX8_lost_49 : decode cX8_lost 49 = .ok (.imul, 1) := by decide +kernel
theorem dX8_lost_50 : decode cX8_lost 50 = .ok (.invokestatic 147, 3) := by decide +kernel
theorem dX8_lost_53 : decode cX8_lost 53 = .ok (.istore_n 3, 1) := by decide +kernel
theorem dX8_lost_54 : decode cX8_lost 54 = .ok (.iload_n 3, 1) := by decide +kernel
theorem dX8_lost_55 : decode cX8_lost 55 = .ok (.iload_n 1, 1) := by decide +kernel
theorem dX8_lost_56 : decode cX8_lost 56 = .ok (.aload_n 0, 1) := by decide +kernel
theorem dX8_lost_57 : decode cX8_lost 57 = .ok (.getfield 10, 3) := by decide +kernel
theorem dX8_lost_60 : decode cX8_lost 60 = .ok (.getfield 48, 3) := by decide +kernel
theorem dX8_lost_63 : decode cX8_lost 63 = .ok (.getfield 124, 3) := by decide +kernel
theorem dX8_lost_66 : decode cX8_lost 66 = .ok (.imul, 1) := by decide +kernel
theorem dX8_lost_67 : decode cX8_lost 67 = .ok (.isub, 1) := by decide +kernel
theorem dX8_lost_68 : decode cX8_lost 68 = .ok (.ireturn, 1) := by decide +kernel
set_option maxRecDepth 20000 in
theorem ggX8_tape_X8_settleAll : GoodIn wsX8_tape wsX8_settleAll := goodIn_r _ [10, 3, 1, 11, 12, 13, 14, 15, 9, 16, 17, 18, 19, 20, 21, 22, 23, 24, 25, 26, 27, 28, 29, 30, 31, 32, 33, 34, 35, 36, 37, 38, 39, 40, 41, 42, 43, 44, 45, 46, 47, 48, 49, 50, 51, 52, 53, 54, 55, 56, 57, 58, 59, 60, 61, 62, 63, 64, 65, 66, 67, 68, 69, 70, 71, 72, 73, 74, 75, 76, 77, 78, 79, 80, 81, 82, 83, 84, 85, 86, 87, 88, 89, 90, 91, 92, 93, 94, 95, 96, 97, 98, 99, 100, 101, 102, 103, 104, 105, 106, 107, 108, 109, 110, 111, 112, 113, 114, 115, 116, 117, 118, 119, 120, 121, 122, 123, 124, 125, 126, 127, 128, 129, 138, 139, 140, 141, 142, 143, 144, 145, 146, 155, 156, 157, 158, 159, 147, 148, 149, 150, 151, 152, 153, 154, 160, 161, 162, 163, 164, 165] (by decide +kernel) (by decide +kernel)
set_option maxRecDepth 20000 in
theorem gX8_tape_X8_settleAll : GoodIn wsX8_tape (wsV RX8 133 RX8 yX8_settleAll wsX8_settleAll) := goodIn_app (goodIn_of _ (by decide +kernel)) ggX8_tape_X8_settleAll
set_option maxRecDepth 20000 in
theorem ggX8_tape_X0_takeOver : GoodIn wsX8_tape wsX0_takeOver := goodIn_r _ [133, 124, 123, 134, 135, 136, 137, 153, 154] (by decide +kernel) (by decide +kernel)
set_option maxRecDepth 20000 in
theorem gX8_tape_X0_takeOver : GoodIn wsX8_tape (wsV RX8 155 RX0 yX0_takeOver wsX0_takeOver) := goodIn_app (goodIn_of _ (by decide +kernel)) ggX8_tape_X0_takeOver
theorem dX8_tape_0 : decode cX8_tape 0 = .ok (.aload_n 0, 1) := by decide +kernel
theorem dX8_tape_1 : decode cX8_tape 1 = .ok (.invokevirtual 133, 3) := by decide +kernel
theorem dX8_tape_4 : decode cX8_tape 4 = .ok (.aload_n 0, 1) := by decide +kernel
theorem dX8_tape_5 : decode cX8_tape 5 = .ok (.getfield 10, 3) := by decide +kernel
theorem dX8_tape_8 : decode cX8_tape 8 = .ok (.getfield 152, 3) := by decide +kernel
theorem dX8_tape_11 : decode cX8_tape 11 = .ok (.aload_n 0, 1) := by decide +kernel
theorem dX8_tape_12 : decode cX8_tape 12 = .ok (.getfield 23, 3) := by decide +kernel
theorem dX8_tape_15 : decode cX8_tape 15 = .ok (.getfield 136, 3) := by decide +kernel
theorem dX8_tape_18 : decode cX8_tape 18 = .ok (.invokevirtual 155, 3) := by decide +kernel
theorem dX8_tape_21 : decode cX8_tape 21 = .ok (.aload_n 0, 1) := by decide +kernel
theorem dX8_tape_22 : decode cX8_tape 22 = .ok (.getfield 10, 3) := by decide +kernel
theorem dX8_tape_25 : decode cX8_tape 25 = .ok (.getfield 152, 3) := by decide +kernel
theorem dX8_tape_28 : decode cX8_tape 28 = .ok (.getfield 140, 3) := by decide +kernel
theorem dX8_tape_31 : decode cX8_tape 31 = .ok (.ireturn, 1) := by decide +kernel
set_option maxRecDepth 20000 in
theorem ggX8_push_X0_append : GoodIn wsX8_push wsX0_append := goodIn_r _ [8, 9, 10, 20, 21] (by decide +kernel) (by decide +kernel)
set_option maxRecDepth 20000 in
theorem gX8_push_X0_append : GoodIn wsX8_push (wsV RX8 159 RX0 yX0_append wsX0_append) := goodIn_app (goodIn_of _ (by decide +kernel)) ggX8_push_X0_append
theorem dX8_push_0 : decode cX8_push 0 = .ok (.iload_n 1, 1) := by decide +kernel
theorem dX8_push_1 : decode cX8_push 1 = .ok (.ifCond .lt 8, 3) := by decide +kernel
theorem dX8_push_4 : decode cX8_push 4 = .ok (.iload_n 1, 1) := by decide +kernel
theorem dX8_push_5 : decode cX8_push 5 = .ok (.iconst 1, 1) := by decide +kernel
theorem dX8_push_6 : decode cX8_push 6 = .ok (.if_icmp .le 6, 3) := by decide +kernel
theorem dX8_push_9 : decode cX8_push 9 = .ok (.bipush (-2), 2) := by decide +kernel
theorem dX8_push_11 : decode cX8_push 11 = .ok (.ireturn, 1) := by decide +kernel
theorem dX8_push_12 : decode cX8_push 12 = .ok (.aload_n 0, 1) := by decide +kernel
theorem dX8_push_13 : decode cX8_push 13 = .ok (.getfield 10, 3) := by decide +kernel
theorem dX8_push_16 : decode cX8_push 16 = .ok (.getfield 152, 3) := by decide +kernel
theorem dX8_push_19 : decode cX8_push 19 = .ok (.getfield 140, 3) := by decide +kernel
theorem dX8_push_22 : decode cX8_push 22 = .ok (.sipush 1000, 3) := by decide +kernel
theorem dX8_push_25 : decode cX8_push 25 = .ok (.if_icmp .lt 6, 3) := by decide +kernel
theorem dX8_push_28 : decode cX8_push 28 = .ok (.bipush (-4), 2) := by decide +kernel
theorem dX8_push_30 : decode cX8_push 30 = .ok (.ireturn, 1) := by decide +kernel
theorem dX8_push_31 : decode cX8_push 31 = .ok (.aload_n 0, 1) := by decide +kernel
theorem dX8_push_32 : decode cX8_push 32 = .ok (.getfield 10, 3) := by decide +kernel
theorem dX8_push_35 : decode cX8_push 35 = .ok (.getfield 152, 3) := by decide +kernel
theorem dX8_push_38 : decode cX8_push 38 = .ok (.iload_n 1, 1) := by decide +kernel
theorem dX8_push_39 : decode cX8_push 39 = .ok (.invokevirtual 159, 3) := by decide +kernel
theorem dX8_push_42 : decode cX8_push 42 = .ok (.aload_n 0, 1) := by decide +kernel
theorem dX8_push_43 : decode cX8_push 43 = .ok (.getfield 10, 3) := by decide +kernel
theorem dX8_push_46 : decode cX8_push 46 = .ok (.getfield 152, 3) := by decide +kernel
theorem dX8_push_49 : decode cX8_push 49 = .ok (.getfield 140, 3) := by decide +kernel
theorem dX8_push_52 : decode cX8_push 52 = .ok (.ireturn, 1) := by decide +kernel
set_option maxRecDepth 20000 in
theorem ggX8_flip_X0_has : GoodIn wsX8_flip wsX0_has := goodIn_r _ [7, 8, 24, 25] (by decide +kernel) (by decide +kernel)
set_option maxRecDepth 20000 in
theorem gX8_flip_X0_has : GoodIn wsX8_flip (wsV RX8 160 RX0 yX0_has wsX0_has) := goodIn_app (goodIn_of _ (by decide +kernel)) ggX8_flip_X0_has
set_option maxRecDepth 20000 in
theorem ggX8_flip_X0_turn : GoodIn wsX8_flip wsX0_turn := goodIn_r _ [12, 13, 14, 4, 5, 6, 7, 8, 24, 25] (by decide +kernel) (by decide +kernel)
set_option maxRecDepth 20000 in
theorem gX8_flip_X0_turn : GoodIn wsX8_flip (wsV RX8 161 RX0 yX0_turn wsX0_turn) := goodIn_app (goodIn_of _ (by decide +kernel)) ggX8_flip_X0_turn
theorem dX8_flip_0 : decode cX8_flip 0 = .ok (.aload_n 0, 1) := by decide +kernel
theorem dX8_flip_1 : decode cX8_flip 1 = .ok (.getfield 10, 3) := by decide +kernel
theorem dX8_flip_4 : decode cX8_flip 4 = .ok (.getfield 152, 3) := by decide +kernel
theorem dX8_flip_7 : decode cX8_flip 7 = .ok (.iload_n 1, 1) := by decide +kernel
theorem dX8_flip_8 : decode cX8_flip 8 = .ok (.invokevirtual 160, 3) := by decide +kernel
theorem dX8_flip_11 : decode cX8_flip 11 = .ok (.ifCond .eq 17, 3) := by decide +kernel
theorem dX8_flip_14 : decode cX8_flip 14 = .ok (.aload_n 0, 1) := by decide +kernel
theorem dX8_flip_15 : decode cX8_flip 15 = .ok (.getfield 10, 3) := by decide +kernel
theorem dX8_flip_18 : decode cX8_flip 18 = .ok (.getfield 152, 3) := by decide +kernel
theorem dX8_flip_21 : decode cX8_flip 21 = .ok (.iload_n 1, 1) := by decide +kernel
theorem dX8_flip_22 : decode cX8_flip 22 = .ok (.invokevirtual 161, 3) := by decide +kernel
theorem dX8_flip_25 : decode cX8_flip 25 = .ok (.goto 5, 3) := by decide +kernel
theorem dX8_flip_28 : decode cX8_flip 28 = .ok (.bipush (-2), 2) := by decide +kernel
theorem dX8_flip_30 : decode cX8_flip 30 = .ok (.ireturn, 1) := by decide +kernel
theorem dX8_cut_0 : decode cX8_cut 0 = .ok (.iload_n 1, 1) := by decide +kernel
theorem dX8_cut_1 : decode cX8_cut 1 = .ok (.ifCond .lt 17, 3) := by decide +kernel
theorem dX8_cut_4 : decode cX8_cut 4 = .ok (.iload_n 1, 1) := by decide +kernel
theorem dX8_cut_5 : decode cX8_cut 5 = .ok (.aload_n 0, 1) := by decide +kernel
theorem dX8_cut_6 : decode cX8_cut 6 = .ok (.getfield 10, 3) := by decide +kernel
theorem dX8_cut_9 : decode cX8_cut 9 = .ok (.getfield 152, 3) := by decide +kernel
theorem dX8_cut_12 : decode cX8_cut 12 = .ok (.getfield 140, 3) := by decide +kernel
theorem dX8_cut_15 : decode cX8_cut 15 = .ok (.if_icmp .le 6, 3) := by decide +kernel
theorem dX8_cut_18 : decode cX8_cut 18 = .ok (.bipush (-2), 2) := by decide +kernel
theorem dX8_cut_20 : decode cX8_cut 20 = .ok (.ireturn, 1) := by decide +kernel
theorem dX8_cut_21 : decode cX8_cut 21 = .ok (.aload_n 0, 1) := by decide +kernel
theorem dX8_cut_22 : decode cX8_cut 22 = .ok (.getfield 10, 3) := by decide +kernel
theorem dX8_cut_25 : decode cX8_cut 25 = .ok (.getfield 152, 3) := by decide +kernel
theorem dX8_cut_28 : decode cX8_cut 28 = .ok (.getfield 140, 3) := by decide +kernel
theorem dX8_cut_31 : decode cX8_cut 31 = .ok (.iload_n 1, 1) := by decide +kernel
theorem dX8_cut_32 : decode cX8_cut 32 = .ok (.isub, 1) := by decide +kernel
theorem dX8_cut_33 : decode cX8_cut 33 = .ok (.istore_n 2, 1) := by decide +kernel
theorem dX8_cut_34 : decode cX8_cut 34 = .ok (.aload_n 0, 1) := by decide +kernel
theorem dX8_cut_35 : decode cX8_cut 35 = .ok (.getfield 10, 3) := by decide +kernel
theorem dX8_cut_38 : decode cX8_cut 38 = .ok (.getfield 152, 3) := by decide +kernel
theorem dX8_cut_41 : decode cX8_cut 41 = .ok (.iload_n 1, 1) := by decide +kernel
theorem dX8_cut_42 : decode cX8_cut 42 = .ok (.putfield 140, 3) := by decide +kernel
theorem dX8_cut_45 : decode cX8_cut 45 = .ok (.iload_n 2, 1) := by decide +kernel
theorem dX8_cut_46 : decode cX8_cut 46 = .ok (.ireturn, 1) := by decide +kernel
set_option maxRecDepth 20000 in
theorem ggX8_bit_X0_at : GoodIn wsX8_bit wsX0_at := goodIn_r _ [8, 9, 10, 20, 21] (by decide +kernel) (by decide +kernel)
set_option maxRecDepth 20000 in
theorem gX8_bit_X0_at : GoodIn wsX8_bit (wsV RX8 143 RX0 yX0_at wsX0_at) := goodIn_app (goodIn_of _ (by decide +kernel)) ggX8_bit_X0_at
theorem dX8_bit_0 : decode cX8_bit 0 = .ok (.iload_n 1, 1) := by decide +kernel
theorem dX8_bit_1 : decode cX8_bit 1 = .ok (.iconst (-1), 1) := by decide +kernel
theorem dX8_bit_2 : decode cX8_bit 2 = .ok (.if_icmp .ge 6, 3) := by decide +kernel
theorem dX8_bit_5 : decode cX8_bit 5 = .ok (.bipush (-2), 2) := by decide +kernel
theorem dX8_bit_7 : decode cX8_bit 7 = .ok (.ireturn, 1) := by decide +kernel
theorem dX8_bit_8 : decode cX8_bit 8 = .ok (.iload_n 1, 1) := by decide +kernel
theorem dX8_bit_9 : decode cX8_bit 9 = .ok (.iconst (-1), 1) := by decide +kernel
theorem dX8_bit_10 : decode cX8_bit 10 = .ok (.if_icmp .ne 16, 3) := by decide +kernel
theorem dX8_bit_13 : decode cX8_bit 13 = .ok (.aload_n 0, 1) := by decide +kernel
theorem dX8_bit_14 : decode cX8_bit 14 = .ok (.getfield 10, 3) := by decide +kernel
theorem dX8_bit_17 : decode cX8_bit 17 = .ok (.getfield 152, 3) := by decide +kernel
theorem dX8_bit_20 : decode cX8_bit 20 = .ok (.getfield 140, 3) := by decide +kernel
theorem dX8_bit_23 : decode cX8_bit 23 = .ok (.goto 14, 3) := by decide +kernel
theorem dX8_bit_26 : decode cX8_bit 26 = .ok (.aload_n 0, 1) := by decide +kernel
theorem dX8_bit_27 : decode cX8_bit 27 = .ok (.getfield 10, 3) := by decide +kernel
theorem dX8_bit_30 : decode cX8_bit 30 = .ok (.getfield 152, 3) := by decide +kernel
theorem dX8_bit_33 : decode cX8_bit 33 = .ok (.iload_n 1, 1) := by decide +kernel
theorem dX8_bit_34 : decode cX8_bit 34 = .ok (.invokevirtual 143, 3) := by decide +kernel
theorem dX8_bit_37 : decode cX8_bit 37 = .ok (.ireturn, 1) := by decide +kernel
set_option maxRecDepth 20000 in
theorem ggX8_read_X5_takeAll : GoodIn wsX8_read wsX5_takeAll := goodIn_r _ [14, 15, 16, 17, 18, 19, 20, 21, 22, 23, 24, 25, 26, 27, 28, 29, 30, 31, 32, 33, 34, 35, 36, 37, 38, 39, 40, 41, 42, 43, 44, 45, 46, 47, 48, 49, 50, 51, 13, 52, 53, 54, 55, 56, 57, 58, 59, 60, 61, 62, 63, 64, 65, 66, 67, 68, 69, 70, 71, 72, 73, 74, 75, 76, 77, 78, 79, 80, 81, 82, 83, 84, 85, 86, 87, 88, 89, 90, 91, 92, 93, 94, 95, 96, 97, 98, 99, 100, 101, 102, 103, 104, 105, 106, 107, 108, 109, 110, 111, 112, 113, 114, 115, 116, 117, 118, 119, 151, 152, 153, 154, 155, 156, 157, 158, 159, 160, 161, 162, 163] (by decide +kernel) (by decide +kernel)
set_option maxRecDepth 20000 in
theorem gX8_read_X5_takeAll : GoodIn wsX8_read (wsV RX8 164 RX5 yX5_takeAll wsX5_takeAll) := goodIn_app (goodIn_of _ (by decide +kernel)) ggX8_read_X5_takeAll
set_option maxRecDepth 20000 in
theorem ggX8_read_X1_takeOver : GoodIn wsX8_read wsX1_takeOver := goodIn_r _ [123, 26, 27, 28, 161, 162, 163] (by decide +kernel) (by decide +kernel)
set_option maxRecDepth 20000 in
theorem gX8_read_X1_takeOver : GoodIn wsX8_read (wsV RX8 173 RX1 yX1_takeOver wsX1_takeOver) := goodIn_app (goodIn_of _ (by decide +kernel)) ggX8_read_X1_takeOver
set_option maxRecDepth 20000 in
theorem ggX8_read_X1_isTold : GoodIn wsX8_read wsX1_isTold := goodIn_r _ [38, 26, 161, 162, 163] (by decide +kernel) (by decide +kernel)
set_option maxRecDepth 20000 in
theorem gX8_read_X1_isTold : GoodIn wsX8_read (wsV RX8 178 RX1 yX1_isTold wsX1_isTold) := goodIn_app (goodIn_of _ (by decide +kernel)) ggX8_read_X1_isTold
set_option maxRecDepth 20000 in
theorem ggX8_read_X6_takeOver : GoodIn wsX8_read wsX6_takeOver := goodIn_r _ [128, 107, 106, 129, 130, 131, 132, 154, 155] (by decide +kernel) (by decide +kernel)
set_option maxRecDepth 20000 in
theorem gX8_read_X6_takeOver : GoodIn wsX8_read (wsV RX8 183 RX6 yX6_takeOver wsX6_takeOver) := goodIn_app (goodIn_of _ (by decide +kernel)) ggX8_read_X6_takeOver
set_option maxRecDepth 20000 in
theorem ggX8_read_X4_keepOnly : GoodIn wsX8_read wsX4_keepOnly := goodIn_r _ [137, 138, 139, 140, 141, 164, 165, 166, 167, 168, 169, 159, 160] (by decide +kernel) (by decide +kernel)
set_option maxRecDepth 20000 in
theorem gX8_read_X4_keepOnly : GoodIn wsX8_read (wsV RX8 61 RX4 yX4_keepOnly wsX4_keepOnly) := goodIn_app (goodIn_of _ (by decide +kernel)) ggX8_read_X4_keepOnly
theorem dX8_read_0 : decode cX8_read 0 = .ok (.iload_n 1, 1) := by decide +kernel
theorem dX8_read_1 : decode cX8_read 1 = .ok (.ifCond .lt 9, 3) := by decide +kernel
theorem dX8_read_4 : decode cX8_read 4 = .ok (.iload_n 1, 1) := by decide +kernel
theorem dX8_read_5 : decode cX8_read 5 = .ok (.bipush 64, 2) := by decide +kernel
theorem dX8_read_7 : decode cX8_read 7 = .ok (.if_icmp .le 6, 3) := by decide +kernel
theorem dX8_read_10 : decode cX8_read 10 = .ok (.bipush (-2), 2) := by decide +kernel
theorem dX8_read_12 : decode cX8_read 12 = .ok (.ireturn, 1) := by decide +kernel
theorem dX8_read_13 : decode cX8_read 13 = .ok (.aload_n 0, 1) := by decide +kernel
theorem dX8_read_14 : decode cX8_read 14 = .ok (.getfield 30, 3) := by decide +kernel
theorem dX8_read_17 : decode cX8_read 17 = .ok (.aload_n 0, 1) := by decide +kernel
theorem dX8_read_18 : decode cX8_read 18 = .ok (.getfield 10, 3) := by decide +kernel
theorem dX8_read_21 : decode cX8_read 21 = .ok (.getfield 48, 3) := by decide +kernel
theorem dX8_read_24 : decode cX8_read 24 = .ok (.aload_n 0, 1) := by decide +kernel
theorem dX8_read_25 : decode cX8_read 25 = .ok (.getfield 10, 3) := by decide +kernel
theorem dX8_read_28 : decode cX8_read 28 = .ok (.getfield 152, 3) := by decide +kernel
theorem dX8_read_31 : decode cX8_read 31 = .ok (.iload_n 1, 1) := by decide +kernel
theorem dX8_read_32 : decode cX8_read 32 = .ok (.invokevirtual 164, 3) := by decide +kernel
theorem dX8_read_35 : decode cX8_read 35 = .ok (.aload_n 0, 1) := by decide +kernel
theorem dX8_read_36 : decode cX8_read 36 = .ok (.getfield 10, 3) := by decide +kernel
theorem dX8_read_39 : decode cX8_read 39 = .ok (.getfield 168, 3) := by decide +kernel
theorem dX8_read_42 : decode cX8_read 42 = .ok (.aload_n 0, 1) := by decide +kernel
theorem dX8_read_43 : decode cX8_read 43 = .ok (.getfield 30, 3) := by decide +kernel
theorem dX8_read_46 : decode cX8_read 46 = .ok (.getfield 172, 3) := by decide +kernel
theorem dX8_read_49 : decode cX8_read 49 = .ok (.invokevirtual 173, 3) := by decide +kernel
theorem dX8_read_52 : decode cX8_read 52 = .ok (.aload_n 0, 1) := by decide +kernel
theorem dX8_read_53 : decode cX8_read 53 = .ok (.getfield 30, 3) := by decide +kernel
theorem dX8_read_56 : decode cX8_read 56 = .ok (.getfield 172, 3) := by decide +kernel
theorem dX8_read_59 : decode cX8_read 59 = .ok (.invokevirtual 178, 3) := by decide +kernel
theorem dX8_read_62 : decode cX8_read 62 = .ok (.ifCond .eq 6, 3) := by decide +kernel
theorem dX8_read_65 : decode cX8_read 65 = .ok (.bipush (-7), 2) := by decide +kernel
theorem dX8_read_67 : decode cX8_read 67 = .ok (.ireturn, 1) := by decide +kernel
theorem dX8_read_68 : decode cX8_read 68 = .ok (.aload_n 0, 1) := by decide +kernel
theorem dX8_read_69 : decode cX8_read 69 = .ok (.getfield 10, 3) := by decide +kernel
theorem dX8_read_72 : decode cX8_read 72 = .ok (.getfield 34, 3) := by decide +kernel
theorem dX8_read_75 : decode cX8_read 75 = .ok (.aload_n 0, 1) := by decide +kernel
theorem dX8_read_76 : decode cX8_read 76 = .ok (.getfield 30, 3) := by decide +kernel
theorem dX8_read_79 : decode cX8_read 79 = .ok (.getfield 182, 3) := by decide +kernel
theorem dX8_read_82 : decode cX8_read 82 = .ok (.invokevirtual 183, 3) := by decide +kernel
theorem dX8_read_85 : decode cX8_read 85 = .ok (.aload_n 0, 1) := by decide +kernel
theorem dX8_read_86 : decode cX8_read 86 = .ok (.getfield 23, 3) := by decide +kernel
theorem dX8_read_89 : decode cX8_read 89 = .ok (.iconst 0, 1) := by decide +kernel
theorem dX8_read_90 : decode cX8_read 90 = .ok (.invokevirtual 61, 3) := by decide +kernel
theorem dX8_read_93 : decode cX8_read 93 = .ok (.iload_n 1, 1) := by decide +kernel
theorem dX8_read_94 : decode cX8_read 94 = .ok (.ireturn, 1) := by decide +kernel
theorem dX8_fault_0 : decode cX8_fault 0 = .ok (.iload_n 1, 1) := by decide +kernel
theorem dX8_fault_1 : decode cX8_fault 1 = .ok (.tableswitch 60 0 2 #[27, 38, 49], 27) := by decide +kernel
theorem dX8_fault_28 : decode cX8_fault 28 = .ok (.aload_n 0, 1) := by decide +kernel
theorem dX8_fault_29 : decode cX8_fault 29 = .ok (.getfield 10, 3) := by decide +kernel
theorem dX8_fault_32 : decode cX8_fault 32 = .ok (.getfield 168, 3) := by decide +kernel
theorem dX8_fault_35 : decode cX8_fault 35 = .ok (.getfield 186, 3) := by decide +kernel
theorem dX8_fault_38 : decode cX8_fault 38 = .ok (.ireturn, 1) := by decide +kernel
theorem dX8_fault_39 : decode cX8_fault 39 = .ok (.aload_n 0, 1) := by decide +kernel
theorem dX8_fault_40 : decode cX8_fault 40 = .ok (.getfield 10, 3) := by decide +kernel
theorem dX8_fault_43 : decode cX8_fault 43 = .ok (.getfield 168, 3) := by decide +kernel
theorem dX8_fault_46 : decode cX8_fault 46 = .ok (.getfield 189, 3) := by decide +kernel
theorem dX8_fault_49 : decode cX8_fault 49 = .ok (.ireturn, 1) := by decide +kernel
theorem dX8_fault_50 : decode cX8_fault 50 = .ok (.aload_n 0, 1) := by decide +kernel
theorem dX8_fault_51 : decode cX8_fault 51 = .ok (.getfield 10, 3) := by decide +kernel
theorem dX8_fault_54 : decode cX8_fault 54 = .ok (.getfield 168, 3) := by decide +kernel
theorem dX8_fault_57 : decode cX8_fault 57 = .ok (.getfield 192, 3) := by decide +kernel
theorem dX8_fault_60 : decode cX8_fault 60 = .ok (.ireturn, 1) := by decide +kernel
theorem dX8_fault_61 : decode cX8_fault 61 = .ok (.bipush (-2), 2) := by decide +kernel
theorem dX8_fault_63 : decode cX8_fault 63 = .ok (.ireturn, 1) := by decide +kernel
set_option maxRecDepth 20000 in
theorem ggX8_image_X8_isImage : GoodIn wsX8_image wsX8_isImage := goodIn_r _ [7] (by decide +kernel) (by decide +kernel)
set_option maxRecDepth 20000 in
theorem gX8_image_X8_isImage : GoodIn wsX8_image (va_wsS RX8 195 yX8_isImage wsX8_isImage) := goodIn_app (goodIn_of _ (by decide +kernel)) ggX8_image_X8_isImage
set_option maxRecDepth 20000 in
theorem ggX8_image_X3_takeOver : GoodIn wsX8_image wsX3_takeOver := goodIn_r _ [12, 13, 14, 15, 16, 17, 18, 19, 20, 21, 22, 23, 24, 25, 26, 27, 28, 29, 30, 31, 32, 33, 34, 35, 36, 37, 38, 39, 40, 41, 42, 43, 44, 45, 46, 47, 48, 49, 50, 51, 57, 58, 59, 60, 61, 62, 63, 64, 65, 66, 67, 68, 69, 70] (by decide +kernel) (by decide +kernel)
set_option maxRecDepth 20000 in
theorem gX8_image_X3_takeOver : GoodIn wsX8_image (wsV RX8 198 RX3 yX3_takeOver wsX3_takeOver) := goodIn_app (goodIn_of _ (by decide +kernel)) ggX8_image_X3_takeOver
theorem dX8_image_0 : decode cX8_image 0 = .ok (.iload_n 1, 1) := by decide +kernel
theorem dX8_image_1 : decode cX8_image 1 = .ok (.invokestatic 195, 3) := by decide +kernel
theorem dX8_image_4 : decode cX8_image 4 = .ok (.ifCond .ne 6, 3) := by decide +kernel
theorem dX8_image_7 : decode cX8_image 7 = .ok (.bipush (-2), 2) := by decide +kernel
theorem dX8_image_9 : decode cX8_image 9 = .ok (.ireturn, 1) := by decide +kernel
theorem dX8_image_10 : decode cX8_image 10 = .ok (.aload_n 0, 1) := by decide +kernel
theorem dX8_image_11 : decode cX8_image 11 = .ok (.getfield 16, 3) := by decide +kernel
theorem dX8_image_14 : decode cX8_image 14 = .ok (.iload_n 1, 1) := by decide +kernel
theorem dX8_image_15 : decode cX8_image 15 = .ok (.aaload, 1) := by decide +kernel
theorem dX8_image_16 : decode cX8_image 16 = .ok (.aload_n 0, 1) := by decide +kernel
theorem dX8_image_17 : decode cX8_image 17 = .ok (.getfield 10, 3) := by decide +kernel
theorem dX8_image_20 : decode cX8_image 20 = .ok (.invokevirtual 198, 3) := by decide +kernel
theorem dX8_image_23 : decode cX8_image 23 = .ok (.aload_n 0, 1) := by decide +kernel
theorem dX8_image_24 : decode cX8_image 24 = .ok (.dup, 1) := by decide +kernel
theorem dX8_image_25 : decode cX8_image 25 = .ok (.getfield 201, 3) := by decide +kernel
theorem dX8_image_28 : decode cX8_image 28 = .ok (.iconst 1, 1) := by decide +kernel
theorem dX8_image_29 : decode cX8_image 29 = .ok (.iload_n 1, 1) := by decide +kernel
theorem dX8_image_30 : decode cX8_image 30 = .ok (.ishl, 1) := by decide +kernel
theorem dX8_image_31 : decode cX8_image 31 = .ok (.ior, 1) := by decide +kernel
theorem dX8_image_32 : decode cX8_image 32 = .ok (.putfield 201, 3) := by decide +kernel
theorem dX8_image_35 : decode cX8_image 35 = .ok (.iconst 1, 1) := by decide +kernel
theorem dX8_image_36 : decode cX8_image 36 = .ok (.ireturn, 1) := by decide +kernel
set_option maxRecDepth 20000 in
theorem ggX8_restore_X8_isImage : GoodIn wsX8_restore wsX8_isImage := goodIn_r _ [8] (by decide +kernel) (by decide +kernel)
set_option maxRecDepth 20000 in
theorem gX8_restore_X8_isImage : GoodIn wsX8_restore (va_wsS RX8 195 yX8_isImage wsX8_isImage) := goodIn_app (goodIn_of _ (by decide +kernel)) ggX8_restore_X8_isImage
set_option maxRecDepth 20000 in
theorem ggX8_restore_X3_takeOver : GoodIn wsX8_restore wsX3_takeOver := goodIn_r _ [13, 14, 15, 16, 17, 18, 19, 20, 21, 22, 23, 24, 25, 26, 27, 28, 29, 30, 31, 32, 33, 34, 35, 36, 37, 38, 39, 40, 41, 42, 43, 44, 45, 46, 47, 48, 49, 50, 51, 52, 67, 68, 69, 70, 71, 72, 73, 74, 75, 76, 77, 78, 79, 80] (by decide +kernel) (by decide +kernel)
set_option maxRecDepth 20000 in
theorem gX8_restore_X3_takeOver : GoodIn wsX8_restore (wsV RX8 198 RX3 yX3_takeOver wsX3_takeOver) := goodIn_app (goodIn_of _ (by decide +kernel)) ggX8_restore_X3_takeOver
set_option maxRecDepth 20000 in
theorem ggX8_restore_X4_keepOnly : GoodIn wsX8_restore wsX4_keepOnly := goodIn_r _ [57, 58, 59, 60, 61, 81, 82, 83, 84, 85, 86, 76, 77] (by decide +kernel) (by decide +kernel)
set_option maxRecDepth 20000 in
theorem gX8_restore_X4_keepOnly : GoodIn wsX8_restore (wsV RX8 61 RX4 yX4_keepOnly wsX4_keepOnly) := goodIn_app (goodIn_of _ (by decide +kernel)) ggX8_restore_X4_keepOnly
theorem dX8_restore_0 : decode cX8_restore 0 = .ok (.iload_n 1, 1) := by decide +kernel
theorem dX8_restore_1 : decode cX8_restore 1 = .ok (.invokestatic 195, 3) := by decide +kernel
theorem dX8_restore_4 : decode cX8_restore 4 = .ok (.ifCond .ne 6, 3) := by decide +kernel
theorem dX8_restore_7 : decode cX8_restore 7 = .ok (.bipush (-2), 2) := by decide +kernel
theorem dX8_restore_9 : decode cX8_restore 9 = .ok (.ireturn, 1) := by decide +kernel
theorem dX8_restore_10 : decode cX8_restore 10 = .ok (.aload_n 0, 1) := by decide +kernel
theorem dX8_restore_11 : decode cX8_restore 11 = .ok (.getfield 201, 3) := by decide +kernel
theorem dX8_restore_14 : decode cX8_restore 14 = .ok (.iload_n 1, 1) := by decide +kernel
theorem dX8_restore_15 : decode cX8_restore 15 = .ok (.ishr, 1) := by decide +kernel
theorem dX8_restore_16 : decode cX8_restore 16 = .ok (.iconst 1, 1) := by decide +kernel
theorem dX8_restore_17 : decode cX8_restore 17 = .ok (.iand, 1) := by decide +kernel
theorem dX8_restore_18 : decode cX8_restore 18 = .ok (.ifCond .ne 6, 3) := by decide +kernel
theorem dX8_restore_21 : decode cX8_restore 21 = .ok (.bipush (-3), 2) := by decide +kernel
theorem dX8_restore_23 : decode cX8_restore 23 = .ok (.ireturn, 1) := by decide +kernel
theorem dX8_restore_24 : decode cX8_restore 24 = .ok (.aload_n 0, 1) := by decide +kernel
theorem dX8_restore_25 : decode cX8_restore 25 = .ok (.getfield 10, 3) := by decide +kernel
theorem dX8_restore_28 : decode cX8_restore 28 = .ok (.aload_n 0, 1) := by decide +kernel
theorem dX8_restore_29 : decode cX8_restore 29 = .ok (.getfield 16, 3) := by decide +kernel
theorem dX8_restore_32 : decode cX8_restore 32 = .ok (.iload_n 1, 1) := by decide +kernel
theorem dX8_restore_33 : decode cX8_restore 33 = .ok (.aaload, 1) := by decide +kernel
theorem dX8_restore_34 : decode cX8_restore 34 = .ok (.invokevirtual 198, 3) := by decide +kernel
theorem dX8_restore_37 : decode cX8_restore 37 = .ok (.aload_n 0, 1) := by decide +kernel
theorem dX8_restore_38 : decode cX8_restore 38 = .ok (.getfield 23, 3) := by decide +kernel
theorem dX8_restore_41 : decode cX8_restore 41 = .ok (.iconst 0, 1) := by decide +kernel
theorem dX8_restore_42 : decode cX8_restore 42 = .ok (.invokevirtual 61, 3) := by decide +kernel
theorem dX8_restore_45 : decode cX8_restore 45 = .ok (.iconst 1, 1) := by decide +kernel
theorem dX8_restore_46 : decode cX8_restore 46 = .ok (.ireturn, 1) := by decide +kernel
set_option maxRecDepth 20000 in
theorem ggX8_count_X8_blocks : GoodIn wsX8_count wsX8_blocks := goodIn_r _ [14, 1, 2, 3, 4, 15, 16, 17, 13, 18, 19, 20, 21, 143, 144, 145, 146, 147, 148, 149, 150, 151, 152, 153, 162, 163, 164] (by decide +kernel) (by decide +kernel)
set_option maxRecDepth 20000 in
theorem gX8_count_X8_blocks : GoodIn wsX8_count (wsV RX8 204 RX8 yX8_blocks wsX8_blocks) := goodIn_app (goodIn_of _ (by decide +kernel)) ggX8_count_X8_blocks
set_option maxRecDepth 20000 in
theorem ggX8_count_X7_segmentSize : GoodIn wsX8_count wsX7_segmentSize := goodIn_r _ [26, 27, 28, 162, 163, 164] (by decide +kernel) (by decide +kernel)
set_option maxRecDepth 20000 in
theorem gX8_count_X7_segmentSize : GoodIn wsX8_count (wsV RX8 144 RX7 yX7_segmentSize wsX7_segmentSize) := goodIn_app (goodIn_of _ (by decide +kernel)) ggX8_count_X7_segmentSize
set_option maxRecDepth 20000 in
theorem ggX8_count_X8_quotientUp : GoodIn wsX8_count wsX8_quotientUp := goodIn_r _ [18, 19, 20, 13, 21] (by decide +kernel) (by decide +kernel)
set_option maxRecDepth 20000 in
theorem gX8_count_X8_quotientUp : GoodIn wsX8_count (va_wsS RX8 207 yX8_quotientUp wsX8_quotientUp) := goodIn_app (goodIn_of _ (by decide +kernel)) ggX8_count_X8_quotientUp
set_option maxRecDepth 20000 in
theorem ggX8_count_X8_settleAll : GoodIn wsX8_count wsX8_settleAll := goodIn_r _ [32, 5, 1, 4, 2, 10, 11, 12, 13, 14, 3, 15, 16, 17, 18, 19, 20, 21, 33, 34, 35, 36, 37, 38, 39, 40, 41, 42, 43, 44, 45, 46, 47, 48, 49, 50, 51, 52, 53, 54, 55, 56, 57, 58, 59, 60, 61, 62, 63, 64, 65, 66, 67, 68, 69, 25, 70, 27, 71, 72, 73, 74, 75, 28, 76, 77, 78, 79, 80, 81, 82, 83, 84, 85, 86, 87, 88, 89, 90, 91, 92, 93, 94, 95, 96, 97, 98, 99, 100, 101, 102, 103, 104, 105, 106, 107, 108, 109, 110, 111, 112, 113, 114, 115, 116, 117, 118, 119, 120, 121, 122, 123, 124, 125, 126, 127, 128, 129, 130, 131, 132, 133, 134, 143, 144, 145, 146, 147, 148, 149, 150, 151, 152, 153, 162, 163, 164, 154, 155, 156, 157, 158, 159, 160, 161, 165, 166, 167, 168, 169, 170] (by decide +kernel) (by decide +kernel)
set_option maxRecDepth 20000 in
theorem gX8_count_X8_settleAll : GoodIn wsX8_count (wsV RX8 133 RX8 yX8_settleAll wsX8_settleAll) := goodIn_app (goodIn_of _ (by decide +kernel)) ggX8_count_X8_settleAll
set_option maxRecDepth 20000 in
theorem ggX8_count_X7_value : GoodIn wsX8_count wsX7_value := goodIn_r _ [138, 99, 27, 28, 162, 163, 164] (by decide +kernel) (by decide +kernel)
set_option maxRecDepth 20000 in
theorem gX8_count_X7_value : GoodIn wsX8_count (wsV RX8 52 RX7 yX7_value wsX7_value) := goodIn_app (goodIn_of _ (by decide +kernel)) ggX8_count_X7_value
set_option maxRecDepth 20000 in
theorem ggX8_count_X4_settledWith : GoodIn wsX8_count wsX4_settledWith := goodIn_r _ [142, 42, 46, 154, 155, 156, 157, 158, 159] (by decide +kernel) (by decide +kernel)
set_option maxRecDepth 20000 in
theorem gX8_count_X4_settledWith : GoodIn wsX8_count (wsV RX8 210 RX4 yX4_settledWith wsX4_settledWith) := goodIn_app (goodIn_of _ (by decide +kernel)) ggX8_count_X4_settledWith
theorem dX8_count_0 : decode cX8_count 0 = .ok (.iload_n 1, 1) := by decide +kernel
theorem dX8_count_1 : decode cX8_count 1 = .ok (.tableswitch 153 0 9 #[55, 66, 71, 95, 110, 121, 121, 121, 135, 148], 55) := by decide +kernel
theorem dX8_count_56 : decode cX8_count 56 = .ok (.aload_n 0, 1) := by decide +kernel
theorem dX8_count_57 : decode cX8_count 57 = .ok (.getfield 10, 3) := by decide +kernel
theorem dX8_count_60 : decode cX8_count 60 = .ok (.getfield 34, 3) := by decide +kernel
theorem dX8_count_63 : decode cX8_count 63 = .ok (.getfield 68, 3) := by decide +kernel
theorem dX8_count_66 : decode cX8_count 66 = .ok (.ireturn, 1) := by decide +kernel
theorem dX8_count_67 : decode cX8_count 67 = .ok (.aload_n 0, 1) := by decide +kernel
theorem dX8_count_68 : decode cX8_count 68 = .ok (.invokevirtual 204, 3) := by decide +kernel
theorem dX8_count_71 : decode cX8_count 71 = .ok (.ireturn, 1) := by decide +kernel
theorem dX8_count_72 : decode cX8_count 72 = .ok (.aload_n 0, 1) := by decide +kernel
theorem dX8_count_73 : decode cX8_count 73 = .ok (.getfield 10, 3) := by decide +kernel
theorem dX8_count_76 : decode cX8_count 76 = .ok (.getfield 34, 3) := by decide +kernel
theorem dX8_count_79 : decode cX8_count 79 = .ok (.getfield 68, 3) := by decide +kernel
theorem dX8_count_82 : decode cX8_count 82 = .ok (.aload_n 0, 1) := by decide +kernel
theorem dX8_count_83 : decode cX8_count 83 = .ok (.getfield 10, 3) := by decide +kernel
theorem dX8_count_86 : decode cX8_count 86 = .ok (.getfield 48, 3) := by decide +kernel
theorem dX8_count_89 : decode cX8_count 89 = .ok (.invokevirtual 144, 3) := by decide +kernel
theorem dX8_count_92 : decode cX8_count 92 = .ok (.invokestatic 207, 3) := by decide +kernel
theorem dX8_count_95 : decode cX8_count 95 = .ok (.ireturn, 1) := by decide +kernel
theorem dX8_count_96 : decode cX8_count 96 = .ok (.aload_n 0, 1) := by decide +kernel
theorem dX8_count_97 : decode cX8_count 97 = .ok (.invokevirtual 133, 3) := by decide +kernel
theorem dX8_count_100 : decode cX8_count 100 = .ok (.aload_n 0, 1) := by decide +kernel
theorem dX8_count_101 : decode cX8_count 101 = .ok (.getfield 23, 3) := by decide +kernel
theorem dX8_count_104 : decode cX8_count 104 = .ok (.getfield 136, 3) := by decide +kernel
theorem dX8_count_107 : decode cX8_count 107 = .ok (.getfield 140, 3) := by decide +kernel
theorem dX8_count_110 : decode cX8_count 110 = .ok (.ireturn, 1) := by decide +kernel
theorem dX8_count_111 : decode cX8_count 111 = .ok (.aload_n 0, 1) := by decide +kernel
theorem dX8_count_112 : decode cX8_count 112 = .ok (.getfield 10, 3) := by decide +kernel
theorem dX8_count_115 : decode cX8_count 115 = .ok (.getfield 152, 3) := by decide +kernel
theorem dX8_count_118 : decode cX8_count 118 = .ok (.getfield 140, 3) := by decide +kernel
theorem dX8_count_121 : decode cX8_count 121 = .ok (.ireturn, 1) := by decide +kernel
theorem dX8_count_122 : decode cX8_count 122 = .ok (.aload_n 0, 1) := by decide +kernel
theorem dX8_count_123 : decode cX8_count 123 = .ok (.getfield 10, 3) := by decide +kernel
theorem dX8_count_126 : decode cX8_count 126 = .ok (.getfield 48, 3) := by decide +kernel
theorem dX8_count_129 : decode cX8_count 129 = .ok (.iload_n 1, 1) := by decide +kernel
theorem dX8_count_130 : decode cX8_count 130 = .ok (.iconst 5, 1) := by decide +kernel
theorem dX8_count_131 : decode cX8_count 131 = .ok (.isub, 1) := by decide +kernel
theorem dX8_count_132 : decode cX8_count 132 = .ok (.invokevirtual 52, 3) := by decide +kernel
theorem dX8_count_135 : decode cX8_count 135 = .ok (.ireturn, 1) := by decide +kernel
theorem dX8_count_136 : decode cX8_count 136 = .ok (.aload_n 0, 1) := by decide +kernel
theorem dX8_count_137 : decode cX8_count 137 = .ok (.invokevirtual 133, 3) := by decide +kernel
theorem dX8_count_140 : decode cX8_count 140 = .ok (.aload_n 0, 1) := by decide +kernel
theorem dX8_count_141 : decode cX8_count 141 = .ok (.getfield 23, 3) := by decide +kernel
theorem dX8_count_144 : decode cX8_count 144 = .ok (.iconst 0, 1) := by decide +kernel
theorem dX8_count_145 : decode cX8_count 145 = .ok (.invokevirtual 210, 3) := by decide +kernel
theorem dX8_count_148 : decode cX8_count 148 = .ok (.ireturn, 1) := by decide +kernel
theorem dX8_count_149 : decode cX8_count 149 = .ok (.aload_n 0, 1) := by decide +kernel
theorem dX8_count_150 : decode cX8_count 150 = .ok (.getfield 201, 3) := by decide +kernel
theorem dX8_count_153 : decode cX8_count 153 = .ok (.ireturn, 1) := by decide +kernel
theorem dX8_count_154 : decode cX8_count 154 = .ok (.bipush (-2), 2) := by decide +kernel
theorem dX8_count_156 : decode cX8_count 156 = .ok (.ireturn, 1) := by decide +kernel
set_option maxRecDepth 20000 in
theorem ggX8_blocks_X8_quotientUp : GoodIn wsX8_blocks wsX8_quotientUp := goodIn_r _ [9, 10, 11, 8, 12] (by decide +kernel) (by decide +kernel)
set_option maxRecDepth 20000 in
theorem gX8_blocks_X8_quotientUp : GoodIn wsX8_blocks (va_wsS RX8 207 yX8_quotientUp wsX8_quotientUp) := goodIn_app (goodIn_of _ (by decide +kernel)) ggX8_blocks_X8_quotientUp
theorem dX8_blocks_0 : decode cX8_blocks 0 = .ok (.aload_n 0, 1) := by decide +kernel
theorem dX8_blocks_1 : decode cX8_blocks 1 = .ok (.getfield 10, 3) := by decide +kernel
theorem dX8_blocks_4 : decode cX8_blocks 4 = .ok (.getfield 34, 3) := by decide +kernel
theorem dX8_blocks_7 : decode cX8_blocks 7 = .ok (.getfield 68, 3) := by decide +kernel
theorem dX8_blocks_10 : decode cX8_blocks 10 = .ok (.aload_n 0, 1) := by decide +kernel
theorem dX8_blocks_11 : decode cX8_blocks 11 = .ok (.getfield 10, 3) := by decide +kernel
theorem dX8_blocks_14 : decode cX8_blocks 14 = .ok (.getfield 48, 3) := by decide +kernel
theorem dX8_blocks_17 : decode cX8_blocks 17 = .ok (.getfield 124, 3) := by decide +kernel
theorem dX8_blocks_20 : decode cX8_blocks 20 = .ok (.invokestatic 207, 3) := by decide +kernel
theorem dX8_blocks_23 : decode cX8_blocks 23 = .ok (.ireturn, 1) := by decide +kernel
set_option maxRecDepth 20000 in
theorem ggX8_hasBlock_X8_blocks : GoodIn wsX8_hasBlock wsX8_blocks := goodIn_r _ [5, 6, 7, 8, 9, 10, 11, 12, 4, 13, 14, 15, 16, 17, 18, 19, 20, 21, 22, 23, 24, 25, 26, 27, 28, 29, 30] (by decide +kernel) (by decide +kernel)
set_option maxRecDepth 20000 in
theorem gX8_hasBlock_X8_blocks : GoodIn wsX8_hasBlock (wsV RX8 204 RX8 yX8_blocks wsX8_blocks) := goodIn_app (goodIn_of _ (by decide +kernel)) ggX8_hasBlock_X8_blocks
theorem dX8_hasBlock_0 : decode cX8_hasBlock 0 = .ok (.iload_n 1, 1) := by decide +kernel
theorem dX8_hasBlock_1 : decode cX8_hasBlock 1 = .ok (.ifCond .lt 15, 3) := by decide +kernel
theorem dX8_hasBlock_4 : decode cX8_hasBlock 4 = .ok (.iload_n 1, 1) := by decide +kernel
theorem dX8_hasBlock_5 : decode cX8_hasBlock 5 = .ok (.aload_n 0, 1) := by decide +kernel
theorem dX8_hasBlock_6 : decode cX8_hasBlock 6 = .ok (.invokevirtual 204, 3) := by decide +kernel
theorem dX8_hasBlock_9 : decode cX8_hasBlock 9 = .ok (.if_icmp .ge 7, 3) := by decide +kernel
theorem dX8_hasBlock_12 : decode cX8_hasBlock 12 = .ok (.iconst 1, 1) := by decide +kernel
theorem dX8_hasBlock_13 : decode cX8_hasBlock 13 = .ok (.goto 4, 3) := by decide +kernel
theorem dX8_hasBlock_16 : decode cX8_hasBlock 16 = .ok (.iconst 0, 1) := by decide +kernel
theorem dX8_hasBlock_17 : decode cX8_hasBlock 17 = .ok (.ireturn, 1) := by decide +kernel
set_option maxRecDepth 20000 in
theorem ggX8_settleAll_X8_blocks : GoodIn wsX8_settleAll wsX8_blocks := goodIn_r _ [9, 2, 4, 10, 3, 11, 12, 13, 8, 14, 15, 16, 17, 123, 124, 125, 126, 127, 128, 129, 130, 131, 132, 133, 134, 135, 136] (by decide +kernel) (by decide +kernel)
set_option maxRecDepth 20000 in
theorem gX8_settleAll_X8_blocks : GoodIn wsX8_settleAll (wsV RX8 204 RX8 yX8_blocks wsX8_blocks) := goodIn_app (goodIn_of _ (by decide +kernel)) ggX8_settleAll_X8_blocks
set_option maxRecDepth 20000 in
theorem ggX8_settleAll_X4_settle : GoodIn wsX8_settleAll wsX4_settle := goodIn_r _ [22, 23, 24, 25, 26, 27, 28, 29, 30, 31, 32, 33, 34, 35, 36, 21, 37, 38, 39, 40, 41, 42, 43, 44, 45, 46, 47, 48, 49, 50, 51, 52, 53, 54, 55, 56, 57, 58, 59, 60, 61, 62, 63, 64, 65, 66, 67, 68, 69, 70, 71, 8, 72, 73, 74, 75, 76, 77, 78, 79, 80, 81, 82, 83, 84, 85, 86, 87, 88, 89, 90, 91, 92, 93, 94, 95, 96, 97, 98, 99, 100, 101, 102, 103, 104, 105, 106, 107, 108, 109, 110, 111, 112, 113, 114, 115, 116, 117, 118, 119, 120, 121, 122, 137, 138, 139, 140, 141, 142, 143, 144, 134, 135, 136, 132, 133, 145, 146, 147, 148, 149, 150] (by decide +kernel) (by decide +kernel)
set_option maxRecDepth 20000 in
theorem gX8_settleAll_X4_settle : GoodIn wsX8_settleAll (wsV RX8 106 RX4 yX4_settle wsX4_settle) := goodIn_app (goodIn_of _ (by decide +kernel)) ggX8_settleAll_X4_settle
theorem dX8_settleAll_0 : decode cX8_settleAll 0 = .ok (.aload_n 0, 1) := by decide +kernel
theorem dX8_settleAll_1 : decode cX8_settleAll 1 = .ok (.getfield 23, 3) := by decide +kernel
theorem dX8_settleAll_4 : decode cX8_settleAll 4 = .ok (.aload_n 0, 1) := by decide +kernel
theorem dX8_settleAll_5 : decode cX8_settleAll 5 = .ok (.getfield 10, 3) := by decide +kernel
theorem dX8_settleAll_8 : decode cX8_settleAll 8 = .ok (.getfield 48, 3) := by decide +kernel
theorem dX8_settleAll_11 : decode cX8_settleAll 11 = .ok (.aload_n 0, 1) := by decide +kernel
theorem dX8_settleAll_12 : decode cX8_settleAll 12 = .ok (.getfield 10, 3) := by decide +kernel
theorem dX8_settleAll_15 : decode cX8_settleAll 15 = .ok (.getfield 34, 3) := by decide +kernel
theorem dX8_settleAll_18 : decode cX8_settleAll 18 = .ok (.aload_n 0, 1) := by decide +kernel
theorem dX8_settleAll_19 : decode cX8_settleAll 19 = .ok (.invokevirtual 204, 3) := by decide +kernel
theorem dX8_settleAll_22 : decode cX8_settleAll 22 = .ok (.invokevirtual 106, 3) := by decide +kernel
theorem dX8_settleAll_25 : decode cX8_settleAll 25 = .ok (.return_, 1) := by decide +kernel
theorem dX8_isWay_0 : decode cX8_isWay 0 = .ok (.iload_n 0, 1) := by decide +kernel
theorem dX8_isWay_1 : decode cX8_isWay 1 = .ok (.ifCond .lt 12, 3) := by decide +kernel
theorem dX8_isWay_4 : decode cX8_isWay 4 = .ok (.iload_n 0, 1) := by decide +kernel
theorem dX8_isWay_5 : decode cX8_isWay 5 = .ok (.iconst 4, 1) := by decide +kernel
theorem dX8_isWay_6 : decode cX8_isWay 6 = .ok (.if_icmp .ge 7, 3) := by decide +kernel
theorem dX8_isWay_9 : decode cX8_isWay 9 = .ok (.iconst 1, 1) := by decide +kernel
theorem dX8_isWay_10 : decode cX8_isWay 10 = .ok (.goto 4, 3) := by decide +kernel
theorem dX8_isWay_13 : decode cX8_isWay 13 = .ok (.iconst 0, 1) := by decide +kernel
theorem dX8_isWay_14 : decode cX8_isWay 14 = .ok (.ireturn, 1) := by decide +kernel
theorem dX8_isImage_0 : decode cX8_isImage 0 = .ok (.iload_n 0, 1) := by decide +kernel
theorem dX8_isImage_1 : decode cX8_isImage 1 = .ok (.ifCond .lt 12, 3) := by decide +kernel
theorem dX8_isImage_4 : decode cX8_isImage 4 = .ok (.iload_n 0, 1) := by decide +kernel
theorem dX8_isImage_5 : decode cX8_isImage 5 = .ok (.iconst 2, 1) := by decide +kernel
theorem dX8_isImage_6 : decode cX8_isImage 6 = .ok (.if_icmp .ge 7, 3) := by decide +kernel
theorem dX8_isImage_9 : decode cX8_isImage 9 = .ok (.iconst 1, 1) := by decide +kernel
theorem dX8_isImage_10 : decode cX8_isImage 10 = .ok (.goto 4, 3) := by decide +kernel
theorem dX8_isImage_13 : decode cX8_isImage 13 = .ok (.iconst 0, 1) := by decide +kernel
theorem dX8_isImage_14 : decode cX8_isImage 14 = .ok (.ireturn, 1) := by decide +kernel
theorem dX8_topOf_0 : decode cX8_topOf 0 = .ok (.iconst 1, 1) := by decide +kernel
theorem dX8_topOf_1 : decode cX8_topOf 1 = .ok (.iload_n 0, 1) := by decide +kernel
theorem dX8_topOf_2 : decode cX8_topOf 2 = .ok (.ishl, 1) := by decide +kernel
theorem dX8_topOf_3 : decode cX8_topOf 3 = .ok (.iconst 1, 1) := by decide +kernel
theorem dX8_topOf_4 : decode cX8_topOf 4 = .ok (.isub, 1) := by decide +kernel
theorem dX8_topOf_5 : decode cX8_topOf 5 = .ok (.ireturn, 1) := by decide +kernel
theorem dX8_quotient_0 : decode cX8_quotient 0 = .ok (.iload_n 1, 1) := by decide +kernel
theorem dX8_quotient_1 : decode cX8_quotient 1 = .ok (.iconst 1, 1) := by decide +kernel
theorem dX8_quotient_2 : decode cX8_quotient 2 = .ok (.if_icmp .ge 7, 3) := by decide +kernel
theorem dX8_quotient_5 : decode cX8_quotient 5 = .ok (.iconst 0, 1) := by decide +kernel
theorem dX8_quotient_6 : decode cX8_quotient 6 = .ok (.goto 6, 3) := by decide +kernel
theorem dX8_quotient_9 : decode cX8_quotient 9 = .ok (.iload_n 0, 1) := by decide +kernel
theorem dX8_quotient_10 : decode cX8_quotient 10 = .ok (.iload_n 1, 1) := by decide +kernel
theorem dX8_quotient_11 : decode cX8_quotient 11 = .ok (.idiv, 1) := by decide +kernel
theorem dX8_quotient_12 : decode cX8_quotient 12 = .ok (.ireturn, 1) := by decide +kernel
set_option maxRecDepth 20000 in
theorem ggX8_quotientUp_X8_quotient : GoodIn wsX8_quotientUp wsX8_quotient := goodIn_r _ [4] (by decide +kernel) (by decide +kernel)
set_option maxRecDepth 20000 in
theorem gX8_quotientUp_X8_quotient : GoodIn wsX8_quotientUp (va_wsS RX8 130 yX8_quotient wsX8_quotient) := goodIn_app (goodIn_of _ (by decide +kernel)) ggX8_quotientUp_X8_quotient
theorem dX8_quotientUp_0 : decode cX8_quotientUp 0 = .ok (.iload_n 0, 1) := by decide +kernel
theorem dX8_quotientUp_1 : decode cX8_quotientUp 1 = .ok (.iload_n 1, 1) := by decide +kernel
theorem dX8_quotientUp_2 : decode cX8_quotientUp 2 = .ok (.iadd, 1) := by decide +kernel
theorem dX8_quotientUp_3 : decode cX8_quotientUp 3 = .ok (.iconst 1, 1) := by decide +kernel
theorem dX8_quotientUp_4 : decode cX8_quotientUp 4 = .ok (.isub, 1) := by decide +kernel
theorem dX8_quotientUp_5 : decode cX8_quotientUp 5 = .ok (.iload_n 1, 1) := by decide +kernel
theorem dX8_quotientUp_6 : decode cX8_quotientUp 6 = .ok (.invokestatic 130, 3) := by decide +kernel
theorem dX8_quotientUp_9 : decode cX8_quotientUp 9 = .ok (.ireturn, 1) := by decide +kernel
set_option maxRecDepth 20000 in
theorem ggX8_toldAhead_X8_topOf : GoodIn wsX8_toldAhead wsX8_topOf := goodIn_r _ [12] (by decide +kernel) (by decide +kernel)
set_option maxRecDepth 20000 in
theorem gX8_toldAhead_X8_topOf : GoodIn wsX8_toldAhead (va_wsS RX8 44 yX8_topOf wsX8_topOf) := goodIn_app (goodIn_of _ (by decide +kernel)) ggX8_toldAhead_X8_topOf
set_option maxRecDepth 20000 in
theorem ggX8_toldAhead_X6_at : GoodIn wsX8_toldAhead wsX6_at := goodIn_r _ [17, 18, 19, 30, 31] (by decide +kernel) (by decide +kernel)
set_option maxRecDepth 20000 in
theorem gX8_toldAhead_X6_at : GoodIn wsX8_toldAhead (wsV RX8 78 RX6 yX6_at wsX6_at) := goodIn_app (goodIn_of _ (by decide +kernel)) ggX8_toldAhead_X6_at
set_option maxRecDepth 20000 in
theorem ggX8_toldAhead_X7_isBare : GoodIn wsX8_toldAhead wsX7_isBare := goodIn_r _ [24, 25, 26, 27, 28, 29] (by decide +kernel) (by decide +kernel)
set_option maxRecDepth 20000 in
theorem gX8_toldAhead_X7_isBare : GoodIn wsX8_toldAhead (wsV RX8 88 RX7 yX7_isBare wsX7_isBare) := goodIn_app (goodIn_of _ (by decide +kernel)) ggX8_toldAhead_X7_isBare
theorem dX8_toldAhead_0 : decode cX8_toldAhead 0 = .ok (.aload_n 0, 1) := by decide +kernel
theorem dX8_toldAhead_1 : decode cX8_toldAhead 1 = .ok (.getfield 213, 3) := by decide +kernel
theorem dX8_toldAhead_4 : decode cX8_toldAhead 4 = .ok (.invokestatic 44, 3) := by decide +kernel
theorem dX8_toldAhead_7 : decode cX8_toldAhead 7 = .ok (.istore 4, 2) := by decide +kernel
theorem dX8_toldAhead_9 : decode cX8_toldAhead 9 = .ok (.aload_n 1, 1) := by decide +kernel
theorem dX8_toldAhead_10 : decode cX8_toldAhead 10 = .ok (.iload_n 2, 1) := by decide +kernel
theorem dX8_toldAhead_11 : decode cX8_toldAhead 11 = .ok (.iconst 1, 1) := by decide +kernel
theorem dX8_toldAhead_12 : decode cX8_toldAhead 12 = .ok (.isub, 1) := by decide +kernel
theorem dX8_toldAhead_13 : decode cX8_toldAhead 13 = .ok (.invokevirtual 78, 3) := by decide +kernel
theorem dX8_toldAhead_16 : decode cX8_toldAhead 16 = .ok (.istore 5, 2) := by decide +kernel
theorem dX8_toldAhead_18 : decode cX8_toldAhead 18 = .ok (.aload_n 0, 1) := by decide +kernel
theorem dX8_toldAhead_19 : decode cX8_toldAhead 19 = .ok (.iload_n 2, 1) := by decide +kernel
theorem dX8_toldAhead_20 : decode cX8_toldAhead 20 = .ok (.iconst 1, 1) := by decide +kernel
theorem dX8_toldAhead_21 : decode cX8_toldAhead 21 = .ok (.isub, 1) := by decide +kernel
theorem dX8_toldAhead_22 : decode cX8_toldAhead 22 = .ok (.invokevirtual 88, 3) := by decide +kernel
theorem dX8_toldAhead_25 : decode cX8_toldAhead 25 = .ok (.ifCond .eq 8, 3) := by decide +kernel
theorem dX8_toldAhead_28 : decode cX8_toldAhead 28 = .ok (.iload 5, 2) := by decide +kernel
theorem dX8_toldAhead_30 : decode cX8_toldAhead 30 = .ok (.goto 10, 3) := by decide +kernel
theorem dX8_toldAhead_33 : decode cX8_toldAhead 33 = .ok (.aload_n 1, 1) := by decide +kernel
theorem dX8_toldAhead_34 : decode cX8_toldAhead 34 = .ok (.iload_n 2, 1) := by decide +kernel
theorem dX8_toldAhead_35 : decode cX8_toldAhead 35 = .ok (.iconst 2, 1) := by decide +kernel
theorem dX8_toldAhead_36 : decode cX8_toldAhead 36 = .ok (.isub, 1) := by decide +kernel
theorem dX8_toldAhead_37 : decode cX8_toldAhead 37 = .ok (.invokevirtual 78, 3) := by decide +kernel
theorem dX8_toldAhead_40 : decode cX8_toldAhead 40 = .ok (.istore 6, 2) := by decide +kernel
theorem dX8_toldAhead_42 : decode cX8_toldAhead 42 = .ok (.iload_n 3, 1) := by decide +kernel
theorem dX8_toldAhead_43 : decode cX8_toldAhead 43 = .ok (.tableswitch 52 0 2 #[25, 32, 35], 25) := by decide +kernel
theorem dX8_toldAhead_68 : decode cX8_toldAhead 68 = .ok (.iload 4, 2) := by decide +kernel
theorem dX8_toldAhead_70 : decode cX8_toldAhead 70 = .ok (.iconst 1, 1) := by decide +kernel
theorem dX8_toldAhead_71 : decode cX8_toldAhead 71 = .ok (.iadd, 1) := by decide +kernel
theorem dX8_toldAhead_72 : decode cX8_toldAhead 72 = .ok (.iconst 2, 1) := by decide +kernel
theorem dX8_toldAhead_73 : decode cX8_toldAhead 73 = .ok (.idiv, 1) := by decide +kernel
theorem dX8_toldAhead_74 : decode cX8_toldAhead 74 = .ok (.ireturn, 1) := by decide +kernel
theorem dX8_toldAhead_75 : decode cX8_toldAhead 75 = .ok (.iload 5, 2) := by decide +kernel
theorem dX8_toldAhead_77 : decode cX8_toldAhead 77 = .ok (.ireturn, 1) := by decide +kernel
theorem dX8_toldAhead_78 : decode cX8_toldAhead 78 = .ok (.iconst 0, 1) := by decide +kernel
theorem dX8_toldAhead_79 : decode cX8_toldAhead 79 = .ok (.iload 4, 2) := by decide +kernel
theorem dX8_toldAhead_81 : decode cX8_toldAhead 81 = .ok (.iconst 2, 1) := by decide +kernel
theorem dX8_toldAhead_82 : decode cX8_toldAhead 82 = .ok (.iload 5, 2) := by decide +kernel
theorem dX8_toldAhead_84 : decode cX8_toldAhead 84 = .ok (.imul, 1) := by decide +kernel
theorem dX8_toldAhead_85 : decode cX8_toldAhead 85 = .ok (.iload 6, 2) := by decide +kernel
theorem dX8_toldAhead_87 : decode cX8_toldAhead 87 = .ok (.isub, 1) := by decide +kernel
theorem dX8_toldAhead_88 : decode cX8_toldAhead 88 = .ok (.invokestatic 147, 3) := by decide +kernel
theorem dX8_toldAhead_91 : decode cX8_toldAhead 91 = .ok (.invokestatic 216, 3) := by decide +kernel
theorem dX8_toldAhead_94 : decode cX8_toldAhead 94 = .ok (.ireturn, 1) := by decide +kernel
theorem dX8_toldAhead_95 : decode cX8_toldAhead 95 = .ok (.iload 5, 2) := by decide +kernel
theorem dX8_toldAhead_97 : decode cX8_toldAhead 97 = .ok (.iload 6, 2) := by decide +kernel
theorem dX8_toldAhead_99 : decode cX8_toldAhead 99 = .ok (.iadd, 1) := by decide +kernel
theorem dX8_toldAhead_100 : decode cX8_toldAhead 100 = .ok (.iconst 2, 1) := by decide +kernel
theorem dX8_toldAhead_101 : decode cX8_toldAhead 101 = .ok (.idiv, 1) := by decide +kernel
theorem dX8_toldAhead_102 : decode cX8_toldAhead 102 = .ok (.ireturn, 1) := by decide +kernel
theorem dX8_fold_0 : decode cX8_fold 0 = .ok (.iload_n 1, 1) := by decide +kernel
theorem dX8_fold_1 : decode cX8_fold 1 = .ok (.iload_n 2, 1) := by decide +kernel
theorem dX8_fold_2 : decode cX8_fold 2 = .ok (.iload_n 1, 1) := by decide +kernel
theorem dX8_fold_3 : decode cX8_fold 3 = .ok (.isub, 1) := by decide +kernel
theorem dX8_fold_4 : decode cX8_fold 4 = .ok (.invokestatic 147, 3) := by decide +kernel
theorem dX8_fold_7 : decode cX8_fold 7 = .ok (.istore_n 3, 1) := by decide +kernel
theorem dX8_fold_8 : decode cX8_fold 8 = .ok (.iload_n 0, 1) := by decide +kernel
theorem dX8_fold_9 : decode cX8_fold 9 = .ok (.iload_n 1, 1) := by decide +kernel
theorem dX8_fold_10 : decode cX8_fold 10 = .ok (.if_icmp .lt 16, 3) := by decide +kernel
theorem dX8_fold_13 : decode cX8_fold 13 = .ok (.iload_n 0, 1) := by decide +kernel
theorem dX8_fold_14 : decode cX8_fold 14 = .ok (.iload_n 1, 1) := by decide +kernel
theorem dX8_fold_15 : decode cX8_fold 15 = .ok (.iload_n 3, 1) := by decide +kernel
theorem dX8_fold_16 : decode cX8_fold 16 = .ok (.iadd, 1) := by decide +kernel
theorem dX8_fold_17 : decode cX8_fold 17 = .ok (.if_icmp .gt 9, 3) := by decide +kernel
theorem dX8_fold_20 : decode cX8_fold 20 = .ok (.iconst 2, 1) := by decide +kernel
theorem dX8_fold_21 : decode cX8_fold 21 = .ok (.iload_n 0, 1) := by decide +kernel
theorem dX8_fold_22 : decode cX8_fold 22 = .ok (.iload_n 1, 1) := by decide +kernel
theorem dX8_fold_23 : decode cX8_fold 23 = .ok (.isub, 1) := by decide +kernel
theorem dX8_fold_24 : decode cX8_fold 24 = .ok (.imul, 1) := by decide +kernel
theorem dX8_fold_25 : decode cX8_fold 25 = .ok (.ireturn, 1) := by decide +kernel
theorem dX8_fold_26 : decode cX8_fold 26 = .ok (.iload_n 0, 1) := by decide +kernel
theorem dX8_fold_27 : decode cX8_fold 27 = .ok (.iload_n 1, 1) := by decide +kernel
theorem dX8_fold_28 : decode cX8_fold 28 = .ok (.if_icmp .ge 18, 3) := by decide +kernel
theorem dX8_fold_31 : decode cX8_fold 31 = .ok (.iload_n 0, 1) := by decide +kernel
theorem dX8_fold_32 : decode cX8_fold 32 = .ok (.iload_n 1, 1) := by decide +kernel
theorem dX8_fold_33 : decode cX8_fold 33 = .ok (.iload_n 3, 1) := by decide +kernel
theorem dX8_fold_34 : decode cX8_fold 34 = .ok (.isub, 1) := by decide +kernel
theorem dX8_fold_35 : decode cX8_fold 35 = .ok (.if_icmp .lt 11, 3) := by decide +kernel
theorem dX8_fold_38 : decode cX8_fold 38 = .ok (.iconst 2, 1) := by decide +kernel
theorem dX8_fold_39 : decode cX8_fold 39 = .ok (.iload_n 1, 1) := by decide +kernel
theorem dX8_fold_40 : decode cX8_fold 40 = .ok (.iload_n 0, 1) := by decide +kernel
theorem dX8_fold_41 : decode cX8_fold 41 = .ok (.isub, 1) := by decide +kernel
theorem dX8_fold_42 : decode cX8_fold 42 = .ok (.imul, 1) := by decide +kernel
theorem dX8_fold_43 : decode cX8_fold 43 = .ok (.iconst 1, 1) := by decide +kernel
theorem dX8_fold_44 : decode cX8_fold 44 = .ok (.isub, 1) := by decide +kernel
theorem dX8_fold_45 : decode cX8_fold 45 = .ok (.ireturn, 1) := by decide +kernel
theorem dX8_fold_46 : decode cX8_fold 46 = .ok (.iload_n 3, 1) := by decide +kernel
theorem dX8_fold_47 : decode cX8_fold 47 = .ok (.iload_n 0, 1) := by decide +kernel
theorem dX8_fold_48 : decode cX8_fold 48 = .ok (.iload_n 1, 1) := by decide +kernel
theorem dX8_fold_49 : decode cX8_fold 49 = .ok (.isub, 1) := by decide +kernel
theorem dX8_fold_50 : decode cX8_fold 50 = .ok (.invokestatic 219, 3) := by decide +kernel
theorem dX8_fold_53 : decode cX8_fold 53 = .ok (.iadd, 1) := by decide +kernel
theorem dX8_fold_54 : decode cX8_fold 54 = .ok (.ireturn, 1) := by decide +kernel
theorem dX8_unfold_0 : decode cX8_unfold 0 = .ok (.iload_n 1, 1) := by decide +kernel
theorem dX8_unfold_1 : decode cX8_unfold 1 = .ok (.iload_n 2, 1) := by decide +kernel
theorem dX8_unfold_2 : decode cX8_unfold 2 = .ok (.iload_n 1, 1) := by decide +kernel
theorem dX8_unfold_3 : decode cX8_unfold 3 = .ok (.isub, 1) := by decide +kernel
theorem dX8_unfold_4 : decode cX8_unfold 4 = .ok (.invokestatic 147, 3) := by decide +kernel
theorem dX8_unfold_7 : decode cX8_unfold 7 = .ok (.istore_n 3, 1) := by decide +kernel
theorem dX8_unfold_8 : decode cX8_unfold 8 = .ok (.iload_n 0, 1) := by decide +kernel
theorem dX8_unfold_9 : decode cX8_unfold 9 = .ok (.iconst 2, 1) := by decide +kernel
theorem dX8_unfold_10 : decode cX8_unfold 10 = .ok (.iload_n 3, 1) := by decide +kernel
theorem dX8_unfold_11 : decode cX8_unfold 11 = .ok (.imul, 1) := by decide +kernel
theorem dX8_unfold_12 : decode cX8_unfold 12 = .ok (.if_icmp .le 24, 3) := by decide +kernel
theorem dX8_unfold_15 : decode cX8_unfold 15 = .ok (.iload_n 1, 1) := by decide +kernel
theorem dX8_unfold_16 : decode cX8_unfold 16 = .ok (.iload_n 2, 1) := by decide +kernel
theorem dX8_unfold_17 : decode cX8_unfold 17 = .ok (.iload_n 1, 1) := by decide +kernel
theorem dX8_unfold_18 : decode cX8_unfold 18 = .ok (.isub, 1) := by decide +kernel
theorem dX8_unfold_19 : decode cX8_unfold 19 = .ok (.if_icmp .ge 11, 3) := by decide +kernel
theorem dX8_unfold_22 : decode cX8_unfold 22 = .ok (.iload_n 1, 1) := by decide +kernel
theorem dX8_unfold_23 : decode cX8_unfold 23 = .ok (.iload_n 0, 1) := by decide +kernel
theorem dX8_unfold_24 : decode cX8_unfold 24 = .ok (.iload_n 3, 1) := by decide +kernel
theorem dX8_unfold_25 : decode cX8_unfold 25 = .ok (.isub, 1) := by decide +kernel
theorem dX8_unfold_26 : decode cX8_unfold 26 = .ok (.iadd, 1) := by decide +kernel
theorem dX8_unfold_27 : decode cX8_unfold 27 = .ok (.goto 8, 3) := by decide +kernel
theorem dX8_unfold_30 : decode cX8_unfold 30 = .ok (.iload_n 1, 1) := by decide +kernel
theorem dX8_unfold_31 : decode cX8_unfold 31 = .ok (.iload_n 0, 1) := by decide +kernel
theorem dX8_unfold_32 : decode cX8_unfold 32 = .ok (.iload_n 3, 1) := by decide +kernel
theorem dX8_unfold_33 : decode cX8_unfold 33 = .ok (.isub, 1) := by decide +kernel
theorem dX8_unfold_34 : decode cX8_unfold 34 = .ok (.isub, 1) := by decide +kernel
theorem dX8_unfold_35 : decode cX8_unfold 35 = .ok (.ireturn, 1) := by decide +kernel
theorem dX8_unfold_36 : decode cX8_unfold 36 = .ok (.iload_n 0, 1) := by decide +kernel
theorem dX8_unfold_37 : decode cX8_unfold 37 = .ok (.iconst 2, 1) := by decide +kernel
theorem dX8_unfold_38 : decode cX8_unfold 38 = .ok (.irem, 1) := by decide +kernel
theorem dX8_unfold_39 : decode cX8_unfold 39 = .ok (.ifCond .ne 11, 3) := by decide +kernel
theorem dX8_unfold_42 : decode cX8_unfold 42 = .ok (.iload_n 1, 1) := by decide +kernel
theorem dX8_unfold_43 : decode cX8_unfold 43 = .ok (.iload_n 0, 1) := by decide +kernel
theorem dX8_unfold_44 : decode cX8_unfold 44 = .ok (.iconst 2, 1) := by decide +kernel
theorem dX8_unfold_45 : decode cX8_unfold 45 = .ok (.idiv, 1) := by decide +kernel
theorem dX8_unfold_46 : decode cX8_unfold 46 = .ok (.iadd, 1) := by decide +kernel
theorem dX8_unfold_47 : decode cX8_unfold 47 = .ok (.goto 10, 3) := by decide +kernel
theorem dX8_unfold_50 : decode cX8_unfold 50 = .ok (.iload_n 1, 1) := by decide +kernel
theorem dX8_unfold_51 : decode cX8_unfold 51 = .ok (.iload_n 0, 1) := by decide +kernel
theorem dX8_unfold_52 : decode cX8_unfold 52 = .ok (.iconst 1, 1) := by decide +kernel
theorem dX8_unfold_53 : decode cX8_unfold 53 = .ok (.iadd, 1) := by decide +kernel
theorem dX8_unfold_54 : decode cX8_unfold 54 = .ok (.iconst 2, 1) := by decide +kernel
theorem dX8_unfold_55 : decode cX8_unfold 55 = .ok (.idiv, 1) := by decide +kernel
theorem dX8_unfold_56 : decode cX8_unfold 56 = .ok (.isub, 1) := by decide +kernel
theorem dX8_unfold_57 : decode cX8_unfold 57 = .ok (.ireturn, 1) := by decide +kernel
theorem dX8_isCode_0 : decode cX8_isCode 0 = .ok (.iload_n 0, 1) := by decide +kernel
theorem dX8_isCode_1 : decode cX8_isCode 1 = .ok (.ifCond .eq 9, 3) := by decide +kernel
theorem dX8_isCode_4 : decode cX8_isCode 4 = .ok (.iload_n 0, 1) := by decide +kernel
theorem dX8_isCode_5 : decode cX8_isCode 5 = .ok (.bipush 8, 2) := by decide +kernel
theorem dX8_isCode_7 : decode cX8_isCode 7 = .ok (.if_icmp .ne 5, 3) := by decide +kernel
theorem dX8_isCode_10 : decode cX8_isCode 10 = .ok (.iconst 1, 1) := by decide +kernel
theorem dX8_isCode_11 : decode cX8_isCode 11 = .ok (.ireturn, 1) := by decide +kernel
theorem dX8_isCode_12 : decode cX8_isCode 12 = .ok (.iload_n 0, 1) := by decide +kernel
theorem dX8_isCode_13 : decode cX8_isCode 13 = .ok (.ifCond .le 20, 3) := by decide +kernel
theorem dX8_isCode_16 : decode cX8_isCode 16 = .ok (.iload_n 0, 1) := by decide +kernel
theorem dX8_isCode_17 : decode cX8_isCode 17 = .ok (.bipush 8, 2) := by decide +kernel
theorem dX8_isCode_19 : decode cX8_isCode 19 = .ok (.if_icmp .ge 14, 3) := by decide +kernel
theorem dX8_isCode_22 : decode cX8_isCode 22 = .ok (.iload_n 0, 1) := by decide +kernel
theorem dX8_isCode_23 : decode cX8_isCode 23 = .ok (.iconst 1, 1) := by decide +kernel
theorem dX8_isCode_24 : decode cX8_isCode 24 = .ok (.isub, 1) := by decide +kernel
theorem dX8_isCode_25 : decode cX8_isCode 25 = .ok (.iload_n 1, 1) := by decide +kernel
theorem dX8_isCode_26 : decode cX8_isCode 26 = .ok (.if_icmp .ge 7, 3) := by decide +kernel
theorem dX8_isCode_29 : decode cX8_isCode 29 = .ok (.iconst 1, 1) := by decide +kernel
theorem dX8_isCode_30 : decode cX8_isCode 30 = .ok (.goto 4, 3) := by decide +kernel
theorem dX8_isCode_33 : decode cX8_isCode 33 = .ok (.iconst 0, 1) := by decide +kernel
theorem dX8_isCode_34 : decode cX8_isCode 34 = .ok (.ireturn, 1) := by decide +kernel
end
section
theorem dX9_init_0 : decode cX9_init 0 = .ok (.aload_n 0, 1) := by decide +kernel
theorem dX9_init_1 : decode cX9_init 1 = .ok (.invokespecial 1, 3) := by decide +kernel
theorem dX9_init_4 : decode cX9_init 4 = .ok (.aload_n 0, 1) := by decide +kernel
theorem dX9_init_5 : decode cX9_init 5 = .ok (.sipush 1072, 3) := by decide +kernel
theorem dX9_init_8 : decode cX9_init 8 = .ok (.newarray .int, 2) := by decide +kernel
theorem dX9_init_10 : decode cX9_init 10 = .ok (.putfield 7, 3) := by decide +kernel
theorem dX9_init_13 : decode cX9_init 13 = .ok (.aload_n 0, 1) := by decide +kernel
theorem dX9_init_14 : decode cX9_init 14 = .ok (.sipush 2144, 3) := by decide +kernel
theorem dX9_init_17 : decode cX9_init 17 = .ok (.newarray .int, 2) := by decide +kernel
theorem dX9_init_19 : decode cX9_init 19 = .ok (.putfield 13, 3) := by decide +kernel
theorem dX9_init_22 : decode cX9_init 22 = .ok (.aload_n 0, 1) := by decide +kernel
theorem dX9_init_23 : decode cX9_init 23 = .ok (.iconst 2, 1) := by decide +kernel
theorem dX9_init_24 : decode cX9_init 24 = .ok (.newarray .boolean, 2) := by decide +kernel
theorem dX9_init_26 : decode cX9_init 26 = .ok (.putfield 16, 3) := by decide +kernel
theorem dX9_init_29 : decode cX9_init 29 = .ok (.aload_n 0, 1) := by decide +kernel
theorem dX9_init_30 : decode cX9_init 30 = .ok (.bipush 64, 2) := by decide +kernel
theorem dX9_init_32 : decode cX9_init 32 = .ok (.newarray .int, 2) := by decide +kernel
theorem dX9_init_34 : decode cX9_init 34 = .ok (.putfield 20, 3) := by decide +kernel
theorem dX9_init_37 : decode cX9_init 37 = .ok (.aload_n 0, 1) := by decide +kernel
theorem dX9_init_38 : decode cX9_init 38 = .ok (.sipush 1000, 3) := by decide +kernel
theorem dX9_init_41 : decode cX9_init 41 = .ok (.newarray .int, 2) := by decide +kernel
theorem dX9_init_43 : decode cX9_init 43 = .ok (.putfield 23, 3) := by decide +kernel
theorem dX9_init_46 : decode cX9_init 46 = .ok (.aload_n 0, 1) := by decide +kernel
theorem dX9_init_47 : decode cX9_init 47 = .ok (.bipush 65, 2) := by decide +kernel
theorem dX9_init_49 : decode cX9_init 49 = .ok (.newarray .int, 2) := by decide +kernel
theorem dX9_init_51 : decode cX9_init 51 = .ok (.putfield 26, 3) := by decide +kernel
theorem dX9_init_54 : decode cX9_init 54 = .ok (.aload_n 0, 1) := by decide +kernel
theorem dX9_init_55 : decode cX9_init 55 = .ok (.bipush 64, 2) := by decide +kernel
theorem dX9_init_57 : decode cX9_init 57 = .ok (.newarray .int, 2) := by decide +kernel
theorem dX9_init_59 : decode cX9_init 59 = .ok (.putfield 29, 3) := by decide +kernel
theorem dX9_init_62 : decode cX9_init 62 = .ok (.aload_n 0, 1) := by decide +kernel
theorem dX9_init_63 : decode cX9_init 63 = .ok (.getfield 7, 3) := by decide +kernel
theorem dX9_init_66 : decode cX9_init 66 = .ok (.sipush 1066, 3) := by decide +kernel
theorem dX9_init_69 : decode cX9_init 69 = .ok (.bipush 8, 2) := by decide +kernel
theorem dX9_init_71 : decode cX9_init 71 = .ok (.iastore, 1) := by decide +kernel
theorem dX9_init_72 : decode cX9_init 72 = .ok (.aload_n 0, 1) := by decide +kernel
theorem dX9_init_73 : decode cX9_init 73 = .ok (.getfield 7, 3) := by decide +kernel
theorem dX9_init_76 : decode cX9_init 76 = .ok (.sipush 1067, 3) := by decide +kernel
theorem dX9_init_79 : decode cX9_init 79 = .ok (.bipush 8, 2) := by decide +kernel
theorem dX9_init_81 : decode cX9_init 81 = .ok (.iastore, 1) := by decide +kernel
theorem dX9_init_82 : decode cX9_init 82 = .ok (.aload_n 0, 1) := by decide +kernel
theorem dX9_init_83 : decode cX9_init 83 = .ok (.getfield 7, 3) := by decide +kernel
theorem dX9_init_86 : decode cX9_init 86 = .ok (.sipush 1068, 3) := by decide +kernel
theorem dX9_init_89 : decode cX9_init 89 = .ok (.iconst 4, 1) := by decide +kernel
theorem dX9_init_90 : decode cX9_init 90 = .ok (.iastore, 1) := by decide +kernel
theorem dX9_init_91 : decode cX9_init 91 = .ok (.aload_n 0, 1) := by decide +kernel
theorem dX9_init_92 : decode cX9_init 92 = .ok (.getfield 7, 3) := by decide +kernel
theorem dX9_init_95 : decode cX9_init 95 = .ok (.sipush 1070, 3) := by decide +kernel
theorem dX9_init_98 : decode cX9_init 98 = .ok (.bipush (-6), 2) := by decide +kernel
theorem dX9_init_100 : decode cX9_init 100 = .ok (.iastore, 1) := by decide +kernel
theorem dX9_init_101 : decode cX9_init 101 = .ok (.aload_n 0, 1) := by decide +kernel
theorem dX9_init_102 : decode cX9_init 102 = .ok (.getfield 7, 3) := by decide +kernel
theorem dX9_init_105 : decode cX9_init 105 = .ok (.sipush 1071, 3) := by decide +kernel
theorem dX9_init_108 : decode cX9_init 108 = .ok (.bipush (-6), 2) := by decide +kernel
theorem dX9_init_110 : decode cX9_init 110 = .ok (.iastore, 1) := by decide +kernel
theorem dX9_init_111 : decode cX9_init 111 = .ok (.return_, 1) := by decide +kernel
theorem dX9_in_0 : decode cX9_in 0 = .ok (.iload_n 0, 1) := by decide +kernel
theorem dX9_in_1 : decode cX9_in 1 = .ok (.iload_n 1, 1) := by decide +kernel
theorem dX9_in_2 : decode cX9_in 2 = .ok (.if_icmp .lt 12, 3) := by decide +kernel
theorem dX9_in_5 : decode cX9_in 5 = .ok (.iload_n 0, 1) := by decide +kernel
theorem dX9_in_6 : decode cX9_in 6 = .ok (.iload_n 2, 1) := by decide +kernel
theorem dX9_in_7 : decode cX9_in 7 = .ok (.if_icmp .gt 7, 3) := by decide +kernel
theorem dX9_in_10 : decode cX9_in 10 = .ok (.iconst 1, 1) := by decide +kernel
theorem dX9_in_11 : decode cX9_in 11 = .ok (.goto 4, 3) := by decide +kernel
theorem dX9_in_14 : decode cX9_in 14 = .ok (.iconst 0, 1) := by decide +kernel
theorem dX9_in_15 : decode cX9_in 15 = .ok (.ireturn, 1) := by decide +kernel
theorem dX9_top_0 : decode cX9_top 0 = .ok (.iconst 1, 1) := by decide +kernel
theorem dX9_top_1 : decode cX9_top 1 = .ok (.aload_n 0, 1) := by decide +kernel
theorem dX9_top_2 : decode cX9_top 2 = .ok (.getfield 7, 3) := by decide +kernel
theorem dX9_top_5 : decode cX9_top 5 = .ok (.sipush 1066, 3) := by decide +kernel
theorem dX9_top_8 : decode cX9_top 8 = .ok (.iaload, 1) := by decide +kernel
theorem dX9_top_9 : decode cX9_top 9 = .ok (.ishl, 1) := by decide +kernel
theorem dX9_top_10 : decode cX9_top 10 = .ok (.iconst 1, 1) := by decide +kernel
theorem dX9_top_11 : decode cX9_top 11 = .ok (.isub, 1) := by decide +kernel
theorem dX9_top_12 : decode cX9_top 12 = .ok (.ireturn, 1) := by decide +kernel
theorem dX9_many_0 : decode cX9_many 0 = .ok (.aload_n 0, 1) := by decide +kernel
theorem dX9_many_1 : decode cX9_many 1 = .ok (.getfield 7, 3) := by decide +kernel
theorem dX9_many_4 : decode cX9_many 4 = .ok (.sipush 1064, 3) := by decide +kernel
theorem dX9_many_7 : decode cX9_many 7 = .ok (.iaload, 1) := by decide +kernel
theorem dX9_many_8 : decode cX9_many 8 = .ok (.ireturn, 1) := by decide +kernel
set_option maxRecDepth 20000 in
theorem ggX9_fitsBelow_X9_many : GoodIn wsX9_fitsBelow wsX9_many := goodIn_r _ [6, 1, 7, 8, 9, 10, 11, 12, 13, 14, 15, 16, 17, 18] (by decide +kernel) (by decide +kernel)
set_option maxRecDepth 20000 in
theorem gX9_fitsBelow_X9_many : GoodIn wsX9_fitsBelow (wsV RX9 32 RX9 yX9_many wsX9_many) := goodIn_app (goodIn_of _ (by decide +kernel)) ggX9_fitsBelow_X9_many
theorem dX9_fitsBelow_0 : decode cX9_fitsBelow 0 = .ok (.iconst 1, 1) := by decide +kernel
theorem dX9_fitsBelow_1 : decode cX9_fitsBelow 1 = .ok (.istore_n 2, 1) := by decide +kernel
theorem dX9_fitsBelow_2 : decode cX9_fitsBelow 2 = .ok (.iconst 0, 1) := by decide +kernel
theorem dX9_fitsBelow_3 : decode cX9_fitsBelow 3 = .ok (.istore_n 3, 1) := by decide +kernel
theorem dX9_fitsBelow_4 : decode cX9_fitsBelow 4 = .ok (.iload_n 3, 1) := by decide +kernel
theorem dX9_fitsBelow_5 : decode cX9_fitsBelow 5 = .ok (.aload_n 0, 1) := by decide +kernel
theorem dX9_fitsBelow_6 : decode cX9_fitsBelow 6 = .ok (.invokevirtual 32, 3) := by decide +kernel
theorem dX9_fitsBelow_9 : decode cX9_fitsBelow 9 = .ok (.if_icmp .ge 29, 3) := by decide +kernel
theorem dX9_fitsBelow_12 : decode cX9_fitsBelow 12 = .ok (.iload_n 2, 1) := by decide +kernel
theorem dX9_fitsBelow_13 : decode cX9_fitsBelow 13 = .ok (.ifCond .eq 17, 3) := by decide +kernel
theorem dX9_fitsBelow_16 : decode cX9_fitsBelow 16 = .ok (.aload_n 0, 1) := by decide +kernel
theorem dX9_fitsBelow_17 : decode cX9_fitsBelow 17 = .ok (.getfield 7, 3) := by decide +kernel
theorem dX9_fitsBelow_20 : decode cX9_fitsBelow 20 = .ok (.iload_n 3, 1) := by decide +kernel
theorem dX9_fitsBelow_21 : decode cX9_fitsBelow 21 = .ok (.iaload, 1) := by decide +kernel
theorem dX9_fitsBelow_22 : decode cX9_fitsBelow 22 = .ok (.iload_n 1, 1) := by decide +kernel
theorem dX9_fitsBelow_23 : decode cX9_fitsBelow 23 = .ok (.if_icmp .gt 7, 3) := by decide +kernel
theorem dX9_fitsBelow_26 : decode cX9_fitsBelow 26 = .ok (.iconst 1, 1) := by decide +kernel
theorem dX9_fitsBelow_27 : decode cX9_fitsBelow 27 = .ok (.goto 4, 3) := by decide +kernel
theorem dX9_fitsBelow_30 : decode cX9_fitsBelow 30 = .ok (.iconst 0, 1) := by decide +kernel
theorem dX9_fitsBelow_31 : decode cX9_fitsBelow 31 = .ok (.istore_n 2, 1) := by decide +kernel
theorem dX9_fitsBelow_32 : decode cX9_fitsBelow 32 = .ok (.iinc 3 1, 3) := by decide +kernel
theorem dX9_fitsBelow_35 : decode cX9_fitsBelow 35 = .ok (.goto (-31), 3) := by decide +kernel
theorem dX9_fitsBelow_38 : decode cX9_fitsBelow 38 = .ok (.iload_n 2, 1) := by decide +kernel
theorem dX9_fitsBelow_39 : decode cX9_fitsBelow 39 = .ok (.ireturn, 1) := by decide +kernel
set_option maxRecDepth 20000 in
theorem ggX9_rule_X9_in : GoodIn wsX9_rule wsX9_in := goodIn_r _ [5] (by decide +kernel) (by decide +kernel)
set_option maxRecDepth 20000 in
theorem gX9_rule_X9_in : GoodIn wsX9_rule (va_wsS RX9 36 yX9_in wsX9_in) := goodIn_app (goodIn_of _ (by decide +kernel)) ggX9_rule_X9_in
set_option maxRecDepth 20000 in
theorem ggX9_rule_X9_fitsBelow : GoodIn wsX9_rule wsX9_fitsBelow := goodIn_r _ [9, 1, 10, 11, 12, 4, 13, 14, 15, 16, 17, 18, 19, 20, 21, 22, 23, 24, 25] (by decide +kernel) (by decide +kernel)
set_option maxRecDepth 20000 in
theorem gX9_rule_X9_fitsBelow : GoodIn wsX9_rule (wsV RX9 40 RX9 yX9_fitsBelow wsX9_fitsBelow) := goodIn_app (goodIn_of _ (by decide +kernel)) ggX9_rule_X9_fitsBelow
theorem dX9_rule_0 : decode cX9_rule 0 = .ok (.iload_n 1, 1) := by decide +kernel
theorem dX9_rule_1 : decode cX9_rule 1 = .ok (.iconst 0, 1) := by decide +kernel
theorem dX9_rule_2 : decode cX9_rule 2 = .ok (.iconst 2, 1) := by decide +kernel
theorem dX9_rule_3 : decode cX9_rule 3 = .ok (.invokestatic 36, 3) := by decide +kernel
theorem dX9_rule_6 : decode cX9_rule 6 = .ok (.ifCond .eq 21, 3) := by decide +kernel
theorem dX9_rule_9 : decode cX9_rule 9 = .ok (.iload_n 2, 1) := by decide +kernel
theorem dX9_rule_10 : decode cX9_rule 10 = .ok (.iload_n 1, 1) := by decide +kernel
theorem dX9_rule_11 : decode cX9_rule 11 = .ok (.ifCond .ne 7, 3) := by decide +kernel
theorem dX9_rule_14 : decode cX9_rule 14 = .ok (.iconst 2, 1) := by decide +kernel
theorem dX9_rule_15 : decode cX9_rule 15 = .ok (.goto 4, 3) := by decide +kernel
theorem dX9_rule_18 : decode cX9_rule 18 = .ok (.iconst 1, 1) := by decide +kernel
theorem dX9_rule_19 : decode cX9_rule 19 = .ok (.bipush 8, 2) := by decide +kernel
theorem dX9_rule_21 : decode cX9_rule 21 = .ok (.invokestatic 36, 3) := by decide +kernel
theorem dX9_rule_24 : decode cX9_rule 24 = .ok (.ifCond .ne 6, 3) := by decide +kernel
theorem dX9_rule_27 : decode cX9_rule 27 = .ok (.bipush (-2), 2) := by decide +kernel
theorem dX9_rule_29 : decode cX9_rule 29 = .ok (.ireturn, 1) := by decide +kernel
theorem dX9_rule_30 : decode cX9_rule 30 = .ok (.iload_n 1, 1) := by decide +kernel
theorem dX9_rule_31 : decode cX9_rule 31 = .ok (.ifCond .ne 18, 3) := by decide +kernel
theorem dX9_rule_34 : decode cX9_rule 34 = .ok (.aload_n 0, 1) := by decide +kernel
theorem dX9_rule_35 : decode cX9_rule 35 = .ok (.iconst 1, 1) := by decide +kernel
theorem dX9_rule_36 : decode cX9_rule 36 = .ok (.iload_n 2, 1) := by decide +kernel
theorem dX9_rule_37 : decode cX9_rule 37 = .ok (.ishl, 1) := by decide +kernel
theorem dX9_rule_38 : decode cX9_rule 38 = .ok (.iconst 1, 1) := by decide +kernel
theorem dX9_rule_39 : decode cX9_rule 39 = .ok (.isub, 1) := by decide +kernel
theorem dX9_rule_40 : decode cX9_rule 40 = .ok (.invokevirtual 40, 3) := by decide +kernel
theorem dX9_rule_43 : decode cX9_rule 43 = .ok (.ifCond .ne 6, 3) := by decide +kernel
theorem dX9_rule_46 : decode cX9_rule 46 = .ok (.bipush (-3), 2) := by decide +kernel
theorem dX9_rule_48 : decode cX9_rule 48 = .ok (.ireturn, 1) := by decide +kernel
theorem dX9_rule_49 : decode cX9_rule 49 = .ok (.aload_n 0, 1) := by decide +kernel
theorem dX9_rule_50 : decode cX9_rule 50 = .ok (.getfield 7, 3) := by decide +kernel
theorem dX9_rule_53 : decode cX9_rule 53 = .ok (.sipush 1066, 3) := by decide +kernel
theorem dX9_rule_56 : decode cX9_rule 56 = .ok (.iload_n 1, 1) := by decide +kernel
theorem dX9_rule_57 : decode cX9_rule 57 = .ok (.iadd, 1) := by decide +kernel
theorem dX9_rule_58 : decode cX9_rule 58 = .ok (.iaload, 1) := by decide +kernel
theorem dX9_rule_59 : decode cX9_rule 59 = .ok (.istore_n 3, 1) := by decide +kernel
theorem dX9_rule_60 : decode cX9_rule 60 = .ok (.aload_n 0, 1) := by decide +kernel
theorem dX9_rule_61 : decode cX9_rule 61 = .ok (.getfield 7, 3) := by decide +kernel
theorem dX9_rule_64 : decode cX9_rule 64 = .ok (.sipush 1066, 3) := by decide +kernel
theorem dX9_rule_67 : decode cX9_rule 67 = .ok (.iload_n 1, 1) := by decide +kernel
theorem dX9_rule_68 : decode cX9_rule 68 = .ok (.iadd, 1) := by decide +kernel
theorem dX9_rule_69 : decode cX9_rule 69 = .ok (.iload_n 2, 1) := by decide +kernel
theorem dX9_rule_70 : decode cX9_rule 70 = .ok (.iastore, 1) := by decide +kernel
theorem dX9_rule_71 : decode cX9_rule 71 = .ok (.iload_n 3, 1) := by decide +kernel
theorem dX9_rule_72 : decode cX9_rule 72 = .ok (.ireturn, 1) := by decide +kernel
set_option maxRecDepth 20000 in
theorem ggX9_add_X9_top : GoodIn wsX9_add wsX9_top := goodIn_r _ [6, 1, 14, 15, 16, 17, 18, 19, 20, 21, 22, 23, 24, 25] (by decide +kernel) (by decide +kernel)
set_option maxRecDepth 20000 in
theorem gX9_add_X9_top : GoodIn wsX9_add (wsV RX9 44 RX9 yX9_top wsX9_top) := goodIn_app (goodIn_of _ (by decide +kernel)) ggX9_add_X9_top
set_option maxRecDepth 20000 in
theorem ggX9_add_X9_in : GoodIn wsX9_add wsX9_in := goodIn_r _ [9] (by decide +kernel) (by decide +kernel)
set_option maxRecDepth 20000 in
theorem gX9_add_X9_in : GoodIn wsX9_add (va_wsS RX9 36 yX9_in wsX9_in) := goodIn_app (goodIn_of _ (by decide +kernel)) ggX9_add_X9_in
set_option maxRecDepth 20000 in
theorem ggX9_add_X9_many : GoodIn wsX9_add wsX9_many := goodIn_r _ [13, 1, 14, 15, 16, 17, 18, 19, 20, 21, 22, 23, 24, 25] (by decide +kernel) (by decide +kernel)
set_option maxRecDepth 20000 in
theorem gX9_add_X9_many : GoodIn wsX9_add (wsV RX9 32 RX9 yX9_many wsX9_many) := goodIn_app (goodIn_of _ (by decide +kernel)) ggX9_add_X9_many
theorem dX9_add_0 : decode cX9_add 0 = .ok (.iload_n 1, 1) := by decide +kernel
theorem dX9_add_1 : decode cX9_add 1 = .ok (.iconst 0, 1) := by decide +kernel
theorem dX9_add_2 : decode cX9_add 2 = .ok (.aload_n 0, 1) := by decide +kernel
theorem dX9_add_3 : decode cX9_add 3 = .ok (.invokevirtual 44, 3) := by decide +kernel
theorem dX9_add_6 : decode cX9_add 6 = .ok (.invokestatic 36, 3) := by decide +kernel
theorem dX9_add_9 : decode cX9_add 9 = .ok (.ifCond .ne 6, 3) := by decide +kernel
theorem dX9_add_12 : decode cX9_add 12 = .ok (.bipush (-2), 2) := by decide +kernel
theorem dX9_add_14 : decode cX9_add 14 = .ok (.ireturn, 1) := by decide +kernel
theorem dX9_add_15 : decode cX9_add 15 = .ok (.aload_n 0, 1) := by decide +kernel
theorem dX9_add_16 : decode cX9_add 16 = .ok (.invokevirtual 32, 3) := by decide +kernel
theorem dX9_add_19 : decode cX9_add 19 = .ok (.bipush 64, 2) := by decide +kernel
theorem dX9_add_21 : decode cX9_add 21 = .ok (.if_icmp .ne 6, 3) := by decide +kernel
theorem dX9_add_24 : decode cX9_add 24 = .ok (.bipush (-4), 2) := by decide +kernel
theorem dX9_add_26 : decode cX9_add 26 = .ok (.ireturn, 1) := by decide +kernel
theorem dX9_add_27 : decode cX9_add 27 = .ok (.aload_n 0, 1) := by decide +kernel
theorem dX9_add_28 : decode cX9_add 28 = .ok (.getfield 7, 3) := by decide +kernel
theorem dX9_add_31 : decode cX9_add 31 = .ok (.aload_n 0, 1) := by decide +kernel
theorem dX9_add_32 : decode cX9_add 32 = .ok (.invokevirtual 32, 3) := by decide +kernel
theorem dX9_add_35 : decode cX9_add 35 = .ok (.iload_n 1, 1) := by decide +kernel
theorem dX9_add_36 : decode cX9_add 36 = .ok (.iastore, 1) := by decide +kernel
theorem dX9_add_37 : decode cX9_add 37 = .ok (.aload_n 0, 1) := by decide +kernel
theorem dX9_add_38 : decode cX9_add 38 = .ok (.getfield 7, 3) := by decide +kernel
theorem dX9_add_41 : decode cX9_add 41 = .ok (.sipush 1064, 3) := by decide +kernel
theorem dX9_add_44 : decode cX9_add 44 = .ok (.dup2, 1) := by decide +kernel
theorem dX9_add_45 : decode cX9_add 45 = .ok (.iaload, 1) := by decide +kernel
theorem dX9_add_46 : decode cX9_add 46 = .ok (.iconst 1, 1) := by decide +kernel
theorem dX9_add_47 : decode cX9_add 47 = .ok (.iadd, 1) := by decide +kernel
theorem dX9_add_48 : decode cX9_add 48 = .ok (.iastore, 1) := by decide +kernel
theorem dX9_add_49 : decode cX9_add 49 = .ok (.aload_n 0, 1) := by decide +kernel
theorem dX9_add_50 : decode cX9_add 50 = .ok (.invokevirtual 32, 3) := by decide +kernel
theorem dX9_add_53 : decode cX9_add 53 = .ok (.ireturn, 1) := by decide +kernel
set_option maxRecDepth 20000 in
theorem ggX9_clear_X9_many : GoodIn wsX9_clear wsX9_many := goodIn_r _ [6, 1, 7, 8, 9, 10, 11, 12, 13, 14, 15, 16, 17, 18] (by decide +kernel) (by decide +kernel)
set_option maxRecDepth 20000 in
theorem gX9_clear_X9_many : GoodIn wsX9_clear (wsV RX9 32 RX9 yX9_many wsX9_many) := goodIn_app (goodIn_of _ (by decide +kernel)) ggX9_clear_X9_many
theorem dX9_clear_0 : decode cX9_clear 0 = .ok (.aload_n 0, 1) := by decide +kernel
theorem dX9_clear_1 : decode cX9_clear 1 = .ok (.invokevirtual 32, 3) := by decide +kernel
theorem dX9_clear_4 : decode cX9_clear 4 = .ok (.istore_n 1, 1) := by decide +kernel
theorem dX9_clear_5 : decode cX9_clear 5 = .ok (.aload_n 0, 1) := by decide +kernel
theorem dX9_clear_6 : decode cX9_clear 6 = .ok (.getfield 7, 3) := by decide +kernel
theorem dX9_clear_9 : decode cX9_clear 9 = .ok (.sipush 1064, 3) := by decide +kernel
theorem dX9_clear_12 : decode cX9_clear 12 = .ok (.iconst 0, 1) := by decide +kernel
theorem dX9_clear_13 : decode cX9_clear 13 = .ok (.iastore, 1) := by decide +kernel
theorem dX9_clear_14 : decode cX9_clear 14 = .ok (.iload_n 1, 1) := by decide +kernel
theorem dX9_clear_15 : decode cX9_clear 15 = .ok (.ireturn, 1) := by decide +kernel
set_option maxRecDepth 20000 in
theorem ggX9_sample_X9_many : GoodIn wsX9_sample wsX9_many := goodIn_r _ [6, 1, 10, 11, 12, 13, 14, 15, 16, 17, 18, 19, 20, 21] (by decide +kernel) (by decide +kernel)
set_option maxRecDepth 20000 in
theorem gX9_sample_X9_many : GoodIn wsX9_sample (wsV RX9 32 RX9 yX9_many wsX9_many) := goodIn_app (goodIn_of _ (by decide +kernel)) ggX9_sample_X9_many
set_option maxRecDepth 20000 in
theorem ggX9_sample_X9_in : GoodIn wsX9_sample wsX9_in := goodIn_r _ [9] (by decide +kernel) (by decide +kernel)
set_option maxRecDepth 20000 in
theorem gX9_sample_X9_in : GoodIn wsX9_sample (va_wsS RX9 36 yX9_in wsX9_in) := goodIn_app (goodIn_of _ (by decide +kernel)) ggX9_sample_X9_in
theorem dX9_sample_0 : decode cX9_sample 0 = .ok (.iload_n 1, 1) := by decide +kernel
theorem dX9_sample_1 : decode cX9_sample 1 = .ok (.iconst 0, 1) := by decide +kernel
theorem dX9_sample_2 : decode cX9_sample 2 = .ok (.aload_n 0, 1) := by decide +kernel
theorem dX9_sample_3 : decode cX9_sample 3 = .ok (.invokevirtual 32, 3) := by decide +kernel
theorem dX9_sample_6 : decode cX9_sample 6 = .ok (.iconst 1, 1) := by decide +kernel
theorem dX9_sample_7 : decode cX9_sample 7 = .ok (.isub, 1) := by decide +kernel
theorem dX9_sample_8 : decode cX9_sample 8 = .ok (.invokestatic 36, 3) := by decide +kernel
theorem dX9_sample_11 : decode cX9_sample 11 = .ok (.ifCond .eq 12, 3) := by decide +kernel
theorem dX9_sample_14 : decode cX9_sample 14 = .ok (.aload_n 0, 1) := by decide +kernel
theorem dX9_sample_15 : decode cX9_sample 15 = .ok (.getfield 7, 3) := by decide +kernel
theorem dX9_sample_18 : decode cX9_sample 18 = .ok (.iload_n 1, 1) := by decide +kernel
theorem dX9_sample_19 : decode cX9_sample 19 = .ok (.iaload, 1) := by decide +kernel
theorem dX9_sample_20 : decode cX9_sample 20 = .ok (.goto 5, 3) := by decide +kernel
theorem dX9_sample_23 : decode cX9_sample 23 = .ok (.bipush (-6), 2) := by decide +kernel
theorem dX9_sample_25 : decode cX9_sample 25 = .ok (.ireturn, 1) := by decide +kernel
theorem dX9_segmentLong_0 : decode cX9_segmentLong 0 = .ok (.aload_n 0, 1) := by decide +kernel
theorem dX9_segmentLong_1 : decode cX9_segmentLong 1 = .ok (.getfield 7, 3) := by decide +kernel
theorem dX9_segmentLong_4 : decode cX9_segmentLong 4 = .ok (.sipush 1067, 3) := by decide +kernel
theorem dX9_segmentLong_7 : decode cX9_segmentLong 7 = .ok (.iaload, 1) := by decide +kernel
theorem dX9_segmentLong_8 : decode cX9_segmentLong 8 = .ok (.aload_n 0, 1) := by decide +kernel
theorem dX9_segmentLong_9 : decode cX9_segmentLong 9 = .ok (.getfield 7, 3) := by decide +kernel
theorem dX9_segmentLong_12 : decode cX9_segmentLong 12 = .ok (.sipush 1068, 3) := by decide +kernel
theorem dX9_segmentLong_15 : decode cX9_segmentLong 15 = .ok (.iaload, 1) := by decide +kernel
theorem dX9_segmentLong_16 : decode cX9_segmentLong 16 = .ok (.imul, 1) := by decide +kernel
theorem dX9_segmentLong_17 : decode cX9_segmentLong 17 = .ok (.ireturn, 1) := by decide +kernel
set_option maxRecDepth 20000 in
theorem ggX9_isBare_X9_segmentLong : GoodIn wsX9_isBare wsX9_segmentLong := goodIn_r _ [5, 6, 7, 8, 9, 10, 11, 12, 13, 14, 15, 16, 17, 18] (by decide +kernel) (by decide +kernel)
set_option maxRecDepth 20000 in
theorem gX9_isBare_X9_segmentLong : GoodIn wsX9_isBare (wsV RX9 47 RX9 yX9_segmentLong wsX9_segmentLong) := goodIn_app (goodIn_of _ (by decide +kernel)) ggX9_isBare_X9_segmentLong
theorem dX9_isBare_0 : decode cX9_isBare 0 = .ok (.iload_n 1, 1) := by decide +kernel
theorem dX9_isBare_1 : decode cX9_isBare 1 = .ok (.aload_n 0, 1) := by decide +kernel
theorem dX9_isBare_2 : decode cX9_isBare 2 = .ok (.invokevirtual 47, 3) := by decide +kernel
theorem dX9_isBare_5 : decode cX9_isBare 5 = .ok (.irem, 1) := by decide +kernel
theorem dX9_isBare_6 : decode cX9_isBare 6 = .ok (.ifCond .ne 7, 3) := by decide +kernel
theorem dX9_isBare_9 : decode cX9_isBare 9 = .ok (.iconst 1, 1) := by decide +kernel
theorem dX9_isBare_10 : decode cX9_isBare 10 = .ok (.goto 4, 3) := by decide +kernel
theorem dX9_isBare_13 : decode cX9_isBare 13 = .ok (.iconst 0, 1) := by decide +kernel
theorem dX9_isBare_14 : decode cX9_isBare 14 = .ok (.ireturn, 1) := by decide +kernel
set_option maxRecDepth 20000 in
theorem ggX9_expected_X9_isBare : GoodIn wsX9_expected wsX9_isBare := goodIn_r _ [6, 7, 8, 9, 5, 10, 11, 16, 17, 18, 19, 20, 21, 22, 23, 24, 25, 26, 27] (by decide +kernel) (by decide +kernel)
set_option maxRecDepth 20000 in
theorem gX9_expected_X9_isBare : GoodIn wsX9_expected (wsV RX9 50 RX9 yX9_isBare wsX9_isBare) := goodIn_app (goodIn_of _ (by decide +kernel)) ggX9_expected_X9_isBare
set_option maxRecDepth 20000 in
theorem ggX9_expected_X9_top : GoodIn wsX9_expected wsX9_top := goodIn_r _ [15, 11, 16, 17, 18, 19, 20, 21, 22, 23, 24, 25, 26, 27] (by decide +kernel) (by decide +kernel)
set_option maxRecDepth 20000 in
theorem gX9_expected_X9_top : GoodIn wsX9_expected (wsV RX9 44 RX9 yX9_top wsX9_top) := goodIn_app (goodIn_of _ (by decide +kernel)) ggX9_expected_X9_top
theorem dX9_expected_0 : decode cX9_expected 0 = .ok (.aload_n 0, 1) := by decide +kernel
theorem dX9_expected_1 : decode cX9_expected 1 = .ok (.getfield 20, 3) := by decide +kernel
theorem dX9_expected_4 : decode cX9_expected 4 = .ok (.iload_n 1, 1) := by decide +kernel
theorem dX9_expected_5 : decode cX9_expected 5 = .ok (.iconst 1, 1) := by decide +kernel
theorem dX9_expected_6 : decode cX9_expected 6 = .ok (.isub, 1) := by decide +kernel
theorem dX9_expected_7 : decode cX9_expected 7 = .ok (.iaload, 1) := by decide +kernel
theorem dX9_expected_8 : decode cX9_expected 8 = .ok (.istore_n 3, 1) := by decide +kernel
theorem dX9_expected_9 : decode cX9_expected 9 = .ok (.aload_n 0, 1) := by decide +kernel
theorem dX9_expected_10 : decode cX9_expected 10 = .ok (.iload_n 1, 1) := by decide +kernel
theorem dX9_expected_11 : decode cX9_expected 11 = .ok (.iconst 1, 1) := by decide +kernel
theorem dX9_expected_12 : decode cX9_expected 12 = .ok (.isub, 1) := by decide +kernel
theorem dX9_expected_13 : decode cX9_expected 13 = .ok (.invokevirtual 50, 3) := by decide +kernel
theorem dX9_expected_16 : decode cX9_expected 16 = .ok (.ifCond .eq 7, 3) := by decide +kernel
theorem dX9_expected_19 : decode cX9_expected 19 = .ok (.iload_n 3, 1) := by decide +kernel
theorem dX9_expected_20 : decode cX9_expected 20 = .ok (.goto 11, 3) := by decide +kernel
theorem dX9_expected_23 : decode cX9_expected 23 = .ok (.aload_n 0, 1) := by decide +kernel
theorem dX9_expected_24 : decode cX9_expected 24 = .ok (.getfield 20, 3) := by decide +kernel
theorem dX9_expected_27 : decode cX9_expected 27 = .ok (.iload_n 1, 1) := by decide +kernel
theorem dX9_expected_28 : decode cX9_expected 28 = .ok (.iconst 2, 1) := by decide +kernel
theorem dX9_expected_29 : decode cX9_expected 29 = .ok (.isub, 1) := by decide +kernel
theorem dX9_expected_30 : decode cX9_expected 30 = .ok (.iaload, 1) := by decide +kernel
theorem dX9_expected_31 : decode cX9_expected 31 = .ok (.istore 4, 2) := by decide +kernel
theorem dX9_expected_33 : decode cX9_expected 33 = .ok (.iconst 2, 1) := by decide +kernel
theorem dX9_expected_34 : decode cX9_expected 34 = .ok (.iload_n 3, 1) := by decide +kernel
theorem dX9_expected_35 : decode cX9_expected 35 = .ok (.imul, 1) := by decide +kernel
theorem dX9_expected_36 : decode cX9_expected 36 = .ok (.iload 4, 2) := by decide +kernel
theorem dX9_expected_38 : decode cX9_expected 38 = .ok (.isub, 1) := by decide +kernel
theorem dX9_expected_39 : decode cX9_expected 39 = .ok (.istore 5, 2) := by decide +kernel
theorem dX9_expected_41 : decode cX9_expected 41 = .ok (.iload_n 2, 1) := by decide +kernel
theorem dX9_expected_42 : decode cX9_expected 42 = .ok (.tableswitch 65 0 2 #[26, 35, 37], 26) := by decide +kernel
theorem dX9_expected_68 : decode cX9_expected 68 = .ok (.aload_n 0, 1) := by decide +kernel
theorem dX9_expected_69 : decode cX9_expected 69 = .ok (.invokevirtual 44, 3) := by decide +kernel
theorem dX9_expected_72 : decode cX9_expected 72 = .ok (.iconst 1, 1) := by decide +kernel
theorem dX9_expected_73 : decode cX9_expected 73 = .ok (.iadd, 1) := by decide +kernel
theorem dX9_expected_74 : decode cX9_expected 74 = .ok (.iconst 2, 1) := by decide +kernel
theorem dX9_expected_75 : decode cX9_expected 75 = .ok (.idiv, 1) := by decide +kernel
theorem dX9_expected_76 : decode cX9_expected 76 = .ok (.ireturn, 1) := by decide +kernel
theorem dX9_expected_77 : decode cX9_expected 77 = .ok (.iload_n 3, 1) := by decide +kernel
theorem dX9_expected_78 : decode cX9_expected 78 = .ok (.ireturn, 1) := by decide +kernel
theorem dX9_expected_79 : decode cX9_expected 79 = .ok (.iload 5, 2) := by decide +kernel
theorem dX9_expected_81 : decode cX9_expected 81 = .ok (.ifCond .ge 7, 3) := by decide +kernel
theorem dX9_expected_84 : decode cX9_expected 84 = .ok (.iconst 0, 1) := by decide +kernel
theorem dX9_expected_85 : decode cX9_expected 85 = .ok (.goto 21, 3) := by decide +kernel
theorem dX9_expected_88 : decode cX9_expected 88 = .ok (.iload 5, 2) := by decide +kernel
theorem dX9_expected_90 : decode cX9_expected 90 = .ok (.aload_n 0, 1) := by decide +kernel
theorem dX9_expected_91 : decode cX9_expected 91 = .ok (.invokevirtual 44, 3) := by decide +kernel
theorem dX9_expected_94 : decode cX9_expected 94 = .ok (.if_icmp .le 10, 3) := by decide +kernel
theorem dX9_expected_97 : decode cX9_expected 97 = .ok (.aload_n 0, 1) := by decide +kernel
theorem dX9_expected_98 : decode cX9_expected 98 = .ok (.invokevirtual 44, 3) := by decide +kernel
theorem dX9_expected_101 : decode cX9_expected 101 = .ok (.goto 5, 3) := by decide +kernel
theorem dX9_expected_104 : decode cX9_expected 104 = .ok (.iload 5, 2) := by decide +kernel
theorem dX9_expected_106 : decode cX9_expected 106 = .ok (.ireturn, 1) := by decide +kernel
theorem dX9_expected_107 : decode cX9_expected 107 = .ok (.iload_n 3, 1) := by decide +kernel
theorem dX9_expected_108 : decode cX9_expected 108 = .ok (.iload 4, 2) := by decide +kernel
theorem dX9_expected_110 : decode cX9_expected 110 = .ok (.iadd, 1) := by decide +kernel
theorem dX9_expected_111 : decode cX9_expected 111 = .ok (.iconst 2, 1) := by decide +kernel
theorem dX9_expected_112 : decode cX9_expected 112 = .ok (.idiv, 1) := by decide +kernel
theorem dX9_expected_113 : decode cX9_expected 113 = .ok (.ireturn, 1) := by decide +kernel
set_option maxRecDepth 20000 in
theorem ggX9_room_X9_top : GoodIn wsX9_room wsX9_top := goodIn_r _ [5, 6, 7, 8, 9, 10, 11, 12, 13, 14, 15, 16, 17, 18] (by decide +kernel) (by decide +kernel)
set_option maxRecDepth 20000 in
theorem gX9_room_X9_top : GoodIn wsX9_room (wsV RX9 44 RX9 yX9_top wsX9_top) := goodIn_app (goodIn_of _ (by decide +kernel)) ggX9_room_X9_top
theorem dX9_room_0 : decode cX9_room 0 = .ok (.iload_n 1, 1) := by decide +kernel
theorem dX9_room_1 : decode cX9_room 1 = .ok (.aload_n 0, 1) := by decide +kernel
theorem dX9_room_2 : decode cX9_room 2 = .ok (.invokevirtual 44, 3) := by decide +kernel
theorem dX9_room_5 : decode cX9_room 5 = .ok (.iload_n 1, 1) := by decide +kernel
theorem dX9_room_6 : decode cX9_room 6 = .ok (.isub, 1) := by decide +kernel
theorem dX9_room_7 : decode cX9_room 7 = .ok (.if_icmp .ge 7, 3) := by decide +kernel
theorem dX9_room_10 : decode cX9_room 10 = .ok (.iload_n 1, 1) := by decide +kernel
theorem dX9_room_11 : decode cX9_room 11 = .ok (.goto 9, 3) := by decide +kernel
theorem dX9_room_14 : decode cX9_room 14 = .ok (.aload_n 0, 1) := by decide +kernel
theorem dX9_room_15 : decode cX9_room 15 = .ok (.invokevirtual 44, 3) := by decide +kernel
theorem dX9_room_18 : decode cX9_room 18 = .ok (.iload_n 1, 1) := by decide +kernel
theorem dX9_room_19 : decode cX9_room 19 = .ok (.isub, 1) := by decide +kernel
theorem dX9_room_20 : decode cX9_room 20 = .ok (.ireturn, 1) := by decide +kernel
set_option maxRecDepth 20000 in
theorem ggX9_fold_X9_room : GoodIn wsX9_fold wsX9_room := goodIn_r _ [5, 6, 7, 8, 4, 9, 10, 11, 12, 13, 14, 15, 16, 17, 18, 19, 20, 21, 22] (by decide +kernel) (by decide +kernel)
set_option maxRecDepth 20000 in
theorem gX9_fold_X9_room : GoodIn wsX9_fold (wsV RX9 53 RX9 yX9_room wsX9_room) := goodIn_app (goodIn_of _ (by decide +kernel)) ggX9_fold_X9_room
theorem dX9_fold_0 : decode cX9_fold 0 = .ok (.aload_n 0, 1) := by decide +kernel
theorem dX9_fold_1 : decode cX9_fold 1 = .ok (.iload_n 2, 1) := by decide +kernel
theorem dX9_fold_2 : decode cX9_fold 2 = .ok (.invokevirtual 53, 3) := by decide +kernel
theorem dX9_fold_5 : decode cX9_fold 5 = .ok (.istore_n 3, 1) := by decide +kernel
theorem dX9_fold_6 : decode cX9_fold 6 = .ok (.iload_n 1, 1) := by decide +kernel
theorem dX9_fold_7 : decode cX9_fold 7 = .ok (.iload_n 2, 1) := by decide +kernel
theorem dX9_fold_8 : decode cX9_fold 8 = .ok (.if_icmp .ge 9, 3) := by decide +kernel
theorem dX9_fold_11 : decode cX9_fold 11 = .ok (.iload_n 2, 1) := by decide +kernel
theorem dX9_fold_12 : decode cX9_fold 12 = .ok (.iload_n 1, 1) := by decide +kernel
theorem dX9_fold_13 : decode cX9_fold 13 = .ok (.isub, 1) := by decide +kernel
theorem dX9_fold_14 : decode cX9_fold 14 = .ok (.goto 6, 3) := by decide +kernel
theorem dX9_fold_17 : decode cX9_fold 17 = .ok (.iload_n 1, 1) := by decide +kernel
theorem dX9_fold_18 : decode cX9_fold 18 = .ok (.iload_n 2, 1) := by decide +kernel
theorem dX9_fold_19 : decode cX9_fold 19 = .ok (.isub, 1) := by decide +kernel
theorem dX9_fold_20 : decode cX9_fold 20 = .ok (.istore 4, 2) := by decide +kernel
theorem dX9_fold_22 : decode cX9_fold 22 = .ok (.iload 4, 2) := by decide +kernel
theorem dX9_fold_24 : decode cX9_fold 24 = .ok (.iload_n 3, 1) := by decide +kernel
theorem dX9_fold_25 : decode cX9_fold 25 = .ok (.if_icmp .le 10, 3) := by decide +kernel
theorem dX9_fold_28 : decode cX9_fold 28 = .ok (.iload_n 3, 1) := by decide +kernel
theorem dX9_fold_29 : decode cX9_fold 29 = .ok (.iload 4, 2) := by decide +kernel
theorem dX9_fold_31 : decode cX9_fold 31 = .ok (.iadd, 1) := by decide +kernel
theorem dX9_fold_32 : decode cX9_fold 32 = .ok (.goto 21, 3) := by decide +kernel
theorem dX9_fold_35 : decode cX9_fold 35 = .ok (.iload_n 1, 1) := by decide +kernel
theorem dX9_fold_36 : decode cX9_fold 36 = .ok (.iload_n 2, 1) := by decide +kernel
theorem dX9_fold_37 : decode cX9_fold 37 = .ok (.if_icmp .ge 12, 3) := by decide +kernel
theorem dX9_fold_40 : decode cX9_fold 40 = .ok (.iconst 2, 1) := by decide +kernel
theorem dX9_fold_41 : decode cX9_fold 41 = .ok (.iload 4, 2) := by decide +kernel
theorem dX9_fold_43 : decode cX9_fold 43 = .ok (.imul, 1) := by decide +kernel
theorem dX9_fold_44 : decode cX9_fold 44 = .ok (.iconst 1, 1) := by decide +kernel
theorem dX9_fold_45 : decode cX9_fold 45 = .ok (.isub, 1) := by decide +kernel
theorem dX9_fold_46 : decode cX9_fold 46 = .ok (.goto 7, 3) := by decide +kernel
theorem dX9_fold_49 : decode cX9_fold 49 = .ok (.iconst 2, 1) := by decide +kernel
theorem dX9_fold_50 : decode cX9_fold 50 = .ok (.iload 4, 2) := by decide +kernel
theorem dX9_fold_52 : decode cX9_fold 52 = .ok (.imul, 1) := by decide +kernel
theorem dX9_fold_53 : decode cX9_fold 53 = .ok (.ireturn, 1) := by decide +kernel
set_option maxRecDepth 20000 in
theorem ggX9_unfold_X9_room : GoodIn wsX9_unfold wsX9_room := goodIn_r _ [5, 6, 7, 8, 4, 9, 10, 11, 12, 13, 14, 15, 16, 17, 18, 19, 20, 21, 22] (by decide +kernel) (by decide +kernel)
set_option maxRecDepth 20000 in
theorem gX9_unfold_X9_room : GoodIn wsX9_unfold (wsV RX9 53 RX9 yX9_room wsX9_room) := goodIn_app (goodIn_of _ (by decide +kernel)) ggX9_unfold_X9_room
theorem dX9_unfold_0 : decode cX9_unfold 0 = .ok (.aload_n 0, 1) := by decide +kernel
theorem dX9_unfold_1 : decode cX9_unfold 1 = .ok (.iload_n 2, 1) := by decide +kernel
theorem dX9_unfold_2 : decode cX9_unfold 2 = .ok (.invokevirtual 53, 3) := by decide +kernel
theorem dX9_unfold_5 : decode cX9_unfold 5 = .ok (.istore_n 3, 1) := by decide +kernel
theorem dX9_unfold_6 : decode cX9_unfold 6 = .ok (.iload_n 1, 1) := by decide +kernel
theorem dX9_unfold_7 : decode cX9_unfold 7 = .ok (.iconst 2, 1) := by decide +kernel
theorem dX9_unfold_8 : decode cX9_unfold 8 = .ok (.iload_n 3, 1) := by decide +kernel
theorem dX9_unfold_9 : decode cX9_unfold 9 = .ok (.imul, 1) := by decide +kernel
theorem dX9_unfold_10 : decode cX9_unfold 10 = .ok (.if_icmp .le 25, 3) := by decide +kernel
theorem dX9_unfold_13 : decode cX9_unfold 13 = .ok (.iload_n 2, 1) := by decide +kernel
theorem dX9_unfold_14 : decode cX9_unfold 14 = .ok (.iload_n 1, 1) := by decide +kernel
theorem dX9_unfold_15 : decode cX9_unfold 15 = .ok (.iload_n 3, 1) := by decide +kernel
theorem dX9_unfold_16 : decode cX9_unfold 16 = .ok (.isub, 1) := by decide +kernel
theorem dX9_unfold_17 : decode cX9_unfold 17 = .ok (.isub, 1) := by decide +kernel
theorem dX9_unfold_18 : decode cX9_unfold 18 = .ok (.ifCond .lt 11, 3) := by decide +kernel
theorem dX9_unfold_21 : decode cX9_unfold 21 = .ok (.iload_n 2, 1) := by decide +kernel
theorem dX9_unfold_22 : decode cX9_unfold 22 = .ok (.iload_n 1, 1) := by decide +kernel
theorem dX9_unfold_23 : decode cX9_unfold 23 = .ok (.iload_n 3, 1) := by decide +kernel
theorem dX9_unfold_24 : decode cX9_unfold 24 = .ok (.isub, 1) := by decide +kernel
theorem dX9_unfold_25 : decode cX9_unfold 25 = .ok (.isub, 1) := by decide +kernel
theorem dX9_unfold_26 : decode cX9_unfold 26 = .ok (.goto 8, 3) := by decide +kernel
theorem dX9_unfold_29 : decode cX9_unfold 29 = .ok (.iload_n 2, 1) := by decide +kernel
theorem dX9_unfold_30 : decode cX9_unfold 30 = .ok (.iload_n 1, 1) := by decide +kernel
theorem dX9_unfold_31 : decode cX9_unfold 31 = .ok (.iload_n 3, 1) := by decide +kernel
theorem dX9_unfold_32 : decode cX9_unfold 32 = .ok (.isub, 1) := by decide +kernel
theorem dX9_unfold_33 : decode cX9_unfold 33 = .ok (.iadd, 1) := by decide +kernel
theorem dX9_unfold_34 : decode cX9_unfold 34 = .ok (.ireturn, 1) := by decide +kernel
theorem dX9_unfold_35 : decode cX9_unfold 35 = .ok (.iload_n 1, 1) := by decide +kernel
theorem dX9_unfold_36 : decode cX9_unfold 36 = .ok (.iconst 2, 1) := by decide +kernel
theorem dX9_unfold_37 : decode cX9_unfold 37 = .ok (.irem, 1) := by decide +kernel
theorem dX9_unfold_38 : decode cX9_unfold 38 = .ok (.iconst 1, 1) := by decide +kernel
theorem dX9_unfold_39 : decode cX9_unfold 39 = .ok (.if_icmp .ne 13, 3) := by decide +kernel
theorem dX9_unfold_42 : decode cX9_unfold 42 = .ok (.iload_n 2, 1) := by decide +kernel
theorem dX9_unfold_43 : decode cX9_unfold 43 = .ok (.iload_n 1, 1) := by decide +kernel
theorem dX9_unfold_44 : decode cX9_unfold 44 = .ok (.iconst 1, 1) := by decide +kernel
theorem dX9_unfold_45 : decode cX9_unfold 45 = .ok (.iadd, 1) := by decide +kernel
theorem dX9_unfold_46 : decode cX9_unfold 46 = .ok (.iconst 2, 1) := by decide +kernel
theorem dX9_unfold_47 : decode cX9_unfold 47 = .ok (.idiv, 1) := by decide +kernel
theorem dX9_unfold_48 : decode cX9_unfold 48 = .ok (.isub, 1) := by decide +kernel
theorem dX9_unfold_49 : decode cX9_unfold 49 = .ok (.goto 8, 3) := by decide +kernel
theorem dX9_unfold_52 : decode cX9_unfold 52 = .ok (.iload_n 2, 1) := by decide +kernel
theorem dX9_unfold_53 : decode cX9_unfold 53 = .ok (.iload_n 1, 1) := by decide +kernel
theorem dX9_unfold_54 : decode cX9_unfold 54 = .ok (.iconst 2, 1) := by decide +kernel
theorem dX9_unfold_55 : decode cX9_unfold 55 = .ok (.idiv, 1) := by decide +kernel
theorem dX9_unfold_56 : decode cX9_unfold 56 = .ok (.iadd, 1) := by decide +kernel
theorem dX9_unfold_57 : decode cX9_unfold 57 = .ok (.ireturn, 1) := by decide +kernel
set_option maxRecDepth 20000 in
theorem ggX9_takeRow_X9_many : GoodIn wsX9_takeRow wsX9_many := goodIn_r _ [7, 2, 8, 9, 10, 11, 12, 13, 14, 15, 16, 17, 18, 19] (by decide +kernel) (by decide +kernel)
set_option maxRecDepth 20000 in
theorem gX9_takeRow_X9_many : GoodIn wsX9_takeRow (wsV RX9 32 RX9 yX9_many wsX9_many) := goodIn_app (goodIn_of _ (by decide +kernel)) ggX9_takeRow_X9_many
theorem dX9_takeRow_0 : decode cX9_takeRow 0 = .ok (.iconst 0, 1) := by decide +kernel
theorem dX9_takeRow_1 : decode cX9_takeRow 1 = .ok (.istore_n 1, 1) := by decide +kernel
theorem dX9_takeRow_2 : decode cX9_takeRow 2 = .ok (.iload_n 1, 1) := by decide +kernel
theorem dX9_takeRow_3 : decode cX9_takeRow 3 = .ok (.aload_n 0, 1) := by decide +kernel
theorem dX9_takeRow_4 : decode cX9_takeRow 4 = .ok (.invokevirtual 32, 3) := by decide +kernel
theorem dX9_takeRow_7 : decode cX9_takeRow 7 = .ok (.if_icmp .ge 21, 3) := by decide +kernel
theorem dX9_takeRow_10 : decode cX9_takeRow 10 = .ok (.aload_n 0, 1) := by decide +kernel
theorem dX9_takeRow_11 : decode cX9_takeRow 11 = .ok (.getfield 20, 3) := by decide +kernel
theorem dX9_takeRow_14 : decode cX9_takeRow 14 = .ok (.iload_n 1, 1) := by decide +kernel
theorem dX9_takeRow_15 : decode cX9_takeRow 15 = .ok (.aload_n 0, 1) := by decide +kernel
theorem dX9_takeRow_16 : decode cX9_takeRow 16 = .ok (.getfield 7, 3) := by decide +kernel
theorem dX9_takeRow_19 : decode cX9_takeRow 19 = .ok (.iload_n 1, 1) := by decide +kernel
theorem dX9_takeRow_20 : decode cX9_takeRow 20 = .ok (.iaload, 1) := by decide +kernel
theorem dX9_takeRow_21 : decode cX9_takeRow 21 = .ok (.iastore, 1) := by decide +kernel
theorem dX9_takeRow_22 : decode cX9_takeRow 22 = .ok (.iinc 1 1, 3) := by decide +kernel
theorem dX9_takeRow_25 : decode cX9_takeRow 25 = .ok (.goto (-23), 3) := by decide +kernel
theorem dX9_takeRow_28 : decode cX9_takeRow 28 = .ok (.return_, 1) := by decide +kernel
set_option maxRecDepth 20000 in
theorem ggX9_ahead_X9_in : GoodIn wsX9_ahead wsX9_in := goodIn_r _ [5] (by decide +kernel) (by decide +kernel)
set_option maxRecDepth 20000 in
theorem gX9_ahead_X9_in : GoodIn wsX9_ahead (va_wsS RX9 36 yX9_in wsX9_in) := goodIn_app (goodIn_of _ (by decide +kernel)) ggX9_ahead_X9_in
set_option maxRecDepth 20000 in
theorem ggX9_ahead_X9_many : GoodIn wsX9_ahead wsX9_many := goodIn_r _ [9, 10, 39, 40, 41, 42, 43, 44, 45, 46, 47, 48, 49, 50] (by decide +kernel) (by decide +kernel)
set_option maxRecDepth 20000 in
theorem gX9_ahead_X9_many : GoodIn wsX9_ahead (wsV RX9 32 RX9 yX9_many wsX9_many) := goodIn_app (goodIn_of _ (by decide +kernel)) ggX9_ahead_X9_many
set_option maxRecDepth 20000 in
theorem ggX9_ahead_X9_isBare : GoodIn wsX9_ahead wsX9_isBare := goodIn_r _ [14, 15, 16, 17, 4, 18, 10, 39, 40, 41, 42, 43, 44, 45, 46, 47, 48, 49, 50] (by decide +kernel) (by decide +kernel)
set_option maxRecDepth 20000 in
theorem gX9_ahead_X9_isBare : GoodIn wsX9_ahead (wsV RX9 50 RX9 yX9_isBare wsX9_isBare) := goodIn_app (goodIn_of _ (by decide +kernel)) ggX9_ahead_X9_isBare
set_option maxRecDepth 20000 in
theorem ggX9_ahead_X9_takeRow : GoodIn wsX9_ahead wsX9_takeRow := goodIn_r _ [22, 1, 10, 6, 7, 8, 4, 9, 39, 40, 41, 42, 43, 44, 45, 46, 47, 48, 49, 50] (by decide +kernel) (by decide +kernel)
set_option maxRecDepth 20000 in
theorem gX9_ahead_X9_takeRow : GoodIn wsX9_ahead (wsV RX9 57 RX9 yX9_takeRow wsX9_takeRow) := goodIn_app (goodIn_of _ (by decide +kernel)) ggX9_ahead_X9_takeRow
set_option maxRecDepth 20000 in
theorem ggX9_ahead_X9_expected : GoodIn wsX9_ahead wsX9_expected := goodIn_r _ [26, 1, 11, 12, 13, 4, 14, 15, 16, 17, 18, 10, 27, 28, 29, 30, 39, 40, 41, 42, 43, 44, 45, 46, 47, 48, 49, 50] (by decide +kernel) (by decide +kernel)
set_option maxRecDepth 20000 in
theorem gX9_ahead_X9_expected : GoodIn wsX9_ahead (wsV RX9 60 RX9 yX9_expected wsX9_expected) := goodIn_app (goodIn_of _ (by decide +kernel)) ggX9_ahead_X9_expected
set_option maxRecDepth 20000 in
theorem ggX9_ahead_X9_fold : GoodIn wsX9_ahead wsX9_fold := goodIn_r _ [34, 35, 36, 37, 4, 38, 27, 28, 29, 30, 10, 39, 40, 41, 42, 43, 44, 45, 46, 47, 48, 49, 50] (by decide +kernel) (by decide +kernel)
set_option maxRecDepth 20000 in
theorem gX9_ahead_X9_fold : GoodIn wsX9_ahead (wsV RX9 64 RX9 yX9_fold wsX9_fold) := goodIn_app (goodIn_of _ (by decide +kernel)) ggX9_ahead_X9_fold
theorem dX9_ahead_0 : decode cX9_ahead 0 = .ok (.iload_n 2, 1) := by decide +kernel
theorem dX9_ahead_1 : decode cX9_ahead 1 = .ok (.iconst 0, 1) := by decide +kernel
theorem dX9_ahead_2 : decode cX9_ahead 2 = .ok (.iconst 3, 1) := by decide +kernel
theorem dX9_ahead_3 : decode cX9_ahead 3 = .ok (.invokestatic 36, 3) := by decide +kernel
theorem dX9_ahead_6 : decode cX9_ahead 6 = .ok (.ifCond .eq 12, 3) := by decide +kernel
theorem dX9_ahead_9 : decode cX9_ahead 9 = .ok (.iload_n 3, 1) := by decide +kernel
theorem dX9_ahead_10 : decode cX9_ahead 10 = .ok (.iconst 0, 1) := by decide +kernel
theorem dX9_ahead_11 : decode cX9_ahead 11 = .ok (.iconst 1, 1) := by decide +kernel
theorem dX9_ahead_12 : decode cX9_ahead 12 = .ok (.invokestatic 36, 3) := by decide +kernel
theorem dX9_ahead_15 : decode cX9_ahead 15 = .ok (.ifCond .ne 6, 3) := by decide +kernel
theorem dX9_ahead_18 : decode cX9_ahead 18 = .ok (.bipush (-2), 2) := by decide +kernel
theorem dX9_ahead_20 : decode cX9_ahead 20 = .ok (.ireturn, 1) := by decide +kernel
theorem dX9_ahead_21 : decode cX9_ahead 21 = .ok (.iload_n 1, 1) := by decide +kernel
theorem dX9_ahead_22 : decode cX9_ahead 22 = .ok (.iconst 0, 1) := by decide +kernel
theorem dX9_ahead_23 : decode cX9_ahead 23 = .ok (.aload_n 0, 1) := by decide +kernel
theorem dX9_ahead_24 : decode cX9_ahead 24 = .ok (.invokevirtual 32, 3) := by decide +kernel
theorem dX9_ahead_27 : decode cX9_ahead 27 = .ok (.iconst 1, 1) := by decide +kernel
theorem dX9_ahead_28 : decode cX9_ahead 28 = .ok (.isub, 1) := by decide +kernel
theorem dX9_ahead_29 : decode cX9_ahead 29 = .ok (.invokestatic 36, 3) := by decide +kernel
theorem dX9_ahead_32 : decode cX9_ahead 32 = .ok (.ifCond .eq 11, 3) := by decide +kernel
theorem dX9_ahead_35 : decode cX9_ahead 35 = .ok (.aload_n 0, 1) := by decide +kernel
theorem dX9_ahead_36 : decode cX9_ahead 36 = .ok (.iload_n 1, 1) := by decide +kernel
theorem dX9_ahead_37 : decode cX9_ahead 37 = .ok (.invokevirtual 50, 3) := by decide +kernel
theorem dX9_ahead_40 : decode cX9_ahead 40 = .ok (.ifCond .eq 6, 3) := by decide +kernel
theorem dX9_ahead_43 : decode cX9_ahead 43 = .ok (.bipush (-6), 2) := by decide +kernel
theorem dX9_ahead_45 : decode cX9_ahead 45 = .ok (.ireturn, 1) := by decide +kernel
theorem dX9_ahead_46 : decode cX9_ahead 46 = .ok (.aload_n 0, 1) := by decide +kernel
theorem dX9_ahead_47 : decode cX9_ahead 47 = .ok (.invokevirtual 57, 3) := by decide +kernel
theorem dX9_ahead_50 : decode cX9_ahead 50 = .ok (.aload_n 0, 1) := by decide +kernel
theorem dX9_ahead_51 : decode cX9_ahead 51 = .ok (.iload_n 1, 1) := by decide +kernel
theorem dX9_ahead_52 : decode cX9_ahead 52 = .ok (.iload_n 2, 1) := by decide +kernel
theorem dX9_ahead_53 : decode cX9_ahead 53 = .ok (.invokevirtual 60, 3) := by decide +kernel
theorem dX9_ahead_56 : decode cX9_ahead 56 = .ok (.istore 4, 2) := by decide +kernel
theorem dX9_ahead_58 : decode cX9_ahead 58 = .ok (.iload_n 3, 1) := by decide +kernel
theorem dX9_ahead_59 : decode cX9_ahead 59 = .ok (.ifCond .ne 8, 3) := by decide +kernel
theorem dX9_ahead_62 : decode cX9_ahead 62 = .ok (.iload 4, 2) := by decide +kernel
theorem dX9_ahead_64 : decode cX9_ahead 64 = .ok (.goto 15, 3) := by decide +kernel
theorem dX9_ahead_67 : decode cX9_ahead 67 = .ok (.aload_n 0, 1) := by decide +kernel
theorem dX9_ahead_68 : decode cX9_ahead 68 = .ok (.aload_n 0, 1) := by decide +kernel
theorem dX9_ahead_69 : decode cX9_ahead 69 = .ok (.getfield 20, 3) := by decide +kernel
theorem dX9_ahead_72 : decode cX9_ahead 72 = .ok (.iload_n 1, 1) := by decide +kernel
theorem dX9_ahead_73 : decode cX9_ahead 73 = .ok (.iaload, 1) := by decide +kernel
theorem dX9_ahead_74 : decode cX9_ahead 74 = .ok (.iload 4, 2) := by decide +kernel
theorem dX9_ahead_76 : decode cX9_ahead 76 = .ok (.invokevirtual 64, 3) := by decide +kernel
theorem dX9_ahead_79 : decode cX9_ahead 79 = .ok (.ireturn, 1) := by decide +kernel
set_option maxRecDepth 20000 in
theorem ggX9_blocks_X9_many : GoodIn wsX9_blocks wsX9_many := goodIn_r _ [6, 1, 7, 8, 9, 10, 11, 12, 13, 14, 15, 16, 17, 18] (by decide +kernel) (by decide +kernel)
set_option maxRecDepth 20000 in
theorem gX9_blocks_X9_many : GoodIn wsX9_blocks (wsV RX9 32 RX9 yX9_many wsX9_many) := goodIn_app (goodIn_of _ (by decide +kernel)) ggX9_blocks_X9_many
theorem dX9_blocks_0 : decode cX9_blocks 0 = .ok (.aload_n 0, 1) := by decide +kernel
theorem dX9_blocks_1 : decode cX9_blocks 1 = .ok (.invokevirtual 32, 3) := by decide +kernel
theorem dX9_blocks_4 : decode cX9_blocks 4 = .ok (.aload_n 0, 1) := by decide +kernel
theorem dX9_blocks_5 : decode cX9_blocks 5 = .ok (.getfield 7, 3) := by decide +kernel
theorem dX9_blocks_8 : decode cX9_blocks 8 = .ok (.sipush 1067, 3) := by decide +kernel
theorem dX9_blocks_11 : decode cX9_blocks 11 = .ok (.iaload, 1) := by decide +kernel
theorem dX9_blocks_12 : decode cX9_blocks 12 = .ok (.iadd, 1) := by decide +kernel
theorem dX9_blocks_13 : decode cX9_blocks 13 = .ok (.iconst 1, 1) := by decide +kernel
theorem dX9_blocks_14 : decode cX9_blocks 14 = .ok (.isub, 1) := by decide +kernel
theorem dX9_blocks_15 : decode cX9_blocks 15 = .ok (.aload_n 0, 1) := by decide +kernel
theorem dX9_blocks_16 : decode cX9_blocks 16 = .ok (.getfield 7, 3) := by decide +kernel
theorem dX9_blocks_19 : decode cX9_blocks 19 = .ok (.sipush 1067, 3) := by decide +kernel
theorem dX9_blocks_22 : decode cX9_blocks 22 = .ok (.iaload, 1) := by decide +kernel
theorem dX9_blocks_23 : decode cX9_blocks 23 = .ok (.idiv, 1) := by decide +kernel
theorem dX9_blocks_24 : decode cX9_blocks 24 = .ok (.ireturn, 1) := by decide +kernel
theorem dX9_firstOf_0 : decode cX9_firstOf 0 = .ok (.iload_n 1, 1) := by decide +kernel
theorem dX9_firstOf_1 : decode cX9_firstOf 1 = .ok (.aload_n 0, 1) := by decide +kernel
theorem dX9_firstOf_2 : decode cX9_firstOf 2 = .ok (.getfield 7, 3) := by decide +kernel
theorem dX9_firstOf_5 : decode cX9_firstOf 5 = .ok (.sipush 1067, 3) := by decide +kernel
theorem dX9_firstOf_8 : decode cX9_firstOf 8 = .ok (.iaload, 1) := by decide +kernel
theorem dX9_firstOf_9 : decode cX9_firstOf 9 = .ok (.imul, 1) := by decide +kernel
theorem dX9_firstOf_10 : decode cX9_firstOf 10 = .ok (.ireturn, 1) := by decide +kernel
theorem dX9_less_0 : decode cX9_less 0 = .ok (.iload_n 0, 1) := by decide +kernel
theorem dX9_less_1 : decode cX9_less 1 = .ok (.iload_n 1, 1) := by decide +kernel
theorem dX9_less_2 : decode cX9_less 2 = .ok (.if_icmp .ge 7, 3) := by decide +kernel
theorem dX9_less_5 : decode cX9_less 5 = .ok (.iload_n 0, 1) := by decide +kernel
theorem dX9_less_6 : decode cX9_less 6 = .ok (.goto 4, 3) := by decide +kernel
theorem dX9_less_9 : decode cX9_less 9 = .ok (.iload_n 1, 1) := by decide +kernel
theorem dX9_less_10 : decode cX9_less 10 = .ok (.ireturn, 1) := by decide +kernel
set_option maxRecDepth 20000 in
theorem ggX9_endOf_X9_firstOf : GoodIn wsX9_endOf wsX9_firstOf := goodIn_r _ [6, 1, 14, 15, 16, 17, 18, 19, 20, 21, 22, 23, 24, 25] (by decide +kernel) (by decide +kernel)
set_option maxRecDepth 20000 in
theorem gX9_endOf_X9_firstOf : GoodIn wsX9_endOf (wsV RX9 67 RX9 yX9_firstOf wsX9_firstOf) := goodIn_app (goodIn_of _ (by decide +kernel)) ggX9_endOf_X9_firstOf
set_option maxRecDepth 20000 in
theorem ggX9_endOf_X9_many : GoodIn wsX9_endOf wsX9_many := goodIn_r _ [10, 1, 14, 15, 16, 17, 18, 19, 20, 21, 22, 23, 24, 25] (by decide +kernel) (by decide +kernel)
set_option maxRecDepth 20000 in
theorem gX9_endOf_X9_many : GoodIn wsX9_endOf (wsV RX9 32 RX9 yX9_many wsX9_many) := goodIn_app (goodIn_of _ (by decide +kernel)) ggX9_endOf_X9_many
set_option maxRecDepth 20000 in
theorem ggX9_endOf_X9_less : GoodIn wsX9_endOf wsX9_less := goodIn_r _ [13] (by decide +kernel) (by decide +kernel)
set_option maxRecDepth 20000 in
theorem gX9_endOf_X9_less : GoodIn wsX9_endOf (va_wsS RX9 70 yX9_less wsX9_less) := goodIn_app (goodIn_of _ (by decide +kernel)) ggX9_endOf_X9_less
theorem dX9_endOf_0 : decode cX9_endOf 0 = .ok (.aload_n 0, 1) := by decide +kernel
theorem dX9_endOf_1 : decode cX9_endOf 1 = .ok (.iload_n 1, 1) := by decide +kernel
theorem dX9_endOf_2 : decode cX9_endOf 2 = .ok (.invokevirtual 67, 3) := by decide +kernel
theorem dX9_endOf_5 : decode cX9_endOf 5 = .ok (.aload_n 0, 1) := by decide +kernel
theorem dX9_endOf_6 : decode cX9_endOf 6 = .ok (.getfield 7, 3) := by decide +kernel
theorem dX9_endOf_9 : decode cX9_endOf 9 = .ok (.sipush 1067, 3) := by decide +kernel
theorem dX9_endOf_12 : decode cX9_endOf 12 = .ok (.iaload, 1) := by decide +kernel
theorem dX9_endOf_13 : decode cX9_endOf 13 = .ok (.iadd, 1) := by decide +kernel
theorem dX9_endOf_14 : decode cX9_endOf 14 = .ok (.aload_n 0, 1) := by decide +kernel
theorem dX9_endOf_15 : decode cX9_endOf 15 = .ok (.invokevirtual 32, 3) := by decide +kernel
theorem dX9_endOf_18 : decode cX9_endOf 18 = .ok (.invokestatic 70, 3) := by decide +kernel
theorem dX9_endOf_21 : decode cX9_endOf 21 = .ok (.ireturn, 1) := by decide +kernel
set_option maxRecDepth 20000 in
theorem ggX9_canCode_X9_in : GoodIn wsX9_canCode wsX9_in := goodIn_r _ [5] (by decide +kernel) (by decide +kernel)
set_option maxRecDepth 20000 in
theorem gX9_canCode_X9_in : GoodIn wsX9_canCode (va_wsS RX9 36 yX9_in wsX9_in) := goodIn_app (goodIn_of _ (by decide +kernel)) ggX9_canCode_X9_in
theorem dX9_canCode_0 : decode cX9_canCode 0 = .ok (.iload_n 1, 1) := by decide +kernel
theorem dX9_canCode_1 : decode cX9_canCode 1 = .ok (.ifCond .eq 33, 3) := by decide +kernel
theorem dX9_canCode_4 : decode cX9_canCode 4 = .ok (.iload_n 1, 1) := by decide +kernel
theorem dX9_canCode_5 : decode cX9_canCode 5 = .ok (.bipush 8, 2) := by decide +kernel
theorem dX9_canCode_7 : decode cX9_canCode 7 = .ok (.if_icmp .eq 27, 3) := by decide +kernel
theorem dX9_canCode_10 : decode cX9_canCode 10 = .ok (.iload_n 1, 1) := by decide +kernel
theorem dX9_canCode_11 : decode cX9_canCode 11 = .ok (.iconst 1, 1) := by decide +kernel
theorem dX9_canCode_12 : decode cX9_canCode 12 = .ok (.bipush 7, 2) := by decide +kernel
theorem dX9_canCode_14 : decode cX9_canCode 14 = .ok (.invokestatic 36, 3) := by decide +kernel
theorem dX9_canCode_17 : decode cX9_canCode 17 = .ok (.ifCond .eq 21, 3) := by decide +kernel
theorem dX9_canCode_20 : decode cX9_canCode 20 = .ok (.iload_n 1, 1) := by decide +kernel
theorem dX9_canCode_21 : decode cX9_canCode 21 = .ok (.iconst 1, 1) := by decide +kernel
theorem dX9_canCode_22 : decode cX9_canCode 22 = .ok (.isub, 1) := by decide +kernel
theorem dX9_canCode_23 : decode cX9_canCode 23 = .ok (.aload_n 0, 1) := by decide +kernel
theorem dX9_canCode_24 : decode cX9_canCode 24 = .ok (.getfield 7, 3) := by decide +kernel
theorem dX9_canCode_27 : decode cX9_canCode 27 = .ok (.sipush 1066, 3) := by decide +kernel
theorem dX9_canCode_30 : decode cX9_canCode 30 = .ok (.iaload, 1) := by decide +kernel
theorem dX9_canCode_31 : decode cX9_canCode 31 = .ok (.if_icmp .ge 7, 3) := by decide +kernel
theorem dX9_canCode_34 : decode cX9_canCode 34 = .ok (.iconst 1, 1) := by decide +kernel
theorem dX9_canCode_35 : decode cX9_canCode 35 = .ok (.goto 4, 3) := by decide +kernel
theorem dX9_canCode_38 : decode cX9_canCode 38 = .ok (.iconst 0, 1) := by decide +kernel
theorem dX9_canCode_39 : decode cX9_canCode 39 = .ok (.ireturn, 1) := by decide +kernel
theorem dX9_bitsOf_0 : decode cX9_bitsOf 0 = .ok (.iload_n 2, 1) := by decide +kernel
theorem dX9_bitsOf_1 : decode cX9_bitsOf 1 = .ok (.ifCond .ne 14, 3) := by decide +kernel
theorem dX9_bitsOf_4 : decode cX9_bitsOf 4 = .ok (.iload_n 1, 1) := by decide +kernel
theorem dX9_bitsOf_5 : decode cX9_bitsOf 5 = .ok (.ifCond .ne 7, 3) := by decide +kernel
theorem dX9_bitsOf_8 : decode cX9_bitsOf 8 = .ok (.iconst 0, 1) := by decide +kernel
theorem dX9_bitsOf_9 : decode cX9_bitsOf 9 = .ok (.goto 5, 3) := by decide +kernel
theorem dX9_bitsOf_12 : decode cX9_bitsOf 12 = .ok (.bipush (-6), 2) := by decide +kernel
theorem dX9_bitsOf_14 : decode cX9_bitsOf 14 = .ok (.ireturn, 1) := by decide +kernel
theorem dX9_bitsOf_15 : decode cX9_bitsOf 15 = .ok (.iload_n 2, 1) := by decide +kernel
theorem dX9_bitsOf_16 : decode cX9_bitsOf 16 = .ok (.bipush 8, 2) := by decide +kernel
theorem dX9_bitsOf_18 : decode cX9_bitsOf 18 = .ok (.if_icmp .ne 14, 3) := by decide +kernel
theorem dX9_bitsOf_21 : decode cX9_bitsOf 21 = .ok (.aload_n 0, 1) := by decide +kernel
theorem dX9_bitsOf_22 : decode cX9_bitsOf 22 = .ok (.getfield 7, 3) := by decide +kernel
theorem dX9_bitsOf_25 : decode cX9_bitsOf 25 = .ok (.sipush 1066, 3) := by decide +kernel
theorem dX9_bitsOf_28 : decode cX9_bitsOf 28 = .ok (.iaload, 1) := by decide +kernel
theorem dX9_bitsOf_29 : decode cX9_bitsOf 29 = .ok (.goto 10, 3) := by decide +kernel
theorem dX9_bitsOf_32 : decode cX9_bitsOf 32 = .ok (.iload_n 1, 1) := by decide +kernel
theorem dX9_bitsOf_33 : decode cX9_bitsOf 33 = .ok (.iload_n 2, 1) := by decide +kernel
theorem dX9_bitsOf_34 : decode cX9_bitsOf 34 = .ok (.iconst 1, 1) := by decide +kernel
theorem dX9_bitsOf_35 : decode cX9_bitsOf 35 = .ok (.isub, 1) := by decide +kernel
theorem dX9_bitsOf_36 : decode cX9_bitsOf 36 = .ok (.ishr, 1) := by decide +kernel
theorem dX9_bitsOf_37 : decode cX9_bitsOf 37 = .ok (.iload_n 2, 1) := by decide +kernel
theorem dX9_bitsOf_38 : decode cX9_bitsOf 38 = .ok (.iadd, 1) := by decide +kernel
theorem dX9_bitsOf_39 : decode cX9_bitsOf 39 = .ok (.ireturn, 1) := by decide +kernel
set_option maxRecDepth 20000 in
theorem ggX9_costOf_X9_canCode : GoodIn wsX9_costOf wsX9_canCode := goodIn_r _ [7, 1, 8, 9, 6, 10, 54, 55, 56, 57, 58, 59, 60, 61, 62, 63, 64, 65] (by decide +kernel) (by decide +kernel)
set_option maxRecDepth 20000 in
theorem gX9_costOf_X9_canCode : GoodIn wsX9_costOf (wsV RX9 73 RX9 yX9_canCode wsX9_canCode) := goodIn_app (goodIn_of _ (by decide +kernel)) ggX9_costOf_X9_canCode
set_option maxRecDepth 20000 in
theorem ggX9_costOf_X9_firstOf : GoodIn wsX9_costOf wsX9_firstOf := goodIn_r _ [14, 1, 54, 55, 56, 57, 58, 59, 60, 61, 62, 63, 64, 65] (by decide +kernel) (by decide +kernel)
set_option maxRecDepth 20000 in
theorem gX9_costOf_X9_firstOf : GoodIn wsX9_costOf (wsV RX9 67 RX9 yX9_firstOf wsX9_firstOf) := goodIn_app (goodIn_of _ (by decide +kernel)) ggX9_costOf_X9_firstOf
set_option maxRecDepth 20000 in
theorem ggX9_costOf_X9_endOf : GoodIn wsX9_costOf wsX9_endOf := goodIn_r _ [18, 1, 11, 12, 13, 6, 14, 19, 20, 21, 22, 23, 24, 25, 54, 55, 56, 57, 58, 59, 60, 61, 62, 63, 64, 65] (by decide +kernel) (by decide +kernel)
set_option maxRecDepth 20000 in
theorem gX9_costOf_X9_endOf : GoodIn wsX9_costOf (wsV RX9 76 RX9 yX9_endOf wsX9_endOf) := goodIn_app (goodIn_of _ (by decide +kernel)) ggX9_costOf_X9_endOf
set_option maxRecDepth 20000 in
theorem ggX9_costOf_X9_isBare : GoodIn wsX9_costOf wsX9_isBare := goodIn_r _ [29, 30, 31, 32, 6, 33, 1, 54, 55, 56, 57, 58, 59, 60, 61, 62, 63, 64, 65] (by decide +kernel) (by decide +kernel)
set_option maxRecDepth 20000 in
theorem gX9_costOf_X9_isBare : GoodIn wsX9_costOf (wsV RX9 50 RX9 yX9_isBare wsX9_isBare) := goodIn_app (goodIn_of _ (by decide +kernel)) ggX9_costOf_X9_isBare
set_option maxRecDepth 20000 in
theorem ggX9_costOf_X9_expected : GoodIn wsX9_costOf wsX9_expected := goodIn_r _ [37, 2, 26, 27, 28, 6, 29, 30, 31, 32, 33, 1, 38, 39, 40, 41, 54, 55, 56, 57, 58, 59, 60, 61, 62, 63, 64, 65] (by decide +kernel) (by decide +kernel)
set_option maxRecDepth 20000 in
theorem gX9_costOf_X9_expected : GoodIn wsX9_costOf (wsV RX9 60 RX9 yX9_expected wsX9_expected) := goodIn_app (goodIn_of _ (by decide +kernel)) ggX9_costOf_X9_expected
set_option maxRecDepth 20000 in
theorem ggX9_costOf_X9_fold : GoodIn wsX9_costOf wsX9_fold := goodIn_r _ [45, 46, 47, 48, 6, 49, 38, 39, 40, 41, 1, 54, 55, 56, 57, 58, 59, 60, 61, 62, 63, 64, 65] (by decide +kernel) (by decide +kernel)
set_option maxRecDepth 20000 in
theorem gX9_costOf_X9_fold : GoodIn wsX9_costOf (wsV RX9 64 RX9 yX9_fold wsX9_fold) := goodIn_app (goodIn_of _ (by decide +kernel)) ggX9_costOf_X9_fold
set_option maxRecDepth 20000 in
theorem ggX9_costOf_X9_bitsOf : GoodIn wsX9_costOf wsX9_bitsOf := goodIn_r _ [53, 1, 54, 55, 56, 57, 58, 59, 60, 61, 62, 63, 64, 65] (by decide +kernel) (by decide +kernel)
set_option maxRecDepth 20000 in
theorem gX9_costOf_X9_bitsOf : GoodIn wsX9_costOf (wsV RX9 79 RX9 yX9_bitsOf wsX9_bitsOf) := goodIn_app (goodIn_of _ (by decide +kernel)) ggX9_costOf_X9_bitsOf
theorem dX9_costOf_0 : decode cX9_costOf 0 = .ok (.aload_n 0, 1) := by decide +kernel
theorem dX9_costOf_1 : decode cX9_costOf 1 = .ok (.iload_n 3, 1) := by decide +kernel
theorem dX9_costOf_2 : decode cX9_costOf 2 = .ok (.invokevirtual 73, 3) := by decide +kernel
theorem dX9_costOf_5 : decode cX9_costOf 5 = .ok (.ifCond .ne 6, 3) := by decide +kernel
theorem dX9_costOf_8 : decode cX9_costOf 8 = .ok (.bipush (-6), 2) := by decide +kernel
theorem dX9_costOf_10 : decode cX9_costOf 10 = .ok (.ireturn, 1) := by decide +kernel
theorem dX9_costOf_11 : decode cX9_costOf 11 = .ok (.bipush 6, 2) := by decide +kernel
theorem dX9_costOf_13 : decode cX9_costOf 13 = .ok (.istore 4, 2) := by decide +kernel
theorem dX9_costOf_15 : decode cX9_costOf 15 = .ok (.aload_n 0, 1) := by decide +kernel
theorem dX9_costOf_16 : decode cX9_costOf 16 = .ok (.iload_n 1, 1) := by decide +kernel
theorem dX9_costOf_17 : decode cX9_costOf 17 = .ok (.invokevirtual 67, 3) := by decide +kernel
theorem dX9_costOf_20 : decode cX9_costOf 20 = .ok (.istore 5, 2) := by decide +kernel
theorem dX9_costOf_22 : decode cX9_costOf 22 = .ok (.iload 5, 2) := by decide +kernel
theorem dX9_costOf_24 : decode cX9_costOf 24 = .ok (.aload_n 0, 1) := by decide +kernel
theorem dX9_costOf_25 : decode cX9_costOf 25 = .ok (.iload_n 1, 1) := by decide +kernel
theorem dX9_costOf_26 : decode cX9_costOf 26 = .ok (.invokevirtual 76, 3) := by decide +kernel
theorem dX9_costOf_29 : decode cX9_costOf 29 = .ok (.if_icmp .ge 69, 3) := by decide +kernel
theorem dX9_costOf_32 : decode cX9_costOf 32 = .ok (.aload_n 0, 1) := by decide +kernel
theorem dX9_costOf_33 : decode cX9_costOf 33 = .ok (.iload 5, 2) := by decide +kernel
theorem dX9_costOf_35 : decode cX9_costOf 35 = .ok (.invokevirtual 50, 3) := by decide +kernel
theorem dX9_costOf_38 : decode cX9_costOf 38 = .ok (.ifCond .eq 14, 3) := by decide +kernel
theorem dX9_costOf_41 : decode cX9_costOf 41 = .ok (.aload_n 0, 1) := by decide +kernel
theorem dX9_costOf_42 : decode cX9_costOf 42 = .ok (.getfield 7, 3) := by decide +kernel
theorem dX9_costOf_45 : decode cX9_costOf 45 = .ok (.sipush 1066, 3) := by decide +kernel
theorem dX9_costOf_48 : decode cX9_costOf 48 = .ok (.iaload, 1) := by decide +kernel
theorem dX9_costOf_49 : decode cX9_costOf 49 = .ok (.goto 26, 3) := by decide +kernel
theorem dX9_costOf_52 : decode cX9_costOf 52 = .ok (.aload_n 0, 1) := by decide +kernel
theorem dX9_costOf_53 : decode cX9_costOf 53 = .ok (.aload_n 0, 1) := by decide +kernel
theorem dX9_costOf_54 : decode cX9_costOf 54 = .ok (.aload_n 0, 1) := by decide +kernel
theorem dX9_costOf_55 : decode cX9_costOf 55 = .ok (.getfield 20, 3) := by decide +kernel
theorem dX9_costOf_58 : decode cX9_costOf 58 = .ok (.iload 5, 2) := by decide +kernel
theorem dX9_costOf_60 : decode cX9_costOf 60 = .ok (.iaload, 1) := by decide +kernel
theorem dX9_costOf_61 : decode cX9_costOf 61 = .ok (.aload_n 0, 1) := by decide +kernel
theorem dX9_costOf_62 : decode cX9_costOf 62 = .ok (.iload 5, 2) := by decide +kernel
theorem dX9_costOf_64 : decode cX9_costOf 64 = .ok (.iload_n 2, 1) := by decide +kernel
theorem dX9_costOf_65 : decode cX9_costOf 65 = .ok (.invokevirtual 60, 3) := by decide +kernel
theorem dX9_costOf_68 : decode cX9_costOf 68 = .ok (.invokevirtual 64, 3) := by decide +kernel
theorem dX9_costOf_71 : decode cX9_costOf 71 = .ok (.iload_n 3, 1) := by decide +kernel
theorem dX9_costOf_72 : decode cX9_costOf 72 = .ok (.invokevirtual 79, 3) := by decide +kernel
theorem dX9_costOf_75 : decode cX9_costOf 75 = .ok (.istore 6, 2) := by decide +kernel
theorem dX9_costOf_77 : decode cX9_costOf 77 = .ok (.iload 6, 2) := by decide +kernel
theorem dX9_costOf_79 : decode cX9_costOf 79 = .ok (.ifCond .ge 6, 3) := by decide +kernel
theorem dX9_costOf_82 : decode cX9_costOf 82 = .ok (.bipush (-6), 2) := by decide +kernel
theorem dX9_costOf_84 : decode cX9_costOf 84 = .ok (.ireturn, 1) := by decide +kernel
theorem dX9_costOf_85 : decode cX9_costOf 85 = .ok (.iload 4, 2) := by decide +kernel
theorem dX9_costOf_87 : decode cX9_costOf 87 = .ok (.iload 6, 2) := by decide +kernel
theorem dX9_costOf_89 : decode cX9_costOf 89 = .ok (.iadd, 1) := by decide +kernel
theorem dX9_costOf_90 : decode cX9_costOf 90 = .ok (.istore 4, 2) := by decide +kernel
theorem dX9_costOf_92 : decode cX9_costOf 92 = .ok (.iinc 5 1, 3) := by decide +kernel
theorem dX9_costOf_95 : decode cX9_costOf 95 = .ok (.goto (-73), 3) := by decide +kernel
theorem dX9_costOf_98 : decode cX9_costOf 98 = .ok (.iload 4, 2) := by decide +kernel
theorem dX9_costOf_100 : decode cX9_costOf 100 = .ok (.ireturn, 1) := by decide +kernel
set_option maxRecDepth 20000 in
theorem ggX9_isBlock_X9_blocks : GoodIn wsX9_isBlock wsX9_blocks := goodIn_r _ [5, 6, 7, 8, 9, 4, 10, 14, 15, 16, 17, 18, 19, 20, 21, 22, 23, 24, 25] (by decide +kernel) (by decide +kernel)
set_option maxRecDepth 20000 in
theorem gX9_isBlock_X9_blocks : GoodIn wsX9_isBlock (wsV RX9 82 RX9 yX9_blocks wsX9_blocks) := goodIn_app (goodIn_of _ (by decide +kernel)) ggX9_isBlock_X9_blocks
set_option maxRecDepth 20000 in
theorem ggX9_isBlock_X9_in : GoodIn wsX9_isBlock wsX9_in := goodIn_r _ [13] (by decide +kernel) (by decide +kernel)
set_option maxRecDepth 20000 in
theorem gX9_isBlock_X9_in : GoodIn wsX9_isBlock (va_wsS RX9 36 yX9_in wsX9_in) := goodIn_app (goodIn_of _ (by decide +kernel)) ggX9_isBlock_X9_in
theorem dX9_isBlock_0 : decode cX9_isBlock 0 = .ok (.iload_n 1, 1) := by decide +kernel
theorem dX9_isBlock_1 : decode cX9_isBlock 1 = .ok (.iconst 0, 1) := by decide +kernel
theorem dX9_isBlock_2 : decode cX9_isBlock 2 = .ok (.aload_n 0, 1) := by decide +kernel
theorem dX9_isBlock_3 : decode cX9_isBlock 3 = .ok (.invokevirtual 82, 3) := by decide +kernel
theorem dX9_isBlock_6 : decode cX9_isBlock 6 = .ok (.iconst 1, 1) := by decide +kernel
theorem dX9_isBlock_7 : decode cX9_isBlock 7 = .ok (.isub, 1) := by decide +kernel
theorem dX9_isBlock_8 : decode cX9_isBlock 8 = .ok (.invokestatic 36, 3) := by decide +kernel
theorem dX9_isBlock_11 : decode cX9_isBlock 11 = .ok (.ireturn, 1) := by decide +kernel
set_option maxRecDepth 20000 in
theorem ggX9_cost_X9_in : GoodIn wsX9_cost wsX9_in := goodIn_r _ [4] (by decide +kernel) (by decide +kernel)
set_option maxRecDepth 20000 in
theorem gX9_cost_X9_in : GoodIn wsX9_cost (va_wsS RX9 36 yX9_in wsX9_in) := goodIn_app (goodIn_of _ (by decide +kernel)) ggX9_cost_X9_in
set_option maxRecDepth 20000 in
theorem ggX9_cost_X9_isBlock : GoodIn wsX9_cost wsX9_isBlock := goodIn_r _ [8, 9, 10, 11, 3, 12, 13, 14, 15, 16, 17, 1, 2, 4, 70, 71, 72, 73, 74, 75, 76, 77, 78, 79, 80, 81] (by decide +kernel) (by decide +kernel)
set_option maxRecDepth 20000 in
theorem gX9_cost_X9_isBlock : GoodIn wsX9_cost (wsV RX9 85 RX9 yX9_isBlock wsX9_isBlock) := goodIn_app (goodIn_of _ (by decide +kernel)) ggX9_cost_X9_isBlock
set_option maxRecDepth 20000 in
theorem ggX9_cost_X9_takeRow : GoodIn wsX9_cost wsX9_takeRow := goodIn_r _ [21, 22, 13, 14, 15, 16, 3, 17, 70, 71, 72, 73, 74, 75, 76, 77, 78, 79, 80, 81] (by decide +kernel) (by decide +kernel)
set_option maxRecDepth 20000 in
theorem gX9_cost_X9_takeRow : GoodIn wsX9_cost (wsV RX9 57 RX9 yX9_takeRow wsX9_takeRow) := goodIn_app (goodIn_of _ (by decide +kernel)) ggX9_cost_X9_takeRow
set_option maxRecDepth 20000 in
theorem ggX9_cost_X9_costOf : GoodIn wsX9_cost wsX9_costOf := goodIn_r _ [26, 13, 22, 27, 28, 29, 3, 30, 1, 2, 4, 31, 32, 33, 34, 35, 36, 37, 38, 14, 15, 16, 17, 39, 40, 41, 42, 43, 44, 45, 46, 47, 48, 49, 50, 51, 52, 53, 54, 55, 56, 57, 58, 59, 60, 61, 62, 63, 64, 65, 66, 67, 68, 69, 70, 71, 72, 73, 74, 75, 76, 77, 78, 79, 80, 81] (by decide +kernel) (by decide +kernel)
set_option maxRecDepth 20000 in
theorem gX9_cost_X9_costOf : GoodIn wsX9_cost (wsV RX9 88 RX9 yX9_costOf wsX9_costOf) := goodIn_app (goodIn_of _ (by decide +kernel)) ggX9_cost_X9_costOf
theorem dX9_cost_0 : decode cX9_cost 0 = .ok (.iload_n 2, 1) := by decide +kernel
theorem dX9_cost_1 : decode cX9_cost 1 = .ok (.iconst 0, 1) := by decide +kernel
theorem dX9_cost_2 : decode cX9_cost 2 = .ok (.iconst 3, 1) := by decide +kernel
theorem dX9_cost_3 : decode cX9_cost 3 = .ok (.invokestatic 36, 3) := by decide +kernel
theorem dX9_cost_6 : decode cX9_cost 6 = .ok (.ifCond .eq 13, 3) := by decide +kernel
theorem dX9_cost_9 : decode cX9_cost 9 = .ok (.iload_n 3, 1) := by decide +kernel
theorem dX9_cost_10 : decode cX9_cost 10 = .ok (.iconst 0, 1) := by decide +kernel
theorem dX9_cost_11 : decode cX9_cost 11 = .ok (.bipush 8, 2) := by decide +kernel
theorem dX9_cost_13 : decode cX9_cost 13 = .ok (.invokestatic 36, 3) := by decide +kernel
theorem dX9_cost_16 : decode cX9_cost 16 = .ok (.ifCond .ne 6, 3) := by decide +kernel
theorem dX9_cost_19 : decode cX9_cost 19 = .ok (.bipush (-2), 2) := by decide +kernel
theorem dX9_cost_21 : decode cX9_cost 21 = .ok (.ireturn, 1) := by decide +kernel
theorem dX9_cost_22 : decode cX9_cost 22 = .ok (.aload_n 0, 1) := by decide +kernel
theorem dX9_cost_23 : decode cX9_cost 23 = .ok (.iload_n 1, 1) := by decide +kernel
theorem dX9_cost_24 : decode cX9_cost 24 = .ok (.invokevirtual 85, 3) := by decide +kernel
theorem dX9_cost_27 : decode cX9_cost 27 = .ok (.ifCond .ne 6, 3) := by decide +kernel
theorem dX9_cost_30 : decode cX9_cost 30 = .ok (.bipush (-6), 2) := by decide +kernel
theorem dX9_cost_32 : decode cX9_cost 32 = .ok (.ireturn, 1) := by decide +kernel
theorem dX9_cost_33 : decode cX9_cost 33 = .ok (.aload_n 0, 1) := by decide +kernel
theorem dX9_cost_34 : decode cX9_cost 34 = .ok (.invokevirtual 57, 3) := by decide +kernel
theorem dX9_cost_37 : decode cX9_cost 37 = .ok (.aload_n 0, 1) := by decide +kernel
theorem dX9_cost_38 : decode cX9_cost 38 = .ok (.iload_n 1, 1) := by decide +kernel
theorem dX9_cost_39 : decode cX9_cost 39 = .ok (.iload_n 2, 1) := by decide +kernel
theorem dX9_cost_40 : decode cX9_cost 40 = .ok (.iload_n 3, 1) := by decide +kernel
theorem dX9_cost_41 : decode cX9_cost 41 = .ok (.invokevirtual 88, 3) := by decide +kernel
theorem dX9_cost_44 : decode cX9_cost 44 = .ok (.ireturn, 1) := by decide +kernel
set_option maxRecDepth 20000 in
theorem ggX9_choice_X9_costOf : GoodIn wsX9_choice wsX9_costOf := goodIn_r _ [5, 6, 7, 8, 9, 10, 4, 11, 12, 13, 14, 15, 16, 17, 18, 19, 20, 21, 22, 23, 24, 25, 26, 27, 28, 29, 30, 31, 32, 33, 34, 35, 36, 37, 38, 39, 40, 41, 42, 43, 44, 45, 46, 47, 48, 49, 50, 51, 52, 53, 54, 55, 56, 57, 58, 59, 60, 61, 62, 63, 64, 65, 66, 67, 68, 69] (by decide +kernel) (by decide +kernel)
set_option maxRecDepth 20000 in
theorem gX9_choice_X9_costOf : GoodIn wsX9_choice (wsV RX9 88 RX9 yX9_costOf wsX9_costOf) := goodIn_app (goodIn_of _ (by decide +kernel)) ggX9_choice_X9_costOf
theorem dX9_choice_0 : decode cX9_choice 0 = .ok (.bipush (-6), 2) := by decide +kernel
theorem dX9_choice_2 : decode cX9_choice 2 = .ok (.istore_n 2, 1) := by decide +kernel
theorem dX9_choice_3 : decode cX9_choice 3 = .ok (.iconst 0, 1) := by decide +kernel
theorem dX9_choice_4 : decode cX9_choice 4 = .ok (.istore_n 3, 1) := by decide +kernel
theorem dX9_choice_5 : decode cX9_choice 5 = .ok (.iconst 0, 1) := by decide +kernel
theorem dX9_choice_6 : decode cX9_choice 6 = .ok (.istore 4, 2) := by decide +kernel
theorem dX9_choice_8 : decode cX9_choice 8 = .ok (.iload 4, 2) := by decide +kernel
theorem dX9_choice_10 : decode cX9_choice 10 = .ok (.iconst 4, 1) := by decide +kernel
theorem dX9_choice_11 : decode cX9_choice 11 = .ok (.if_icmp .ge 63, 3) := by decide +kernel
theorem dX9_choice_14 : decode cX9_choice 14 = .ok (.iconst 0, 1) := by decide +kernel
theorem dX9_choice_15 : decode cX9_choice 15 = .ok (.istore 5, 2) := by decide +kernel
theorem dX9_choice_17 : decode cX9_choice 17 = .ok (.iload 5, 2) := by decide +kernel
theorem dX9_choice_19 : decode cX9_choice 19 = .ok (.bipush 9, 2) := by decide +kernel
theorem dX9_choice_21 : decode cX9_choice 21 = .ok (.if_icmp .ge 47, 3) := by decide +kernel
theorem dX9_choice_24 : decode cX9_choice 24 = .ok (.aload_n 0, 1) := by decide +kernel
theorem dX9_choice_25 : decode cX9_choice 25 = .ok (.iload_n 1, 1) := by decide +kernel
theorem dX9_choice_26 : decode cX9_choice 26 = .ok (.iload 4, 2) := by decide +kernel
theorem dX9_choice_28 : decode cX9_choice 28 = .ok (.iload 5, 2) := by decide +kernel
theorem dX9_choice_30 : decode cX9_choice 30 = .ok (.invokevirtual 88, 3) := by decide +kernel
theorem dX9_choice_33 : decode cX9_choice 33 = .ok (.istore 6, 2) := by decide +kernel
theorem dX9_choice_35 : decode cX9_choice 35 = .ok (.iload 6, 2) := by decide +kernel
theorem dX9_choice_37 : decode cX9_choice 37 = .ok (.ifCond .lt 25, 3) := by decide +kernel
theorem dX9_choice_40 : decode cX9_choice 40 = .ok (.iload_n 2, 1) := by decide +kernel
theorem dX9_choice_41 : decode cX9_choice 41 = .ok (.ifCond .lt 9, 3) := by decide +kernel
theorem dX9_choice_44 : decode cX9_choice 44 = .ok (.iload 6, 2) := by decide +kernel
theorem dX9_choice_46 : decode cX9_choice 46 = .ok (.iload_n 3, 1) := by decide +kernel
theorem dX9_choice_47 : decode cX9_choice 47 = .ok (.if_icmp .ge 15, 3) := by decide +kernel
theorem dX9_choice_50 : decode cX9_choice 50 = .ok (.bipush 16, 2) := by decide +kernel
theorem dX9_choice_52 : decode cX9_choice 52 = .ok (.iload 4, 2) := by decide +kernel
theorem dX9_choice_54 : decode cX9_choice 54 = .ok (.imul, 1) := by decide +kernel
theorem dX9_choice_55 : decode cX9_choice 55 = .ok (.iload 5, 2) := by decide +kernel
theorem dX9_choice_57 : decode cX9_choice 57 = .ok (.iadd, 1) := by decide +kernel
theorem dX9_choice_58 : decode cX9_choice 58 = .ok (.istore_n 2, 1) := by decide +kernel
theorem dX9_choice_59 : decode cX9_choice 59 = .ok (.iload 6, 2) := by decide +kernel
theorem dX9_choice_61 : decode cX9_choice 61 = .ok (.istore_n 3, 1) := by decide +kernel
theorem dX9_choice_62 : decode cX9_choice 62 = .ok (.iinc 5 1, 3) := by decide +kernel
theorem dX9_choice_65 : decode cX9_choice 65 = .ok (.goto (-48), 3) := by decide +kernel
theorem dX9_choice_68 : decode cX9_choice 68 = .ok (.iinc 4 1, 3) := by decide +kernel
theorem dX9_choice_71 : decode cX9_choice 71 = .ok (.goto (-63), 3) := by decide +kernel
theorem dX9_choice_74 : decode cX9_choice 74 = .ok (.iload_n 2, 1) := by decide +kernel
theorem dX9_choice_75 : decode cX9_choice 75 = .ok (.ireturn, 1) := by decide +kernel
theorem dX9_write_0 : decode cX9_write 0 = .ok (.iload_n 2, 1) := by decide +kernel
theorem dX9_write_1 : decode cX9_write 1 = .ok (.iconst 1, 1) := by decide +kernel
theorem dX9_write_2 : decode cX9_write 2 = .ok (.isub, 1) := by decide +kernel
theorem dX9_write_3 : decode cX9_write 3 = .ok (.istore_n 3, 1) := by decide +kernel
theorem dX9_write_4 : decode cX9_write 4 = .ok (.iload_n 3, 1) := by decide +kernel
theorem dX9_write_5 : decode cX9_write 5 = .ok (.ifCond .lt 33, 3) := by decide +kernel
theorem dX9_write_8 : decode cX9_write 8 = .ok (.aload_n 0, 1) := by decide +kernel
theorem dX9_write_9 : decode cX9_write 9 = .ok (.getfield 23, 3) := by decide +kernel
theorem dX9_write_12 : decode cX9_write 12 = .ok (.aload_n 0, 1) := by decide +kernel
theorem dX9_write_13 : decode cX9_write 13 = .ok (.getfield 92, 3) := by decide +kernel
theorem dX9_write_16 : decode cX9_write 16 = .ok (.iload_n 1, 1) := by decide +kernel
theorem dX9_write_17 : decode cX9_write 17 = .ok (.iload_n 3, 1) := by decide +kernel
theorem dX9_write_18 : decode cX9_write 18 = .ok (.ishr, 1) := by decide +kernel
theorem dX9_write_19 : decode cX9_write 19 = .ok (.iconst 1, 1) := by decide +kernel
theorem dX9_write_20 : decode cX9_write 20 = .ok (.iand, 1) := by decide +kernel
theorem dX9_write_21 : decode cX9_write 21 = .ok (.iastore, 1) := by decide +kernel
theorem dX9_write_22 : decode cX9_write 22 = .ok (.aload_n 0, 1) := by decide +kernel
theorem dX9_write_23 : decode cX9_write 23 = .ok (.dup, 1) := by decide +kernel
theorem dX9_write_24 : decode cX9_write 24 = .ok (.getfield 92, 3) := by decide +kernel
theorem dX9_write_27 : decode cX9_write 27 = .ok (.iconst 1, 1) := by decide +kernel
theorem dX9_write_28 : decode cX9_write 28 = .ok (.iadd, 1) := by decide +kernel
theorem dX9_write_29 : decode cX9_write 29 = .ok (.putfield 92, 3) := by decide +kernel
theorem dX9_write_32 : decode cX9_write 32 = .ok (.iinc 3 (-1), 3) := by decide +kernel
theorem dX9_write_35 : decode cX9_write 35 = .ok (.goto (-31), 3) := by decide +kernel
theorem dX9_write_38 : decode cX9_write 38 = .ok (.return_, 1) := by decide +kernel
set_option maxRecDepth 20000 in
theorem ggX9_writeFold_X9_write : GoodIn wsX9_writeFold wsX9_write := goodIn_r _ [6, 7, 8, 9, 10, 11, 12, 13, 14, 15, 16, 17, 18, 19, 20] (by decide +kernel) (by decide +kernel)
set_option maxRecDepth 20000 in
theorem gX9_writeFold_X9_write : GoodIn wsX9_writeFold (wsV RX9 96 RX9 yX9_write wsX9_write) := goodIn_app (goodIn_of _ (by decide +kernel)) ggX9_writeFold_X9_write
theorem dX9_writeFold_0 : decode cX9_writeFold 0 = .ok (.iload_n 2, 1) := by decide +kernel
theorem dX9_writeFold_1 : decode cX9_writeFold 1 = .ok (.bipush 8, 2) := by decide +kernel
theorem dX9_writeFold_3 : decode cX9_writeFold 3 = .ok (.if_icmp .ne 19, 3) := by decide +kernel
theorem dX9_writeFold_6 : decode cX9_writeFold 6 = .ok (.aload_n 0, 1) := by decide +kernel
theorem dX9_writeFold_7 : decode cX9_writeFold 7 = .ok (.iload_n 1, 1) := by decide +kernel
theorem dX9_writeFold_8 : decode cX9_writeFold 8 = .ok (.aload_n 0, 1) := by decide +kernel
theorem dX9_writeFold_9 : decode cX9_writeFold 9 = .ok (.getfield 7, 3) := by decide +kernel
theorem dX9_writeFold_12 : decode cX9_writeFold 12 = .ok (.sipush 1066, 3) := by decide +kernel
theorem dX9_writeFold_15 : decode cX9_writeFold 15 = .ok (.iaload, 1) := by decide +kernel
theorem dX9_writeFold_16 : decode cX9_writeFold 16 = .ok (.invokevirtual 96, 3) := by decide +kernel
theorem dX9_writeFold_19 : decode cX9_writeFold 19 = .ok (.goto 52, 3) := by decide +kernel
theorem dX9_writeFold_22 : decode cX9_writeFold 22 = .ok (.iload_n 2, 1) := by decide +kernel
theorem dX9_writeFold_23 : decode cX9_writeFold 23 = .ok (.ifCond .le 48, 3) := by decide +kernel
theorem dX9_writeFold_26 : decode cX9_writeFold 26 = .ok (.iconst 0, 1) := by decide +kernel
theorem dX9_writeFold_27 : decode cX9_writeFold 27 = .ok (.istore_n 3, 1) := by decide +kernel
theorem dX9_writeFold_28 : decode cX9_writeFold 28 = .ok (.iload_n 3, 1) := by decide +kernel
theorem dX9_writeFold_29 : decode cX9_writeFold 29 = .ok (.iload_n 1, 1) := by decide +kernel
theorem dX9_writeFold_30 : decode cX9_writeFold 30 = .ok (.iload_n 2, 1) := by decide +kernel
theorem dX9_writeFold_31 : decode cX9_writeFold 31 = .ok (.iconst 1, 1) := by decide +kernel
theorem dX9_writeFold_32 : decode cX9_writeFold 32 = .ok (.isub, 1) := by decide +kernel
theorem dX9_writeFold_33 : decode cX9_writeFold 33 = .ok (.ishr, 1) := by decide +kernel
theorem dX9_writeFold_34 : decode cX9_writeFold 34 = .ok (.if_icmp .ge 15, 3) := by decide +kernel
theorem dX9_writeFold_37 : decode cX9_writeFold 37 = .ok (.aload_n 0, 1) := by decide +kernel
theorem dX9_writeFold_38 : decode cX9_writeFold 38 = .ok (.iconst 0, 1) := by decide +kernel
theorem dX9_writeFold_39 : decode cX9_writeFold 39 = .ok (.iconst 1, 1) := by decide +kernel
theorem dX9_writeFold_40 : decode cX9_writeFold 40 = .ok (.invokevirtual 96, 3) := by decide +kernel
theorem dX9_writeFold_43 : decode cX9_writeFold 43 = .ok (.iinc 3 1, 3) := by decide +kernel
theorem dX9_writeFold_46 : decode cX9_writeFold 46 = .ok (.goto (-18), 3) := by decide +kernel
theorem dX9_writeFold_49 : decode cX9_writeFold 49 = .ok (.aload_n 0, 1) := by decide +kernel
theorem dX9_writeFold_50 : decode cX9_writeFold 50 = .ok (.iconst 1, 1) := by decide +kernel
theorem dX9_writeFold_51 : decode cX9_writeFold 51 = .ok (.iconst 1, 1) := by decide +kernel
theorem dX9_writeFold_52 : decode cX9_writeFold 52 = .ok (.invokevirtual 96, 3) := by decide +kernel
theorem dX9_writeFold_55 : decode cX9_writeFold 55 = .ok (.aload_n 0, 1) := by decide +kernel
theorem dX9_writeFold_56 : decode cX9_writeFold 56 = .ok (.iload_n 1, 1) := by decide +kernel
theorem dX9_writeFold_57 : decode cX9_writeFold 57 = .ok (.iconst 1, 1) := by decide +kernel
theorem dX9_writeFold_58 : decode cX9_writeFold 58 = .ok (.iload_n 2, 1) := by decide +kernel
theorem dX9_writeFold_59 : decode cX9_writeFold 59 = .ok (.iconst 1, 1) := by decide +kernel
theorem dX9_writeFold_60 : decode cX9_writeFold 60 = .ok (.isub, 1) := by decide +kernel
theorem dX9_writeFold_61 : decode cX9_writeFold 61 = .ok (.ishl, 1) := by decide +kernel
theorem dX9_writeFold_62 : decode cX9_writeFold 62 = .ok (.iconst 1, 1) := by decide +kernel
theorem dX9_writeFold_63 : decode cX9_writeFold 63 = .ok (.isub, 1) := by decide +kernel
theorem dX9_writeFold_64 : decode cX9_writeFold 64 = .ok (.iand, 1) := by decide +kernel
theorem dX9_writeFold_65 : decode cX9_writeFold 65 = .ok (.iload_n 2, 1) := by decide +kernel
theorem dX9_writeFold_66 : decode cX9_writeFold 66 = .ok (.iconst 1, 1) := by decide +kernel
theorem dX9_writeFold_67 : decode cX9_writeFold 67 = .ok (.isub, 1) := by decide +kernel
theorem dX9_writeFold_68 : decode cX9_writeFold 68 = .ok (.invokevirtual 96, 3) := by decide +kernel
theorem dX9_writeFold_71 : decode cX9_writeFold 71 = .ok (.return_, 1) := by decide +kernel
set_option maxRecDepth 20000 in
theorem ggX9_pack_X9_takeRow : GoodIn wsX9_pack wsX9_takeRow := goodIn_r _ [10, 4, 5, 11, 12, 13, 9, 14, 82, 83, 84, 85, 86, 87, 88, 89, 90, 91, 92, 93] (by decide +kernel) (by decide +kernel)
set_option maxRecDepth 20000 in
theorem gX9_pack_X9_takeRow : GoodIn wsX9_pack (wsV RX9 57 RX9 yX9_takeRow wsX9_takeRow) := goodIn_app (goodIn_of _ (by decide +kernel)) ggX9_pack_X9_takeRow
set_option maxRecDepth 20000 in
theorem ggX9_pack_X9_blocks : GoodIn wsX9_pack wsX9_blocks := goodIn_r _ [18, 5, 11, 12, 13, 9, 14, 82, 83, 84, 85, 86, 87, 88, 89, 90, 91, 92, 93] (by decide +kernel) (by decide +kernel)
set_option maxRecDepth 20000 in
theorem gX9_pack_X9_blocks : GoodIn wsX9_pack (wsV RX9 82 RX9 yX9_blocks wsX9_blocks) := goodIn_app (goodIn_of _ (by decide +kernel)) ggX9_pack_X9_blocks
set_option maxRecDepth 20000 in
theorem ggX9_pack_X9_choice : GoodIn wsX9_pack wsX9_choice := goodIn_r _ [22, 23, 24, 25, 9, 26, 5, 4, 27, 28, 29, 30, 31, 32, 33, 34, 35, 36, 37, 38, 39, 40, 41, 11, 12, 13, 14, 42, 43, 44, 45, 46, 47, 48, 49, 50, 51, 52, 53, 54, 55, 56, 57, 58, 59, 60, 61, 62, 63, 64, 65, 66, 67, 68, 69, 70, 71, 72, 82, 83, 84, 85, 86, 87, 88, 89, 90, 91, 92, 93] (by decide +kernel) (by decide +kernel)
set_option maxRecDepth 20000 in
theorem gX9_pack_X9_choice : GoodIn wsX9_pack (wsV RX9 100 RX9 yX9_choice wsX9_choice) := goodIn_app (goodIn_of _ (by decide +kernel)) ggX9_pack_X9_choice
set_option maxRecDepth 20000 in
theorem ggX9_pack_X9_write : GoodIn wsX9_pack wsX9_write := goodIn_r _ [76, 77, 1, 82, 83, 84, 85, 86, 87, 88, 89, 90, 91, 92, 93] (by decide +kernel) (by decide +kernel)
set_option maxRecDepth 20000 in
theorem gX9_pack_X9_write : GoodIn wsX9_pack (wsV RX9 96 RX9 yX9_write wsX9_write) := goodIn_app (goodIn_of _ (by decide +kernel)) ggX9_pack_X9_write
set_option maxRecDepth 20000 in
theorem ggX9_pack_X9_firstOf : GoodIn wsX9_pack wsX9_firstOf := goodIn_r _ [37, 5, 82, 83, 84, 85, 86, 87, 88, 89, 90, 91, 92, 93] (by decide +kernel) (by decide +kernel)
set_option maxRecDepth 20000 in
theorem gX9_pack_X9_firstOf : GoodIn wsX9_pack (wsV RX9 67 RX9 yX9_firstOf wsX9_firstOf) := goodIn_app (goodIn_of _ (by decide +kernel)) ggX9_pack_X9_firstOf
set_option maxRecDepth 20000 in
theorem ggX9_pack_X9_endOf : GoodIn wsX9_pack wsX9_endOf := goodIn_r _ [41, 5, 34, 35, 36, 9, 37, 11, 12, 13, 14, 42, 43, 44, 82, 83, 84, 85, 86, 87, 88, 89, 90, 91, 92, 93] (by decide +kernel) (by decide +kernel)
set_option maxRecDepth 20000 in
theorem gX9_pack_X9_endOf : GoodIn wsX9_pack (wsV RX9 76 RX9 yX9_endOf wsX9_endOf) := goodIn_app (goodIn_of _ (by decide +kernel)) ggX9_pack_X9_endOf
set_option maxRecDepth 20000 in
theorem ggX9_pack_X9_isBare : GoodIn wsX9_pack wsX9_isBare := goodIn_r _ [48, 49, 50, 51, 9, 52, 5, 82, 83, 84, 85, 86, 87, 88, 89, 90, 91, 92, 93] (by decide +kernel) (by decide +kernel)
set_option maxRecDepth 20000 in
theorem gX9_pack_X9_isBare : GoodIn wsX9_pack (wsV RX9 50 RX9 yX9_isBare wsX9_isBare) := goodIn_app (goodIn_of _ (by decide +kernel)) ggX9_pack_X9_isBare
set_option maxRecDepth 20000 in
theorem ggX9_pack_X9_expected : GoodIn wsX9_pack wsX9_expected := goodIn_r _ [56, 4, 45, 46, 47, 9, 48, 49, 50, 51, 52, 5, 57, 58, 59, 60, 82, 83, 84, 85, 86, 87, 88, 89, 90, 91, 92, 93] (by decide +kernel) (by decide +kernel)
set_option maxRecDepth 20000 in
theorem gX9_pack_X9_expected : GoodIn wsX9_pack (wsV RX9 60 RX9 yX9_expected wsX9_expected) := goodIn_app (goodIn_of _ (by decide +kernel)) ggX9_pack_X9_expected
set_option maxRecDepth 20000 in
theorem ggX9_pack_X9_fold : GoodIn wsX9_pack wsX9_fold := goodIn_r _ [64, 65, 66, 67, 9, 68, 57, 58, 59, 60, 5, 82, 83, 84, 85, 86, 87, 88, 89, 90, 91, 92, 93] (by decide +kernel) (by decide +kernel)
set_option maxRecDepth 20000 in
theorem gX9_pack_X9_fold : GoodIn wsX9_pack (wsV RX9 64 RX9 yX9_fold wsX9_fold) := goodIn_app (goodIn_of _ (by decide +kernel)) ggX9_pack_X9_fold
set_option maxRecDepth 20000 in
theorem ggX9_pack_X9_writeFold : GoodIn wsX9_pack wsX9_writeFold := goodIn_r _ [81, 5, 73, 74, 75, 9, 76, 77, 1, 82, 83, 84, 85, 86, 87, 88, 89, 90, 91, 92, 93] (by decide +kernel) (by decide +kernel)
set_option maxRecDepth 20000 in
theorem gX9_pack_X9_writeFold : GoodIn wsX9_pack (wsV RX9 103 RX9 yX9_writeFold wsX9_writeFold) := goodIn_app (goodIn_of _ (by decide +kernel)) ggX9_pack_X9_writeFold
theorem dX9_pack_0 : decode cX9_pack 0 = .ok (.aload_n 0, 1) := by decide +kernel
theorem dX9_pack_1 : decode cX9_pack 1 = .ok (.invokevirtual 57, 3) := by decide +kernel
theorem dX9_pack_4 : decode cX9_pack 4 = .ok (.aload_n 0, 1) := by decide +kernel
theorem dX9_pack_5 : decode cX9_pack 5 = .ok (.iconst 0, 1) := by decide +kernel
theorem dX9_pack_6 : decode cX9_pack 6 = .ok (.putfield 92, 3) := by decide +kernel
theorem dX9_pack_9 : decode cX9_pack 9 = .ok (.iconst 0, 1) := by decide +kernel
theorem dX9_pack_10 : decode cX9_pack 10 = .ok (.istore_n 1, 1) := by decide +kernel
theorem dX9_pack_11 : decode cX9_pack 11 = .ok (.iload_n 1, 1) := by decide +kernel
theorem dX9_pack_12 : decode cX9_pack 12 = .ok (.aload_n 0, 1) := by decide +kernel
theorem dX9_pack_13 : decode cX9_pack 13 = .ok (.invokevirtual 82, 3) := by decide +kernel
theorem dX9_pack_16 : decode cX9_pack 16 = .ok (.if_icmp .ge 139, 3) := by decide +kernel
theorem dX9_pack_19 : decode cX9_pack 19 = .ok (.aload_n 0, 1) := by decide +kernel
theorem dX9_pack_20 : decode cX9_pack 20 = .ok (.getfield 26, 3) := by decide +kernel
theorem dX9_pack_23 : decode cX9_pack 23 = .ok (.iload_n 1, 1) := by decide +kernel
theorem dX9_pack_24 : decode cX9_pack 24 = .ok (.aload_n 0, 1) := by decide +kernel
theorem dX9_pack_25 : decode cX9_pack 25 = .ok (.getfield 92, 3) := by decide +kernel
theorem dX9_pack_28 : decode cX9_pack 28 = .ok (.iastore, 1) := by decide +kernel
theorem dX9_pack_29 : decode cX9_pack 29 = .ok (.aload_n 0, 1) := by decide +kernel
theorem dX9_pack_30 : decode cX9_pack 30 = .ok (.getfield 29, 3) := by decide +kernel
theorem dX9_pack_33 : decode cX9_pack 33 = .ok (.iload_n 1, 1) := by decide +kernel
theorem dX9_pack_34 : decode cX9_pack 34 = .ok (.aload_n 0, 1) := by decide +kernel
theorem dX9_pack_35 : decode cX9_pack 35 = .ok (.iload_n 1, 1) := by decide +kernel
theorem dX9_pack_36 : decode cX9_pack 36 = .ok (.invokevirtual 100, 3) := by decide +kernel
theorem dX9_pack_39 : decode cX9_pack 39 = .ok (.iastore, 1) := by decide +kernel
theorem dX9_pack_40 : decode cX9_pack 40 = .ok (.aload_n 0, 1) := by decide +kernel
theorem dX9_pack_41 : decode cX9_pack 41 = .ok (.getfield 29, 3) := by decide +kernel
theorem dX9_pack_44 : decode cX9_pack 44 = .ok (.iload_n 1, 1) := by decide +kernel
theorem dX9_pack_45 : decode cX9_pack 45 = .ok (.iaload, 1) := by decide +kernel
theorem dX9_pack_46 : decode cX9_pack 46 = .ok (.bipush 16, 2) := by decide +kernel
theorem dX9_pack_48 : decode cX9_pack 48 = .ok (.idiv, 1) := by decide +kernel
theorem dX9_pack_49 : decode cX9_pack 49 = .ok (.istore_n 2, 1) := by decide +kernel
theorem dX9_pack_50 : decode cX9_pack 50 = .ok (.aload_n 0, 1) := by decide +kernel
theorem dX9_pack_51 : decode cX9_pack 51 = .ok (.getfield 29, 3) := by decide +kernel
theorem dX9_pack_54 : decode cX9_pack 54 = .ok (.iload_n 1, 1) := by decide +kernel
theorem dX9_pack_55 : decode cX9_pack 55 = .ok (.iaload, 1) := by decide +kernel
theorem dX9_pack_56 : decode cX9_pack 56 = .ok (.bipush 16, 2) := by decide +kernel
theorem dX9_pack_58 : decode cX9_pack 58 = .ok (.irem, 1) := by decide +kernel
theorem dX9_pack_59 : decode cX9_pack 59 = .ok (.istore_n 3, 1) := by decide +kernel
theorem dX9_pack_60 : decode cX9_pack 60 = .ok (.aload_n 0, 1) := by decide +kernel
theorem dX9_pack_61 : decode cX9_pack 61 = .ok (.iload_n 2, 1) := by decide +kernel
theorem dX9_pack_62 : decode cX9_pack 62 = .ok (.iconst 2, 1) := by decide +kernel
theorem dX9_pack_63 : decode cX9_pack 63 = .ok (.invokevirtual 96, 3) := by decide +kernel
theorem dX9_pack_66 : decode cX9_pack 66 = .ok (.aload_n 0, 1) := by decide +kernel
theorem dX9_pack_67 : decode cX9_pack 67 = .ok (.iload_n 3, 1) := by decide +kernel
theorem dX9_pack_68 : decode cX9_pack 68 = .ok (.iconst 4, 1) := by decide +kernel
theorem dX9_pack_69 : decode cX9_pack 69 = .ok (.invokevirtual 96, 3) := by decide +kernel
theorem dX9_pack_72 : decode cX9_pack 72 = .ok (.aload_n 0, 1) := by decide +kernel
theorem dX9_pack_73 : decode cX9_pack 73 = .ok (.iload_n 1, 1) := by decide +kernel
theorem dX9_pack_74 : decode cX9_pack 74 = .ok (.invokevirtual 67, 3) := by decide +kernel
theorem dX9_pack_77 : decode cX9_pack 77 = .ok (.istore 4, 2) := by decide +kernel
theorem dX9_pack_79 : decode cX9_pack 79 = .ok (.iload 4, 2) := by decide +kernel
theorem dX9_pack_81 : decode cX9_pack 81 = .ok (.aload_n 0, 1) := by decide +kernel
theorem dX9_pack_82 : decode cX9_pack 82 = .ok (.iload_n 1, 1) := by decide +kernel
theorem dX9_pack_83 : decode cX9_pack 83 = .ok (.invokevirtual 76, 3) := by decide +kernel
theorem dX9_pack_86 : decode cX9_pack 86 = .ok (.if_icmp .ge 63, 3) := by decide +kernel
theorem dX9_pack_89 : decode cX9_pack 89 = .ok (.aload_n 0, 1) := by decide +kernel
theorem dX9_pack_90 : decode cX9_pack 90 = .ok (.iload 4, 2) := by decide +kernel
theorem dX9_pack_92 : decode cX9_pack 92 = .ok (.invokevirtual 50, 3) := by decide +kernel
theorem dX9_pack_95 : decode cX9_pack 95 = .ok (.ifCond .eq 25, 3) := by decide +kernel
theorem dX9_pack_98 : decode cX9_pack 98 = .ok (.aload_n 0, 1) := by decide +kernel
theorem dX9_pack_99 : decode cX9_pack 99 = .ok (.aload_n 0, 1) := by decide +kernel
theorem dX9_pack_100 : decode cX9_pack 100 = .ok (.getfield 20, 3) := by decide +kernel
theorem dX9_pack_103 : decode cX9_pack 103 = .ok (.iload 4, 2) := by decide +kernel
theorem dX9_pack_105 : decode cX9_pack 105 = .ok (.iaload, 1) := by decide +kernel
theorem dX9_pack_106 : decode cX9_pack 106 = .ok (.aload_n 0, 1) := by decide +kernel
theorem dX9_pack_107 : decode cX9_pack 107 = .ok (.getfield 7, 3) := by decide +kernel
theorem dX9_pack_110 : decode cX9_pack 110 = .ok (.sipush 1066, 3) := by decide +kernel
theorem dX9_pack_113 : decode cX9_pack 113 = .ok (.iaload, 1) := by decide +kernel
theorem dX9_pack_114 : decode cX9_pack 114 = .ok (.invokevirtual 96, 3) := by decide +kernel
theorem dX9_pack_117 : decode cX9_pack 117 = .ok (.goto 26, 3) := by decide +kernel
theorem dX9_pack_120 : decode cX9_pack 120 = .ok (.aload_n 0, 1) := by decide +kernel
theorem dX9_pack_121 : decode cX9_pack 121 = .ok (.aload_n 0, 1) := by decide +kernel
theorem dX9_pack_122 : decode cX9_pack 122 = .ok (.aload_n 0, 1) := by decide +kernel
theorem dX9_pack_123 : decode cX9_pack 123 = .ok (.getfield 20, 3) := by decide +kernel
theorem dX9_pack_126 : decode cX9_pack 126 = .ok (.iload 4, 2) := by decide +kernel
theorem dX9_pack_128 : decode cX9_pack 128 = .ok (.iaload, 1) := by decide +kernel
theorem dX9_pack_129 : decode cX9_pack 129 = .ok (.aload_n 0, 1) := by decide +kernel
theorem dX9_pack_130 : decode cX9_pack 130 = .ok (.iload 4, 2) := by decide +kernel
theorem dX9_pack_132 : decode cX9_pack 132 = .ok (.iload_n 2, 1) := by decide +kernel
theorem dX9_pack_133 : decode cX9_pack 133 = .ok (.invokevirtual 60, 3) := by decide +kernel
theorem dX9_pack_136 : decode cX9_pack 136 = .ok (.invokevirtual 64, 3) := by decide +kernel
theorem dX9_pack_139 : decode cX9_pack 139 = .ok (.iload_n 3, 1) := by decide +kernel
theorem dX9_pack_140 : decode cX9_pack 140 = .ok (.invokevirtual 103, 3) := by decide +kernel
theorem dX9_pack_143 : decode cX9_pack 143 = .ok (.iinc 4 1, 3) := by decide +kernel
theorem dX9_pack_146 : decode cX9_pack 146 = .ok (.goto (-67), 3) := by decide +kernel
theorem dX9_pack_149 : decode cX9_pack 149 = .ok (.iinc 1 1, 3) := by decide +kernel
theorem dX9_pack_152 : decode cX9_pack 152 = .ok (.goto (-141), 3) := by decide +kernel
theorem dX9_pack_155 : decode cX9_pack 155 = .ok (.aload_n 0, 1) := by decide +kernel
theorem dX9_pack_156 : decode cX9_pack 156 = .ok (.getfield 26, 3) := by decide +kernel
theorem dX9_pack_159 : decode cX9_pack 159 = .ok (.aload_n 0, 1) := by decide +kernel
theorem dX9_pack_160 : decode cX9_pack 160 = .ok (.invokevirtual 82, 3) := by decide +kernel
theorem dX9_pack_163 : decode cX9_pack 163 = .ok (.aload_n 0, 1) := by decide +kernel
theorem dX9_pack_164 : decode cX9_pack 164 = .ok (.getfield 92, 3) := by decide +kernel
theorem dX9_pack_167 : decode cX9_pack 167 = .ok (.iastore, 1) := by decide +kernel
theorem dX9_pack_168 : decode cX9_pack 168 = .ok (.return_, 1) := by decide +kernel
set_option maxRecDepth 20000 in
theorem ggX9_block_X9_in : GoodIn wsX9_block wsX9_in := goodIn_r _ [7] (by decide +kernel) (by decide +kernel)
set_option maxRecDepth 20000 in
theorem gX9_block_X9_in : GoodIn wsX9_block (va_wsS RX9 36 yX9_in wsX9_in) := goodIn_app (goodIn_of _ (by decide +kernel)) ggX9_block_X9_in
set_option maxRecDepth 20000 in
theorem ggX9_block_X9_isBlock : GoodIn wsX9_block wsX9_isBlock := goodIn_r _ [11, 12, 13, 14, 6, 15, 3, 16, 17, 18, 19, 4, 5, 7, 90, 91, 92, 93, 94, 95, 96, 97, 98, 99, 100, 101] (by decide +kernel) (by decide +kernel)
set_option maxRecDepth 20000 in
theorem gX9_block_X9_isBlock : GoodIn wsX9_block (wsV RX9 85 RX9 yX9_isBlock wsX9_isBlock) := goodIn_app (goodIn_of _ (by decide +kernel)) ggX9_block_X9_isBlock
set_option maxRecDepth 20000 in
theorem ggX9_block_X9_pack : GoodIn wsX9_block wsX9_pack := goodIn_r _ [23, 24, 2, 1, 25, 3, 26, 27, 28, 6, 29, 16, 17, 18, 19, 12, 13, 14, 15, 30, 31, 32, 33, 34, 35, 36, 37, 38, 39, 40, 41, 4, 5, 7, 42, 43, 44, 45, 46, 47, 48, 49, 50, 51, 52, 53, 54, 55, 56, 57, 58, 59, 60, 61, 62, 63, 64, 65, 66, 67, 68, 69, 70, 71, 72, 73, 74, 75, 76, 77, 78, 79, 80, 81, 82, 83, 84, 85, 86, 87, 88, 89, 90, 91, 92, 93, 94, 95, 96, 97, 98, 99, 100, 101] (by decide +kernel) (by decide +kernel)
set_option maxRecDepth 20000 in
theorem gX9_block_X9_pack : GoodIn wsX9_block (wsV RX9 106 RX9 yX9_pack wsX9_pack) := goodIn_app (goodIn_of _ (by decide +kernel)) ggX9_block_X9_pack
set_option maxRecDepth 20000 in
theorem ggX9_block_X9_endOf : GoodIn wsX9_block wsX9_endOf := goodIn_r _ [49, 3, 42, 43, 44, 6, 45, 16, 17, 18, 19, 50, 51, 52, 90, 91, 92, 93, 94, 95, 96, 97, 98, 99, 100, 101] (by decide +kernel) (by decide +kernel)
set_option maxRecDepth 20000 in
theorem gX9_block_X9_endOf : GoodIn wsX9_block (wsV RX9 76 RX9 yX9_endOf wsX9_endOf) := goodIn_app (goodIn_of _ (by decide +kernel)) ggX9_block_X9_endOf
set_option maxRecDepth 20000 in
theorem ggX9_block_X9_firstOf : GoodIn wsX9_block wsX9_firstOf := goodIn_r _ [45, 3, 90, 91, 92, 93, 94, 95, 96, 97, 98, 99, 100, 101] (by decide +kernel) (by decide +kernel)
set_option maxRecDepth 20000 in
theorem gX9_block_X9_firstOf : GoodIn wsX9_block (wsV RX9 67 RX9 yX9_firstOf wsX9_firstOf) := goodIn_app (goodIn_of _ (by decide +kernel)) ggX9_block_X9_firstOf
theorem dX9_block_0 : decode cX9_block 0 = .ok (.iload_n 2, 1) := by decide +kernel
theorem dX9_block_1 : decode cX9_block 1 = .ok (.iconst 0, 1) := by decide +kernel
theorem dX9_block_2 : decode cX9_block 2 = .ok (.iconst 5, 1) := by decide +kernel
theorem dX9_block_3 : decode cX9_block 3 = .ok (.invokestatic 36, 3) := by decide +kernel
theorem dX9_block_6 : decode cX9_block 6 = .ok (.ifCond .ne 6, 3) := by decide +kernel
theorem dX9_block_9 : decode cX9_block 9 = .ok (.bipush (-2), 2) := by decide +kernel
theorem dX9_block_11 : decode cX9_block 11 = .ok (.ireturn, 1) := by decide +kernel
theorem dX9_block_12 : decode cX9_block 12 = .ok (.aload_n 0, 1) := by decide +kernel
theorem dX9_block_13 : decode cX9_block 13 = .ok (.iload_n 1, 1) := by decide +kernel
theorem dX9_block_14 : decode cX9_block 14 = .ok (.invokevirtual 85, 3) := by decide +kernel
theorem dX9_block_17 : decode cX9_block 17 = .ok (.ifCond .ne 6, 3) := by decide +kernel
theorem dX9_block_20 : decode cX9_block 20 = .ok (.bipush (-6), 2) := by decide +kernel
theorem dX9_block_22 : decode cX9_block 22 = .ok (.ireturn, 1) := by decide +kernel
theorem dX9_block_23 : decode cX9_block 23 = .ok (.aload_n 0, 1) := by decide +kernel
theorem dX9_block_24 : decode cX9_block 24 = .ok (.invokevirtual 106, 3) := by decide +kernel
theorem dX9_block_27 : decode cX9_block 27 = .ok (.iload_n 2, 1) := by decide +kernel
theorem dX9_block_28 : decode cX9_block 28 = .ok (.tableswitch 91 0 4 #[36, 46, 56, 72, 84], 36) := by decide +kernel
theorem dX9_block_64 : decode cX9_block 64 = .ok (.aload_n 0, 1) := by decide +kernel
theorem dX9_block_65 : decode cX9_block 65 = .ok (.getfield 29, 3) := by decide +kernel
theorem dX9_block_68 : decode cX9_block 68 = .ok (.iload_n 1, 1) := by decide +kernel
theorem dX9_block_69 : decode cX9_block 69 = .ok (.iaload, 1) := by decide +kernel
theorem dX9_block_70 : decode cX9_block 70 = .ok (.bipush 16, 2) := by decide +kernel
theorem dX9_block_72 : decode cX9_block 72 = .ok (.idiv, 1) := by decide +kernel
theorem dX9_block_73 : decode cX9_block 73 = .ok (.ireturn, 1) := by decide +kernel
theorem dX9_block_74 : decode cX9_block 74 = .ok (.aload_n 0, 1) := by decide +kernel
theorem dX9_block_75 : decode cX9_block 75 = .ok (.getfield 29, 3) := by decide +kernel
theorem dX9_block_78 : decode cX9_block 78 = .ok (.iload_n 1, 1) := by decide +kernel
theorem dX9_block_79 : decode cX9_block 79 = .ok (.iaload, 1) := by decide +kernel
theorem dX9_block_80 : decode cX9_block 80 = .ok (.bipush 16, 2) := by decide +kernel
theorem dX9_block_82 : decode cX9_block 82 = .ok (.irem, 1) := by decide +kernel
theorem dX9_block_83 : decode cX9_block 83 = .ok (.ireturn, 1) := by decide +kernel
theorem dX9_block_84 : decode cX9_block 84 = .ok (.aload_n 0, 1) := by decide +kernel
theorem dX9_block_85 : decode cX9_block 85 = .ok (.getfield 26, 3) := by decide +kernel
theorem dX9_block_88 : decode cX9_block 88 = .ok (.iload_n 1, 1) := by decide +kernel
theorem dX9_block_89 : decode cX9_block 89 = .ok (.iconst 1, 1) := by decide +kernel
theorem dX9_block_90 : decode cX9_block 90 = .ok (.iadd, 1) := by decide +kernel
theorem dX9_block_91 : decode cX9_block 91 = .ok (.iaload, 1) := by decide +kernel
theorem dX9_block_92 : decode cX9_block 92 = .ok (.aload_n 0, 1) := by decide +kernel
theorem dX9_block_93 : decode cX9_block 93 = .ok (.getfield 26, 3) := by decide +kernel
theorem dX9_block_96 : decode cX9_block 96 = .ok (.iload_n 1, 1) := by decide +kernel
theorem dX9_block_97 : decode cX9_block 97 = .ok (.iaload, 1) := by decide +kernel
theorem dX9_block_98 : decode cX9_block 98 = .ok (.isub, 1) := by decide +kernel
theorem dX9_block_99 : decode cX9_block 99 = .ok (.ireturn, 1) := by decide +kernel
theorem dX9_block_100 : decode cX9_block 100 = .ok (.aload_n 0, 1) := by decide +kernel
theorem dX9_block_101 : decode cX9_block 101 = .ok (.iload_n 1, 1) := by decide +kernel
theorem dX9_block_102 : decode cX9_block 102 = .ok (.invokevirtual 76, 3) := by decide +kernel
theorem dX9_block_105 : decode cX9_block 105 = .ok (.aload_n 0, 1) := by decide +kernel
theorem dX9_block_106 : decode cX9_block 106 = .ok (.iload_n 1, 1) := by decide +kernel
theorem dX9_block_107 : decode cX9_block 107 = .ok (.invokevirtual 67, 3) := by decide +kernel
theorem dX9_block_110 : decode cX9_block 110 = .ok (.isub, 1) := by decide +kernel
theorem dX9_block_111 : decode cX9_block 111 = .ok (.ireturn, 1) := by decide +kernel
theorem dX9_block_112 : decode cX9_block 112 = .ok (.aload_n 0, 1) := by decide +kernel
theorem dX9_block_113 : decode cX9_block 113 = .ok (.getfield 26, 3) := by decide +kernel
theorem dX9_block_116 : decode cX9_block 116 = .ok (.iload_n 1, 1) := by decide +kernel
theorem dX9_block_117 : decode cX9_block 117 = .ok (.iaload, 1) := by decide +kernel
theorem dX9_block_118 : decode cX9_block 118 = .ok (.ireturn, 1) := by decide +kernel
theorem dX9_block_119 : decode cX9_block 119 = .ok (.iload_n 1, 1) := by decide +kernel
theorem dX9_block_120 : decode cX9_block 120 = .ok (.aload_n 0, 1) := by decide +kernel
theorem dX9_block_121 : decode cX9_block 121 = .ok (.getfield 7, 3) := by decide +kernel
theorem dX9_block_124 : decode cX9_block 124 = .ok (.sipush 1068, 3) := by decide +kernel
theorem dX9_block_127 : decode cX9_block 127 = .ok (.iaload, 1) := by decide +kernel
theorem dX9_block_128 : decode cX9_block 128 = .ok (.idiv, 1) := by decide +kernel
theorem dX9_block_129 : decode cX9_block 129 = .ok (.ireturn, 1) := by decide +kernel
set_option maxRecDepth 20000 in
theorem ggX9_packed_X9_pack : GoodIn wsX9_packed wsX9_pack := goodIn_r _ [7, 1, 8, 9, 10, 11, 12, 13, 14, 6, 15, 16, 17, 18, 19, 20, 21, 22, 23, 24, 25, 26, 27, 28, 29, 30, 31, 32, 33, 34, 35, 36, 37, 38, 39, 40, 41, 42, 43, 44, 45, 46, 47, 48, 49, 50, 51, 52, 53, 54, 55, 56, 57, 58, 59, 60, 61, 62, 63, 64, 65, 66, 67, 68, 69, 70, 71, 72, 73, 74, 75, 76, 77, 78, 79, 80, 81, 2, 82, 83, 84, 85, 86, 87, 88, 89, 90, 91, 92, 93, 94, 95, 96, 97] (by decide +kernel) (by decide +kernel)
set_option maxRecDepth 20000 in
theorem gX9_packed_X9_pack : GoodIn wsX9_packed (wsV RX9 106 RX9 yX9_pack wsX9_pack) := goodIn_app (goodIn_of _ (by decide +kernel)) ggX9_packed_X9_pack
theorem dX9_packed_0 : decode cX9_packed 0 = .ok (.iload_n 1, 1) := by decide +kernel
theorem dX9_packed_1 : decode cX9_packed 1 = .ok (.iconst (-1), 1) := by decide +kernel
theorem dX9_packed_2 : decode cX9_packed 2 = .ok (.if_icmp .ge 6, 3) := by decide +kernel
theorem dX9_packed_5 : decode cX9_packed 5 = .ok (.bipush (-2), 2) := by decide +kernel
theorem dX9_packed_7 : decode cX9_packed 7 = .ok (.ireturn, 1) := by decide +kernel
theorem dX9_packed_8 : decode cX9_packed 8 = .ok (.aload_n 0, 1) := by decide +kernel
theorem dX9_packed_9 : decode cX9_packed 9 = .ok (.invokevirtual 106, 3) := by decide +kernel
theorem dX9_packed_12 : decode cX9_packed 12 = .ok (.iload_n 1, 1) := by decide +kernel
theorem dX9_packed_13 : decode cX9_packed 13 = .ok (.iconst (-1), 1) := by decide +kernel
theorem dX9_packed_14 : decode cX9_packed 14 = .ok (.if_icmp .ne 10, 3) := by decide +kernel
theorem dX9_packed_17 : decode cX9_packed 17 = .ok (.aload_n 0, 1) := by decide +kernel
theorem dX9_packed_18 : decode cX9_packed 18 = .ok (.getfield 92, 3) := by decide +kernel
theorem dX9_packed_21 : decode cX9_packed 21 = .ok (.goto 22, 3) := by decide +kernel
theorem dX9_packed_24 : decode cX9_packed 24 = .ok (.iload_n 1, 1) := by decide +kernel
theorem dX9_packed_25 : decode cX9_packed 25 = .ok (.aload_n 0, 1) := by decide +kernel
theorem dX9_packed_26 : decode cX9_packed 26 = .ok (.getfield 92, 3) := by decide +kernel
theorem dX9_packed_29 : decode cX9_packed 29 = .ok (.if_icmp .ge 12, 3) := by decide +kernel
theorem dX9_packed_32 : decode cX9_packed 32 = .ok (.aload_n 0, 1) := by decide +kernel
theorem dX9_packed_33 : decode cX9_packed 33 = .ok (.getfield 23, 3) := by decide +kernel
theorem dX9_packed_36 : decode cX9_packed 36 = .ok (.iload_n 1, 1) := by decide +kernel
theorem dX9_packed_37 : decode cX9_packed 37 = .ok (.iaload, 1) := by decide +kernel
theorem dX9_packed_38 : decode cX9_packed 38 = .ok (.goto 5, 3) := by decide +kernel
theorem dX9_packed_41 : decode cX9_packed 41 = .ok (.bipush (-6), 2) := by decide +kernel
theorem dX9_packed_43 : decode cX9_packed 43 = .ok (.ireturn, 1) := by decide +kernel
set_option maxRecDepth 20000 in
theorem ggX9_lost_X9_isBlock : GoodIn wsX9_lost wsX9_isBlock := goodIn_r _ [6, 7, 8, 9, 5, 10, 1, 11, 12, 13, 14, 15, 16, 17, 29, 30, 31, 32, 33, 34, 35, 36, 37, 38, 39, 40] (by decide +kernel) (by decide +kernel)
set_option maxRecDepth 20000 in
theorem gX9_lost_X9_isBlock : GoodIn wsX9_lost (wsV RX9 85 RX9 yX9_isBlock wsX9_isBlock) := goodIn_app (goodIn_of _ (by decide +kernel)) ggX9_lost_X9_isBlock
set_option maxRecDepth 20000 in
theorem ggX9_lost_X9_segmentLong : GoodIn wsX9_lost wsX9_segmentLong := goodIn_r _ [21, 1, 29, 30, 31, 32, 33, 34, 35, 36, 37, 38, 39, 40] (by decide +kernel) (by decide +kernel)
set_option maxRecDepth 20000 in
theorem gX9_lost_X9_segmentLong : GoodIn wsX9_lost (wsV RX9 47 RX9 yX9_segmentLong wsX9_segmentLong) := goodIn_app (goodIn_of _ (by decide +kernel)) ggX9_lost_X9_segmentLong
set_option maxRecDepth 20000 in
theorem ggX9_lost_X9_many : GoodIn wsX9_lost wsX9_many := goodIn_r _ [14, 1, 29, 30, 31, 32, 33, 34, 35, 36, 37, 38, 39, 40] (by decide +kernel) (by decide +kernel)
set_option maxRecDepth 20000 in
theorem gX9_lost_X9_many : GoodIn wsX9_lost (wsV RX9 32 RX9 yX9_many wsX9_many) := goodIn_app (goodIn_of _ (by decide +kernel)) ggX9_lost_X9_many
set_option maxRecDepth 20000 in
theorem ggX9_lost_X9_less : GoodIn wsX9_lost wsX9_less := goodIn_r _ [24] (by decide +kernel) (by decide +kernel)
set_option maxRecDepth 20000 in
theorem gX9_lost_X9_less : GoodIn wsX9_lost (va_wsS RX9 70 yX9_less wsX9_less) := goodIn_app (goodIn_of _ (by decide +kernel)) ggX9_lost_X9_less
set_option maxRecDepth 20000 in
theorem ggX9_lost_X9_firstOf : GoodIn wsX9_lost wsX9_firstOf := goodIn_r _ [28, 1, 29, 30, 31, 32, 33, 34, 35, 36, 37, 38, 39, 40] (by decide +kernel) (by decide +kernel)
set_option maxRecDepth 20000 in
theorem gX9_lost_X9_firstOf : GoodIn wsX9_lost (wsV RX9 67 RX9 yX9_firstOf wsX9_firstOf) := goodIn_app (goodIn_of _ (by decide +kernel)) ggX9_lost_X9_firstOf
theorem dX9_lost_0 : decode cX9_lost 0 = .ok (.aload_n 0, 1) := by decide +kernel
theorem dX9_lost_1 : decode cX9_lost 1 = .ok (.iload_n 1, 1) := by decide +kernel
theorem dX9_lost_2 : decode cX9_lost 2 = .ok (.invokevirtual 85, 3) := by decide +kernel
theorem dX9_lost_5 : decode cX9_lost 5 = .ok (.ifCond .ne 6, 3) := by decide +kernel
theorem dX9_lost_8 : decode cX9_lost 8 = .ok (.bipush (-6), 2) := by decide +kernel
theorem dX9_lost_10 : decode cX9_lost 10 = .ok (.ireturn, 1) := by decide +kernel
theorem dX9_lost_11 : decode cX9_lost 11 = .ok (.iload_n 1, 1) := by decide +kernel
theorem dX9_lost_12 : decode cX9_lost 12 = .ok (.aload_n 0, 1) := by decide +kernel
theorem dX9_lost_13 : decode cX9_lost 13 = .ok (.getfield 7, 3) := by decide +kernel
theorem dX9_lost_16 : decode cX9_lost 16 = .ok (.sipush 1068, 3) := by decide +kernel
theorem dX9_lost_19 : decode cX9_lost 19 = .ok (.iaload, 1) := by decide +kernel
theorem dX9_lost_20 : decode cX9_lost 20 = .ok (.idiv, 1) := by decide +kernel
theorem dX9_lost_21 : decode cX9_lost 21 = .ok (.iconst 1, 1) := by decide +kernel
theorem dX9_lost_22 : decode cX9_lost 22 = .ok (.iadd, 1) := by decide +kernel
theorem dX9_lost_23 : decode cX9_lost 23 = .ok (.aload_n 0, 1) := by decide +kernel
theorem dX9_lost_24 : decode cX9_lost 24 = .ok (.invokevirtual 47, 3) := by decide +kernel
theorem dX9_lost_27 : decode cX9_lost 27 = .ok (.imul, 1) := by decide +kernel
theorem dX9_lost_28 : decode cX9_lost 28 = .ok (.aload_n 0, 1) := by decide +kernel
theorem dX9_lost_29 : decode cX9_lost 29 = .ok (.invokevirtual 32, 3) := by decide +kernel
theorem dX9_lost_32 : decode cX9_lost 32 = .ok (.invokestatic 70, 3) := by decide +kernel
theorem dX9_lost_35 : decode cX9_lost 35 = .ok (.istore_n 2, 1) := by decide +kernel
theorem dX9_lost_36 : decode cX9_lost 36 = .ok (.iload_n 2, 1) := by decide +kernel
theorem dX9_lost_37 : decode cX9_lost 37 = .ok (.aload_n 0, 1) := by decide +kernel
theorem dX9_lost_38 : decode cX9_lost 38 = .ok (.iload_n 1, 1) := by decide +kernel
theorem dX9_lost_39 : decode cX9_lost 39 = .ok (.invokevirtual 67, 3) := by decide +kernel
theorem dX9_lost_42 : decode cX9_lost 42 = .ok (.isub, 1) := by decide +kernel
theorem dX9_lost_43 : decode cX9_lost 43 = .ok (.ireturn, 1) := by decide +kernel
set_option maxRecDepth 20000 in
theorem ggX9_tape_X9_pack : GoodIn wsX9_tape wsX9_pack := goodIn_r _ [8, 1, 9, 10, 11, 2, 12, 13, 14, 7, 15, 16, 17, 18, 19, 20, 21, 22, 23, 24, 25, 26, 27, 28, 29, 30, 31, 32, 33, 34, 35, 36, 37, 38, 39, 40, 41, 42, 43, 44, 45, 46, 47, 48, 49, 50, 51, 52, 53, 54, 55, 56, 57, 58, 59, 60, 61, 62, 63, 64, 65, 66, 67, 68, 69, 70, 71, 72, 73, 74, 75, 76, 77, 78, 79, 80, 81, 3, 82, 83, 84, 85, 86, 87, 88, 89, 90, 91, 92, 93, 94, 95, 96, 97] (by decide +kernel) (by decide +kernel)
set_option maxRecDepth 20000 in
theorem gX9_tape_X9_pack : GoodIn wsX9_tape (wsV RX9 106 RX9 yX9_pack wsX9_pack) := goodIn_app (goodIn_of _ (by decide +kernel)) ggX9_tape_X9_pack
theorem dX9_tape_0 : decode cX9_tape 0 = .ok (.aload_n 0, 1) := by decide +kernel
theorem dX9_tape_1 : decode cX9_tape 1 = .ok (.invokevirtual 106, 3) := by decide +kernel
theorem dX9_tape_4 : decode cX9_tape 4 = .ok (.iconst 0, 1) := by decide +kernel
theorem dX9_tape_5 : decode cX9_tape 5 = .ok (.istore_n 1, 1) := by decide +kernel
theorem dX9_tape_6 : decode cX9_tape 6 = .ok (.iload_n 1, 1) := by decide +kernel
theorem dX9_tape_7 : decode cX9_tape 7 = .ok (.aload_n 0, 1) := by decide +kernel
theorem dX9_tape_8 : decode cX9_tape 8 = .ok (.getfield 92, 3) := by decide +kernel
theorem dX9_tape_11 : decode cX9_tape 11 = .ok (.if_icmp .ge 24, 3) := by decide +kernel
theorem dX9_tape_14 : decode cX9_tape 14 = .ok (.aload_n 0, 1) := by decide +kernel
theorem dX9_tape_15 : decode cX9_tape 15 = .ok (.getfield 7, 3) := by decide +kernel
theorem dX9_tape_18 : decode cX9_tape 18 = .ok (.bipush 64, 2) := by decide +kernel
theorem dX9_tape_20 : decode cX9_tape 20 = .ok (.iload_n 1, 1) := by decide +kernel
theorem dX9_tape_21 : decode cX9_tape 21 = .ok (.iadd, 1) := by decide +kernel
theorem dX9_tape_22 : decode cX9_tape 22 = .ok (.aload_n 0, 1) := by decide +kernel
theorem dX9_tape_23 : decode cX9_tape 23 = .ok (.getfield 23, 3) := by decide +kernel
theorem dX9_tape_26 : decode cX9_tape 26 = .ok (.iload_n 1, 1) := by decide +kernel
theorem dX9_tape_27 : decode cX9_tape 27 = .ok (.iaload, 1) := by decide +kernel
theorem dX9_tape_28 : decode cX9_tape 28 = .ok (.iastore, 1) := by decide +kernel
theorem dX9_tape_29 : decode cX9_tape 29 = .ok (.iinc 1 1, 3) := by decide +kernel
theorem dX9_tape_32 : decode cX9_tape 32 = .ok (.goto (-26), 3) := by decide +kernel
theorem dX9_tape_35 : decode cX9_tape 35 = .ok (.aload_n 0, 1) := by decide +kernel
theorem dX9_tape_36 : decode cX9_tape 36 = .ok (.getfield 7, 3) := by decide +kernel
theorem dX9_tape_39 : decode cX9_tape 39 = .ok (.sipush 1065, 3) := by decide +kernel
theorem dX9_tape_42 : decode cX9_tape 42 = .ok (.aload_n 0, 1) := by decide +kernel
theorem dX9_tape_43 : decode cX9_tape 43 = .ok (.getfield 92, 3) := by decide +kernel
theorem dX9_tape_46 : decode cX9_tape 46 = .ok (.iastore, 1) := by decide +kernel
theorem dX9_tape_47 : decode cX9_tape 47 = .ok (.aload_n 0, 1) := by decide +kernel
theorem dX9_tape_48 : decode cX9_tape 48 = .ok (.getfield 92, 3) := by decide +kernel
theorem dX9_tape_51 : decode cX9_tape 51 = .ok (.ireturn, 1) := by decide +kernel
set_option maxRecDepth 20000 in
theorem ggX9_push_X9_in : GoodIn wsX9_push wsX9_in := goodIn_r _ [5] (by decide +kernel) (by decide +kernel)
set_option maxRecDepth 20000 in
theorem gX9_push_X9_in : GoodIn wsX9_push (va_wsS RX9 36 yX9_in wsX9_in) := goodIn_app (goodIn_of _ (by decide +kernel)) ggX9_push_X9_in
theorem dX9_push_0 : decode cX9_push 0 = .ok (.iload_n 1, 1) := by decide +kernel
theorem dX9_push_1 : decode cX9_push 1 = .ok (.iconst 0, 1) := by decide +kernel
theorem dX9_push_2 : decode cX9_push 2 = .ok (.iconst 1, 1) := by decide +kernel
theorem dX9_push_3 : decode cX9_push 3 = .ok (.invokestatic 36, 3) := by decide +kernel
theorem dX9_push_6 : decode cX9_push 6 = .ok (.ifCond .ne 6, 3) := by decide +kernel
theorem dX9_push_9 : decode cX9_push 9 = .ok (.bipush (-2), 2) := by decide +kernel
theorem dX9_push_11 : decode cX9_push 11 = .ok (.ireturn, 1) := by decide +kernel
theorem dX9_push_12 : decode cX9_push 12 = .ok (.aload_n 0, 1) := by decide +kernel
theorem dX9_push_13 : decode cX9_push 13 = .ok (.getfield 7, 3) := by decide +kernel
theorem dX9_push_16 : decode cX9_push 16 = .ok (.sipush 1065, 3) := by decide +kernel
theorem dX9_push_19 : decode cX9_push 19 = .ok (.iaload, 1) := by decide +kernel
theorem dX9_push_20 : decode cX9_push 20 = .ok (.sipush 1000, 3) := by decide +kernel
theorem dX9_push_23 : decode cX9_push 23 = .ok (.if_icmp .ne 6, 3) := by decide +kernel
theorem dX9_push_26 : decode cX9_push 26 = .ok (.bipush (-4), 2) := by decide +kernel
theorem dX9_push_28 : decode cX9_push 28 = .ok (.ireturn, 1) := by decide +kernel
theorem dX9_push_29 : decode cX9_push 29 = .ok (.aload_n 0, 1) := by decide +kernel
theorem dX9_push_30 : decode cX9_push 30 = .ok (.getfield 7, 3) := by decide +kernel
theorem dX9_push_33 : decode cX9_push 33 = .ok (.bipush 64, 2) := by decide +kernel
theorem dX9_push_35 : decode cX9_push 35 = .ok (.aload_n 0, 1) := by decide +kernel
theorem dX9_push_36 : decode cX9_push 36 = .ok (.getfield 7, 3) := by decide +kernel
theorem dX9_push_39 : decode cX9_push 39 = .ok (.sipush 1065, 3) := by decide +kernel
theorem dX9_push_42 : decode cX9_push 42 = .ok (.iaload, 1) := by decide +kernel
theorem dX9_push_43 : decode cX9_push 43 = .ok (.iadd, 1) := by decide +kernel
theorem dX9_push_44 : decode cX9_push 44 = .ok (.iload_n 1, 1) := by decide +kernel
theorem dX9_push_45 : decode cX9_push 45 = .ok (.iastore, 1) := by decide +kernel
theorem dX9_push_46 : decode cX9_push 46 = .ok (.aload_n 0, 1) := by decide +kernel
theorem dX9_push_47 : decode cX9_push 47 = .ok (.getfield 7, 3) := by decide +kernel
theorem dX9_push_50 : decode cX9_push 50 = .ok (.sipush 1065, 3) := by decide +kernel
theorem dX9_push_53 : decode cX9_push 53 = .ok (.dup2, 1) := by decide +kernel
theorem dX9_push_54 : decode cX9_push 54 = .ok (.iaload, 1) := by decide +kernel
theorem dX9_push_55 : decode cX9_push 55 = .ok (.iconst 1, 1) := by decide +kernel
theorem dX9_push_56 : decode cX9_push 56 = .ok (.iadd, 1) := by decide +kernel
theorem dX9_push_57 : decode cX9_push 57 = .ok (.iastore, 1) := by decide +kernel
theorem dX9_push_58 : decode cX9_push 58 = .ok (.aload_n 0, 1) := by decide +kernel
theorem dX9_push_59 : decode cX9_push 59 = .ok (.getfield 7, 3) := by decide +kernel
theorem dX9_push_62 : decode cX9_push 62 = .ok (.sipush 1065, 3) := by decide +kernel
theorem dX9_push_65 : decode cX9_push 65 = .ok (.iaload, 1) := by decide +kernel
theorem dX9_push_66 : decode cX9_push 66 = .ok (.ireturn, 1) := by decide +kernel
set_option maxRecDepth 20000 in
theorem ggX9_flip_X9_in : GoodIn wsX9_flip wsX9_in := goodIn_r _ [5] (by decide +kernel) (by decide +kernel)
set_option maxRecDepth 20000 in
theorem gX9_flip_X9_in : GoodIn wsX9_flip (va_wsS RX9 36 yX9_in wsX9_in) := goodIn_app (goodIn_of _ (by decide +kernel)) ggX9_flip_X9_in
theorem dX9_flip_0 : decode cX9_flip 0 = .ok (.iload_n 1, 1) := by decide +kernel
theorem dX9_flip_1 : decode cX9_flip 1 = .ok (.iconst 0, 1) := by decide +kernel
theorem dX9_flip_2 : decode cX9_flip 2 = .ok (.aload_n 0, 1) := by decide +kernel
theorem dX9_flip_3 : decode cX9_flip 3 = .ok (.getfield 7, 3) := by decide +kernel
theorem dX9_flip_6 : decode cX9_flip 6 = .ok (.sipush 1065, 3) := by decide +kernel
theorem dX9_flip_9 : decode cX9_flip 9 = .ok (.iaload, 1) := by decide +kernel
theorem dX9_flip_10 : decode cX9_flip 10 = .ok (.iconst 1, 1) := by decide +kernel
theorem dX9_flip_11 : decode cX9_flip 11 = .ok (.isub, 1) := by decide +kernel
theorem dX9_flip_12 : decode cX9_flip 12 = .ok (.invokestatic 36, 3) := by decide +kernel
theorem dX9_flip_15 : decode cX9_flip 15 = .ok (.ifCond .ne 6, 3) := by decide +kernel
theorem dX9_flip_18 : decode cX9_flip 18 = .ok (.bipush (-2), 2) := by decide +kernel
theorem dX9_flip_20 : decode cX9_flip 20 = .ok (.ireturn, 1) := by decide +kernel
theorem dX9_flip_21 : decode cX9_flip 21 = .ok (.aload_n 0, 1) := by decide +kernel
theorem dX9_flip_22 : decode cX9_flip 22 = .ok (.getfield 7, 3) := by decide +kernel
theorem dX9_flip_25 : decode cX9_flip 25 = .ok (.bipush 64, 2) := by decide +kernel
theorem dX9_flip_27 : decode cX9_flip 27 = .ok (.iload_n 1, 1) := by decide +kernel
theorem dX9_flip_28 : decode cX9_flip 28 = .ok (.iadd, 1) := by decide +kernel
theorem dX9_flip_29 : decode cX9_flip 29 = .ok (.iconst 1, 1) := by decide +kernel
theorem dX9_flip_30 : decode cX9_flip 30 = .ok (.aload_n 0, 1) := by decide +kernel
theorem dX9_flip_31 : decode cX9_flip 31 = .ok (.getfield 7, 3) := by decide +kernel
theorem dX9_flip_34 : decode cX9_flip 34 = .ok (.bipush 64, 2) := by decide +kernel
theorem dX9_flip_36 : decode cX9_flip 36 = .ok (.iload_n 1, 1) := by decide +kernel
theorem dX9_flip_37 : decode cX9_flip 37 = .ok (.iadd, 1) := by decide +kernel
theorem dX9_flip_38 : decode cX9_flip 38 = .ok (.iaload, 1) := by decide +kernel
theorem dX9_flip_39 : decode cX9_flip 39 = .ok (.isub, 1) := by decide +kernel
theorem dX9_flip_40 : decode cX9_flip 40 = .ok (.iastore, 1) := by decide +kernel
theorem dX9_flip_41 : decode cX9_flip 41 = .ok (.aload_n 0, 1) := by decide +kernel
theorem dX9_flip_42 : decode cX9_flip 42 = .ok (.getfield 7, 3) := by decide +kernel
theorem dX9_flip_45 : decode cX9_flip 45 = .ok (.bipush 64, 2) := by decide +kernel
theorem dX9_flip_47 : decode cX9_flip 47 = .ok (.iload_n 1, 1) := by decide +kernel
theorem dX9_flip_48 : decode cX9_flip 48 = .ok (.iadd, 1) := by decide +kernel
theorem dX9_flip_49 : decode cX9_flip 49 = .ok (.iaload, 1) := by decide +kernel
theorem dX9_flip_50 : decode cX9_flip 50 = .ok (.ireturn, 1) := by decide +kernel
set_option maxRecDepth 20000 in
theorem ggX9_cut_X9_in : GoodIn wsX9_cut wsX9_in := goodIn_r _ [5] (by decide +kernel) (by decide +kernel)
set_option maxRecDepth 20000 in
theorem gX9_cut_X9_in : GoodIn wsX9_cut (va_wsS RX9 36 yX9_in wsX9_in) := goodIn_app (goodIn_of _ (by decide +kernel)) ggX9_cut_X9_in
theorem dX9_cut_0 : decode cX9_cut 0 = .ok (.iload_n 1, 1) := by decide +kernel
theorem dX9_cut_1 : decode cX9_cut 1 = .ok (.iconst 0, 1) := by decide +kernel
theorem dX9_cut_2 : decode cX9_cut 2 = .ok (.aload_n 0, 1) := by decide +kernel
theorem dX9_cut_3 : decode cX9_cut 3 = .ok (.getfield 7, 3) := by decide +kernel
theorem dX9_cut_6 : decode cX9_cut 6 = .ok (.sipush 1065, 3) := by decide +kernel
theorem dX9_cut_9 : decode cX9_cut 9 = .ok (.iaload, 1) := by decide +kernel
theorem dX9_cut_10 : decode cX9_cut 10 = .ok (.invokestatic 36, 3) := by decide +kernel
theorem dX9_cut_13 : decode cX9_cut 13 = .ok (.ifCond .ne 6, 3) := by decide +kernel
theorem dX9_cut_16 : decode cX9_cut 16 = .ok (.bipush (-2), 2) := by decide +kernel
theorem dX9_cut_18 : decode cX9_cut 18 = .ok (.ireturn, 1) := by decide +kernel
theorem dX9_cut_19 : decode cX9_cut 19 = .ok (.aload_n 0, 1) := by decide +kernel
theorem dX9_cut_20 : decode cX9_cut 20 = .ok (.getfield 7, 3) := by decide +kernel
theorem dX9_cut_23 : decode cX9_cut 23 = .ok (.sipush 1065, 3) := by decide +kernel
theorem dX9_cut_26 : decode cX9_cut 26 = .ok (.iaload, 1) := by decide +kernel
theorem dX9_cut_27 : decode cX9_cut 27 = .ok (.iload_n 1, 1) := by decide +kernel
theorem dX9_cut_28 : decode cX9_cut 28 = .ok (.isub, 1) := by decide +kernel
theorem dX9_cut_29 : decode cX9_cut 29 = .ok (.istore_n 2, 1) := by decide +kernel
theorem dX9_cut_30 : decode cX9_cut 30 = .ok (.aload_n 0, 1) := by decide +kernel
theorem dX9_cut_31 : decode cX9_cut 31 = .ok (.getfield 7, 3) := by decide +kernel
theorem dX9_cut_34 : decode cX9_cut 34 = .ok (.sipush 1065, 3) := by decide +kernel
theorem dX9_cut_37 : decode cX9_cut 37 = .ok (.iload_n 1, 1) := by decide +kernel
theorem dX9_cut_38 : decode cX9_cut 38 = .ok (.iastore, 1) := by decide +kernel
theorem dX9_cut_39 : decode cX9_cut 39 = .ok (.iload_n 2, 1) := by decide +kernel
theorem dX9_cut_40 : decode cX9_cut 40 = .ok (.ireturn, 1) := by decide +kernel
theorem dX9_bit_0 : decode cX9_bit 0 = .ok (.iload_n 1, 1) := by decide +kernel
theorem dX9_bit_1 : decode cX9_bit 1 = .ok (.iconst (-1), 1) := by decide +kernel
theorem dX9_bit_2 : decode cX9_bit 2 = .ok (.if_icmp .ge 6, 3) := by decide +kernel
theorem dX9_bit_5 : decode cX9_bit 5 = .ok (.bipush (-2), 2) := by decide +kernel
theorem dX9_bit_7 : decode cX9_bit 7 = .ok (.ireturn, 1) := by decide +kernel
theorem dX9_bit_8 : decode cX9_bit 8 = .ok (.iload_n 1, 1) := by decide +kernel
theorem dX9_bit_9 : decode cX9_bit 9 = .ok (.iconst (-1), 1) := by decide +kernel
theorem dX9_bit_10 : decode cX9_bit 10 = .ok (.if_icmp .ne 14, 3) := by decide +kernel
theorem dX9_bit_13 : decode cX9_bit 13 = .ok (.aload_n 0, 1) := by decide +kernel
theorem dX9_bit_14 : decode cX9_bit 14 = .ok (.getfield 7, 3) := by decide +kernel
theorem dX9_bit_17 : decode cX9_bit 17 = .ok (.sipush 1065, 3) := by decide +kernel
theorem dX9_bit_20 : decode cX9_bit 20 = .ok (.iaload, 1) := by decide +kernel
theorem dX9_bit_21 : decode cX9_bit 21 = .ok (.goto 29, 3) := by decide +kernel
theorem dX9_bit_24 : decode cX9_bit 24 = .ok (.iload_n 1, 1) := by decide +kernel
theorem dX9_bit_25 : decode cX9_bit 25 = .ok (.aload_n 0, 1) := by decide +kernel
theorem dX9_bit_26 : decode cX9_bit 26 = .ok (.getfield 7, 3) := by decide +kernel
theorem dX9_bit_29 : decode cX9_bit 29 = .ok (.sipush 1065, 3) := by decide +kernel
theorem dX9_bit_32 : decode cX9_bit 32 = .ok (.iaload, 1) := by decide +kernel
theorem dX9_bit_33 : decode cX9_bit 33 = .ok (.if_icmp .ge 15, 3) := by decide +kernel
theorem dX9_bit_36 : decode cX9_bit 36 = .ok (.aload_n 0, 1) := by decide +kernel
theorem dX9_bit_37 : decode cX9_bit 37 = .ok (.getfield 7, 3) := by decide +kernel
theorem dX9_bit_40 : decode cX9_bit 40 = .ok (.bipush 64, 2) := by decide +kernel
theorem dX9_bit_42 : decode cX9_bit 42 = .ok (.iload_n 1, 1) := by decide +kernel
theorem dX9_bit_43 : decode cX9_bit 43 = .ok (.iadd, 1) := by decide +kernel
theorem dX9_bit_44 : decode cX9_bit 44 = .ok (.iaload, 1) := by decide +kernel
theorem dX9_bit_45 : decode cX9_bit 45 = .ok (.goto 5, 3) := by decide +kernel
theorem dX9_bit_48 : decode cX9_bit 48 = .ok (.bipush (-6), 2) := by decide +kernel
theorem dX9_bit_50 : decode cX9_bit 50 = .ok (.ireturn, 1) := by decide +kernel
theorem dX9_fail_0 : decode cX9_fail 0 = .ok (.aload_n 0, 1) := by decide +kernel
theorem dX9_fail_1 : decode cX9_fail 1 = .ok (.iload_n 1, 1) := by decide +kernel
theorem dX9_fail_2 : decode cX9_fail 2 = .ok (.putfield 109, 3) := by decide +kernel
theorem dX9_fail_5 : decode cX9_fail 5 = .ok (.aload_n 0, 1) := by decide +kernel
theorem dX9_fail_6 : decode cX9_fail 6 = .ok (.iload_n 2, 1) := by decide +kernel
theorem dX9_fail_7 : decode cX9_fail 7 = .ok (.putfield 112, 3) := by decide +kernel
theorem dX9_fail_10 : decode cX9_fail 10 = .ok (.return_, 1) := by decide +kernel
set_option maxRecDepth 20000 in
theorem ggX9_number_X9_fail : GoodIn wsX9_number wsX9_fail := goodIn_r _ [8, 1, 9, 10, 11, 12, 13, 14, 15, 16, 17, 18, 19, 20, 21] (by decide +kernel) (by decide +kernel)
set_option maxRecDepth 20000 in
theorem gX9_number_X9_fail : GoodIn wsX9_number (wsV RX9 118 RX9 yX9_fail wsX9_fail) := goodIn_app (goodIn_of _ (by decide +kernel)) ggX9_number_X9_fail
theorem dX9_number_0 : decode cX9_number 0 = .ok (.iconst 0, 1) := by decide +kernel
theorem dX9_number_1 : decode cX9_number 1 = .ok (.istore_n 2, 1) := by decide +kernel
theorem dX9_number_2 : decode cX9_number 2 = .ok (.iconst 0, 1) := by decide +kernel
theorem dX9_number_3 : decode cX9_number 3 = .ok (.istore_n 3, 1) := by decide +kernel
theorem dX9_number_4 : decode cX9_number 4 = .ok (.iload_n 3, 1) := by decide +kernel
theorem dX9_number_5 : decode cX9_number 5 = .ok (.iload_n 1, 1) := by decide +kernel
theorem dX9_number_6 : decode cX9_number 6 = .ok (.if_icmp .ge 74, 3) := by decide +kernel
theorem dX9_number_9 : decode cX9_number 9 = .ok (.aload_n 0, 1) := by decide +kernel
theorem dX9_number_10 : decode cX9_number 10 = .ok (.getfield 109, 3) := by decide +kernel
theorem dX9_number_13 : decode cX9_number 13 = .ok (.ifCond .ne 67, 3) := by decide +kernel
theorem dX9_number_16 : decode cX9_number 16 = .ok (.aload_n 0, 1) := by decide +kernel
theorem dX9_number_17 : decode cX9_number 17 = .ok (.getfield 115, 3) := by decide +kernel
theorem dX9_number_20 : decode cX9_number 20 = .ok (.aload_n 0, 1) := by decide +kernel
theorem dX9_number_21 : decode cX9_number 21 = .ok (.getfield 7, 3) := by decide +kernel
theorem dX9_number_24 : decode cX9_number 24 = .ok (.sipush 1065, 3) := by decide +kernel
theorem dX9_number_27 : decode cX9_number 27 = .ok (.iaload, 1) := by decide +kernel
theorem dX9_number_28 : decode cX9_number 28 = .ok (.if_icmp .ne 19, 3) := by decide +kernel
theorem dX9_number_31 : decode cX9_number 31 = .ok (.aload_n 0, 1) := by decide +kernel
theorem dX9_number_32 : decode cX9_number 32 = .ok (.iconst 1, 1) := by decide +kernel
theorem dX9_number_33 : decode cX9_number 33 = .ok (.aload_n 0, 1) := by decide +kernel
theorem dX9_number_34 : decode cX9_number 34 = .ok (.getfield 7, 3) := by decide +kernel
theorem dX9_number_37 : decode cX9_number 37 = .ok (.sipush 1065, 3) := by decide +kernel
theorem dX9_number_40 : decode cX9_number 40 = .ok (.iaload, 1) := by decide +kernel
theorem dX9_number_41 : decode cX9_number 41 = .ok (.invokevirtual 118, 3) := by decide +kernel
theorem dX9_number_44 : decode cX9_number 44 = .ok (.goto 30, 3) := by decide +kernel
theorem dX9_number_47 : decode cX9_number 47 = .ok (.iconst 2, 1) := by decide +kernel
theorem dX9_number_48 : decode cX9_number 48 = .ok (.iload_n 2, 1) := by decide +kernel
theorem dX9_number_49 : decode cX9_number 49 = .ok (.imul, 1) := by decide +kernel
theorem dX9_number_50 : decode cX9_number 50 = .ok (.aload_n 0, 1) := by decide +kernel
theorem dX9_number_51 : decode cX9_number 51 = .ok (.getfield 7, 3) := by decide +kernel
theorem dX9_number_54 : decode cX9_number 54 = .ok (.bipush 64, 2) := by decide +kernel
theorem dX9_number_56 : decode cX9_number 56 = .ok (.aload_n 0, 1) := by decide +kernel
theorem dX9_number_57 : decode cX9_number 57 = .ok (.getfield 115, 3) := by decide +kernel
theorem dX9_number_60 : decode cX9_number 60 = .ok (.iadd, 1) := by decide +kernel
theorem dX9_number_61 : decode cX9_number 61 = .ok (.iaload, 1) := by decide +kernel
theorem dX9_number_62 : decode cX9_number 62 = .ok (.iadd, 1) := by decide +kernel
theorem dX9_number_63 : decode cX9_number 63 = .ok (.istore_n 2, 1) := by decide +kernel
theorem dX9_number_64 : decode cX9_number 64 = .ok (.aload_n 0, 1) := by decide +kernel
theorem dX9_number_65 : decode cX9_number 65 = .ok (.dup, 1) := by decide +kernel
theorem dX9_number_66 : decode cX9_number 66 = .ok (.getfield 115, 3) := by decide +kernel
theorem dX9_number_69 : decode cX9_number 69 = .ok (.iconst 1, 1) := by decide +kernel
theorem dX9_number_70 : decode cX9_number 70 = .ok (.iadd, 1) := by decide +kernel
theorem dX9_number_71 : decode cX9_number 71 = .ok (.putfield 115, 3) := by decide +kernel
theorem dX9_number_74 : decode cX9_number 74 = .ok (.iinc 3 1, 3) := by decide +kernel
theorem dX9_number_77 : decode cX9_number 77 = .ok (.goto (-73), 3) := by decide +kernel
theorem dX9_number_80 : decode cX9_number 80 = .ok (.iload_n 2, 1) := by decide +kernel
theorem dX9_number_81 : decode cX9_number 81 = .ok (.ireturn, 1) := by decide +kernel
set_option maxRecDepth 20000 in
theorem ggX9_readFold_X9_number : GoodIn wsX9_readFold wsX9_number := goodIn_r _ [8, 3, 2, 1, 9, 10, 11, 7, 12, 13, 18, 19, 20, 21, 22, 23, 24, 25, 26, 27, 28, 29] (by decide +kernel) (by decide +kernel)
set_option maxRecDepth 20000 in
theorem gX9_readFold_X9_number : GoodIn wsX9_readFold (wsV RX9 121 RX9 yX9_number wsX9_number) := goodIn_app (goodIn_of _ (by decide +kernel)) ggX9_readFold_X9_number
set_option maxRecDepth 20000 in
theorem ggX9_readFold_X9_top : GoodIn wsX9_readFold wsX9_top := goodIn_r _ [17, 1, 18, 19, 20, 21, 22, 23, 24, 25, 26, 27, 28, 29] (by decide +kernel) (by decide +kernel)
set_option maxRecDepth 20000 in
theorem gX9_readFold_X9_top : GoodIn wsX9_readFold (wsV RX9 44 RX9 yX9_top wsX9_top) := goodIn_app (goodIn_of _ (by decide +kernel)) ggX9_readFold_X9_top
set_option maxRecDepth 20000 in
theorem ggX9_readFold_X9_fail : GoodIn wsX9_readFold wsX9_fail := goodIn_r _ [12, 3, 13, 18, 19, 20, 21, 22, 23, 24, 25, 26, 27, 28, 29] (by decide +kernel) (by decide +kernel)
set_option maxRecDepth 20000 in
theorem gX9_readFold_X9_fail : GoodIn wsX9_readFold (wsV RX9 118 RX9 yX9_fail wsX9_fail) := goodIn_app (goodIn_of _ (by decide +kernel)) ggX9_readFold_X9_fail
theorem dX9_readFold_0 : decode cX9_readFold 0 = .ok (.iload_n 1, 1) := by decide +kernel
theorem dX9_readFold_1 : decode cX9_readFold 1 = .ok (.ifCond .ne 5, 3) := by decide +kernel
theorem dX9_readFold_4 : decode cX9_readFold 4 = .ok (.iconst 0, 1) := by decide +kernel
theorem dX9_readFold_5 : decode cX9_readFold 5 = .ok (.ireturn, 1) := by decide +kernel
theorem dX9_readFold_6 : decode cX9_readFold 6 = .ok (.iload_n 1, 1) := by decide +kernel
theorem dX9_readFold_7 : decode cX9_readFold 7 = .ok (.bipush 8, 2) := by decide +kernel
theorem dX9_readFold_9 : decode cX9_readFold 9 = .ok (.if_icmp .ne 16, 3) := by decide +kernel
theorem dX9_readFold_12 : decode cX9_readFold 12 = .ok (.aload_n 0, 1) := by decide +kernel
theorem dX9_readFold_13 : decode cX9_readFold 13 = .ok (.aload_n 0, 1) := by decide +kernel
theorem dX9_readFold_14 : decode cX9_readFold 14 = .ok (.getfield 7, 3) := by decide +kernel
theorem dX9_readFold_17 : decode cX9_readFold 17 = .ok (.sipush 1066, 3) := by decide +kernel
theorem dX9_readFold_20 : decode cX9_readFold 20 = .ok (.iaload, 1) := by decide +kernel
theorem dX9_readFold_21 : decode cX9_readFold 21 = .ok (.invokevirtual 121, 3) := by decide +kernel
theorem dX9_readFold_24 : decode cX9_readFold 24 = .ok (.ireturn, 1) := by decide +kernel
theorem dX9_readFold_25 : decode cX9_readFold 25 = .ok (.aload_n 0, 1) := by decide +kernel
theorem dX9_readFold_26 : decode cX9_readFold 26 = .ok (.getfield 115, 3) := by decide +kernel
theorem dX9_readFold_29 : decode cX9_readFold 29 = .ok (.istore_n 2, 1) := by decide +kernel
theorem dX9_readFold_30 : decode cX9_readFold 30 = .ok (.iconst 0, 1) := by decide +kernel
theorem dX9_readFold_31 : decode cX9_readFold 31 = .ok (.istore_n 3, 1) := by decide +kernel
theorem dX9_readFold_32 : decode cX9_readFold 32 = .ok (.aload_n 0, 1) := by decide +kernel
theorem dX9_readFold_33 : decode cX9_readFold 33 = .ok (.iconst 1, 1) := by decide +kernel
theorem dX9_readFold_34 : decode cX9_readFold 34 = .ok (.invokevirtual 121, 3) := by decide +kernel
theorem dX9_readFold_37 : decode cX9_readFold 37 = .ok (.istore 4, 2) := by decide +kernel
theorem dX9_readFold_39 : decode cX9_readFold 39 = .ok (.aload_n 0, 1) := by decide +kernel
theorem dX9_readFold_40 : decode cX9_readFold 40 = .ok (.getfield 109, 3) := by decide +kernel
theorem dX9_readFold_43 : decode cX9_readFold 43 = .ok (.ifCond .ne 42, 3) := by decide +kernel
theorem dX9_readFold_46 : decode cX9_readFold 46 = .ok (.iload 4, 2) := by decide +kernel
theorem dX9_readFold_48 : decode cX9_readFold 48 = .ok (.ifCond .ne 37, 3) := by decide +kernel
theorem dX9_readFold_51 : decode cX9_readFold 51 = .ok (.iinc 3 1, 3) := by decide +kernel
theorem dX9_readFold_54 : decode cX9_readFold 54 = .ok (.iload_n 3, 1) := by decide +kernel
theorem dX9_readFold_55 : decode cX9_readFold 55 = .ok (.aload_n 0, 1) := by decide +kernel
theorem dX9_readFold_56 : decode cX9_readFold 56 = .ok (.invokevirtual 44, 3) := by decide +kernel
theorem dX9_readFold_59 : decode cX9_readFold 59 = .ok (.iload_n 1, 1) := by decide +kernel
theorem dX9_readFold_60 : decode cX9_readFold 60 = .ok (.iconst 1, 1) := by decide +kernel
theorem dX9_readFold_61 : decode cX9_readFold 61 = .ok (.isub, 1) := by decide +kernel
theorem dX9_readFold_62 : decode cX9_readFold 62 = .ok (.ishr, 1) := by decide +kernel
theorem dX9_readFold_63 : decode cX9_readFold 63 = .ok (.if_icmp .le 12, 3) := by decide +kernel
theorem dX9_readFold_66 : decode cX9_readFold 66 = .ok (.aload_n 0, 1) := by decide +kernel
theorem dX9_readFold_67 : decode cX9_readFold 67 = .ok (.iconst 3, 1) := by decide +kernel
theorem dX9_readFold_68 : decode cX9_readFold 68 = .ok (.iload_n 2, 1) := by decide +kernel
theorem dX9_readFold_69 : decode cX9_readFold 69 = .ok (.invokevirtual 118, 3) := by decide +kernel
theorem dX9_readFold_72 : decode cX9_readFold 72 = .ok (.goto (-33), 3) := by decide +kernel
theorem dX9_readFold_75 : decode cX9_readFold 75 = .ok (.aload_n 0, 1) := by decide +kernel
theorem dX9_readFold_76 : decode cX9_readFold 76 = .ok (.iconst 1, 1) := by decide +kernel
theorem dX9_readFold_77 : decode cX9_readFold 77 = .ok (.invokevirtual 121, 3) := by decide +kernel
theorem dX9_readFold_80 : decode cX9_readFold 80 = .ok (.istore 4, 2) := by decide +kernel
theorem dX9_readFold_82 : decode cX9_readFold 82 = .ok (.goto (-43), 3) := by decide +kernel
theorem dX9_readFold_85 : decode cX9_readFold 85 = .ok (.aload_n 0, 1) := by decide +kernel
theorem dX9_readFold_86 : decode cX9_readFold 86 = .ok (.getfield 109, 3) := by decide +kernel
theorem dX9_readFold_89 : decode cX9_readFold 89 = .ok (.ifCond .ne 13, 3) := by decide +kernel
theorem dX9_readFold_92 : decode cX9_readFold 92 = .ok (.aload_n 0, 1) := by decide +kernel
theorem dX9_readFold_93 : decode cX9_readFold 93 = .ok (.iload_n 1, 1) := by decide +kernel
theorem dX9_readFold_94 : decode cX9_readFold 94 = .ok (.iconst 1, 1) := by decide +kernel
theorem dX9_readFold_95 : decode cX9_readFold 95 = .ok (.isub, 1) := by decide +kernel
theorem dX9_readFold_96 : decode cX9_readFold 96 = .ok (.invokevirtual 121, 3) := by decide +kernel
theorem dX9_readFold_99 : decode cX9_readFold 99 = .ok (.goto 4, 3) := by decide +kernel
theorem dX9_readFold_102 : decode cX9_readFold 102 = .ok (.iconst 0, 1) := by decide +kernel
theorem dX9_readFold_103 : decode cX9_readFold 103 = .ok (.istore 5, 2) := by decide +kernel
theorem dX9_readFold_105 : decode cX9_readFold 105 = .ok (.iload_n 3, 1) := by decide +kernel
theorem dX9_readFold_106 : decode cX9_readFold 106 = .ok (.iload_n 1, 1) := by decide +kernel
theorem dX9_readFold_107 : decode cX9_readFold 107 = .ok (.iconst 1, 1) := by decide +kernel
theorem dX9_readFold_108 : decode cX9_readFold 108 = .ok (.isub, 1) := by decide +kernel
theorem dX9_readFold_109 : decode cX9_readFold 109 = .ok (.ishl, 1) := by decide +kernel
theorem dX9_readFold_110 : decode cX9_readFold 110 = .ok (.iload 5, 2) := by decide +kernel
theorem dX9_readFold_112 : decode cX9_readFold 112 = .ok (.iadd, 1) := by decide +kernel
theorem dX9_readFold_113 : decode cX9_readFold 113 = .ok (.ireturn, 1) := by decide +kernel
set_option maxRecDepth 20000 in
theorem ggX9_readSample_X9_isBare : GoodIn wsX9_readSample wsX9_isBare := goodIn_r _ [9, 10, 11, 12, 8, 13, 1, 44, 45, 46, 47, 48, 49, 50, 51, 52, 53, 54, 55] (by decide +kernel) (by decide +kernel)
set_option maxRecDepth 20000 in
theorem gX9_readSample_X9_isBare : GoodIn wsX9_readSample (wsV RX9 50 RX9 yX9_isBare wsX9_isBare) := goodIn_app (goodIn_of _ (by decide +kernel)) ggX9_readSample_X9_isBare
set_option maxRecDepth 20000 in
theorem ggX9_readSample_X9_number : GoodIn wsX9_readSample wsX9_number := goodIn_r _ [17, 2, 18, 1, 19, 20, 21, 8, 22, 23, 44, 45, 46, 47, 48, 49, 50, 51, 52, 53, 54, 55] (by decide +kernel) (by decide +kernel)
set_option maxRecDepth 20000 in
theorem gX9_readSample_X9_number : GoodIn wsX9_readSample (wsV RX9 121 RX9 yX9_number wsX9_number) := goodIn_app (goodIn_of _ (by decide +kernel)) ggX9_readSample_X9_number
set_option maxRecDepth 20000 in
theorem ggX9_readSample_X9_readFold : GoodIn wsX9_readSample wsX9_readFold := goodIn_r _ [27, 1, 18, 2, 14, 15, 16, 8, 17, 19, 20, 21, 22, 23, 28, 29, 30, 31, 44, 45, 46, 47, 48, 49, 50, 51, 52, 53, 54, 55] (by decide +kernel) (by decide +kernel)
set_option maxRecDepth 20000 in
theorem gX9_readSample_X9_readFold : GoodIn wsX9_readSample (wsV RX9 124 RX9 yX9_readFold wsX9_readFold) := goodIn_app (goodIn_of _ (by decide +kernel)) ggX9_readSample_X9_readFold
set_option maxRecDepth 20000 in
theorem ggX9_readSample_X9_expected : GoodIn wsX9_readSample wsX9_expected := goodIn_r _ [35, 3, 5, 6, 7, 8, 9, 10, 11, 12, 13, 1, 28, 29, 30, 31, 44, 45, 46, 47, 48, 49, 50, 51, 52, 53, 54, 55] (by decide +kernel) (by decide +kernel)
set_option maxRecDepth 20000 in
theorem gX9_readSample_X9_expected : GoodIn wsX9_readSample (wsV RX9 60 RX9 yX9_expected wsX9_expected) := goodIn_app (goodIn_of _ (by decide +kernel)) ggX9_readSample_X9_expected
set_option maxRecDepth 20000 in
theorem ggX9_readSample_X9_unfold : GoodIn wsX9_readSample wsX9_unfold := goodIn_r _ [39, 40, 41, 42, 8, 43, 28, 29, 30, 31, 1, 44, 45, 46, 47, 48, 49, 50, 51, 52, 53, 54, 55] (by decide +kernel) (by decide +kernel)
set_option maxRecDepth 20000 in
theorem gX9_readSample_X9_unfold : GoodIn wsX9_readSample (wsV RX9 127 RX9 yX9_unfold wsX9_unfold) := goodIn_app (goodIn_of _ (by decide +kernel)) ggX9_readSample_X9_unfold
theorem dX9_readSample_0 : decode cX9_readSample 0 = .ok (.aload_n 0, 1) := by decide +kernel
theorem dX9_readSample_1 : decode cX9_readSample 1 = .ok (.iload_n 1, 1) := by decide +kernel
theorem dX9_readSample_2 : decode cX9_readSample 2 = .ok (.invokevirtual 50, 3) := by decide +kernel
theorem dX9_readSample_5 : decode cX9_readSample 5 = .ok (.ifCond .eq 20, 3) := by decide +kernel
theorem dX9_readSample_8 : decode cX9_readSample 8 = .ok (.aload_n 0, 1) := by decide +kernel
theorem dX9_readSample_9 : decode cX9_readSample 9 = .ok (.aload_n 0, 1) := by decide +kernel
theorem dX9_readSample_10 : decode cX9_readSample 10 = .ok (.getfield 7, 3) := by decide +kernel
theorem dX9_readSample_13 : decode cX9_readSample 13 = .ok (.sipush 1066, 3) := by decide +kernel
theorem dX9_readSample_16 : decode cX9_readSample 16 = .ok (.iaload, 1) := by decide +kernel
theorem dX9_readSample_17 : decode cX9_readSample 17 = .ok (.invokevirtual 121, 3) := by decide +kernel
theorem dX9_readSample_20 : decode cX9_readSample 20 = .ok (.istore 4, 2) := by decide +kernel
theorem dX9_readSample_22 : decode cX9_readSample 22 = .ok (.goto 20, 3) := by decide +kernel
theorem dX9_readSample_25 : decode cX9_readSample 25 = .ok (.aload_n 0, 1) := by decide +kernel
theorem dX9_readSample_26 : decode cX9_readSample 26 = .ok (.aload_n 0, 1) := by decide +kernel
theorem dX9_readSample_27 : decode cX9_readSample 27 = .ok (.iload_n 3, 1) := by decide +kernel
theorem dX9_readSample_28 : decode cX9_readSample 28 = .ok (.invokevirtual 124, 3) := by decide +kernel
theorem dX9_readSample_31 : decode cX9_readSample 31 = .ok (.aload_n 0, 1) := by decide +kernel
theorem dX9_readSample_32 : decode cX9_readSample 32 = .ok (.iload_n 1, 1) := by decide +kernel
theorem dX9_readSample_33 : decode cX9_readSample 33 = .ok (.iload_n 2, 1) := by decide +kernel
theorem dX9_readSample_34 : decode cX9_readSample 34 = .ok (.invokevirtual 60, 3) := by decide +kernel
theorem dX9_readSample_37 : decode cX9_readSample 37 = .ok (.invokevirtual 127, 3) := by decide +kernel
theorem dX9_readSample_40 : decode cX9_readSample 40 = .ok (.istore 4, 2) := by decide +kernel
theorem dX9_readSample_42 : decode cX9_readSample 42 = .ok (.aload_n 0, 1) := by decide +kernel
theorem dX9_readSample_43 : decode cX9_readSample 43 = .ok (.getfield 109, 3) := by decide +kernel
theorem dX9_readSample_46 : decode cX9_readSample 46 = .ok (.ifCond .ne 21, 3) := by decide +kernel
theorem dX9_readSample_49 : decode cX9_readSample 49 = .ok (.aload_n 0, 1) := by decide +kernel
theorem dX9_readSample_50 : decode cX9_readSample 50 = .ok (.getfield 20, 3) := by decide +kernel
theorem dX9_readSample_53 : decode cX9_readSample 53 = .ok (.iload_n 1, 1) := by decide +kernel
theorem dX9_readSample_54 : decode cX9_readSample 54 = .ok (.iload 4, 2) := by decide +kernel
theorem dX9_readSample_56 : decode cX9_readSample 56 = .ok (.iastore, 1) := by decide +kernel
theorem dX9_readSample_57 : decode cX9_readSample 57 = .ok (.aload_n 0, 1) := by decide +kernel
theorem dX9_readSample_58 : decode cX9_readSample 58 = .ok (.dup, 1) := by decide +kernel
theorem dX9_readSample_59 : decode cX9_readSample 59 = .ok (.getfield 130, 3) := by decide +kernel
theorem dX9_readSample_62 : decode cX9_readSample 62 = .ok (.iconst 1, 1) := by decide +kernel
theorem dX9_readSample_63 : decode cX9_readSample 63 = .ok (.iadd, 1) := by decide +kernel
theorem dX9_readSample_64 : decode cX9_readSample 64 = .ok (.putfield 130, 3) := by decide +kernel
theorem dX9_readSample_67 : decode cX9_readSample 67 = .ok (.return_, 1) := by decide +kernel
set_option maxRecDepth 20000 in
theorem ggX9_readBlock_X9_number : GoodIn wsX9_readBlock wsX9_number := goodIn_r _ [7, 2, 1, 8, 9, 10, 11, 6, 12, 13, 55, 56, 57, 58, 59, 60, 61, 62, 63, 64, 65, 66] (by decide +kernel) (by decide +kernel)
set_option maxRecDepth 20000 in
theorem gX9_readBlock_X9_number : GoodIn wsX9_readBlock (wsV RX9 121 RX9 yX9_number wsX9_number) := goodIn_app (goodIn_of _ (by decide +kernel)) ggX9_readBlock_X9_number
set_option maxRecDepth 20000 in
theorem ggX9_readBlock_X9_canCode : GoodIn wsX9_readBlock wsX9_canCode := goodIn_r _ [17, 8, 18, 19, 6, 20, 55, 56, 57, 58, 59, 60, 61, 62, 63, 64, 65, 66] (by decide +kernel) (by decide +kernel)
set_option maxRecDepth 20000 in
theorem gX9_readBlock_X9_canCode : GoodIn wsX9_readBlock (wsV RX9 73 RX9 yX9_canCode wsX9_canCode) := goodIn_app (goodIn_of _ (by decide +kernel)) ggX9_readBlock_X9_canCode
set_option maxRecDepth 20000 in
theorem ggX9_readBlock_X9_fail : GoodIn wsX9_readBlock wsX9_fail := goodIn_r _ [12, 2, 13, 55, 56, 57, 58, 59, 60, 61, 62, 63, 64, 65, 66] (by decide +kernel) (by decide +kernel)
set_option maxRecDepth 20000 in
theorem gX9_readBlock_X9_fail : GoodIn wsX9_readBlock (wsV RX9 118 RX9 yX9_fail wsX9_fail) := goodIn_app (goodIn_of _ (by decide +kernel)) ggX9_readBlock_X9_fail
set_option maxRecDepth 20000 in
theorem ggX9_readBlock_X9_readSample : GoodIn wsX9_readBlock wsX9_readSample := goodIn_r _ [24, 8, 2, 25, 26, 27, 28, 29, 6, 30, 31, 32, 33, 34, 3, 4, 5, 7, 1, 9, 10, 11, 12, 13, 35, 36, 37, 38, 39, 40, 41, 42, 43, 44, 45, 46, 47, 48, 49, 50, 51, 52, 53, 54, 55, 56, 57, 58, 59, 60, 61, 62, 63, 64, 65, 66] (by decide +kernel) (by decide +kernel)
set_option maxRecDepth 20000 in
theorem gX9_readBlock_X9_readSample : GoodIn wsX9_readBlock (wsV RX9 133 RX9 yX9_readSample wsX9_readSample) := goodIn_app (goodIn_of _ (by decide +kernel)) ggX9_readBlock_X9_readSample
theorem dX9_readBlock_0 : decode cX9_readBlock 0 = .ok (.aload_n 0, 1) := by decide +kernel
theorem dX9_readBlock_1 : decode cX9_readBlock 1 = .ok (.getfield 115, 3) := by decide +kernel
theorem dX9_readBlock_4 : decode cX9_readBlock 4 = .ok (.istore_n 3, 1) := by decide +kernel
theorem dX9_readBlock_5 : decode cX9_readBlock 5 = .ok (.aload_n 0, 1) := by decide +kernel
theorem dX9_readBlock_6 : decode cX9_readBlock 6 = .ok (.iconst 2, 1) := by decide +kernel
theorem dX9_readBlock_7 : decode cX9_readBlock 7 = .ok (.invokevirtual 121, 3) := by decide +kernel
theorem dX9_readBlock_10 : decode cX9_readBlock 10 = .ok (.istore 4, 2) := by decide +kernel
theorem dX9_readBlock_12 : decode cX9_readBlock 12 = .ok (.aload_n 0, 1) := by decide +kernel
theorem dX9_readBlock_13 : decode cX9_readBlock 13 = .ok (.iconst 4, 1) := by decide +kernel
theorem dX9_readBlock_14 : decode cX9_readBlock 14 = .ok (.invokevirtual 121, 3) := by decide +kernel
theorem dX9_readBlock_17 : decode cX9_readBlock 17 = .ok (.istore 5, 2) := by decide +kernel
theorem dX9_readBlock_19 : decode cX9_readBlock 19 = .ok (.aload_n 0, 1) := by decide +kernel
theorem dX9_readBlock_20 : decode cX9_readBlock 20 = .ok (.getfield 109, 3) := by decide +kernel
theorem dX9_readBlock_23 : decode cX9_readBlock 23 = .ok (.ifCond .ne 18, 3) := by decide +kernel
theorem dX9_readBlock_26 : decode cX9_readBlock 26 = .ok (.aload_n 0, 1) := by decide +kernel
theorem dX9_readBlock_27 : decode cX9_readBlock 27 = .ok (.iload 5, 2) := by decide +kernel
theorem dX9_readBlock_29 : decode cX9_readBlock 29 = .ok (.invokevirtual 73, 3) := by decide +kernel
theorem dX9_readBlock_32 : decode cX9_readBlock 32 = .ok (.ifCond .ne 9, 3) := by decide +kernel
theorem dX9_readBlock_35 : decode cX9_readBlock 35 = .ok (.aload_n 0, 1) := by decide +kernel
theorem dX9_readBlock_36 : decode cX9_readBlock 36 = .ok (.iconst 2, 1) := by decide +kernel
theorem dX9_readBlock_37 : decode cX9_readBlock 37 = .ok (.iload_n 3, 1) := by decide +kernel
theorem dX9_readBlock_38 : decode cX9_readBlock 38 = .ok (.invokevirtual 118, 3) := by decide +kernel
theorem dX9_readBlock_41 : decode cX9_readBlock 41 = .ok (.iload_n 1, 1) := by decide +kernel
theorem dX9_readBlock_42 : decode cX9_readBlock 42 = .ok (.istore 6, 2) := by decide +kernel
theorem dX9_readBlock_44 : decode cX9_readBlock 44 = .ok (.iload 6, 2) := by decide +kernel
theorem dX9_readBlock_46 : decode cX9_readBlock 46 = .ok (.iload_n 2, 1) := by decide +kernel
theorem dX9_readBlock_47 : decode cX9_readBlock 47 = .ok (.if_icmp .ge 26, 3) := by decide +kernel
theorem dX9_readBlock_50 : decode cX9_readBlock 50 = .ok (.aload_n 0, 1) := by decide +kernel
theorem dX9_readBlock_51 : decode cX9_readBlock 51 = .ok (.getfield 109, 3) := by decide +kernel
theorem dX9_readBlock_54 : decode cX9_readBlock 54 = .ok (.ifCond .ne 19, 3) := by decide +kernel
theorem dX9_readBlock_57 : decode cX9_readBlock 57 = .ok (.aload_n 0, 1) := by decide +kernel
theorem dX9_readBlock_58 : decode cX9_readBlock 58 = .ok (.iload 6, 2) := by decide +kernel
theorem dX9_readBlock_60 : decode cX9_readBlock 60 = .ok (.iload 4, 2) := by decide +kernel
theorem dX9_readBlock_62 : decode cX9_readBlock 62 = .ok (.iload 5, 2) := by decide +kernel
theorem dX9_readBlock_64 : decode cX9_readBlock 64 = .ok (.invokevirtual 133, 3) := by decide +kernel
theorem dX9_readBlock_67 : decode cX9_readBlock 67 = .ok (.iinc 6 1, 3) := by decide +kernel
theorem dX9_readBlock_70 : decode cX9_readBlock 70 = .ok (.goto (-26), 3) := by decide +kernel
theorem dX9_readBlock_73 : decode cX9_readBlock 73 = .ok (.return_, 1) := by decide +kernel
set_option maxRecDepth 20000 in
theorem ggX9_read_X9_in : GoodIn wsX9_read wsX9_in := goodIn_r _ [10] (by decide +kernel) (by decide +kernel)
set_option maxRecDepth 20000 in
theorem gX9_read_X9_in : GoodIn wsX9_read (va_wsS RX9 36 yX9_in wsX9_in) := goodIn_app (goodIn_of _ (by decide +kernel)) ggX9_read_X9_in
set_option maxRecDepth 20000 in
theorem ggX9_read_X9_less : GoodIn wsX9_read wsX9_less := goodIn_r _ [13] (by decide +kernel) (by decide +kernel)
set_option maxRecDepth 20000 in
theorem gX9_read_X9_less : GoodIn wsX9_read (va_wsS RX9 70 yX9_less wsX9_less) := goodIn_app (goodIn_of _ (by decide +kernel)) ggX9_read_X9_less
set_option maxRecDepth 20000 in
theorem ggX9_read_X9_readBlock : GoodIn wsX9_read wsX9_readBlock := goodIn_r _ [17, 1, 2, 18, 19, 20, 9, 21, 4, 22, 23, 24, 25, 5, 26, 27, 28, 29, 7, 8, 10, 30, 31, 32, 33, 6, 3, 34, 35, 36, 37, 38, 39, 40, 41, 42, 43, 44, 45, 46, 47, 48, 49, 50, 51, 52, 53, 54, 55, 56, 57, 58, 59, 60, 61, 62, 63, 64, 65, 66, 67, 68, 69, 70, 71, 72, 73] (by decide +kernel) (by decide +kernel)
set_option maxRecDepth 20000 in
theorem gX9_read_X9_readBlock : GoodIn wsX9_read (wsV RX9 137 RX9 yX9_readBlock wsX9_readBlock) := goodIn_app (goodIn_of _ (by decide +kernel)) ggX9_read_X9_readBlock
set_option maxRecDepth 20000 in
theorem ggX9_read_X9_fail : GoodIn wsX9_read wsX9_fail := goodIn_r _ [25, 2, 5, 62, 63, 64, 65, 66, 67, 68, 69, 70, 71, 72, 73] (by decide +kernel) (by decide +kernel)
set_option maxRecDepth 20000 in
theorem gX9_read_X9_fail : GoodIn wsX9_read (wsV RX9 118 RX9 yX9_fail wsX9_fail) := goodIn_app (goodIn_of _ (by decide +kernel)) ggX9_read_X9_fail
theorem dX9_read_0 : decode cX9_read 0 = .ok (.iload_n 1, 1) := by decide +kernel
theorem dX9_read_1 : decode cX9_read 1 = .ok (.iconst 0, 1) := by decide +kernel
theorem dX9_read_2 : decode cX9_read 2 = .ok (.bipush 64, 2) := by decide +kernel
theorem dX9_read_4 : decode cX9_read 4 = .ok (.invokestatic 36, 3) := by decide +kernel
theorem dX9_read_7 : decode cX9_read 7 = .ok (.ifCond .ne 6, 3) := by decide +kernel
theorem dX9_read_10 : decode cX9_read 10 = .ok (.bipush (-2), 2) := by decide +kernel
theorem dX9_read_12 : decode cX9_read 12 = .ok (.ireturn, 1) := by decide +kernel
theorem dX9_read_13 : decode cX9_read 13 = .ok (.aload_n 0, 1) := by decide +kernel
theorem dX9_read_14 : decode cX9_read 14 = .ok (.iconst 0, 1) := by decide +kernel
theorem dX9_read_15 : decode cX9_read 15 = .ok (.putfield 115, 3) := by decide +kernel
theorem dX9_read_18 : decode cX9_read 18 = .ok (.aload_n 0, 1) := by decide +kernel
theorem dX9_read_19 : decode cX9_read 19 = .ok (.iconst 0, 1) := by decide +kernel
theorem dX9_read_20 : decode cX9_read 20 = .ok (.putfield 109, 3) := by decide +kernel
theorem dX9_read_23 : decode cX9_read 23 = .ok (.aload_n 0, 1) := by decide +kernel
theorem dX9_read_24 : decode cX9_read 24 = .ok (.iconst 0, 1) := by decide +kernel
theorem dX9_read_25 : decode cX9_read 25 = .ok (.putfield 130, 3) := by decide +kernel
theorem dX9_read_28 : decode cX9_read 28 = .ok (.iconst 0, 1) := by decide +kernel
theorem dX9_read_29 : decode cX9_read 29 = .ok (.istore_n 2, 1) := by decide +kernel
theorem dX9_read_30 : decode cX9_read 30 = .ok (.iload_n 2, 1) := by decide +kernel
theorem dX9_read_31 : decode cX9_read 31 = .ok (.iload_n 1, 1) := by decide +kernel
theorem dX9_read_32 : decode cX9_read 32 = .ok (.if_icmp .ge 43, 3) := by decide +kernel
theorem dX9_read_35 : decode cX9_read 35 = .ok (.aload_n 0, 1) := by decide +kernel
theorem dX9_read_36 : decode cX9_read 36 = .ok (.getfield 109, 3) := by decide +kernel
theorem dX9_read_39 : decode cX9_read 39 = .ok (.ifCond .ne 36, 3) := by decide +kernel
theorem dX9_read_42 : decode cX9_read 42 = .ok (.aload_n 0, 1) := by decide +kernel
theorem dX9_read_43 : decode cX9_read 43 = .ok (.iload_n 2, 1) := by decide +kernel
theorem dX9_read_44 : decode cX9_read 44 = .ok (.iload_n 2, 1) := by decide +kernel
theorem dX9_read_45 : decode cX9_read 45 = .ok (.aload_n 0, 1) := by decide +kernel
theorem dX9_read_46 : decode cX9_read 46 = .ok (.getfield 7, 3) := by decide +kernel
theorem dX9_read_49 : decode cX9_read 49 = .ok (.sipush 1067, 3) := by decide +kernel
theorem dX9_read_52 : decode cX9_read 52 = .ok (.iaload, 1) := by decide +kernel
theorem dX9_read_53 : decode cX9_read 53 = .ok (.iadd, 1) := by decide +kernel
theorem dX9_read_54 : decode cX9_read 54 = .ok (.iload_n 1, 1) := by decide +kernel
theorem dX9_read_55 : decode cX9_read 55 = .ok (.invokestatic 70, 3) := by decide +kernel
theorem dX9_read_58 : decode cX9_read 58 = .ok (.invokevirtual 137, 3) := by decide +kernel
theorem dX9_read_61 : decode cX9_read 61 = .ok (.iload_n 2, 1) := by decide +kernel
theorem dX9_read_62 : decode cX9_read 62 = .ok (.aload_n 0, 1) := by decide +kernel
theorem dX9_read_63 : decode cX9_read 63 = .ok (.getfield 7, 3) := by decide +kernel
theorem dX9_read_66 : decode cX9_read 66 = .ok (.sipush 1067, 3) := by decide +kernel
theorem dX9_read_69 : decode cX9_read 69 = .ok (.iaload, 1) := by decide +kernel
theorem dX9_read_70 : decode cX9_read 70 = .ok (.iadd, 1) := by decide +kernel
theorem dX9_read_71 : decode cX9_read 71 = .ok (.istore_n 2, 1) := by decide +kernel
theorem dX9_read_72 : decode cX9_read 72 = .ok (.goto (-42), 3) := by decide +kernel
theorem dX9_read_75 : decode cX9_read 75 = .ok (.aload_n 0, 1) := by decide +kernel
theorem dX9_read_76 : decode cX9_read 76 = .ok (.getfield 109, 3) := by decide +kernel
theorem dX9_read_79 : decode cX9_read 79 = .ok (.ifCond .ne 27, 3) := by decide +kernel
theorem dX9_read_82 : decode cX9_read 82 = .ok (.aload_n 0, 1) := by decide +kernel
theorem dX9_read_83 : decode cX9_read 83 = .ok (.getfield 115, 3) := by decide +kernel
theorem dX9_read_86 : decode cX9_read 86 = .ok (.aload_n 0, 1) := by decide +kernel
theorem dX9_read_87 : decode cX9_read 87 = .ok (.getfield 7, 3) := by decide +kernel
theorem dX9_read_90 : decode cX9_read 90 = .ok (.sipush 1065, 3) := by decide +kernel
theorem dX9_read_93 : decode cX9_read 93 = .ok (.iaload, 1) := by decide +kernel
theorem dX9_read_94 : decode cX9_read 94 = .ok (.if_icmp .ge 12, 3) := by decide +kernel
theorem dX9_read_97 : decode cX9_read 97 = .ok (.aload_n 0, 1) := by decide +kernel
theorem dX9_read_98 : decode cX9_read 98 = .ok (.iconst 4, 1) := by decide +kernel
theorem dX9_read_99 : decode cX9_read 99 = .ok (.aload_n 0, 1) := by decide +kernel
theorem dX9_read_100 : decode cX9_read 100 = .ok (.getfield 115, 3) := by decide +kernel
theorem dX9_read_103 : decode cX9_read 103 = .ok (.invokevirtual 118, 3) := by decide +kernel
theorem dX9_read_106 : decode cX9_read 106 = .ok (.aload_n 0, 1) := by decide +kernel
theorem dX9_read_107 : decode cX9_read 107 = .ok (.getfield 7, 3) := by decide +kernel
theorem dX9_read_110 : decode cX9_read 110 = .ok (.sipush 1069, 3) := by decide +kernel
theorem dX9_read_113 : decode cX9_read 113 = .ok (.aload_n 0, 1) := by decide +kernel
theorem dX9_read_114 : decode cX9_read 114 = .ok (.getfield 109, 3) := by decide +kernel
theorem dX9_read_117 : decode cX9_read 117 = .ok (.iastore, 1) := by decide +kernel
theorem dX9_read_118 : decode cX9_read 118 = .ok (.aload_n 0, 1) := by decide +kernel
theorem dX9_read_119 : decode cX9_read 119 = .ok (.getfield 7, 3) := by decide +kernel
theorem dX9_read_122 : decode cX9_read 122 = .ok (.sipush 1070, 3) := by decide +kernel
theorem dX9_read_125 : decode cX9_read 125 = .ok (.aload_n 0, 1) := by decide +kernel
theorem dX9_read_126 : decode cX9_read 126 = .ok (.getfield 109, 3) := by decide +kernel
theorem dX9_read_129 : decode cX9_read 129 = .ok (.ifCond .ne 8, 3) := by decide +kernel
theorem dX9_read_132 : decode cX9_read 132 = .ok (.bipush (-6), 2) := by decide +kernel
theorem dX9_read_134 : decode cX9_read 134 = .ok (.goto 7, 3) := by decide +kernel
theorem dX9_read_137 : decode cX9_read 137 = .ok (.aload_n 0, 1) := by decide +kernel
theorem dX9_read_138 : decode cX9_read 138 = .ok (.getfield 112, 3) := by decide +kernel
theorem dX9_read_141 : decode cX9_read 141 = .ok (.iastore, 1) := by decide +kernel
theorem dX9_read_142 : decode cX9_read 142 = .ok (.aload_n 0, 1) := by decide +kernel
theorem dX9_read_143 : decode cX9_read 143 = .ok (.getfield 7, 3) := by decide +kernel
theorem dX9_read_146 : decode cX9_read 146 = .ok (.sipush 1071, 3) := by decide +kernel
theorem dX9_read_149 : decode cX9_read 149 = .ok (.aload_n 0, 1) := by decide +kernel
theorem dX9_read_150 : decode cX9_read 150 = .ok (.getfield 109, 3) := by decide +kernel
theorem dX9_read_153 : decode cX9_read 153 = .ok (.ifCond .ne 8, 3) := by decide +kernel
theorem dX9_read_156 : decode cX9_read 156 = .ok (.bipush (-6), 2) := by decide +kernel
theorem dX9_read_158 : decode cX9_read 158 = .ok (.goto 7, 3) := by decide +kernel
theorem dX9_read_161 : decode cX9_read 161 = .ok (.aload_n 0, 1) := by decide +kernel
theorem dX9_read_162 : decode cX9_read 162 = .ok (.getfield 130, 3) := by decide +kernel
theorem dX9_read_165 : decode cX9_read 165 = .ok (.iastore, 1) := by decide +kernel
theorem dX9_read_166 : decode cX9_read 166 = .ok (.aload_n 0, 1) := by decide +kernel
theorem dX9_read_167 : decode cX9_read 167 = .ok (.getfield 109, 3) := by decide +kernel
theorem dX9_read_170 : decode cX9_read 170 = .ok (.ifCond .le 6, 3) := by decide +kernel
theorem dX9_read_173 : decode cX9_read 173 = .ok (.bipush (-7), 2) := by decide +kernel
theorem dX9_read_175 : decode cX9_read 175 = .ok (.ireturn, 1) := by decide +kernel
theorem dX9_read_176 : decode cX9_read 176 = .ok (.iconst 0, 1) := by decide +kernel
theorem dX9_read_177 : decode cX9_read 177 = .ok (.istore_n 2, 1) := by decide +kernel
theorem dX9_read_178 : decode cX9_read 178 = .ok (.iload_n 2, 1) := by decide +kernel
theorem dX9_read_179 : decode cX9_read 179 = .ok (.iload_n 1, 1) := by decide +kernel
theorem dX9_read_180 : decode cX9_read 180 = .ok (.if_icmp .ge 21, 3) := by decide +kernel
theorem dX9_read_183 : decode cX9_read 183 = .ok (.aload_n 0, 1) := by decide +kernel
theorem dX9_read_184 : decode cX9_read 184 = .ok (.getfield 7, 3) := by decide +kernel
theorem dX9_read_187 : decode cX9_read 187 = .ok (.iload_n 2, 1) := by decide +kernel
theorem dX9_read_188 : decode cX9_read 188 = .ok (.aload_n 0, 1) := by decide +kernel
theorem dX9_read_189 : decode cX9_read 189 = .ok (.getfield 20, 3) := by decide +kernel
theorem dX9_read_192 : decode cX9_read 192 = .ok (.iload_n 2, 1) := by decide +kernel
theorem dX9_read_193 : decode cX9_read 193 = .ok (.iaload, 1) := by decide +kernel
theorem dX9_read_194 : decode cX9_read 194 = .ok (.iastore, 1) := by decide +kernel
theorem dX9_read_195 : decode cX9_read 195 = .ok (.iinc 2 1, 3) := by decide +kernel
theorem dX9_read_198 : decode cX9_read 198 = .ok (.goto (-20), 3) := by decide +kernel
theorem dX9_read_201 : decode cX9_read 201 = .ok (.aload_n 0, 1) := by decide +kernel
theorem dX9_read_202 : decode cX9_read 202 = .ok (.getfield 7, 3) := by decide +kernel
theorem dX9_read_205 : decode cX9_read 205 = .ok (.sipush 1064, 3) := by decide +kernel
theorem dX9_read_208 : decode cX9_read 208 = .ok (.iload_n 1, 1) := by decide +kernel
theorem dX9_read_209 : decode cX9_read 209 = .ok (.iastore, 1) := by decide +kernel
theorem dX9_read_210 : decode cX9_read 210 = .ok (.iload_n 1, 1) := by decide +kernel
theorem dX9_read_211 : decode cX9_read 211 = .ok (.ireturn, 1) := by decide +kernel
set_option maxRecDepth 20000 in
theorem ggX9_fault_X9_in : GoodIn wsX9_fault wsX9_in := goodIn_r _ [5] (by decide +kernel) (by decide +kernel)
set_option maxRecDepth 20000 in
theorem gX9_fault_X9_in : GoodIn wsX9_fault (va_wsS RX9 36 yX9_in wsX9_in) := goodIn_app (goodIn_of _ (by decide +kernel)) ggX9_fault_X9_in
theorem dX9_fault_0 : decode cX9_fault 0 = .ok (.iload_n 1, 1) := by decide +kernel
theorem dX9_fault_1 : decode cX9_fault 1 = .ok (.iconst 0, 1) := by decide +kernel
theorem dX9_fault_2 : decode cX9_fault 2 = .ok (.iconst 2, 1) := by decide +kernel
theorem dX9_fault_3 : decode cX9_fault 3 = .ok (.invokestatic 36, 3) := by decide +kernel
theorem dX9_fault_6 : decode cX9_fault 6 = .ok (.ifCond .eq 16, 3) := by decide +kernel
theorem dX9_fault_9 : decode cX9_fault 9 = .ok (.aload_n 0, 1) := by decide +kernel
theorem dX9_fault_10 : decode cX9_fault 10 = .ok (.getfield 7, 3) := by decide +kernel
theorem dX9_fault_13 : decode cX9_fault 13 = .ok (.sipush 1069, 3) := by decide +kernel
theorem dX9_fault_16 : decode cX9_fault 16 = .ok (.iload_n 1, 1) := by decide +kernel
theorem dX9_fault_17 : decode cX9_fault 17 = .ok (.iadd, 1) := by decide +kernel
theorem dX9_fault_18 : decode cX9_fault 18 = .ok (.iaload, 1) := by decide +kernel
theorem dX9_fault_19 : decode cX9_fault 19 = .ok (.goto 5, 3) := by decide +kernel
theorem dX9_fault_22 : decode cX9_fault 22 = .ok (.bipush (-2), 2) := by decide +kernel
theorem dX9_fault_24 : decode cX9_fault 24 = .ok (.ireturn, 1) := by decide +kernel
set_option maxRecDepth 20000 in
theorem ggX9_image_X9_in : GoodIn wsX9_image wsX9_in := goodIn_r _ [7] (by decide +kernel) (by decide +kernel)
set_option maxRecDepth 20000 in
theorem gX9_image_X9_in : GoodIn wsX9_image (va_wsS RX9 36 yX9_in wsX9_in) := goodIn_app (goodIn_of _ (by decide +kernel)) ggX9_image_X9_in
theorem dX9_image_0 : decode cX9_image 0 = .ok (.iload_n 1, 1) := by decide +kernel
theorem dX9_image_1 : decode cX9_image 1 = .ok (.iconst 0, 1) := by decide +kernel
theorem dX9_image_2 : decode cX9_image 2 = .ok (.iconst 1, 1) := by decide +kernel
theorem dX9_image_3 : decode cX9_image 3 = .ok (.invokestatic 36, 3) := by decide +kernel
theorem dX9_image_6 : decode cX9_image 6 = .ok (.ifCond .ne 6, 3) := by decide +kernel
theorem dX9_image_9 : decode cX9_image 9 = .ok (.bipush (-2), 2) := by decide +kernel
theorem dX9_image_11 : decode cX9_image 11 = .ok (.ireturn, 1) := by decide +kernel
theorem dX9_image_12 : decode cX9_image 12 = .ok (.iconst 0, 1) := by decide +kernel
theorem dX9_image_13 : decode cX9_image 13 = .ok (.istore_n 2, 1) := by decide +kernel
theorem dX9_image_14 : decode cX9_image 14 = .ok (.iload_n 2, 1) := by decide +kernel
theorem dX9_image_15 : decode cX9_image 15 = .ok (.sipush 1072, 3) := by decide +kernel
theorem dX9_image_18 : decode cX9_image 18 = .ok (.if_icmp .ge 27, 3) := by decide +kernel
theorem dX9_image_21 : decode cX9_image 21 = .ok (.aload_n 0, 1) := by decide +kernel
theorem dX9_image_22 : decode cX9_image 22 = .ok (.getfield 13, 3) := by decide +kernel
theorem dX9_image_25 : decode cX9_image 25 = .ok (.sipush 1072, 3) := by decide +kernel
theorem dX9_image_28 : decode cX9_image 28 = .ok (.iload_n 1, 1) := by decide +kernel
theorem dX9_image_29 : decode cX9_image 29 = .ok (.imul, 1) := by decide +kernel
theorem dX9_image_30 : decode cX9_image 30 = .ok (.iload_n 2, 1) := by decide +kernel
theorem dX9_image_31 : decode cX9_image 31 = .ok (.iadd, 1) := by decide +kernel
theorem dX9_image_32 : decode cX9_image 32 = .ok (.aload_n 0, 1) := by decide +kernel
theorem dX9_image_33 : decode cX9_image 33 = .ok (.getfield 7, 3) := by decide +kernel
theorem dX9_image_36 : decode cX9_image 36 = .ok (.iload_n 2, 1) := by decide +kernel
theorem dX9_image_37 : decode cX9_image 37 = .ok (.iaload, 1) := by decide +kernel
theorem dX9_image_38 : decode cX9_image 38 = .ok (.iastore, 1) := by decide +kernel
theorem dX9_image_39 : decode cX9_image 39 = .ok (.iinc 2 1, 3) := by decide +kernel
theorem dX9_image_42 : decode cX9_image 42 = .ok (.goto (-28), 3) := by decide +kernel
theorem dX9_image_45 : decode cX9_image 45 = .ok (.aload_n 0, 1) := by decide +kernel
theorem dX9_image_46 : decode cX9_image 46 = .ok (.getfield 16, 3) := by decide +kernel
theorem dX9_image_49 : decode cX9_image 49 = .ok (.iload_n 1, 1) := by decide +kernel
theorem dX9_image_50 : decode cX9_image 50 = .ok (.iconst 1, 1) := by decide +kernel
theorem dX9_image_51 : decode cX9_image 51 = .ok (.bastore, 1) := by decide +kernel
theorem dX9_image_52 : decode cX9_image 52 = .ok (.iconst 1, 1) := by decide +kernel
theorem dX9_image_53 : decode cX9_image 53 = .ok (.ireturn, 1) := by decide +kernel
set_option maxRecDepth 20000 in
theorem ggX9_restore_X9_in : GoodIn wsX9_restore wsX9_in := goodIn_r _ [7] (by decide +kernel) (by decide +kernel)
set_option maxRecDepth 20000 in
theorem gX9_restore_X9_in : GoodIn wsX9_restore (va_wsS RX9 36 yX9_in wsX9_in) := goodIn_app (goodIn_of _ (by decide +kernel)) ggX9_restore_X9_in
theorem dX9_restore_0 : decode cX9_restore 0 = .ok (.iload_n 1, 1) := by decide +kernel
theorem dX9_restore_1 : decode cX9_restore 1 = .ok (.iconst 0, 1) := by decide +kernel
theorem dX9_restore_2 : decode cX9_restore 2 = .ok (.iconst 1, 1) := by decide +kernel
theorem dX9_restore_3 : decode cX9_restore 3 = .ok (.invokestatic 36, 3) := by decide +kernel
theorem dX9_restore_6 : decode cX9_restore 6 = .ok (.ifCond .ne 6, 3) := by decide +kernel
theorem dX9_restore_9 : decode cX9_restore 9 = .ok (.bipush (-2), 2) := by decide +kernel
theorem dX9_restore_11 : decode cX9_restore 11 = .ok (.ireturn, 1) := by decide +kernel
theorem dX9_restore_12 : decode cX9_restore 12 = .ok (.aload_n 0, 1) := by decide +kernel
theorem dX9_restore_13 : decode cX9_restore 13 = .ok (.getfield 16, 3) := by decide +kernel
theorem dX9_restore_16 : decode cX9_restore 16 = .ok (.iload_n 1, 1) := by decide +kernel
theorem dX9_restore_17 : decode cX9_restore 17 = .ok (.baload, 1) := by decide +kernel
theorem dX9_restore_18 : decode cX9_restore 18 = .ok (.ifCond .ne 6, 3) := by decide +kernel
theorem dX9_restore_21 : decode cX9_restore 21 = .ok (.bipush (-3), 2) := by decide +kernel
theorem dX9_restore_23 : decode cX9_restore 23 = .ok (.ireturn, 1) := by decide +kernel
theorem dX9_restore_24 : decode cX9_restore 24 = .ok (.iconst 0, 1) := by decide +kernel
theorem dX9_restore_25 : decode cX9_restore 25 = .ok (.istore_n 2, 1) := by decide +kernel
theorem dX9_restore_26 : decode cX9_restore 26 = .ok (.iload_n 2, 1) := by decide +kernel
theorem dX9_restore_27 : decode cX9_restore 27 = .ok (.sipush 1072, 3) := by decide +kernel
theorem dX9_restore_30 : decode cX9_restore 30 = .ok (.if_icmp .ge 27, 3) := by decide +kernel
theorem dX9_restore_33 : decode cX9_restore 33 = .ok (.aload_n 0, 1) := by decide +kernel
theorem dX9_restore_34 : decode cX9_restore 34 = .ok (.getfield 7, 3) := by decide +kernel
theorem dX9_restore_37 : decode cX9_restore 37 = .ok (.iload_n 2, 1) := by decide +kernel
theorem dX9_restore_38 : decode cX9_restore 38 = .ok (.aload_n 0, 1) := by decide +kernel
theorem dX9_restore_39 : decode cX9_restore 39 = .ok (.getfield 13, 3) := by decide +kernel
theorem dX9_restore_42 : decode cX9_restore 42 = .ok (.sipush 1072, 3) := by decide +kernel
theorem dX9_restore_45 : decode cX9_restore 45 = .ok (.iload_n 1, 1) := by decide +kernel
theorem dX9_restore_46 : decode cX9_restore 46 = .ok (.imul, 1) := by decide +kernel
theorem dX9_restore_47 : decode cX9_restore 47 = .ok (.iload_n 2, 1) := by decide +kernel
theorem dX9_restore_48 : decode cX9_restore 48 = .ok (.iadd, 1) := by decide +kernel
theorem dX9_restore_49 : decode cX9_restore 49 = .ok (.iaload, 1) := by decide +kernel
theorem dX9_restore_50 : decode cX9_restore 50 = .ok (.iastore, 1) := by decide +kernel
theorem dX9_restore_51 : decode cX9_restore 51 = .ok (.iinc 2 1, 3) := by decide +kernel
theorem dX9_restore_54 : decode cX9_restore 54 = .ok (.goto (-28), 3) := by decide +kernel
theorem dX9_restore_57 : decode cX9_restore 57 = .ok (.iconst 1, 1) := by decide +kernel
theorem dX9_restore_58 : decode cX9_restore 58 = .ok (.ireturn, 1) := by decide +kernel
set_option maxRecDepth 20000 in
theorem ggX9_plainBlocks_X9_pack : GoodIn wsX9_plainBlocks wsX9_pack := goodIn_r _ [6, 7, 8, 1, 9, 10, 11, 12, 13, 5, 14, 15, 16, 17, 18, 19, 20, 21, 22, 23, 24, 25, 26, 27, 28, 29, 30, 31, 32, 33, 34, 35, 36, 37, 38, 39, 40, 41, 42, 43, 44, 45, 46, 47, 48, 49, 50, 51, 52, 53, 54, 55, 56, 57, 58, 59, 60, 61, 62, 63, 64, 65, 66, 67, 68, 69, 70, 71, 72, 73, 74, 75, 76, 77, 78, 79, 80, 81, 82, 83, 84, 85, 86, 87, 88, 89, 90, 91, 92, 93, 94, 95, 96, 97] (by decide +kernel) (by decide +kernel)
set_option maxRecDepth 20000 in
theorem gX9_plainBlocks_X9_pack : GoodIn wsX9_plainBlocks (wsV RX9 106 RX9 yX9_pack wsX9_pack) := goodIn_app (goodIn_of _ (by decide +kernel)) ggX9_plainBlocks_X9_pack
set_option maxRecDepth 20000 in
theorem ggX9_plainBlocks_X9_blocks : GoodIn wsX9_plainBlocks wsX9_blocks := goodIn_r _ [22, 10, 15, 16, 17, 5, 18, 86, 87, 88, 89, 90, 91, 92, 93, 94, 95, 96, 97] (by decide +kernel) (by decide +kernel)
set_option maxRecDepth 20000 in
theorem gX9_plainBlocks_X9_blocks : GoodIn wsX9_plainBlocks (wsV RX9 82 RX9 yX9_blocks wsX9_blocks) := goodIn_app (goodIn_of _ (by decide +kernel)) ggX9_plainBlocks_X9_blocks
theorem dX9_plainBlocks_0 : decode cX9_plainBlocks 0 = .ok (.aload_n 0, 1) := by decide +kernel
theorem dX9_plainBlocks_1 : decode cX9_plainBlocks 1 = .ok (.invokevirtual 106, 3) := by decide +kernel
theorem dX9_plainBlocks_4 : decode cX9_plainBlocks 4 = .ok (.iconst 0, 1) := by decide +kernel
theorem dX9_plainBlocks_5 : decode cX9_plainBlocks 5 = .ok (.istore_n 1, 1) := by decide +kernel
theorem dX9_plainBlocks_6 : decode cX9_plainBlocks 6 = .ok (.iconst 0, 1) := by decide +kernel
theorem dX9_plainBlocks_7 : decode cX9_plainBlocks 7 = .ok (.istore_n 2, 1) := by decide +kernel
theorem dX9_plainBlocks_8 : decode cX9_plainBlocks 8 = .ok (.iload_n 2, 1) := by decide +kernel
theorem dX9_plainBlocks_9 : decode cX9_plainBlocks 9 = .ok (.aload_n 0, 1) := by decide +kernel
theorem dX9_plainBlocks_10 : decode cX9_plainBlocks 10 = .ok (.invokevirtual 82, 3) := by decide +kernel
theorem dX9_plainBlocks_13 : decode cX9_plainBlocks 13 = .ok (.if_icmp .ge 29, 3) := by decide +kernel
theorem dX9_plainBlocks_16 : decode cX9_plainBlocks 16 = .ok (.iload_n 1, 1) := by decide +kernel
theorem dX9_plainBlocks_17 : decode cX9_plainBlocks 17 = .ok (.aload_n 0, 1) := by decide +kernel
theorem dX9_plainBlocks_18 : decode cX9_plainBlocks 18 = .ok (.getfield 29, 3) := by decide +kernel
theorem dX9_plainBlocks_21 : decode cX9_plainBlocks 21 = .ok (.iload_n 2, 1) := by decide +kernel
theorem dX9_plainBlocks_22 : decode cX9_plainBlocks 22 = .ok (.iaload, 1) := by decide +kernel
theorem dX9_plainBlocks_23 : decode cX9_plainBlocks 23 = .ok (.bipush 16, 2) := by decide +kernel
theorem dX9_plainBlocks_25 : decode cX9_plainBlocks 25 = .ok (.irem, 1) := by decide +kernel
theorem dX9_plainBlocks_26 : decode cX9_plainBlocks 26 = .ok (.ifCond .ne 7, 3) := by decide +kernel
theorem dX9_plainBlocks_29 : decode cX9_plainBlocks 29 = .ok (.iconst 1, 1) := by decide +kernel
theorem dX9_plainBlocks_30 : decode cX9_plainBlocks 30 = .ok (.goto 4, 3) := by decide +kernel
theorem dX9_plainBlocks_33 : decode cX9_plainBlocks 33 = .ok (.iconst 0, 1) := by decide +kernel
theorem dX9_plainBlocks_34 : decode cX9_plainBlocks 34 = .ok (.iadd, 1) := by decide +kernel
theorem dX9_plainBlocks_35 : decode cX9_plainBlocks 35 = .ok (.istore_n 1, 1) := by decide +kernel
theorem dX9_plainBlocks_36 : decode cX9_plainBlocks 36 = .ok (.iinc 2 1, 3) := by decide +kernel
theorem dX9_plainBlocks_39 : decode cX9_plainBlocks 39 = .ok (.goto (-31), 3) := by decide +kernel
theorem dX9_plainBlocks_42 : decode cX9_plainBlocks 42 = .ok (.iload_n 1, 1) := by decide +kernel
theorem dX9_plainBlocks_43 : decode cX9_plainBlocks 43 = .ok (.ireturn, 1) := by decide +kernel
set_option maxRecDepth 20000 in
theorem ggX9_count_X9_many : GoodIn wsX9_count wsX9_many := goodIn_r _ [7, 1, 95, 96, 97, 98, 99, 100, 101, 102, 103, 104, 105, 106] (by decide +kernel) (by decide +kernel)
set_option maxRecDepth 20000 in
theorem gX9_count_X9_many : GoodIn wsX9_count (wsV RX9 32 RX9 yX9_many wsX9_many) := goodIn_app (goodIn_of _ (by decide +kernel)) ggX9_count_X9_many
set_option maxRecDepth 20000 in
theorem ggX9_count_X9_blocks : GoodIn wsX9_count wsX9_blocks := goodIn_r _ [11, 1, 3, 4, 5, 6, 7, 95, 96, 97, 98, 99, 100, 101, 102, 103, 104, 105, 106] (by decide +kernel) (by decide +kernel)
set_option maxRecDepth 20000 in
theorem gX9_count_X9_blocks : GoodIn wsX9_count (wsV RX9 82 RX9 yX9_blocks wsX9_blocks) := goodIn_app (goodIn_of _ (by decide +kernel)) ggX9_count_X9_blocks
set_option maxRecDepth 20000 in
theorem ggX9_count_X9_segmentLong : GoodIn wsX9_count wsX9_segmentLong := goodIn_r _ [15, 1, 95, 96, 97, 98, 99, 100, 101, 102, 103, 104, 105, 106] (by decide +kernel) (by decide +kernel)
set_option maxRecDepth 20000 in
theorem gX9_count_X9_segmentLong : GoodIn wsX9_count (wsV RX9 47 RX9 yX9_segmentLong wsX9_segmentLong) := goodIn_app (goodIn_of _ (by decide +kernel)) ggX9_count_X9_segmentLong
set_option maxRecDepth 20000 in
theorem ggX9_count_X9_packed : GoodIn wsX9_count wsX9_packed := goodIn_r _ [19, 20, 21, 22, 23, 24, 6, 25, 26, 27, 28, 1, 29, 30, 31, 32, 3, 4, 5, 7, 8, 9, 10, 11, 33, 34, 35, 36, 37, 38, 39, 40, 41, 42, 43, 44, 45, 46, 47, 48, 49, 50, 51, 52, 53, 54, 55, 56, 57, 58, 59, 60, 61, 62, 12, 13, 14, 15, 63, 64, 65, 66, 67, 68, 69, 70, 71, 72, 73, 74, 75, 76, 77, 78, 79, 80, 81, 82, 83, 84, 85, 86, 87, 88, 89, 90, 95, 96, 97, 98, 99, 100, 101, 102, 103, 104, 105, 106] (by decide +kernel) (by decide +kernel)
set_option maxRecDepth 20000 in
theorem gX9_count_X9_packed : GoodIn wsX9_count (wsV RX9 140 RX9 yX9_packed wsX9_packed) := goodIn_app (goodIn_of _ (by decide +kernel)) ggX9_count_X9_packed
set_option maxRecDepth 20000 in
theorem ggX9_count_X9_plainBlocks : GoodIn wsX9_count wsX9_plainBlocks := goodIn_r _ [94, 27, 22, 23, 24, 6, 25, 20, 26, 28, 1, 29, 30, 31, 32, 3, 4, 5, 7, 8, 9, 10, 11, 33, 34, 35, 36, 37, 38, 39, 40, 41, 42, 43, 44, 45, 46, 47, 48, 49, 50, 51, 52, 53, 54, 55, 56, 57, 58, 59, 60, 61, 62, 12, 13, 14, 15, 63, 64, 65, 66, 67, 68, 69, 70, 71, 72, 73, 74, 75, 76, 77, 78, 79, 80, 81, 82, 83, 84, 85, 86, 21, 87, 88, 89, 90, 95, 96, 97, 98, 99, 100, 101, 102, 103, 104, 105, 106] (by decide +kernel) (by decide +kernel)
set_option maxRecDepth 20000 in
theorem gX9_count_X9_plainBlocks : GoodIn wsX9_count (wsV RX9 143 RX9 yX9_plainBlocks wsX9_plainBlocks) := goodIn_app (goodIn_of _ (by decide +kernel)) ggX9_count_X9_plainBlocks
theorem dX9_count_0 : decode cX9_count 0 = .ok (.iload_n 1, 1) := by decide +kernel
theorem dX9_count_1 : decode cX9_count 1 = .ok (.tableswitch 145 0 9 #[55, 60, 65, 82, 88, 97, 97, 97, 110, 115], 55) := by decide +kernel
theorem dX9_count_56 : decode cX9_count 56 = .ok (.aload_n 0, 1) := by decide +kernel
theorem dX9_count_57 : decode cX9_count 57 = .ok (.invokevirtual 32, 3) := by decide +kernel
theorem dX9_count_60 : decode cX9_count 60 = .ok (.ireturn, 1) := by decide +kernel
theorem dX9_count_61 : decode cX9_count 61 = .ok (.aload_n 0, 1) := by decide +kernel
theorem dX9_count_62 : decode cX9_count 62 = .ok (.invokevirtual 82, 3) := by decide +kernel
theorem dX9_count_65 : decode cX9_count 65 = .ok (.ireturn, 1) := by decide +kernel
theorem dX9_count_66 : decode cX9_count 66 = .ok (.aload_n 0, 1) := by decide +kernel
theorem dX9_count_67 : decode cX9_count 67 = .ok (.invokevirtual 32, 3) := by decide +kernel
theorem dX9_count_70 : decode cX9_count 70 = .ok (.aload_n 0, 1) := by decide +kernel
theorem dX9_count_71 : decode cX9_count 71 = .ok (.invokevirtual 47, 3) := by decide +kernel
theorem dX9_count_74 : decode cX9_count 74 = .ok (.iadd, 1) := by decide +kernel
theorem dX9_count_75 : decode cX9_count 75 = .ok (.iconst 1, 1) := by decide +kernel
theorem dX9_count_76 : decode cX9_count 76 = .ok (.isub, 1) := by decide +kernel
theorem dX9_count_77 : decode cX9_count 77 = .ok (.aload_n 0, 1) := by decide +kernel
theorem dX9_count_78 : decode cX9_count 78 = .ok (.invokevirtual 47, 3) := by decide +kernel
theorem dX9_count_81 : decode cX9_count 81 = .ok (.idiv, 1) := by decide +kernel
theorem dX9_count_82 : decode cX9_count 82 = .ok (.ireturn, 1) := by decide +kernel
theorem dX9_count_83 : decode cX9_count 83 = .ok (.aload_n 0, 1) := by decide +kernel
theorem dX9_count_84 : decode cX9_count 84 = .ok (.iconst (-1), 1) := by decide +kernel
theorem dX9_count_85 : decode cX9_count 85 = .ok (.invokevirtual 140, 3) := by decide +kernel
theorem dX9_count_88 : decode cX9_count 88 = .ok (.ireturn, 1) := by decide +kernel
theorem dX9_count_89 : decode cX9_count 89 = .ok (.aload_n 0, 1) := by decide +kernel
theorem dX9_count_90 : decode cX9_count 90 = .ok (.getfield 7, 3) := by decide +kernel
theorem dX9_count_93 : decode cX9_count 93 = .ok (.sipush 1065, 3) := by decide +kernel
theorem dX9_count_96 : decode cX9_count 96 = .ok (.iaload, 1) := by decide +kernel
theorem dX9_count_97 : decode cX9_count 97 = .ok (.ireturn, 1) := by decide +kernel
theorem dX9_count_98 : decode cX9_count 98 = .ok (.aload_n 0, 1) := by decide +kernel
theorem dX9_count_99 : decode cX9_count 99 = .ok (.getfield 7, 3) := by decide +kernel
theorem dX9_count_102 : decode cX9_count 102 = .ok (.sipush 1066, 3) := by decide +kernel
theorem dX9_count_105 : decode cX9_count 105 = .ok (.iload_n 1, 1) := by decide +kernel
theorem dX9_count_106 : decode cX9_count 106 = .ok (.iadd, 1) := by decide +kernel
theorem dX9_count_107 : decode cX9_count 107 = .ok (.iconst 5, 1) := by decide +kernel
theorem dX9_count_108 : decode cX9_count 108 = .ok (.isub, 1) := by decide +kernel
theorem dX9_count_109 : decode cX9_count 109 = .ok (.iaload, 1) := by decide +kernel
theorem dX9_count_110 : decode cX9_count 110 = .ok (.ireturn, 1) := by decide +kernel
theorem dX9_count_111 : decode cX9_count 111 = .ok (.aload_n 0, 1) := by decide +kernel
theorem dX9_count_112 : decode cX9_count 112 = .ok (.invokevirtual 143, 3) := by decide +kernel
theorem dX9_count_115 : decode cX9_count 115 = .ok (.ireturn, 1) := by decide +kernel
theorem dX9_count_116 : decode cX9_count 116 = .ok (.aload_n 0, 1) := by decide +kernel
theorem dX9_count_117 : decode cX9_count 117 = .ok (.getfield 16, 3) := by decide +kernel
theorem dX9_count_120 : decode cX9_count 120 = .ok (.iconst 0, 1) := by decide +kernel
theorem dX9_count_121 : decode cX9_count 121 = .ok (.baload, 1) := by decide +kernel
theorem dX9_count_122 : decode cX9_count 122 = .ok (.ifCond .eq 7, 3) := by decide +kernel
theorem dX9_count_125 : decode cX9_count 125 = .ok (.iconst 1, 1) := by decide +kernel
theorem dX9_count_126 : decode cX9_count 126 = .ok (.goto 4, 3) := by decide +kernel
theorem dX9_count_129 : decode cX9_count 129 = .ok (.iconst 0, 1) := by decide +kernel
theorem dX9_count_130 : decode cX9_count 130 = .ok (.aload_n 0, 1) := by decide +kernel
theorem dX9_count_131 : decode cX9_count 131 = .ok (.getfield 16, 3) := by decide +kernel
theorem dX9_count_134 : decode cX9_count 134 = .ok (.iconst 1, 1) := by decide +kernel
theorem dX9_count_135 : decode cX9_count 135 = .ok (.baload, 1) := by decide +kernel
theorem dX9_count_136 : decode cX9_count 136 = .ok (.ifCond .eq 7, 3) := by decide +kernel
theorem dX9_count_139 : decode cX9_count 139 = .ok (.iconst 2, 1) := by decide +kernel
theorem dX9_count_140 : decode cX9_count 140 = .ok (.goto 4, 3) := by decide +kernel
theorem dX9_count_143 : decode cX9_count 143 = .ok (.iconst 0, 1) := by decide +kernel
theorem dX9_count_144 : decode cX9_count 144 = .ok (.iadd, 1) := by decide +kernel
theorem dX9_count_145 : decode cX9_count 145 = .ok (.ireturn, 1) := by decide +kernel
theorem dX9_count_146 : decode cX9_count 146 = .ok (.bipush (-2), 2) := by decide +kernel
theorem dX9_count_148 : decode cX9_count 148 = .ok (.ireturn, 1) := by decide +kernel
theorem dJ9_abs_0f7a4_0 : decode cJ9_abs_0f7a4 0 = .ok (.iload_n 0, 1) := by decide +kernel
theorem dJ9_abs_0f7a4_1 : decode cJ9_abs_0f7a4 1 = .ok (.ifCond .ge 8, 3) := by decide +kernel
theorem dJ9_abs_0f7a4_4 : decode cJ9_abs_0f7a4 4 = .ok (.iload_n 0, 1) := by decide +kernel
theorem dJ9_abs_0f7a4_5 : decode cJ9_abs_0f7a4 5 = .ok (.ineg, 1) := by decide +kernel
theorem dJ9_abs_0f7a4_6 : decode cJ9_abs_0f7a4 6 = .ok (.goto 4, 3) := by decide +kernel
theorem dJ9_abs_0f7a4_9 : decode cJ9_abs_0f7a4 9 = .ok (.iload_n 0, 1) := by decide +kernel
theorem dJ9_abs_0f7a4_10 : decode cJ9_abs_0f7a4 10 = .ok (.ireturn, 1) := by decide +kernel
theorem dJ9_max_7cf53_0 : decode cJ9_max_7cf53 0 = .ok (.iload_n 0, 1) := by decide +kernel
theorem dJ9_max_7cf53_1 : decode cJ9_max_7cf53 1 = .ok (.iload_n 1, 1) := by decide +kernel
theorem dJ9_max_7cf53_2 : decode cJ9_max_7cf53 2 = .ok (.if_icmp .lt 7, 3) := by decide +kernel
theorem dJ9_max_7cf53_5 : decode cJ9_max_7cf53 5 = .ok (.iload_n 0, 1) := by decide +kernel
theorem dJ9_max_7cf53_6 : decode cJ9_max_7cf53 6 = .ok (.goto 4, 3) := by decide +kernel
theorem dJ9_max_7cf53_9 : decode cJ9_max_7cf53 9 = .ok (.iload_n 1, 1) := by decide +kernel
theorem dJ9_max_7cf53_10 : decode cJ9_max_7cf53 10 = .ok (.ireturn, 1) := by decide +kernel
theorem dJ9_min_7cf53_0 : decode cJ9_min_7cf53 0 = .ok (.iload_n 0, 1) := by decide +kernel
theorem dJ9_min_7cf53_1 : decode cJ9_min_7cf53 1 = .ok (.iload_n 1, 1) := by decide +kernel
theorem dJ9_min_7cf53_2 : decode cJ9_min_7cf53 2 = .ok (.if_icmp .gt 7, 3) := by decide +kernel
theorem dJ9_min_7cf53_5 : decode cJ9_min_7cf53 5 = .ok (.iload_n 0, 1) := by decide +kernel
theorem dJ9_min_7cf53_6 : decode cJ9_min_7cf53 6 = .ok (.goto 4, 3) := by decide +kernel
theorem dJ9_min_7cf53_9 : decode cJ9_min_7cf53 9 = .ok (.iload_n 1, 1) := by decide +kernel
theorem dJ9_min_7cf53_10 : decode cJ9_min_7cf53 10 = .ok (.ireturn, 1) := by decide +kernel
end
section
set_option maxRecDepth 20000 in
theorem ggL_law_X8_init : GoodIn wsL_law wsX8_init := goodIn_r _ [8, 9, 10, 11, 12, 13, 14, 15, 16, 17, 18, 19, 20, 21, 22, 23, 24, 25, 26, 27, 28, 29, 30, 31, 32, 33, 34, 35, 36, 37, 38, 39, 40, 41, 42, 43, 44, 45, 46, 47, 48, 49, 50, 51, 52, 53, 54, 55, 56, 57, 58, 59, 60, 61, 62, 63, 64, 65, 66, 67, 68, 69, 70, 71, 72, 73, 74, 75, 76, 77, 78, 79, 80, 81, 82, 83, 84, 85, 86, 87, 656, 657, 658, 659, 639, 640, 641, 642, 643, 660, 661, 662, 663, 664, 665, 666, 667, 668, 669, 670, 671, 672, 673, 674, 675, 676, 677, 678, 679, 680, 681, 682, 683, 684] (by decide +kernel) (by decide +kernel)
set_option maxRecDepth 20000 in
theorem gL_law_X8_init : GoodIn wsL_law (wsX8_init) := ggL_law_X8_init
set_option maxRecDepth 20000 in
theorem ggL_law_X9_init : GoodIn wsL_law wsX9_init := goodIn_r _ [90, 91, 10, 11, 53, 92, 93, 94, 95, 96, 97, 98, 99, 644, 645, 646, 647, 648, 649, 650, 651, 652, 653, 654, 655] (by decide +kernel) (by decide +kernel)
set_option maxRecDepth 20000 in
theorem gL_law_X9_init : GoodIn wsL_law (wsX9_init) := ggL_law_X9_init
set_option maxRecDepth 20000 in
theorem ggL_law_X8_rule : GoodIn wsL_law wsX8_rule := goodIn_r _ [103, 15, 104, 105, 20, 106, 107, 108, 34, 109, 110, 54, 111, 112, 113, 114, 115, 116, 2, 117, 118, 119, 120, 30, 121, 47, 48, 49, 122, 123, 124, 125, 126, 127, 128, 19, 129, 130, 72, 70, 131, 639, 640, 641, 642, 643, 656, 657, 658, 659, 672, 673, 669, 670, 671, 660, 661, 662, 663, 664, 665, 674, 675] (by decide +kernel) (by decide +kernel)
set_option maxRecDepth 20000 in
theorem gL_law_X8_rule : GoodIn wsL_law (wsV RL 13 RX8 yX8_rule wsX8_rule) := goodIn_app (goodIn_of _ (by decide +kernel)) ggL_law_X8_rule
set_option maxRecDepth 20000 in
theorem ggL_law_X9_rule : GoodIn wsL_law wsX9_rule := goodIn_r _ [135, 92, 136, 137, 5, 138, 139, 140, 141, 142, 143, 144, 145, 146, 644, 645, 646, 647, 648, 649, 650, 651, 652, 653, 654, 655] (by decide +kernel) (by decide +kernel)
set_option maxRecDepth 20000 in
theorem gL_law_X9_rule : GoodIn wsL_law (wsV RL 17 RX9 yX9_rule wsX9_rule) := goodIn_app (goodIn_of _ (by decide +kernel)) ggL_law_X9_rule
set_option maxRecDepth 20000 in
theorem ggL_law_X8_add : GoodIn wsL_law wsX8_add := goodIn_r _ [150, 15, 105, 104, 151, 20, 152, 153, 154, 30, 155, 47, 116, 2, 117, 156, 157, 158, 159, 48, 160, 161, 126, 127, 128, 19, 129, 130, 72, 70, 131, 162, 163, 164, 34, 165, 110, 54, 639, 640, 641, 642, 643, 656, 657, 658, 659, 672, 673, 669, 670, 671, 660, 661, 662, 663, 664, 665, 674, 675] (by decide +kernel) (by decide +kernel)
set_option maxRecDepth 20000 in
theorem gL_law_X8_add : GoodIn wsL_law (wsV RL 18 RX8 yX8_add wsX8_add) := goodIn_app (goodIn_of _ (by decide +kernel)) ggL_law_X8_add
set_option maxRecDepth 20000 in
theorem ggL_law_X9_add : GoodIn wsL_law wsX9_add := goodIn_r _ [169, 92, 170, 171, 172, 5, 173, 136, 137, 138, 143, 144, 145, 146, 644, 645, 646, 647, 648, 649, 650, 651, 652, 653, 654, 655] (by decide +kernel) (by decide +kernel)
set_option maxRecDepth 20000 in
theorem gL_law_X9_add : GoodIn wsL_law (wsV RL 22 RX9 yX9_add wsX9_add) := goodIn_app (goodIn_of _ (by decide +kernel)) ggL_law_X9_add
set_option maxRecDepth 20000 in
theorem ggL_law_X8_clear : GoodIn wsL_law wsX8_clear := goodIn_r _ [177, 15, 104, 151, 20, 126, 127, 128, 19, 129, 130, 72, 70, 131, 639, 640, 641, 642, 643, 656, 657, 658, 659, 672, 673, 660, 661, 662, 663, 664, 665, 674, 675] (by decide +kernel) (by decide +kernel)
set_option maxRecDepth 20000 in
theorem gL_law_X8_clear : GoodIn wsL_law (wsV RL 23 RX8 yX8_clear wsX8_clear) := goodIn_app (goodIn_of _ (by decide +kernel)) ggL_law_X8_clear
set_option maxRecDepth 20000 in
theorem ggL_law_X9_clear : GoodIn wsL_law wsX9_clear := goodIn_r _ [181, 92, 143, 144, 145, 5, 146, 644, 645, 646, 647, 648, 649, 650, 651, 652, 653, 654, 655] (by decide +kernel) (by decide +kernel)
set_option maxRecDepth 20000 in
theorem gL_law_X9_clear : GoodIn wsL_law (wsV RL 27 RX9 yX9_clear wsX9_clear) := goodIn_app (goodIn_of _ (by decide +kernel)) ggL_law_X9_clear
set_option maxRecDepth 20000 in
theorem ggL_law_X8_sample : GoodIn wsL_law wsX8_sample := goodIn_r _ [185, 15, 104, 186, 187, 188, 34, 189, 110, 54, 639, 640, 641, 642, 643, 656, 657, 658, 659, 672, 673] (by decide +kernel) (by decide +kernel)
set_option maxRecDepth 20000 in
theorem gL_law_X8_sample : GoodIn wsL_law (wsV RL 28 RX8 yX8_sample wsX8_sample) := goodIn_app (goodIn_of _ (by decide +kernel)) ggL_law_X8_sample
set_option maxRecDepth 20000 in
theorem ggL_law_X9_sample : GoodIn wsL_law wsX9_sample := goodIn_r _ [193, 92, 143, 144, 145, 5, 146, 136, 137, 138, 644, 645, 646, 647, 648, 649, 650, 651, 652, 653, 654, 655] (by decide +kernel) (by decide +kernel)
set_option maxRecDepth 20000 in
theorem gL_law_X9_sample : GoodIn wsL_law (wsV RL 31 RX9 yX9_sample wsX9_sample) := goodIn_app (goodIn_of _ (by decide +kernel)) ggL_law_X9_sample
set_option maxRecDepth 20000 in
theorem ggL_law_X8_ahead : GoodIn wsL_law wsX8_ahead := goodIn_r _ [197, 15, 104, 105, 198, 199, 2, 200, 201, 202, 203, 34, 204, 110, 205, 206, 207, 30, 208, 48, 49, 209, 210, 211, 212, 213, 214, 113, 215, 216, 112, 114, 115, 116, 117, 186, 187, 188, 189, 54, 152, 153, 154, 155, 47, 217, 218, 219, 220, 221, 222, 639, 640, 641, 642, 643, 656, 657, 658, 659, 672, 673, 669, 670, 671] (by decide +kernel) (by decide +kernel)
set_option maxRecDepth 20000 in
theorem gL_law_X8_ahead : GoodIn wsL_law (wsV RL 32 RX8 yX8_ahead wsX8_ahead) := goodIn_app (goodIn_of _ (by decide +kernel)) ggL_law_X8_ahead
set_option maxRecDepth 20000 in
theorem ggL_law_X9_ahead : GoodIn wsL_law wsX9_ahead := goodIn_r _ [226, 96, 136, 137, 5, 138, 143, 144, 145, 146, 92, 227, 228, 229, 230, 231, 232, 233, 234, 235, 236, 237, 238, 239, 240, 241, 242, 170, 171, 172, 173, 243, 244, 245, 246, 247, 248, 249, 250, 644, 645, 646, 647, 648, 649, 650, 651, 652, 653, 654, 655] (by decide +kernel) (by decide +kernel)
set_option maxRecDepth 20000 in
theorem gL_law_X9_ahead : GoodIn wsL_law (wsV RL 36 RX9 yX9_ahead wsX9_ahead) := goodIn_app (goodIn_of _ (by decide +kernel)) ggL_law_X9_ahead
set_option maxRecDepth 20000 in
theorem ggL_law_X8_cost : GoodIn wsL_law wsX8_cost := goodIn_r _ [254, 20, 15, 105, 104, 198, 199, 2, 200, 255, 256, 257, 258, 259, 260, 261, 262, 151, 263, 264, 265, 266, 267, 160, 161, 268, 269, 270, 19, 271, 76, 272, 273, 274, 75, 275, 276, 277, 278, 279, 280, 281, 282, 283, 80, 284, 285, 286, 30, 287, 48, 288, 214, 113, 215, 289, 206, 207, 208, 49, 290, 187, 188, 34, 189, 110, 54, 210, 211, 212, 213, 216, 112, 114, 115, 116, 117, 186, 205, 291, 153, 154, 155, 47, 218, 219, 220, 221, 222, 292, 293, 294, 295, 296, 297, 298, 299, 300, 301, 639, 640, 641, 642, 643, 656, 657, 658, 659, 672, 673, 669, 670, 671, 660, 661, 662, 663, 664, 665, 679, 680, 681, 682, 683, 684] (by decide +kernel) (by decide +kernel)
set_option maxRecDepth 20000 in
theorem gL_law_X8_cost : GoodIn wsL_law (wsV RL 37 RX8 yX8_cost wsX8_cost) := goodIn_app (goodIn_of _ (by decide +kernel)) ggL_law_X8_cost
set_option maxRecDepth 20000 in
theorem ggL_law_X9_cost : GoodIn wsL_law wsX9_cost := goodIn_r _ [305, 136, 137, 5, 138, 306, 307, 308, 309, 310, 311, 312, 313, 92, 143, 144, 145, 146, 235, 236, 237, 238, 96, 314, 315, 316, 317, 318, 319, 320, 321, 322, 323, 324, 325, 326, 327, 328, 329, 330, 331, 332, 227, 228, 229, 230, 231, 232, 233, 234, 239, 240, 241, 242, 170, 171, 172, 173, 243, 244, 245, 246, 247, 248, 249, 250, 333, 334, 335, 336, 644, 645, 646, 647, 648, 649, 650, 651, 652, 653, 654, 655] (by decide +kernel) (by decide +kernel)
set_option maxRecDepth 20000 in
theorem gL_law_X9_cost : GoodIn wsL_law (wsV RL 40 RX9 yX9_cost wsX9_cost) := goodIn_app (goodIn_of _ (by decide +kernel)) ggL_law_X9_cost
set_option maxRecDepth 20000 in
theorem ggL_law_X8_block : GoodIn wsL_law wsX8_block := goodIn_r _ [340, 20, 15, 105, 104, 341, 342, 343, 151, 263, 344, 255, 256, 257, 2, 258, 259, 260, 261, 262, 264, 265, 266, 267, 160, 161, 345, 346, 347, 19, 348, 349, 214, 113, 215, 130, 76, 68, 72, 69, 70, 131, 350, 351, 352, 353, 272, 273, 274, 75, 275, 276, 277, 278, 279, 280, 281, 282, 283, 80, 284, 285, 286, 30, 287, 48, 288, 289, 206, 207, 208, 49, 290, 187, 188, 34, 189, 110, 54, 210, 211, 212, 213, 216, 112, 114, 115, 116, 117, 186, 205, 291, 153, 154, 155, 47, 218, 219, 220, 221, 222, 292, 293, 294, 295, 296, 297, 298, 299, 300, 301, 354, 355, 356, 357, 358, 359, 360, 38, 361, 362, 363, 364, 365, 366, 58, 367, 368, 369, 370, 371, 372, 639, 640, 641, 642, 643, 656, 657, 658, 659, 660, 661, 662, 663, 664, 665, 672, 673, 669, 670, 671, 674, 675, 679, 680, 681, 682, 683, 684] (by decide +kernel) (by decide +kernel)
set_option maxRecDepth 20000 in
theorem gL_law_X8_block : GoodIn wsL_law (wsV RL 41 RX8 yX8_block wsX8_block) := goodIn_app (goodIn_of _ (by decide +kernel)) ggL_law_X8_block
set_option maxRecDepth 20000 in
theorem ggL_law_X9_block : GoodIn wsL_law wsX9_block := goodIn_r _ [376, 99, 98, 92, 136, 137, 5, 138, 306, 307, 308, 309, 310, 311, 312, 313, 143, 144, 145, 146, 377, 378, 379, 380, 381, 96, 235, 236, 237, 238, 382, 383, 384, 385, 314, 315, 316, 317, 318, 319, 320, 321, 322, 323, 324, 325, 326, 327, 328, 329, 330, 331, 332, 227, 228, 229, 230, 231, 232, 233, 234, 239, 240, 241, 242, 170, 171, 172, 173, 243, 244, 245, 246, 247, 248, 249, 250, 333, 334, 335, 336, 386, 387, 388, 389, 97, 390, 391, 392, 393, 644, 645, 646, 647, 648, 649, 650, 651, 652, 653, 654, 655] (by decide +kernel) (by decide +kernel)
set_option maxRecDepth 20000 in
theorem gL_law_X9_block : GoodIn wsL_law (wsV RL 44 RX9 yX9_block wsX9_block) := goodIn_app (goodIn_of _ (by decide +kernel)) ggL_law_X9_block
set_option maxRecDepth 20000 in
theorem ggL_law_X8_packed : GoodIn wsL_law wsX8_packed := goodIn_r _ [397, 20, 398, 399, 400, 401, 402, 2, 403, 15, 105, 104, 259, 260, 261, 262, 151, 263, 264, 265, 266, 267, 160, 161, 345, 346, 347, 19, 348, 349, 214, 113, 215, 130, 76, 68, 72, 69, 70, 131, 350, 351, 352, 353, 272, 273, 274, 75, 275, 276, 277, 278, 279, 280, 281, 282, 283, 80, 284, 285, 286, 30, 287, 48, 288, 289, 206, 207, 208, 49, 290, 187, 188, 34, 189, 110, 54, 210, 211, 212, 213, 216, 112, 114, 115, 116, 117, 186, 205, 291, 153, 154, 155, 47, 218, 219, 220, 221, 222, 292, 293, 294, 295, 296, 297, 298, 299, 300, 301, 354, 355, 356, 357, 358, 359, 360, 38, 361, 362, 363, 364, 365, 366, 58, 367, 368, 369, 370, 371, 404, 405, 406, 407, 639, 640, 641, 642, 643, 660, 661, 662, 663, 664, 665, 674, 675, 656, 657, 658, 659, 672, 673, 669, 670, 671, 679, 680, 681, 682, 683, 684] (by decide +kernel) (by decide +kernel)
set_option maxRecDepth 20000 in
theorem gL_law_X8_packed : GoodIn wsL_law (wsV RL 45 RX8 yX8_packed wsX8_packed) := goodIn_app (goodIn_of _ (by decide +kernel)) ggL_law_X8_packed
set_option maxRecDepth 20000 in
theorem ggL_law_X9_packed : GoodIn wsL_law wsX9_packed := goodIn_r _ [411, 381, 97, 377, 378, 379, 5, 380, 98, 99, 96, 92, 235, 236, 237, 238, 143, 144, 145, 146, 310, 311, 312, 313, 382, 383, 384, 385, 314, 315, 316, 317, 318, 319, 320, 321, 136, 137, 138, 322, 323, 324, 325, 326, 327, 328, 329, 330, 331, 332, 227, 228, 229, 230, 231, 232, 233, 234, 239, 240, 241, 242, 170, 171, 172, 173, 243, 244, 245, 246, 247, 248, 249, 250, 333, 334, 335, 336, 386, 387, 388, 389, 390, 391, 392, 393, 644, 645, 646, 647, 648, 649, 650, 651, 652, 653, 654, 655] (by decide +kernel) (by decide +kernel)
set_option maxRecDepth 20000 in
theorem gL_law_X9_packed : GoodIn wsL_law (wsV RL 48 RX9 yX9_packed wsX9_packed) := goodIn_app (goodIn_of _ (by decide +kernel)) ggL_law_X9_packed
set_option maxRecDepth 20000 in
theorem ggL_law_X8_lost : GoodIn wsL_law wsX8_lost := goodIn_r _ [415, 15, 105, 344, 104, 151, 213, 214, 113, 215, 263, 255, 256, 257, 2, 258, 259, 260, 261, 262, 264, 265, 266, 267, 160, 161, 416, 417, 418, 30, 419, 48, 49, 639, 640, 641, 642, 643, 656, 657, 658, 659, 669, 670, 671, 672, 673] (by decide +kernel) (by decide +kernel)
set_option maxRecDepth 20000 in
theorem gL_law_X8_lost : GoodIn wsL_law (wsV RL 49 RX8 yX8_lost wsX8_lost) := goodIn_app (goodIn_of _ (by decide +kernel)) ggL_law_X8_lost
set_option maxRecDepth 20000 in
theorem ggL_law_X9_lost : GoodIn wsL_law wsX9_lost := goodIn_r _ [423, 92, 306, 307, 308, 5, 309, 310, 311, 312, 313, 143, 144, 145, 146, 136, 137, 138, 231, 232, 233, 234, 330, 331, 332, 322, 323, 324, 325, 644, 645, 646, 647, 648, 649, 650, 651, 652, 653, 654, 655] (by decide +kernel) (by decide +kernel)
set_option maxRecDepth 20000 in
theorem gL_law_X9_lost : GoodIn wsL_law (wsV RL 52 RX9 yX9_lost wsX9_lost) := goodIn_app (goodIn_of _ (by decide +kernel)) ggL_law_X9_lost
set_option maxRecDepth 20000 in
theorem ggL_law_X8_tape : GoodIn wsL_law wsX8_tape := goodIn_r _ [427, 15, 428, 20, 398, 399, 400, 401, 402, 2, 403, 105, 104, 259, 260, 261, 262, 151, 263, 264, 265, 266, 267, 160, 161, 345, 346, 347, 19, 348, 349, 214, 113, 215, 130, 76, 68, 72, 69, 70, 131, 350, 351, 352, 353, 272, 273, 274, 75, 275, 276, 277, 278, 279, 280, 281, 282, 283, 80, 284, 285, 286, 30, 287, 48, 288, 289, 206, 207, 208, 49, 290, 187, 188, 34, 189, 110, 54, 210, 211, 212, 213, 216, 112, 114, 115, 116, 117, 186, 205, 291, 153, 154, 155, 47, 218, 219, 220, 221, 222, 292, 293, 294, 295, 296, 297, 298, 299, 300, 301, 354, 355, 356, 357, 358, 359, 360, 38, 361, 362, 363, 364, 365, 366, 58, 367, 368, 369, 370, 371, 429, 430, 431, 432, 433, 434, 435, 436, 639, 640, 641, 642, 643, 656, 657, 658, 659, 660, 661, 662, 663, 664, 665, 674, 675, 672, 673, 669, 670, 671, 679, 680, 681, 682, 683, 684] (by decide +kernel) (by decide +kernel)
set_option maxRecDepth 20000 in
theorem gL_law_X8_tape : GoodIn wsL_law (wsV RL 53 RX8 yX8_tape wsX8_tape) := goodIn_app (goodIn_of _ (by decide +kernel)) ggL_law_X8_tape
set_option maxRecDepth 20000 in
theorem ggL_law_X9_tape : GoodIn wsL_law wsX9_tape := goodIn_r _ [440, 381, 92, 97, 377, 378, 379, 5, 380, 98, 99, 96, 235, 236, 237, 238, 143, 144, 145, 146, 310, 311, 312, 313, 382, 383, 384, 385, 314, 315, 316, 317, 318, 319, 320, 321, 136, 137, 138, 322, 323, 324, 325, 326, 327, 328, 329, 330, 331, 332, 227, 228, 229, 230, 231, 232, 233, 234, 239, 240, 241, 242, 170, 171, 172, 173, 243, 244, 245, 246, 247, 248, 249, 250, 333, 334, 335, 336, 386, 387, 388, 389, 390, 391, 392, 393, 644, 645, 646, 647, 648, 649, 650, 651, 652, 653, 654, 655] (by decide +kernel) (by decide +kernel)
set_option maxRecDepth 20000 in
theorem gL_law_X9_tape : GoodIn wsL_law (wsV RL 56 RX9 yX9_tape wsX9_tape) := goodIn_app (goodIn_of _ (by decide +kernel)) ggL_law_X9_tape
set_option maxRecDepth 20000 in
theorem ggL_law_X8_push : GoodIn wsL_law wsX8_push := goodIn_r _ [444, 15, 428, 399, 445, 363, 364, 38, 365, 366, 58, 639, 640, 641, 642, 643, 656, 657, 658, 659, 674, 675] (by decide +kernel) (by decide +kernel)
set_option maxRecDepth 20000 in
theorem gL_law_X8_push : GoodIn wsL_law (wsV RL 57 RX8 yX8_push wsX8_push) := goodIn_app (goodIn_of _ (by decide +kernel)) ggL_law_X8_push
set_option maxRecDepth 20000 in
theorem ggL_law_X9_push : GoodIn wsL_law wsX9_push := goodIn_r _ [449, 92, 136, 137, 5, 138, 644, 645, 646, 647, 648, 649, 650, 651, 652, 653, 654, 655] (by decide +kernel) (by decide +kernel)
set_option maxRecDepth 20000 in
theorem gL_law_X9_push : GoodIn wsL_law (wsV RL 60 RX9 yX9_push wsX9_push) := goodIn_app (goodIn_of _ (by decide +kernel)) ggL_law_X9_push
set_option maxRecDepth 20000 in
theorem ggL_law_X8_flip : GoodIn wsL_law wsX8_flip := goodIn_r _ [453, 15, 428, 454, 455, 456, 38, 457, 366, 458, 459, 460, 461, 58, 462, 639, 640, 641, 642, 643, 656, 657, 658, 659, 674, 675] (by decide +kernel) (by decide +kernel)
set_option maxRecDepth 20000 in
theorem gL_law_X8_flip : GoodIn wsL_law (wsV RL 61 RX8 yX8_flip wsX8_flip) := goodIn_app (goodIn_of _ (by decide +kernel)) ggL_law_X8_flip
set_option maxRecDepth 20000 in
theorem ggL_law_X9_flip : GoodIn wsL_law wsX9_flip := goodIn_r _ [466, 92, 136, 137, 5, 138, 644, 645, 646, 647, 648, 649, 650, 651, 652, 653, 654, 655] (by decide +kernel) (by decide +kernel)
set_option maxRecDepth 20000 in
theorem gL_law_X9_flip : GoodIn wsL_law (wsV RL 64 RX9 yX9_flip wsX9_flip) := goodIn_app (goodIn_of _ (by decide +kernel)) ggL_law_X9_flip
set_option maxRecDepth 20000 in
theorem ggL_law_X8_cut : GoodIn wsL_law wsX8_cut := goodIn_r _ [470, 15, 428, 399, 639, 640, 641, 642, 643, 656, 657, 658, 659, 674, 675] (by decide +kernel) (by decide +kernel)
set_option maxRecDepth 20000 in
theorem gL_law_X8_cut : GoodIn wsL_law (wsV RL 65 RX8 yX8_cut wsX8_cut) := goodIn_app (goodIn_of _ (by decide +kernel)) ggL_law_X8_cut
set_option maxRecDepth 20000 in
theorem ggL_law_X9_cut : GoodIn wsL_law wsX9_cut := goodIn_r _ [474, 92, 136, 137, 5, 138, 644, 645, 646, 647, 648, 649, 650, 651, 652, 653, 654, 655] (by decide +kernel) (by decide +kernel)
set_option maxRecDepth 20000 in
theorem gL_law_X9_cut : GoodIn wsL_law (wsV RL 68 RX9 yX9_cut wsX9_cut) := goodIn_app (goodIn_of _ (by decide +kernel)) ggL_law_X9_cut
set_option maxRecDepth 20000 in
theorem ggL_law_X8_bit : GoodIn wsL_law wsX8_bit := goodIn_r _ [478, 15, 428, 399, 404, 405, 406, 38, 407, 366, 58, 639, 640, 641, 642, 643, 656, 657, 658, 659, 674, 675] (by decide +kernel) (by decide +kernel)
set_option maxRecDepth 20000 in
theorem gL_law_X8_bit : GoodIn wsL_law (wsV RL 69 RX8 yX8_bit wsX8_bit) := goodIn_app (goodIn_of _ (by decide +kernel)) ggL_law_X8_bit
set_option maxRecDepth 20000 in
theorem ggL_law_X9_bit : GoodIn wsL_law wsX9_bit := goodIn_r _ [482, 92, 644, 645, 646, 647, 648, 649, 650, 651, 652, 653, 654, 655] (by decide +kernel) (by decide +kernel)
set_option maxRecDepth 20000 in
theorem gL_law_X9_bit : GoodIn wsL_law (wsV RL 72 RX9 yX9_bit wsX9_bit) := goodIn_app (goodIn_of _ (by decide +kernel)) ggL_law_X9_bit
set_option maxRecDepth 20000 in
theorem ggL_law_X8_read : GoodIn wsL_law wsX8_read := goodIn_r _ [486, 24, 15, 105, 428, 487, 488, 104, 489, 20, 490, 491, 492, 23, 493, 85, 494, 495, 87, 496, 497, 498, 499, 500, 42, 501, 62, 63, 64, 265, 2, 266, 267, 160, 161, 502, 503, 504, 505, 506, 285, 286, 30, 287, 48, 288, 214, 113, 215, 507, 508, 509, 510, 511, 512, 513, 514, 515, 516, 517, 518, 519, 520, 521, 522, 523, 405, 406, 38, 407, 366, 58, 116, 117, 296, 297, 524, 206, 207, 208, 49, 525, 526, 527, 528, 529, 530, 531, 532, 533, 455, 456, 457, 210, 211, 212, 213, 216, 112, 114, 115, 186, 187, 188, 34, 189, 110, 54, 205, 534, 153, 154, 155, 47, 535, 536, 537, 163, 164, 165, 538, 539, 540, 541, 542, 543, 544, 545, 546, 547, 434, 435, 436, 126, 127, 128, 19, 129, 130, 72, 70, 131, 639, 640, 641, 642, 643, 656, 657, 658, 659, 666, 667, 668, 672, 673, 669, 670, 671, 674, 675, 676, 677, 678, 660, 661, 662, 663, 664, 665] (by decide +kernel) (by decide +kernel)
set_option maxRecDepth 20000 in
theorem gL_law_X8_read : GoodIn wsL_law (wsV RL 73 RX8 yX8_read wsX8_read) := goodIn_app (goodIn_of _ (by decide +kernel)) ggL_law_X8_read
set_option maxRecDepth 20000 in
theorem ggL_law_X9_read : GoodIn wsL_law wsX9_read := goodIn_r _ [551, 552, 553, 554, 92, 555, 96, 136, 137, 5, 138, 330, 331, 332, 556, 557, 558, 559, 560, 561, 562, 563, 564, 565, 566, 567, 318, 319, 320, 321, 568, 569, 570, 571, 227, 228, 229, 230, 231, 232, 233, 234, 572, 573, 574, 575, 170, 171, 172, 173, 239, 240, 241, 242, 576, 577, 578, 579, 247, 248, 249, 250, 644, 645, 646, 647, 648, 649, 650, 651, 652, 653, 654, 655] (by decide +kernel) (by decide +kernel)
set_option maxRecDepth 20000 in
theorem gL_law_X9_read : GoodIn wsL_law (wsV RL 76 RX9 yX9_read wsX9_read) := goodIn_app (goodIn_of _ (by decide +kernel)) ggL_law_X9_read
set_option maxRecDepth 20000 in
theorem ggL_law_X8_fault : GoodIn wsL_law wsX8_fault := goodIn_r _ [583, 15, 487, 584, 585, 586, 639, 640, 641, 642, 643, 656, 657, 658, 659, 676, 677, 678] (by decide +kernel) (by decide +kernel)
set_option maxRecDepth 20000 in
theorem gL_law_X8_fault : GoodIn wsL_law (wsV RL 77 RX8 yX8_fault wsX8_fault) := goodIn_app (goodIn_of _ (by decide +kernel)) ggL_law_X8_fault
set_option maxRecDepth 20000 in
theorem ggL_law_X9_fault : GoodIn wsL_law wsX9_fault := goodIn_r _ [590, 92, 136, 137, 5, 138, 644, 645, 646, 647, 648, 649, 650, 651, 652, 653, 654, 655] (by decide +kernel) (by decide +kernel)
set_option maxRecDepth 20000 in
theorem gL_law_X9_fault : GoodIn wsL_law (wsV RL 80 RX9 yX9_fault wsX9_fault) := goodIn_app (goodIn_of _ (by decide +kernel)) ggL_law_X9_fault
set_option maxRecDepth 20000 in
theorem ggL_law_X8_image : GoodIn wsL_law wsX8_image := goodIn_r _ [594, 16, 15, 595, 596, 597, 2, 598, 599, 600, 601, 14, 602, 31, 35, 39, 43, 603, 604, 605, 30, 606, 47, 48, 49, 607, 544, 545, 34, 546, 54, 110, 547, 434, 435, 436, 608, 430, 431, 38, 432, 58, 366, 433, 609, 539, 540, 42, 541, 62, 63, 64, 639, 640, 641, 642, 643, 656, 657, 658, 659, 669, 670, 671, 672, 673, 674, 675, 676, 677, 678] (by decide +kernel) (by decide +kernel)
set_option maxRecDepth 20000 in
theorem gL_law_X8_image : GoodIn wsL_law (wsV RL 81 RX8 yX8_image wsX8_image) := goodIn_app (goodIn_of _ (by decide +kernel)) ggL_law_X8_image
set_option maxRecDepth 20000 in
theorem ggL_law_X9_image : GoodIn wsL_law wsX9_image := goodIn_r _ [613, 93, 92, 95, 136, 137, 5, 138, 644, 645, 646, 647, 648, 649, 650, 651, 652, 653, 654, 655] (by decide +kernel) (by decide +kernel)
set_option maxRecDepth 20000 in
theorem gL_law_X9_image : GoodIn wsL_law (wsV RL 84 RX9 yX9_image wsX9_image) := goodIn_app (goodIn_of _ (by decide +kernel)) ggL_law_X9_image
set_option maxRecDepth 20000 in
theorem ggL_law_X8_restore : GoodIn wsL_law wsX8_restore := goodIn_r _ [617, 595, 15, 16, 20, 596, 597, 2, 598, 599, 600, 601, 14, 602, 31, 35, 39, 43, 603, 604, 605, 30, 606, 47, 48, 49, 607, 544, 545, 34, 546, 54, 110, 547, 434, 435, 436, 608, 430, 431, 38, 432, 58, 366, 433, 609, 539, 540, 42, 541, 62, 63, 64, 126, 127, 128, 19, 129, 130, 72, 70, 131, 639, 640, 641, 642, 643, 656, 657, 658, 659, 669, 670, 671, 672, 673, 674, 675, 676, 677, 678, 660, 661, 662, 663, 664, 665] (by decide +kernel) (by decide +kernel)
set_option maxRecDepth 20000 in
theorem gL_law_X8_restore : GoodIn wsL_law (wsV RL 85 RX8 yX8_restore wsX8_restore) := goodIn_app (goodIn_of _ (by decide +kernel)) ggL_law_X8_restore
set_option maxRecDepth 20000 in
theorem ggL_law_X9_restore : GoodIn wsL_law wsX9_restore := goodIn_r _ [621, 95, 92, 93, 136, 137, 5, 138, 644, 645, 646, 647, 648, 649, 650, 651, 652, 653, 654, 655] (by decide +kernel) (by decide +kernel)
set_option maxRecDepth 20000 in
theorem gL_law_X9_restore : GoodIn wsL_law (wsV RL 88 RX9 yX9_restore wsX9_restore) := goodIn_app (goodIn_of _ (by decide +kernel)) ggL_law_X9_restore
set_option maxRecDepth 20000 in
theorem ggL_law_X8_count : GoodIn wsL_law wsX8_count := goodIn_r _ [625, 15, 104, 151, 105, 20, 398, 399, 428, 595, 259, 260, 261, 2, 262, 263, 264, 265, 266, 267, 160, 161, 416, 417, 418, 30, 419, 48, 49, 400, 401, 402, 403, 345, 346, 347, 19, 348, 349, 214, 113, 215, 130, 76, 68, 72, 69, 70, 131, 350, 351, 352, 353, 272, 273, 274, 75, 275, 276, 277, 278, 279, 280, 281, 282, 283, 80, 284, 285, 286, 287, 288, 289, 206, 207, 208, 290, 187, 188, 34, 189, 110, 54, 210, 211, 212, 213, 216, 112, 114, 115, 116, 117, 186, 205, 291, 153, 154, 155, 47, 218, 219, 220, 221, 222, 292, 293, 294, 295, 296, 297, 298, 299, 300, 301, 354, 355, 356, 357, 358, 359, 360, 38, 361, 362, 363, 364, 365, 366, 58, 367, 368, 369, 370, 371, 118, 119, 120, 121, 626, 627, 628, 629, 639, 640, 641, 642, 643, 656, 657, 658, 659, 672, 673, 660, 661, 662, 663, 664, 665, 674, 675, 669, 670, 671, 679, 680, 681, 682, 683, 684] (by decide +kernel) (by decide +kernel)
set_option maxRecDepth 20000 in
theorem gL_law_X8_count : GoodIn wsL_law (wsV RL 89 RX8 yX8_count wsX8_count) := goodIn_app (goodIn_of _ (by decide +kernel)) ggL_law_X8_count
set_option maxRecDepth 20000 in
theorem ggL_law_X9_count : GoodIn wsL_law wsX9_count := goodIn_r _ [633, 92, 95, 143, 144, 145, 5, 146, 310, 311, 312, 313, 231, 232, 233, 234, 634, 409, 410, 411, 381, 97, 377, 378, 379, 380, 98, 99, 96, 235, 236, 237, 238, 382, 383, 384, 385, 314, 315, 316, 317, 318, 319, 320, 321, 136, 137, 138, 322, 323, 324, 325, 326, 327, 328, 329, 330, 331, 332, 227, 228, 229, 230, 239, 240, 241, 242, 170, 171, 172, 173, 243, 244, 245, 246, 247, 248, 249, 250, 333, 334, 335, 336, 386, 387, 388, 389, 390, 391, 392, 393, 635, 636, 637, 638, 644, 645, 646, 647, 648, 649, 650, 651, 652, 653, 654, 655] (by decide +kernel) (by decide +kernel)
set_option maxRecDepth 20000 in
theorem gL_law_X9_count : GoodIn wsL_law (wsV RL 92 RX9 yX9_count wsX9_count) := goodIn_app (goodIn_of _ (by decide +kernel)) ggL_law_X9_count
theorem dL_law_0 : decode cL_law 0 = .ok (.new 7, 3) := by decide +kernel
theorem dL_law_3 : decode cL_law 3 = .ok (.dup, 1) := by decide +kernel
theorem dL_law_4 : decode cL_law 4 = .ok (.invokespecial 9, 3) := by decide +kernel
theorem dL_law_7 : decode cL_law 7 = .ok (.astore_n 1, 1) := by decide +kernel
theorem dL_law_8 : decode cL_law 8 = .ok (.new 10, 3) := by decide +kernel
theorem dL_law_11 : decode cL_law 11 = .ok (.dup, 1) := by decide +kernel
theorem dL_law_12 : decode cL_law 12 = .ok (.invokespecial 12, 3) := by decide +kernel
theorem dL_law_15 : decode cL_law 15 = .ok (.astore_n 2, 1) := by decide +kernel
theorem dL_law_16 : decode cL_law 16 = .ok (.iconst 0, 1) := by decide +kernel
theorem dL_law_17 : decode cL_law 17 = .ok (.istore_n 3, 1) := by decide +kernel
theorem dL_law_18 : decode cL_law 18 = .ok (.iload_n 3, 1) := by decide +kernel
theorem dL_law_19 : decode cL_law 19 = .ok (.aload_n 0, 1) := by decide +kernel
theorem dL_law_20 : decode cL_law 20 = .ok (.arraylength, 1) := by decide +kernel
theorem dL_law_21 : decode cL_law 21 = .ok (.iconst 4, 1) := by decide +kernel
theorem dL_law_22 : decode cL_law 22 = .ok (.isub, 1) := by decide +kernel
theorem dL_law_23 : decode cL_law 23 = .ok (.if_icmp .gt 584, 3) := by decide +kernel
theorem dL_law_26 : decode cL_law 26 = .ok (.aload_n 0, 1) := by decide +kernel
theorem dL_law_27 : decode cL_law 27 = .ok (.iload_n 3, 1) := by decide +kernel
theorem dL_law_28 : decode cL_law 28 = .ok (.iaload, 1) := by decide +kernel
theorem dL_law_29 : decode cL_law 29 = .ok (.bipush 31, 2) := by decide +kernel
theorem dL_law_31 : decode cL_law 31 = .ok (.iand, 1) := by decide +kernel
theorem dL_law_32 : decode cL_law 32 = .ok (.tableswitch 569 0 18 #[92, 125, 148, 161, 184, 227, 270, 303, 326, 349, 362, 385, 408, 431, 454, 477, 500, 523, 546], 92) := by decide +kernel
theorem dL_law_124 : decode cL_law 124 = .ok (.aload_n 1, 1) := by decide +kernel
theorem dL_law_125 : decode cL_law 125 = .ok (.aload_n 0, 1) := by decide +kernel
theorem dL_law_126 : decode cL_law 126 = .ok (.iload_n 3, 1) := by decide +kernel
theorem dL_law_127 : decode cL_law 127 = .ok (.iconst 1, 1) := by decide +kernel
theorem dL_law_128 : decode cL_law 128 = .ok (.iadd, 1) := by decide +kernel
theorem dL_law_129 : decode cL_law 129 = .ok (.iaload, 1) := by decide +kernel
theorem dL_law_130 : decode cL_law 130 = .ok (.aload_n 0, 1) := by decide +kernel
theorem dL_law_131 : decode cL_law 131 = .ok (.iload_n 3, 1) := by decide +kernel
theorem dL_law_132 : decode cL_law 132 = .ok (.iconst 2, 1) := by decide +kernel
theorem dL_law_133 : decode cL_law 133 = .ok (.iadd, 1) := by decide +kernel
theorem dL_law_134 : decode cL_law 134 = .ok (.iaload, 1) := by decide +kernel
theorem dL_law_135 : decode cL_law 135 = .ok (.invokevirtual 13, 3) := by decide +kernel
theorem dL_law_138 : decode cL_law 138 = .ok (.aload_n 2, 1) := by decide +kernel
theorem dL_law_139 : decode cL_law 139 = .ok (.aload_n 0, 1) := by decide +kernel
theorem dL_law_140 : decode cL_law 140 = .ok (.iload_n 3, 1) := by decide +kernel
theorem dL_law_141 : decode cL_law 141 = .ok (.iconst 1, 1) := by decide +kernel
theorem dL_law_142 : decode cL_law 142 = .ok (.iadd, 1) := by decide +kernel
theorem dL_law_143 : decode cL_law 143 = .ok (.iaload, 1) := by decide +kernel
theorem dL_law_144 : decode cL_law 144 = .ok (.aload_n 0, 1) := by decide +kernel
theorem dL_law_145 : decode cL_law 145 = .ok (.iload_n 3, 1) := by decide +kernel
theorem dL_law_146 : decode cL_law 146 = .ok (.iconst 2, 1) := by decide +kernel
theorem dL_law_147 : decode cL_law 147 = .ok (.iadd, 1) := by decide +kernel
theorem dL_law_148 : decode cL_law 148 = .ok (.iaload, 1) := by decide +kernel
theorem dL_law_149 : decode cL_law 149 = .ok (.invokevirtual 17, 3) := by decide +kernel
theorem dL_law_152 : decode cL_law 152 = .ok (.if_icmp .eq 449, 3) := by decide +kernel
theorem dL_law_155 : decode cL_law 155 = .ok (.iconst 0, 1) := by decide +kernel
theorem dL_law_156 : decode cL_law 156 = .ok (.ireturn, 1) := by decide +kernel
theorem dL_law_157 : decode cL_law 157 = .ok (.aload_n 1, 1) := by decide +kernel
theorem dL_law_158 : decode cL_law 158 = .ok (.aload_n 0, 1) := by decide +kernel
theorem dL_law_159 : decode cL_law 159 = .ok (.iload_n 3, 1) := by decide +kernel
theorem dL_law_160 : decode cL_law 160 = .ok (.iconst 1, 1) := by decide +kernel
theorem dL_law_161 : decode cL_law 161 = .ok (.iadd, 1) := by decide +kernel
theorem dL_law_162 : decode cL_law 162 = .ok (.iaload, 1) := by decide +kernel
theorem dL_law_163 : decode cL_law 163 = .ok (.invokevirtual 18, 3) := by decide +kernel
theorem dL_law_166 : decode cL_law 166 = .ok (.aload_n 2, 1) := by decide +kernel
theorem dL_law_167 : decode cL_law 167 = .ok (.aload_n 0, 1) := by decide +kernel
theorem dL_law_168 : decode cL_law 168 = .ok (.iload_n 3, 1) := by decide +kernel
theorem dL_law_169 : decode cL_law 169 = .ok (.iconst 1, 1) := by decide +kernel
theorem dL_law_170 : decode cL_law 170 = .ok (.iadd, 1) := by decide +kernel
theorem dL_law_171 : decode cL_law 171 = .ok (.iaload, 1) := by decide +kernel
theorem dL_law_172 : decode cL_law 172 = .ok (.invokevirtual 22, 3) := by decide +kernel
theorem dL_law_175 : decode cL_law 175 = .ok (.if_icmp .eq 426, 3) := by decide +kernel
theorem dL_law_178 : decode cL_law 178 = .ok (.iconst 0, 1) := by decide +kernel
theorem dL_law_179 : decode cL_law 179 = .ok (.ireturn, 1) := by decide +kernel
theorem dL_law_180 : decode cL_law 180 = .ok (.aload_n 1, 1) := by decide +kernel
theorem dL_law_181 : decode cL_law 181 = .ok (.invokevirtual 23, 3) := by decide +kernel
theorem dL_law_184 : decode cL_law 184 = .ok (.aload_n 2, 1) := by decide +kernel
theorem dL_law_185 : decode cL_law 185 = .ok (.invokevirtual 27, 3) := by decide +kernel
theorem dL_law_188 : decode cL_law 188 = .ok (.if_icmp .eq 413, 3) := by decide +kernel
theorem dL_law_191 : decode cL_law 191 = .ok (.iconst 0, 1) := by decide +kernel
theorem dL_law_192 : decode cL_law 192 = .ok (.ireturn, 1) := by decide +kernel
theorem dL_law_193 : decode cL_law 193 = .ok (.aload_n 1, 1) := by decide +kernel
theorem dL_law_194 : decode cL_law 194 = .ok (.aload_n 0, 1) := by decide +kernel
theorem dL_law_195 : decode cL_law 195 = .ok (.iload_n 3, 1) := by decide +kernel
theorem dL_law_196 : decode cL_law 196 = .ok (.iconst 1, 1) := by decide +kernel
theorem dL_law_197 : decode cL_law 197 = .ok (.iadd, 1) := by decide +kernel
theorem dL_law_198 : decode cL_law 198 = .ok (.iaload, 1) := by decide +kernel
theorem dL_law_199 : decode cL_law 199 = .ok (.invokevirtual 28, 3) := by decide +kernel
theorem dL_law_202 : decode cL_law 202 = .ok (.aload_n 2, 1) := by decide +kernel
theorem dL_law_203 : decode cL_law 203 = .ok (.aload_n 0, 1) := by decide +kernel
theorem dL_law_204 : decode cL_law 204 = .ok (.iload_n 3, 1) := by decide +kernel
theorem dL_law_205 : decode cL_law 205 = .ok (.iconst 1, 1) := by decide +kernel
theorem dL_law_206 : decode cL_law 206 = .ok (.iadd, 1) := by decide +kernel
theorem dL_law_207 : decode cL_law 207 = .ok (.iaload, 1) := by decide +kernel
theorem dL_law_208 : decode cL_law 208 = .ok (.invokevirtual 31, 3) := by decide +kernel
theorem dL_law_211 : decode cL_law 211 = .ok (.if_icmp .eq 390, 3) := by decide +kernel
theorem dL_law_214 : decode cL_law 214 = .ok (.iconst 0, 1) := by decide +kernel
theorem dL_law_215 : decode cL_law 215 = .ok (.ireturn, 1) := by decide +kernel
theorem dL_law_216 : decode cL_law 216 = .ok (.aload_n 1, 1) := by decide +kernel
theorem dL_law_217 : decode cL_law 217 = .ok (.aload_n 0, 1) := by decide +kernel
theorem dL_law_218 : decode cL_law 218 = .ok (.iload_n 3, 1) := by decide +kernel
theorem dL_law_219 : decode cL_law 219 = .ok (.iconst 1, 1) := by decide +kernel
theorem dL_law_220 : decode cL_law 220 = .ok (.iadd, 1) := by decide +kernel
theorem dL_law_221 : decode cL_law 221 = .ok (.iaload, 1) := by decide +kernel
theorem dL_law_222 : decode cL_law 222 = .ok (.aload_n 0, 1) := by decide +kernel
theorem dL_law_223 : decode cL_law 223 = .ok (.iload_n 3, 1) := by decide +kernel
theorem dL_law_224 : decode cL_law 224 = .ok (.iconst 2, 1) := by decide +kernel
theorem dL_law_225 : decode cL_law 225 = .ok (.iadd, 1) := by decide +kernel
theorem dL_law_226 : decode cL_law 226 = .ok (.iaload, 1) := by decide +kernel
theorem dL_law_227 : decode cL_law 227 = .ok (.aload_n 0, 1) := by decide +kernel
theorem dL_law_228 : decode cL_law 228 = .ok (.iload_n 3, 1) := by decide +kernel
theorem dL_law_229 : decode cL_law 229 = .ok (.iconst 3, 1) := by decide +kernel
theorem dL_law_230 : decode cL_law 230 = .ok (.iadd, 1) := by decide +kernel
theorem dL_law_231 : decode cL_law 231 = .ok (.iaload, 1) := by decide +kernel
theorem dL_law_232 : decode cL_law 232 = .ok (.invokevirtual 32, 3) := by decide +kernel
theorem dL_law_235 : decode cL_law 235 = .ok (.aload_n 2, 1) := by decide +kernel
theorem dL_law_236 : decode cL_law 236 = .ok (.aload_n 0, 1) := by decide +kernel
theorem dL_law_237 : decode cL_law 237 = .ok (.iload_n 3, 1) := by decide +kernel
theorem dL_law_238 : decode cL_law 238 = .ok (.iconst 1, 1) := by decide +kernel
theorem dL_law_239 : decode cL_law 239 = .ok (.iadd, 1) := by decide +kernel
theorem dL_law_240 : decode cL_law 240 = .ok (.iaload, 1) := by decide +kernel
theorem dL_law_241 : decode cL_law 241 = .ok (.aload_n 0, 1) := by decide +kernel
theorem dL_law_242 : decode cL_law 242 = .ok (.iload_n 3, 1) := by decide +kernel
theorem dL_law_243 : decode cL_law 243 = .ok (.iconst 2, 1) := by decide +kernel
theorem dL_law_244 : decode cL_law 244 = .ok (.iadd, 1) := by decide +kernel
theorem dL_law_245 : decode cL_law 245 = .ok (.iaload, 1) := by decide +kernel
theorem dL_law_246 : decode cL_law 246 = .ok (.aload_n 0, 1) := by decide +kernel
theorem dL_law_247 : decode cL_law 247 = .ok (.iload_n 3, 1) := by decide +kernel
theorem dL_law_248 : decode cL_law 248 = .ok (.iconst 3, 1) := by decide +kernel
theorem dL_law_249 : decode cL_law 249 = .ok (.iadd, 1) := by decide +kernel
theorem dL_law_250 : decode cL_law 250 = .ok (.iaload, 1) := by decide +kernel
theorem dL_law_251 : decode cL_law 251 = .ok (.invokevirtual 36, 3) := by decide +kernel
theorem dL_law_254 : decode cL_law 254 = .ok (.if_icmp .eq 347, 3) := by decide +kernel
theorem dL_law_257 : decode cL_law 257 = .ok (.iconst 0, 1) := by decide +kernel
theorem dL_law_258 : decode cL_law 258 = .ok (.ireturn, 1) := by decide +kernel
theorem dL_law_259 : decode cL_law 259 = .ok (.aload_n 1, 1) := by decide +kernel
theorem dL_law_260 : decode cL_law 260 = .ok (.aload_n 0, 1) := by decide +kernel
theorem dL_law_261 : decode cL_law 261 = .ok (.iload_n 3, 1) := by decide +kernel
theorem dL_law_262 : decode cL_law 262 = .ok (.iconst 1, 1) := by decide +kernel
theorem dL_law_263 : decode cL_law 263 = .ok (.iadd, 1) := by decide +kernel
theorem dL_law_264 : decode cL_law 264 = .ok (.iaload, 1) := by decide +kernel
theorem dL_law_265 : decode cL_law 265 = .ok (.aload_n 0, 1) := by decide +kernel
theorem dL_law_266 : decode cL_law 266 = .ok (.iload_n 3, 1) := by decide +kernel
theorem dL_law_267 : decode cL_law 267 = .ok (.iconst 2, 1) := by decide +kernel
theorem dL_law_268 : decode cL_law 268 = .ok (.iadd, 1) := by decide +kernel
theorem dL_law_269 : decode cL_law 269 = .ok (.iaload, 1) := by decide +kernel
theorem dL_law_270 : decode cL_law 270 = .ok (.aload_n 0, 1) := by decide +kernel
theorem dL_law_271 : decode cL_law 271 = .ok (.iload_n 3, 1) := by decide +kernel
theorem dL_law_272 : decode cL_law 272 = .ok (.iconst 3, 1) := by decide +kernel
theorem dL_law_273 : decode cL_law 273 = .ok (.iadd, 1) := by decide +kernel
theorem dL_law_274 : decode cL_law 274 = .ok (.iaload, 1) := by decide +kernel
theorem dL_law_275 : decode cL_law 275 = .ok (.invokevirtual 37, 3) := by decide +kernel
theorem dL_law_278 : decode cL_law 278 = .ok (.aload_n 2, 1) := by decide +kernel
theorem dL_law_279 : decode cL_law 279 = .ok (.aload_n 0, 1) := by decide +kernel
theorem dL_law_280 : decode cL_law 280 = .ok (.iload_n 3, 1) := by decide +kernel
theorem dL_law_281 : decode cL_law 281 = .ok (.iconst 1, 1) := by decide +kernel
theorem dL_law_282 : decode cL_law 282 = .ok (.iadd, 1) := by decide +kernel
theorem dL_law_283 : decode cL_law 283 = .ok (.iaload, 1) := by decide +kernel
theorem dL_law_284 : decode cL_law 284 = .ok (.aload_n 0, 1) := by decide +kernel
theorem dL_law_285 : decode cL_law 285 = .ok (.iload_n 3, 1) := by decide +kernel
theorem dL_law_286 : decode cL_law 286 = .ok (.iconst 2, 1) := by decide +kernel
theorem dL_law_287 : decode cL_law 287 = .ok (.iadd, 1) := by decide +kernel
theorem dL_law_288 : decode cL_law 288 = .ok (.iaload, 1) := by decide +kernel
theorem dL_law_289 : decode cL_law 289 = .ok (.aload_n 0, 1) := by decide +kernel
theorem dL_law_290 : decode cL_law 290 = .ok (.iload_n 3, 1) := by decide +kernel
theorem dL_law_291 : decode cL_law 291 = .ok (.iconst 3, 1) := by decide +kernel
theorem dL_law_292 : decode cL_law 292 = .ok (.iadd, 1) := by decide +kernel
theorem dL_law_293 : decode cL_law 293 = .ok (.iaload, 1) := by decide +kernel
theorem dL_law_294 : decode cL_law 294 = .ok (.invokevirtual 40, 3) := by decide +kernel
theorem dL_law_297 : decode cL_law 297 = .ok (.if_icmp .eq 304, 3) := by decide +kernel
theorem dL_law_300 : decode cL_law 300 = .ok (.iconst 0, 1) := by decide +kernel
theorem dL_law_301 : decode cL_law 301 = .ok (.ireturn, 1) := by decide +kernel
theorem dL_law_302 : decode cL_law 302 = .ok (.aload_n 1, 1) := by decide +kernel
theorem dL_law_303 : decode cL_law 303 = .ok (.aload_n 0, 1) := by decide +kernel
theorem dL_law_304 : decode cL_law 304 = .ok (.iload_n 3, 1) := by decide +kernel
theorem dL_law_305 : decode cL_law 305 = .ok (.iconst 1, 1) := by decide +kernel
theorem dL_law_306 : decode cL_law 306 = .ok (.iadd, 1) := by decide +kernel
theorem dL_law_307 : decode cL_law 307 = .ok (.iaload, 1) := by decide +kernel
theorem dL_law_308 : decode cL_law 308 = .ok (.aload_n 0, 1) := by decide +kernel
theorem dL_law_309 : decode cL_law 309 = .ok (.iload_n 3, 1) := by decide +kernel
theorem dL_law_310 : decode cL_law 310 = .ok (.iconst 2, 1) := by decide +kernel
theorem dL_law_311 : decode cL_law 311 = .ok (.iadd, 1) := by decide +kernel
theorem dL_law_312 : decode cL_law 312 = .ok (.iaload, 1) := by decide +kernel
theorem dL_law_313 : decode cL_law 313 = .ok (.invokevirtual 41, 3) := by decide +kernel
theorem dL_law_316 : decode cL_law 316 = .ok (.aload_n 2, 1) := by decide +kernel
theorem dL_law_317 : decode cL_law 317 = .ok (.aload_n 0, 1) := by decide +kernel
theorem dL_law_318 : decode cL_law 318 = .ok (.iload_n 3, 1) := by decide +kernel
theorem dL_law_319 : decode cL_law 319 = .ok (.iconst 1, 1) := by decide +kernel
theorem dL_law_320 : decode cL_law 320 = .ok (.iadd, 1) := by decide +kernel
theorem dL_law_321 : decode cL_law 321 = .ok (.iaload, 1) := by decide +kernel
theorem dL_law_322 : decode cL_law 322 = .ok (.aload_n 0, 1) := by decide +kernel
theorem dL_law_323 : decode cL_law 323 = .ok (.iload_n 3, 1) := by decide +kernel
theorem dL_law_324 : decode cL_law 324 = .ok (.iconst 2, 1) := by decide +kernel
theorem dL_law_325 : decode cL_law 325 = .ok (.iadd, 1) := by decide +kernel
theorem dL_law_326 : decode cL_law 326 = .ok (.iaload, 1) := by decide +kernel
theorem dL_law_327 : decode cL_law 327 = .ok (.invokevirtual 44, 3) := by decide +kernel
theorem dL_law_330 : decode cL_law 330 = .ok (.if_icmp .eq 271, 3) := by decide +kernel
theorem dL_law_333 : decode cL_law 333 = .ok (.iconst 0, 1) := by decide +kernel
theorem dL_law_334 : decode cL_law 334 = .ok (.ireturn, 1) := by decide +kernel
theorem dL_law_335 : decode cL_law 335 = .ok (.aload_n 1, 1) := by decide +kernel
theorem dL_law_336 : decode cL_law 336 = .ok (.aload_n 0, 1) := by decide +kernel
theorem dL_law_337 : decode cL_law 337 = .ok (.iload_n 3, 1) := by decide +kernel
theorem dL_law_338 : decode cL_law 338 = .ok (.iconst 1, 1) := by decide +kernel
theorem dL_law_339 : decode cL_law 339 = .ok (.iadd, 1) := by decide +kernel
theorem dL_law_340 : decode cL_law 340 = .ok (.iaload, 1) := by decide +kernel
theorem dL_law_341 : decode cL_law 341 = .ok (.invokevirtual 45, 3) := by decide +kernel
theorem dL_law_344 : decode cL_law 344 = .ok (.aload_n 2, 1) := by decide +kernel
theorem dL_law_345 : decode cL_law 345 = .ok (.aload_n 0, 1) := by decide +kernel
theorem dL_law_346 : decode cL_law 346 = .ok (.iload_n 3, 1) := by decide +kernel
theorem dL_law_347 : decode cL_law 347 = .ok (.iconst 1, 1) := by decide +kernel
theorem dL_law_348 : decode cL_law 348 = .ok (.iadd, 1) := by decide +kernel
theorem dL_law_349 : decode cL_law 349 = .ok (.iaload, 1) := by decide +kernel
theorem dL_law_350 : decode cL_law 350 = .ok (.invokevirtual 48, 3) := by decide +kernel
theorem dL_law_353 : decode cL_law 353 = .ok (.if_icmp .eq 248, 3) := by decide +kernel
theorem dL_law_356 : decode cL_law 356 = .ok (.iconst 0, 1) := by decide +kernel
theorem dL_law_357 : decode cL_law 357 = .ok (.ireturn, 1) := by decide +kernel
theorem dL_law_358 : decode cL_law 358 = .ok (.aload_n 1, 1) := by decide +kernel
theorem dL_law_359 : decode cL_law 359 = .ok (.aload_n 0, 1) := by decide +kernel
theorem dL_law_360 : decode cL_law 360 = .ok (.iload_n 3, 1) := by decide +kernel
theorem dL_law_361 : decode cL_law 361 = .ok (.iconst 1, 1) := by decide +kernel
theorem dL_law_362 : decode cL_law 362 = .ok (.iadd, 1) := by decide +kernel
theorem dL_law_363 : decode cL_law 363 = .ok (.iaload, 1) := by decide +kernel
theorem dL_law_364 : decode cL_law 364 = .ok (.invokevirtual 49, 3) := by decide +kernel
theorem dL_law_367 : decode cL_law 367 = .ok (.aload_n 2, 1) := by decide +kernel
theorem dL_law_368 : decode cL_law 368 = .ok (.aload_n 0, 1) := by decide +kernel
theorem dL_law_369 : decode cL_law 369 = .ok (.iload_n 3, 1) := by decide +kernel
theorem dL_law_370 : decode cL_law 370 = .ok (.iconst 1, 1) := by decide +kernel
theorem dL_law_371 : decode cL_law 371 = .ok (.iadd, 1) := by decide +kernel
theorem dL_law_372 : decode cL_law 372 = .ok (.iaload, 1) := by decide +kernel
theorem dL_law_373 : decode cL_law 373 = .ok (.invokevirtual 52, 3) := by decide +kernel
theorem dL_law_376 : decode cL_law 376 = .ok (.if_icmp .eq 225, 3) := by decide +kernel
theorem dL_law_379 : decode cL_law 379 = .ok (.iconst 0, 1) := by decide +kernel
theorem dL_law_380 : decode cL_law 380 = .ok (.ireturn, 1) := by decide +kernel
theorem dL_law_381 : decode cL_law 381 = .ok (.aload_n 1, 1) := by decide +kernel
theorem dL_law_382 : decode cL_law 382 = .ok (.invokevirtual 53, 3) := by decide +kernel
theorem dL_law_385 : decode cL_law 385 = .ok (.aload_n 2, 1) := by decide +kernel
theorem dL_law_386 : decode cL_law 386 = .ok (.invokevirtual 56, 3) := by decide +kernel
theorem dL_law_389 : decode cL_law 389 = .ok (.if_icmp .eq 212, 3) := by decide +kernel
theorem dL_law_392 : decode cL_law 392 = .ok (.iconst 0, 1) := by decide +kernel
theorem dL_law_393 : decode cL_law 393 = .ok (.ireturn, 1) := by decide +kernel
theorem dL_law_394 : decode cL_law 394 = .ok (.aload_n 1, 1) := by decide +kernel
theorem dL_law_395 : decode cL_law 395 = .ok (.aload_n 0, 1) := by decide +kernel
theorem dL_law_396 : decode cL_law 396 = .ok (.iload_n 3, 1) := by decide +kernel
theorem dL_law_397 : decode cL_law 397 = .ok (.iconst 1, 1) := by decide +kernel
theorem dL_law_398 : decode cL_law 398 = .ok (.iadd, 1) := by decide +kernel
theorem dL_law_399 : decode cL_law 399 = .ok (.iaload, 1) := by decide +kernel
theorem dL_law_400 : decode cL_law 400 = .ok (.invokevirtual 57, 3) := by decide +kernel
theorem dL_law_403 : decode cL_law 403 = .ok (.aload_n 2, 1) := by decide +kernel
theorem dL_law_404 : decode cL_law 404 = .ok (.aload_n 0, 1) := by decide +kernel
theorem dL_law_405 : decode cL_law 405 = .ok (.iload_n 3, 1) := by decide +kernel
theorem dL_law_406 : decode cL_law 406 = .ok (.iconst 1, 1) := by decide +kernel
theorem dL_law_407 : decode cL_law 407 = .ok (.iadd, 1) := by decide +kernel
theorem dL_law_408 : decode cL_law 408 = .ok (.iaload, 1) := by decide +kernel
theorem dL_law_409 : decode cL_law 409 = .ok (.invokevirtual 60, 3) := by decide +kernel
theorem dL_law_412 : decode cL_law 412 = .ok (.if_icmp .eq 189, 3) := by decide +kernel
theorem dL_law_415 : decode cL_law 415 = .ok (.iconst 0, 1) := by decide +kernel
theorem dL_law_416 : decode cL_law 416 = .ok (.ireturn, 1) := by decide +kernel
theorem dL_law_417 : decode cL_law 417 = .ok (.aload_n 1, 1) := by decide +kernel
theorem dL_law_418 : decode cL_law 418 = .ok (.aload_n 0, 1) := by decide +kernel
theorem dL_law_419 : decode cL_law 419 = .ok (.iload_n 3, 1) := by decide +kernel
theorem dL_law_420 : decode cL_law 420 = .ok (.iconst 1, 1) := by decide +kernel
theorem dL_law_421 : decode cL_law 421 = .ok (.iadd, 1) := by decide +kernel
theorem dL_law_422 : decode cL_law 422 = .ok (.iaload, 1) := by decide +kernel
theorem dL_law_423 : decode cL_law 423 = .ok (.invokevirtual 61, 3) := by decide +kernel
theorem dL_law_426 : decode cL_law 426 = .ok (.aload_n 2, 1) := by decide +kernel
theorem dL_law_427 : decode cL_law 427 = .ok (.aload_n 0, 1) := by decide +kernel
theorem dL_law_428 : decode cL_law 428 = .ok (.iload_n 3, 1) := by decide +kernel
theorem dL_law_429 : decode cL_law 429 = .ok (.iconst 1, 1) := by decide +kernel
theorem dL_law_430 : decode cL_law 430 = .ok (.iadd, 1) := by decide +kernel
theorem dL_law_431 : decode cL_law 431 = .ok (.iaload, 1) := by decide +kernel
theorem dL_law_432 : decode cL_law 432 = .ok (.invokevirtual 64, 3) := by decide +kernel
theorem dL_law_435 : decode cL_law 435 = .ok (.if_icmp .eq 166, 3) := by decide +kernel
theorem dL_law_438 : decode cL_law 438 = .ok (.iconst 0, 1) := by decide +kernel
theorem dL_law_439 : decode cL_law 439 = .ok (.ireturn, 1) := by decide +kernel
theorem dL_law_440 : decode cL_law 440 = .ok (.aload_n 1, 1) := by decide +kernel
theorem dL_law_441 : decode cL_law 441 = .ok (.aload_n 0, 1) := by decide +kernel
theorem dL_law_442 : decode cL_law 442 = .ok (.iload_n 3, 1) := by decide +kernel
theorem dL_law_443 : decode cL_law 443 = .ok (.iconst 1, 1) := by decide +kernel
theorem dL_law_444 : decode cL_law 444 = .ok (.iadd, 1) := by decide +kernel
theorem dL_law_445 : decode cL_law 445 = .ok (.iaload, 1) := by decide +kernel
theorem dL_law_446 : decode cL_law 446 = .ok (.invokevirtual 65, 3) := by decide +kernel
theorem dL_law_449 : decode cL_law 449 = .ok (.aload_n 2, 1) := by decide +kernel
theorem dL_law_450 : decode cL_law 450 = .ok (.aload_n 0, 1) := by decide +kernel
theorem dL_law_451 : decode cL_law 451 = .ok (.iload_n 3, 1) := by decide +kernel
theorem dL_law_452 : decode cL_law 452 = .ok (.iconst 1, 1) := by decide +kernel
theorem dL_law_453 : decode cL_law 453 = .ok (.iadd, 1) := by decide +kernel
theorem dL_law_454 : decode cL_law 454 = .ok (.iaload, 1) := by decide +kernel
theorem dL_law_455 : decode cL_law 455 = .ok (.invokevirtual 68, 3) := by decide +kernel
theorem dL_law_458 : decode cL_law 458 = .ok (.if_icmp .eq 143, 3) := by decide +kernel
theorem dL_law_461 : decode cL_law 461 = .ok (.iconst 0, 1) := by decide +kernel
theorem dL_law_462 : decode cL_law 462 = .ok (.ireturn, 1) := by decide +kernel
theorem dL_law_463 : decode cL_law 463 = .ok (.aload_n 1, 1) := by decide +kernel
theorem dL_law_464 : decode cL_law 464 = .ok (.aload_n 0, 1) := by decide +kernel
theorem dL_law_465 : decode cL_law 465 = .ok (.iload_n 3, 1) := by decide +kernel
theorem dL_law_466 : decode cL_law 466 = .ok (.iconst 1, 1) := by decide +kernel
theorem dL_law_467 : decode cL_law 467 = .ok (.iadd, 1) := by decide +kernel
theorem dL_law_468 : decode cL_law 468 = .ok (.iaload, 1) := by decide +kernel
theorem dL_law_469 : decode cL_law 469 = .ok (.invokevirtual 69, 3) := by decide +kernel
theorem dL_law_472 : decode cL_law 472 = .ok (.aload_n 2, 1) := by decide +kernel
theorem dL_law_473 : decode cL_law 473 = .ok (.aload_n 0, 1) := by decide +kernel
theorem dL_law_474 : decode cL_law 474 = .ok (.iload_n 3, 1) := by decide +kernel
theorem dL_law_475 : decode cL_law 475 = .ok (.iconst 1, 1) := by decide +kernel
theorem dL_law_476 : decode cL_law 476 = .ok (.iadd, 1) := by decide +kernel
theorem dL_law_477 : decode cL_law 477 = .ok (.iaload, 1) := by decide +kernel
theorem dL_law_478 : decode cL_law 478 = .ok (.invokevirtual 72, 3) := by decide +kernel
theorem dL_law_481 : decode cL_law 481 = .ok (.if_icmp .eq 120, 3) := by decide +kernel
theorem dL_law_484 : decode cL_law 484 = .ok (.iconst 0, 1) := by decide +kernel
theorem dL_law_485 : decode cL_law 485 = .ok (.ireturn, 1) := by decide +kernel
theorem dL_law_486 : decode cL_law 486 = .ok (.aload_n 1, 1) := by decide +kernel
theorem dL_law_487 : decode cL_law 487 = .ok (.aload_n 0, 1) := by decide +kernel
theorem dL_law_488 : decode cL_law 488 = .ok (.iload_n 3, 1) := by decide +kernel
theorem dL_law_489 : decode cL_law 489 = .ok (.iconst 1, 1) := by decide +kernel
theorem dL_law_490 : decode cL_law 490 = .ok (.iadd, 1) := by decide +kernel
theorem dL_law_491 : decode cL_law 491 = .ok (.iaload, 1) := by decide +kernel
theorem dL_law_492 : decode cL_law 492 = .ok (.invokevirtual 73, 3) := by decide +kernel
theorem dL_law_495 : decode cL_law 495 = .ok (.aload_n 2, 1) := by decide +kernel
theorem dL_law_496 : decode cL_law 496 = .ok (.aload_n 0, 1) := by decide +kernel
theorem dL_law_497 : decode cL_law 497 = .ok (.iload_n 3, 1) := by decide +kernel
theorem dL_law_498 : decode cL_law 498 = .ok (.iconst 1, 1) := by decide +kernel
theorem dL_law_499 : decode cL_law 499 = .ok (.iadd, 1) := by decide +kernel
theorem dL_law_500 : decode cL_law 500 = .ok (.iaload, 1) := by decide +kernel
theorem dL_law_501 : decode cL_law 501 = .ok (.invokevirtual 76, 3) := by decide +kernel
theorem dL_law_504 : decode cL_law 504 = .ok (.if_icmp .eq 97, 3) := by decide +kernel
theorem dL_law_507 : decode cL_law 507 = .ok (.iconst 0, 1) := by decide +kernel
theorem dL_law_508 : decode cL_law 508 = .ok (.ireturn, 1) := by decide +kernel
theorem dL_law_509 : decode cL_law 509 = .ok (.aload_n 1, 1) := by decide +kernel
theorem dL_law_510 : decode cL_law 510 = .ok (.aload_n 0, 1) := by decide +kernel
theorem dL_law_511 : decode cL_law 511 = .ok (.iload_n 3, 1) := by decide +kernel
theorem dL_law_512 : decode cL_law 512 = .ok (.iconst 1, 1) := by decide +kernel
theorem dL_law_513 : decode cL_law 513 = .ok (.iadd, 1) := by decide +kernel
theorem dL_law_514 : decode cL_law 514 = .ok (.iaload, 1) := by decide +kernel
theorem dL_law_515 : decode cL_law 515 = .ok (.invokevirtual 77, 3) := by decide +kernel
theorem dL_law_518 : decode cL_law 518 = .ok (.aload_n 2, 1) := by decide +kernel
theorem dL_law_519 : decode cL_law 519 = .ok (.aload_n 0, 1) := by decide +kernel
theorem dL_law_520 : decode cL_law 520 = .ok (.iload_n 3, 1) := by decide +kernel
theorem dL_law_521 : decode cL_law 521 = .ok (.iconst 1, 1) := by decide +kernel
theorem dL_law_522 : decode cL_law 522 = .ok (.iadd, 1) := by decide +kernel
theorem dL_law_523 : decode cL_law 523 = .ok (.iaload, 1) := by decide +kernel
theorem dL_law_524 : decode cL_law 524 = .ok (.invokevirtual 80, 3) := by decide +kernel
theorem dL_law_527 : decode cL_law 527 = .ok (.if_icmp .eq 74, 3) := by decide +kernel
theorem dL_law_530 : decode cL_law 530 = .ok (.iconst 0, 1) := by decide +kernel
theorem dL_law_531 : decode cL_law 531 = .ok (.ireturn, 1) := by decide +kernel
theorem dL_law_532 : decode cL_law 532 = .ok (.aload_n 1, 1) := by decide +kernel
theorem dL_law_533 : decode cL_law 533 = .ok (.aload_n 0, 1) := by decide +kernel
theorem dL_law_534 : decode cL_law 534 = .ok (.iload_n 3, 1) := by decide +kernel
theorem dL_law_535 : decode cL_law 535 = .ok (.iconst 1, 1) := by decide +kernel
theorem dL_law_536 : decode cL_law 536 = .ok (.iadd, 1) := by decide +kernel
theorem dL_law_537 : decode cL_law 537 = .ok (.iaload, 1) := by decide +kernel
theorem dL_law_538 : decode cL_law 538 = .ok (.invokevirtual 81, 3) := by decide +kernel
theorem dL_law_541 : decode cL_law 541 = .ok (.aload_n 2, 1) := by decide +kernel
theorem dL_law_542 : decode cL_law 542 = .ok (.aload_n 0, 1) := by decide +kernel
theorem dL_law_543 : decode cL_law 543 = .ok (.iload_n 3, 1) := by decide +kernel
theorem dL_law_544 : decode cL_law 544 = .ok (.iconst 1, 1) := by decide +kernel
theorem dL_law_545 : decode cL_law 545 = .ok (.iadd, 1) := by decide +kernel
theorem dL_law_546 : decode cL_law 546 = .ok (.iaload, 1) := by decide +kernel
theorem dL_law_547 : decode cL_law 547 = .ok (.invokevirtual 84, 3) := by decide +kernel
theorem dL_law_550 : decode cL_law 550 = .ok (.if_icmp .eq 51, 3) := by decide +kernel
theorem dL_law_553 : decode cL_law 553 = .ok (.iconst 0, 1) := by decide +kernel
theorem dL_law_554 : decode cL_law 554 = .ok (.ireturn, 1) := by decide +kernel
theorem dL_law_555 : decode cL_law 555 = .ok (.aload_n 1, 1) := by decide +kernel
theorem dL_law_556 : decode cL_law 556 = .ok (.aload_n 0, 1) := by decide +kernel
theorem dL_law_557 : decode cL_law 557 = .ok (.iload_n 3, 1) := by decide +kernel
theorem dL_law_558 : decode cL_law 558 = .ok (.iconst 1, 1) := by decide +kernel
theorem dL_law_559 : decode cL_law 559 = .ok (.iadd, 1) := by decide +kernel
theorem dL_law_560 : decode cL_law 560 = .ok (.iaload, 1) := by decide +kernel
theorem dL_law_561 : decode cL_law 561 = .ok (.invokevirtual 85, 3) := by decide +kernel
theorem dL_law_564 : decode cL_law 564 = .ok (.aload_n 2, 1) := by decide +kernel
theorem dL_law_565 : decode cL_law 565 = .ok (.aload_n 0, 1) := by decide +kernel
theorem dL_law_566 : decode cL_law 566 = .ok (.iload_n 3, 1) := by decide +kernel
theorem dL_law_567 : decode cL_law 567 = .ok (.iconst 1, 1) := by decide +kernel
theorem dL_law_568 : decode cL_law 568 = .ok (.iadd, 1) := by decide +kernel
theorem dL_law_569 : decode cL_law 569 = .ok (.iaload, 1) := by decide +kernel
theorem dL_law_570 : decode cL_law 570 = .ok (.invokevirtual 88, 3) := by decide +kernel
theorem dL_law_573 : decode cL_law 573 = .ok (.if_icmp .eq 28, 3) := by decide +kernel
theorem dL_law_576 : decode cL_law 576 = .ok (.iconst 0, 1) := by decide +kernel
theorem dL_law_577 : decode cL_law 577 = .ok (.ireturn, 1) := by decide +kernel
theorem dL_law_578 : decode cL_law 578 = .ok (.aload_n 1, 1) := by decide +kernel
theorem dL_law_579 : decode cL_law 579 = .ok (.aload_n 0, 1) := by decide +kernel
theorem dL_law_580 : decode cL_law 580 = .ok (.iload_n 3, 1) := by decide +kernel
theorem dL_law_581 : decode cL_law 581 = .ok (.iconst 1, 1) := by decide +kernel
theorem dL_law_582 : decode cL_law 582 = .ok (.iadd, 1) := by decide +kernel
theorem dL_law_583 : decode cL_law 583 = .ok (.iaload, 1) := by decide +kernel
theorem dL_law_584 : decode cL_law 584 = .ok (.invokevirtual 89, 3) := by decide +kernel
theorem dL_law_587 : decode cL_law 587 = .ok (.aload_n 2, 1) := by decide +kernel
theorem dL_law_588 : decode cL_law 588 = .ok (.aload_n 0, 1) := by decide +kernel
theorem dL_law_589 : decode cL_law 589 = .ok (.iload_n 3, 1) := by decide +kernel
theorem dL_law_590 : decode cL_law 590 = .ok (.iconst 1, 1) := by decide +kernel
theorem dL_law_591 : decode cL_law 591 = .ok (.iadd, 1) := by decide +kernel
theorem dL_law_592 : decode cL_law 592 = .ok (.iaload, 1) := by decide +kernel
theorem dL_law_593 : decode cL_law 593 = .ok (.invokevirtual 92, 3) := by decide +kernel
theorem dL_law_596 : decode cL_law 596 = .ok (.if_icmp .eq 5, 3) := by decide +kernel
theorem dL_law_599 : decode cL_law 599 = .ok (.iconst 0, 1) := by decide +kernel
theorem dL_law_600 : decode cL_law 600 = .ok (.ireturn, 1) := by decide +kernel
theorem dL_law_601 : decode cL_law 601 = .ok (.iinc 3 4, 3) := by decide +kernel
theorem dL_law_604 : decode cL_law 604 = .ok (.goto (-586), 3) := by decide +kernel
theorem dL_law_607 : decode cL_law 607 = .ok (.iconst 1, 1) := by decide +kernel
theorem dL_law_608 : decode cL_law 608 = .ok (.ireturn, 1) := by decide +kernel
end
section
/-! the judgement J: world, locals, stack stand in the goal -/
def nestL : List (String × Nat × MethodName × String) := [(RX8, 9, yX3_init, RX8), (RX3, 9, yX7_init, RX8), (RX3, 18, yX6_init, RX8), (RX3, 25, yX0_init, RX8), (RX3, 32, yX1_init, RX8), (RX8, 22, yX4_init, RX8), (RX4, 23, yX0_init, RX8), (RX4, 30, yX2_init, RX8), (RX8, 29, yX5_init, RX8), (RX5, 11, yX6_init, RX8), (RX5, 20, yX1_init, RX8), (RX7, 19, yX8_topOf, RX8), (RX7, 25, yX8_quotient, RX8), (RX2, 53, yX8_toldAhead, RX8), (RX2, 61, yX8_fold, RX8), (RX2, 65, yX8_isCode, RX8), (RX5, 40, yX8_quotientUp, RX8), (RX5, 65, yX8_topOf, RX8), (RX5, 72, yX8_isCode, RX8), (RX5, 92, yX8_toldAhead, RX8), (RX5, 100, yX8_unfold, RX8)]
def Nz (U : State) : Prop := ∀ q ∈ nestL, va_Nw (.methodLinkNest q.1 q.2.1 q.2.2.1 q.2.2.2) U
theorem Nz.warm {s U : State} (hW : s.WarmedH U.vm) (h : Nz s) : Nz U := fun q hq => va_Nw.warmM hW (h q hq)
theorem Nz.same {s U : State} (hv : s.vm = U.vm) (h : Nz s) : Nz U := fun q hq => va_Nw.same rfl hv (h q hq)
abbrev ty3 (cI cZ cH : ClassId) : List (ClassId × FieldType) := [(cI, .int), (cZ, .boolean), (cH, .object RX3)]
def Cx (own : String) (Ts : List Cond) (cc : ByteArray) (nL : Nat) (ret : Option FieldType) (D : va_G) (cI cZ cH : ClassId) (A : Nat → Prop) (p : Program) (s : State) (m : MethodId) (args : Array Value) (meth : Method) (c : Code) : Prop := (p.tables.exec = Jvm.exec ∧ c.code = cc ∧ meth.sig.returnType = ret ∧ c.maxLocals = nL ∧ s.vm.findClass own = some m.cls) ∧ (∀ w ∈ Ts, w.before args s = true) ∧ va_K D vwCl (ty3 cI cZ cH) s ∧ Nz s ∧ (∀ q, s.heap.size ≤ q → A q) ∧ meth.locks = false
def J (D : va_G) (A : Nat → Prop) (p : Program) (l : Launch) (e : Env) (R : Room) (s : State) (m : MethodId) (args : Array Value) (below : List Frame) (meth : Method) (c : Code) (cells slots : Nat) (Q : State → Prop) (nL : Nat) (ws : va_W) (lv : List (Nat × Value)) (pc : Nat) (st : List Value) : Prop := ∀ (H : Heap) (locs : List Loc) (ls : Array Slot), va_P D vwCl ws H → va_D A ws → va_S A s.heap H locs → lv_has ls nL lv → W p l e R s m args below meth c H locs cells slots Q (F0 m pc ls st)
/-- an int array of numbers from 0 on -/
def aN (f : Nat → Nat) : Nat → Int32 := fun j => nI (f j)
def Pre (D : va_G) (cI cZ cH : ClassId) (av : List Value) (wc : va_W) (sz : Nat) : Array Value → State → Prop := va_Pc av (fun U => U.heap.size = sz ∧ va_P D vwCl wc U.heap ∧ (va_K D vwCl (ty3 cI cZ cH) U ∧ Nz U) ∧ va_D (fun _ => True) wc)
/-- contract, an int: from the cells wc, for some u the answer and u as post has it, the cells w1 u -/
def Mi (l : Launch) (D : va_G) (cI cZ cH : ClassId) (y : MethodName) (wy : List Cond) (fr lo : Nat) (av : List Value) (wc : va_W) {S : Type} (post : Int32 → S → Prop) (w1 : S → va_W) : Prop := ∀ sz : Nat, Met l y wy { frames := fr, cells := 0, slots := 0, locals := lo } (Pre D cI cZ cH av wc sz) (va_Qi post (fun u t => va_P D vwCl (w1 u) t.heap ∧ va_D (va_A wc sz) (w1 u)) (va_A wc sz)) 0 0 (va_A wc sz)
def Mv (l : Launch) (D : va_G) (cI cZ cH : ClassId) (y : MethodName) (wy : List Cond) (fr lo : Nat) (av : List Value) (wc : va_W) {S : Type} (post : S → Prop) (w1 : S → va_W) : Prop := ∀ sz : Nat, Met l y wy { frames := fr, cells := 0, slots := 0, locals := lo } (Pre D cI cZ cH av wc sz) (va_Qv post (fun u t => va_P D vwCl (w1 u) t.heap ∧ va_D (va_A wc sz) (w1 u)) (va_A wc sz)) 0 0 (va_A wc sz)
theorem Pre.blind {D : va_G} {cI cZ cH : ClassId} {av : List Value} {wc : va_W} {sz : Nat} : FrameBlind (Pre D cI cZ cH av wc sz) := fun a U g mk q => by
  obtain ⟨q0, q1, qP, ⟨qK, qN⟩, qD⟩ := q
  exact ⟨q0, q1, qP, ⟨va_K.moved (u := U) (U := U.calling g mk a) (Vm.Alike.refl U.vm) qK, qN.same rfl⟩, qD⟩
section J
variable {p : Program} {l : Launch} {e : Env} {R : Room} {s : State} {m : MethodId} {args : Array Value} {below : List Frame} {meth : Method} {c : Code} {cells slots : Nat} {Q : State → Prop} {cc : ByteArray} {nL : Nat} {own : String} {Ts : List Cond} {ret : Option FieldType} {D : va_G} {cI cZ cH : ClassId} {A : Nat → Prop} {ws : va_W} {lv : List (Nat × Value)} {pc : Nat} {rest : List Value}
theorem Mi.start {y : MethodName} {wy wy' : List Cond} {fr lo : Nat} {av : List Value} {lv0 : List (Nat × Value)} {wc : va_W} {S : Type} {post : Int32 → S → Prop} {w1 : S → va_W} (hy : plainName y.cls = true) (hw : wy = Cond.code y cc nL ret :: wy') (hlen : (lg_sl av).length ≤ nL) (hlv : lv_args 0 av = lv0)
    (body : ∀ (p : Program) (e : Env) (s : State) (m : MethodId) (below : List Frame) (meth : Method) (c : Code) (A : Nat → Prop), Cx y.cls wy cc nL ret D cI cZ cH A p s m av.toArray meth c → J D A p l e { frames := fr, cells := 0, slots := 0, locals := lo } s m av.toArray below meth c 0 0 (MQ below (va_Qi post (fun u t => va_P D vwCl (w1 u) t.heap ∧ va_D A (w1 u)) A) av.toArray s 0 0 A) nL wc lv0 0 []) : Mi l D cI cZ cH y wy fr lo av wc post w1 := by
  intro sz
  refine Met.ofW (cc := cc) (maxL := nL) (ret := ret) hy hw ?_
  intro p e s m args below meth c s₁ B hml hv
  obtain ⟨rfl, hsz, hP, ⟨hK, hN⟩, hD0⟩ := hv
  subst hsz
  have hts := atoms_spec (ws := wy) B.pre
  have hown : s.vm.findClass y.cls = some m.cls := findClass_of_methodNamed B.named
  have hl := lv_entry av (n := nL) hlen
  rw [lg_entry_eq]
  rw [hlv] at hl
  exact body p e s m below meth c (va_A wc s.heap.size) ⟨⟨B.exec, B.bytes, B.returns, hml, hown⟩, hts, hK, hN, fun q h => Or.inr h, B.notSynchronized⟩ s.heap [] _ hP hD0.self va_S.rf hl
theorem Mv.start {y : MethodName} {wy wy' : List Cond} {fr lo : Nat} {av : List Value} {lv0 : List (Nat × Value)} {wc : va_W} {S : Type} {post : S → Prop} {w1 : S → va_W} (hy : plainName y.cls = true) (hw : wy = Cond.code y cc nL ret :: wy') (hlen : (lg_sl av).length ≤ nL) (hlv : lv_args 0 av = lv0)
    (body : ∀ (p : Program) (e : Env) (s : State) (m : MethodId) (below : List Frame) (meth : Method) (c : Code) (A : Nat → Prop), Cx y.cls wy cc nL ret D cI cZ cH A p s m av.toArray meth c → J D A p l e { frames := fr, cells := 0, slots := 0, locals := lo } s m av.toArray below meth c 0 0 (MQ below (va_Qv post (fun u t => va_P D vwCl (w1 u) t.heap ∧ va_D A (w1 u)) A) av.toArray s 0 0 A) nL wc lv0 0 []) : Mv l D cI cZ cH y wy fr lo av wc post w1 := by
  intro sz
  refine Met.ofW (cc := cc) (maxL := nL) (ret := ret) hy hw ?_
  intro p e s m args below meth c s₁ B hml hv
  obtain ⟨rfl, hsz, hP, ⟨hK, hN⟩, hD0⟩ := hv
  subst hsz
  have hts := atoms_spec (ws := wy) B.pre
  have hown : s.vm.findClass y.cls = some m.cls := findClass_of_methodNamed B.named
  have hl := lv_entry av (n := nL) hlen
  rw [lg_entry_eq]
  rw [hlv] at hl
  exact body p e s m below meth c (va_A wc s.heap.size) ⟨⟨B.exec, B.bytes, B.returns, hml, hown⟩, hts, hK, hN, fun q h => Or.inr h, B.notSynchronized⟩ s.heap [] _ hP hD0.self va_S.rf hl
theorem j_iret {S : Type} {post : Int32 → S → Prop} {w1 : S → va_W} {v : Int32} (C : Cx own Ts cc nL (some .int) D cI cZ cH A p s m args meth c) (hd : decode cc pc = .ok (.ireturn, 1)) (u : S) (hp : post v u) (hw : ws = w1 u) : J D A p l e R s m args below meth c 0 0 (MQ below (va_Qi post (fun u t => va_P D vwCl (w1 u) t.heap ∧ va_D A (w1 u)) A) args s 0 0 A) nL ws lv pc [.int v] := by
  intro H locs ls hP hD hS hl
  subst hw
  exact W.iret (v := v) C.1.1 C.1.2.1 C.1.2.2.1 (fun t ht hW => ⟨⟨v, u, rfl, hp, by rw [ht]; exact hP, hD⟩, hS.F ht⟩) hS.2.2 hd C.2.2.2.2.2
theorem j_zret {S : Type} {post : Int32 → S → Prop} {w1 : S → va_W} {v : Int32} (C : Cx own Ts cc nL (some .boolean) D cI cZ cH A p s m args meth c) (hd : decode cc pc = .ok (.ireturn, 1)) (hn : narrow .boolean (.int v) = .int v) (u : S) (hp : post v u) (hw : ws = w1 u) : J D A p l e R s m args below meth c 0 0 (MQ below (va_Qi post (fun u t => va_P D vwCl (w1 u) t.heap ∧ va_D A (w1 u)) A) args s 0 0 A) nL ws lv pc [.int v] := by
  intro H locs ls hP hD hS hl
  subst hw
  exact W.zret (v := v) C.1.1 C.1.2.1 C.1.2.2.1 hn (fun t ht hW => ⟨⟨v, u, rfl, hp, by rw [ht]; exact hP, hD⟩, hS.F ht⟩) hS.2.2 hd C.2.2.2.2.2
theorem j_vret {S : Type} {post : S → Prop} {w1 : S → va_W} (C : Cx own Ts cc nL none D cI cZ cH A p s m args meth c) (hd : decode cc pc = .ok (.return_, 1)) (u : S) (hp : post u) (hw : ws = w1 u) : J D A p l e R s m args below meth c 0 0 (MQ below (va_Qv post (fun u t => va_P D vwCl (w1 u) t.heap ∧ va_D A (w1 u)) A) args s 0 0 A) nL ws lv pc [] := by
  intro H locs ls hP hD hS hl
  subst hw
  exact W.vret C.1.1 C.1.2.1 C.1.2.2.1 (fun t ht hW => ⟨⟨u, rfl, hp, by rw [ht]; exact hP, hD⟩, hS.F ht⟩) hS.2.2 hd C.2.2.2.2.2
theorem j_top {x : Int32} (y : Int32) (h : x = y) (k : J D A p l e R s m args below meth c cells slots Q nL ws lv pc (.int y :: rest)) : J D A p l e R s m args below meth c cells slots Q nL ws lv pc (.int x :: rest) := by
  subst h
  exact k
theorem j_world (ws2 : va_W) (h : ws = ws2) (k : J D A p l e R s m args below meth c cells slots Q nL ws2 lv pc rest) : J D A p l e R s m args below meth c cells slots Q nL ws lv pc rest := by
  subst h
  exact k
theorem j_sub (ws2 : va_W) (is : List Nat) (hn : va_nd is = true) (h : is.map (fun i => ws[i]?) = ws2.map some) (h2 : is.filterMap (fun i => ws[i]?) = ws2) (k : J D A p l e R s m args below meth c cells slots Q nL ws2 lv pc rest) : J D A p l e R s m args below meth c cells slots Q nL ws lv pc rest := fun H locs ls hP hD hS hl => k H locs ls (hP.sub is h2) (hD.sub is hn h) hS hl
theorem j_lsub (lv2 : List (Nat × Value)) (ks : List Nat) (h : lv_pick lv ks = lv2) (k : J D A p l e R s m args below meth c cells slots Q nL ws lv2 pc rest) : J D A p l e R s m args below meth c cells slots Q nL ws lv pc rest := fun H locs ls hP hD hS hl => k H locs ls hP hD hS (lv_sub hl ks h)
theorem j_iconst (C : Cx own Ts cc nL ret D cI cZ cH A p s m args meth c) {n : Int} (hd : decode cc pc = .ok (.iconst n, 1)) (v : Int32) (hv : Int32.ofInt n = v) (n1 : Nat) (h1 : pc + 1 = n1) (k : J D A p l e R s m args below meth c cells slots Q nL ws lv n1 (.int v :: rest)) : J D A p l e R s m args below meth c cells slots Q nL ws lv pc rest := fun H locs ls hP hD hS hl => lv_iconst C.1.1 C.1.2.1 hd hv (by rw [h1]; exact k H locs ls hP hD hS hl)
theorem j_bipush (C : Cx own Ts cc nL ret D cI cZ cH A p s m args meth c) {n : Int} (hd : decode cc pc = .ok (.bipush n, 2)) (v : Int32) (hv : (Int8.ofInt n).toInt32 = v) (n1 : Nat) (h1 : pc + 2 = n1) (k : J D A p l e R s m args below meth c cells slots Q nL ws lv n1 (.int v :: rest)) : J D A p l e R s m args below meth c cells slots Q nL ws lv pc rest := fun H locs ls hP hD hS hl => lv_bipush C.1.1 C.1.2.1 hd hv (by rw [h1]; exact k H locs ls hP hD hS hl)
theorem j_sipush (C : Cx own Ts cc nL ret D cI cZ cH A p s m args meth c) {n : Int} (hd : decode cc pc = .ok (.sipush n, 3)) (v : Int32) (hv : (Int16.ofInt n).toInt32 = v) (n1 : Nat) (h1 : pc + 3 = n1) (k : J D A p l e R s m args below meth c cells slots Q nL ws lv n1 (.int v :: rest)) : J D A p l e R s m args below meth c cells slots Q nL ws lv pc rest := fun H locs ls hP hD hS hl => lv_sipush C.1.1 C.1.2.1 hd hv (by rw [h1]; exact k H locs ls hP hD hS hl)
theorem j_iload_n (C : Cx own Ts cc nL ret D cI cZ cH A p s m args meth c) {k : Fin 4} {x : Int32} (hd : decode cc pc = .ok (.iload_n k, 1)) (q : Nat) (hq : lv[q]? = some ((k : Nat), .int x)) (n1 : Nat) (h1 : pc + 1 = n1) (kk : J D A p l e R s m args below meth c cells slots Q nL ws lv n1 (.int x :: rest)) : J D A p l e R s m args below meth c cells slots Q nL ws lv pc rest := fun H locs ls hP hD hS hl => lv_iload_n C.1.1 C.1.2.1 hd rfl (lv_at hl q hq) (by rw [h1]; exact kk H locs ls hP hD hS hl)
theorem j_iload (C : Cx own Ts cc nL ret D cI cZ cH A p s m args meth c) {i : Nat} {x : Int32} (hd : decode cc pc = .ok (.iload i, 2)) (q : Nat) (hq : lv[q]? = some (i, .int x)) (n1 : Nat) (h1 : pc + 2 = n1) (kk : J D A p l e R s m args below meth c cells slots Q nL ws lv n1 (.int x :: rest)) : J D A p l e R s m args below meth c cells slots Q nL ws lv pc rest := fun H locs ls hP hD hS hl => lv_iload C.1.1 C.1.2.1 hd (lv_at hl q hq) (by rw [h1]; exact kk H locs ls hP hD hS hl)
theorem j_istore_n (C : Cx own Ts cc nL ret D cI cZ cH A p s m args meth c) {k : Fin 4} {x : Int32} (hd : decode cc pc = .ok (.istore_n k, 1)) (lv2 : List (Nat × Value)) (hn : (k : Nat) < nL) (h : ((k : Nat), Value.int x) :: lv.filter (fun q => !(q.1 == (k : Nat)) && !(q.1 + 1 == (k : Nat) && q.2.category == 2)) = lv2) (n1 : Nat) (h1 : pc + 1 = n1) (kk : J D A p l e R s m args below meth c cells slots Q nL ws lv2 n1 rest) : J D A p l e R s m args below meth c cells slots Q nL ws lv pc (.int x :: rest) := fun H locs ls hP hD hS hl => lv_istore_n C.1.1 C.1.2.1 hd rfl hl hn h (fun ls2 hl2 => by rw [h1]; exact kk H locs ls2 hP hD hS hl2)
theorem j_istore (C : Cx own Ts cc nL ret D cI cZ cH A p s m args meth c) {i : Nat} {x : Int32} (hd : decode cc pc = .ok (.istore i, 2)) (lv2 : List (Nat × Value)) (hn : i < nL) (h : (i, Value.int x) :: lv.filter (fun q => !(q.1 == i) && !(q.1 + 1 == i && q.2.category == 2)) = lv2) (n1 : Nat) (h1 : pc + 2 = n1) (kk : J D A p l e R s m args below meth c cells slots Q nL ws lv2 n1 rest) : J D A p l e R s m args below meth c cells slots Q nL ws lv pc (.int x :: rest) := fun H locs ls hP hD hS hl => lv_istore C.1.1 C.1.2.1 hd hl hn h (fun ls2 hl2 => by rw [h1]; exact kk H locs ls2 hP hD hS hl2)
theorem j_aload_n (C : Cx own Ts cc nL ret D cI cZ cH A p s m args meth c) {k : Fin 4} {x : Nat} (hd : decode cc pc = .ok (.aload_n k, 1)) (q : Nat) (hq : lv[q]? = some ((k : Nat), .ref x)) (n1 : Nat) (h1 : pc + 1 = n1) (kk : J D A p l e R s m args below meth c cells slots Q nL ws lv n1 (.ref x :: rest)) : J D A p l e R s m args below meth c cells slots Q nL ws lv pc rest := fun H locs ls hP hD hS hl => lv_aload_n C.1.1 C.1.2.1 hd rfl (lv_at hl q hq) (by rw [h1]; exact kk H locs ls hP hD hS hl)
theorem j_aload (C : Cx own Ts cc nL ret D cI cZ cH A p s m args meth c) {i : Nat} {x : Nat} (hd : decode cc pc = .ok (.aload i, 2)) (q : Nat) (hq : lv[q]? = some (i, .ref x)) (n1 : Nat) (h1 : pc + 2 = n1) (kk : J D A p l e R s m args below meth c cells slots Q nL ws lv n1 (.ref x :: rest)) : J D A p l e R s m args below meth c cells slots Q nL ws lv pc rest := fun H locs ls hP hD hS hl => lv_aload C.1.1 C.1.2.1 hd (lv_at hl q hq) (by rw [h1]; exact kk H locs ls hP hD hS hl)
theorem j_astore_n (C : Cx own Ts cc nL ret D cI cZ cH A p s m args meth c) {k : Fin 4} {x : Nat} (hd : decode cc pc = .ok (.astore_n k, 1)) (lv2 : List (Nat × Value)) (hn : (k : Nat) < nL) (h : ((k : Nat), Value.ref x) :: lv.filter (fun q => !(q.1 == (k : Nat)) && !(q.1 + 1 == (k : Nat) && q.2.category == 2)) = lv2) (n1 : Nat) (h1 : pc + 1 = n1) (kk : J D A p l e R s m args below meth c cells slots Q nL ws lv2 n1 rest) : J D A p l e R s m args below meth c cells slots Q nL ws lv pc (.ref x :: rest) := fun H locs ls hP hD hS hl => lv_astore_n C.1.1 C.1.2.1 hd rfl hl hn h (fun ls2 hl2 => by rw [h1]; exact kk H locs ls2 hP hD hS hl2)
theorem j_astore (C : Cx own Ts cc nL ret D cI cZ cH A p s m args meth c) {i : Nat} {x : Nat} (hd : decode cc pc = .ok (.astore i, 2)) (lv2 : List (Nat × Value)) (hn : i < nL) (h : (i, Value.ref x) :: lv.filter (fun q => !(q.1 == i) && !(q.1 + 1 == i && q.2.category == 2)) = lv2) (n1 : Nat) (h1 : pc + 2 = n1) (kk : J D A p l e R s m args below meth c cells slots Q nL ws lv2 n1 rest) : J D A p l e R s m args below meth c cells slots Q nL ws lv pc (.ref x :: rest) := fun H locs ls hP hD hS hl => lv_astore C.1.1 C.1.2.1 hd hl hn h (fun ls2 hl2 => by rw [h1]; exact kk H locs ls2 hP hD hS hl2)
theorem j_iinc (C : Cx own Ts cc nL ret D cI cZ cH A p s m args meth c) {i : Nat} {n : Int} {x : Int32} (hd : decode cc pc = .ok (.iinc i n, 3)) (q : Nat) (hq : lv[q]? = some (i, .int x)) (v : Int32) (hv : x + Int32.ofInt n = v) (lv2 : List (Nat × Value)) (hn : i < nL) (h : (i, Value.int v) :: lv.filter (fun q => !(q.1 == i) && !(q.1 + 1 == i && q.2.category == 2)) = lv2) (n1 : Nat) (h1 : pc + 3 = n1) (kk : J D A p l e R s m args below meth c cells slots Q nL ws lv2 n1 rest) : J D A p l e R s m args below meth c cells slots Q nL ws lv pc rest := fun H locs ls hP hD hS hl => lv_iinc C.1.1 C.1.2.1 hd hl hq hv hn h (fun ls2 hl2 => by rw [h1]; exact kk H locs ls2 hP hD hS hl2)
theorem j_dup (C : Cx own Ts cc nL ret D cI cZ cH A p s m args meth c) {v : Value} (hd : decode cc pc = .ok (.dup, 1)) (hv : v.category = 1) (n1 : Nat) (h1 : pc + 1 = n1) (kk : J D A p l e R s m args below meth c cells slots Q nL ws lv n1 (v :: v :: rest)) : J D A p l e R s m args below meth c cells slots Q nL ws lv pc (v :: rest) := fun H locs ls hP hD hS hl => lv_dup C.1.1 C.1.2.1 hd hv (by rw [h1]; exact kk H locs ls hP hD hS hl)
theorem j_dup2 (C : Cx own Ts cc nL ret D cI cZ cH A p s m args meth c) {v v2 : Value} (hd : decode cc pc = .ok (.dup2, 1)) (hv : v.category = 1) (hv2 : v2.category = 1) (n1 : Nat) (h1 : pc + 1 = n1) (kk : J D A p l e R s m args below meth c cells slots Q nL ws lv n1 (v :: v2 :: v :: v2 :: rest)) : J D A p l e R s m args below meth c cells slots Q nL ws lv pc (v :: v2 :: rest) := fun H locs ls hP hD hS hl => lv_dup2_11 C.1.1 C.1.2.1 hd hv hv2 (by rw [h1]; exact kk H locs ls hP hD hS hl)
theorem j_pop (C : Cx own Ts cc nL ret D cI cZ cH A p s m args meth c) {v : Value} (hd : decode cc pc = .ok (.pop, 1)) (hv : v.category = 1) (n1 : Nat) (h1 : pc + 1 = n1) (kk : J D A p l e R s m args below meth c cells slots Q nL ws lv n1 rest) : J D A p l e R s m args below meth c cells slots Q nL ws lv pc (v :: rest) := fun H locs ls hP hD hS hl => lv_pop C.1.1 C.1.2.1 hd hv (by rw [h1]; exact kk H locs ls hP hD hS hl)
theorem j_iadd (C : Cx own Ts cc nL ret D cI cZ cH A p s m args meth c) {x y : Int32} (hd : decode cc pc = .ok (.iadd, 1)) (z : Int32) (hz : x + y = z) (n1 : Nat) (h1 : pc + 1 = n1) (kk : J D A p l e R s m args below meth c cells slots Q nL ws lv n1 (.int z :: rest)) : J D A p l e R s m args below meth c cells slots Q nL ws lv pc (.int y :: .int x :: rest) := fun H locs ls hP hD hS hl => lv_iadd C.1.1 C.1.2.1 hd (by rw [h1, hz]; exact kk H locs ls hP hD hS hl)
theorem j_isub (C : Cx own Ts cc nL ret D cI cZ cH A p s m args meth c) {x y : Int32} (hd : decode cc pc = .ok (.isub, 1)) (z : Int32) (hz : x - y = z) (n1 : Nat) (h1 : pc + 1 = n1) (kk : J D A p l e R s m args below meth c cells slots Q nL ws lv n1 (.int z :: rest)) : J D A p l e R s m args below meth c cells slots Q nL ws lv pc (.int y :: .int x :: rest) := fun H locs ls hP hD hS hl => lv_isub C.1.1 C.1.2.1 hd (by rw [h1, hz]; exact kk H locs ls hP hD hS hl)
theorem j_imul (C : Cx own Ts cc nL ret D cI cZ cH A p s m args meth c) {x y : Int32} (hd : decode cc pc = .ok (.imul, 1)) (z : Int32) (hz : x * y = z) (n1 : Nat) (h1 : pc + 1 = n1) (kk : J D A p l e R s m args below meth c cells slots Q nL ws lv n1 (.int z :: rest)) : J D A p l e R s m args below meth c cells slots Q nL ws lv pc (.int y :: .int x :: rest) := fun H locs ls hP hD hS hl => lv_imul C.1.1 C.1.2.1 hd (by rw [h1, hz]; exact kk H locs ls hP hD hS hl)
theorem j_iand (C : Cx own Ts cc nL ret D cI cZ cH A p s m args meth c) {x y : Int32} (hd : decode cc pc = .ok (.iand, 1)) (z : Int32) (hz : x &&& y = z) (n1 : Nat) (h1 : pc + 1 = n1) (kk : J D A p l e R s m args below meth c cells slots Q nL ws lv n1 (.int z :: rest)) : J D A p l e R s m args below meth c cells slots Q nL ws lv pc (.int y :: .int x :: rest) := fun H locs ls hP hD hS hl => lv_iand C.1.1 C.1.2.1 hd (by rw [h1, hz]; exact kk H locs ls hP hD hS hl)
theorem j_ior (C : Cx own Ts cc nL ret D cI cZ cH A p s m args meth c) {x y : Int32} (hd : decode cc pc = .ok (.ior, 1)) (z : Int32) (hz : x ||| y = z) (n1 : Nat) (h1 : pc + 1 = n1) (kk : J D A p l e R s m args below meth c cells slots Q nL ws lv n1 (.int z :: rest)) : J D A p l e R s m args below meth c cells slots Q nL ws lv pc (.int y :: .int x :: rest) := fun H locs ls hP hD hS hl => lv_ior C.1.1 C.1.2.1 hd (by rw [h1, hz]; exact kk H locs ls hP hD hS hl)
theorem j_ishl (C : Cx own Ts cc nL ret D cI cZ cH A p s m args meth c) {x y : Int32} (hd : decode cc pc = .ok (.ishl, 1)) (z : Int32) (hz : x <<< (y &&& 31) = z) (n1 : Nat) (h1 : pc + 1 = n1) (kk : J D A p l e R s m args below meth c cells slots Q nL ws lv n1 (.int z :: rest)) : J D A p l e R s m args below meth c cells slots Q nL ws lv pc (.int y :: .int x :: rest) := fun H locs ls hP hD hS hl => lv_ishl C.1.1 C.1.2.1 hd (by rw [h1, hz]; exact kk H locs ls hP hD hS hl)
theorem j_ishr (C : Cx own Ts cc nL ret D cI cZ cH A p s m args meth c) {x y : Int32} (hd : decode cc pc = .ok (.ishr, 1)) (z : Int32) (hz : x >>> (y &&& 31) = z) (n1 : Nat) (h1 : pc + 1 = n1) (kk : J D A p l e R s m args below meth c cells slots Q nL ws lv n1 (.int z :: rest)) : J D A p l e R s m args below meth c cells slots Q nL ws lv pc (.int y :: .int x :: rest) := fun H locs ls hP hD hS hl => lv_ishr C.1.1 C.1.2.1 hd (by rw [h1, hz]; exact kk H locs ls hP hD hS hl)
theorem j_idiv (C : Cx own Ts cc nL ret D cI cZ cH A p s m args meth c) {x y : Int32} (hd : decode cc pc = .ok (.idiv, 1)) (hne : ¬ y = 0) (z : Int32) (hz : x / y = z) (n1 : Nat) (h1 : pc + 1 = n1) (kk : J D A p l e R s m args below meth c cells slots Q nL ws lv n1 (.int z :: rest)) : J D A p l e R s m args below meth c cells slots Q nL ws lv pc (.int y :: .int x :: rest) := fun H locs ls hP hD hS hl => lv_idiv C.1.1 C.1.2.1 hd hne (by rw [h1, hz]; exact kk H locs ls hP hD hS hl)
theorem j_irem (C : Cx own Ts cc nL ret D cI cZ cH A p s m args meth c) {x y : Int32} (hd : decode cc pc = .ok (.irem, 1)) (hne : ¬ y = 0) (z : Int32) (hz : x - x / y * y = z) (n1 : Nat) (h1 : pc + 1 = n1) (kk : J D A p l e R s m args below meth c cells slots Q nL ws lv n1 (.int z :: rest)) : J D A p l e R s m args below meth c cells slots Q nL ws lv pc (.int y :: .int x :: rest) := fun H locs ls hP hD hS hl => lv_irem C.1.1 C.1.2.1 hd hne (by rw [h1, hz]; exact kk H locs ls hP hD hS hl)
theorem j_ineg (C : Cx own Ts cc nL ret D cI cZ cH A p s m args meth c) {x : Int32} (hd : decode cc pc = .ok (.ineg, 1)) (z : Int32) (hz : -x = z) (n1 : Nat) (h1 : pc + 1 = n1) (kk : J D A p l e R s m args below meth c cells slots Q nL ws lv n1 (.int z :: rest)) : J D A p l e R s m args below meth c cells slots Q nL ws lv pc (.int x :: rest) := fun H locs ls hP hD hS hl => lv_ineg C.1.1 C.1.2.1 hd (by rw [h1, hz]; exact kk H locs ls hP hD hS hl)
theorem nz {n : Nat} (h0 : 0 < n) (h : n < 2 ^ 31) : ¬ nI n = 0 := nI_ne0 h0 h
theorem q_s31 : ∀ n : Fin 32, ((nI n.val &&& 31).toBitVec.smod 32).toNat = n.val := by decide +kernel
theorem q_shl {a n : Nat} (hn : n < 32) (h : a * 2 ^ n < 2 ^ 32) : nI a <<< (nI n &&& 31) = nI (a * 2 ^ n) := pk_shlN (nI n &&& 31) n (q_s31 ⟨n, hn⟩) h
theorem q_shr {a n : Nat} (ha : a < 2 ^ 31) (hn : n < 32) : nI a >>> (nI n &&& 31) = nI (a / 2 ^ n) := pk_shrN ha (nI n &&& 31) n (q_s31 ⟨n, hn⟩)
theorem q_and1 {a : Nat} (ha : a < 2 ^ 32) : nI a &&& nI 1 = nI (a % 2) := pk_andN ha 1 rfl
theorem q_and15 {a : Nat} (ha : a < 2 ^ 32) : nI a &&& nI 15 = nI (a % 16) := pk_andN ha 4 rfl
theorem q_t {n : Nat} (h : n < 2 ^ 31) : (nI n).toInt = (n : Int) := nI_toInt h
theorem j_icmp_eq (C : Cx own Ts cc nL ret D cI cZ cH A p s m args meth c) {x y : Int32} {off : Int} (hd : decode cc pc = .ok (.if_icmp .eq off, 3)) (tgt : Nat) (ht : (pc : Int) + off = (tgt : Int)) {A1 : Int} (hx : x.toInt = A1) {B : Int} (hy : y.toInt = B) (n1 : Nat) (h1 : pc + 3 = n1) (kt : A1 = B → J D A p l e R s m args below meth c cells slots Q nL ws lv tgt rest) (kf : ¬ A1 = B → J D A p l e R s m args below meth c cells slots Q nL ws lv n1 rest) : J D A p l e R s m args below meth c cells slots Q nL ws lv pc (.int y :: .int x :: rest) := fun H locs ls hP hD hS hl => lv_icmp_eq C.1.1 C.1.2.1 hd ht (fun h => kt (by have h9 := h; simp only [Int32.lt_iff_toInt_lt, Int32.le_iff_toInt_le, ← Int32.toInt_inj] at h9; rw [hx] at h9; rw [hy] at h9; omega) H locs ls hP hD hS hl) (fun h => by rw [h1]; exact kf (by have h9 := h; simp only [Int32.lt_iff_toInt_lt, Int32.le_iff_toInt_le, ← Int32.toInt_inj] at h9; rw [hx] at h9; rw [hy] at h9; omega) H locs ls hP hD hS hl)
theorem j_if_eq (C : Cx own Ts cc nL ret D cI cZ cH A p s m args meth c) {x : Int32} {off : Int} (hd : decode cc pc = .ok (.ifCond .eq off, 3)) (tgt : Nat) (ht : (pc : Int) + off = (tgt : Int)) {A1 : Int} (hx : x.toInt = A1) (n1 : Nat) (h1 : pc + 3 = n1) (kt : A1 = 0 → J D A p l e R s m args below meth c cells slots Q nL ws lv tgt rest) (kf : ¬ A1 = 0 → J D A p l e R s m args below meth c cells slots Q nL ws lv n1 rest) : J D A p l e R s m args below meth c cells slots Q nL ws lv pc (.int x :: rest) := fun H locs ls hP hD hS hl => lv_if_eq C.1.1 C.1.2.1 hd ht (fun h => kt (by have h9 := h; simp only [Int32.lt_iff_toInt_lt, Int32.le_iff_toInt_le, ← Int32.toInt_inj] at h9; rw [hx] at h9; simp only [Int32.toInt_zero] at h9; omega) H locs ls hP hD hS hl) (fun h => by rw [h1]; exact kf (by have h9 := h; simp only [Int32.lt_iff_toInt_lt, Int32.le_iff_toInt_le, ← Int32.toInt_inj] at h9; rw [hx] at h9; simp only [Int32.toInt_zero] at h9; omega) H locs ls hP hD hS hl)
theorem j_icmp_ne (C : Cx own Ts cc nL ret D cI cZ cH A p s m args meth c) {x y : Int32} {off : Int} (hd : decode cc pc = .ok (.if_icmp .ne off, 3)) (tgt : Nat) (ht : (pc : Int) + off = (tgt : Int)) {A1 : Int} (hx : x.toInt = A1) {B : Int} (hy : y.toInt = B) (n1 : Nat) (h1 : pc + 3 = n1) (kt : ¬ A1 = B → J D A p l e R s m args below meth c cells slots Q nL ws lv tgt rest) (kf : A1 = B → J D A p l e R s m args below meth c cells slots Q nL ws lv n1 rest) : J D A p l e R s m args below meth c cells slots Q nL ws lv pc (.int y :: .int x :: rest) := fun H locs ls hP hD hS hl => lv_icmp_ne C.1.1 C.1.2.1 hd ht (fun h => kt (by have h9 := h; simp only [Int32.lt_iff_toInt_lt, Int32.le_iff_toInt_le, ← Int32.toInt_inj] at h9; rw [hx] at h9; rw [hy] at h9; omega) H locs ls hP hD hS hl) (fun h => by rw [h1]; exact kf (by have h9 := h; simp only [Int32.lt_iff_toInt_lt, Int32.le_iff_toInt_le, ← Int32.toInt_inj] at h9; rw [hx] at h9; rw [hy] at h9; omega) H locs ls hP hD hS hl)
theorem j_if_ne (C : Cx own Ts cc nL ret D cI cZ cH A p s m args meth c) {x : Int32} {off : Int} (hd : decode cc pc = .ok (.ifCond .ne off, 3)) (tgt : Nat) (ht : (pc : Int) + off = (tgt : Int)) {A1 : Int} (hx : x.toInt = A1) (n1 : Nat) (h1 : pc + 3 = n1) (kt : ¬ A1 = 0 → J D A p l e R s m args below meth c cells slots Q nL ws lv tgt rest) (kf : A1 = 0 → J D A p l e R s m args below meth c cells slots Q nL ws lv n1 rest) : J D A p l e R s m args below meth c cells slots Q nL ws lv pc (.int x :: rest) := fun H locs ls hP hD hS hl => lv_if_ne C.1.1 C.1.2.1 hd ht (fun h => kt (by have h9 := h; simp only [Int32.lt_iff_toInt_lt, Int32.le_iff_toInt_le, ← Int32.toInt_inj] at h9; rw [hx] at h9; simp only [Int32.toInt_zero] at h9; omega) H locs ls hP hD hS hl) (fun h => by rw [h1]; exact kf (by have h9 := h; simp only [Int32.lt_iff_toInt_lt, Int32.le_iff_toInt_le, ← Int32.toInt_inj] at h9; rw [hx] at h9; simp only [Int32.toInt_zero] at h9; omega) H locs ls hP hD hS hl)
theorem j_icmp_lt (C : Cx own Ts cc nL ret D cI cZ cH A p s m args meth c) {x y : Int32} {off : Int} (hd : decode cc pc = .ok (.if_icmp .lt off, 3)) (tgt : Nat) (ht : (pc : Int) + off = (tgt : Int)) {A1 : Int} (hx : x.toInt = A1) {B : Int} (hy : y.toInt = B) (n1 : Nat) (h1 : pc + 3 = n1) (kt : A1 < B → J D A p l e R s m args below meth c cells slots Q nL ws lv tgt rest) (kf : B ≤ A1 → J D A p l e R s m args below meth c cells slots Q nL ws lv n1 rest) : J D A p l e R s m args below meth c cells slots Q nL ws lv pc (.int y :: .int x :: rest) := fun H locs ls hP hD hS hl => lv_icmp_lt C.1.1 C.1.2.1 hd ht (fun h => kt (by have h9 := h; simp only [Int32.lt_iff_toInt_lt, Int32.le_iff_toInt_le, ← Int32.toInt_inj] at h9; rw [hx] at h9; rw [hy] at h9; omega) H locs ls hP hD hS hl) (fun h => by rw [h1]; exact kf (by have h9 := h; simp only [Int32.lt_iff_toInt_lt, Int32.le_iff_toInt_le, ← Int32.toInt_inj] at h9; rw [hx] at h9; rw [hy] at h9; omega) H locs ls hP hD hS hl)
theorem j_if_lt (C : Cx own Ts cc nL ret D cI cZ cH A p s m args meth c) {x : Int32} {off : Int} (hd : decode cc pc = .ok (.ifCond .lt off, 3)) (tgt : Nat) (ht : (pc : Int) + off = (tgt : Int)) {A1 : Int} (hx : x.toInt = A1) (n1 : Nat) (h1 : pc + 3 = n1) (kt : A1 < 0 → J D A p l e R s m args below meth c cells slots Q nL ws lv tgt rest) (kf : 0 ≤ A1 → J D A p l e R s m args below meth c cells slots Q nL ws lv n1 rest) : J D A p l e R s m args below meth c cells slots Q nL ws lv pc (.int x :: rest) := fun H locs ls hP hD hS hl => lv_if_lt C.1.1 C.1.2.1 hd ht (fun h => kt (by have h9 := h; simp only [Int32.lt_iff_toInt_lt, Int32.le_iff_toInt_le, ← Int32.toInt_inj] at h9; rw [hx] at h9; simp only [Int32.toInt_zero] at h9; omega) H locs ls hP hD hS hl) (fun h => by rw [h1]; exact kf (by have h9 := h; simp only [Int32.lt_iff_toInt_lt, Int32.le_iff_toInt_le, ← Int32.toInt_inj] at h9; rw [hx] at h9; simp only [Int32.toInt_zero] at h9; omega) H locs ls hP hD hS hl)
theorem j_icmp_ge (C : Cx own Ts cc nL ret D cI cZ cH A p s m args meth c) {x y : Int32} {off : Int} (hd : decode cc pc = .ok (.if_icmp .ge off, 3)) (tgt : Nat) (ht : (pc : Int) + off = (tgt : Int)) {A1 : Int} (hx : x.toInt = A1) {B : Int} (hy : y.toInt = B) (n1 : Nat) (h1 : pc + 3 = n1) (kt : B ≤ A1 → J D A p l e R s m args below meth c cells slots Q nL ws lv tgt rest) (kf : A1 < B → J D A p l e R s m args below meth c cells slots Q nL ws lv n1 rest) : J D A p l e R s m args below meth c cells slots Q nL ws lv pc (.int y :: .int x :: rest) := fun H locs ls hP hD hS hl => lv_icmp_ge C.1.1 C.1.2.1 hd ht (fun h => kt (by have h9 := h; simp only [Int32.lt_iff_toInt_lt, Int32.le_iff_toInt_le, ← Int32.toInt_inj] at h9; rw [hx] at h9; rw [hy] at h9; omega) H locs ls hP hD hS hl) (fun h => by rw [h1]; exact kf (by have h9 := h; simp only [Int32.lt_iff_toInt_lt, Int32.le_iff_toInt_le, ← Int32.toInt_inj] at h9; rw [hx] at h9; rw [hy] at h9; omega) H locs ls hP hD hS hl)
theorem j_if_ge (C : Cx own Ts cc nL ret D cI cZ cH A p s m args meth c) {x : Int32} {off : Int} (hd : decode cc pc = .ok (.ifCond .ge off, 3)) (tgt : Nat) (ht : (pc : Int) + off = (tgt : Int)) {A1 : Int} (hx : x.toInt = A1) (n1 : Nat) (h1 : pc + 3 = n1) (kt : 0 ≤ A1 → J D A p l e R s m args below meth c cells slots Q nL ws lv tgt rest) (kf : A1 < 0 → J D A p l e R s m args below meth c cells slots Q nL ws lv n1 rest) : J D A p l e R s m args below meth c cells slots Q nL ws lv pc (.int x :: rest) := fun H locs ls hP hD hS hl => lv_if_ge C.1.1 C.1.2.1 hd ht (fun h => kt (by have h9 := h; simp only [Int32.lt_iff_toInt_lt, Int32.le_iff_toInt_le, ← Int32.toInt_inj] at h9; rw [hx] at h9; simp only [Int32.toInt_zero] at h9; omega) H locs ls hP hD hS hl) (fun h => by rw [h1]; exact kf (by have h9 := h; simp only [Int32.lt_iff_toInt_lt, Int32.le_iff_toInt_le, ← Int32.toInt_inj] at h9; rw [hx] at h9; simp only [Int32.toInt_zero] at h9; omega) H locs ls hP hD hS hl)
theorem j_icmp_gt (C : Cx own Ts cc nL ret D cI cZ cH A p s m args meth c) {x y : Int32} {off : Int} (hd : decode cc pc = .ok (.if_icmp .gt off, 3)) (tgt : Nat) (ht : (pc : Int) + off = (tgt : Int)) {A1 : Int} (hx : x.toInt = A1) {B : Int} (hy : y.toInt = B) (n1 : Nat) (h1 : pc + 3 = n1) (kt : B < A1 → J D A p l e R s m args below meth c cells slots Q nL ws lv tgt rest) (kf : A1 ≤ B → J D A p l e R s m args below meth c cells slots Q nL ws lv n1 rest) : J D A p l e R s m args below meth c cells slots Q nL ws lv pc (.int y :: .int x :: rest) := fun H locs ls hP hD hS hl => lv_icmp_gt C.1.1 C.1.2.1 hd ht (fun h => kt (by have h9 := h; simp only [Int32.lt_iff_toInt_lt, Int32.le_iff_toInt_le, ← Int32.toInt_inj] at h9; rw [hx] at h9; rw [hy] at h9; omega) H locs ls hP hD hS hl) (fun h => by rw [h1]; exact kf (by have h9 := h; simp only [Int32.lt_iff_toInt_lt, Int32.le_iff_toInt_le, ← Int32.toInt_inj] at h9; rw [hx] at h9; rw [hy] at h9; omega) H locs ls hP hD hS hl)
theorem j_if_gt (C : Cx own Ts cc nL ret D cI cZ cH A p s m args meth c) {x : Int32} {off : Int} (hd : decode cc pc = .ok (.ifCond .gt off, 3)) (tgt : Nat) (ht : (pc : Int) + off = (tgt : Int)) {A1 : Int} (hx : x.toInt = A1) (n1 : Nat) (h1 : pc + 3 = n1) (kt : 0 < A1 → J D A p l e R s m args below meth c cells slots Q nL ws lv tgt rest) (kf : A1 ≤ 0 → J D A p l e R s m args below meth c cells slots Q nL ws lv n1 rest) : J D A p l e R s m args below meth c cells slots Q nL ws lv pc (.int x :: rest) := fun H locs ls hP hD hS hl => lv_if_gt C.1.1 C.1.2.1 hd ht (fun h => kt (by have h9 := h; simp only [Int32.lt_iff_toInt_lt, Int32.le_iff_toInt_le, ← Int32.toInt_inj] at h9; rw [hx] at h9; simp only [Int32.toInt_zero] at h9; omega) H locs ls hP hD hS hl) (fun h => by rw [h1]; exact kf (by have h9 := h; simp only [Int32.lt_iff_toInt_lt, Int32.le_iff_toInt_le, ← Int32.toInt_inj] at h9; rw [hx] at h9; simp only [Int32.toInt_zero] at h9; omega) H locs ls hP hD hS hl)
theorem j_icmp_le (C : Cx own Ts cc nL ret D cI cZ cH A p s m args meth c) {x y : Int32} {off : Int} (hd : decode cc pc = .ok (.if_icmp .le off, 3)) (tgt : Nat) (ht : (pc : Int) + off = (tgt : Int)) {A1 : Int} (hx : x.toInt = A1) {B : Int} (hy : y.toInt = B) (n1 : Nat) (h1 : pc + 3 = n1) (kt : A1 ≤ B → J D A p l e R s m args below meth c cells slots Q nL ws lv tgt rest) (kf : B < A1 → J D A p l e R s m args below meth c cells slots Q nL ws lv n1 rest) : J D A p l e R s m args below meth c cells slots Q nL ws lv pc (.int y :: .int x :: rest) := fun H locs ls hP hD hS hl => lv_icmp_le C.1.1 C.1.2.1 hd ht (fun h => kt (by have h9 := h; simp only [Int32.lt_iff_toInt_lt, Int32.le_iff_toInt_le, ← Int32.toInt_inj] at h9; rw [hx] at h9; rw [hy] at h9; omega) H locs ls hP hD hS hl) (fun h => by rw [h1]; exact kf (by have h9 := h; simp only [Int32.lt_iff_toInt_lt, Int32.le_iff_toInt_le, ← Int32.toInt_inj] at h9; rw [hx] at h9; rw [hy] at h9; omega) H locs ls hP hD hS hl)
theorem j_if_le (C : Cx own Ts cc nL ret D cI cZ cH A p s m args meth c) {x : Int32} {off : Int} (hd : decode cc pc = .ok (.ifCond .le off, 3)) (tgt : Nat) (ht : (pc : Int) + off = (tgt : Int)) {A1 : Int} (hx : x.toInt = A1) (n1 : Nat) (h1 : pc + 3 = n1) (kt : A1 ≤ 0 → J D A p l e R s m args below meth c cells slots Q nL ws lv tgt rest) (kf : 0 < A1 → J D A p l e R s m args below meth c cells slots Q nL ws lv n1 rest) : J D A p l e R s m args below meth c cells slots Q nL ws lv pc (.int x :: rest) := fun H locs ls hP hD hS hl => lv_if_le C.1.1 C.1.2.1 hd ht (fun h => kt (by have h9 := h; simp only [Int32.lt_iff_toInt_lt, Int32.le_iff_toInt_le, ← Int32.toInt_inj] at h9; rw [hx] at h9; simp only [Int32.toInt_zero] at h9; omega) H locs ls hP hD hS hl) (fun h => by rw [h1]; exact kf (by have h9 := h; simp only [Int32.lt_iff_toInt_lt, Int32.le_iff_toInt_le, ← Int32.toInt_inj] at h9; rw [hx] at h9; simp only [Int32.toInt_zero] at h9; omega) H locs ls hP hD hS hl)
theorem j_ifb_eq (C : Cx own Ts cc nL ret D cI cZ cH A p s m args meth c) {P : Prop} [Decidable P] {off : Int} (hd : decode cc pc = .ok (.ifCond .eq off, 3)) (tgt : Nat) (ht : (pc : Int) + off = (tgt : Int)) (n1 : Nat) (h1 : pc + 3 = n1) (kt : ¬ P → J D A p l e R s m args below meth c cells slots Q nL ws lv tgt rest) (kf : P → J D A p l e R s m args below meth c cells slots Q nL ws lv n1 rest) : J D A p l e R s m args below meth c cells slots Q nL ws lv pc (.int (if P then 1 else 0) :: rest) := fun H locs ls hP hD hS hl => lv_if_eq C.1.1 C.1.2.1 hd ht (fun h => kt (by by_cases hp : P <;> simp_all) H locs ls hP hD hS hl) (fun h => by rw [h1]; exact kf (by by_cases hp : P <;> simp_all) H locs ls hP hD hS hl)
theorem j_ifb_ne (C : Cx own Ts cc nL ret D cI cZ cH A p s m args meth c) {P : Prop} [Decidable P] {off : Int} (hd : decode cc pc = .ok (.ifCond .ne off, 3)) (tgt : Nat) (ht : (pc : Int) + off = (tgt : Int)) (n1 : Nat) (h1 : pc + 3 = n1) (kt : P → J D A p l e R s m args below meth c cells slots Q nL ws lv tgt rest) (kf : ¬ P → J D A p l e R s m args below meth c cells slots Q nL ws lv n1 rest) : J D A p l e R s m args below meth c cells slots Q nL ws lv pc (.int (if P then 1 else 0) :: rest) := fun H locs ls hP hD hS hl => lv_if_ne C.1.1 C.1.2.1 hd ht (fun h => kt (by by_cases hp : P <;> simp_all) H locs ls hP hD hS hl) (fun h => by rw [h1]; exact kf (by by_cases hp : P <;> simp_all) H locs ls hP hD hS hl)
theorem j_goto (C : Cx own Ts cc nL ret D cI cZ cH A p s m args meth c) {off : Int} (hd : decode cc pc = .ok (.goto off, 3)) (tgt : Nat) (ht : (pc : Int) + off = (tgt : Int)) (kk : J D A p l e R s m args below meth c cells slots Q nL ws lv tgt rest) : J D A p l e R s m args below meth c cells slots Q nL ws lv pc rest := fun H locs ls hP hD hS hl => lv_goto C.1.1 C.1.2.1 hd ht (kk H locs ls hP hD hS hl)
theorem j_tabIn (C : Cx own Ts cc nL ret D cI cZ cH A p s m args meth c) {dflt lo hi : Int} {offs : Array Int} {len : Nat} {x : Int32} (hd : decode cc pc = .ok (.tableswitch dflt lo hi offs, len)) (v : Int) (hx : x.toInt = v) (h1 : ¬ v < lo) (h2 : ¬ hi < v) (off : Int) (ho : offs[(v - lo).toNat]? = some off) (tgt : Nat) (ht : (pc : Int) + off = (tgt : Int)) (kk : J D A p l e R s m args below meth c cells slots Q nL ws lv tgt rest) : J D A p l e R s m args below meth c cells slots Q nL ws lv pc (.int x :: rest) := fun H locs ls hP hD hS hl => lv_tableIn C.1.1 C.1.2.1 hd (by rw [hx]; exact h1) (by rw [hx]; exact h2) (by rw [hx]; exact ho) ht (kk H locs ls hP hD hS hl)
theorem j_tabOut (C : Cx own Ts cc nL ret D cI cZ cH A p s m args meth c) {dflt lo hi : Int} {offs : Array Int} {len : Nat} {x : Int32} (hd : decode cc pc = .ok (.tableswitch dflt lo hi offs, len)) (v : Int) (hx : x.toInt = v) (h1 : v < lo ∨ hi < v) (tgt : Nat) (ht : (pc : Int) + dflt = (tgt : Int)) (kk : J D A p l e R s m args below meth c cells slots Q nL ws lv tgt rest) : J D A p l e R s m args below meth c cells slots Q nL ws lv pc (.int x :: rest) := fun H locs ls hP hD hS hl => lv_tableOut C.1.1 C.1.2.1 hd (by rw [hx]; exact h1) ht (kk H locs ls hP hD hS hl)
theorem j_get (C : Cx own Ts cc nL ret D cI cZ cH A p s m args meth c) {ref Cn : String} {T : u_T} {N ci index a : Nat} {fs : List Value} {v : Value} (hd : decode cc pc = .ok (.getfield index, 3)) (q0 k i : Nat) (hin : ∀ w ∈ u_ws Cn T N, w ∈ Ts) (he : ws[q0]? = some (a, .inr (ci, fs))) (hc : vwCl[ci]? = some (Cn, T, N)) (hk : k < N) (hl : Ts[i]? = some (.fieldLink own index ref (T k).2.1 (T k).2.2.1)) (hs : (T k).1 = ref) (hv : fs[k]? = some v) (n1 : Nat) (h1 : pc + 3 = n1) (kk : J D A p l e R s m args below meth c cells slots Q nL ws lv n1 (v :: rest)) : J D A p l e R s m args below meth c cells slots Q nL ws lv pc (.ref a :: rest) := fun H locs ls hP hD hS hl2 => va_get C.1.1 C.1.2.1 C.2.1 hin C.1.2.2.2.2 C.2.2.1 hP q0 he hc k hk (C.2.1 _ (List.mem_of_getElem? hl)) (fun _ h9 => hs ▸ h9) hv hd (by rw [h1]; exact kk H locs ls hP hD hS hl2)
theorem j_put (C : Cx own Ts cc nL ret D cI cZ cH A p s m args meth c) {ref Cn : String} {T : u_T} {N ci index a : Nat} {fs : List Value} {v : Value} (hd : decode cc pc = .ok (.putfield index, 3)) (q0 k i : Nat) (hin : ∀ w ∈ u_ws Cn T N, w ∈ Ts) (ty0 : Nat → FieldType) (hty : ∀ k, k < N → parseFieldDescriptor (T k).2.2.1 = some (ty0 k)) (hnm : ∀ a, a < N → ∀ b, b < N → a ≠ b → (T a).2.1 ≠ (T b).2.1) (he : ws[q0]? = some (a, .inr (ci, fs))) (hc : vwCl[ci]? = some (Cn, T, N)) (hk : k < N) (hl : Ts[i]? = some (.fieldLink own index ref (T k).2.1 (T k).2.2.1)) (hs : (T k).1 = ref) (hf : (T k).2.2.2 = false) (hn : narrow (ty0 k) v = v) (hfit : fits (ty0 k) v = true) (hlen : k < fs.length) (ws2 : va_W) (hw : ws.set q0 (a, .inr (ci, fs.set k v)) = ws2) (n1 : Nat) (h1 : pc + 3 = n1) (kk : J D A p l e R s m args below meth c cells slots Q nL ws2 lv n1 rest) : J D A p l e R s m args below meth c cells slots Q nL ws lv pc (v :: .ref a :: rest) := fun H locs ls hP hD hS hl2 => va_put C.1.1 C.1.2.1 C.2.1 hin ty0 hty hnm C.1.2.2.2.2 C.2.2.1 hP hD hS q0 he hc k hk (C.2.1 _ (List.mem_of_getElem? hl)) (fun _ h9 => hs ▸ h9) hf (hty k hk) hn hfit hlen hd (fun H1 locs1 hP1 hD1 hS1 => by rw [hw] at hP1 hD1; rw [h1]; exact kk H1 locs1 ls hP1 hD1 hS1 hl2)
theorem j_iald (C : Cx own Ts cc nL ret D cI cZ cH A p s m args meth c) {n a i : Nat} {f : Nat → Nat} (hd : decode cc pc = .ok (.iaload, 1)) (q0 : Nat) (he : ws[q0]? = some (a, .inl (cI, n, .inl (aN f)))) (hi : i < n) (hn : n < 2 ^ 31) (n1 : Nat) (h1 : pc + 1 = n1) (kk : J D A p l e R s m args below meth c cells slots Q nL ws lv n1 (.int (nI (f i)) :: rest)) : J D A p l e R s m args below meth c cells slots Q nL ws lv pc (.int (nI i) :: .ref a :: rest) := fun H locs ls hP hD hS hl2 => va_iald C.1.1 C.1.2.1 C.2.2.1 hP q0 0 he rfl (vp_in_nI hi hn) hd (by rw [nI_clamp (Nat.lt_trans hi hn), h1]; exact kk H locs ls hP hD hS hl2)
theorem j_ialdI (C : Cx own Ts cc nL ret D cI cZ cH A p s m args meth c) {n a i : Nat} {f : Nat → Int32} (hd : decode cc pc = .ok (.iaload, 1)) (q0 : Nat) (he : ws[q0]? = some (a, .inl (cI, n, .inl f))) (hi : i < n) (hn : n < 2 ^ 31) (v : Int32) (hv : f i = v) (n1 : Nat) (h1 : pc + 1 = n1) (kk : J D A p l e R s m args below meth c cells slots Q nL ws lv n1 (.int v :: rest)) : J D A p l e R s m args below meth c cells slots Q nL ws lv pc (.int (nI i) :: .ref a :: rest) := fun H locs ls hP hD hS hl2 => va_iald C.1.1 C.1.2.1 C.2.2.1 hP q0 0 he rfl (vp_in_nI hi hn) hd (by rw [nI_clamp (Nat.lt_trans hi hn), h1, hv]; exact kk H locs ls hP hD hS hl2)
theorem aN_upd (f : Nat → Nat) (i x : Nat) : upd (aN f) i (nI x) = aN (va_up f i x) := by
  funext j
  simp only [upd, aN, va_up]
  split <;> rfl
theorem j_iast (C : Cx own Ts cc nL ret D cI cZ cH A p s m args meth c) {n a i x : Nat} {f : Nat → Nat} (hd : decode cc pc = .ok (.iastore, 1)) (q0 : Nat) (he : ws[q0]? = some (a, .inl (cI, n, .inl (aN f)))) (hi : i < n) (hn : n < 2 ^ 31) (ws2 : va_W) (hw : ws.set q0 (a, .inl (cI, n, .inl (aN (va_up f i x)))) = ws2) (n1 : Nat) (h1 : pc + 1 = n1) (kk : J D A p l e R s m args below meth c cells slots Q nL ws2 lv n1 rest) : J D A p l e R s m args below meth c cells slots Q nL ws lv pc (.int (nI x) :: .int (nI i) :: .ref a :: rest) := fun H locs ls hP hD hS hl2 => va_iast C.1.1 C.1.2.1 C.2.2.1 hP hD hS q0 0 he rfl (vp_in_nI hi hn) hd (fun H1 locs1 hP1 hD1 hS1 => by rw [nI_clamp (Nat.lt_trans hi hn), aN_upd, hw] at hP1 hD1; rw [h1]; exact kk H1 locs1 ls hP1 hD1 hS1 hl2)
theorem j_iastI (C : Cx own Ts cc nL ret D cI cZ cH A p s m args meth c) {n a i : Nat} {x : Int32} {f : Nat → Int32} (hd : decode cc pc = .ok (.iastore, 1)) (q0 : Nat) (he : ws[q0]? = some (a, .inl (cI, n, .inl f))) (hi : i < n) (hn : n < 2 ^ 31) (f2 : Nat → Int32) (hf : upd f i x = f2) (ws2 : va_W) (hw : ws.set q0 (a, .inl (cI, n, .inl f2)) = ws2) (n1 : Nat) (h1 : pc + 1 = n1) (kk : J D A p l e R s m args below meth c cells slots Q nL ws2 lv n1 rest) : J D A p l e R s m args below meth c cells slots Q nL ws lv pc (.int x :: .int (nI i) :: .ref a :: rest) := fun H locs ls hP hD hS hl2 => va_iast C.1.1 C.1.2.1 C.2.2.1 hP hD hS q0 0 he rfl (vp_in_nI hi hn) hd (fun H1 locs1 hP1 hD1 hS1 => by rw [nI_clamp (Nat.lt_trans hi hn), hf, hw] at hP1 hD1; rw [h1]; exact kk H1 locs1 ls hP1 hD1 hS1 hl2)
theorem j_zald (C : Cx own Ts cc nL ret D cI cZ cH A p s m args meth c) {n a i : Nat} {f : Nat → Int32} (hd : decode cc pc = .ok (.baload, 1)) (q0 : Nat) (he : ws[q0]? = some (a, .inl (cZ, n, .inl f))) (hi : i < n) (hn : n < 2 ^ 31) (v : Int32) (hv : f i = v) (n1 : Nat) (h1 : pc + 1 = n1) (kk : J D A p l e R s m args below meth c cells slots Q nL ws lv n1 (.int v :: rest)) : J D A p l e R s m args below meth c cells slots Q nL ws lv pc (.int (nI i) :: .ref a :: rest) := fun H locs ls hP hD hS hl2 => va_zald C.1.1 C.1.2.1 C.2.2.1 hP q0 1 he rfl (vp_in_nI hi hn) hd (by rw [nI_clamp (Nat.lt_trans hi hn), h1, hv]; exact kk H locs ls hP hD hS hl2)
theorem j_aald (C : Cx own Ts cc nL ret D cI cZ cH A p s m args meth c) {n a i v : Nat} {f : Nat → Option Nat} (hd : decode cc pc = .ok (.aaload, 1)) (q0 : Nat) (he : ws[q0]? = some (a, .inl (cH, n, .inr (.inr (.inr (.inr f)))))) (hi : i < n) (hn : n < 2 ^ 31) (hv : f i = some v) (n1 : Nat) (h1 : pc + 1 = n1) (kk : J D A p l e R s m args below meth c cells slots Q nL ws lv n1 (.ref v :: rest)) : J D A p l e R s m args below meth c cells slots Q nL ws lv pc (.int (nI i) :: .ref a :: rest) := fun H locs ls hP hD hS hl2 => va_aldq C.1.1 C.1.2.1 C.2.2.1 hP q0 2 he rfl (vp_in_nI hi hn) hd (by rw [nI_clamp (Nat.lt_trans hi hn), hv, h1]; exact kk H locs ls hP hD hS hl2)
theorem j_callVi (C : Cx own Ts cc nL ret D cI cZ cH A p s m args meth c) {y : MethodName} {wy wy2 : List Cond} {fr lo n index maxL : Nat} {As : List Value} {wc wr : va_W} {S : Type} {post : Int32 → S → Prop} {w1 : S → va_W} {bytes : ByteArray} {rt : Option FieldType} {Cn : String} {T : u_T} {N ci b : Nat} {fs : List Value} (hM : Mi l D cI cZ cH y wy fr lo (.ref b :: As) wc post w1) (g : GoodIn Ts (wsV own index Cn y wy)) (hd : decode cc pc = .ok (.invokevirtual index, 3)) (hw : wy = Cond.code y bytes maxL rt :: wy2) (hy : y.cls = Cn ∧ y.cls ≠ "java/lang/invoke/MethodHandle" ∧ y.cls ≠ "java/lang/invoke/VarHandle" ∧ (parseMethodDescriptor y.desc).map (fun d => d.parameters.length) = some n) (hfr : fr + 1 ≤ R.frames) (hlo : 8 + (maxL + 11) + lo ≤ R.locals) (he : wc[0]? = some (b, .inr (ci, fs))) (hc : vwCl[ci]? = some (Cn, T, N)) (hn : As.length = n) (st : List Value) (hst : st = (As.reverse ++ .ref b :: rest)) (hrs : (rest.map fun v => v.category).sum ≤ 8) (hcl : cells ≤ R.cells) (hsl : slots ≤ R.slots) (isC isR : List Nat) (hC : isC.map (fun i => ws[i]?) = wc.map some) (hC2 : isC.filterMap (fun i => ws[i]?) = wc) (hnC : va_nd isC = true) (hR : isR.map (fun i => ws[i]?) = wr.map some) (hnR : va_nd isR = true) (hdis : ∀ i ∈ isR, i ∉ isC) (isO : List Nat) (w2 : S → va_W) (hO : ∀ u, isO.map (fun i => (wr ++ w1 u)[i]?) = (w2 u).map some) (hO2 : ∀ u, isO.filterMap (fun i => (wr ++ w1 u)[i]?) = w2 u) (hnO : va_nd isO = true) (n1 : Nat) (h1 : pc + 3 = n1) (kk : ∀ (r : Int32) (u : S), post r u → J D A p l e R s m args below meth c cells slots Q nL (w2 u) lv n1 (.int r :: rest)) : J D A p l e R s m args below meth c cells slots Q nL ws lv pc st := by
  intro H locs ls hP hD hS hl
  subst hst
  have hPc := hP.sub isC hC2
  have hDc := hD.sub isC hnC hC
  have hFc := va_free (wc := wc) hD hS C.2.2.2.2.1 isC hC
  refine va_calli (va_runV (As := As) (rest := rest) ⟨C.1.1, C.1.2.1, C.1.2.2.2.1, C.1.2.2.2.2, C.2.1⟩ (hM H.size) (cwV n C.2.1 g hw rfl rfl hy ⟨hfr, hlo⟩) ⟨Pre.blind, va_recv C.2.2.1 hPc hc he, fun U hU hW => ⟨rfl, by rw [hU], by rw [hU]; exact hPc, ⟨va_K.moved hW.alike C.2.2.1, C.2.2.2.1.warm hW⟩, hDc.weaken (fun _ _ _ _ => trivial)⟩⟩ rfl hn hl.1 rfl (lv_room hrs) hd ⟨hcl, hsl⟩) hS (fun q _ h => hFc q h) hFc (fun r u t H1 locs1 ht hvm hpo hB hz1 hk1 hS1 => ?_)
  obtain ⟨hP1, hD1⟩ := hB
  rw [ht] at hP1
  obtain ⟨hP2, hD2⟩ := va_join hP hD isC isR hC hR hnR hdis hk1 hFc hP1 hD1
  rw [h1]
  exact kk r u hpo H1 locs1 ls (hP2.sub isO (hO2 u)) (hD2.sub isO hnO (hO u)) hS1 hl
theorem j_callVi1 (C : Cx own Ts cc nL ret D cI cZ cH A p s m args meth c) {y : MethodName} {wy wy2 : List Cond} {fr lo n index maxL : Nat} {As : List Value} {wc wr wz : va_W} {res : Int32} {bytes : ByteArray} {rt : Option FieldType} {Cn : String} {T : u_T} {N ci b : Nat} {fs : List Value} (hM : Mi l D cI cZ cH y wy fr lo (.ref b :: As) wc (fun (r9 : Int32) (_ : Unit) => r9 = res) (fun (_ : Unit) => wz)) (g : GoodIn Ts (wsV own index Cn y wy)) (hd : decode cc pc = .ok (.invokevirtual index, 3)) (hw : wy = Cond.code y bytes maxL rt :: wy2) (hy : y.cls = Cn ∧ y.cls ≠ "java/lang/invoke/MethodHandle" ∧ y.cls ≠ "java/lang/invoke/VarHandle" ∧ (parseMethodDescriptor y.desc).map (fun d => d.parameters.length) = some n) (hfr : fr + 1 ≤ R.frames) (hlo : 8 + (maxL + 11) + lo ≤ R.locals) (he : wc[0]? = some (b, .inr (ci, fs))) (hc : vwCl[ci]? = some (Cn, T, N)) (hn : As.length = n) (st : List Value) (hst : st = (As.reverse ++ .ref b :: rest)) (hrs : (rest.map fun v => v.category).sum ≤ 8) (hcl : cells ≤ R.cells) (hsl : slots ≤ R.slots) (isC isR : List Nat) (hC : isC.map (fun i => ws[i]?) = wc.map some) (hC2 : isC.filterMap (fun i => ws[i]?) = wc) (hnC : va_nd isC = true) (hR : isR.map (fun i => ws[i]?) = wr.map some) (hnR : va_nd isR = true) (hdis : ∀ i ∈ isR, i ∉ isC) (isO : List Nat) (w2 : va_W) (hO : isO.map (fun i => (wr ++ wz)[i]?) = w2.map some) (hO2 : isO.filterMap (fun i => (wr ++ wz)[i]?) = w2) (hnO : va_nd isO = true) (n1 : Nat) (h1 : pc + 3 = n1) (kk : J D A p l e R s m args below meth c cells slots Q nL w2 lv n1 (.int res :: rest)) : J D A p l e R s m args below meth c cells slots Q nL ws lv pc st := j_callVi C hM g hd hw hy hfr hlo he hc hn st hst hrs hcl hsl isC isR hC hC2 hnC hR hnR hdis isO (fun _ => w2) (fun _ => hO) (fun _ => hO2) hnO n1 h1 (fun r9 _ hr => by subst hr; exact kk)
theorem j_callVv (C : Cx own Ts cc nL ret D cI cZ cH A p s m args meth c) {y : MethodName} {wy wy2 : List Cond} {fr lo n index maxL : Nat} {As : List Value} {wc wr : va_W} {S : Type} {post : S → Prop} {w1 : S → va_W} {bytes : ByteArray} {rt : Option FieldType} {Cn : String} {T : u_T} {N ci b : Nat} {fs : List Value} (hM : Mv l D cI cZ cH y wy fr lo (.ref b :: As) wc post w1) (g : GoodIn Ts (wsV own index Cn y wy)) (hd : decode cc pc = .ok (.invokevirtual index, 3)) (hw : wy = Cond.code y bytes maxL rt :: wy2) (hy : y.cls = Cn ∧ y.cls ≠ "java/lang/invoke/MethodHandle" ∧ y.cls ≠ "java/lang/invoke/VarHandle" ∧ (parseMethodDescriptor y.desc).map (fun d => d.parameters.length) = some n) (hfr : fr + 1 ≤ R.frames) (hlo : 8 + (maxL + 11) + lo ≤ R.locals) (he : wc[0]? = some (b, .inr (ci, fs))) (hc : vwCl[ci]? = some (Cn, T, N)) (hn : As.length = n) (st : List Value) (hst : st = (As.reverse ++ .ref b :: rest)) (hrs : (rest.map fun v => v.category).sum ≤ 8) (hcl : cells ≤ R.cells) (hsl : slots ≤ R.slots) (isC isR : List Nat) (hC : isC.map (fun i => ws[i]?) = wc.map some) (hC2 : isC.filterMap (fun i => ws[i]?) = wc) (hnC : va_nd isC = true) (hR : isR.map (fun i => ws[i]?) = wr.map some) (hnR : va_nd isR = true) (hdis : ∀ i ∈ isR, i ∉ isC) (isO : List Nat) (w2 : S → va_W) (hO : ∀ u, isO.map (fun i => (wr ++ w1 u)[i]?) = (w2 u).map some) (hO2 : ∀ u, isO.filterMap (fun i => (wr ++ w1 u)[i]?) = w2 u) (hnO : va_nd isO = true) (n1 : Nat) (h1 : pc + 3 = n1) (kk : ∀ (u : S), post u → J D A p l e R s m args below meth c cells slots Q nL (w2 u) lv n1 rest) : J D A p l e R s m args below meth c cells slots Q nL ws lv pc st := by
  intro H locs ls hP hD hS hl
  subst hst
  have hPc := hP.sub isC hC2
  have hDc := hD.sub isC hnC hC
  have hFc := va_free (wc := wc) hD hS C.2.2.2.2.1 isC hC
  refine va_callv (va_runV (As := As) (rest := rest) ⟨C.1.1, C.1.2.1, C.1.2.2.2.1, C.1.2.2.2.2, C.2.1⟩ (hM H.size) (cwV n C.2.1 g hw rfl rfl hy ⟨hfr, hlo⟩) ⟨Pre.blind, va_recv C.2.2.1 hPc hc he, fun U hU hW => ⟨rfl, by rw [hU], by rw [hU]; exact hPc, ⟨va_K.moved hW.alike C.2.2.1, C.2.2.2.1.warm hW⟩, hDc.weaken (fun _ _ _ _ => trivial)⟩⟩ rfl hn hl.1 rfl (lv_room hrs) hd ⟨hcl, hsl⟩) hS (fun q _ h => hFc q h) hFc (fun u t H1 locs1 ht hvm hpo hB hz1 hk1 hS1 => ?_)
  obtain ⟨hP1, hD1⟩ := hB
  rw [ht] at hP1
  obtain ⟨hP2, hD2⟩ := va_join hP hD isC isR hC hR hnR hdis hk1 hFc hP1 hD1
  rw [h1]
  exact kk u hpo H1 locs1 ls (hP2.sub isO (hO2 u)) (hD2.sub isO hnO (hO u)) hS1 hl
theorem j_callVv1 (C : Cx own Ts cc nL ret D cI cZ cH A p s m args meth c) {y : MethodName} {wy wy2 : List Cond} {fr lo n index maxL : Nat} {As : List Value} {wc wr wz : va_W} {bytes : ByteArray} {rt : Option FieldType} {Cn : String} {T : u_T} {N ci b : Nat} {fs : List Value} (hM : Mv l D cI cZ cH y wy fr lo (.ref b :: As) wc (fun (_ : Unit) => True) (fun (_ : Unit) => wz)) (g : GoodIn Ts (wsV own index Cn y wy)) (hd : decode cc pc = .ok (.invokevirtual index, 3)) (hw : wy = Cond.code y bytes maxL rt :: wy2) (hy : y.cls = Cn ∧ y.cls ≠ "java/lang/invoke/MethodHandle" ∧ y.cls ≠ "java/lang/invoke/VarHandle" ∧ (parseMethodDescriptor y.desc).map (fun d => d.parameters.length) = some n) (hfr : fr + 1 ≤ R.frames) (hlo : 8 + (maxL + 11) + lo ≤ R.locals) (he : wc[0]? = some (b, .inr (ci, fs))) (hc : vwCl[ci]? = some (Cn, T, N)) (hn : As.length = n) (st : List Value) (hst : st = (As.reverse ++ .ref b :: rest)) (hrs : (rest.map fun v => v.category).sum ≤ 8) (hcl : cells ≤ R.cells) (hsl : slots ≤ R.slots) (isC isR : List Nat) (hC : isC.map (fun i => ws[i]?) = wc.map some) (hC2 : isC.filterMap (fun i => ws[i]?) = wc) (hnC : va_nd isC = true) (hR : isR.map (fun i => ws[i]?) = wr.map some) (hnR : va_nd isR = true) (hdis : ∀ i ∈ isR, i ∉ isC) (isO : List Nat) (w2 : va_W) (hO : isO.map (fun i => (wr ++ wz)[i]?) = w2.map some) (hO2 : isO.filterMap (fun i => (wr ++ wz)[i]?) = w2) (hnO : va_nd isO = true) (n1 : Nat) (h1 : pc + 3 = n1) (kk : J D A p l e R s m args below meth c cells slots Q nL w2 lv n1 rest) : J D A p l e R s m args below meth c cells slots Q nL ws lv pc st := j_callVv C hM g hd hw hy hfr hlo he hc hn st hst hrs hcl hsl isC isR hC hC2 hnC hR hnR hdis isO (fun _ => w2) (fun _ => hO) (fun _ => hO2) hnO n1 h1 (fun _ _ => kk)
theorem j_callSi (C : Cx own Ts cc nL ret D cI cZ cH A p s m args meth c) {y : MethodName} {wy wy2 : List Cond} {fr lo n index maxL : Nat} {As : List Value} {wc wr : va_W} {S : Type} {post : Int32 → S → Prop} {w1 : S → va_W} {bytes : ByteArray} {rt : Option FieldType} (hM : Mi l D cI cZ cH y wy fr lo As wc post w1) (g : GoodIn Ts (va_wsS own index y wy)) (hd : decode cc pc = .ok (.invokestatic index, 3)) (hw : wy = Cond.code y bytes maxL rt :: wy2) (hy : y.cls ≠ "java/lang/invoke/MethodHandle" ∧ y.cls ≠ "java/lang/invoke/VarHandle" ∧ (parseMethodDescriptor y.desc).map (fun d => d.parameters.length) = some n) (hfr : fr + 1 ≤ R.frames) (hlo : 8 + (maxL + 11) + lo ≤ R.locals) (hn : As.length = n) (st : List Value) (hst : st = (As.reverse ++ rest)) (hrs : (rest.map fun v => v.category).sum ≤ 8) (hcl : cells ≤ R.cells) (hsl : slots ≤ R.slots) (isC isR : List Nat) (hC : isC.map (fun i => ws[i]?) = wc.map some) (hC2 : isC.filterMap (fun i => ws[i]?) = wc) (hnC : va_nd isC = true) (hR : isR.map (fun i => ws[i]?) = wr.map some) (hnR : va_nd isR = true) (hdis : ∀ i ∈ isR, i ∉ isC) (isO : List Nat) (w2 : S → va_W) (hO : ∀ u, isO.map (fun i => (wr ++ w1 u)[i]?) = (w2 u).map some) (hO2 : ∀ u, isO.filterMap (fun i => (wr ++ w1 u)[i]?) = w2 u) (hnO : va_nd isO = true) (n1 : Nat) (h1 : pc + 3 = n1) (kk : ∀ (r : Int32) (u : S), post r u → J D A p l e R s m args below meth c cells slots Q nL (w2 u) lv n1 (.int r :: rest)) : J D A p l e R s m args below meth c cells slots Q nL ws lv pc st := by
  intro H locs ls hP hD hS hl
  subst hst
  have hPc := hP.sub isC hC2
  have hDc := hD.sub isC hnC hC
  have hFc := va_free (wc := wc) hD hS C.2.2.2.2.1 isC hC
  refine va_calli (va_runS (As := As) (rest := rest) ⟨C.1.1, C.1.2.1, C.1.2.2.2.1, C.1.2.2.2.2, C.2.1⟩ (hM H.size) (va_cwS n C.2.1 g hw rfl rfl hy ⟨hfr, hlo⟩) ⟨Pre.blind, fun U hU hW => ⟨rfl, by rw [hU], by rw [hU]; exact hPc, ⟨va_K.moved hW.alike C.2.2.1, C.2.2.2.1.warm hW⟩, hDc.weaken (fun _ _ _ _ => trivial)⟩⟩ rfl hn hl.1 rfl (lv_room hrs) hd ⟨hcl, hsl⟩) hS (fun q _ h => hFc q h) hFc (fun r u t H1 locs1 ht hvm hpo hB hz1 hk1 hS1 => ?_)
  obtain ⟨hP1, hD1⟩ := hB
  rw [ht] at hP1
  obtain ⟨hP2, hD2⟩ := va_join hP hD isC isR hC hR hnR hdis hk1 hFc hP1 hD1
  rw [h1]
  exact kk r u hpo H1 locs1 ls (hP2.sub isO (hO2 u)) (hD2.sub isO hnO (hO u)) hS1 hl
theorem j_callSi1 (C : Cx own Ts cc nL ret D cI cZ cH A p s m args meth c) {y : MethodName} {wy wy2 : List Cond} {fr lo n index maxL : Nat} {As : List Value} {wc wr wz : va_W} {res : Int32} {bytes : ByteArray} {rt : Option FieldType} (hM : Mi l D cI cZ cH y wy fr lo As wc (fun (r9 : Int32) (_ : Unit) => r9 = res) (fun (_ : Unit) => wz)) (g : GoodIn Ts (va_wsS own index y wy)) (hd : decode cc pc = .ok (.invokestatic index, 3)) (hw : wy = Cond.code y bytes maxL rt :: wy2) (hy : y.cls ≠ "java/lang/invoke/MethodHandle" ∧ y.cls ≠ "java/lang/invoke/VarHandle" ∧ (parseMethodDescriptor y.desc).map (fun d => d.parameters.length) = some n) (hfr : fr + 1 ≤ R.frames) (hlo : 8 + (maxL + 11) + lo ≤ R.locals) (hn : As.length = n) (st : List Value) (hst : st = (As.reverse ++ rest)) (hrs : (rest.map fun v => v.category).sum ≤ 8) (hcl : cells ≤ R.cells) (hsl : slots ≤ R.slots) (isC isR : List Nat) (hC : isC.map (fun i => ws[i]?) = wc.map some) (hC2 : isC.filterMap (fun i => ws[i]?) = wc) (hnC : va_nd isC = true) (hR : isR.map (fun i => ws[i]?) = wr.map some) (hnR : va_nd isR = true) (hdis : ∀ i ∈ isR, i ∉ isC) (isO : List Nat) (w2 : va_W) (hO : isO.map (fun i => (wr ++ wz)[i]?) = w2.map some) (hO2 : isO.filterMap (fun i => (wr ++ wz)[i]?) = w2) (hnO : va_nd isO = true) (n1 : Nat) (h1 : pc + 3 = n1) (kk : J D A p l e R s m args below meth c cells slots Q nL w2 lv n1 (.int res :: rest)) : J D A p l e R s m args below meth c cells slots Q nL ws lv pc st := j_callSi C hM g hd hw hy hfr hlo hn st hst hrs hcl hsl isC isR hC hC2 hnC hR hnR hdis isO (fun _ => w2) (fun _ => hO) (fun _ => hO2) hnO n1 h1 (fun r9 _ hr => by subst hr; exact kk)
theorem j_callSv (C : Cx own Ts cc nL ret D cI cZ cH A p s m args meth c) {y : MethodName} {wy wy2 : List Cond} {fr lo n index maxL : Nat} {As : List Value} {wc wr : va_W} {S : Type} {post : S → Prop} {w1 : S → va_W} {bytes : ByteArray} {rt : Option FieldType} (hM : Mv l D cI cZ cH y wy fr lo As wc post w1) (g : GoodIn Ts (va_wsS own index y wy)) (hd : decode cc pc = .ok (.invokestatic index, 3)) (hw : wy = Cond.code y bytes maxL rt :: wy2) (hy : y.cls ≠ "java/lang/invoke/MethodHandle" ∧ y.cls ≠ "java/lang/invoke/VarHandle" ∧ (parseMethodDescriptor y.desc).map (fun d => d.parameters.length) = some n) (hfr : fr + 1 ≤ R.frames) (hlo : 8 + (maxL + 11) + lo ≤ R.locals) (hn : As.length = n) (st : List Value) (hst : st = (As.reverse ++ rest)) (hrs : (rest.map fun v => v.category).sum ≤ 8) (hcl : cells ≤ R.cells) (hsl : slots ≤ R.slots) (isC isR : List Nat) (hC : isC.map (fun i => ws[i]?) = wc.map some) (hC2 : isC.filterMap (fun i => ws[i]?) = wc) (hnC : va_nd isC = true) (hR : isR.map (fun i => ws[i]?) = wr.map some) (hnR : va_nd isR = true) (hdis : ∀ i ∈ isR, i ∉ isC) (isO : List Nat) (w2 : S → va_W) (hO : ∀ u, isO.map (fun i => (wr ++ w1 u)[i]?) = (w2 u).map some) (hO2 : ∀ u, isO.filterMap (fun i => (wr ++ w1 u)[i]?) = w2 u) (hnO : va_nd isO = true) (n1 : Nat) (h1 : pc + 3 = n1) (kk : ∀ (u : S), post u → J D A p l e R s m args below meth c cells slots Q nL (w2 u) lv n1 rest) : J D A p l e R s m args below meth c cells slots Q nL ws lv pc st := by
  intro H locs ls hP hD hS hl
  subst hst
  have hPc := hP.sub isC hC2
  have hDc := hD.sub isC hnC hC
  have hFc := va_free (wc := wc) hD hS C.2.2.2.2.1 isC hC
  refine va_callv (va_runS (As := As) (rest := rest) ⟨C.1.1, C.1.2.1, C.1.2.2.2.1, C.1.2.2.2.2, C.2.1⟩ (hM H.size) (va_cwS n C.2.1 g hw rfl rfl hy ⟨hfr, hlo⟩) ⟨Pre.blind, fun U hU hW => ⟨rfl, by rw [hU], by rw [hU]; exact hPc, ⟨va_K.moved hW.alike C.2.2.1, C.2.2.2.1.warm hW⟩, hDc.weaken (fun _ _ _ _ => trivial)⟩⟩ rfl hn hl.1 rfl (lv_room hrs) hd ⟨hcl, hsl⟩) hS (fun q _ h => hFc q h) hFc (fun u t H1 locs1 ht hvm hpo hB hz1 hk1 hS1 => ?_)
  obtain ⟨hP1, hD1⟩ := hB
  rw [ht] at hP1
  obtain ⟨hP2, hD2⟩ := va_join hP hD isC isR hC hR hnR hdis hk1 hFc hP1 hD1
  rw [h1]
  exact kk u hpo H1 locs1 ls (hP2.sub isO (hO2 u)) (hD2.sub isO hnO (hO u)) hS1 hl
theorem j_callSv1 (C : Cx own Ts cc nL ret D cI cZ cH A p s m args meth c) {y : MethodName} {wy wy2 : List Cond} {fr lo n index maxL : Nat} {As : List Value} {wc wr wz : va_W} {bytes : ByteArray} {rt : Option FieldType} (hM : Mv l D cI cZ cH y wy fr lo As wc (fun (_ : Unit) => True) (fun (_ : Unit) => wz)) (g : GoodIn Ts (va_wsS own index y wy)) (hd : decode cc pc = .ok (.invokestatic index, 3)) (hw : wy = Cond.code y bytes maxL rt :: wy2) (hy : y.cls ≠ "java/lang/invoke/MethodHandle" ∧ y.cls ≠ "java/lang/invoke/VarHandle" ∧ (parseMethodDescriptor y.desc).map (fun d => d.parameters.length) = some n) (hfr : fr + 1 ≤ R.frames) (hlo : 8 + (maxL + 11) + lo ≤ R.locals) (hn : As.length = n) (st : List Value) (hst : st = (As.reverse ++ rest)) (hrs : (rest.map fun v => v.category).sum ≤ 8) (hcl : cells ≤ R.cells) (hsl : slots ≤ R.slots) (isC isR : List Nat) (hC : isC.map (fun i => ws[i]?) = wc.map some) (hC2 : isC.filterMap (fun i => ws[i]?) = wc) (hnC : va_nd isC = true) (hR : isR.map (fun i => ws[i]?) = wr.map some) (hnR : va_nd isR = true) (hdis : ∀ i ∈ isR, i ∉ isC) (isO : List Nat) (w2 : va_W) (hO : isO.map (fun i => (wr ++ wz)[i]?) = w2.map some) (hO2 : isO.filterMap (fun i => (wr ++ wz)[i]?) = w2) (hnO : va_nd isO = true) (n1 : Nat) (h1 : pc + 3 = n1) (kk : J D A p l e R s m args below meth c cells slots Q nL w2 lv n1 rest) : J D A p l e R s m args below meth c cells slots Q nL ws lv pc st := j_callSv C hM g hd hw hy hfr hlo hn st hst hrs hcl hsl isC isR hC hC2 hnC hR hnR hdis isO (fun _ => w2) (fun _ => hO) (fun _ => hO2) hnO n1 h1 (fun _ _ => kk)
theorem j_callNi (C : Cx own Ts cc nL ret D cI cZ cH A p s m args meth c) {y : MethodName} {wy wy2 : List Cond} {fr lo n index maxL : Nat} {As : List Value} {wc wr : va_W} {S : Type} {post : Int32 → S → Prop} {w1 : S → va_W} {bytes : ByteArray} {rt : Option FieldType} (hM : Mi l D cI cZ cH y wy fr lo As wc post w1) (g : GoodIn Ts wy) (kN : Nat) (hN : nestL[kN]? = some (own, index, y, RX8)) (iS iI : Nat) (hS1 : Ts[iS]? = some (.static y)) (hI1 : Ts[iI]? = some (.initialized y.cls)) (hd : decode cc pc = .ok (.invokestatic index, 3)) (hw : wy = Cond.code y bytes maxL rt :: wy2) (hy : y.cls ≠ "java/lang/invoke/MethodHandle" ∧ y.cls ≠ "java/lang/invoke/VarHandle" ∧ (parseMethodDescriptor y.desc).map (fun d => d.parameters.length) = some n) (hfr : fr + 1 ≤ R.frames) (hlo : 8 + (maxL + 11) + lo ≤ R.locals) (hn : As.length = n) (st : List Value) (hst : st = (As.reverse ++ rest)) (hrs : (rest.map fun v => v.category).sum ≤ 8) (hcl : cells ≤ R.cells) (hsl : slots ≤ R.slots) (isC isR : List Nat) (hC : isC.map (fun i => ws[i]?) = wc.map some) (hC2 : isC.filterMap (fun i => ws[i]?) = wc) (hnC : va_nd isC = true) (hR : isR.map (fun i => ws[i]?) = wr.map some) (hnR : va_nd isR = true) (hdis : ∀ i ∈ isR, i ∉ isC) (isO : List Nat) (w2 : S → va_W) (hO : ∀ u, isO.map (fun i => (wr ++ w1 u)[i]?) = (w2 u).map some) (hO2 : ∀ u, isO.filterMap (fun i => (wr ++ w1 u)[i]?) = w2 u) (hnO : va_nd isO = true) (n1 : Nat) (h1 : pc + 3 = n1) (kk : ∀ (r : Int32) (u : S), post r u → J D A p l e R s m args below meth c cells slots Q nL (w2 u) lv n1 (.int r :: rest)) : J D A p l e R s m args below meth c cells slots Q nL ws lv pc st := by
  intro H locs ls hP hD hS hl
  subst hst
  have hPc := hP.sub isC hC2
  have hDc := hD.sub isC hnC hC
  have hFc := va_free (wc := wc) hD hS C.2.2.2.2.1 isC hC
  refine va_calli (va_runSN (As := As) (rest := rest) (host := RX8) ⟨C.1.1, C.1.2.1, C.1.2.2.2.1, C.1.2.2.2.2, C.2.1⟩ (hM H.size) ⟨va_cnB n C.2.1 g hw rfl rfl (C.2.2.2.1 _ (List.mem_of_getElem? hN)) (C.2.1 _ (List.mem_of_getElem? hI1)) hy ⟨hfr, hlo⟩, C.2.1 _ (List.mem_of_getElem? hS1), trivial⟩ ⟨Pre.blind, fun U hU hW => ⟨rfl, by rw [hU], by rw [hU]; exact hPc, ⟨va_K.moved hW.alike C.2.2.1, C.2.2.2.1.warm hW⟩, hDc.weaken (fun _ _ _ _ => trivial)⟩⟩ rfl hn hl.1 rfl (lv_room hrs) hd ⟨hcl, hsl⟩) hS (fun q _ h => hFc q h) hFc (fun r u t H1 locs1 ht hvm hpo hB hz1 hk1 hS1 => ?_)
  obtain ⟨hP1, hD1⟩ := hB
  rw [ht] at hP1
  obtain ⟨hP2, hD2⟩ := va_join hP hD isC isR hC hR hnR hdis hk1 hFc hP1 hD1
  rw [h1]
  exact kk r u hpo H1 locs1 ls (hP2.sub isO (hO2 u)) (hD2.sub isO hnO (hO u)) hS1 hl
theorem j_callNi1 (C : Cx own Ts cc nL ret D cI cZ cH A p s m args meth c) {y : MethodName} {wy wy2 : List Cond} {fr lo n index maxL : Nat} {As : List Value} {wc wr wz : va_W} {res : Int32} {bytes : ByteArray} {rt : Option FieldType} (hM : Mi l D cI cZ cH y wy fr lo As wc (fun (r9 : Int32) (_ : Unit) => r9 = res) (fun (_ : Unit) => wz)) (g : GoodIn Ts wy) (kN : Nat) (hN : nestL[kN]? = some (own, index, y, RX8)) (iS iI : Nat) (hS1 : Ts[iS]? = some (.static y)) (hI1 : Ts[iI]? = some (.initialized y.cls)) (hd : decode cc pc = .ok (.invokestatic index, 3)) (hw : wy = Cond.code y bytes maxL rt :: wy2) (hy : y.cls ≠ "java/lang/invoke/MethodHandle" ∧ y.cls ≠ "java/lang/invoke/VarHandle" ∧ (parseMethodDescriptor y.desc).map (fun d => d.parameters.length) = some n) (hfr : fr + 1 ≤ R.frames) (hlo : 8 + (maxL + 11) + lo ≤ R.locals) (hn : As.length = n) (st : List Value) (hst : st = (As.reverse ++ rest)) (hrs : (rest.map fun v => v.category).sum ≤ 8) (hcl : cells ≤ R.cells) (hsl : slots ≤ R.slots) (isC isR : List Nat) (hC : isC.map (fun i => ws[i]?) = wc.map some) (hC2 : isC.filterMap (fun i => ws[i]?) = wc) (hnC : va_nd isC = true) (hR : isR.map (fun i => ws[i]?) = wr.map some) (hnR : va_nd isR = true) (hdis : ∀ i ∈ isR, i ∉ isC) (isO : List Nat) (w2 : va_W) (hO : isO.map (fun i => (wr ++ wz)[i]?) = w2.map some) (hO2 : isO.filterMap (fun i => (wr ++ wz)[i]?) = w2) (hnO : va_nd isO = true) (n1 : Nat) (h1 : pc + 3 = n1) (kk : J D A p l e R s m args below meth c cells slots Q nL w2 lv n1 (.int res :: rest)) : J D A p l e R s m args below meth c cells slots Q nL ws lv pc st := j_callNi C hM g kN hN iS iI hS1 hI1 hd hw hy hfr hlo hn st hst hrs hcl hsl isC isR hC hC2 hnC hR hnR hdis isO (fun _ => w2) (fun _ => hO) (fun _ => hO2) hnO n1 h1 (fun r9 _ hr => by subst hr; exact kk)
theorem j_callNv (C : Cx own Ts cc nL ret D cI cZ cH A p s m args meth c) {y : MethodName} {wy wy2 : List Cond} {fr lo n index maxL : Nat} {As : List Value} {wc wr : va_W} {S : Type} {post : S → Prop} {w1 : S → va_W} {bytes : ByteArray} {rt : Option FieldType} (hM : Mv l D cI cZ cH y wy fr lo As wc post w1) (g : GoodIn Ts wy) (kN : Nat) (hN : nestL[kN]? = some (own, index, y, RX8)) (iS iI : Nat) (hS1 : Ts[iS]? = some (.static y)) (hI1 : Ts[iI]? = some (.initialized y.cls)) (hd : decode cc pc = .ok (.invokestatic index, 3)) (hw : wy = Cond.code y bytes maxL rt :: wy2) (hy : y.cls ≠ "java/lang/invoke/MethodHandle" ∧ y.cls ≠ "java/lang/invoke/VarHandle" ∧ (parseMethodDescriptor y.desc).map (fun d => d.parameters.length) = some n) (hfr : fr + 1 ≤ R.frames) (hlo : 8 + (maxL + 11) + lo ≤ R.locals) (hn : As.length = n) (st : List Value) (hst : st = (As.reverse ++ rest)) (hrs : (rest.map fun v => v.category).sum ≤ 8) (hcl : cells ≤ R.cells) (hsl : slots ≤ R.slots) (isC isR : List Nat) (hC : isC.map (fun i => ws[i]?) = wc.map some) (hC2 : isC.filterMap (fun i => ws[i]?) = wc) (hnC : va_nd isC = true) (hR : isR.map (fun i => ws[i]?) = wr.map some) (hnR : va_nd isR = true) (hdis : ∀ i ∈ isR, i ∉ isC) (isO : List Nat) (w2 : S → va_W) (hO : ∀ u, isO.map (fun i => (wr ++ w1 u)[i]?) = (w2 u).map some) (hO2 : ∀ u, isO.filterMap (fun i => (wr ++ w1 u)[i]?) = w2 u) (hnO : va_nd isO = true) (n1 : Nat) (h1 : pc + 3 = n1) (kk : ∀ (u : S), post u → J D A p l e R s m args below meth c cells slots Q nL (w2 u) lv n1 rest) : J D A p l e R s m args below meth c cells slots Q nL ws lv pc st := by
  intro H locs ls hP hD hS hl
  subst hst
  have hPc := hP.sub isC hC2
  have hDc := hD.sub isC hnC hC
  have hFc := va_free (wc := wc) hD hS C.2.2.2.2.1 isC hC
  refine va_callv (va_runSN (As := As) (rest := rest) (host := RX8) ⟨C.1.1, C.1.2.1, C.1.2.2.2.1, C.1.2.2.2.2, C.2.1⟩ (hM H.size) ⟨va_cnB n C.2.1 g hw rfl rfl (C.2.2.2.1 _ (List.mem_of_getElem? hN)) (C.2.1 _ (List.mem_of_getElem? hI1)) hy ⟨hfr, hlo⟩, C.2.1 _ (List.mem_of_getElem? hS1), trivial⟩ ⟨Pre.blind, fun U hU hW => ⟨rfl, by rw [hU], by rw [hU]; exact hPc, ⟨va_K.moved hW.alike C.2.2.1, C.2.2.2.1.warm hW⟩, hDc.weaken (fun _ _ _ _ => trivial)⟩⟩ rfl hn hl.1 rfl (lv_room hrs) hd ⟨hcl, hsl⟩) hS (fun q _ h => hFc q h) hFc (fun u t H1 locs1 ht hvm hpo hB hz1 hk1 hS1 => ?_)
  obtain ⟨hP1, hD1⟩ := hB
  rw [ht] at hP1
  obtain ⟨hP2, hD2⟩ := va_join hP hD isC isR hC hR hnR hdis hk1 hFc hP1 hD1
  rw [h1]
  exact kk u hpo H1 locs1 ls (hP2.sub isO (hO2 u)) (hD2.sub isO hnO (hO u)) hS1 hl
theorem j_callNv1 (C : Cx own Ts cc nL ret D cI cZ cH A p s m args meth c) {y : MethodName} {wy wy2 : List Cond} {fr lo n index maxL : Nat} {As : List Value} {wc wr wz : va_W} {bytes : ByteArray} {rt : Option FieldType} (hM : Mv l D cI cZ cH y wy fr lo As wc (fun (_ : Unit) => True) (fun (_ : Unit) => wz)) (g : GoodIn Ts wy) (kN : Nat) (hN : nestL[kN]? = some (own, index, y, RX8)) (iS iI : Nat) (hS1 : Ts[iS]? = some (.static y)) (hI1 : Ts[iI]? = some (.initialized y.cls)) (hd : decode cc pc = .ok (.invokestatic index, 3)) (hw : wy = Cond.code y bytes maxL rt :: wy2) (hy : y.cls ≠ "java/lang/invoke/MethodHandle" ∧ y.cls ≠ "java/lang/invoke/VarHandle" ∧ (parseMethodDescriptor y.desc).map (fun d => d.parameters.length) = some n) (hfr : fr + 1 ≤ R.frames) (hlo : 8 + (maxL + 11) + lo ≤ R.locals) (hn : As.length = n) (st : List Value) (hst : st = (As.reverse ++ rest)) (hrs : (rest.map fun v => v.category).sum ≤ 8) (hcl : cells ≤ R.cells) (hsl : slots ≤ R.slots) (isC isR : List Nat) (hC : isC.map (fun i => ws[i]?) = wc.map some) (hC2 : isC.filterMap (fun i => ws[i]?) = wc) (hnC : va_nd isC = true) (hR : isR.map (fun i => ws[i]?) = wr.map some) (hnR : va_nd isR = true) (hdis : ∀ i ∈ isR, i ∉ isC) (isO : List Nat) (w2 : va_W) (hO : isO.map (fun i => (wr ++ wz)[i]?) = w2.map some) (hO2 : isO.filterMap (fun i => (wr ++ wz)[i]?) = w2) (hnO : va_nd isO = true) (n1 : Nat) (h1 : pc + 3 = n1) (kk : J D A p l e R s m args below meth c cells slots Q nL w2 lv n1 rest) : J D A p l e R s m args below meth c cells slots Q nL ws lv pc st := j_callNv C hM g kN hN iS iI hS1 hI1 hd hw hy hfr hlo hn st hst hrs hcl hsl isC isR hC hC2 hnC hR hnR hdis isO (fun _ => w2) (fun _ => hO) (fun _ => hO2) hnO n1 h1 (fun _ _ => kk)
theorem j_max (C : Cx own Ts cc nL ret D cI cZ cH A p s m args meth c) {index : Nat} {x y : Int32} (hd : decode cc pc = .ok (.invokestatic index, 3)) (i0 i1 i2 i3 : Nat) (hl0 : Ts[i0]? = some (.methodLink own index Lib.Math.max.name)) (hl1 : Ts[i1]? = some (.static Lib.Math.max.name)) (hl2 : Ts[i2]? = some (.initialized "java/lang/Math")) (hl3 : Ts[i3]? = some (.code Lib.Math.max.name Lib.Math.max.code 2 (some .int))) (hfr : 1 ≤ R.frames) (hlo : (rest.map fun v => v.category).sum + 13 ≤ R.locals) (hcl : cells ≤ R.cells) (hsl : slots ≤ R.slots) (z : Int32) (hz : (if x < y then y else x) = z) (n1 : Nat) (h1 : pc + 3 = n1) (kk : J D A p l e R s m args below meth c cells slots Q nL ws lv n1 (.int z :: rest)) : J D A p l e R s m args below meth c cells slots Q nL ws lv pc (.int y :: .int x :: rest) := fun H locs ls hP hD hS hl => va_mmax C.1.1 C.1.2.1 (by rw [C.1.2.2.2.1, hl.1]) C.1.2.2.2.2 (C.2.1 _ (List.mem_of_getElem? hl0)) (C.2.1 _ (List.mem_of_getElem? hl1)) (C.2.1 _ (List.mem_of_getElem? hl2)) (C.2.1 _ (List.mem_of_getElem? hl3)) hfr hlo hcl hsl hd (by rw [h1, hz]; exact kk H locs ls hP hD hS hl)
theorem j_min (C : Cx own Ts cc nL ret D cI cZ cH A p s m args meth c) {index : Nat} {x y : Int32} (hd : decode cc pc = .ok (.invokestatic index, 3)) (i0 i1 i2 i3 : Nat) (hl0 : Ts[i0]? = some (.methodLink own index Lib.Math.min.name)) (hl1 : Ts[i1]? = some (.static Lib.Math.min.name)) (hl2 : Ts[i2]? = some (.initialized "java/lang/Math")) (hl3 : Ts[i3]? = some (.code Lib.Math.min.name Lib.Math.min.code 2 (some .int))) (hfr : 1 ≤ R.frames) (hlo : (rest.map fun v => v.category).sum + 13 ≤ R.locals) (hcl : cells ≤ R.cells) (hsl : slots ≤ R.slots) (z : Int32) (hz : (if y < x then y else x) = z) (n1 : Nat) (h1 : pc + 3 = n1) (kk : J D A p l e R s m args below meth c cells slots Q nL ws lv n1 (.int z :: rest)) : J D A p l e R s m args below meth c cells slots Q nL ws lv pc (.int y :: .int x :: rest) := fun H locs ls hP hD hS hl => va_mmin C.1.1 C.1.2.1 (by rw [C.1.2.2.2.1, hl.1]) C.1.2.2.2.2 (C.2.1 _ (List.mem_of_getElem? hl0)) (C.2.1 _ (List.mem_of_getElem? hl1)) (C.2.1 _ (List.mem_of_getElem? hl2)) (C.2.1 _ (List.mem_of_getElem? hl3)) hfr hlo hcl hsl hd (by rw [h1, hz]; exact kk H locs ls hP hD hS hl)
theorem j_abs (C : Cx own Ts cc nL ret D cI cZ cH A p s m args meth c) {index : Nat} {x : Int32} (hd : decode cc pc = .ok (.invokestatic index, 3)) (i0 i1 i2 i3 : Nat) (hl0 : Ts[i0]? = some (.methodLink own index Lib.Math.abs.name)) (hl1 : Ts[i1]? = some (.static Lib.Math.abs.name)) (hl2 : Ts[i2]? = some (.initialized "java/lang/Math")) (hl3 : Ts[i3]? = some (.code Lib.Math.abs.name Lib.Math.abs.code 1 (some .int))) (hfr : 1 ≤ R.frames) (hlo : (rest.map fun v => v.category).sum + 13 ≤ R.locals) (hcl : cells ≤ R.cells) (hsl : slots ≤ R.slots) (z : Int32) (hz : (if 0 ≤ x then x else 0 - x) = z) (n1 : Nat) (h1 : pc + 3 = n1) (kk : J D A p l e R s m args below meth c cells slots Q nL ws lv n1 (.int z :: rest)) : J D A p l e R s m args below meth c cells slots Q nL ws lv pc (.int x :: rest) := fun H locs ls hP hD hS hl => va_mabs C.1.1 C.1.2.1 (by rw [C.1.2.2.2.1, hl.1]) C.1.2.2.2.2 (C.2.1 _ (List.mem_of_getElem? hl0)) (C.2.1 _ (List.mem_of_getElem? hl1)) (C.2.1 _ (List.mem_of_getElem? hl2)) (C.2.1 _ (List.mem_of_getElem? hl3)) hfr hlo hcl hsl hd (by rw [h1, hz]; exact kk H locs ls hP hD hS hl)
theorem aN_cpy (f g : Nat → Nat) (n : Nat) : va_cpy (aN f) (aN g) 0 0 n = aN (fun j => if j < n then f j else g j) := by
  funext j
  simp only [va_cpy, aN, Nat.zero_le, true_and, Nat.zero_add, Nat.sub_zero]
  split <;> rfl
theorem j_copy (C : Cx own Ts cc nL ret D cI cZ cH A p s m args meth c) {index a0 a n0 n1 n : Nat} {f g : Nat → Nat} (hd : decode cc pc = .ok (.invokestatic index, 3)) (i0 i1 i2 i3 : Nat) (hl0 : Ts[i0]? = some (.methodLink own index arraycopyName)) (hl1 : Ts[i1]? = some (.native arraycopyName)) (hl2 : Ts[i2]? = some (.static arraycopyName)) (hl3 : Ts[i3]? = some (.initialized "java/lang/System")) (q0 q1 : Nat) (he0 : ws[q0]? = some (a0, .inl (cI, n0, .inl (aN f)))) (he1 : ws[q1]? = some (a, .inl (cI, n1, .inl (aN g)))) (h0 : n ≤ n0) (h1 : n ≤ n1) (hb : n < 2 ^ 31) (hfr : 1 ≤ R.frames) (hlo : (rest.map fun v => v.category).sum + (nativeFrameWords "java/lang/System" "arraycopy" 5 + 11) ≤ R.locals) (ws2 : va_W) (hw : ws.set q1 (a, .inl (cI, n1, .inl (aN (fun j => if j < n then f j else g j)))) = ws2) (m1 : Nat) (hm1 : pc + 3 = m1) (kk : J D A p l e R s m args below meth c cells slots Q nL ws2 lv m1 rest) : J D A p l e R s m args below meth c cells slots Q nL ws lv pc (.int (nI n) :: .int (nI 0) :: .ref a :: .int (nI 0) :: .ref a0 :: rest) := fun H locs ls hP hD hS hl => va_copyi C.1.1 C.1.2.1 (by rw [C.1.2.2.2.1, hl.1]) C.1.2.2.2.2 (C.2.1 _ (List.mem_of_getElem? hl0)) (C.2.1 _ (List.mem_of_getElem? hl1)) (C.2.1 _ (List.mem_of_getElem? hl2)) (C.2.1 _ (List.mem_of_getElem? hl3)) C.2.2.1 hP hD hS q0 q1 0 0 (ty := .int) he0 he1 rfl rfl rfl (nI_pos (by omega)) (nI_pos (by omega)) (nI_pos hb) (by rw [nI_clamp hb, nI_clamp (by omega)]; omega) (by rw [nI_clamp hb, nI_clamp (by omega)]; omega) (fun _ _ => rfl) hfr hlo hd (fun H1 locs1 hP1 hD1 hS1 => by rw [nI_clamp hb, nI_clamp (by omega), aN_cpy, hw] at hP1 hD1; rw [hm1]; exact kk H1 locs1 ls hP1 hD1 hS1 hl)
theorem j_lveq (lv2 : List (Nat × Value)) (h : lv = lv2) (k : J D A p l e R s m args below meth c cells slots Q nL ws lv2 pc rest) : J D A p l e R s m args below meth c cells slots Q nL ws lv pc rest := by
  subst h
  exact k
theorem j_zast (C : Cx own Ts cc nL ret D cI cZ cH A p s m args meth c) {n a i : Nat} {x : Int32} {f : Nat → Int32} (hd : decode cc pc = .ok (.bastore, 1)) (q0 : Nat) (he : ws[q0]? = some (a, .inl (cZ, n, .inl f))) (hi : i < n) (hn : n < 2 ^ 31) (hx : vp_nar .boolean x = x) (f2 : Nat → Int32) (hf : upd f i x = f2) (ws2 : va_W) (hw : ws.set q0 (a, .inl (cZ, n, .inl f2)) = ws2) (n1 : Nat) (h1 : pc + 1 = n1) (kk : J D A p l e R s m args below meth c cells slots Q nL ws2 lv n1 rest) : J D A p l e R s m args below meth c cells slots Q nL ws lv pc (.int x :: .int (nI i) :: .ref a :: rest) := fun H locs ls hP hD hS hl2 => va_zast C.1.1 C.1.2.1 C.2.2.1 hP hD hS q0 1 he rfl (vp_in_nI hi hn) hd (fun H1 locs1 hP1 hD1 hS1 => by rw [nI_clamp (Nat.lt_trans hi hn), hx, hf, hw] at hP1 hD1; rw [h1]; exact kk H1 locs1 ls hP1 hD1 hS1 hl2)
theorem j_loop1 {A1 : Type} (I : A1 → Prop) (μ : A1 → Nat) (wf : A1 → va_W) (lf : A1 → List (Nat × Value)) (step : ∀ (a1 : A1), I a1 → (∀ (b1 : A1), I b1 → μ b1 < μ a1 → J D A p l e R s m args below meth c cells slots Q nL (wf b1) (lf b1) pc rest) → J D A p l e R s m args below meth c cells slots Q nL (wf a1) (lf a1) pc rest) (a1 : A1) (h : I a1) (hw : ws = wf a1) (hl : lv = lf a1) : J D A p l e R s m args below meth c cells slots Q nL ws lv pc rest := by
  subst hw hl
  have key : ∀ (n : Nat) (a1 : A1), I a1 → μ a1 < n → J D A p l e R s m args below meth c cells slots Q nL (wf a1) (lf a1) pc rest := by
    intro n
    induction n with
    | zero => intro _ _ h; exact absurd h (Nat.not_lt_zero _)
    | succ n ih => intro a1 hI hn; exact step a1 hI (fun b1 hb hlt => ih b1 hb (Nat.lt_of_lt_of_le hlt (Nat.le_of_lt_succ hn)))
  exact key _ a1 h (Nat.lt_succ_self _)
theorem j_loop2 {A1 A2 : Type} (I : A1 → A2 → Prop) (μ : A1 → A2 → Nat) (wf : A1 → A2 → va_W) (lf : A1 → A2 → List (Nat × Value)) (step : ∀ (a1 : A1) (a2 : A2), I a1 a2 → (∀ (b1 : A1) (b2 : A2), I b1 b2 → μ b1 b2 < μ a1 a2 → J D A p l e R s m args below meth c cells slots Q nL (wf b1 b2) (lf b1 b2) pc rest) → J D A p l e R s m args below meth c cells slots Q nL (wf a1 a2) (lf a1 a2) pc rest) (a1 : A1) (a2 : A2) (h : I a1 a2) (hw : ws = wf a1 a2) (hl : lv = lf a1 a2) : J D A p l e R s m args below meth c cells slots Q nL ws lv pc rest := by
  subst hw hl
  have key : ∀ (n : Nat) (a1 : A1) (a2 : A2), I a1 a2 → μ a1 a2 < n → J D A p l e R s m args below meth c cells slots Q nL (wf a1 a2) (lf a1 a2) pc rest := by
    intro n
    induction n with
    | zero => intro _ _ _ h; exact absurd h (Nat.not_lt_zero _)
    | succ n ih => intro a1 a2 hI hn; exact step a1 a2 hI (fun b1 b2 hb hlt => ih b1 b2 hb (Nat.lt_of_lt_of_le hlt (Nat.le_of_lt_succ hn)))
  exact key _ a1 a2 h (Nat.lt_succ_self _)
theorem j_loop3 {A1 A2 A3 : Type} (I : A1 → A2 → A3 → Prop) (μ : A1 → A2 → A3 → Nat) (wf : A1 → A2 → A3 → va_W) (lf : A1 → A2 → A3 → List (Nat × Value)) (step : ∀ (a1 : A1) (a2 : A2) (a3 : A3), I a1 a2 a3 → (∀ (b1 : A1) (b2 : A2) (b3 : A3), I b1 b2 b3 → μ b1 b2 b3 < μ a1 a2 a3 → J D A p l e R s m args below meth c cells slots Q nL (wf b1 b2 b3) (lf b1 b2 b3) pc rest) → J D A p l e R s m args below meth c cells slots Q nL (wf a1 a2 a3) (lf a1 a2 a3) pc rest) (a1 : A1) (a2 : A2) (a3 : A3) (h : I a1 a2 a3) (hw : ws = wf a1 a2 a3) (hl : lv = lf a1 a2 a3) : J D A p l e R s m args below meth c cells slots Q nL ws lv pc rest := by
  subst hw hl
  have key : ∀ (n : Nat) (a1 : A1) (a2 : A2) (a3 : A3), I a1 a2 a3 → μ a1 a2 a3 < n → J D A p l e R s m args below meth c cells slots Q nL (wf a1 a2 a3) (lf a1 a2 a3) pc rest := by
    intro n
    induction n with
    | zero => intro _ _ _ _ h; exact absurd h (Nat.not_lt_zero _)
    | succ n ih => intro a1 a2 a3 hI hn; exact step a1 a2 a3 hI (fun b1 b2 b3 hb hlt => ih b1 b2 b3 hb (Nat.lt_of_lt_of_le hlt (Nat.le_of_lt_succ hn)))
  exact key _ a1 a2 a3 h (Nat.lt_succ_self _)
theorem j_loop4 {A1 A2 A3 A4 : Type} (I : A1 → A2 → A3 → A4 → Prop) (μ : A1 → A2 → A3 → A4 → Nat) (wf : A1 → A2 → A3 → A4 → va_W) (lf : A1 → A2 → A3 → A4 → List (Nat × Value)) (step : ∀ (a1 : A1) (a2 : A2) (a3 : A3) (a4 : A4), I a1 a2 a3 a4 → (∀ (b1 : A1) (b2 : A2) (b3 : A3) (b4 : A4), I b1 b2 b3 b4 → μ b1 b2 b3 b4 < μ a1 a2 a3 a4 → J D A p l e R s m args below meth c cells slots Q nL (wf b1 b2 b3 b4) (lf b1 b2 b3 b4) pc rest) → J D A p l e R s m args below meth c cells slots Q nL (wf a1 a2 a3 a4) (lf a1 a2 a3 a4) pc rest) (a1 : A1) (a2 : A2) (a3 : A3) (a4 : A4) (h : I a1 a2 a3 a4) (hw : ws = wf a1 a2 a3 a4) (hl : lv = lf a1 a2 a3 a4) : J D A p l e R s m args below meth c cells slots Q nL ws lv pc rest := by
  subst hw hl
  have key : ∀ (n : Nat) (a1 : A1) (a2 : A2) (a3 : A3) (a4 : A4), I a1 a2 a3 a4 → μ a1 a2 a3 a4 < n → J D A p l e R s m args below meth c cells slots Q nL (wf a1 a2 a3 a4) (lf a1 a2 a3 a4) pc rest := by
    intro n
    induction n with
    | zero => intro _ _ _ _ _ h; exact absurd h (Nat.not_lt_zero _)
    | succ n ih => intro a1 a2 a3 a4 hI hn; exact step a1 a2 a3 a4 hI (fun b1 b2 b3 b4 hb hlt => ih b1 b2 b3 b4 hb (Nat.lt_of_lt_of_le hlt (Nat.le_of_lt_succ hn)))
  exact key _ a1 a2 a3 a4 h (Nat.lt_succ_self _)
theorem j_loop5 {A1 A2 A3 A4 A5 : Type} (I : A1 → A2 → A3 → A4 → A5 → Prop) (μ : A1 → A2 → A3 → A4 → A5 → Nat) (wf : A1 → A2 → A3 → A4 → A5 → va_W) (lf : A1 → A2 → A3 → A4 → A5 → List (Nat × Value)) (step : ∀ (a1 : A1) (a2 : A2) (a3 : A3) (a4 : A4) (a5 : A5), I a1 a2 a3 a4 a5 → (∀ (b1 : A1) (b2 : A2) (b3 : A3) (b4 : A4) (b5 : A5), I b1 b2 b3 b4 b5 → μ b1 b2 b3 b4 b5 < μ a1 a2 a3 a4 a5 → J D A p l e R s m args below meth c cells slots Q nL (wf b1 b2 b3 b4 b5) (lf b1 b2 b3 b4 b5) pc rest) → J D A p l e R s m args below meth c cells slots Q nL (wf a1 a2 a3 a4 a5) (lf a1 a2 a3 a4 a5) pc rest) (a1 : A1) (a2 : A2) (a3 : A3) (a4 : A4) (a5 : A5) (h : I a1 a2 a3 a4 a5) (hw : ws = wf a1 a2 a3 a4 a5) (hl : lv = lf a1 a2 a3 a4 a5) : J D A p l e R s m args below meth c cells slots Q nL ws lv pc rest := by
  subst hw hl
  have key : ∀ (n : Nat) (a1 : A1) (a2 : A2) (a3 : A3) (a4 : A4) (a5 : A5), I a1 a2 a3 a4 a5 → μ a1 a2 a3 a4 a5 < n → J D A p l e R s m args below meth c cells slots Q nL (wf a1 a2 a3 a4 a5) (lf a1 a2 a3 a4 a5) pc rest := by
    intro n
    induction n with
    | zero => intro _ _ _ _ _ _ h; exact absurd h (Nat.not_lt_zero _)
    | succ n ih => intro a1 a2 a3 a4 a5 hI hn; exact step a1 a2 a3 a4 a5 hI (fun b1 b2 b3 b4 b5 hb hlt => ih b1 b2 b3 b4 b5 hb (Nat.lt_of_lt_of_le hlt (Nat.le_of_lt_succ hn)))
  exact key _ a1 a2 a3 a4 a5 h (Nat.lt_succ_self _)
theorem j_loop6 {A1 A2 A3 A4 A5 A6 : Type} (I : A1 → A2 → A3 → A4 → A5 → A6 → Prop) (μ : A1 → A2 → A3 → A4 → A5 → A6 → Nat) (wf : A1 → A2 → A3 → A4 → A5 → A6 → va_W) (lf : A1 → A2 → A3 → A4 → A5 → A6 → List (Nat × Value)) (step : ∀ (a1 : A1) (a2 : A2) (a3 : A3) (a4 : A4) (a5 : A5) (a6 : A6), I a1 a2 a3 a4 a5 a6 → (∀ (b1 : A1) (b2 : A2) (b3 : A3) (b4 : A4) (b5 : A5) (b6 : A6), I b1 b2 b3 b4 b5 b6 → μ b1 b2 b3 b4 b5 b6 < μ a1 a2 a3 a4 a5 a6 → J D A p l e R s m args below meth c cells slots Q nL (wf b1 b2 b3 b4 b5 b6) (lf b1 b2 b3 b4 b5 b6) pc rest) → J D A p l e R s m args below meth c cells slots Q nL (wf a1 a2 a3 a4 a5 a6) (lf a1 a2 a3 a4 a5 a6) pc rest) (a1 : A1) (a2 : A2) (a3 : A3) (a4 : A4) (a5 : A5) (a6 : A6) (h : I a1 a2 a3 a4 a5 a6) (hw : ws = wf a1 a2 a3 a4 a5 a6) (hl : lv = lf a1 a2 a3 a4 a5 a6) : J D A p l e R s m args below meth c cells slots Q nL ws lv pc rest := by
  subst hw hl
  have key : ∀ (n : Nat) (a1 : A1) (a2 : A2) (a3 : A3) (a4 : A4) (a5 : A5) (a6 : A6), I a1 a2 a3 a4 a5 a6 → μ a1 a2 a3 a4 a5 a6 < n → J D A p l e R s m args below meth c cells slots Q nL (wf a1 a2 a3 a4 a5 a6) (lf a1 a2 a3 a4 a5 a6) pc rest := by
    intro n
    induction n with
    | zero => intro _ _ _ _ _ _ _ h; exact absurd h (Nat.not_lt_zero _)
    | succ n ih => intro a1 a2 a3 a4 a5 a6 hI hn; exact step a1 a2 a3 a4 a5 a6 hI (fun b1 b2 b3 b4 b5 b6 hb hlt => ih b1 b2 b3 b4 b5 b6 hb (Nat.lt_of_lt_of_le hlt (Nat.le_of_lt_succ hn)))
  exact key _ a1 a2 a3 a4 a5 a6 h (Nat.lt_succ_self _)
theorem j_loop7 {A1 A2 A3 A4 A5 A6 A7 : Type} (I : A1 → A2 → A3 → A4 → A5 → A6 → A7 → Prop) (μ : A1 → A2 → A3 → A4 → A5 → A6 → A7 → Nat) (wf : A1 → A2 → A3 → A4 → A5 → A6 → A7 → va_W) (lf : A1 → A2 → A3 → A4 → A5 → A6 → A7 → List (Nat × Value)) (step : ∀ (a1 : A1) (a2 : A2) (a3 : A3) (a4 : A4) (a5 : A5) (a6 : A6) (a7 : A7), I a1 a2 a3 a4 a5 a6 a7 → (∀ (b1 : A1) (b2 : A2) (b3 : A3) (b4 : A4) (b5 : A5) (b6 : A6) (b7 : A7), I b1 b2 b3 b4 b5 b6 b7 → μ b1 b2 b3 b4 b5 b6 b7 < μ a1 a2 a3 a4 a5 a6 a7 → J D A p l e R s m args below meth c cells slots Q nL (wf b1 b2 b3 b4 b5 b6 b7) (lf b1 b2 b3 b4 b5 b6 b7) pc rest) → J D A p l e R s m args below meth c cells slots Q nL (wf a1 a2 a3 a4 a5 a6 a7) (lf a1 a2 a3 a4 a5 a6 a7) pc rest) (a1 : A1) (a2 : A2) (a3 : A3) (a4 : A4) (a5 : A5) (a6 : A6) (a7 : A7) (h : I a1 a2 a3 a4 a5 a6 a7) (hw : ws = wf a1 a2 a3 a4 a5 a6 a7) (hl : lv = lf a1 a2 a3 a4 a5 a6 a7) : J D A p l e R s m args below meth c cells slots Q nL ws lv pc rest := by
  subst hw hl
  have key : ∀ (n : Nat) (a1 : A1) (a2 : A2) (a3 : A3) (a4 : A4) (a5 : A5) (a6 : A6) (a7 : A7), I a1 a2 a3 a4 a5 a6 a7 → μ a1 a2 a3 a4 a5 a6 a7 < n → J D A p l e R s m args below meth c cells slots Q nL (wf a1 a2 a3 a4 a5 a6 a7) (lf a1 a2 a3 a4 a5 a6 a7) pc rest := by
    intro n
    induction n with
    | zero => intro _ _ _ _ _ _ _ _ h; exact absurd h (Nat.not_lt_zero _)
    | succ n ih => intro a1 a2 a3 a4 a5 a6 a7 hI hn; exact step a1 a2 a3 a4 a5 a6 a7 hI (fun b1 b2 b3 b4 b5 b6 b7 hb hlt => ih b1 b2 b3 b4 b5 b6 b7 hb (Nat.lt_of_lt_of_le hlt (Nat.le_of_lt_succ hn)))
  exact key _ a1 a2 a3 a4 a5 a6 a7 h (Nat.lt_succ_self _)
end J
theorem q_min {a b : Nat} (ha : a < 2 ^ 31) (hb : b < 2 ^ 31) : (if nI b < nI a then nI b else nI a) = nI (min a b) := by
  simp only [nI_ltI hb ha]
  split <;> congr 1 <;> omega
theorem q_max {a b : Nat} (ha : a < 2 ^ 31) (hb : b < 2 ^ 31) : (if nI a < nI b then nI b else nI a) = nI (max a b) := by
  simp only [nI_ltI ha hb]
  split <;> congr 1 <;> omega
end
section
theorem yd_X0_init : yX0_init.cls = RX0 ∧ yX0_init.cls ≠ "java/lang/invoke/MethodHandle" ∧ yX0_init.cls ≠ "java/lang/invoke/VarHandle" ∧ (parseMethodDescriptor yX0_init.desc).map (fun d => d.parameters.length) = some 0 := by decide +kernel
theorem yd_X0_has : yX0_has.cls = RX0 ∧ yX0_has.cls ≠ "java/lang/invoke/MethodHandle" ∧ yX0_has.cls ≠ "java/lang/invoke/VarHandle" ∧ (parseMethodDescriptor yX0_has.desc).map (fun d => d.parameters.length) = some 1 := by decide +kernel
theorem yd_X0_at : yX0_at.cls = RX0 ∧ yX0_at.cls ≠ "java/lang/invoke/MethodHandle" ∧ yX0_at.cls ≠ "java/lang/invoke/VarHandle" ∧ (parseMethodDescriptor yX0_at.desc).map (fun d => d.parameters.length) = some 1 := by decide +kernel
theorem yd_X0_turn : yX0_turn.cls = RX0 ∧ yX0_turn.cls ≠ "java/lang/invoke/MethodHandle" ∧ yX0_turn.cls ≠ "java/lang/invoke/VarHandle" ∧ (parseMethodDescriptor yX0_turn.desc).map (fun d => d.parameters.length) = some 1 := by decide +kernel
theorem yd_X0_append : yX0_append.cls = RX0 ∧ yX0_append.cls ≠ "java/lang/invoke/MethodHandle" ∧ yX0_append.cls ≠ "java/lang/invoke/VarHandle" ∧ (parseMethodDescriptor yX0_append.desc).map (fun d => d.parameters.length) = some 1 := by decide +kernel
theorem yd_X0_appendNumber : yX0_appendNumber.cls = RX0 ∧ yX0_appendNumber.cls ≠ "java/lang/invoke/MethodHandle" ∧ yX0_appendNumber.cls ≠ "java/lang/invoke/VarHandle" ∧ (parseMethodDescriptor yX0_appendNumber.desc).map (fun d => d.parameters.length) = some 2 := by decide +kernel
theorem yd_X0_takeOver : yX0_takeOver.cls = RX0 ∧ yX0_takeOver.cls ≠ "java/lang/invoke/MethodHandle" ∧ yX0_takeOver.cls ≠ "java/lang/invoke/VarHandle" ∧ (parseMethodDescriptor yX0_takeOver.desc).map (fun d => d.parameters.length) = some 1 := by decide +kernel
theorem yd_X1_init : yX1_init.cls = RX1 ∧ yX1_init.cls ≠ "java/lang/invoke/MethodHandle" ∧ yX1_init.cls ≠ "java/lang/invoke/VarHandle" ∧ (parseMethodDescriptor yX1_init.desc).map (fun d => d.parameters.length) = some 0 := by decide +kernel
theorem yd_X1_isTold : yX1_isTold.cls = RX1 ∧ yX1_isTold.cls ≠ "java/lang/invoke/MethodHandle" ∧ yX1_isTold.cls ≠ "java/lang/invoke/VarHandle" ∧ (parseMethodDescriptor yX1_isTold.desc).map (fun d => d.parameters.length) = some 0 := by decide +kernel
theorem yd_X1_forget : yX1_forget.cls = RX1 ∧ yX1_forget.cls ≠ "java/lang/invoke/MethodHandle" ∧ yX1_forget.cls ≠ "java/lang/invoke/VarHandle" ∧ (parseMethodDescriptor yX1_forget.desc).map (fun d => d.parameters.length) = some 0 := by decide +kernel
theorem yd_X1_takeOver : yX1_takeOver.cls = RX1 ∧ yX1_takeOver.cls ≠ "java/lang/invoke/MethodHandle" ∧ yX1_takeOver.cls ≠ "java/lang/invoke/VarHandle" ∧ (parseMethodDescriptor yX1_takeOver.desc).map (fun d => d.parameters.length) = some 1 := by decide +kernel
theorem yd_X2_init : yX2_init.cls = RX2 ∧ yX2_init.cls ≠ "java/lang/invoke/MethodHandle" ∧ yX2_init.cls ≠ "java/lang/invoke/VarHandle" ∧ (parseMethodDescriptor yX2_init.desc).map (fun d => d.parameters.length) = some 0 := by decide +kernel
theorem yd_X7_endOfBlock : yX7_endOfBlock.cls = RX7 ∧ yX7_endOfBlock.cls ≠ "java/lang/invoke/MethodHandle" ∧ yX7_endOfBlock.cls ≠ "java/lang/invoke/VarHandle" ∧ (parseMethodDescriptor yX7_endOfBlock.desc).map (fun d => d.parameters.length) = some 2 := by decide +kernel
theorem yd_X7_isBare : yX7_isBare.cls = RX7 ∧ yX7_isBare.cls ≠ "java/lang/invoke/MethodHandle" ∧ yX7_isBare.cls ≠ "java/lang/invoke/VarHandle" ∧ (parseMethodDescriptor yX7_isBare.desc).map (fun d => d.parameters.length) = some 1 := by decide +kernel
theorem yd_X6_at : yX6_at.cls = RX6 ∧ yX6_at.cls ≠ "java/lang/invoke/MethodHandle" ∧ yX6_at.cls ≠ "java/lang/invoke/VarHandle" ∧ (parseMethodDescriptor yX6_at.desc).map (fun d => d.parameters.length) = some 1 := by decide +kernel
theorem yd_X8_topOf : yX8_topOf.cls = RX8 ∧ yX8_topOf.cls ≠ "java/lang/invoke/MethodHandle" ∧ yX8_topOf.cls ≠ "java/lang/invoke/VarHandle" ∧ (parseMethodDescriptor yX8_topOf.desc).map (fun d => d.parameters.length) = some 1 := by decide +kernel
theorem yd_X8_toldAhead : yX8_toldAhead.cls = RX8 ∧ yX8_toldAhead.cls ≠ "java/lang/invoke/MethodHandle" ∧ yX8_toldAhead.cls ≠ "java/lang/invoke/VarHandle" ∧ (parseMethodDescriptor yX8_toldAhead.desc).map (fun d => d.parameters.length) = some 4 := by decide +kernel
theorem yd_X7_top : yX7_top.cls = RX7 ∧ yX7_top.cls ≠ "java/lang/invoke/MethodHandle" ∧ yX7_top.cls ≠ "java/lang/invoke/VarHandle" ∧ (parseMethodDescriptor yX7_top.desc).map (fun d => d.parameters.length) = some 0 := by decide +kernel
theorem yd_X8_fold : yX8_fold.cls = RX8 ∧ yX8_fold.cls ≠ "java/lang/invoke/MethodHandle" ∧ yX8_fold.cls ≠ "java/lang/invoke/VarHandle" ∧ (parseMethodDescriptor yX8_fold.desc).map (fun d => d.parameters.length) = some 3 := by decide +kernel
theorem yd_X2_fill : yX2_fill.cls = RX2 ∧ yX2_fill.cls ≠ "java/lang/invoke/MethodHandle" ∧ yX2_fill.cls ≠ "java/lang/invoke/VarHandle" ∧ (parseMethodDescriptor yX2_fill.desc).map (fun d => d.parameters.length) = some 4 := by decide +kernel
theorem yd_X8_isCode : yX8_isCode.cls = RX8 ∧ yX8_isCode.cls ≠ "java/lang/invoke/MethodHandle" ∧ yX8_isCode.cls ≠ "java/lang/invoke/VarHandle" ∧ (parseMethodDescriptor yX8_isCode.desc).map (fun d => d.parameters.length) = some 2 := by decide +kernel
theorem yd_X2_isAllNothing : yX2_isAllNothing.cls = RX2 ∧ yX2_isAllNothing.cls ≠ "java/lang/invoke/MethodHandle" ∧ yX2_isAllNothing.cls ≠ "java/lang/invoke/VarHandle" ∧ (parseMethodDescriptor yX2_isAllNothing.desc).map (fun d => d.parameters.length) = some 0 := by decide +kernel
theorem yd_X2_costBy : yX2_costBy.cls = RX2 ∧ yX2_costBy.cls ≠ "java/lang/invoke/MethodHandle" ∧ yX2_costBy.cls ≠ "java/lang/invoke/VarHandle" ∧ (parseMethodDescriptor yX2_costBy.desc).map (fun d => d.parameters.length) = some 1 := by decide +kernel
theorem yd_X2_writeByNoughts : yX2_writeByNoughts.cls = RX2 ∧ yX2_writeByNoughts.cls ≠ "java/lang/invoke/MethodHandle" ∧ yX2_writeByNoughts.cls ≠ "java/lang/invoke/VarHandle" ∧ (parseMethodDescriptor yX2_writeByNoughts.desc).map (fun d => d.parameters.length) = some 3 := by decide +kernel
theorem yd_X2_write : yX2_write.cls = RX2 ∧ yX2_write.cls ≠ "java/lang/invoke/MethodHandle" ∧ yX2_write.cls ≠ "java/lang/invoke/VarHandle" ∧ (parseMethodDescriptor yX2_write.desc).map (fun d => d.parameters.length) = some 2 := by decide +kernel
theorem yd_X7_init : yX7_init.cls = RX7 ∧ yX7_init.cls ≠ "java/lang/invoke/MethodHandle" ∧ yX7_init.cls ≠ "java/lang/invoke/VarHandle" ∧ (parseMethodDescriptor yX7_init.desc).map (fun d => d.parameters.length) = some 0 := by decide +kernel
theorem yd_X6_init : yX6_init.cls = RX6 ∧ yX6_init.cls ≠ "java/lang/invoke/MethodHandle" ∧ yX6_init.cls ≠ "java/lang/invoke/VarHandle" ∧ (parseMethodDescriptor yX6_init.desc).map (fun d => d.parameters.length) = some 0 := by decide +kernel
theorem yd_X3_init : yX3_init.cls = RX3 ∧ yX3_init.cls ≠ "java/lang/invoke/MethodHandle" ∧ yX3_init.cls ≠ "java/lang/invoke/VarHandle" ∧ (parseMethodDescriptor yX3_init.desc).map (fun d => d.parameters.length) = some 0 := by decide +kernel
theorem yd_X7_takeOver : yX7_takeOver.cls = RX7 ∧ yX7_takeOver.cls ≠ "java/lang/invoke/MethodHandle" ∧ yX7_takeOver.cls ≠ "java/lang/invoke/VarHandle" ∧ (parseMethodDescriptor yX7_takeOver.desc).map (fun d => d.parameters.length) = some 1 := by decide +kernel
theorem yd_X6_takeOver : yX6_takeOver.cls = RX6 ∧ yX6_takeOver.cls ≠ "java/lang/invoke/MethodHandle" ∧ yX6_takeOver.cls ≠ "java/lang/invoke/VarHandle" ∧ (parseMethodDescriptor yX6_takeOver.desc).map (fun d => d.parameters.length) = some 1 := by decide +kernel
theorem yd_X3_takeOver : yX3_takeOver.cls = RX3 ∧ yX3_takeOver.cls ≠ "java/lang/invoke/MethodHandle" ∧ yX3_takeOver.cls ≠ "java/lang/invoke/VarHandle" ∧ (parseMethodDescriptor yX3_takeOver.desc).map (fun d => d.parameters.length) = some 1 := by decide +kernel
theorem yd_X4_init : yX4_init.cls = RX4 ∧ yX4_init.cls ≠ "java/lang/invoke/MethodHandle" ∧ yX4_init.cls ≠ "java/lang/invoke/VarHandle" ∧ (parseMethodDescriptor yX4_init.desc).map (fun d => d.parameters.length) = some 0 := by decide +kernel
theorem yd_X4_keepOnly : yX4_keepOnly.cls = RX4 ∧ yX4_keepOnly.cls ≠ "java/lang/invoke/MethodHandle" ∧ yX4_keepOnly.cls ≠ "java/lang/invoke/VarHandle" ∧ (parseMethodDescriptor yX4_keepOnly.desc).map (fun d => d.parameters.length) = some 1 := by decide +kernel
theorem yd_X4_choose : yX4_choose.cls = RX4 ∧ yX4_choose.cls ≠ "java/lang/invoke/MethodHandle" ∧ yX4_choose.cls ≠ "java/lang/invoke/VarHandle" ∧ (parseMethodDescriptor yX4_choose.desc).map (fun d => d.parameters.length) = some 3 := by decide +kernel
theorem yd_X4_settle : yX4_settle.cls = RX4 ∧ yX4_settle.cls ≠ "java/lang/invoke/MethodHandle" ∧ yX4_settle.cls ≠ "java/lang/invoke/VarHandle" ∧ (parseMethodDescriptor yX4_settle.desc).map (fun d => d.parameters.length) = some 3 := by decide +kernel
theorem yd_X4_costOf : yX4_costOf.cls = RX4 ∧ yX4_costOf.cls ≠ "java/lang/invoke/MethodHandle" ∧ yX4_costOf.cls ≠ "java/lang/invoke/VarHandle" ∧ (parseMethodDescriptor yX4_costOf.desc).map (fun d => d.parameters.length) = some 5 := by decide +kernel
theorem yd_X4_settledWith : yX4_settledWith.cls = RX4 ∧ yX4_settledWith.cls ≠ "java/lang/invoke/MethodHandle" ∧ yX4_settledWith.cls ≠ "java/lang/invoke/VarHandle" ∧ (parseMethodDescriptor yX4_settledWith.desc).map (fun d => d.parameters.length) = some 1 := by decide +kernel
theorem yd_X5_init : yX5_init.cls = RX5 ∧ yX5_init.cls ≠ "java/lang/invoke/MethodHandle" ∧ yX5_init.cls ≠ "java/lang/invoke/VarHandle" ∧ (parseMethodDescriptor yX5_init.desc).map (fun d => d.parameters.length) = some 0 := by decide +kernel
theorem yd_X8_quotient : yX8_quotient.cls = RX8 ∧ yX8_quotient.cls ≠ "java/lang/invoke/MethodHandle" ∧ yX8_quotient.cls ≠ "java/lang/invoke/VarHandle" ∧ (parseMethodDescriptor yX8_quotient.desc).map (fun d => d.parameters.length) = some 2 := by decide +kernel
theorem yd_X8_quotientUp : yX8_quotientUp.cls = RX8 ∧ yX8_quotientUp.cls ≠ "java/lang/invoke/MethodHandle" ∧ yX8_quotientUp.cls ≠ "java/lang/invoke/VarHandle" ∧ (parseMethodDescriptor yX8_quotientUp.desc).map (fun d => d.parameters.length) = some 2 := by decide +kernel
theorem yd_X5_fail : yX5_fail.cls = RX5 ∧ yX5_fail.cls ≠ "java/lang/invoke/MethodHandle" ∧ yX5_fail.cls ≠ "java/lang/invoke/VarHandle" ∧ (parseMethodDescriptor yX5_fail.desc).map (fun d => d.parameters.length) = some 2 := by decide +kernel
theorem yd_X5_takeNumber : yX5_takeNumber.cls = RX5 ∧ yX5_takeNumber.cls ≠ "java/lang/invoke/MethodHandle" ∧ yX5_takeNumber.cls ≠ "java/lang/invoke/VarHandle" ∧ (parseMethodDescriptor yX5_takeNumber.desc).map (fun d => d.parameters.length) = some 2 := by decide +kernel
theorem yd_X5_takeByNoughts : yX5_takeByNoughts.cls = RX5 ∧ yX5_takeByNoughts.cls ≠ "java/lang/invoke/MethodHandle" ∧ yX5_takeByNoughts.cls ≠ "java/lang/invoke/VarHandle" ∧ (parseMethodDescriptor yX5_takeByNoughts.desc).map (fun d => d.parameters.length) = some 3 := by decide +kernel
theorem yd_X8_unfold : yX8_unfold.cls = RX8 ∧ yX8_unfold.cls ≠ "java/lang/invoke/MethodHandle" ∧ yX8_unfold.cls ≠ "java/lang/invoke/VarHandle" ∧ (parseMethodDescriptor yX8_unfold.desc).map (fun d => d.parameters.length) = some 3 := by decide +kernel
theorem yd_X5_takeTold : yX5_takeTold.cls = RX5 ∧ yX5_takeTold.cls ≠ "java/lang/invoke/MethodHandle" ∧ yX5_takeTold.cls ≠ "java/lang/invoke/VarHandle" ∧ (parseMethodDescriptor yX5_takeTold.desc).map (fun d => d.parameters.length) = some 4 := by decide +kernel
theorem yd_X6_append : yX6_append.cls = RX6 ∧ yX6_append.cls ≠ "java/lang/invoke/MethodHandle" ∧ yX6_append.cls ≠ "java/lang/invoke/VarHandle" ∧ (parseMethodDescriptor yX6_append.desc).map (fun d => d.parameters.length) = some 1 := by decide +kernel
theorem yd_X5_takeBlock : yX5_takeBlock.cls = RX5 ∧ yX5_takeBlock.cls ≠ "java/lang/invoke/MethodHandle" ∧ yX5_takeBlock.cls ≠ "java/lang/invoke/VarHandle" ∧ (parseMethodDescriptor yX5_takeBlock.desc).map (fun d => d.parameters.length) = some 3 := by decide +kernel
theorem yd_X5_takeAll : yX5_takeAll.cls = RX5 ∧ yX5_takeAll.cls ≠ "java/lang/invoke/MethodHandle" ∧ yX5_takeAll.cls ≠ "java/lang/invoke/VarHandle" ∧ (parseMethodDescriptor yX5_takeAll.desc).map (fun d => d.parameters.length) = some 3 := by decide +kernel
theorem yd_X6_has : yX6_has.cls = RX6 ∧ yX6_has.cls ≠ "java/lang/invoke/MethodHandle" ∧ yX6_has.cls ≠ "java/lang/invoke/VarHandle" ∧ (parseMethodDescriptor yX6_has.desc).map (fun d => d.parameters.length) = some 1 := by decide +kernel
theorem yd_X6_highest : yX6_highest.cls = RX6 ∧ yX6_highest.cls ≠ "java/lang/invoke/MethodHandle" ∧ yX6_highest.cls ≠ "java/lang/invoke/VarHandle" ∧ (parseMethodDescriptor yX6_highest.desc).map (fun d => d.parameters.length) = some 0 := by decide +kernel
theorem yd_X7_segmentSize : yX7_segmentSize.cls = RX7 ∧ yX7_segmentSize.cls ≠ "java/lang/invoke/MethodHandle" ∧ yX7_segmentSize.cls ≠ "java/lang/invoke/VarHandle" ∧ (parseMethodDescriptor yX7_segmentSize.desc).map (fun d => d.parameters.length) = some 0 := by decide +kernel
theorem yd_X7_blockWith : yX7_blockWith.cls = RX7 ∧ yX7_blockWith.cls ≠ "java/lang/invoke/MethodHandle" ∧ yX7_blockWith.cls ≠ "java/lang/invoke/VarHandle" ∧ (parseMethodDescriptor yX7_blockWith.desc).map (fun d => d.parameters.length) = some 1 := by decide +kernel
theorem yd_X7_value : yX7_value.cls = RX7 ∧ yX7_value.cls ≠ "java/lang/invoke/MethodHandle" ∧ yX7_value.cls ≠ "java/lang/invoke/VarHandle" ∧ (parseMethodDescriptor yX7_value.desc).map (fun d => d.parameters.length) = some 1 := by decide +kernel
theorem yd_X7_change : yX7_change.cls = RX7 ∧ yX7_change.cls ≠ "java/lang/invoke/MethodHandle" ∧ yX7_change.cls ≠ "java/lang/invoke/VarHandle" ∧ (parseMethodDescriptor yX7_change.desc).map (fun d => d.parameters.length) = some 2 := by decide +kernel
theorem yd_X8_init : yX8_init.cls = RX8 ∧ yX8_init.cls ≠ "java/lang/invoke/MethodHandle" ∧ yX8_init.cls ≠ "java/lang/invoke/VarHandle" ∧ (parseMethodDescriptor yX8_init.desc).map (fun d => d.parameters.length) = some 0 := by decide +kernel
theorem yd_X8_rule : yX8_rule.cls = RX8 ∧ yX8_rule.cls ≠ "java/lang/invoke/MethodHandle" ∧ yX8_rule.cls ≠ "java/lang/invoke/VarHandle" ∧ (parseMethodDescriptor yX8_rule.desc).map (fun d => d.parameters.length) = some 2 := by decide +kernel
theorem yd_X8_add : yX8_add.cls = RX8 ∧ yX8_add.cls ≠ "java/lang/invoke/MethodHandle" ∧ yX8_add.cls ≠ "java/lang/invoke/VarHandle" ∧ (parseMethodDescriptor yX8_add.desc).map (fun d => d.parameters.length) = some 1 := by decide +kernel
theorem yd_X8_clear : yX8_clear.cls = RX8 ∧ yX8_clear.cls ≠ "java/lang/invoke/MethodHandle" ∧ yX8_clear.cls ≠ "java/lang/invoke/VarHandle" ∧ (parseMethodDescriptor yX8_clear.desc).map (fun d => d.parameters.length) = some 0 := by decide +kernel
theorem yd_X8_sample : yX8_sample.cls = RX8 ∧ yX8_sample.cls ≠ "java/lang/invoke/MethodHandle" ∧ yX8_sample.cls ≠ "java/lang/invoke/VarHandle" ∧ (parseMethodDescriptor yX8_sample.desc).map (fun d => d.parameters.length) = some 1 := by decide +kernel
theorem yd_X8_isWay : yX8_isWay.cls = RX8 ∧ yX8_isWay.cls ≠ "java/lang/invoke/MethodHandle" ∧ yX8_isWay.cls ≠ "java/lang/invoke/VarHandle" ∧ (parseMethodDescriptor yX8_isWay.desc).map (fun d => d.parameters.length) = some 1 := by decide +kernel
theorem yd_X8_ahead : yX8_ahead.cls = RX8 ∧ yX8_ahead.cls ≠ "java/lang/invoke/MethodHandle" ∧ yX8_ahead.cls ≠ "java/lang/invoke/VarHandle" ∧ (parseMethodDescriptor yX8_ahead.desc).map (fun d => d.parameters.length) = some 3 := by decide +kernel
theorem yd_X8_blocks : yX8_blocks.cls = RX8 ∧ yX8_blocks.cls ≠ "java/lang/invoke/MethodHandle" ∧ yX8_blocks.cls ≠ "java/lang/invoke/VarHandle" ∧ (parseMethodDescriptor yX8_blocks.desc).map (fun d => d.parameters.length) = some 0 := by decide +kernel
theorem yd_X8_hasBlock : yX8_hasBlock.cls = RX8 ∧ yX8_hasBlock.cls ≠ "java/lang/invoke/MethodHandle" ∧ yX8_hasBlock.cls ≠ "java/lang/invoke/VarHandle" ∧ (parseMethodDescriptor yX8_hasBlock.desc).map (fun d => d.parameters.length) = some 1 := by decide +kernel
theorem yd_X8_cost : yX8_cost.cls = RX8 ∧ yX8_cost.cls ≠ "java/lang/invoke/MethodHandle" ∧ yX8_cost.cls ≠ "java/lang/invoke/VarHandle" ∧ (parseMethodDescriptor yX8_cost.desc).map (fun d => d.parameters.length) = some 3 := by decide +kernel
theorem yd_X8_block : yX8_block.cls = RX8 ∧ yX8_block.cls ≠ "java/lang/invoke/MethodHandle" ∧ yX8_block.cls ≠ "java/lang/invoke/VarHandle" ∧ (parseMethodDescriptor yX8_block.desc).map (fun d => d.parameters.length) = some 2 := by decide +kernel
theorem yd_X8_settleAll : yX8_settleAll.cls = RX8 ∧ yX8_settleAll.cls ≠ "java/lang/invoke/MethodHandle" ∧ yX8_settleAll.cls ≠ "java/lang/invoke/VarHandle" ∧ (parseMethodDescriptor yX8_settleAll.desc).map (fun d => d.parameters.length) = some 0 := by decide +kernel
theorem yd_X8_packed : yX8_packed.cls = RX8 ∧ yX8_packed.cls ≠ "java/lang/invoke/MethodHandle" ∧ yX8_packed.cls ≠ "java/lang/invoke/VarHandle" ∧ (parseMethodDescriptor yX8_packed.desc).map (fun d => d.parameters.length) = some 1 := by decide +kernel
theorem yd_X8_lost : yX8_lost.cls = RX8 ∧ yX8_lost.cls ≠ "java/lang/invoke/MethodHandle" ∧ yX8_lost.cls ≠ "java/lang/invoke/VarHandle" ∧ (parseMethodDescriptor yX8_lost.desc).map (fun d => d.parameters.length) = some 1 := by decide +kernel
theorem yd_X8_tape : yX8_tape.cls = RX8 ∧ yX8_tape.cls ≠ "java/lang/invoke/MethodHandle" ∧ yX8_tape.cls ≠ "java/lang/invoke/VarHandle" ∧ (parseMethodDescriptor yX8_tape.desc).map (fun d => d.parameters.length) = some 0 := by decide +kernel
theorem yd_X8_push : yX8_push.cls = RX8 ∧ yX8_push.cls ≠ "java/lang/invoke/MethodHandle" ∧ yX8_push.cls ≠ "java/lang/invoke/VarHandle" ∧ (parseMethodDescriptor yX8_push.desc).map (fun d => d.parameters.length) = some 1 := by decide +kernel
theorem yd_X8_flip : yX8_flip.cls = RX8 ∧ yX8_flip.cls ≠ "java/lang/invoke/MethodHandle" ∧ yX8_flip.cls ≠ "java/lang/invoke/VarHandle" ∧ (parseMethodDescriptor yX8_flip.desc).map (fun d => d.parameters.length) = some 1 := by decide +kernel
theorem yd_X8_cut : yX8_cut.cls = RX8 ∧ yX8_cut.cls ≠ "java/lang/invoke/MethodHandle" ∧ yX8_cut.cls ≠ "java/lang/invoke/VarHandle" ∧ (parseMethodDescriptor yX8_cut.desc).map (fun d => d.parameters.length) = some 1 := by decide +kernel
theorem yd_X8_bit : yX8_bit.cls = RX8 ∧ yX8_bit.cls ≠ "java/lang/invoke/MethodHandle" ∧ yX8_bit.cls ≠ "java/lang/invoke/VarHandle" ∧ (parseMethodDescriptor yX8_bit.desc).map (fun d => d.parameters.length) = some 1 := by decide +kernel
theorem yd_X8_read : yX8_read.cls = RX8 ∧ yX8_read.cls ≠ "java/lang/invoke/MethodHandle" ∧ yX8_read.cls ≠ "java/lang/invoke/VarHandle" ∧ (parseMethodDescriptor yX8_read.desc).map (fun d => d.parameters.length) = some 1 := by decide +kernel
theorem yd_X8_fault : yX8_fault.cls = RX8 ∧ yX8_fault.cls ≠ "java/lang/invoke/MethodHandle" ∧ yX8_fault.cls ≠ "java/lang/invoke/VarHandle" ∧ (parseMethodDescriptor yX8_fault.desc).map (fun d => d.parameters.length) = some 1 := by decide +kernel
theorem yd_X8_isImage : yX8_isImage.cls = RX8 ∧ yX8_isImage.cls ≠ "java/lang/invoke/MethodHandle" ∧ yX8_isImage.cls ≠ "java/lang/invoke/VarHandle" ∧ (parseMethodDescriptor yX8_isImage.desc).map (fun d => d.parameters.length) = some 1 := by decide +kernel
theorem yd_X8_image : yX8_image.cls = RX8 ∧ yX8_image.cls ≠ "java/lang/invoke/MethodHandle" ∧ yX8_image.cls ≠ "java/lang/invoke/VarHandle" ∧ (parseMethodDescriptor yX8_image.desc).map (fun d => d.parameters.length) = some 1 := by decide +kernel
theorem yd_X8_restore : yX8_restore.cls = RX8 ∧ yX8_restore.cls ≠ "java/lang/invoke/MethodHandle" ∧ yX8_restore.cls ≠ "java/lang/invoke/VarHandle" ∧ (parseMethodDescriptor yX8_restore.desc).map (fun d => d.parameters.length) = some 1 := by decide +kernel
theorem yd_X8_count : yX8_count.cls = RX8 ∧ yX8_count.cls ≠ "java/lang/invoke/MethodHandle" ∧ yX8_count.cls ≠ "java/lang/invoke/VarHandle" ∧ (parseMethodDescriptor yX8_count.desc).map (fun d => d.parameters.length) = some 1 := by decide +kernel
theorem yd_X9_init : yX9_init.cls = RX9 ∧ yX9_init.cls ≠ "java/lang/invoke/MethodHandle" ∧ yX9_init.cls ≠ "java/lang/invoke/VarHandle" ∧ (parseMethodDescriptor yX9_init.desc).map (fun d => d.parameters.length) = some 0 := by decide +kernel
theorem yd_X9_in : yX9_in.cls = RX9 ∧ yX9_in.cls ≠ "java/lang/invoke/MethodHandle" ∧ yX9_in.cls ≠ "java/lang/invoke/VarHandle" ∧ (parseMethodDescriptor yX9_in.desc).map (fun d => d.parameters.length) = some 3 := by decide +kernel
theorem yd_X9_top : yX9_top.cls = RX9 ∧ yX9_top.cls ≠ "java/lang/invoke/MethodHandle" ∧ yX9_top.cls ≠ "java/lang/invoke/VarHandle" ∧ (parseMethodDescriptor yX9_top.desc).map (fun d => d.parameters.length) = some 0 := by decide +kernel
theorem yd_X9_many : yX9_many.cls = RX9 ∧ yX9_many.cls ≠ "java/lang/invoke/MethodHandle" ∧ yX9_many.cls ≠ "java/lang/invoke/VarHandle" ∧ (parseMethodDescriptor yX9_many.desc).map (fun d => d.parameters.length) = some 0 := by decide +kernel
theorem yd_X9_fitsBelow : yX9_fitsBelow.cls = RX9 ∧ yX9_fitsBelow.cls ≠ "java/lang/invoke/MethodHandle" ∧ yX9_fitsBelow.cls ≠ "java/lang/invoke/VarHandle" ∧ (parseMethodDescriptor yX9_fitsBelow.desc).map (fun d => d.parameters.length) = some 1 := by decide +kernel
theorem yd_X9_rule : yX9_rule.cls = RX9 ∧ yX9_rule.cls ≠ "java/lang/invoke/MethodHandle" ∧ yX9_rule.cls ≠ "java/lang/invoke/VarHandle" ∧ (parseMethodDescriptor yX9_rule.desc).map (fun d => d.parameters.length) = some 2 := by decide +kernel
theorem yd_X9_add : yX9_add.cls = RX9 ∧ yX9_add.cls ≠ "java/lang/invoke/MethodHandle" ∧ yX9_add.cls ≠ "java/lang/invoke/VarHandle" ∧ (parseMethodDescriptor yX9_add.desc).map (fun d => d.parameters.length) = some 1 := by decide +kernel
theorem yd_X9_clear : yX9_clear.cls = RX9 ∧ yX9_clear.cls ≠ "java/lang/invoke/MethodHandle" ∧ yX9_clear.cls ≠ "java/lang/invoke/VarHandle" ∧ (parseMethodDescriptor yX9_clear.desc).map (fun d => d.parameters.length) = some 0 := by decide +kernel
theorem yd_X9_sample : yX9_sample.cls = RX9 ∧ yX9_sample.cls ≠ "java/lang/invoke/MethodHandle" ∧ yX9_sample.cls ≠ "java/lang/invoke/VarHandle" ∧ (parseMethodDescriptor yX9_sample.desc).map (fun d => d.parameters.length) = some 1 := by decide +kernel
theorem yd_X9_segmentLong : yX9_segmentLong.cls = RX9 ∧ yX9_segmentLong.cls ≠ "java/lang/invoke/MethodHandle" ∧ yX9_segmentLong.cls ≠ "java/lang/invoke/VarHandle" ∧ (parseMethodDescriptor yX9_segmentLong.desc).map (fun d => d.parameters.length) = some 0 := by decide +kernel
theorem yd_X9_isBare : yX9_isBare.cls = RX9 ∧ yX9_isBare.cls ≠ "java/lang/invoke/MethodHandle" ∧ yX9_isBare.cls ≠ "java/lang/invoke/VarHandle" ∧ (parseMethodDescriptor yX9_isBare.desc).map (fun d => d.parameters.length) = some 1 := by decide +kernel
theorem yd_X9_expected : yX9_expected.cls = RX9 ∧ yX9_expected.cls ≠ "java/lang/invoke/MethodHandle" ∧ yX9_expected.cls ≠ "java/lang/invoke/VarHandle" ∧ (parseMethodDescriptor yX9_expected.desc).map (fun d => d.parameters.length) = some 2 := by decide +kernel
theorem yd_X9_room : yX9_room.cls = RX9 ∧ yX9_room.cls ≠ "java/lang/invoke/MethodHandle" ∧ yX9_room.cls ≠ "java/lang/invoke/VarHandle" ∧ (parseMethodDescriptor yX9_room.desc).map (fun d => d.parameters.length) = some 1 := by decide +kernel
theorem yd_X9_fold : yX9_fold.cls = RX9 ∧ yX9_fold.cls ≠ "java/lang/invoke/MethodHandle" ∧ yX9_fold.cls ≠ "java/lang/invoke/VarHandle" ∧ (parseMethodDescriptor yX9_fold.desc).map (fun d => d.parameters.length) = some 2 := by decide +kernel
theorem yd_X9_unfold : yX9_unfold.cls = RX9 ∧ yX9_unfold.cls ≠ "java/lang/invoke/MethodHandle" ∧ yX9_unfold.cls ≠ "java/lang/invoke/VarHandle" ∧ (parseMethodDescriptor yX9_unfold.desc).map (fun d => d.parameters.length) = some 2 := by decide +kernel
theorem yd_X9_takeRow : yX9_takeRow.cls = RX9 ∧ yX9_takeRow.cls ≠ "java/lang/invoke/MethodHandle" ∧ yX9_takeRow.cls ≠ "java/lang/invoke/VarHandle" ∧ (parseMethodDescriptor yX9_takeRow.desc).map (fun d => d.parameters.length) = some 0 := by decide +kernel
theorem yd_X9_ahead : yX9_ahead.cls = RX9 ∧ yX9_ahead.cls ≠ "java/lang/invoke/MethodHandle" ∧ yX9_ahead.cls ≠ "java/lang/invoke/VarHandle" ∧ (parseMethodDescriptor yX9_ahead.desc).map (fun d => d.parameters.length) = some 3 := by decide +kernel
theorem yd_X9_blocks : yX9_blocks.cls = RX9 ∧ yX9_blocks.cls ≠ "java/lang/invoke/MethodHandle" ∧ yX9_blocks.cls ≠ "java/lang/invoke/VarHandle" ∧ (parseMethodDescriptor yX9_blocks.desc).map (fun d => d.parameters.length) = some 0 := by decide +kernel
theorem yd_X9_firstOf : yX9_firstOf.cls = RX9 ∧ yX9_firstOf.cls ≠ "java/lang/invoke/MethodHandle" ∧ yX9_firstOf.cls ≠ "java/lang/invoke/VarHandle" ∧ (parseMethodDescriptor yX9_firstOf.desc).map (fun d => d.parameters.length) = some 1 := by decide +kernel
theorem yd_X9_less : yX9_less.cls = RX9 ∧ yX9_less.cls ≠ "java/lang/invoke/MethodHandle" ∧ yX9_less.cls ≠ "java/lang/invoke/VarHandle" ∧ (parseMethodDescriptor yX9_less.desc).map (fun d => d.parameters.length) = some 2 := by decide +kernel
theorem yd_X9_endOf : yX9_endOf.cls = RX9 ∧ yX9_endOf.cls ≠ "java/lang/invoke/MethodHandle" ∧ yX9_endOf.cls ≠ "java/lang/invoke/VarHandle" ∧ (parseMethodDescriptor yX9_endOf.desc).map (fun d => d.parameters.length) = some 1 := by decide +kernel
theorem yd_X9_canCode : yX9_canCode.cls = RX9 ∧ yX9_canCode.cls ≠ "java/lang/invoke/MethodHandle" ∧ yX9_canCode.cls ≠ "java/lang/invoke/VarHandle" ∧ (parseMethodDescriptor yX9_canCode.desc).map (fun d => d.parameters.length) = some 1 := by decide +kernel
theorem yd_X9_bitsOf : yX9_bitsOf.cls = RX9 ∧ yX9_bitsOf.cls ≠ "java/lang/invoke/MethodHandle" ∧ yX9_bitsOf.cls ≠ "java/lang/invoke/VarHandle" ∧ (parseMethodDescriptor yX9_bitsOf.desc).map (fun d => d.parameters.length) = some 2 := by decide +kernel
theorem yd_X9_costOf : yX9_costOf.cls = RX9 ∧ yX9_costOf.cls ≠ "java/lang/invoke/MethodHandle" ∧ yX9_costOf.cls ≠ "java/lang/invoke/VarHandle" ∧ (parseMethodDescriptor yX9_costOf.desc).map (fun d => d.parameters.length) = some 3 := by decide +kernel
theorem yd_X9_isBlock : yX9_isBlock.cls = RX9 ∧ yX9_isBlock.cls ≠ "java/lang/invoke/MethodHandle" ∧ yX9_isBlock.cls ≠ "java/lang/invoke/VarHandle" ∧ (parseMethodDescriptor yX9_isBlock.desc).map (fun d => d.parameters.length) = some 1 := by decide +kernel
theorem yd_X9_cost : yX9_cost.cls = RX9 ∧ yX9_cost.cls ≠ "java/lang/invoke/MethodHandle" ∧ yX9_cost.cls ≠ "java/lang/invoke/VarHandle" ∧ (parseMethodDescriptor yX9_cost.desc).map (fun d => d.parameters.length) = some 3 := by decide +kernel
theorem yd_X9_choice : yX9_choice.cls = RX9 ∧ yX9_choice.cls ≠ "java/lang/invoke/MethodHandle" ∧ yX9_choice.cls ≠ "java/lang/invoke/VarHandle" ∧ (parseMethodDescriptor yX9_choice.desc).map (fun d => d.parameters.length) = some 1 := by decide +kernel
theorem yd_X9_write : yX9_write.cls = RX9 ∧ yX9_write.cls ≠ "java/lang/invoke/MethodHandle" ∧ yX9_write.cls ≠ "java/lang/invoke/VarHandle" ∧ (parseMethodDescriptor yX9_write.desc).map (fun d => d.parameters.length) = some 2 := by decide +kernel
theorem yd_X9_writeFold : yX9_writeFold.cls = RX9 ∧ yX9_writeFold.cls ≠ "java/lang/invoke/MethodHandle" ∧ yX9_writeFold.cls ≠ "java/lang/invoke/VarHandle" ∧ (parseMethodDescriptor yX9_writeFold.desc).map (fun d => d.parameters.length) = some 2 := by decide +kernel
theorem yd_X9_pack : yX9_pack.cls = RX9 ∧ yX9_pack.cls ≠ "java/lang/invoke/MethodHandle" ∧ yX9_pack.cls ≠ "java/lang/invoke/VarHandle" ∧ (parseMethodDescriptor yX9_pack.desc).map (fun d => d.parameters.length) = some 0 := by decide +kernel
theorem yd_X9_block : yX9_block.cls = RX9 ∧ yX9_block.cls ≠ "java/lang/invoke/MethodHandle" ∧ yX9_block.cls ≠ "java/lang/invoke/VarHandle" ∧ (parseMethodDescriptor yX9_block.desc).map (fun d => d.parameters.length) = some 2 := by decide +kernel
theorem yd_X9_packed : yX9_packed.cls = RX9 ∧ yX9_packed.cls ≠ "java/lang/invoke/MethodHandle" ∧ yX9_packed.cls ≠ "java/lang/invoke/VarHandle" ∧ (parseMethodDescriptor yX9_packed.desc).map (fun d => d.parameters.length) = some 1 := by decide +kernel
theorem yd_X9_lost : yX9_lost.cls = RX9 ∧ yX9_lost.cls ≠ "java/lang/invoke/MethodHandle" ∧ yX9_lost.cls ≠ "java/lang/invoke/VarHandle" ∧ (parseMethodDescriptor yX9_lost.desc).map (fun d => d.parameters.length) = some 1 := by decide +kernel
theorem yd_X9_tape : yX9_tape.cls = RX9 ∧ yX9_tape.cls ≠ "java/lang/invoke/MethodHandle" ∧ yX9_tape.cls ≠ "java/lang/invoke/VarHandle" ∧ (parseMethodDescriptor yX9_tape.desc).map (fun d => d.parameters.length) = some 0 := by decide +kernel
theorem yd_X9_push : yX9_push.cls = RX9 ∧ yX9_push.cls ≠ "java/lang/invoke/MethodHandle" ∧ yX9_push.cls ≠ "java/lang/invoke/VarHandle" ∧ (parseMethodDescriptor yX9_push.desc).map (fun d => d.parameters.length) = some 1 := by decide +kernel
theorem yd_X9_flip : yX9_flip.cls = RX9 ∧ yX9_flip.cls ≠ "java/lang/invoke/MethodHandle" ∧ yX9_flip.cls ≠ "java/lang/invoke/VarHandle" ∧ (parseMethodDescriptor yX9_flip.desc).map (fun d => d.parameters.length) = some 1 := by decide +kernel
theorem yd_X9_cut : yX9_cut.cls = RX9 ∧ yX9_cut.cls ≠ "java/lang/invoke/MethodHandle" ∧ yX9_cut.cls ≠ "java/lang/invoke/VarHandle" ∧ (parseMethodDescriptor yX9_cut.desc).map (fun d => d.parameters.length) = some 1 := by decide +kernel
theorem yd_X9_bit : yX9_bit.cls = RX9 ∧ yX9_bit.cls ≠ "java/lang/invoke/MethodHandle" ∧ yX9_bit.cls ≠ "java/lang/invoke/VarHandle" ∧ (parseMethodDescriptor yX9_bit.desc).map (fun d => d.parameters.length) = some 1 := by decide +kernel
theorem yd_X9_fail : yX9_fail.cls = RX9 ∧ yX9_fail.cls ≠ "java/lang/invoke/MethodHandle" ∧ yX9_fail.cls ≠ "java/lang/invoke/VarHandle" ∧ (parseMethodDescriptor yX9_fail.desc).map (fun d => d.parameters.length) = some 2 := by decide +kernel
theorem yd_X9_number : yX9_number.cls = RX9 ∧ yX9_number.cls ≠ "java/lang/invoke/MethodHandle" ∧ yX9_number.cls ≠ "java/lang/invoke/VarHandle" ∧ (parseMethodDescriptor yX9_number.desc).map (fun d => d.parameters.length) = some 1 := by decide +kernel
theorem yd_X9_readFold : yX9_readFold.cls = RX9 ∧ yX9_readFold.cls ≠ "java/lang/invoke/MethodHandle" ∧ yX9_readFold.cls ≠ "java/lang/invoke/VarHandle" ∧ (parseMethodDescriptor yX9_readFold.desc).map (fun d => d.parameters.length) = some 1 := by decide +kernel
theorem yd_X9_readSample : yX9_readSample.cls = RX9 ∧ yX9_readSample.cls ≠ "java/lang/invoke/MethodHandle" ∧ yX9_readSample.cls ≠ "java/lang/invoke/VarHandle" ∧ (parseMethodDescriptor yX9_readSample.desc).map (fun d => d.parameters.length) = some 3 := by decide +kernel
theorem yd_X9_readBlock : yX9_readBlock.cls = RX9 ∧ yX9_readBlock.cls ≠ "java/lang/invoke/MethodHandle" ∧ yX9_readBlock.cls ≠ "java/lang/invoke/VarHandle" ∧ (parseMethodDescriptor yX9_readBlock.desc).map (fun d => d.parameters.length) = some 2 := by decide +kernel
theorem yd_X9_read : yX9_read.cls = RX9 ∧ yX9_read.cls ≠ "java/lang/invoke/MethodHandle" ∧ yX9_read.cls ≠ "java/lang/invoke/VarHandle" ∧ (parseMethodDescriptor yX9_read.desc).map (fun d => d.parameters.length) = some 1 := by decide +kernel
theorem yd_X9_fault : yX9_fault.cls = RX9 ∧ yX9_fault.cls ≠ "java/lang/invoke/MethodHandle" ∧ yX9_fault.cls ≠ "java/lang/invoke/VarHandle" ∧ (parseMethodDescriptor yX9_fault.desc).map (fun d => d.parameters.length) = some 1 := by decide +kernel
theorem yd_X9_image : yX9_image.cls = RX9 ∧ yX9_image.cls ≠ "java/lang/invoke/MethodHandle" ∧ yX9_image.cls ≠ "java/lang/invoke/VarHandle" ∧ (parseMethodDescriptor yX9_image.desc).map (fun d => d.parameters.length) = some 1 := by decide +kernel
theorem yd_X9_restore : yX9_restore.cls = RX9 ∧ yX9_restore.cls ≠ "java/lang/invoke/MethodHandle" ∧ yX9_restore.cls ≠ "java/lang/invoke/VarHandle" ∧ (parseMethodDescriptor yX9_restore.desc).map (fun d => d.parameters.length) = some 1 := by decide +kernel
theorem yd_X9_plainBlocks : yX9_plainBlocks.cls = RX9 ∧ yX9_plainBlocks.cls ≠ "java/lang/invoke/MethodHandle" ∧ yX9_plainBlocks.cls ≠ "java/lang/invoke/VarHandle" ∧ (parseMethodDescriptor yX9_plainBlocks.desc).map (fun d => d.parameters.length) = some 0 := by decide +kernel
theorem yd_X9_count : yX9_count.cls = RX9 ∧ yX9_count.cls ≠ "java/lang/invoke/MethodHandle" ∧ yX9_count.cls ≠ "java/lang/invoke/VarHandle" ∧ (parseMethodDescriptor yX9_count.desc).map (fun d => d.parameters.length) = some 1 := by decide +kernel
theorem inX0_appendNumber_0 : ∀ w ∈ wsX00, w ∈ wsX0_appendNumber := fun w h => List.mem_cons_of_mem _ (List.mem_append_right _ h)
theorem inX0_append_0 : ∀ w ∈ wsX00, w ∈ wsX0_append := fun w h => List.mem_cons_of_mem _ (List.mem_append_right _ h)
theorem inX0_at_0 : ∀ w ∈ wsX00, w ∈ wsX0_at := fun w h => List.mem_cons_of_mem _ (List.mem_append_right _ h)
theorem inX0_has_0 : ∀ w ∈ wsX00, w ∈ wsX0_has := fun w h => List.mem_cons_of_mem _ (List.mem_append_right _ h)
theorem inX0_init_0 : ∀ w ∈ wsX00, w ∈ wsX0_init := fun w h => List.mem_cons_of_mem _ (List.mem_append_right _ h)
theorem inX0_takeOver_0 : ∀ w ∈ wsX00, w ∈ wsX0_takeOver := fun w h => List.mem_cons_of_mem _ (List.mem_append_right _ h)
theorem inX0_turn_0 : ∀ w ∈ wsX00, w ∈ wsX0_turn := fun w h => List.mem_cons_of_mem _ (List.mem_append_right _ h)
theorem inX1_forget_1 : ∀ w ∈ wsX10, w ∈ wsX1_forget := fun w h => List.mem_cons_of_mem _ (List.mem_append_right _ h)
theorem inX1_init_1 : ∀ w ∈ wsX10, w ∈ wsX1_init := fun w h => List.mem_cons_of_mem _ (List.mem_append_right _ h)
theorem inX1_isTold_1 : ∀ w ∈ wsX10, w ∈ wsX1_isTold := fun w h => List.mem_cons_of_mem _ (List.mem_append_right _ h)
theorem inX1_takeOver_1 : ∀ w ∈ wsX10, w ∈ wsX1_takeOver := fun w h => List.mem_cons_of_mem _ (List.mem_append_right _ h)
theorem inX2_costBy_2 : ∀ w ∈ wsX20, w ∈ wsX2_costBy := fun w h => List.mem_cons_of_mem _ (List.mem_append_right _ h)
theorem inX2_fill_2 : ∀ w ∈ wsX20, w ∈ wsX2_fill := fun w h => List.mem_cons_of_mem _ (List.mem_append_right _ h)
theorem inX2_fill_6 : ∀ w ∈ wsX60, w ∈ wsX2_fill := fun w h => List.mem_cons_of_mem _ (List.mem_append_left _ (List.mem_append_right _ h))
theorem inX2_fill_7 : ∀ w ∈ wsX70, w ∈ wsX2_fill := fun w h => List.mem_cons_of_mem _ (List.mem_append_left _ (List.mem_append_left _ (List.mem_append_right _ h)))
theorem inX2_init_2 : ∀ w ∈ wsX20, w ∈ wsX2_init := fun w h => List.mem_cons_of_mem _ (List.mem_append_right _ h)
theorem inX2_isAllNothing_2 : ∀ w ∈ wsX20, w ∈ wsX2_isAllNothing := fun w h => List.mem_cons_of_mem _ (List.mem_append_right _ h)
theorem inX2_writeByNoughts_0 : ∀ w ∈ wsX00, w ∈ wsX2_writeByNoughts := fun w h => List.mem_cons_of_mem _ (List.mem_append_right _ h)
theorem inX2_write_0 : ∀ w ∈ wsX00, w ∈ wsX2_write := fun w h => List.mem_cons_of_mem _ (List.mem_append_right _ h)
theorem inX2_write_2 : ∀ w ∈ wsX20, w ∈ wsX2_write := fun w h => List.mem_cons_of_mem _ (List.mem_append_left _ (List.mem_append_right _ h))
theorem inX3_init_0 : ∀ w ∈ wsX00, w ∈ wsX3_init := fun w h => List.mem_cons_of_mem _ (List.mem_append_left _ (List.mem_append_right _ h))
theorem inX3_init_1 : ∀ w ∈ wsX10, w ∈ wsX3_init := fun w h => List.mem_cons_of_mem _ (List.mem_append_right _ h)
theorem inX3_init_3 : ∀ w ∈ wsX30, w ∈ wsX3_init := fun w h => List.mem_cons_of_mem _ (List.mem_append_left _ (List.mem_append_left _ (List.mem_append_left _ (List.mem_append_right _ h))))
theorem inX3_init_6 : ∀ w ∈ wsX60, w ∈ wsX3_init := fun w h => List.mem_cons_of_mem _ (List.mem_append_left _ (List.mem_append_left _ (List.mem_append_right _ h)))
theorem inX3_init_7 : ∀ w ∈ wsX70, w ∈ wsX3_init := fun w h => List.mem_cons_of_mem _ (List.mem_append_left _ (List.mem_append_left _ (List.mem_append_left _ (List.mem_append_left _ (List.mem_append_right _ h)))))
theorem inX3_takeOver_0 : ∀ w ∈ wsX00, w ∈ wsX3_takeOver := fun w h => List.mem_cons_of_mem _ (List.mem_append_left _ (List.mem_append_right _ h))
theorem inX3_takeOver_1 : ∀ w ∈ wsX10, w ∈ wsX3_takeOver := fun w h => List.mem_cons_of_mem _ (List.mem_append_right _ h)
theorem inX3_takeOver_3 : ∀ w ∈ wsX30, w ∈ wsX3_takeOver := fun w h => List.mem_cons_of_mem _ (List.mem_append_left _ (List.mem_append_left _ (List.mem_append_left _ (List.mem_append_left _ (List.mem_append_right _ h)))))
theorem inX3_takeOver_6 : ∀ w ∈ wsX60, w ∈ wsX3_takeOver := fun w h => List.mem_cons_of_mem _ (List.mem_append_left _ (List.mem_append_left _ (List.mem_append_right _ h)))
theorem inX3_takeOver_7 : ∀ w ∈ wsX70, w ∈ wsX3_takeOver := fun w h => List.mem_cons_of_mem _ (List.mem_append_left _ (List.mem_append_left _ (List.mem_append_left _ (List.mem_append_right _ h))))
theorem inX4_choose_2 : ∀ w ∈ wsX20, w ∈ wsX4_choose := fun w h => List.mem_cons_of_mem _ (List.mem_append_right _ h)
theorem inX4_choose_4 : ∀ w ∈ wsX40, w ∈ wsX4_choose := fun w h => List.mem_cons_of_mem _ (List.mem_append_left _ (List.mem_append_left _ (List.mem_append_left _ (List.mem_append_right _ h))))
theorem inX4_choose_6 : ∀ w ∈ wsX60, w ∈ wsX4_choose := fun w h => List.mem_cons_of_mem _ (List.mem_append_left _ (List.mem_append_right _ h))
theorem inX4_choose_7 : ∀ w ∈ wsX70, w ∈ wsX4_choose := fun w h => List.mem_cons_of_mem _ (List.mem_append_left _ (List.mem_append_left _ (List.mem_append_right _ h)))
theorem inX4_costOf_2 : ∀ w ∈ wsX20, w ∈ wsX4_costOf := fun w h => List.mem_cons_of_mem _ (List.mem_append_right _ h)
theorem inX4_costOf_4 : ∀ w ∈ wsX40, w ∈ wsX4_costOf := fun w h => List.mem_cons_of_mem _ (List.mem_append_left _ (List.mem_append_left _ (List.mem_append_left _ (List.mem_append_right _ h))))
theorem inX4_costOf_6 : ∀ w ∈ wsX60, w ∈ wsX4_costOf := fun w h => List.mem_cons_of_mem _ (List.mem_append_left _ (List.mem_append_right _ h))
theorem inX4_costOf_7 : ∀ w ∈ wsX70, w ∈ wsX4_costOf := fun w h => List.mem_cons_of_mem _ (List.mem_append_left _ (List.mem_append_left _ (List.mem_append_right _ h)))
theorem inX4_init_0 : ∀ w ∈ wsX00, w ∈ wsX4_init := fun w h => List.mem_cons_of_mem _ (List.mem_append_left _ (List.mem_append_right _ h))
theorem inX4_init_2 : ∀ w ∈ wsX20, w ∈ wsX4_init := fun w h => List.mem_cons_of_mem _ (List.mem_append_right _ h)
theorem inX4_init_4 : ∀ w ∈ wsX40, w ∈ wsX4_init := fun w h => List.mem_cons_of_mem _ (List.mem_append_left _ (List.mem_append_left _ (List.mem_append_right _ h)))
theorem inX4_keepOnly_0 : ∀ w ∈ wsX00, w ∈ wsX4_keepOnly := fun w h => List.mem_cons_of_mem _ (List.mem_append_right _ h)
theorem inX4_keepOnly_4 : ∀ w ∈ wsX40, w ∈ wsX4_keepOnly := fun w h => List.mem_cons_of_mem _ (List.mem_append_left _ (List.mem_append_right _ h))
theorem inX4_settle_0 : ∀ w ∈ wsX00, w ∈ wsX4_settle := fun w h => List.mem_cons_of_mem _ (List.mem_append_left _ (List.mem_append_left _ (List.mem_append_left _ (List.mem_append_right _ h))))
theorem inX4_settle_2 : ∀ w ∈ wsX20, w ∈ wsX4_settle := fun w h => List.mem_cons_of_mem _ (List.mem_append_right _ h)
theorem inX4_settle_4 : ∀ w ∈ wsX40, w ∈ wsX4_settle := fun w h => List.mem_cons_of_mem _ (List.mem_append_left _ (List.mem_append_left _ (List.mem_append_left _ (List.mem_append_left _ (List.mem_append_right _ h)))))
theorem inX4_settle_6 : ∀ w ∈ wsX60, w ∈ wsX4_settle := fun w h => List.mem_cons_of_mem _ (List.mem_append_left _ (List.mem_append_right _ h))
theorem inX4_settle_7 : ∀ w ∈ wsX70, w ∈ wsX4_settle := fun w h => List.mem_cons_of_mem _ (List.mem_append_left _ (List.mem_append_left _ (List.mem_append_right _ h)))
theorem inX4_settledWith_4 : ∀ w ∈ wsX40, w ∈ wsX4_settledWith := fun w h => List.mem_cons_of_mem _ (List.mem_append_right _ h)
theorem inX5_fail_1 : ∀ w ∈ wsX10, w ∈ wsX5_fail := fun w h => List.mem_cons_of_mem _ (List.mem_append_left _ (List.mem_append_right _ h))
theorem inX5_fail_5 : ∀ w ∈ wsX50, w ∈ wsX5_fail := fun w h => List.mem_cons_of_mem _ (List.mem_append_left _ (List.mem_append_left _ (List.mem_append_right _ h)))
theorem inX5_fail_6 : ∀ w ∈ wsX60, w ∈ wsX5_fail := fun w h => List.mem_cons_of_mem _ (List.mem_append_right _ h)
theorem inX5_init_1 : ∀ w ∈ wsX10, w ∈ wsX5_init := fun w h => List.mem_cons_of_mem _ (List.mem_append_right _ h)
theorem inX5_init_5 : ∀ w ∈ wsX50, w ∈ wsX5_init := fun w h => List.mem_cons_of_mem _ (List.mem_append_left _ (List.mem_append_right _ h))
theorem inX5_init_6 : ∀ w ∈ wsX60, w ∈ wsX5_init := fun w h => List.mem_cons_of_mem _ (List.mem_append_left _ (List.mem_append_left _ (List.mem_append_right _ h)))
theorem inX5_takeAll_0 : ∀ w ∈ wsX00, w ∈ wsX5_takeAll := fun w h => List.mem_cons_of_mem _ (List.mem_append_left _ (List.mem_append_right _ h))
theorem inX5_takeAll_1 : ∀ w ∈ wsX10, w ∈ wsX5_takeAll := fun w h => List.mem_cons_of_mem _ (List.mem_append_right _ h)
theorem inX5_takeAll_5 : ∀ w ∈ wsX50, w ∈ wsX5_takeAll := fun w h => List.mem_cons_of_mem _ (List.mem_append_left _ (List.mem_append_left _ (List.mem_append_left _ (List.mem_append_left _ (List.mem_append_right _ h)))))
theorem inX5_takeAll_6 : ∀ w ∈ wsX60, w ∈ wsX5_takeAll := fun w h => List.mem_cons_of_mem _ (List.mem_append_left _ (List.mem_append_left _ (List.mem_append_left _ (List.mem_append_right _ h))))
theorem inX5_takeAll_7 : ∀ w ∈ wsX70, w ∈ wsX5_takeAll := fun w h => List.mem_cons_of_mem _ (List.mem_append_left _ (List.mem_append_left _ (List.mem_append_right _ h)))
theorem inX5_takeBlock_0 : ∀ w ∈ wsX00, w ∈ wsX5_takeBlock := fun w h => List.mem_cons_of_mem _ (List.mem_append_left _ (List.mem_append_right _ h))
theorem inX5_takeBlock_1 : ∀ w ∈ wsX10, w ∈ wsX5_takeBlock := fun w h => List.mem_cons_of_mem _ (List.mem_append_right _ h)
theorem inX5_takeBlock_5 : ∀ w ∈ wsX50, w ∈ wsX5_takeBlock := fun w h => List.mem_cons_of_mem _ (List.mem_append_left _ (List.mem_append_left _ (List.mem_append_left _ (List.mem_append_left _ (List.mem_append_right _ h)))))
theorem inX5_takeBlock_6 : ∀ w ∈ wsX60, w ∈ wsX5_takeBlock := fun w h => List.mem_cons_of_mem _ (List.mem_append_left _ (List.mem_append_left _ (List.mem_append_right _ h)))
theorem inX5_takeBlock_7 : ∀ w ∈ wsX70, w ∈ wsX5_takeBlock := fun w h => List.mem_cons_of_mem _ (List.mem_append_left _ (List.mem_append_left _ (List.mem_append_left _ (List.mem_append_right _ h))))
theorem inX5_takeByNoughts_0 : ∀ w ∈ wsX00, w ∈ wsX5_takeByNoughts := fun w h => List.mem_cons_of_mem _ (List.mem_append_left _ (List.mem_append_left _ (List.mem_append_right _ h)))
theorem inX5_takeByNoughts_1 : ∀ w ∈ wsX10, w ∈ wsX5_takeByNoughts := fun w h => List.mem_cons_of_mem _ (List.mem_append_left _ (List.mem_append_right _ h))
theorem inX5_takeByNoughts_5 : ∀ w ∈ wsX50, w ∈ wsX5_takeByNoughts := fun w h => List.mem_cons_of_mem _ (List.mem_append_left _ (List.mem_append_left _ (List.mem_append_left _ (List.mem_append_right _ h))))
theorem inX5_takeByNoughts_6 : ∀ w ∈ wsX60, w ∈ wsX5_takeByNoughts := fun w h => List.mem_cons_of_mem _ (List.mem_append_right _ h)
theorem inX5_takeNumber_0 : ∀ w ∈ wsX00, w ∈ wsX5_takeNumber := fun w h => List.mem_cons_of_mem _ (List.mem_append_left _ (List.mem_append_left _ (List.mem_append_left _ (List.mem_append_right _ h))))
theorem inX5_takeNumber_1 : ∀ w ∈ wsX10, w ∈ wsX5_takeNumber := fun w h => List.mem_cons_of_mem _ (List.mem_append_left _ (List.mem_append_right _ h))
theorem inX5_takeNumber_5 : ∀ w ∈ wsX50, w ∈ wsX5_takeNumber := fun w h => List.mem_cons_of_mem _ (List.mem_append_left _ (List.mem_append_left _ (List.mem_append_right _ h)))
theorem inX5_takeNumber_6 : ∀ w ∈ wsX60, w ∈ wsX5_takeNumber := fun w h => List.mem_cons_of_mem _ (List.mem_append_right _ h)
theorem inX5_takeTold_0 : ∀ w ∈ wsX00, w ∈ wsX5_takeTold := fun w h => List.mem_cons_of_mem _ (List.mem_append_left _ (List.mem_append_right _ h))
theorem inX5_takeTold_1 : ∀ w ∈ wsX10, w ∈ wsX5_takeTold := fun w h => List.mem_cons_of_mem _ (List.mem_append_right _ h)
theorem inX5_takeTold_5 : ∀ w ∈ wsX50, w ∈ wsX5_takeTold := fun w h => List.mem_cons_of_mem _ (List.mem_append_left _ (List.mem_append_left _ (List.mem_append_left _ (List.mem_append_right _ h))))
theorem inX5_takeTold_6 : ∀ w ∈ wsX60, w ∈ wsX5_takeTold := fun w h => List.mem_cons_of_mem _ (List.mem_append_left _ (List.mem_append_left _ (List.mem_append_right _ h)))
theorem inX5_takeTold_7 : ∀ w ∈ wsX70, w ∈ wsX5_takeTold := fun w h => List.mem_cons_of_mem _ (List.mem_append_left _ (List.mem_append_left _ (List.mem_append_left _ (List.mem_append_left _ (List.mem_append_right _ h)))))
theorem inX6_append_6 : ∀ w ∈ wsX60, w ∈ wsX6_append := fun w h => List.mem_cons_of_mem _ (List.mem_append_right _ h)
theorem inX6_at_6 : ∀ w ∈ wsX60, w ∈ wsX6_at := fun w h => List.mem_cons_of_mem _ (List.mem_append_right _ h)
theorem inX6_has_6 : ∀ w ∈ wsX60, w ∈ wsX6_has := fun w h => List.mem_cons_of_mem _ (List.mem_append_right _ h)
theorem inX6_highest_6 : ∀ w ∈ wsX60, w ∈ wsX6_highest := fun w h => List.mem_cons_of_mem _ (List.mem_append_right _ h)
theorem inX6_init_6 : ∀ w ∈ wsX60, w ∈ wsX6_init := fun w h => List.mem_cons_of_mem _ (List.mem_append_right _ h)
theorem inX6_takeOver_6 : ∀ w ∈ wsX60, w ∈ wsX6_takeOver := fun w h => List.mem_cons_of_mem _ (List.mem_append_right _ h)
theorem inX7_blockWith_7 : ∀ w ∈ wsX70, w ∈ wsX7_blockWith := fun w h => List.mem_cons_of_mem _ (List.mem_append_right _ h)
theorem inX7_change_7 : ∀ w ∈ wsX70, w ∈ wsX7_change := fun w h => List.mem_cons_of_mem _ (List.mem_append_right _ h)
theorem inX7_endOfBlock_7 : ∀ w ∈ wsX70, w ∈ wsX7_endOfBlock := fun w h => List.mem_cons_of_mem _ (List.mem_append_right _ h)
theorem inX7_init_7 : ∀ w ∈ wsX70, w ∈ wsX7_init := fun w h => List.mem_cons_of_mem _ (List.mem_append_right _ h)
theorem inX7_isBare_7 : ∀ w ∈ wsX70, w ∈ wsX7_isBare := fun w h => List.mem_cons_of_mem _ (List.mem_append_right _ h)
theorem inX7_segmentSize_7 : ∀ w ∈ wsX70, w ∈ wsX7_segmentSize := fun w h => List.mem_cons_of_mem _ (List.mem_append_right _ h)
theorem inX7_takeOver_7 : ∀ w ∈ wsX70, w ∈ wsX7_takeOver := fun w h => List.mem_cons_of_mem _ (List.mem_append_right _ h)
theorem inX7_top_7 : ∀ w ∈ wsX70, w ∈ wsX7_top := fun w h => List.mem_cons_of_mem _ (List.mem_append_right _ h)
theorem inX7_value_7 : ∀ w ∈ wsX70, w ∈ wsX7_value := fun w h => List.mem_cons_of_mem _ (List.mem_append_right _ h)
theorem inX8_add_0 : ∀ w ∈ wsX00, w ∈ wsX8_add := fun w h => List.mem_cons_of_mem _ (List.mem_append_right _ h)
theorem inX8_add_3 : ∀ w ∈ wsX30, w ∈ wsX8_add := fun w h => List.mem_cons_of_mem _ (List.mem_append_left _ (List.mem_append_left _ (List.mem_append_left _ (List.mem_append_left _ (List.mem_append_right _ h)))))
theorem inX8_add_4 : ∀ w ∈ wsX40, w ∈ wsX8_add := fun w h => List.mem_cons_of_mem _ (List.mem_append_left _ (List.mem_append_right _ h))
theorem inX8_add_6 : ∀ w ∈ wsX60, w ∈ wsX8_add := fun w h => List.mem_cons_of_mem _ (List.mem_append_left _ (List.mem_append_left _ (List.mem_append_left _ (List.mem_append_right _ h))))
theorem inX8_add_7 : ∀ w ∈ wsX70, w ∈ wsX8_add := fun w h => List.mem_cons_of_mem _ (List.mem_append_left _ (List.mem_append_left _ (List.mem_append_right _ h)))
theorem inX8_add_8 : ∀ w ∈ wsX80, w ∈ wsX8_add := fun w h => List.mem_cons_of_mem _ (List.mem_append_left _ (List.mem_append_left _ (List.mem_append_left _ (List.mem_append_left _ (List.mem_append_left _ (List.mem_append_right _ h))))))
theorem inX8_ahead_3 : ∀ w ∈ wsX30, w ∈ wsX8_ahead := fun w h => List.mem_cons_of_mem _ (List.mem_append_left _ (List.mem_append_left _ (List.mem_append_right _ h)))
theorem inX8_ahead_6 : ∀ w ∈ wsX60, w ∈ wsX8_ahead := fun w h => List.mem_cons_of_mem _ (List.mem_append_left _ (List.mem_append_right _ h))
theorem inX8_ahead_7 : ∀ w ∈ wsX70, w ∈ wsX8_ahead := fun w h => List.mem_cons_of_mem _ (List.mem_append_right _ h)
theorem inX8_ahead_8 : ∀ w ∈ wsX80, w ∈ wsX8_ahead := fun w h => List.mem_cons_of_mem _ (List.mem_append_left _ (List.mem_append_left _ (List.mem_append_left _ (List.mem_append_right _ h))))
theorem inX8_bit_0 : ∀ w ∈ wsX00, w ∈ wsX8_bit := fun w h => List.mem_cons_of_mem _ (List.mem_append_right _ h)
theorem inX8_bit_3 : ∀ w ∈ wsX30, w ∈ wsX8_bit := fun w h => List.mem_cons_of_mem _ (List.mem_append_left _ (List.mem_append_right _ h))
theorem inX8_bit_8 : ∀ w ∈ wsX80, w ∈ wsX8_bit := fun w h => List.mem_cons_of_mem _ (List.mem_append_left _ (List.mem_append_left _ (List.mem_append_right _ h)))
theorem inX8_block_0 : ∀ w ∈ wsX00, w ∈ wsX8_block := fun w h => List.mem_cons_of_mem _ (List.mem_append_left _ (List.mem_append_right _ h))
theorem inX8_block_2 : ∀ w ∈ wsX20, w ∈ wsX8_block := fun w h => List.mem_cons_of_mem _ (List.mem_append_right _ h)
theorem inX8_block_3 : ∀ w ∈ wsX30, w ∈ wsX8_block := fun w h => List.mem_cons_of_mem _ (List.mem_append_left _ (List.mem_append_left _ (List.mem_append_left _ (List.mem_append_left _ (List.mem_append_left _ (List.mem_append_right _ h))))))
theorem inX8_block_4 : ∀ w ∈ wsX40, w ∈ wsX8_block := fun w h => List.mem_cons_of_mem _ (List.mem_append_left _ (List.mem_append_left _ (List.mem_append_left _ (List.mem_append_left _ (List.mem_append_right _ h)))))
theorem inX8_block_6 : ∀ w ∈ wsX60, w ∈ wsX8_block := fun w h => List.mem_cons_of_mem _ (List.mem_append_left _ (List.mem_append_left _ (List.mem_append_left _ (List.mem_append_right _ h))))
theorem inX8_block_7 : ∀ w ∈ wsX70, w ∈ wsX8_block := fun w h => List.mem_cons_of_mem _ (List.mem_append_left _ (List.mem_append_left _ (List.mem_append_right _ h)))
theorem inX8_block_8 : ∀ w ∈ wsX80, w ∈ wsX8_block := fun w h => List.mem_cons_of_mem _ (List.mem_append_left _ (List.mem_append_left _ (List.mem_append_left _ (List.mem_append_left _ (List.mem_append_left _ (List.mem_append_left _ (List.mem_append_right _ h)))))))
theorem inX8_blocks_3 : ∀ w ∈ wsX30, w ∈ wsX8_blocks := fun w h => List.mem_cons_of_mem _ (List.mem_append_left _ (List.mem_append_left _ (List.mem_append_right _ h)))
theorem inX8_blocks_6 : ∀ w ∈ wsX60, w ∈ wsX8_blocks := fun w h => List.mem_cons_of_mem _ (List.mem_append_left _ (List.mem_append_right _ h))
theorem inX8_blocks_7 : ∀ w ∈ wsX70, w ∈ wsX8_blocks := fun w h => List.mem_cons_of_mem _ (List.mem_append_right _ h)
theorem inX8_blocks_8 : ∀ w ∈ wsX80, w ∈ wsX8_blocks := fun w h => List.mem_cons_of_mem _ (List.mem_append_left _ (List.mem_append_left _ (List.mem_append_left _ (List.mem_append_right _ h))))
theorem inX8_clear_0 : ∀ w ∈ wsX00, w ∈ wsX8_clear := fun w h => List.mem_cons_of_mem _ (List.mem_append_right _ h)
theorem inX8_clear_3 : ∀ w ∈ wsX30, w ∈ wsX8_clear := fun w h => List.mem_cons_of_mem _ (List.mem_append_left _ (List.mem_append_left _ (List.mem_append_left _ (List.mem_append_right _ h))))
theorem inX8_clear_4 : ∀ w ∈ wsX40, w ∈ wsX8_clear := fun w h => List.mem_cons_of_mem _ (List.mem_append_left _ (List.mem_append_right _ h))
theorem inX8_clear_6 : ∀ w ∈ wsX60, w ∈ wsX8_clear := fun w h => List.mem_cons_of_mem _ (List.mem_append_left _ (List.mem_append_left _ (List.mem_append_right _ h)))
theorem inX8_clear_8 : ∀ w ∈ wsX80, w ∈ wsX8_clear := fun w h => List.mem_cons_of_mem _ (List.mem_append_left _ (List.mem_append_left _ (List.mem_append_left _ (List.mem_append_left _ (List.mem_append_right _ h)))))
theorem inX8_cost_2 : ∀ w ∈ wsX20, w ∈ wsX8_cost := fun w h => List.mem_cons_of_mem _ (List.mem_append_right _ h)
theorem inX8_cost_3 : ∀ w ∈ wsX30, w ∈ wsX8_cost := fun w h => List.mem_cons_of_mem _ (List.mem_append_left _ (List.mem_append_left _ (List.mem_append_left _ (List.mem_append_left _ (List.mem_append_right _ h)))))
theorem inX8_cost_4 : ∀ w ∈ wsX40, w ∈ wsX8_cost := fun w h => List.mem_cons_of_mem _ (List.mem_append_left _ (List.mem_append_right _ h))
theorem inX8_cost_6 : ∀ w ∈ wsX60, w ∈ wsX8_cost := fun w h => List.mem_cons_of_mem _ (List.mem_append_left _ (List.mem_append_left _ (List.mem_append_left _ (List.mem_append_right _ h))))
theorem inX8_cost_7 : ∀ w ∈ wsX70, w ∈ wsX8_cost := fun w h => List.mem_cons_of_mem _ (List.mem_append_left _ (List.mem_append_left _ (List.mem_append_right _ h)))
theorem inX8_cost_8 : ∀ w ∈ wsX80, w ∈ wsX8_cost := fun w h => List.mem_cons_of_mem _ (List.mem_append_left _ (List.mem_append_left _ (List.mem_append_left _ (List.mem_append_left _ (List.mem_append_left _ (List.mem_append_right _ h))))))
theorem inX8_count_0 : ∀ w ∈ wsX00, w ∈ wsX8_count := fun w h => List.mem_cons_of_mem _ (List.mem_append_left _ (List.mem_append_left _ (List.mem_append_right _ h)))
theorem inX8_count_2 : ∀ w ∈ wsX20, w ∈ wsX8_count := fun w h => List.mem_cons_of_mem _ (List.mem_append_right _ h)
theorem inX8_count_3 : ∀ w ∈ wsX30, w ∈ wsX8_count := fun w h => List.mem_cons_of_mem _ (List.mem_append_left _ (List.mem_append_left _ (List.mem_append_left _ (List.mem_append_left _ (List.mem_append_left _ (List.mem_append_right _ h))))))
theorem inX8_count_4 : ∀ w ∈ wsX40, w ∈ wsX8_count := fun w h => List.mem_cons_of_mem _ (List.mem_append_left _ (List.mem_append_left _ (List.mem_append_left _ (List.mem_append_right _ h))))
theorem inX8_count_6 : ∀ w ∈ wsX60, w ∈ wsX8_count := fun w h => List.mem_cons_of_mem _ (List.mem_append_left _ (List.mem_append_left _ (List.mem_append_left _ (List.mem_append_left _ (List.mem_append_right _ h)))))
theorem inX8_count_7 : ∀ w ∈ wsX70, w ∈ wsX8_count := fun w h => List.mem_cons_of_mem _ (List.mem_append_left _ (List.mem_append_right _ h))
theorem inX8_count_8 : ∀ w ∈ wsX80, w ∈ wsX8_count := fun w h => List.mem_cons_of_mem _ (List.mem_append_left _ (List.mem_append_left _ (List.mem_append_left _ (List.mem_append_left _ (List.mem_append_left _ (List.mem_append_left _ (List.mem_append_right _ h)))))))
theorem inX8_cut_0 : ∀ w ∈ wsX00, w ∈ wsX8_cut := fun w h => List.mem_cons_of_mem _ (List.mem_append_right _ h)
theorem inX8_cut_3 : ∀ w ∈ wsX30, w ∈ wsX8_cut := fun w h => List.mem_cons_of_mem _ (List.mem_append_left _ (List.mem_append_right _ h))
theorem inX8_cut_8 : ∀ w ∈ wsX80, w ∈ wsX8_cut := fun w h => List.mem_cons_of_mem _ (List.mem_append_left _ (List.mem_append_left _ (List.mem_append_right _ h)))
theorem inX8_fault_1 : ∀ w ∈ wsX10, w ∈ wsX8_fault := fun w h => List.mem_cons_of_mem _ (List.mem_append_right _ h)
theorem inX8_fault_3 : ∀ w ∈ wsX30, w ∈ wsX8_fault := fun w h => List.mem_cons_of_mem _ (List.mem_append_left _ (List.mem_append_right _ h))
theorem inX8_fault_8 : ∀ w ∈ wsX80, w ∈ wsX8_fault := fun w h => List.mem_cons_of_mem _ (List.mem_append_left _ (List.mem_append_left _ (List.mem_append_right _ h)))
theorem inX8_flip_0 : ∀ w ∈ wsX00, w ∈ wsX8_flip := fun w h => List.mem_cons_of_mem _ (List.mem_append_right _ h)
theorem inX8_flip_3 : ∀ w ∈ wsX30, w ∈ wsX8_flip := fun w h => List.mem_cons_of_mem _ (List.mem_append_left _ (List.mem_append_right _ h))
theorem inX8_flip_8 : ∀ w ∈ wsX80, w ∈ wsX8_flip := fun w h => List.mem_cons_of_mem _ (List.mem_append_left _ (List.mem_append_left _ (List.mem_append_right _ h)))
theorem inX8_hasBlock_3 : ∀ w ∈ wsX30, w ∈ wsX8_hasBlock := fun w h => List.mem_cons_of_mem _ (List.mem_append_left _ (List.mem_append_left _ (List.mem_append_right _ h)))
theorem inX8_hasBlock_6 : ∀ w ∈ wsX60, w ∈ wsX8_hasBlock := fun w h => List.mem_cons_of_mem _ (List.mem_append_left _ (List.mem_append_right _ h))
theorem inX8_hasBlock_7 : ∀ w ∈ wsX70, w ∈ wsX8_hasBlock := fun w h => List.mem_cons_of_mem _ (List.mem_append_right _ h)
theorem inX8_hasBlock_8 : ∀ w ∈ wsX80, w ∈ wsX8_hasBlock := fun w h => List.mem_cons_of_mem _ (List.mem_append_left _ (List.mem_append_left _ (List.mem_append_left _ (List.mem_append_right _ h))))
theorem inX8_image_0 : ∀ w ∈ wsX00, w ∈ wsX8_image := fun w h => List.mem_cons_of_mem _ (List.mem_append_left _ (List.mem_append_right _ h))
theorem inX8_image_1 : ∀ w ∈ wsX10, w ∈ wsX8_image := fun w h => List.mem_cons_of_mem _ (List.mem_append_right _ h)
theorem inX8_image_3 : ∀ w ∈ wsX30, w ∈ wsX8_image := fun w h => List.mem_cons_of_mem _ (List.mem_append_left _ (List.mem_append_left _ (List.mem_append_left _ (List.mem_append_left _ (List.mem_append_right _ h)))))
theorem inX8_image_6 : ∀ w ∈ wsX60, w ∈ wsX8_image := fun w h => List.mem_cons_of_mem _ (List.mem_append_left _ (List.mem_append_left _ (List.mem_append_right _ h)))
theorem inX8_image_7 : ∀ w ∈ wsX70, w ∈ wsX8_image := fun w h => List.mem_cons_of_mem _ (List.mem_append_left _ (List.mem_append_left _ (List.mem_append_left _ (List.mem_append_right _ h))))
theorem inX8_image_8 : ∀ w ∈ wsX80, w ∈ wsX8_image := fun w h => List.mem_cons_of_mem _ (List.mem_append_left _ (List.mem_append_left _ (List.mem_append_left _ (List.mem_append_left _ (List.mem_append_left _ (List.mem_append_right _ h))))))
theorem inX8_init_0 : ∀ w ∈ wsX00, w ∈ wsX8_init := fun w h => List.mem_cons_of_mem _ (List.mem_append_left _ (List.mem_append_left _ (List.mem_append_right _ h)))
theorem inX8_init_1 : ∀ w ∈ wsX10, w ∈ wsX8_init := fun w h => List.mem_cons_of_mem _ (List.mem_append_left _ (List.mem_append_right _ h))
theorem inX8_init_2 : ∀ w ∈ wsX20, w ∈ wsX8_init := fun w h => List.mem_cons_of_mem _ (List.mem_append_right _ h)
theorem inX8_init_3 : ∀ w ∈ wsX30, w ∈ wsX8_init := fun w h => List.mem_cons_of_mem _ (List.mem_append_left _ (List.mem_append_left _ (List.mem_append_left _ (List.mem_append_left _ (List.mem_append_left _ (List.mem_append_left _ (List.mem_append_left _ (List.mem_append_left _ (List.mem_append_right _ h)))))))))
theorem inX8_init_4 : ∀ w ∈ wsX40, w ∈ wsX8_init := fun w h => List.mem_cons_of_mem _ (List.mem_append_left _ (List.mem_append_left _ (List.mem_append_left _ (List.mem_append_left _ (List.mem_append_left _ (List.mem_append_left _ (List.mem_append_right _ h)))))))
theorem inX8_init_5 : ∀ w ∈ wsX50, w ∈ wsX8_init := fun w h => List.mem_cons_of_mem _ (List.mem_append_left _ (List.mem_append_left _ (List.mem_append_left _ (List.mem_append_left _ (List.mem_append_left _ (List.mem_append_right _ h))))))
theorem inX8_init_6 : ∀ w ∈ wsX60, w ∈ wsX8_init := fun w h => List.mem_cons_of_mem _ (List.mem_append_left _ (List.mem_append_left _ (List.mem_append_left _ (List.mem_append_right _ h))))
theorem inX8_init_7 : ∀ w ∈ wsX70, w ∈ wsX8_init := fun w h => List.mem_cons_of_mem _ (List.mem_append_left _ (List.mem_append_left _ (List.mem_append_left _ (List.mem_append_left _ (List.mem_append_right _ h)))))
theorem inX8_init_8 : ∀ w ∈ wsX80, w ∈ wsX8_init := fun w h => List.mem_cons_of_mem _ (List.mem_append_left _ (List.mem_append_left _ (List.mem_append_left _ (List.mem_append_left _ (List.mem_append_left _ (List.mem_append_left _ (List.mem_append_left _ (List.mem_append_right _ h))))))))
theorem inX8_lost_3 : ∀ w ∈ wsX30, w ∈ wsX8_lost := fun w h => List.mem_cons_of_mem _ (List.mem_append_left _ (List.mem_append_left _ (List.mem_append_right _ h)))
theorem inX8_lost_6 : ∀ w ∈ wsX60, w ∈ wsX8_lost := fun w h => List.mem_cons_of_mem _ (List.mem_append_right _ h)
theorem inX8_lost_7 : ∀ w ∈ wsX70, w ∈ wsX8_lost := fun w h => List.mem_cons_of_mem _ (List.mem_append_left _ (List.mem_append_right _ h))
theorem inX8_lost_8 : ∀ w ∈ wsX80, w ∈ wsX8_lost := fun w h => List.mem_cons_of_mem _ (List.mem_append_left _ (List.mem_append_left _ (List.mem_append_left _ (List.mem_append_right _ h))))
theorem inX8_packed_0 : ∀ w ∈ wsX00, w ∈ wsX8_packed := fun w h => List.mem_cons_of_mem _ (List.mem_append_left _ (List.mem_append_left _ (List.mem_append_left _ (List.mem_append_left _ (List.mem_append_right _ h)))))
theorem inX8_packed_2 : ∀ w ∈ wsX20, w ∈ wsX8_packed := fun w h => List.mem_cons_of_mem _ (List.mem_append_right _ h)
theorem inX8_packed_3 : ∀ w ∈ wsX30, w ∈ wsX8_packed := fun w h => List.mem_cons_of_mem _ (List.mem_append_left _ (List.mem_append_left _ (List.mem_append_left _ (List.mem_append_right _ h))))
theorem inX8_packed_4 : ∀ w ∈ wsX40, w ∈ wsX8_packed := fun w h => List.mem_cons_of_mem _ (List.mem_append_left _ (List.mem_append_left _ (List.mem_append_left _ (List.mem_append_left _ (List.mem_append_left _ (List.mem_append_right _ h))))))
theorem inX8_packed_6 : ∀ w ∈ wsX60, w ∈ wsX8_packed := fun w h => List.mem_cons_of_mem _ (List.mem_append_left _ (List.mem_append_left _ (List.mem_append_right _ h)))
theorem inX8_packed_7 : ∀ w ∈ wsX70, w ∈ wsX8_packed := fun w h => List.mem_cons_of_mem _ (List.mem_append_left _ (List.mem_append_right _ h))
theorem inX8_packed_8 : ∀ w ∈ wsX80, w ∈ wsX8_packed := fun w h => List.mem_cons_of_mem _ (List.mem_append_left _ (List.mem_append_left _ (List.mem_append_left _ (List.mem_append_left _ (List.mem_append_left _ (List.mem_append_left _ (List.mem_append_right _ h)))))))
theorem inX8_push_0 : ∀ w ∈ wsX00, w ∈ wsX8_push := fun w h => List.mem_cons_of_mem _ (List.mem_append_right _ h)
theorem inX8_push_3 : ∀ w ∈ wsX30, w ∈ wsX8_push := fun w h => List.mem_cons_of_mem _ (List.mem_append_left _ (List.mem_append_right _ h))
theorem inX8_push_8 : ∀ w ∈ wsX80, w ∈ wsX8_push := fun w h => List.mem_cons_of_mem _ (List.mem_append_left _ (List.mem_append_left _ (List.mem_append_right _ h)))
theorem inX8_read_0 : ∀ w ∈ wsX00, w ∈ wsX8_read := fun w h => List.mem_cons_of_mem _ (List.mem_append_left _ (List.mem_append_left _ (List.mem_append_right _ h)))
theorem inX8_read_1 : ∀ w ∈ wsX10, w ∈ wsX8_read := fun w h => List.mem_cons_of_mem _ (List.mem_append_left _ (List.mem_append_right _ h))
theorem inX8_read_3 : ∀ w ∈ wsX30, w ∈ wsX8_read := fun w h => List.mem_cons_of_mem _ (List.mem_append_left _ (List.mem_append_left _ (List.mem_append_left _ (List.mem_append_left _ (List.mem_append_left _ (List.mem_append_left _ (List.mem_append_right _ h)))))))
theorem inX8_read_4 : ∀ w ∈ wsX40, w ∈ wsX8_read := fun w h => List.mem_cons_of_mem _ (List.mem_append_right _ h)
theorem inX8_read_5 : ∀ w ∈ wsX50, w ∈ wsX8_read := fun w h => List.mem_cons_of_mem _ (List.mem_append_left _ (List.mem_append_left _ (List.mem_append_left _ (List.mem_append_left _ (List.mem_append_left _ (List.mem_append_right _ h))))))
theorem inX8_read_6 : ∀ w ∈ wsX60, w ∈ wsX8_read := fun w h => List.mem_cons_of_mem _ (List.mem_append_left _ (List.mem_append_left _ (List.mem_append_left _ (List.mem_append_left _ (List.mem_append_right _ h)))))
theorem inX8_read_7 : ∀ w ∈ wsX70, w ∈ wsX8_read := fun w h => List.mem_cons_of_mem _ (List.mem_append_left _ (List.mem_append_left _ (List.mem_append_left _ (List.mem_append_right _ h))))
theorem inX8_read_8 : ∀ w ∈ wsX80, w ∈ wsX8_read := fun w h => List.mem_cons_of_mem _ (List.mem_append_left _ (List.mem_append_left _ (List.mem_append_left _ (List.mem_append_left _ (List.mem_append_left _ (List.mem_append_left _ (List.mem_append_left _ (List.mem_append_right _ h))))))))
theorem inX8_restore_0 : ∀ w ∈ wsX00, w ∈ wsX8_restore := fun w h => List.mem_cons_of_mem _ (List.mem_append_left _ (List.mem_append_left _ (List.mem_append_right _ h)))
theorem inX8_restore_1 : ∀ w ∈ wsX10, w ∈ wsX8_restore := fun w h => List.mem_cons_of_mem _ (List.mem_append_left _ (List.mem_append_right _ h))
theorem inX8_restore_3 : ∀ w ∈ wsX30, w ∈ wsX8_restore := fun w h => List.mem_cons_of_mem _ (List.mem_append_left _ (List.mem_append_left _ (List.mem_append_left _ (List.mem_append_left _ (List.mem_append_left _ (List.mem_append_right _ h))))))
theorem inX8_restore_4 : ∀ w ∈ wsX40, w ∈ wsX8_restore := fun w h => List.mem_cons_of_mem _ (List.mem_append_right _ h)
theorem inX8_restore_6 : ∀ w ∈ wsX60, w ∈ wsX8_restore := fun w h => List.mem_cons_of_mem _ (List.mem_append_left _ (List.mem_append_left _ (List.mem_append_left _ (List.mem_append_right _ h))))
theorem inX8_restore_7 : ∀ w ∈ wsX70, w ∈ wsX8_restore := fun w h => List.mem_cons_of_mem _ (List.mem_append_left _ (List.mem_append_left _ (List.mem_append_left _ (List.mem_append_left _ (List.mem_append_right _ h)))))
theorem inX8_restore_8 : ∀ w ∈ wsX80, w ∈ wsX8_restore := fun w h => List.mem_cons_of_mem _ (List.mem_append_left _ (List.mem_append_left _ (List.mem_append_left _ (List.mem_append_left _ (List.mem_append_left _ (List.mem_append_left _ (List.mem_append_right _ h)))))))
theorem inX8_rule_0 : ∀ w ∈ wsX00, w ∈ wsX8_rule := fun w h => List.mem_cons_of_mem _ (List.mem_append_right _ h)
theorem inX8_rule_3 : ∀ w ∈ wsX30, w ∈ wsX8_rule := fun w h => List.mem_cons_of_mem _ (List.mem_append_left _ (List.mem_append_left _ (List.mem_append_left _ (List.mem_append_left _ (List.mem_append_right _ h)))))
theorem inX8_rule_4 : ∀ w ∈ wsX40, w ∈ wsX8_rule := fun w h => List.mem_cons_of_mem _ (List.mem_append_left _ (List.mem_append_right _ h))
theorem inX8_rule_6 : ∀ w ∈ wsX60, w ∈ wsX8_rule := fun w h => List.mem_cons_of_mem _ (List.mem_append_left _ (List.mem_append_left _ (List.mem_append_left _ (List.mem_append_right _ h))))
theorem inX8_rule_7 : ∀ w ∈ wsX70, w ∈ wsX8_rule := fun w h => List.mem_cons_of_mem _ (List.mem_append_left _ (List.mem_append_left _ (List.mem_append_right _ h)))
theorem inX8_rule_8 : ∀ w ∈ wsX80, w ∈ wsX8_rule := fun w h => List.mem_cons_of_mem _ (List.mem_append_left _ (List.mem_append_left _ (List.mem_append_left _ (List.mem_append_left _ (List.mem_append_left _ (List.mem_append_right _ h))))))
theorem inX8_sample_3 : ∀ w ∈ wsX30, w ∈ wsX8_sample := fun w h => List.mem_cons_of_mem _ (List.mem_append_left _ (List.mem_append_right _ h))
theorem inX8_sample_6 : ∀ w ∈ wsX60, w ∈ wsX8_sample := fun w h => List.mem_cons_of_mem _ (List.mem_append_right _ h)
theorem inX8_sample_8 : ∀ w ∈ wsX80, w ∈ wsX8_sample := fun w h => List.mem_cons_of_mem _ (List.mem_append_left _ (List.mem_append_left _ (List.mem_append_right _ h)))
theorem inX8_settleAll_0 : ∀ w ∈ wsX00, w ∈ wsX8_settleAll := fun w h => List.mem_cons_of_mem _ (List.mem_append_left _ (List.mem_append_right _ h))
theorem inX8_settleAll_2 : ∀ w ∈ wsX20, w ∈ wsX8_settleAll := fun w h => List.mem_cons_of_mem _ (List.mem_append_right _ h)
theorem inX8_settleAll_3 : ∀ w ∈ wsX30, w ∈ wsX8_settleAll := fun w h => List.mem_cons_of_mem _ (List.mem_append_left _ (List.mem_append_left _ (List.mem_append_left _ (List.mem_append_left _ (List.mem_append_left _ (List.mem_append_right _ h))))))
theorem inX8_settleAll_4 : ∀ w ∈ wsX40, w ∈ wsX8_settleAll := fun w h => List.mem_cons_of_mem _ (List.mem_append_left _ (List.mem_append_left _ (List.mem_append_right _ h)))
theorem inX8_settleAll_6 : ∀ w ∈ wsX60, w ∈ wsX8_settleAll := fun w h => List.mem_cons_of_mem _ (List.mem_append_left _ (List.mem_append_left _ (List.mem_append_left _ (List.mem_append_left _ (List.mem_append_right _ h)))))
theorem inX8_settleAll_7 : ∀ w ∈ wsX70, w ∈ wsX8_settleAll := fun w h => List.mem_cons_of_mem _ (List.mem_append_left _ (List.mem_append_left _ (List.mem_append_left _ (List.mem_append_right _ h))))
theorem inX8_settleAll_8 : ∀ w ∈ wsX80, w ∈ wsX8_settleAll := fun w h => List.mem_cons_of_mem _ (List.mem_append_left _ (List.mem_append_left _ (List.mem_append_left _ (List.mem_append_left _ (List.mem_append_left _ (List.mem_append_left _ (List.mem_append_right _ h)))))))
theorem inX8_tape_0 : ∀ w ∈ wsX00, w ∈ wsX8_tape := fun w h => List.mem_cons_of_mem _ (List.mem_append_left _ (List.mem_append_left _ (List.mem_append_left _ (List.mem_append_right _ h))))
theorem inX8_tape_2 : ∀ w ∈ wsX20, w ∈ wsX8_tape := fun w h => List.mem_cons_of_mem _ (List.mem_append_right _ h)
theorem inX8_tape_3 : ∀ w ∈ wsX30, w ∈ wsX8_tape := fun w h => List.mem_cons_of_mem _ (List.mem_append_left _ (List.mem_append_left _ (List.mem_append_left _ (List.mem_append_left _ (List.mem_append_left _ (List.mem_append_right _ h))))))
theorem inX8_tape_4 : ∀ w ∈ wsX40, w ∈ wsX8_tape := fun w h => List.mem_cons_of_mem _ (List.mem_append_left _ (List.mem_append_left _ (List.mem_append_left _ (List.mem_append_left _ (List.mem_append_right _ h)))))
theorem inX8_tape_6 : ∀ w ∈ wsX60, w ∈ wsX8_tape := fun w h => List.mem_cons_of_mem _ (List.mem_append_left _ (List.mem_append_left _ (List.mem_append_right _ h)))
theorem inX8_tape_7 : ∀ w ∈ wsX70, w ∈ wsX8_tape := fun w h => List.mem_cons_of_mem _ (List.mem_append_left _ (List.mem_append_right _ h))
theorem inX8_tape_8 : ∀ w ∈ wsX80, w ∈ wsX8_tape := fun w h => List.mem_cons_of_mem _ (List.mem_append_left _ (List.mem_append_left _ (List.mem_append_left _ (List.mem_append_left _ (List.mem_append_left _ (List.mem_append_left _ (List.mem_append_right _ h)))))))
theorem inX8_toldAhead_6 : ∀ w ∈ wsX60, w ∈ wsX8_toldAhead := fun w h => List.mem_cons_of_mem _ (List.mem_append_right _ h)
theorem inX8_toldAhead_7 : ∀ w ∈ wsX70, w ∈ wsX8_toldAhead := fun w h => List.mem_cons_of_mem _ (List.mem_append_left _ (List.mem_append_right _ h))
theorem inX9_add_9 : ∀ w ∈ wsX90, w ∈ wsX9_add := fun w h => List.mem_cons_of_mem _ (List.mem_append_right _ h)
theorem inX9_ahead_9 : ∀ w ∈ wsX90, w ∈ wsX9_ahead := fun w h => List.mem_cons_of_mem _ (List.mem_append_right _ h)
theorem inX9_bit_9 : ∀ w ∈ wsX90, w ∈ wsX9_bit := fun w h => List.mem_cons_of_mem _ (List.mem_append_right _ h)
theorem inX9_bitsOf_9 : ∀ w ∈ wsX90, w ∈ wsX9_bitsOf := fun w h => List.mem_cons_of_mem _ (List.mem_append_right _ h)
theorem inX9_block_9 : ∀ w ∈ wsX90, w ∈ wsX9_block := fun w h => List.mem_cons_of_mem _ (List.mem_append_right _ h)
theorem inX9_blocks_9 : ∀ w ∈ wsX90, w ∈ wsX9_blocks := fun w h => List.mem_cons_of_mem _ (List.mem_append_right _ h)
theorem inX9_canCode_9 : ∀ w ∈ wsX90, w ∈ wsX9_canCode := fun w h => List.mem_cons_of_mem _ (List.mem_append_right _ h)
theorem inX9_choice_9 : ∀ w ∈ wsX90, w ∈ wsX9_choice := fun w h => List.mem_cons_of_mem _ (List.mem_append_right _ h)
theorem inX9_clear_9 : ∀ w ∈ wsX90, w ∈ wsX9_clear := fun w h => List.mem_cons_of_mem _ (List.mem_append_right _ h)
theorem inX9_costOf_9 : ∀ w ∈ wsX90, w ∈ wsX9_costOf := fun w h => List.mem_cons_of_mem _ (List.mem_append_right _ h)
theorem inX9_cost_9 : ∀ w ∈ wsX90, w ∈ wsX9_cost := fun w h => List.mem_cons_of_mem _ (List.mem_append_right _ h)
theorem inX9_count_9 : ∀ w ∈ wsX90, w ∈ wsX9_count := fun w h => List.mem_cons_of_mem _ (List.mem_append_right _ h)
theorem inX9_cut_9 : ∀ w ∈ wsX90, w ∈ wsX9_cut := fun w h => List.mem_cons_of_mem _ (List.mem_append_right _ h)
theorem inX9_endOf_9 : ∀ w ∈ wsX90, w ∈ wsX9_endOf := fun w h => List.mem_cons_of_mem _ (List.mem_append_right _ h)
theorem inX9_expected_9 : ∀ w ∈ wsX90, w ∈ wsX9_expected := fun w h => List.mem_cons_of_mem _ (List.mem_append_right _ h)
theorem inX9_fail_9 : ∀ w ∈ wsX90, w ∈ wsX9_fail := fun w h => List.mem_cons_of_mem _ (List.mem_append_right _ h)
theorem inX9_fault_9 : ∀ w ∈ wsX90, w ∈ wsX9_fault := fun w h => List.mem_cons_of_mem _ (List.mem_append_right _ h)
theorem inX9_firstOf_9 : ∀ w ∈ wsX90, w ∈ wsX9_firstOf := fun w h => List.mem_cons_of_mem _ (List.mem_append_right _ h)
theorem inX9_fitsBelow_9 : ∀ w ∈ wsX90, w ∈ wsX9_fitsBelow := fun w h => List.mem_cons_of_mem _ (List.mem_append_right _ h)
theorem inX9_flip_9 : ∀ w ∈ wsX90, w ∈ wsX9_flip := fun w h => List.mem_cons_of_mem _ (List.mem_append_right _ h)
theorem inX9_fold_9 : ∀ w ∈ wsX90, w ∈ wsX9_fold := fun w h => List.mem_cons_of_mem _ (List.mem_append_right _ h)
theorem inX9_image_9 : ∀ w ∈ wsX90, w ∈ wsX9_image := fun w h => List.mem_cons_of_mem _ (List.mem_append_right _ h)
theorem inX9_init_9 : ∀ w ∈ wsX90, w ∈ wsX9_init := fun w h => List.mem_cons_of_mem _ (List.mem_append_right _ h)
theorem inX9_isBare_9 : ∀ w ∈ wsX90, w ∈ wsX9_isBare := fun w h => List.mem_cons_of_mem _ (List.mem_append_right _ h)
theorem inX9_isBlock_9 : ∀ w ∈ wsX90, w ∈ wsX9_isBlock := fun w h => List.mem_cons_of_mem _ (List.mem_append_right _ h)
theorem inX9_lost_9 : ∀ w ∈ wsX90, w ∈ wsX9_lost := fun w h => List.mem_cons_of_mem _ (List.mem_append_right _ h)
theorem inX9_many_9 : ∀ w ∈ wsX90, w ∈ wsX9_many := fun w h => List.mem_cons_of_mem _ (List.mem_append_right _ h)
theorem inX9_number_9 : ∀ w ∈ wsX90, w ∈ wsX9_number := fun w h => List.mem_cons_of_mem _ (List.mem_append_right _ h)
theorem inX9_pack_9 : ∀ w ∈ wsX90, w ∈ wsX9_pack := fun w h => List.mem_cons_of_mem _ (List.mem_append_right _ h)
theorem inX9_packed_9 : ∀ w ∈ wsX90, w ∈ wsX9_packed := fun w h => List.mem_cons_of_mem _ (List.mem_append_right _ h)
theorem inX9_plainBlocks_9 : ∀ w ∈ wsX90, w ∈ wsX9_plainBlocks := fun w h => List.mem_cons_of_mem _ (List.mem_append_right _ h)
theorem inX9_push_9 : ∀ w ∈ wsX90, w ∈ wsX9_push := fun w h => List.mem_cons_of_mem _ (List.mem_append_right _ h)
theorem inX9_readBlock_9 : ∀ w ∈ wsX90, w ∈ wsX9_readBlock := fun w h => List.mem_cons_of_mem _ (List.mem_append_right _ h)
theorem inX9_readFold_9 : ∀ w ∈ wsX90, w ∈ wsX9_readFold := fun w h => List.mem_cons_of_mem _ (List.mem_append_right _ h)
theorem inX9_readSample_9 : ∀ w ∈ wsX90, w ∈ wsX9_readSample := fun w h => List.mem_cons_of_mem _ (List.mem_append_right _ h)
theorem inX9_read_9 : ∀ w ∈ wsX90, w ∈ wsX9_read := fun w h => List.mem_cons_of_mem _ (List.mem_append_right _ h)
theorem inX9_restore_9 : ∀ w ∈ wsX90, w ∈ wsX9_restore := fun w h => List.mem_cons_of_mem _ (List.mem_append_right _ h)
theorem inX9_room_9 : ∀ w ∈ wsX90, w ∈ wsX9_room := fun w h => List.mem_cons_of_mem _ (List.mem_append_right _ h)
theorem inX9_rule_9 : ∀ w ∈ wsX90, w ∈ wsX9_rule := fun w h => List.mem_cons_of_mem _ (List.mem_append_right _ h)
theorem inX9_sample_9 : ∀ w ∈ wsX90, w ∈ wsX9_sample := fun w h => List.mem_cons_of_mem _ (List.mem_append_right _ h)
theorem inX9_segmentLong_9 : ∀ w ∈ wsX90, w ∈ wsX9_segmentLong := fun w h => List.mem_cons_of_mem _ (List.mem_append_right _ h)
theorem inX9_takeRow_9 : ∀ w ∈ wsX90, w ∈ wsX9_takeRow := fun w h => List.mem_cons_of_mem _ (List.mem_append_right _ h)
theorem inX9_tape_9 : ∀ w ∈ wsX90, w ∈ wsX9_tape := fun w h => List.mem_cons_of_mem _ (List.mem_append_right _ h)
theorem inX9_top_9 : ∀ w ∈ wsX90, w ∈ wsX9_top := fun w h => List.mem_cons_of_mem _ (List.mem_append_right _ h)
theorem inX9_unfold_9 : ∀ w ∈ wsX90, w ∈ wsX9_unfold := fun w h => List.mem_cons_of_mem _ (List.mem_append_right _ h)
theorem inX9_writeFold_9 : ∀ w ∈ wsX90, w ∈ wsX9_writeFold := fun w h => List.mem_cons_of_mem _ (List.mem_append_right _ h)
theorem inX9_write_9 : ∀ w ∈ wsX90, w ∈ wsX9_write := fun w h => List.mem_cons_of_mem _ (List.mem_append_right _ h)
end
section
/-! the mathematics of the document: numbers from 0 on -/
def tpW (w : Nat) : Nat := 2 ^ w - 1
theorem p2le {w : Nat} (h : w ≤ 8) : 1 ≤ 2 ^ w ∧ 2 ^ w ≤ 256 := ⟨Nat.one_le_two_pow, Nat.le_trans (Nat.pow_le_pow_right (by omega) h) (by decide)⟩
theorem tpW_le {w : Nat} (h : w ≤ 8) : tpW w ≤ 255 := by
  have := p2le h
  unfold tpW
  omega
theorem tpW_ge {w : Nat} (h : 2 ≤ w) : 3 ≤ tpW w := by
  have : 2 ^ 2 ≤ 2 ^ w := Nat.pow_le_pow_right (by omega) h
  unfold tpW
  omega
theorem seB {sz ev : Nat} (h1 : 1 ≤ sz) (h2 : sz ≤ 8) (h3 : 1 ≤ ev) (h4 : ev ≤ 8) : 1 ≤ sz * ev ∧ sz * ev ≤ 64 := ⟨Nat.mul_le_mul h1 h3, Nat.mul_le_mul h2 h4⟩
theorem mulB {a b A B : Nat} (h1 : a ≤ A) (h2 : b ≤ B) : a * b ≤ A * B := Nat.mul_le_mul h1 h2
/-- what is told ahead -/
def told (w sz ev : Nat) (g : Nat → Nat) (i way : Nat) : Nat :=
  if way = 0 then (tpW w + 1) / 2 else if way = 1 then g (i - 1) else if way = 2 then min (tpW w) (2 * g (i - 1) - (if (i - 1) % (sz * ev) = 0 then g (i - 1) else g (i - 2))) else (g (i - 1) + (if (i - 1) % (sz * ev) = 0 then g (i - 1) else g (i - 2))) / 2
def foldN (v e t : Nat) : Nat := if e ≤ v ∧ v ≤ e + min e (t - e) then 2 * (v - e) else if v < e ∧ e - min e (t - e) ≤ v then 2 * (e - v) - 1 else min e (t - e) + (if v < e then e - v else v - e)
def unfoldN (f e t : Nat) : Nat := if f ≤ 2 * min e (t - e) then (if f % 2 = 0 then e + f / 2 else e - (f + 1) / 2) else if t - e ≤ e then e - (f - min e (t - e)) else e + (f - min e (t - e))
def mxN (g : Nat → Nat) : Nat → Nat
  | 0 => 0
  | k + 1 => max (mxN g k) (g k)
theorem mxN_le {g : Nat → Nat} {n B : Nat} (h : ∀ j, j < n → g j ≤ B) : mxN g n ≤ B := by
  induction n with
  | zero => exact Nat.zero_le _
  | succ n ih =>
    have h1 := ih (fun j hj => h j (Nat.lt_succ_of_lt hj))
    have h2 := h n (Nat.lt_succ_self n)
    simp only [mxN]
    omega
/-- the k lowest bits of v, the highest first -/
def nb (v : Nat) : Nat → List Nat
  | 0 => []
  | k + 1 => (v / 2 ^ k % 2) :: nb v k
theorem nb_length (v k : Nat) : (nb v k).length = k := by
  induction k with
  | zero => rfl
  | succ k ih => simp only [nb, List.length_cons, ih]
def putL (f : Nat → Nat) (n : Nat) (L : List Nat) : Nat → Nat := fun j => if n ≤ j ∧ j < n + L.length then L.getD (j - n) 0 else f j
theorem putL_nil (f : Nat → Nat) (n : Nat) : putL f n [] = f := by
  funext j
  simp only [putL, List.length_nil]
  rw [if_neg (by omega)]
theorem putL_snoc (f : Nat → Nat) (n : Nat) (L : List Nat) (x : Nat) : va_up (putL f n L) (n + L.length) x = putL f n (L ++ [x]) := by
  funext j
  simp only [va_up, putL, List.length_append, List.length_cons, List.length_nil]
  by_cases h1 : j = n + L.length
  · subst h1
    rw [if_pos rfl, if_pos (by omega)]
    simp [List.getD_eq_getElem?_getD]
  · rw [if_neg h1]
    by_cases h2 : n ≤ j ∧ j < n + L.length
    · rw [if_pos h2, if_pos (by omega)]
      simp only [List.getD_eq_getElem?_getD]
      rw [List.getElem?_append_left (by omega)]
    · rw [if_neg h2, if_neg (by omega)]
theorem putL_app (f : Nat → Nat) (n : Nat) (L M : List Nat) : putL (putL f n L) (n + L.length) M = putL f n (L ++ M) := by
  funext j
  simp only [putL, List.length_append]
  by_cases h1 : n + L.length ≤ j ∧ j < n + L.length + M.length
  · rw [if_pos h1, if_pos (by omega)]
    simp only [List.getD_eq_getElem?_getD]
    rw [List.getElem?_append_right (by omega)]
    congr 2
    omega
  · rw [if_neg h1]
    by_cases h2 : n ≤ j ∧ j < n + L.length
    · rw [if_pos h2, if_pos (by omega)]
      simp only [List.getD_eq_getElem?_getD]
      rw [List.getElem?_append_left (by omega)]
    · rw [if_neg h2, if_neg (by omega)]
/-- a number of the script inside a row -/
theorem q_nn {i : Int32} (h : 0 ≤ i.toInt) : i = nI i.toInt.toNat := by
  apply Int32.toInt_inj.mp
  rw [nI_toInt (by have := i.toInt_lt; omega)]
  omega
theorem q_cl {i : Int32} {n : Nat} (h : i.toInt < (n : Int)) (h0 : 0 ≤ i.toInt) : i.toInt.toNat < n := by omega
theorem q_m1t {k : Nat} (h : k < 2 ^ 30) : (nI k - nI 1).toInt = (k : Int) - 1 := pk_sub_toInt h (by decide)
theorem q_dec (x : Int32) : x + Int32.ofInt (-1) = x - nI 1 := by
  rw [Int32.sub_eq_add_neg]
  rfl
theorem q_abs {v e : Nat} (hv : v < 2 ^ 30) (he : e < 2 ^ 30) : (if 0 ≤ nI v - nI e then nI v - nI e else 0 - (nI v - nI e)) = nI (if v < e then e - v else v - e) := by
  have h := pk_sub_toInt hv he
  by_cases hlt : v < e
  · rw [if_neg (by rw [Int32.le_iff_toInt_le, h]; simp only [Int32.toInt_zero]; omega), if_pos hlt]
    have : (0 : Int32) - (nI v - nI e) = nI e - nI v := by
      rw [Int32.zero_sub, Int32.neg_sub]
    rw [this, pk_sub (by omega)]
  · rw [if_pos (by rw [Int32.le_iff_toInt_le, h]; simp only [Int32.toInt_zero]; omega), if_neg hlt, pk_sub (by omega)]
/-- the sample i of n, as g has it; none: -6 -/
def rAt (g : Nat → Nat) (n : Nat) (i : Int32) : Int32 := if 0 ≤ i.toInt ∧ i.toInt < (n : Int) then nI (g i.toInt.toNat) else -6
end
section
set_option maxHeartbeats 4000000 in
set_option maxRecDepth 100000 in
theorem c_X8_topOf (l : Launch) (D : va_G) (cI cZ cH : ClassId) (w : Nat) (hw : w ≤ 8) : Mi l D cI cZ cH yX8_topOf wsX8_topOf 0 0 [.int (nI w)] [] (fun (r9 : Int32) (_ : Unit) => r9 = nI (tpW w)) (fun (_ : Unit) => []) := by
  refine Mi.start (cc := cX8_topOf) (nL := 1) (ret := (some .int)) (lv0 := [(0, .int (nI w))]) (by decide) rfl (Nat.le_of_ble_eq_true rfl) rfl ?_
  intro pX eX sX mX bX methX cX AX C
  have h2 := p2le hw
  refine j_iconst C dX8_topOf_0 (nI 1) (by decide) 1 rfl ?_
  refine j_iload_n C dX8_topOf_1 0 rfl 2 rfl ?_
  refine j_ishl C dX8_topOf_2 (nI (1 * 2 ^ w)) (q_shl (by omega) (by omega)) 3 rfl ?_
  refine j_iconst C dX8_topOf_3 (nI 1) (by decide) 4 rfl ?_
  refine j_isub C dX8_topOf_4 (nI ((1 * 2 ^ w) - 1)) (pk_sub (by omega)) 5 rfl ?_
  exact j_iret C dX8_topOf_5 () (show (nI ((1 * 2 ^ w) - 1) : Int32) = nI (tpW w) from by congr 1; simp only [tpW]; omega) rfl
set_option maxHeartbeats 4000000 in
set_option maxRecDepth 100000 in
theorem c_X8_quotient (l : Launch) (D : va_G) (cI cZ cH : ClassId) (a d : Nat) (ha : a < 2 ^ 31) (h0 : 0 < d) (hd : d < 2 ^ 31) : Mi l D cI cZ cH yX8_quotient wsX8_quotient 0 0 [.int (nI a), .int (nI d)] [] (fun (r9 : Int32) (_ : Unit) => r9 = nI (a / d)) (fun (_ : Unit) => []) := by
  refine Mi.start (cc := cX8_quotient) (nL := 2) (ret := (some .int)) (lv0 := [(0, .int (nI a)), (1, .int (nI d))]) (by decide) rfl (Nat.le_of_ble_eq_true rfl) rfl ?_
  intro pX eX sX mX bX methX cX AX C
  refine j_iload_n C dX8_quotient_0 1 rfl 1 rfl ?_
  refine j_iconst C dX8_quotient_1 (nI 1) (by decide) 2 rfl ?_
  refine j_icmp_ge C dX8_quotient_2 9 (by decide) (q_t (by omega)) (q_t (n := 1) (Nat.le_of_ble_eq_true rfl)) 5 rfl (fun h2 => ?_) (fun h9 => by exfalso; omega)
  refine j_iload_n C dX8_quotient_9 0 rfl 10 rfl ?_
  refine j_iload_n C dX8_quotient_10 1 rfl 11 rfl ?_
  refine j_idiv C dX8_quotient_11 (nz (by omega) (by omega)) (nI (a / d)) (pk_div (by omega) (by omega) (by omega)) 12 rfl ?_
  have hdiv11 := Nat.div_le_self a d
  exact j_iret C dX8_quotient_12 () rfl rfl
set_option maxHeartbeats 4000000 in
set_option maxRecDepth 100000 in
theorem c_X8_quotientUp (l : Launch) (D : va_G) (cI cZ cH : ClassId) (a d : Nat) (ha : a < 2 ^ 30) (h0 : 0 < d) (hd : d < 2 ^ 30) : Mi l D cI cZ cH yX8_quotientUp wsX8_quotientUp 1 21 [.int (nI a), .int (nI d)] [] (fun (r9 : Int32) (_ : Unit) => r9 = nI ((a + d - 1) / d)) (fun (_ : Unit) => []) := by
  refine Mi.start (cc := cX8_quotientUp) (nL := 2) (ret := (some .int)) (lv0 := [(0, .int (nI a)), (1, .int (nI d))]) (by decide) rfl (Nat.le_of_ble_eq_true rfl) rfl ?_
  intro pX eX sX mX bX methX cX AX C
  refine j_iload_n C dX8_quotientUp_0 0 rfl 1 rfl ?_
  refine j_iload_n C dX8_quotientUp_1 1 rfl 2 rfl ?_
  refine j_iadd C dX8_quotientUp_2 (nI (a + d)) (nI_add a d) 3 rfl ?_
  refine j_iconst C dX8_quotientUp_3 (nI 1) (by decide) 4 rfl ?_
  refine j_isub C dX8_quotientUp_4 (nI ((a + d) - 1)) (pk_sub (by omega)) 5 rfl ?_
  refine j_iload_n C dX8_quotientUp_5 1 rfl 6 rfl ?_
  refine j_callSi1 (As := [.int (nI ((a + d) - 1)), .int (nI d)]) (rest := []) (wr := []) C (c_X8_quotient l D cI cZ cH ((a + d) - 1) d (by omega) (by omega) (by omega)) gX8_quotientUp_X8_quotient dX8_quotientUp_6 rfl yd_X8_quotient.2 (Nat.le_of_ble_eq_true rfl) (Nat.le_of_ble_eq_true rfl) rfl _ rfl (Nat.le_of_ble_eq_true rfl) (Nat.zero_le _) (Nat.zero_le _) [] [] rfl rfl rfl rfl rfl (by decide) [] [] rfl rfl rfl 9 rfl ?_
  exact j_iret C dX8_quotientUp_9 () (show (nI (((a + d) - 1) / d) : Int32) = nI ((a + d - 1) / d) from by first | rfl | omega | ((repeat' split) <;> first | rfl | omega | (exfalso; omega))) rfl
set_option maxHeartbeats 4000000 in
set_option maxRecDepth 100000 in
theorem c_X8_isWay (l : Launch) (D : va_G) (cI cZ cH : ClassId) (x : Int32)  : Mi l D cI cZ cH yX8_isWay wsX8_isWay 0 0 [.int x] [] (fun (r9 : Int32) (_ : Unit) => r9 = (if 0 ≤ x.toInt ∧ x.toInt < 4 then 1 else 0)) (fun (_ : Unit) => []) := by
  refine Mi.start (cc := cX8_isWay) (nL := 1) (ret := (some .boolean)) (lv0 := [(0, .int x)]) (by decide) rfl (Nat.le_of_ble_eq_true rfl) rfl ?_
  intro pX eX sX mX bX methX cX AX C
  refine j_iload_n C dX8_isWay_0 0 rfl 1 rfl ?_
  refine j_if_lt C dX8_isWay_1 13 (by decide) rfl 4 rfl (fun h1 => ?_) (fun h1 => ?_)
  · refine j_iconst C dX8_isWay_13 (nI 0) (by decide) 14 rfl ?_
    exact j_zret C dX8_isWay_14 rfl () (show (nI 0 : Int32) = (if 0 ≤ x.toInt ∧ x.toInt < 4 then 1 else 0) from by first | rfl | omega | ((repeat' split) <;> first | rfl | omega | (exfalso; omega))) rfl
  · refine j_iload_n C dX8_isWay_4 0 rfl 5 rfl ?_
    refine j_iconst C dX8_isWay_5 (nI 4) (by decide) 6 rfl ?_
    refine j_icmp_ge C dX8_isWay_6 13 (by decide) rfl (q_t (n := 4) (Nat.le_of_ble_eq_true rfl)) 9 rfl (fun h6 => ?_) (fun h6 => ?_)
    · refine j_iconst C dX8_isWay_13 (nI 0) (by decide) 14 rfl ?_
      exact j_zret C dX8_isWay_14 rfl () (show (nI 0 : Int32) = (if 0 ≤ x.toInt ∧ x.toInt < 4 then 1 else 0) from by first | rfl | omega | ((repeat' split) <;> first | rfl | omega | (exfalso; omega))) rfl
    · refine j_iconst C dX8_isWay_9 (nI 1) (by decide) 10 rfl ?_
      refine j_goto C dX8_isWay_10 14 (by decide) ?_
      exact j_zret C dX8_isWay_14 rfl () (show (nI 1 : Int32) = (if 0 ≤ x.toInt ∧ x.toInt < 4 then 1 else 0) from by first | rfl | omega | ((repeat' split) <;> first | rfl | omega | (exfalso; omega))) rfl
set_option maxHeartbeats 4000000 in
set_option maxRecDepth 100000 in
theorem c_X8_isImage (l : Launch) (D : va_G) (cI cZ cH : ClassId) (x : Int32)  : Mi l D cI cZ cH yX8_isImage wsX8_isImage 0 0 [.int x] [] (fun (r9 : Int32) (_ : Unit) => r9 = (if 0 ≤ x.toInt ∧ x.toInt < 2 then 1 else 0)) (fun (_ : Unit) => []) := by
  refine Mi.start (cc := cX8_isImage) (nL := 1) (ret := (some .boolean)) (lv0 := [(0, .int x)]) (by decide) rfl (Nat.le_of_ble_eq_true rfl) rfl ?_
  intro pX eX sX mX bX methX cX AX C
  refine j_iload_n C dX8_isImage_0 0 rfl 1 rfl ?_
  refine j_if_lt C dX8_isImage_1 13 (by decide) rfl 4 rfl (fun h1 => ?_) (fun h1 => ?_)
  · refine j_iconst C dX8_isImage_13 (nI 0) (by decide) 14 rfl ?_
    exact j_zret C dX8_isImage_14 rfl () (show (nI 0 : Int32) = (if 0 ≤ x.toInt ∧ x.toInt < 2 then 1 else 0) from by first | rfl | omega | ((repeat' split) <;> first | rfl | omega | (exfalso; omega))) rfl
  · refine j_iload_n C dX8_isImage_4 0 rfl 5 rfl ?_
    refine j_iconst C dX8_isImage_5 (nI 2) (by decide) 6 rfl ?_
    refine j_icmp_ge C dX8_isImage_6 13 (by decide) rfl (q_t (n := 2) (Nat.le_of_ble_eq_true rfl)) 9 rfl (fun h6 => ?_) (fun h6 => ?_)
    · refine j_iconst C dX8_isImage_13 (nI 0) (by decide) 14 rfl ?_
      exact j_zret C dX8_isImage_14 rfl () (show (nI 0 : Int32) = (if 0 ≤ x.toInt ∧ x.toInt < 2 then 1 else 0) from by first | rfl | omega | ((repeat' split) <;> first | rfl | omega | (exfalso; omega))) rfl
    · refine j_iconst C dX8_isImage_9 (nI 1) (by decide) 10 rfl ?_
      refine j_goto C dX8_isImage_10 14 (by decide) ?_
      exact j_zret C dX8_isImage_14 rfl () (show (nI 1 : Int32) = (if 0 ≤ x.toInt ∧ x.toInt < 2 then 1 else 0) from by first | rfl | omega | ((repeat' split) <;> first | rfl | omega | (exfalso; omega))) rfl
set_option maxHeartbeats 4000000 in
set_option maxRecDepth 100000 in
theorem c_X8_isCode (l : Launch) (D : va_G) (cI cZ cH : ClassId) (code w : Nat) (hc : code < 16) (hw : w ≤ 8) : Mi l D cI cZ cH yX8_isCode wsX8_isCode 0 0 [.int (nI code), .int (nI w)] [] (fun (r9 : Int32) (_ : Unit) => r9 = (if code = 0 ∨ code = 8 ∨ (1 ≤ code ∧ code < 8 ∧ code - 1 < w) then 1 else 0)) (fun (_ : Unit) => []) := by
  refine Mi.start (cc := cX8_isCode) (nL := 2) (ret := (some .boolean)) (lv0 := [(0, .int (nI code)), (1, .int (nI w))]) (by decide) rfl (Nat.le_of_ble_eq_true rfl) rfl ?_
  intro pX eX sX mX bX methX cX AX C
  refine j_iload_n C dX8_isCode_0 0 rfl 1 rfl ?_
  refine j_if_eq C dX8_isCode_1 10 (by decide) (q_t (by omega)) 4 rfl (fun h1 => ?_) (fun h1 => ?_)
  · refine j_iconst C dX8_isCode_10 (nI 1) (by decide) 11 rfl ?_
    exact j_zret C dX8_isCode_11 rfl () (show (nI 1 : Int32) = (if code = 0 ∨ code = 8 ∨ (1 ≤ code ∧ code < 8 ∧ code - 1 < w) then 1 else 0) from by first | rfl | omega | ((repeat' split) <;> first | rfl | omega | (exfalso; omega))) rfl
  · refine j_iload_n C dX8_isCode_4 0 rfl 5 rfl ?_
    refine j_bipush C dX8_isCode_5 (nI 8) (by decide) 7 rfl ?_
    refine j_icmp_ne C dX8_isCode_7 12 (by decide) (q_t (by omega)) (q_t (n := 8) (Nat.le_of_ble_eq_true rfl)) 10 rfl (fun h7 => ?_) (fun h7 => ?_)
    · refine j_iload_n C dX8_isCode_12 0 rfl 13 rfl ?_
      refine j_if_le C dX8_isCode_13 33 (by decide) (q_t (by omega)) 16 rfl (fun h13 => ?_) (fun h13 => ?_)
      · refine j_iconst C dX8_isCode_33 (nI 0) (by decide) 34 rfl ?_
        exact j_zret C dX8_isCode_34 rfl () (show (nI 0 : Int32) = (if code = 0 ∨ code = 8 ∨ (1 ≤ code ∧ code < 8 ∧ code - 1 < w) then 1 else 0) from by first | rfl | omega | ((repeat' split) <;> first | rfl | omega | (exfalso; omega))) rfl
      · refine j_iload_n C dX8_isCode_16 0 rfl 17 rfl ?_
        refine j_bipush C dX8_isCode_17 (nI 8) (by decide) 19 rfl ?_
        refine j_icmp_ge C dX8_isCode_19 33 (by decide) (q_t (by omega)) (q_t (n := 8) (Nat.le_of_ble_eq_true rfl)) 22 rfl (fun h19 => ?_) (fun h19 => ?_)
        · refine j_iconst C dX8_isCode_33 (nI 0) (by decide) 34 rfl ?_
          exact j_zret C dX8_isCode_34 rfl () (show (nI 0 : Int32) = (if code = 0 ∨ code = 8 ∨ (1 ≤ code ∧ code < 8 ∧ code - 1 < w) then 1 else 0) from by first | rfl | omega | ((repeat' split) <;> first | rfl | omega | (exfalso; omega))) rfl
        · refine j_iload_n C dX8_isCode_22 0 rfl 23 rfl ?_
          refine j_iconst C dX8_isCode_23 (nI 1) (by decide) 24 rfl ?_
          refine j_isub C dX8_isCode_24 (nI (code - 1)) (pk_sub (by omega)) 25 rfl ?_
          refine j_iload_n C dX8_isCode_25 1 rfl 26 rfl ?_
          refine j_icmp_ge C dX8_isCode_26 33 (by decide) (q_t (by omega)) (q_t (by omega)) 29 rfl (fun h26 => ?_) (fun h26 => ?_)
          · refine j_iconst C dX8_isCode_33 (nI 0) (by decide) 34 rfl ?_
            exact j_zret C dX8_isCode_34 rfl () (show (nI 0 : Int32) = (if code = 0 ∨ code = 8 ∨ (1 ≤ code ∧ code < 8 ∧ code - 1 < w) then 1 else 0) from by first | rfl | omega | ((repeat' split) <;> first | rfl | omega | (exfalso; omega))) rfl
          · refine j_iconst C dX8_isCode_29 (nI 1) (by decide) 30 rfl ?_
            refine j_goto C dX8_isCode_30 34 (by decide) ?_
            exact j_zret C dX8_isCode_34 rfl () (show (nI 1 : Int32) = (if code = 0 ∨ code = 8 ∨ (1 ≤ code ∧ code < 8 ∧ code - 1 < w) then 1 else 0) from by first | rfl | omega | ((repeat' split) <;> first | rfl | omega | (exfalso; omega))) rfl
    · refine j_iconst C dX8_isCode_10 (nI 1) (by decide) 11 rfl ?_
      exact j_zret C dX8_isCode_11 rfl () (show (nI 1 : Int32) = (if code = 0 ∨ code = 8 ∨ (1 ≤ code ∧ code < 8 ∧ code - 1 < w) then 1 else 0) from by first | rfl | omega | ((repeat' split) <;> first | rfl | omega | (exfalso; omega))) rfl
set_option maxHeartbeats 4000000 in
set_option maxRecDepth 100000 in
theorem c_X8_fold (l : Launch) (D : va_G) (cI cZ cH : ClassId) (v e t : Nat) (hv : v ≤ t) (he : e ≤ t) (ht : t ≤ 255) : Mi l D cI cZ cH yX8_fold wsX8_fold 1 14 [.int (nI v), .int (nI e), .int (nI t)] [] (fun (r9 : Int32) (_ : Unit) => r9 = nI (foldN v e t)) (fun (_ : Unit) => []) := by
  refine Mi.start (cc := cX8_fold) (nL := 4) (ret := (some .int)) (lv0 := [(0, .int (nI v)), (1, .int (nI e)), (2, .int (nI t))]) (by decide) rfl (Nat.le_of_ble_eq_true rfl) rfl ?_
  intro pX eX sX mX bX methX cX AX C
  refine j_iload_n C dX8_fold_0 1 rfl 1 rfl ?_
  refine j_iload_n C dX8_fold_1 2 rfl 2 rfl ?_
  refine j_iload_n C dX8_fold_2 1 rfl 3 rfl ?_
  refine j_isub C dX8_fold_3 (nI (t - e)) (pk_sub (by omega)) 4 rfl ?_
  refine j_min C dX8_fold_4 1 2 3 4 rfl rfl rfl rfl (Nat.le_of_ble_eq_true rfl) (Nat.le_of_ble_eq_true rfl) (Nat.zero_le _) (Nat.zero_le _) (nI (min e (t - e))) (q_min (by omega) (by omega)) 7 rfl ?_
  refine j_istore_n C dX8_fold_7 [(3, .int (nI (min e (t - e)))), (0, .int (nI v)), (1, .int (nI e)), (2, .int (nI t))] (by decide) rfl 8 rfl ?_
  refine j_iload_n C dX8_fold_8 1 rfl 9 rfl ?_
  refine j_iload_n C dX8_fold_9 2 rfl 10 rfl ?_
  refine j_icmp_lt C dX8_fold_10 26 (by decide) (q_t (by omega)) (q_t (by omega)) 13 rfl (fun h10 => ?_) (fun h10 => ?_)
  · refine j_iload_n C dX8_fold_26 1 rfl 27 rfl ?_
    refine j_iload_n C dX8_fold_27 2 rfl 28 rfl ?_
    refine j_icmp_ge C dX8_fold_28 46 (by decide) (q_t (by omega)) (q_t (by omega)) 31 rfl (fun h28 => ?_) (fun h28 => ?_)
    · refine j_iload_n C dX8_fold_46 0 rfl 47 rfl ?_
      refine j_iload_n C dX8_fold_47 1 rfl 48 rfl ?_
      refine j_iload_n C dX8_fold_48 2 rfl 49 rfl ?_
      refine j_isub C dX8_fold_49 (nI v - nI e) rfl 50 rfl ?_
      refine j_abs C dX8_fold_50 5 6 3 7 rfl rfl rfl rfl (Nat.le_of_ble_eq_true rfl) (Nat.le_of_ble_eq_true rfl) (Nat.zero_le _) (Nat.zero_le _) (nI (if v < e then e - v else v - e)) (q_abs (by omega) (by omega)) 53 rfl ?_
      refine j_iadd C dX8_fold_53 (nI (min e (t - e) + (if v < e then e - v else v - e))) (nI_add (min e (t - e)) (if v < e then e - v else v - e)) 54 rfl ?_
      exact j_iret C dX8_fold_54 () (show (nI (min e (t - e) + (if v < e then e - v else v - e)) : Int32) = nI (foldN v e t) from by (congr 1; simp only [foldN]; repeat' split) <;> omega) rfl
    · refine j_iload_n C dX8_fold_31 1 rfl 32 rfl ?_
      refine j_iload_n C dX8_fold_32 2 rfl 33 rfl ?_
      refine j_iload_n C dX8_fold_33 0 rfl 34 rfl ?_
      refine j_isub C dX8_fold_34 (nI (e - (min e (t - e)))) (pk_sub (by omega)) 35 rfl ?_
      refine j_icmp_lt C dX8_fold_35 46 (by decide) (q_t (by omega)) (q_t (by omega)) 38 rfl (fun h35 => ?_) (fun h35 => ?_)
      · refine j_iload_n C dX8_fold_46 0 rfl 47 rfl ?_
        refine j_iload_n C dX8_fold_47 1 rfl 48 rfl ?_
        refine j_iload_n C dX8_fold_48 2 rfl 49 rfl ?_
        refine j_isub C dX8_fold_49 (nI v - nI e) rfl 50 rfl ?_
        refine j_abs C dX8_fold_50 5 6 3 7 rfl rfl rfl rfl (Nat.le_of_ble_eq_true rfl) (Nat.le_of_ble_eq_true rfl) (Nat.zero_le _) (Nat.zero_le _) (nI (if v < e then e - v else v - e)) (q_abs (by omega) (by omega)) 53 rfl ?_
        refine j_iadd C dX8_fold_53 (nI (min e (t - e) + (if v < e then e - v else v - e))) (nI_add (min e (t - e)) (if v < e then e - v else v - e)) 54 rfl ?_
        exact j_iret C dX8_fold_54 () (show (nI (min e (t - e) + (if v < e then e - v else v - e)) : Int32) = nI (foldN v e t) from by (congr 1; simp only [foldN]; repeat' split) <;> omega) rfl
      · refine j_iconst C dX8_fold_38 (nI 2) (by decide) 39 rfl ?_
        refine j_iload_n C dX8_fold_39 2 rfl 40 rfl ?_
        refine j_iload_n C dX8_fold_40 1 rfl 41 rfl ?_
        refine j_isub C dX8_fold_41 (nI (e - v)) (pk_sub (by omega)) 42 rfl ?_
        refine j_imul C dX8_fold_42 (nI (2 * (e - v))) (pk_mul 2 (e - v)) 43 rfl ?_
        refine j_iconst C dX8_fold_43 (nI 1) (by decide) 44 rfl ?_
        refine j_isub C dX8_fold_44 (nI ((2 * (e - v)) - 1)) (pk_sub (by omega)) 45 rfl ?_
        exact j_iret C dX8_fold_45 () (show (nI ((2 * (e - v)) - 1) : Int32) = nI (foldN v e t) from by (congr 1; simp only [foldN]; repeat' split) <;> omega) rfl
  · refine j_iload_n C dX8_fold_13 1 rfl 14 rfl ?_
    refine j_iload_n C dX8_fold_14 2 rfl 15 rfl ?_
    refine j_iload_n C dX8_fold_15 0 rfl 16 rfl ?_
    refine j_iadd C dX8_fold_16 (nI (e + (min e (t - e)))) (nI_add e (min e (t - e))) 17 rfl ?_
    refine j_icmp_gt C dX8_fold_17 26 (by decide) (q_t (by omega)) (q_t (by omega)) 20 rfl (fun h17 => ?_) (fun h17 => ?_)
    · refine j_iload_n C dX8_fold_26 1 rfl 27 rfl ?_
      refine j_iload_n C dX8_fold_27 2 rfl 28 rfl ?_
      refine j_icmp_ge C dX8_fold_28 46 (by decide) (q_t (by omega)) (q_t (by omega)) 31 rfl (fun h28 => ?_) (fun h28 => ?_)
      · refine j_iload_n C dX8_fold_46 0 rfl 47 rfl ?_
        refine j_iload_n C dX8_fold_47 1 rfl 48 rfl ?_
        refine j_iload_n C dX8_fold_48 2 rfl 49 rfl ?_
        refine j_isub C dX8_fold_49 (nI v - nI e) rfl 50 rfl ?_
        refine j_abs C dX8_fold_50 5 6 3 7 rfl rfl rfl rfl (Nat.le_of_ble_eq_true rfl) (Nat.le_of_ble_eq_true rfl) (Nat.zero_le _) (Nat.zero_le _) (nI (if v < e then e - v else v - e)) (q_abs (by omega) (by omega)) 53 rfl ?_
        refine j_iadd C dX8_fold_53 (nI (min e (t - e) + (if v < e then e - v else v - e))) (nI_add (min e (t - e)) (if v < e then e - v else v - e)) 54 rfl ?_
        exact j_iret C dX8_fold_54 () (show (nI (min e (t - e) + (if v < e then e - v else v - e)) : Int32) = nI (foldN v e t) from by (congr 1; simp only [foldN]; repeat' split) <;> omega) rfl
      · refine j_iload_n C dX8_fold_31 1 rfl 32 rfl ?_
        refine j_iload_n C dX8_fold_32 2 rfl 33 rfl ?_
        refine j_iload_n C dX8_fold_33 0 rfl 34 rfl ?_
        refine j_isub C dX8_fold_34 (nI (e - (min e (t - e)))) (pk_sub (by omega)) 35 rfl ?_
        refine j_icmp_lt C dX8_fold_35 46 (by decide) (q_t (by omega)) (q_t (by omega)) 38 rfl (fun h35 => ?_) (fun h35 => ?_)
        · refine j_iload_n C dX8_fold_46 0 rfl 47 rfl ?_
          refine j_iload_n C dX8_fold_47 1 rfl 48 rfl ?_
          refine j_iload_n C dX8_fold_48 2 rfl 49 rfl ?_
          refine j_isub C dX8_fold_49 (nI v - nI e) rfl 50 rfl ?_
          refine j_abs C dX8_fold_50 5 6 3 7 rfl rfl rfl rfl (Nat.le_of_ble_eq_true rfl) (Nat.le_of_ble_eq_true rfl) (Nat.zero_le _) (Nat.zero_le _) (nI (if v < e then e - v else v - e)) (q_abs (by omega) (by omega)) 53 rfl ?_
          refine j_iadd C dX8_fold_53 (nI (min e (t - e) + (if v < e then e - v else v - e))) (nI_add (min e (t - e)) (if v < e then e - v else v - e)) 54 rfl ?_
          exact j_iret C dX8_fold_54 () (show (nI (min e (t - e) + (if v < e then e - v else v - e)) : Int32) = nI (foldN v e t) from by (congr 1; simp only [foldN]; repeat' split) <;> omega) rfl
        · refine j_iconst C dX8_fold_38 (nI 2) (by decide) 39 rfl ?_
          refine j_iload_n C dX8_fold_39 2 rfl 40 rfl ?_
          refine j_iload_n C dX8_fold_40 1 rfl 41 rfl ?_
          refine j_isub C dX8_fold_41 (nI (e - v)) (pk_sub (by omega)) 42 rfl ?_
          refine j_imul C dX8_fold_42 (nI (2 * (e - v))) (pk_mul 2 (e - v)) 43 rfl ?_
          refine j_iconst C dX8_fold_43 (nI 1) (by decide) 44 rfl ?_
          refine j_isub C dX8_fold_44 (nI ((2 * (e - v)) - 1)) (pk_sub (by omega)) 45 rfl ?_
          exact j_iret C dX8_fold_45 () (show (nI ((2 * (e - v)) - 1) : Int32) = nI (foldN v e t) from by (congr 1; simp only [foldN]; repeat' split) <;> omega) rfl
    · refine j_iconst C dX8_fold_20 (nI 2) (by decide) 21 rfl ?_
      refine j_iload_n C dX8_fold_21 1 rfl 22 rfl ?_
      refine j_iload_n C dX8_fold_22 2 rfl 23 rfl ?_
      refine j_isub C dX8_fold_23 (nI (v - e)) (pk_sub (by omega)) 24 rfl ?_
      refine j_imul C dX8_fold_24 (nI (2 * (v - e))) (pk_mul 2 (v - e)) 25 rfl ?_
      exact j_iret C dX8_fold_25 () (show (nI (2 * (v - e)) : Int32) = nI (foldN v e t) from by (congr 1; simp only [foldN]; repeat' split) <;> omega) rfl
set_option maxHeartbeats 4000000 in
set_option maxRecDepth 100000 in
theorem c_X8_unfold (l : Launch) (D : va_G) (cI cZ cH : ClassId) (f e t : Nat) (hf : f ≤ t) (he : e ≤ t) (ht : t ≤ 255) : Mi l D cI cZ cH yX8_unfold wsX8_unfold 1 13 [.int (nI f), .int (nI e), .int (nI t)] [] (fun (r9 : Int32) (_ : Unit) => r9 = nI (unfoldN f e t)) (fun (_ : Unit) => []) := by
  refine Mi.start (cc := cX8_unfold) (nL := 4) (ret := (some .int)) (lv0 := [(0, .int (nI f)), (1, .int (nI e)), (2, .int (nI t))]) (by decide) rfl (Nat.le_of_ble_eq_true rfl) rfl ?_
  intro pX eX sX mX bX methX cX AX C
  refine j_iload_n C dX8_unfold_0 1 rfl 1 rfl ?_
  refine j_iload_n C dX8_unfold_1 2 rfl 2 rfl ?_
  refine j_iload_n C dX8_unfold_2 1 rfl 3 rfl ?_
  refine j_isub C dX8_unfold_3 (nI (t - e)) (pk_sub (by omega)) 4 rfl ?_
  refine j_min C dX8_unfold_4 1 2 3 4 rfl rfl rfl rfl (Nat.le_of_ble_eq_true rfl) (Nat.le_of_ble_eq_true rfl) (Nat.zero_le _) (Nat.zero_le _) (nI (min e (t - e))) (q_min (by omega) (by omega)) 7 rfl ?_
  refine j_istore_n C dX8_unfold_7 [(3, .int (nI (min e (t - e)))), (0, .int (nI f)), (1, .int (nI e)), (2, .int (nI t))] (by decide) rfl 8 rfl ?_
  refine j_iload_n C dX8_unfold_8 1 rfl 9 rfl ?_
  refine j_iconst C dX8_unfold_9 (nI 2) (by decide) 10 rfl ?_
  refine j_iload_n C dX8_unfold_10 0 rfl 11 rfl ?_
  refine j_imul C dX8_unfold_11 (nI (2 * (min e (t - e)))) (pk_mul 2 (min e (t - e))) 12 rfl ?_
  refine j_icmp_le C dX8_unfold_12 36 (by decide) (q_t (by omega)) (q_t (by omega)) 15 rfl (fun h12 => ?_) (fun h12 => ?_)
  · refine j_iload_n C dX8_unfold_36 1 rfl 37 rfl ?_
    refine j_iconst C dX8_unfold_37 (nI 2) (by decide) 38 rfl ?_
    refine j_irem C dX8_unfold_38 (nz (by omega) (by omega)) (nI (f % 2)) (pk_rem (by omega) (by omega) (by omega)) 39 rfl ?_
    refine j_if_ne C dX8_unfold_39 50 (by decide) (q_t (by omega)) 42 rfl (fun h39 => ?_) (fun h39 => ?_)
    · refine j_iload_n C dX8_unfold_50 2 rfl 51 rfl ?_
      refine j_iload_n C dX8_unfold_51 1 rfl 52 rfl ?_
      refine j_iconst C dX8_unfold_52 (nI 1) (by decide) 53 rfl ?_
      refine j_iadd C dX8_unfold_53 (nI (f + 1)) (nI_add f 1) 54 rfl ?_
      refine j_iconst C dX8_unfold_54 (nI 2) (by decide) 55 rfl ?_
      refine j_idiv C dX8_unfold_55 (nz (by omega) (by omega)) (nI ((f + 1) / 2)) (pk_div (by omega) (by omega) (by omega)) 56 rfl ?_
      refine j_isub C dX8_unfold_56 (nI (e - ((f + 1) / 2))) (pk_sub (by omega)) 57 rfl ?_
      exact j_iret C dX8_unfold_57 () (show (nI (e - ((f + 1) / 2)) : Int32) = nI (unfoldN f e t) from by (congr 1; simp only [unfoldN]; repeat' split) <;> omega) rfl
    · refine j_iload_n C dX8_unfold_42 2 rfl 43 rfl ?_
      refine j_iload_n C dX8_unfold_43 1 rfl 44 rfl ?_
      refine j_iconst C dX8_unfold_44 (nI 2) (by decide) 45 rfl ?_
      refine j_idiv C dX8_unfold_45 (nz (by omega) (by omega)) (nI (f / 2)) (pk_div (by omega) (by omega) (by omega)) 46 rfl ?_
      refine j_iadd C dX8_unfold_46 (nI (e + (f / 2))) (nI_add e (f / 2)) 47 rfl ?_
      refine j_goto C dX8_unfold_47 57 (by decide) ?_
      exact j_iret C dX8_unfold_57 () (show (nI (e + (f / 2)) : Int32) = nI (unfoldN f e t) from by (congr 1; simp only [unfoldN]; repeat' split) <;> omega) rfl
  · refine j_iload_n C dX8_unfold_15 2 rfl 16 rfl ?_
    refine j_iload_n C dX8_unfold_16 3 rfl 17 rfl ?_
    refine j_iload_n C dX8_unfold_17 2 rfl 18 rfl ?_
    refine j_isub C dX8_unfold_18 (nI (t - e)) (pk_sub (by omega)) 19 rfl ?_
    refine j_icmp_ge C dX8_unfold_19 30 (by decide) (q_t (by omega)) (q_t (by omega)) 22 rfl (fun h19 => ?_) (fun h19 => ?_)
    · refine j_iload_n C dX8_unfold_30 2 rfl 31 rfl ?_
      refine j_iload_n C dX8_unfold_31 1 rfl 32 rfl ?_
      refine j_iload_n C dX8_unfold_32 0 rfl 33 rfl ?_
      refine j_isub C dX8_unfold_33 (nI (f - (min e (t - e)))) (pk_sub (by omega)) 34 rfl ?_
      refine j_isub C dX8_unfold_34 (nI (e - (f - (min e (t - e))))) (pk_sub (by omega)) 35 rfl ?_
      exact j_iret C dX8_unfold_35 () (show (nI (e - (f - (min e (t - e)))) : Int32) = nI (unfoldN f e t) from by (congr 1; simp only [unfoldN]; repeat' split) <;> omega) rfl
    · refine j_iload_n C dX8_unfold_22 2 rfl 23 rfl ?_
      refine j_iload_n C dX8_unfold_23 1 rfl 24 rfl ?_
      refine j_iload_n C dX8_unfold_24 0 rfl 25 rfl ?_
      refine j_isub C dX8_unfold_25 (nI (f - (min e (t - e)))) (pk_sub (by omega)) 26 rfl ?_
      refine j_iadd C dX8_unfold_26 (nI (e + (f - (min e (t - e))))) (nI_add e (f - (min e (t - e)))) 27 rfl ?_
      refine j_goto C dX8_unfold_27 35 (by decide) ?_
      exact j_iret C dX8_unfold_35 () (show (nI (e + (f - (min e (t - e)))) : Int32) = nI (unfoldN f e t) from by (congr 1; simp only [unfoldN]; repeat' split) <;> omega) rfl
set_option maxHeartbeats 4000000 in
set_option maxRecDepth 100000 in
theorem c_X7_top (l : Launch) (D : va_G) (cI cZ cH : ClassId) (h w sz ev : Nat) (hw : w ≤ 8) : Mi l D cI cZ cH yX7_top wsX7_top 1 20 [.ref h] [(h, .inr (7, [.int (nI w), .int (nI sz), .int (nI ev)]))] (fun (r9 : Int32) (_ : Unit) => r9 = nI (tpW w)) (fun (_ : Unit) => [(h, .inr (7, [.int (nI w), .int (nI sz), .int (nI ev)]))]) := by
  refine Mi.start (cc := cX7_top) (nL := 1) (ret := (some .int)) (lv0 := [(0, .ref h)]) (by decide) rfl (Nat.le_of_ble_eq_true rfl) rfl ?_
  intro pX eX sX mX bX methX cX AX C
  refine j_aload_n C dX7_top_0 0 rfl 1 rfl ?_
  refine j_get C dX7_top_1 0 0 1 inX7_top_7 rfl rfl (by decide) rfl rfl rfl 4 rfl ?_
  refine j_callNi1 (As := [.int (nI w)]) (rest := []) (wr := [(h, .inr (7, [.int (nI w), .int (nI sz), .int (nI ev)]))]) C (c_X8_topOf l D cI cZ cH w (by omega)) gX7_top_X8_topOf_n19 11 rfl 2 3 rfl rfl dX7_top_4 rfl yd_X8_topOf.2 (Nat.le_of_ble_eq_true rfl) (Nat.le_of_ble_eq_true rfl) rfl _ rfl (Nat.le_of_ble_eq_true rfl) (Nat.zero_le _) (Nat.zero_le _) [] [0] rfl rfl rfl rfl rfl (by decide) [0] [(h, .inr (7, [.int (nI w), .int (nI sz), .int (nI ev)]))] rfl rfl rfl 7 rfl ?_
  exact j_iret C dX7_top_7 () rfl rfl
set_option maxHeartbeats 4000000 in
set_option maxRecDepth 100000 in
theorem c_X7_segmentSize (l : Launch) (D : va_G) (cI cZ cH : ClassId) (h w sz ev : Nat)  : Mi l D cI cZ cH yX7_segmentSize wsX7_segmentSize 0 0 [.ref h] [(h, .inr (7, [.int (nI w), .int (nI sz), .int (nI ev)]))] (fun (r9 : Int32) (_ : Unit) => r9 = nI (sz * ev)) (fun (_ : Unit) => [(h, .inr (7, [.int (nI w), .int (nI sz), .int (nI ev)]))]) := by
  refine Mi.start (cc := cX7_segmentSize) (nL := 1) (ret := (some .int)) (lv0 := [(0, .ref h)]) (by decide) rfl (Nat.le_of_ble_eq_true rfl) rfl ?_
  intro pX eX sX mX bX methX cX AX C
  refine j_aload_n C dX7_segmentSize_0 0 rfl 1 rfl ?_
  refine j_get C dX7_segmentSize_1 0 1 1 inX7_segmentSize_7 rfl rfl (by decide) rfl rfl rfl 4 rfl ?_
  refine j_aload_n C dX7_segmentSize_4 0 rfl 5 rfl ?_
  refine j_get C dX7_segmentSize_5 0 2 2 inX7_segmentSize_7 rfl rfl (by decide) rfl rfl rfl 8 rfl ?_
  refine j_imul C dX7_segmentSize_8 (nI (sz * ev)) (pk_mul sz ev) 9 rfl ?_
  exact j_iret C dX7_segmentSize_9 () rfl rfl
set_option maxHeartbeats 4000000 in
set_option maxRecDepth 100000 in
theorem c_X7_isBare (l : Launch) (D : va_G) (cI cZ cH : ClassId) (h w sz ev : Nat) (i : Nat) (hsz : 1 ≤ sz ∧ sz ≤ 8) (hev : 1 ≤ ev ∧ ev ≤ 8) (hi : i < 2 ^ 30) : Mi l D cI cZ cH yX7_isBare wsX7_isBare 0 0 [.ref h, .int (nI i)] [(h, .inr (7, [.int (nI w), .int (nI sz), .int (nI ev)]))] (fun (r9 : Int32) (_ : Unit) => r9 = (if i % (sz * ev) = 0 then 1 else 0)) (fun (_ : Unit) => [(h, .inr (7, [.int (nI w), .int (nI sz), .int (nI ev)]))]) := by
  refine Mi.start (cc := cX7_isBare) (nL := 3) (ret := (some .boolean)) (lv0 := [(0, .ref h), (1, .int (nI i))]) (by decide) rfl (Nat.le_of_ble_eq_true rfl) rfl ?_
  intro pX eX sX mX bX methX cX AX C
  have hse := seB hsz.1 hsz.2 hev.1 hev.2
  refine j_aload_n C dX7_isBare_0 0 rfl 1 rfl ?_
  refine j_get C dX7_isBare_1 0 1 1 inX7_isBare_7 rfl rfl (by decide) rfl rfl rfl 4 rfl ?_
  refine j_aload_n C dX7_isBare_4 0 rfl 5 rfl ?_
  refine j_get C dX7_isBare_5 0 2 2 inX7_isBare_7 rfl rfl (by decide) rfl rfl rfl 8 rfl ?_
  refine j_imul C dX7_isBare_8 (nI (sz * ev)) (pk_mul sz ev) 9 rfl ?_
  refine j_istore_n C dX7_isBare_9 [(2, .int (nI (sz * ev))), (0, .ref h), (1, .int (nI i))] (by decide) rfl 10 rfl ?_
  refine j_iload_n C dX7_isBare_10 0 rfl 11 rfl ?_
  refine j_iconst C dX7_isBare_11 (nI 1) (by decide) 12 rfl ?_
  refine j_icmp_lt C dX7_isBare_12 21 (by decide) (q_t (by omega)) (q_t (n := 1) (Nat.le_of_ble_eq_true rfl)) 15 rfl (fun h9 => by exfalso; omega) (fun h12 => ?_)
  refine j_iload_n C dX7_isBare_15 2 rfl 16 rfl ?_
  refine j_iload_n C dX7_isBare_16 0 rfl 17 rfl ?_
  refine j_irem C dX7_isBare_17 (nz (by omega) (by omega)) (nI (i % (sz * ev))) (pk_rem (by omega) (by omega) (by omega)) 18 rfl ?_
  have hmod17 := Nat.mod_lt i (show 0 < (sz * ev) by omega)
  refine j_if_ne C dX7_isBare_18 25 (by decide) (q_t (by omega)) 21 rfl (fun h18 => ?_) (fun h18 => ?_)
  · refine j_iconst C dX7_isBare_25 (nI 0) (by decide) 26 rfl ?_
    exact j_zret C dX7_isBare_26 rfl () (show (nI 0 : Int32) = (if i % (sz * ev) = 0 then 1 else 0) from by first | rfl | omega | ((repeat' split) <;> first | rfl | omega | (exfalso; omega))) rfl
  · refine j_iconst C dX7_isBare_21 (nI 1) (by decide) 22 rfl ?_
    refine j_goto C dX7_isBare_22 26 (by decide) ?_
    exact j_zret C dX7_isBare_26 rfl () (show (nI 1 : Int32) = (if i % (sz * ev) = 0 then 1 else 0) from by first | rfl | omega | ((repeat' split) <;> first | rfl | omega | (exfalso; omega))) rfl
set_option maxHeartbeats 4000000 in
set_option maxRecDepth 100000 in
theorem c_X7_blockWith (l : Launch) (D : va_G) (cI cZ cH : ClassId) (h w sz ev : Nat) (i : Nat) (hsz : 1 ≤ sz ∧ sz ≤ 8) (hi : i < 2 ^ 30) : Mi l D cI cZ cH yX7_blockWith wsX7_blockWith 1 21 [.ref h, .int (nI i)] [(h, .inr (7, [.int (nI w), .int (nI sz), .int (nI ev)]))] (fun (r9 : Int32) (_ : Unit) => r9 = nI (i / sz)) (fun (_ : Unit) => [(h, .inr (7, [.int (nI w), .int (nI sz), .int (nI ev)]))]) := by
  refine Mi.start (cc := cX7_blockWith) (nL := 2) (ret := (some .int)) (lv0 := [(0, .ref h), (1, .int (nI i))]) (by decide) rfl (Nat.le_of_ble_eq_true rfl) rfl ?_
  intro pX eX sX mX bX methX cX AX C
  refine j_iload_n C dX7_blockWith_0 1 rfl 1 rfl ?_
  refine j_aload_n C dX7_blockWith_1 0 rfl 2 rfl ?_
  refine j_get C dX7_blockWith_2 0 1 1 inX7_blockWith_7 rfl rfl (by decide) rfl rfl rfl 5 rfl ?_
  refine j_callNi1 (As := [.int (nI i), .int (nI sz)]) (rest := []) (wr := [(h, .inr (7, [.int (nI w), .int (nI sz), .int (nI ev)]))]) C (c_X8_quotient l D cI cZ cH i sz (by omega) (by omega) (by omega)) gX7_blockWith_X8_quotient_n25 12 rfl 2 3 rfl rfl dX7_blockWith_5 rfl yd_X8_quotient.2 (Nat.le_of_ble_eq_true rfl) (Nat.le_of_ble_eq_true rfl) rfl _ rfl (Nat.le_of_ble_eq_true rfl) (Nat.zero_le _) (Nat.zero_le _) [] [0] rfl rfl rfl rfl rfl (by decide) [0] [(h, .inr (7, [.int (nI w), .int (nI sz), .int (nI ev)]))] rfl rfl rfl 8 rfl ?_
  exact j_iret C dX7_blockWith_8 () rfl rfl
set_option maxHeartbeats 4000000 in
set_option maxRecDepth 100000 in
theorem c_X7_endOfBlock (l : Launch) (D : va_G) (cI cZ cH : ClassId) (h w sz ev : Nat) (b n : Nat) (hsz : 1 ≤ sz ∧ sz ≤ 8) (hb : b ≤ 64) (hn : n ≤ 64) : Mi l D cI cZ cH yX7_endOfBlock wsX7_endOfBlock 1 13 [.ref h, .int (nI b), .int (nI n)] [(h, .inr (7, [.int (nI w), .int (nI sz), .int (nI ev)]))] (fun (r9 : Int32) (_ : Unit) => r9 = nI (min n ((b + 1) * sz))) (fun (_ : Unit) => [(h, .inr (7, [.int (nI w), .int (nI sz), .int (nI ev)]))]) := by
  refine Mi.start (cc := cX7_endOfBlock) (nL := 3) (ret := (some .int)) (lv0 := [(0, .ref h), (1, .int (nI b)), (2, .int (nI n))]) (by decide) rfl (Nat.le_of_ble_eq_true rfl) rfl ?_
  intro pX eX sX mX bX methX cX AX C
  have hm := mulB (show b + 1 ≤ 65 by omega) hsz.2
  refine j_iload_n C dX7_endOfBlock_0 2 rfl 1 rfl ?_
  refine j_iload_n C dX7_endOfBlock_1 1 rfl 2 rfl ?_
  refine j_iconst C dX7_endOfBlock_2 (nI 1) (by decide) 3 rfl ?_
  refine j_iadd C dX7_endOfBlock_3 (nI (b + 1)) (nI_add b 1) 4 rfl ?_
  refine j_aload_n C dX7_endOfBlock_4 0 rfl 5 rfl ?_
  refine j_get C dX7_endOfBlock_5 0 1 1 inX7_endOfBlock_7 rfl rfl (by decide) rfl rfl rfl 8 rfl ?_
  refine j_imul C dX7_endOfBlock_8 (nI ((b + 1) * sz)) (pk_mul (b + 1) sz) 9 rfl ?_
  refine j_min C dX7_endOfBlock_9 2 3 4 5 rfl rfl rfl rfl (Nat.le_of_ble_eq_true rfl) (Nat.le_of_ble_eq_true rfl) (Nat.zero_le _) (Nat.zero_le _) (nI (min n ((b + 1) * sz))) (q_min (by omega) (by omega)) 12 rfl ?_
  exact j_iret C dX7_endOfBlock_12 () rfl rfl
set_option maxHeartbeats 4000000 in
set_option maxRecDepth 100000 in
theorem c_X7_value (l : Launch) (D : va_G) (cI cZ cH : ClassId) (h w sz ev : Nat) (k : Nat) (hk : k ≤ 2) : Mi l D cI cZ cH yX7_value wsX7_value 0 0 [.ref h, .int (nI k)] [(h, .inr (7, [.int (nI w), .int (nI sz), .int (nI ev)]))] (fun (r9 : Int32) (_ : Unit) => r9 = nI (if k = 0 then w else if k = 1 then sz else ev)) (fun (_ : Unit) => [(h, .inr (7, [.int (nI w), .int (nI sz), .int (nI ev)]))]) := by
  refine Mi.start (cc := cX7_value) (nL := 2) (ret := (some .int)) (lv0 := [(0, .ref h), (1, .int (nI k))]) (by decide) rfl (Nat.le_of_ble_eq_true rfl) rfl ?_
  intro pX eX sX mX bX methX cX AX C
  refine j_iload_n C dX7_value_0 1 rfl 1 rfl ?_
  refine j_if_ne C dX7_value_1 9 (by decide) (q_t (by omega)) 4 rfl (fun h1 => ?_) (fun h1 => ?_)
  · refine j_iload_n C dX7_value_9 1 rfl 10 rfl ?_
    refine j_iconst C dX7_value_10 (nI 1) (by decide) 11 rfl ?_
    refine j_icmp_ne C dX7_value_11 21 (by decide) (q_t (by omega)) (q_t (n := 1) (Nat.le_of_ble_eq_true rfl)) 14 rfl (fun h11 => ?_) (fun h11 => ?_)
    · refine j_aload_n C dX7_value_21 0 rfl 22 rfl ?_
      refine j_get C dX7_value_22 0 2 3 inX7_value_7 rfl rfl (by decide) rfl rfl rfl 25 rfl ?_
      exact j_iret C dX7_value_25 () (show (nI ev : Int32) = nI (if k = 0 then w else if k = 1 then sz else ev) from by first | (rw [if_pos (by omega)]) | (rw [if_neg (by omega), if_pos (by omega)]) | (rw [if_neg (by omega), if_neg (by omega)])) rfl
    · refine j_aload_n C dX7_value_14 0 rfl 15 rfl ?_
      refine j_get C dX7_value_15 0 1 2 inX7_value_7 rfl rfl (by decide) rfl rfl rfl 18 rfl ?_
      refine j_goto C dX7_value_18 25 (by decide) ?_
      exact j_iret C dX7_value_25 () (show (nI sz : Int32) = nI (if k = 0 then w else if k = 1 then sz else ev) from by first | (rw [if_pos (by omega)]) | (rw [if_neg (by omega), if_pos (by omega)]) | (rw [if_neg (by omega), if_neg (by omega)])) rfl
  · refine j_aload_n C dX7_value_4 0 rfl 5 rfl ?_
    refine j_get C dX7_value_5 0 0 1 inX7_value_7 rfl rfl (by decide) rfl rfl rfl 8 rfl ?_
    exact j_iret C dX7_value_8 () (show (nI w : Int32) = nI (if k = 0 then w else if k = 1 then sz else ev) from by first | (rw [if_pos (by omega)]) | (rw [if_neg (by omega), if_pos (by omega)]) | (rw [if_neg (by omega), if_neg (by omega)])) rfl
set_option maxHeartbeats 4000000 in
set_option maxRecDepth 100000 in
theorem c_X7_change (l : Launch) (D : va_G) (cI cZ cH : ClassId) (h w sz ev : Nat) (k v : Nat) (hk : k ≤ 2) : Mv l D cI cZ cH yX7_change wsX7_change 0 0 [.ref h, .int (nI k), .int (nI v)] [(h, .inr (7, [.int (nI w), .int (nI sz), .int (nI ev)]))] (fun (_ : Unit) => True) (fun (_ : Unit) => [(h, .inr (7, [.int (nI (if k = 0 then v else w)), .int (nI (if k = 1 then v else sz)), .int (nI (if k = 2 then v else ev))]))]) := by
  refine Mv.start (cc := cX7_change) (nL := 3) (ret := none) (lv0 := [(0, .ref h), (1, .int (nI k)), (2, .int (nI v))]) (by decide) rfl (Nat.le_of_ble_eq_true rfl) rfl ?_
  intro pX eX sX mX bX methX cX AX C
  refine j_iload_n C dX7_change_0 1 rfl 1 rfl ?_
  refine j_if_ne C dX7_change_1 12 (by decide) (q_t (by omega)) 4 rfl (fun h1 => ?_) (fun h1 => ?_)
  · refine j_iload_n C dX7_change_12 1 rfl 13 rfl ?_
    refine j_iconst C dX7_change_13 (nI 1) (by decide) 14 rfl ?_
    refine j_icmp_ne C dX7_change_14 25 (by decide) (q_t (by omega)) (q_t (n := 1) (Nat.le_of_ble_eq_true rfl)) 17 rfl (fun h14 => ?_) (fun h14 => ?_)
    · refine j_aload_n C dX7_change_25 0 rfl 26 rfl ?_
      refine j_iload_n C dX7_change_26 2 rfl 27 rfl ?_
      refine j_put C dX7_change_27 0 2 3 inX7_change_7 tyX7 tyX7_ok nmX7 rfl rfl (by decide) rfl rfl rfl rfl rfl (Nat.le_of_ble_eq_true rfl) [(h, .inr (7, [.int (nI w), .int (nI sz), .int (nI v)]))] rfl 30 rfl ?_
      exact j_vret C dX7_change_30 () trivial (by rcases (show k = 0 ∨ k = 1 ∨ k = 2 by omega) with rfl | rfl | rfl <;> first | rfl | (exfalso; omega))
    · refine j_aload_n C dX7_change_17 0 rfl 18 rfl ?_
      refine j_iload_n C dX7_change_18 2 rfl 19 rfl ?_
      refine j_put C dX7_change_19 0 1 2 inX7_change_7 tyX7 tyX7_ok nmX7 rfl rfl (by decide) rfl rfl rfl rfl rfl (Nat.le_of_ble_eq_true rfl) [(h, .inr (7, [.int (nI w), .int (nI v), .int (nI ev)]))] rfl 22 rfl ?_
      refine j_goto C dX7_change_22 30 (by decide) ?_
      exact j_vret C dX7_change_30 () trivial (by rcases (show k = 0 ∨ k = 1 ∨ k = 2 by omega) with rfl | rfl | rfl <;> first | rfl | (exfalso; omega))
  · refine j_aload_n C dX7_change_4 0 rfl 5 rfl ?_
    refine j_iload_n C dX7_change_5 2 rfl 6 rfl ?_
    refine j_put C dX7_change_6 0 0 1 inX7_change_7 tyX7 tyX7_ok nmX7 rfl rfl (by decide) rfl rfl rfl rfl rfl (Nat.le_of_ble_eq_true rfl) [(h, .inr (7, [.int (nI v), .int (nI sz), .int (nI ev)]))] rfl 9 rfl ?_
    refine j_goto C dX7_change_9 30 (by decide) ?_
    exact j_vret C dX7_change_30 () trivial (by rcases (show k = 0 ∨ k = 1 ∨ k = 2 by omega) with rfl | rfl | rfl <;> first | rfl | (exfalso; omega))
set_option maxHeartbeats 4000000 in
set_option maxRecDepth 100000 in
theorem c_X7_takeOver (l : Launch) (D : va_G) (cI cZ cH : ClassId) (h w sz ev : Nat) (h2 w2 sz2 ev2 : Nat)  : Mv l D cI cZ cH yX7_takeOver wsX7_takeOver 0 0 [.ref h, .ref h2] [(h, .inr (7, [.int (nI w), .int (nI sz), .int (nI ev)])), (h2, .inr (7, [.int (nI w2), .int (nI sz2), .int (nI ev2)]))] (fun (_ : Unit) => True) (fun (_ : Unit) => [(h, .inr (7, [.int (nI w2), .int (nI sz2), .int (nI ev2)])), (h2, .inr (7, [.int (nI w2), .int (nI sz2), .int (nI ev2)]))]) := by
  refine Mv.start (cc := cX7_takeOver) (nL := 2) (ret := none) (lv0 := [(0, .ref h), (1, .ref h2)]) (by decide) rfl (Nat.le_of_ble_eq_true rfl) rfl ?_
  intro pX eX sX mX bX methX cX AX C
  refine j_aload_n C dX7_takeOver_0 0 rfl 1 rfl ?_
  refine j_aload_n C dX7_takeOver_1 1 rfl 2 rfl ?_
  refine j_get C dX7_takeOver_2 1 0 1 inX7_takeOver_7 rfl rfl (by decide) rfl rfl rfl 5 rfl ?_
  refine j_put C dX7_takeOver_5 0 0 1 inX7_takeOver_7 tyX7 tyX7_ok nmX7 rfl rfl (by decide) rfl rfl rfl rfl rfl (Nat.le_of_ble_eq_true rfl) [(h, .inr (7, [.int (nI w2), .int (nI sz), .int (nI ev)])), (h2, .inr (7, [.int (nI w2), .int (nI sz2), .int (nI ev2)]))] rfl 8 rfl ?_
  refine j_aload_n C dX7_takeOver_8 0 rfl 9 rfl ?_
  refine j_aload_n C dX7_takeOver_9 1 rfl 10 rfl ?_
  refine j_get C dX7_takeOver_10 1 1 2 inX7_takeOver_7 rfl rfl (by decide) rfl rfl rfl 13 rfl ?_
  refine j_put C dX7_takeOver_13 0 1 2 inX7_takeOver_7 tyX7 tyX7_ok nmX7 rfl rfl (by decide) rfl rfl rfl rfl rfl (Nat.le_of_ble_eq_true rfl) [(h, .inr (7, [.int (nI w2), .int (nI sz2), .int (nI ev)])), (h2, .inr (7, [.int (nI w2), .int (nI sz2), .int (nI ev2)]))] rfl 16 rfl ?_
  refine j_aload_n C dX7_takeOver_16 0 rfl 17 rfl ?_
  refine j_aload_n C dX7_takeOver_17 1 rfl 18 rfl ?_
  refine j_get C dX7_takeOver_18 1 2 3 inX7_takeOver_7 rfl rfl (by decide) rfl rfl rfl 21 rfl ?_
  refine j_put C dX7_takeOver_21 0 2 3 inX7_takeOver_7 tyX7 tyX7_ok nmX7 rfl rfl (by decide) rfl rfl rfl rfl rfl (Nat.le_of_ble_eq_true rfl) [(h, .inr (7, [.int (nI w2), .int (nI sz2), .int (nI ev2)])), (h2, .inr (7, [.int (nI w2), .int (nI sz2), .int (nI ev2)]))] rfl 24 rfl ?_
  exact j_vret C dX7_takeOver_24 () trivial rfl
set_option maxHeartbeats 4000000 in
set_option maxRecDepth 100000 in
theorem c_X6_has (l : Launch) (D : va_G) (cI cZ cH : ClassId) (h a n : Nat) (f : Nat → Nat) (i : Int32) (hn : n ≤ 64) : Mi l D cI cZ cH yX6_has wsX6_has 0 0 [.ref h, .int i] [(h, .inr (6, [.ref a, .int (nI n)])), (a, .inl (cI, 64, .inl (aN f)))] (fun (r9 : Int32) (_ : Unit) => r9 = (if 0 ≤ i.toInt ∧ i.toInt < (n : Int) then 1 else 0)) (fun (_ : Unit) => [(h, .inr (6, [.ref a, .int (nI n)])), (a, .inl (cI, 64, .inl (aN f)))]) := by
  refine Mi.start (cc := cX6_has) (nL := 2) (ret := (some .boolean)) (lv0 := [(0, .ref h), (1, .int i)]) (by decide) rfl (Nat.le_of_ble_eq_true rfl) rfl ?_
  intro pX eX sX mX bX methX cX AX C
  refine j_iload_n C dX6_has_0 1 rfl 1 rfl ?_
  refine j_if_lt C dX6_has_1 16 (by decide) rfl 4 rfl (fun h1 => ?_) (fun h1 => ?_)
  · refine j_iconst C dX6_has_16 (nI 0) (by decide) 17 rfl ?_
    exact j_zret C dX6_has_17 rfl () (show (nI 0 : Int32) = (if 0 ≤ i.toInt ∧ i.toInt < (n : Int) then 1 else 0) from by first | rfl | omega | ((repeat' split) <;> first | rfl | omega | (exfalso; omega))) rfl
  · refine j_iload_n C dX6_has_4 1 rfl 5 rfl ?_
    refine j_aload_n C dX6_has_5 0 rfl 6 rfl ?_
    refine j_get C dX6_has_6 0 1 1 inX6_has_6 rfl rfl (by decide) rfl rfl rfl 9 rfl ?_
    refine j_icmp_ge C dX6_has_9 16 (by decide) rfl (q_t (by omega)) 12 rfl (fun h9 => ?_) (fun h9 => ?_)
    · refine j_iconst C dX6_has_16 (nI 0) (by decide) 17 rfl ?_
      exact j_zret C dX6_has_17 rfl () (show (nI 0 : Int32) = (if 0 ≤ i.toInt ∧ i.toInt < (n : Int) then 1 else 0) from by first | rfl | omega | ((repeat' split) <;> first | rfl | omega | (exfalso; omega))) rfl
    · refine j_iconst C dX6_has_12 (nI 1) (by decide) 13 rfl ?_
      refine j_goto C dX6_has_13 17 (by decide) ?_
      exact j_zret C dX6_has_17 rfl () (show (nI 1 : Int32) = (if 0 ≤ i.toInt ∧ i.toInt < (n : Int) then 1 else 0) from by first | rfl | omega | ((repeat' split) <;> first | rfl | omega | (exfalso; omega))) rfl
set_option maxHeartbeats 4000000 in
set_option maxRecDepth 100000 in
theorem c_X6_hasN (l : Launch) (D : va_G) (cI cZ cH : ClassId) (h a n : Nat) (f : Nat → Nat) (i : Nat) (hn : n ≤ 64) (hi : i < 2 ^ 30) : Mi l D cI cZ cH yX6_has wsX6_has 0 0 [.ref h, .int (nI i)] [(h, .inr (6, [.ref a, .int (nI n)])), (a, .inl (cI, 64, .inl (aN f)))] (fun (r9 : Int32) (_ : Unit) => r9 = (if i < n then 1 else 0)) (fun (_ : Unit) => [(h, .inr (6, [.ref a, .int (nI n)])), (a, .inl (cI, 64, .inl (aN f)))]) := by
  refine Mi.start (cc := cX6_has) (nL := 2) (ret := (some .boolean)) (lv0 := [(0, .ref h), (1, .int (nI i))]) (by decide) rfl (Nat.le_of_ble_eq_true rfl) rfl ?_
  intro pX eX sX mX bX methX cX AX C
  refine j_iload_n C dX6_has_0 1 rfl 1 rfl ?_
  refine j_if_lt C dX6_has_1 16 (by decide) (q_t (by omega)) 4 rfl (fun h9 => by exfalso; omega) (fun h1 => ?_)
  refine j_iload_n C dX6_has_4 1 rfl 5 rfl ?_
  refine j_aload_n C dX6_has_5 0 rfl 6 rfl ?_
  refine j_get C dX6_has_6 0 1 1 inX6_has_6 rfl rfl (by decide) rfl rfl rfl 9 rfl ?_
  refine j_icmp_ge C dX6_has_9 16 (by decide) (q_t (by omega)) (q_t (by omega)) 12 rfl (fun h9 => ?_) (fun h9 => ?_)
  · refine j_iconst C dX6_has_16 (nI 0) (by decide) 17 rfl ?_
    exact j_zret C dX6_has_17 rfl () (show (nI 0 : Int32) = (if i < n then 1 else 0) from by first | rfl | omega | ((repeat' split) <;> first | rfl | omega | (exfalso; omega))) rfl
  · refine j_iconst C dX6_has_12 (nI 1) (by decide) 13 rfl ?_
    refine j_goto C dX6_has_13 17 (by decide) ?_
    exact j_zret C dX6_has_17 rfl () (show (nI 1 : Int32) = (if i < n then 1 else 0) from by first | rfl | omega | ((repeat' split) <;> first | rfl | omega | (exfalso; omega))) rfl
set_option maxHeartbeats 4000000 in
set_option maxRecDepth 100000 in
theorem c_X6_at (l : Launch) (D : va_G) (cI cZ cH : ClassId) (h a n : Nat) (f g : Nat → Nat) (i : Int32) (hn : n ≤ 64) (hfg : ∀ j, j < n → f j = g j) : Mi l D cI cZ cH yX6_at wsX6_at 0 0 [.ref h, .int i] [(h, .inr (6, [.ref a, .int (nI n)])), (a, .inl (cI, 64, .inl (aN f)))] (fun (r9 : Int32) (_ : Unit) => r9 = rAt g n i) (fun (_ : Unit) => [(h, .inr (6, [.ref a, .int (nI n)])), (a, .inl (cI, 64, .inl (aN f)))]) := by
  refine Mi.start (cc := cX6_at) (nL := 2) (ret := (some .int)) (lv0 := [(0, .ref h), (1, .int i)]) (by decide) rfl (Nat.le_of_ble_eq_true rfl) rfl ?_
  intro pX eX sX mX bX methX cX AX C
  refine j_iload_n C dX6_at_0 1 rfl 1 rfl ?_
  refine j_if_lt C dX6_at_1 21 (by decide) rfl 4 rfl (fun h1 => ?_) (fun h1 => ?_)
  · refine j_bipush C dX6_at_21 (-6) (by decide) 23 rfl ?_
    exact j_iret C dX6_at_23 () (show (-6 : Int32) = rAt g n i from by simp only [rAt]; first | (rw [if_pos ⟨by omega, by omega⟩, hfg _ (by omega)]) | (rw [if_neg (by omega)])) rfl
  · refine j_iload_n C dX6_at_4 1 rfl 5 rfl ?_
    refine j_aload_n C dX6_at_5 0 rfl 6 rfl ?_
    refine j_get C dX6_at_6 0 1 1 inX6_at_6 rfl rfl (by decide) rfl rfl rfl 9 rfl ?_
    refine j_icmp_ge C dX6_at_9 21 (by decide) rfl (q_t (by omega)) 12 rfl (fun h9 => ?_) (fun h9 => ?_)
    · refine j_bipush C dX6_at_21 (-6) (by decide) 23 rfl ?_
      exact j_iret C dX6_at_23 () (show (-6 : Int32) = rAt g n i from by simp only [rAt]; first | (rw [if_pos ⟨by omega, by omega⟩, hfg _ (by omega)]) | (rw [if_neg (by omega)])) rfl
    · refine j_aload_n C dX6_at_12 0 rfl 13 rfl ?_
      refine j_get C dX6_at_13 0 0 2 inX6_at_6 rfl rfl (by decide) rfl rfl rfl 16 rfl ?_
      refine j_iload_n C dX6_at_16 1 rfl 17 rfl ?_
      refine j_top (nI (i.toInt.toNat)) (q_nn (by omega)) ?_
      refine j_iald C dX6_at_17 1 rfl (by omega) (Nat.le_of_ble_eq_true rfl) 18 rfl ?_
      refine j_goto C dX6_at_18 23 (by decide) ?_
      exact j_iret C dX6_at_23 () (show (nI (f (i.toInt.toNat)) : Int32) = rAt g n i from by simp only [rAt]; first | (rw [if_pos ⟨by omega, by omega⟩, hfg _ (by omega)]) | (rw [if_neg (by omega)])) rfl
set_option maxHeartbeats 4000000 in
set_option maxRecDepth 100000 in
theorem c_X6_atN (l : Launch) (D : va_G) (cI cZ cH : ClassId) (h a n : Nat) (f g : Nat → Nat) (i : Nat) (hn : n ≤ 64) (hfg : ∀ j, j < n → f j = g j) (hi : i < n) : Mi l D cI cZ cH yX6_at wsX6_at 0 0 [.ref h, .int (nI i)] [(h, .inr (6, [.ref a, .int (nI n)])), (a, .inl (cI, 64, .inl (aN f)))] (fun (r9 : Int32) (_ : Unit) => r9 = nI (g i)) (fun (_ : Unit) => [(h, .inr (6, [.ref a, .int (nI n)])), (a, .inl (cI, 64, .inl (aN f)))]) := by
  refine Mi.start (cc := cX6_at) (nL := 2) (ret := (some .int)) (lv0 := [(0, .ref h), (1, .int (nI i))]) (by decide) rfl (Nat.le_of_ble_eq_true rfl) rfl ?_
  intro pX eX sX mX bX methX cX AX C
  refine j_iload_n C dX6_at_0 1 rfl 1 rfl ?_
  refine j_if_lt C dX6_at_1 21 (by decide) (q_t (by omega)) 4 rfl (fun h9 => by exfalso; omega) (fun h1 => ?_)
  refine j_iload_n C dX6_at_4 1 rfl 5 rfl ?_
  refine j_aload_n C dX6_at_5 0 rfl 6 rfl ?_
  refine j_get C dX6_at_6 0 1 1 inX6_at_6 rfl rfl (by decide) rfl rfl rfl 9 rfl ?_
  refine j_icmp_ge C dX6_at_9 21 (by decide) (q_t (by omega)) (q_t (by omega)) 12 rfl (fun h9 => by exfalso; omega) (fun h9 => ?_)
  refine j_aload_n C dX6_at_12 0 rfl 13 rfl ?_
  refine j_get C dX6_at_13 0 0 2 inX6_at_6 rfl rfl (by decide) rfl rfl rfl 16 rfl ?_
  refine j_iload_n C dX6_at_16 1 rfl 17 rfl ?_
  refine j_iald C dX6_at_17 1 rfl (by omega) (Nat.le_of_ble_eq_true rfl) 18 rfl ?_
  refine j_goto C dX6_at_18 23 (by decide) ?_
  exact j_iret C dX6_at_23 () (show (nI (f i) : Int32) = nI (g i) from by rw [hfg _ (by omega)]) rfl
set_option maxHeartbeats 4000000 in
set_option maxRecDepth 100000 in
theorem c_X6_atO (l : Launch) (D : va_G) (cI cZ cH : ClassId) (h a n : Nat) (f : Nat → Nat) (i : Nat) (hn : n ≤ 64) (hi : i < 2 ^ 30) (ho : n ≤ i) : Mi l D cI cZ cH yX6_at wsX6_at 0 0 [.ref h, .int (nI i)] [(h, .inr (6, [.ref a, .int (nI n)])), (a, .inl (cI, 64, .inl (aN f)))] (fun (r9 : Int32) (_ : Unit) => r9 = -6) (fun (_ : Unit) => [(h, .inr (6, [.ref a, .int (nI n)])), (a, .inl (cI, 64, .inl (aN f)))]) := by
  refine Mi.start (cc := cX6_at) (nL := 2) (ret := (some .int)) (lv0 := [(0, .ref h), (1, .int (nI i))]) (by decide) rfl (Nat.le_of_ble_eq_true rfl) rfl ?_
  intro pX eX sX mX bX methX cX AX C
  refine j_iload_n C dX6_at_0 1 rfl 1 rfl ?_
  refine j_if_lt C dX6_at_1 21 (by decide) (q_t (by omega)) 4 rfl (fun h9 => by exfalso; omega) (fun h1 => ?_)
  refine j_iload_n C dX6_at_4 1 rfl 5 rfl ?_
  refine j_aload_n C dX6_at_5 0 rfl 6 rfl ?_
  refine j_get C dX6_at_6 0 1 1 inX6_at_6 rfl rfl (by decide) rfl rfl rfl 9 rfl ?_
  refine j_icmp_ge C dX6_at_9 21 (by decide) (q_t (by omega)) (q_t (by omega)) 12 rfl (fun h9 => ?_) (fun h9 => by exfalso; omega)
  refine j_bipush C dX6_at_21 (-6) (by decide) 23 rfl ?_
  exact j_iret C dX6_at_23 () rfl rfl
set_option maxHeartbeats 4000000 in
set_option maxRecDepth 100000 in
theorem c_X6_append (l : Launch) (D : va_G) (cI cZ cH : ClassId) (h a n : Nat) (f : Nat → Nat) (v : Nat) (hn : n < 64) : Mv l D cI cZ cH yX6_append wsX6_append 0 0 [.ref h, .int (nI v)] [(h, .inr (6, [.ref a, .int (nI n)])), (a, .inl (cI, 64, .inl (aN f)))] (fun (_ : Unit) => True) (fun (_ : Unit) => [(h, .inr (6, [.ref a, .int (nI (n + 1))])), (a, .inl (cI, 64, .inl (aN (va_up f n v))))]) := by
  refine Mv.start (cc := cX6_append) (nL := 2) (ret := none) (lv0 := [(0, .ref h), (1, .int (nI v))]) (by decide) rfl (Nat.le_of_ble_eq_true rfl) rfl ?_
  intro pX eX sX mX bX methX cX AX C
  refine j_aload_n C dX6_append_0 0 rfl 1 rfl ?_
  refine j_get C dX6_append_1 0 1 1 inX6_append_6 rfl rfl (by decide) rfl rfl rfl 4 rfl ?_
  refine j_bipush C dX6_append_4 (nI 64) (by decide) 6 rfl ?_
  refine j_icmp_ge C dX6_append_6 29 (by decide) (q_t (by omega)) (q_t (n := 64) (Nat.le_of_ble_eq_true rfl)) 9 rfl (fun h9 => by exfalso; omega) (fun h6 => ?_)
  refine j_aload_n C dX6_append_9 0 rfl 10 rfl ?_
  refine j_get C dX6_append_10 0 0 2 inX6_append_6 rfl rfl (by decide) rfl rfl rfl 13 rfl ?_
  refine j_aload_n C dX6_append_13 0 rfl 14 rfl ?_
  refine j_get C dX6_append_14 0 1 1 inX6_append_6 rfl rfl (by decide) rfl rfl rfl 17 rfl ?_
  refine j_iload_n C dX6_append_17 1 rfl 18 rfl ?_
  refine j_iast C dX6_append_18 1 rfl (by omega) (Nat.le_of_ble_eq_true rfl) [(h, .inr (6, [.ref a, .int (nI n)])), (a, .inl (cI, 64, .inl (aN (va_up f n v))))] rfl 19 rfl ?_
  refine j_aload_n C dX6_append_19 0 rfl 20 rfl ?_
  refine j_dup C dX6_append_20 rfl 21 rfl ?_
  refine j_get C dX6_append_21 0 1 1 inX6_append_6 rfl rfl (by decide) rfl rfl rfl 24 rfl ?_
  refine j_iconst C dX6_append_24 (nI 1) (by decide) 25 rfl ?_
  refine j_iadd C dX6_append_25 (nI (n + 1)) (nI_add n 1) 26 rfl ?_
  refine j_put C dX6_append_26 0 1 1 inX6_append_6 tyX6 tyX6_ok nmX6 rfl rfl (by decide) rfl rfl rfl rfl rfl (Nat.le_of_ble_eq_true rfl) [(h, .inr (6, [.ref a, .int (nI (n + 1))])), (a, .inl (cI, 64, .inl (aN (va_up f n v))))] rfl 29 rfl ?_
  exact j_vret C dX6_append_29 () trivial rfl
set_option maxHeartbeats 4000000 in
set_option maxRecDepth 100000 in
theorem c_X6_takeOver (l : Launch) (D : va_G) (cI cZ cH : ClassId) (h a n : Nat) (f : Nat → Nat) (h2 a2 n2 : Nat) (f2 : Nat → Nat) (hn2 : n2 ≤ 64) : Mv l D cI cZ cH yX6_takeOver wsX6_takeOver 1 30 [.ref h, .ref h2] [(h, .inr (6, [.ref a, .int (nI n)])), (a, .inl (cI, 64, .inl (aN f))), (h2, .inr (6, [.ref a2, .int (nI n2)])), (a2, .inl (cI, 64, .inl (aN f2)))] (fun (_ : Unit) => True) (fun (_ : Unit) => [(h, .inr (6, [.ref a, .int (nI n2)])), (a, .inl (cI, 64, .inl (aN (fun j => if j < n2 then f2 j else f j)))), (h2, .inr (6, [.ref a2, .int (nI n2)])), (a2, .inl (cI, 64, .inl (aN f2)))]) := by
  refine Mv.start (cc := cX6_takeOver) (nL := 2) (ret := none) (lv0 := [(0, .ref h), (1, .ref h2)]) (by decide) rfl (Nat.le_of_ble_eq_true rfl) rfl ?_
  intro pX eX sX mX bX methX cX AX C
  refine j_aload_n C dX6_takeOver_0 1 rfl 1 rfl ?_
  refine j_get C dX6_takeOver_1 2 0 1 inX6_takeOver_6 rfl rfl (by decide) rfl rfl rfl 4 rfl ?_
  refine j_iconst C dX6_takeOver_4 (nI 0) (by decide) 5 rfl ?_
  refine j_aload_n C dX6_takeOver_5 0 rfl 6 rfl ?_
  refine j_get C dX6_takeOver_6 0 0 1 inX6_takeOver_6 rfl rfl (by decide) rfl rfl rfl 9 rfl ?_
  refine j_iconst C dX6_takeOver_9 (nI 0) (by decide) 10 rfl ?_
  refine j_aload_n C dX6_takeOver_10 1 rfl 11 rfl ?_
  refine j_get C dX6_takeOver_11 2 1 2 inX6_takeOver_6 rfl rfl (by decide) rfl rfl rfl 14 rfl ?_
  refine j_copy C dX6_takeOver_14 3 4 5 6 rfl rfl rfl rfl 3 1 rfl rfl (by omega) (by omega) (by omega) (Nat.le_of_ble_eq_true rfl) (Nat.le_of_ble_eq_true rfl) [(h, .inr (6, [.ref a, .int (nI n)])), (a, .inl (cI, 64, .inl (aN (fun j => if j < n2 then f2 j else f j)))), (h2, .inr (6, [.ref a2, .int (nI n2)])), (a2, .inl (cI, 64, .inl (aN f2)))] rfl 17 rfl ?_
  refine j_aload_n C dX6_takeOver_17 0 rfl 18 rfl ?_
  refine j_aload_n C dX6_takeOver_18 1 rfl 19 rfl ?_
  refine j_get C dX6_takeOver_19 2 1 2 inX6_takeOver_6 rfl rfl (by decide) rfl rfl rfl 22 rfl ?_
  refine j_put C dX6_takeOver_22 0 1 2 inX6_takeOver_6 tyX6 tyX6_ok nmX6 rfl rfl (by decide) rfl rfl rfl rfl rfl (Nat.le_of_ble_eq_true rfl) [(h, .inr (6, [.ref a, .int (nI n2)])), (a, .inl (cI, 64, .inl (aN (fun j => if j < n2 then f2 j else f j)))), (h2, .inr (6, [.ref a2, .int (nI n2)])), (a2, .inl (cI, 64, .inl (aN f2)))] rfl 25 rfl ?_
  exact j_vret C dX6_takeOver_25 () trivial rfl
set_option maxHeartbeats 4000000 in
set_option maxRecDepth 100000 in
theorem c_X0_has (l : Launch) (D : va_G) (cI cZ cH : ClassId) (h a n : Nat) (f : Nat → Nat) (i : Int32) (hn : n ≤ 1000) : Mi l D cI cZ cH yX0_has wsX0_has 0 0 [.ref h, .int i] [(h, .inr (0, [.ref a, .int (nI n)])), (a, .inl (cI, 1000, .inl (aN f)))] (fun (r9 : Int32) (_ : Unit) => r9 = (if 0 ≤ i.toInt ∧ i.toInt < (n : Int) then 1 else 0)) (fun (_ : Unit) => [(h, .inr (0, [.ref a, .int (nI n)])), (a, .inl (cI, 1000, .inl (aN f)))]) := by
  refine Mi.start (cc := cX0_has) (nL := 2) (ret := (some .boolean)) (lv0 := [(0, .ref h), (1, .int i)]) (by decide) rfl (Nat.le_of_ble_eq_true rfl) rfl ?_
  intro pX eX sX mX bX methX cX AX C
  refine j_iload_n C dX0_has_0 1 rfl 1 rfl ?_
  refine j_if_lt C dX0_has_1 16 (by decide) rfl 4 rfl (fun h1 => ?_) (fun h1 => ?_)
  · refine j_iconst C dX0_has_16 (nI 0) (by decide) 17 rfl ?_
    exact j_zret C dX0_has_17 rfl () (show (nI 0 : Int32) = (if 0 ≤ i.toInt ∧ i.toInt < (n : Int) then 1 else 0) from by first | rfl | omega | ((repeat' split) <;> first | rfl | omega | (exfalso; omega))) rfl
  · refine j_iload_n C dX0_has_4 1 rfl 5 rfl ?_
    refine j_aload_n C dX0_has_5 0 rfl 6 rfl ?_
    refine j_get C dX0_has_6 0 1 1 inX0_has_0 rfl rfl (by decide) rfl rfl rfl 9 rfl ?_
    refine j_icmp_ge C dX0_has_9 16 (by decide) rfl (q_t (by omega)) 12 rfl (fun h9 => ?_) (fun h9 => ?_)
    · refine j_iconst C dX0_has_16 (nI 0) (by decide) 17 rfl ?_
      exact j_zret C dX0_has_17 rfl () (show (nI 0 : Int32) = (if 0 ≤ i.toInt ∧ i.toInt < (n : Int) then 1 else 0) from by first | rfl | omega | ((repeat' split) <;> first | rfl | omega | (exfalso; omega))) rfl
    · refine j_iconst C dX0_has_12 (nI 1) (by decide) 13 rfl ?_
      refine j_goto C dX0_has_13 17 (by decide) ?_
      exact j_zret C dX0_has_17 rfl () (show (nI 1 : Int32) = (if 0 ≤ i.toInt ∧ i.toInt < (n : Int) then 1 else 0) from by first | rfl | omega | ((repeat' split) <;> first | rfl | omega | (exfalso; omega))) rfl
set_option maxHeartbeats 4000000 in
set_option maxRecDepth 100000 in
theorem c_X0_hasN (l : Launch) (D : va_G) (cI cZ cH : ClassId) (h a n : Nat) (f : Nat → Nat) (i : Nat) (hn : n ≤ 1000) (hi : i < 2 ^ 30) : Mi l D cI cZ cH yX0_has wsX0_has 0 0 [.ref h, .int (nI i)] [(h, .inr (0, [.ref a, .int (nI n)])), (a, .inl (cI, 1000, .inl (aN f)))] (fun (r9 : Int32) (_ : Unit) => r9 = (if i < n then 1 else 0)) (fun (_ : Unit) => [(h, .inr (0, [.ref a, .int (nI n)])), (a, .inl (cI, 1000, .inl (aN f)))]) := by
  refine Mi.start (cc := cX0_has) (nL := 2) (ret := (some .boolean)) (lv0 := [(0, .ref h), (1, .int (nI i))]) (by decide) rfl (Nat.le_of_ble_eq_true rfl) rfl ?_
  intro pX eX sX mX bX methX cX AX C
  refine j_iload_n C dX0_has_0 1 rfl 1 rfl ?_
  refine j_if_lt C dX0_has_1 16 (by decide) (q_t (by omega)) 4 rfl (fun h9 => by exfalso; omega) (fun h1 => ?_)
  refine j_iload_n C dX0_has_4 1 rfl 5 rfl ?_
  refine j_aload_n C dX0_has_5 0 rfl 6 rfl ?_
  refine j_get C dX0_has_6 0 1 1 inX0_has_0 rfl rfl (by decide) rfl rfl rfl 9 rfl ?_
  refine j_icmp_ge C dX0_has_9 16 (by decide) (q_t (by omega)) (q_t (by omega)) 12 rfl (fun h9 => ?_) (fun h9 => ?_)
  · refine j_iconst C dX0_has_16 (nI 0) (by decide) 17 rfl ?_
    exact j_zret C dX0_has_17 rfl () (show (nI 0 : Int32) = (if i < n then 1 else 0) from by first | rfl | omega | ((repeat' split) <;> first | rfl | omega | (exfalso; omega))) rfl
  · refine j_iconst C dX0_has_12 (nI 1) (by decide) 13 rfl ?_
    refine j_goto C dX0_has_13 17 (by decide) ?_
    exact j_zret C dX0_has_17 rfl () (show (nI 1 : Int32) = (if i < n then 1 else 0) from by first | rfl | omega | ((repeat' split) <;> first | rfl | omega | (exfalso; omega))) rfl
set_option maxHeartbeats 4000000 in
set_option maxRecDepth 100000 in
theorem c_X0_at (l : Launch) (D : va_G) (cI cZ cH : ClassId) (h a n : Nat) (f g : Nat → Nat) (i : Int32) (hn : n ≤ 1000) (hfg : ∀ j, j < n → f j = g j) : Mi l D cI cZ cH yX0_at wsX0_at 0 0 [.ref h, .int i] [(h, .inr (0, [.ref a, .int (nI n)])), (a, .inl (cI, 1000, .inl (aN f)))] (fun (r9 : Int32) (_ : Unit) => r9 = rAt g n i) (fun (_ : Unit) => [(h, .inr (0, [.ref a, .int (nI n)])), (a, .inl (cI, 1000, .inl (aN f)))]) := by
  refine Mi.start (cc := cX0_at) (nL := 2) (ret := (some .int)) (lv0 := [(0, .ref h), (1, .int i)]) (by decide) rfl (Nat.le_of_ble_eq_true rfl) rfl ?_
  intro pX eX sX mX bX methX cX AX C
  refine j_iload_n C dX0_at_0 1 rfl 1 rfl ?_
  refine j_if_lt C dX0_at_1 21 (by decide) rfl 4 rfl (fun h1 => ?_) (fun h1 => ?_)
  · refine j_bipush C dX0_at_21 (-6) (by decide) 23 rfl ?_
    exact j_iret C dX0_at_23 () (show (-6 : Int32) = rAt g n i from by simp only [rAt]; first | (rw [if_pos ⟨by omega, by omega⟩, hfg _ (by omega)]) | (rw [if_neg (by omega)])) rfl
  · refine j_iload_n C dX0_at_4 1 rfl 5 rfl ?_
    refine j_aload_n C dX0_at_5 0 rfl 6 rfl ?_
    refine j_get C dX0_at_6 0 1 1 inX0_at_0 rfl rfl (by decide) rfl rfl rfl 9 rfl ?_
    refine j_icmp_ge C dX0_at_9 21 (by decide) rfl (q_t (by omega)) 12 rfl (fun h9 => ?_) (fun h9 => ?_)
    · refine j_bipush C dX0_at_21 (-6) (by decide) 23 rfl ?_
      exact j_iret C dX0_at_23 () (show (-6 : Int32) = rAt g n i from by simp only [rAt]; first | (rw [if_pos ⟨by omega, by omega⟩, hfg _ (by omega)]) | (rw [if_neg (by omega)])) rfl
    · refine j_aload_n C dX0_at_12 0 rfl 13 rfl ?_
      refine j_get C dX0_at_13 0 0 2 inX0_at_0 rfl rfl (by decide) rfl rfl rfl 16 rfl ?_
      refine j_iload_n C dX0_at_16 1 rfl 17 rfl ?_
      refine j_top (nI (i.toInt.toNat)) (q_nn (by omega)) ?_
      refine j_iald C dX0_at_17 1 rfl (by omega) (Nat.le_of_ble_eq_true rfl) 18 rfl ?_
      refine j_goto C dX0_at_18 23 (by decide) ?_
      exact j_iret C dX0_at_23 () (show (nI (f (i.toInt.toNat)) : Int32) = rAt g n i from by simp only [rAt]; first | (rw [if_pos ⟨by omega, by omega⟩, hfg _ (by omega)]) | (rw [if_neg (by omega)])) rfl
set_option maxHeartbeats 4000000 in
set_option maxRecDepth 100000 in
theorem c_X0_atN (l : Launch) (D : va_G) (cI cZ cH : ClassId) (h a n : Nat) (f g : Nat → Nat) (i : Nat) (hn : n ≤ 1000) (hfg : ∀ j, j < n → f j = g j) (hi : i < n) : Mi l D cI cZ cH yX0_at wsX0_at 0 0 [.ref h, .int (nI i)] [(h, .inr (0, [.ref a, .int (nI n)])), (a, .inl (cI, 1000, .inl (aN f)))] (fun (r9 : Int32) (_ : Unit) => r9 = nI (g i)) (fun (_ : Unit) => [(h, .inr (0, [.ref a, .int (nI n)])), (a, .inl (cI, 1000, .inl (aN f)))]) := by
  refine Mi.start (cc := cX0_at) (nL := 2) (ret := (some .int)) (lv0 := [(0, .ref h), (1, .int (nI i))]) (by decide) rfl (Nat.le_of_ble_eq_true rfl) rfl ?_
  intro pX eX sX mX bX methX cX AX C
  refine j_iload_n C dX0_at_0 1 rfl 1 rfl ?_
  refine j_if_lt C dX0_at_1 21 (by decide) (q_t (by omega)) 4 rfl (fun h9 => by exfalso; omega) (fun h1 => ?_)
  refine j_iload_n C dX0_at_4 1 rfl 5 rfl ?_
  refine j_aload_n C dX0_at_5 0 rfl 6 rfl ?_
  refine j_get C dX0_at_6 0 1 1 inX0_at_0 rfl rfl (by decide) rfl rfl rfl 9 rfl ?_
  refine j_icmp_ge C dX0_at_9 21 (by decide) (q_t (by omega)) (q_t (by omega)) 12 rfl (fun h9 => by exfalso; omega) (fun h9 => ?_)
  refine j_aload_n C dX0_at_12 0 rfl 13 rfl ?_
  refine j_get C dX0_at_13 0 0 2 inX0_at_0 rfl rfl (by decide) rfl rfl rfl 16 rfl ?_
  refine j_iload_n C dX0_at_16 1 rfl 17 rfl ?_
  refine j_iald C dX0_at_17 1 rfl (by omega) (Nat.le_of_ble_eq_true rfl) 18 rfl ?_
  refine j_goto C dX0_at_18 23 (by decide) ?_
  exact j_iret C dX0_at_23 () (show (nI (f i) : Int32) = nI (g i) from by rw [hfg _ (by omega)]) rfl
set_option maxHeartbeats 4000000 in
set_option maxRecDepth 100000 in
theorem c_X0_atO (l : Launch) (D : va_G) (cI cZ cH : ClassId) (h a n : Nat) (f : Nat → Nat) (i : Nat) (hn : n ≤ 1000) (hi : i < 2 ^ 30) (ho : n ≤ i) : Mi l D cI cZ cH yX0_at wsX0_at 0 0 [.ref h, .int (nI i)] [(h, .inr (0, [.ref a, .int (nI n)])), (a, .inl (cI, 1000, .inl (aN f)))] (fun (r9 : Int32) (_ : Unit) => r9 = -6) (fun (_ : Unit) => [(h, .inr (0, [.ref a, .int (nI n)])), (a, .inl (cI, 1000, .inl (aN f)))]) := by
  refine Mi.start (cc := cX0_at) (nL := 2) (ret := (some .int)) (lv0 := [(0, .ref h), (1, .int (nI i))]) (by decide) rfl (Nat.le_of_ble_eq_true rfl) rfl ?_
  intro pX eX sX mX bX methX cX AX C
  refine j_iload_n C dX0_at_0 1 rfl 1 rfl ?_
  refine j_if_lt C dX0_at_1 21 (by decide) (q_t (by omega)) 4 rfl (fun h9 => by exfalso; omega) (fun h1 => ?_)
  refine j_iload_n C dX0_at_4 1 rfl 5 rfl ?_
  refine j_aload_n C dX0_at_5 0 rfl 6 rfl ?_
  refine j_get C dX0_at_6 0 1 1 inX0_at_0 rfl rfl (by decide) rfl rfl rfl 9 rfl ?_
  refine j_icmp_ge C dX0_at_9 21 (by decide) (q_t (by omega)) (q_t (by omega)) 12 rfl (fun h9 => ?_) (fun h9 => by exfalso; omega)
  refine j_bipush C dX0_at_21 (-6) (by decide) 23 rfl ?_
  exact j_iret C dX0_at_23 () rfl rfl
set_option maxHeartbeats 4000000 in
set_option maxRecDepth 100000 in
theorem c_X0_append (l : Launch) (D : va_G) (cI cZ cH : ClassId) (h a n : Nat) (f : Nat → Nat) (v : Nat) (hn : n < 1000) : Mv l D cI cZ cH yX0_append wsX0_append 0 0 [.ref h, .int (nI v)] [(h, .inr (0, [.ref a, .int (nI n)])), (a, .inl (cI, 1000, .inl (aN f)))] (fun (_ : Unit) => True) (fun (_ : Unit) => [(h, .inr (0, [.ref a, .int (nI (n + 1))])), (a, .inl (cI, 1000, .inl (aN (va_up f n v))))]) := by
  refine Mv.start (cc := cX0_append) (nL := 2) (ret := none) (lv0 := [(0, .ref h), (1, .int (nI v))]) (by decide) rfl (Nat.le_of_ble_eq_true rfl) rfl ?_
  intro pX eX sX mX bX methX cX AX C
  refine j_aload_n C dX0_append_0 0 rfl 1 rfl ?_
  refine j_get C dX0_append_1 0 1 1 inX0_append_0 rfl rfl (by decide) rfl rfl rfl 4 rfl ?_
  refine j_sipush C dX0_append_4 (nI 1000) (by decide) 7 rfl ?_
  refine j_icmp_ge C dX0_append_7 30 (by decide) (q_t (by omega)) (q_t (n := 1000) (Nat.le_of_ble_eq_true rfl)) 10 rfl (fun h9 => by exfalso; omega) (fun h7 => ?_)
  refine j_aload_n C dX0_append_10 0 rfl 11 rfl ?_
  refine j_get C dX0_append_11 0 0 2 inX0_append_0 rfl rfl (by decide) rfl rfl rfl 14 rfl ?_
  refine j_aload_n C dX0_append_14 0 rfl 15 rfl ?_
  refine j_get C dX0_append_15 0 1 1 inX0_append_0 rfl rfl (by decide) rfl rfl rfl 18 rfl ?_
  refine j_iload_n C dX0_append_18 1 rfl 19 rfl ?_
  refine j_iast C dX0_append_19 1 rfl (by omega) (Nat.le_of_ble_eq_true rfl) [(h, .inr (0, [.ref a, .int (nI n)])), (a, .inl (cI, 1000, .inl (aN (va_up f n v))))] rfl 20 rfl ?_
  refine j_aload_n C dX0_append_20 0 rfl 21 rfl ?_
  refine j_dup C dX0_append_21 rfl 22 rfl ?_
  refine j_get C dX0_append_22 0 1 1 inX0_append_0 rfl rfl (by decide) rfl rfl rfl 25 rfl ?_
  refine j_iconst C dX0_append_25 (nI 1) (by decide) 26 rfl ?_
  refine j_iadd C dX0_append_26 (nI (n + 1)) (nI_add n 1) 27 rfl ?_
  refine j_put C dX0_append_27 0 1 1 inX0_append_0 tyX0 tyX0_ok nmX0 rfl rfl (by decide) rfl rfl rfl rfl rfl (Nat.le_of_ble_eq_true rfl) [(h, .inr (0, [.ref a, .int (nI (n + 1))])), (a, .inl (cI, 1000, .inl (aN (va_up f n v))))] rfl 30 rfl ?_
  exact j_vret C dX0_append_30 () trivial rfl
set_option maxHeartbeats 4000000 in
set_option maxRecDepth 100000 in
theorem c_X0_takeOver (l : Launch) (D : va_G) (cI cZ cH : ClassId) (h a n : Nat) (f : Nat → Nat) (h2 a2 n2 : Nat) (f2 : Nat → Nat) (hn2 : n2 ≤ 1000) : Mv l D cI cZ cH yX0_takeOver wsX0_takeOver 1 30 [.ref h, .ref h2] [(h, .inr (0, [.ref a, .int (nI n)])), (a, .inl (cI, 1000, .inl (aN f))), (h2, .inr (0, [.ref a2, .int (nI n2)])), (a2, .inl (cI, 1000, .inl (aN f2)))] (fun (_ : Unit) => True) (fun (_ : Unit) => [(h, .inr (0, [.ref a, .int (nI n2)])), (a, .inl (cI, 1000, .inl (aN (fun j => if j < n2 then f2 j else f j)))), (h2, .inr (0, [.ref a2, .int (nI n2)])), (a2, .inl (cI, 1000, .inl (aN f2)))]) := by
  refine Mv.start (cc := cX0_takeOver) (nL := 2) (ret := none) (lv0 := [(0, .ref h), (1, .ref h2)]) (by decide) rfl (Nat.le_of_ble_eq_true rfl) rfl ?_
  intro pX eX sX mX bX methX cX AX C
  refine j_aload_n C dX0_takeOver_0 1 rfl 1 rfl ?_
  refine j_get C dX0_takeOver_1 2 0 1 inX0_takeOver_0 rfl rfl (by decide) rfl rfl rfl 4 rfl ?_
  refine j_iconst C dX0_takeOver_4 (nI 0) (by decide) 5 rfl ?_
  refine j_aload_n C dX0_takeOver_5 0 rfl 6 rfl ?_
  refine j_get C dX0_takeOver_6 0 0 1 inX0_takeOver_0 rfl rfl (by decide) rfl rfl rfl 9 rfl ?_
  refine j_iconst C dX0_takeOver_9 (nI 0) (by decide) 10 rfl ?_
  refine j_aload_n C dX0_takeOver_10 1 rfl 11 rfl ?_
  refine j_get C dX0_takeOver_11 2 1 2 inX0_takeOver_0 rfl rfl (by decide) rfl rfl rfl 14 rfl ?_
  refine j_copy C dX0_takeOver_14 3 4 5 6 rfl rfl rfl rfl 3 1 rfl rfl (by omega) (by omega) (by omega) (Nat.le_of_ble_eq_true rfl) (Nat.le_of_ble_eq_true rfl) [(h, .inr (0, [.ref a, .int (nI n)])), (a, .inl (cI, 1000, .inl (aN (fun j => if j < n2 then f2 j else f j)))), (h2, .inr (0, [.ref a2, .int (nI n2)])), (a2, .inl (cI, 1000, .inl (aN f2)))] rfl 17 rfl ?_
  refine j_aload_n C dX0_takeOver_17 0 rfl 18 rfl ?_
  refine j_aload_n C dX0_takeOver_18 1 rfl 19 rfl ?_
  refine j_get C dX0_takeOver_19 2 1 2 inX0_takeOver_0 rfl rfl (by decide) rfl rfl rfl 22 rfl ?_
  refine j_put C dX0_takeOver_22 0 1 2 inX0_takeOver_0 tyX0 tyX0_ok nmX0 rfl rfl (by decide) rfl rfl rfl rfl rfl (Nat.le_of_ble_eq_true rfl) [(h, .inr (0, [.ref a, .int (nI n2)])), (a, .inl (cI, 1000, .inl (aN (fun j => if j < n2 then f2 j else f j)))), (h2, .inr (0, [.ref a2, .int (nI n2)])), (a2, .inl (cI, 1000, .inl (aN f2)))] rfl 25 rfl ?_
  exact j_vret C dX0_takeOver_25 () trivial rfl
set_option maxHeartbeats 4000000 in
set_option maxRecDepth 100000 in
theorem c_X6_highest (l : Launch) (D : va_G) (cI cZ cH : ClassId) (h a n : Nat) (f g : Nat → Nat) (hn : n ≤ 64) (hfg : ∀ j, j < n → f j = g j) (hg : ∀ j, j < n → g j ≤ 255) : Mi l D cI cZ cH yX6_highest wsX6_highest 1 13 [.ref h] [(h, .inr (6, [.ref a, .int (nI n)])), (a, .inl (cI, 64, .inl (aN f)))] (fun (r9 : Int32) (_ : Unit) => r9 = nI (mxN g n)) (fun (_ : Unit) => [(h, .inr (6, [.ref a, .int (nI n)])), (a, .inl (cI, 64, .inl (aN f)))]) := by
  refine Mi.start (cc := cX6_highest) (nL := 3) (ret := (some .int)) (lv0 := [(0, .ref h)]) (by decide) rfl (Nat.le_of_ble_eq_true rfl) rfl ?_
  intro pX eX sX mX bX methX cX AX C
  refine j_iconst C dX6_highest_0 (nI 0) (by decide) 1 rfl ?_
  refine j_istore_n C dX6_highest_1 [(1, .int (nI 0)), (0, .ref h)] (by decide) rfl 2 rfl ?_
  refine j_iconst C dX6_highest_2 (nI 0) (by decide) 3 rfl ?_
  refine j_istore_n C dX6_highest_3 [(2, .int (nI 0)), (1, .int (nI 0)), (0, .ref h)] (by decide) rfl 4 rfl ?_
  refine j_loop2 (fun (i : Nat) (acc : Nat) => i ≤ n ∧ acc = mxN g i) (fun (i : Nat) (acc : Nat) => n - i) (fun (i : Nat) (acc : Nat) => [(h, .inr (6, [.ref a, .int (nI n)])), (a, .inl (cI, 64, .inl (aN f)))]) (fun (i : Nat) (acc : Nat) => [(2, .int (nI i)), (1, .int (nI acc)), (0, .ref h)]) ?_ 0 0 ⟨by omega, rfl⟩ rfl rfl
  intro i acc hI4 ih4
  obtain ⟨hi, hacc⟩ := hI4
  show J D AX pX l eX _ sX mX _ bX methX cX 0 0 _ 3 [(h, .inr (6, [.ref a, .int (nI n)])), (a, .inl (cI, 64, .inl (aN f)))] [(2, .int (nI i)), (1, .int (nI acc)), (0, .ref h)] 4 []
  refine j_iload_n C dX6_highest_4 0 rfl 5 rfl ?_
  refine j_aload_n C dX6_highest_5 2 rfl 6 rfl ?_
  refine j_get C dX6_highest_6 0 1 1 inX6_highest_6 rfl rfl (by decide) rfl rfl rfl 9 rfl ?_
  refine j_icmp_ge C dX6_highest_9 29 (by decide) (q_t (by omega)) (q_t (by omega)) 12 rfl (fun h9 => ?_) (fun h9 => ?_)
  · refine j_iload_n C dX6_highest_29 1 rfl 30 rfl ?_
    exact j_iret C dX6_highest_30 () (show (nI acc : Int32) = nI (mxN g n) from by rw [hacc]; congr 2; omega) rfl
  · refine j_iload_n C dX6_highest_12 1 rfl 13 rfl ?_
    refine j_aload_n C dX6_highest_13 2 rfl 14 rfl ?_
    refine j_get C dX6_highest_14 0 0 2 inX6_highest_6 rfl rfl (by decide) rfl rfl rfl 17 rfl ?_
    refine j_iload_n C dX6_highest_17 0 rfl 18 rfl ?_
    refine j_iald C dX6_highest_18 1 rfl (by omega) (Nat.le_of_ble_eq_true rfl) 19 rfl ?_
    refine j_top (nI (g i)) (by rw [hfg i (by omega)]) ?_
    have hgi := hg i (by omega)
    have hm := mxN_le (g := g) (n := i) (B := 255) (fun j hj => hg j (by omega))
    refine j_max C dX6_highest_19 3 4 5 6 rfl rfl rfl rfl (Nat.le_of_ble_eq_true rfl) (Nat.le_of_ble_eq_true rfl) (Nat.zero_le _) (Nat.zero_le _) (nI (max acc (g i))) (q_max (by omega) (by omega)) 22 rfl ?_
    refine j_istore_n C dX6_highest_22 [(1, .int (nI (max acc (g i)))), (2, .int (nI i)), (0, .ref h)] (by decide) rfl 23 rfl ?_
    refine j_iinc C dX6_highest_23 1 rfl (nI (i + 1)) (nI_1 (i)) [(2, .int (nI (i + 1))), (1, .int (nI (max acc (g i)))), (0, .ref h)] (by decide) rfl 26 rfl ?_
    refine j_goto C dX6_highest_26 4 (by decide) ?_
    exact ih4 (i + 1) (max acc (g i)) ⟨by omega, by rw [hacc]; rfl⟩ (by omega)
set_option maxHeartbeats 4000000 in
set_option maxRecDepth 100000 in
theorem c_X1_isTold (l : Launch) (D : va_G) (cI cZ cH : ClassId) (h x : Nat) (y z : Int32) (hx : x < 2 ^ 31) : Mi l D cI cZ cH yX1_isTold wsX1_isTold 0 0 [.ref h] [(h, .inr (1, [.int (nI x), .int y, .int z]))] (fun (r9 : Int32) (_ : Unit) => r9 = (if ¬ x = 0 then 1 else 0)) (fun (_ : Unit) => [(h, .inr (1, [.int (nI x), .int y, .int z]))]) := by
  refine Mi.start (cc := cX1_isTold) (nL := 1) (ret := (some .boolean)) (lv0 := [(0, .ref h)]) (by decide) rfl (Nat.le_of_ble_eq_true rfl) rfl ?_
  intro pX eX sX mX bX methX cX AX C
  refine j_aload_n C dX1_isTold_0 0 rfl 1 rfl ?_
  refine j_get C dX1_isTold_1 0 0 1 inX1_isTold_1 rfl rfl (by decide) rfl rfl rfl 4 rfl ?_
  refine j_if_eq C dX1_isTold_4 11 (by decide) (q_t (by omega)) 7 rfl (fun h4 => ?_) (fun h4 => ?_)
  · refine j_iconst C dX1_isTold_11 (nI 0) (by decide) 12 rfl ?_
    exact j_zret C dX1_isTold_12 rfl () (show (nI 0 : Int32) = (if ¬ x = 0 then 1 else 0) from by first | rfl | omega | ((repeat' split) <;> first | rfl | omega | (exfalso; omega))) rfl
  · refine j_iconst C dX1_isTold_7 (nI 1) (by decide) 8 rfl ?_
    refine j_goto C dX1_isTold_8 12 (by decide) ?_
    exact j_zret C dX1_isTold_12 rfl () (show (nI 1 : Int32) = (if ¬ x = 0 then 1 else 0) from by first | rfl | omega | ((repeat' split) <;> first | rfl | omega | (exfalso; omega))) rfl
set_option maxHeartbeats 4000000 in
set_option maxRecDepth 100000 in
theorem c_X1_forget (l : Launch) (D : va_G) (cI cZ cH : ClassId) (h x : Nat) (y z : Int32)  : Mv l D cI cZ cH yX1_forget wsX1_forget 0 0 [.ref h] [(h, .inr (1, [.int (nI x), .int y, .int z]))] (fun (_ : Unit) => True) (fun (_ : Unit) => [(h, .inr (1, [.int (nI 0), .int (-6), .int (-6)]))]) := by
  refine Mv.start (cc := cX1_forget) (nL := 1) (ret := none) (lv0 := [(0, .ref h)]) (by decide) rfl (Nat.le_of_ble_eq_true rfl) rfl ?_
  intro pX eX sX mX bX methX cX AX C
  refine j_aload_n C dX1_forget_0 0 rfl 1 rfl ?_
  refine j_iconst C dX1_forget_1 (nI 0) (by decide) 2 rfl ?_
  refine j_put C dX1_forget_2 0 0 1 inX1_forget_1 tyX1 tyX1_ok nmX1 rfl rfl (by decide) rfl rfl rfl rfl rfl (Nat.le_of_ble_eq_true rfl) [(h, .inr (1, [.int (nI 0), .int y, .int z]))] rfl 5 rfl ?_
  refine j_aload_n C dX1_forget_5 0 rfl 6 rfl ?_
  refine j_bipush C dX1_forget_6 (-6) (by decide) 8 rfl ?_
  refine j_put C dX1_forget_8 0 1 2 inX1_forget_1 tyX1 tyX1_ok nmX1 rfl rfl (by decide) rfl rfl rfl rfl rfl (Nat.le_of_ble_eq_true rfl) [(h, .inr (1, [.int (nI 0), .int (-6), .int z]))] rfl 11 rfl ?_
  refine j_aload_n C dX1_forget_11 0 rfl 12 rfl ?_
  refine j_bipush C dX1_forget_12 (-6) (by decide) 14 rfl ?_
  refine j_put C dX1_forget_14 0 2 3 inX1_forget_1 tyX1 tyX1_ok nmX1 rfl rfl (by decide) rfl rfl rfl rfl rfl (Nat.le_of_ble_eq_true rfl) [(h, .inr (1, [.int (nI 0), .int (-6), .int (-6)]))] rfl 17 rfl ?_
  exact j_vret C dX1_forget_17 () trivial rfl
set_option maxHeartbeats 4000000 in
set_option maxRecDepth 100000 in
theorem c_X1_takeOver (l : Launch) (D : va_G) (cI cZ cH : ClassId) (h x : Nat) (y z : Int32) (h2 x2 : Nat) (y2 z2 : Int32)  : Mv l D cI cZ cH yX1_takeOver wsX1_takeOver 0 0 [.ref h, .ref h2] [(h, .inr (1, [.int (nI x), .int y, .int z])), (h2, .inr (1, [.int (nI x2), .int y2, .int z2]))] (fun (_ : Unit) => True) (fun (_ : Unit) => [(h, .inr (1, [.int (nI x2), .int y2, .int z2])), (h2, .inr (1, [.int (nI x2), .int y2, .int z2]))]) := by
  refine Mv.start (cc := cX1_takeOver) (nL := 2) (ret := none) (lv0 := [(0, .ref h), (1, .ref h2)]) (by decide) rfl (Nat.le_of_ble_eq_true rfl) rfl ?_
  intro pX eX sX mX bX methX cX AX C
  refine j_aload_n C dX1_takeOver_0 0 rfl 1 rfl ?_
  refine j_aload_n C dX1_takeOver_1 1 rfl 2 rfl ?_
  refine j_get C dX1_takeOver_2 1 0 1 inX1_takeOver_1 rfl rfl (by decide) rfl rfl rfl 5 rfl ?_
  refine j_put C dX1_takeOver_5 0 0 1 inX1_takeOver_1 tyX1 tyX1_ok nmX1 rfl rfl (by decide) rfl rfl rfl rfl rfl (Nat.le_of_ble_eq_true rfl) [(h, .inr (1, [.int (nI x2), .int y, .int z])), (h2, .inr (1, [.int (nI x2), .int y2, .int z2]))] rfl 8 rfl ?_
  refine j_aload_n C dX1_takeOver_8 0 rfl 9 rfl ?_
  refine j_aload_n C dX1_takeOver_9 1 rfl 10 rfl ?_
  refine j_get C dX1_takeOver_10 1 1 2 inX1_takeOver_1 rfl rfl (by decide) rfl rfl rfl 13 rfl ?_
  refine j_put C dX1_takeOver_13 0 1 2 inX1_takeOver_1 tyX1 tyX1_ok nmX1 rfl rfl (by decide) rfl rfl rfl rfl rfl (Nat.le_of_ble_eq_true rfl) [(h, .inr (1, [.int (nI x2), .int y2, .int z])), (h2, .inr (1, [.int (nI x2), .int y2, .int z2]))] rfl 16 rfl ?_
  refine j_aload_n C dX1_takeOver_16 0 rfl 17 rfl ?_
  refine j_aload_n C dX1_takeOver_17 1 rfl 18 rfl ?_
  refine j_get C dX1_takeOver_18 1 2 3 inX1_takeOver_1 rfl rfl (by decide) rfl rfl rfl 21 rfl ?_
  refine j_put C dX1_takeOver_21 0 2 3 inX1_takeOver_1 tyX1 tyX1_ok nmX1 rfl rfl (by decide) rfl rfl rfl rfl rfl (Nat.le_of_ble_eq_true rfl) [(h, .inr (1, [.int (nI x2), .int y2, .int z2])), (h2, .inr (1, [.int (nI x2), .int y2, .int z2]))] rfl 24 rfl ?_
  exact j_vret C dX1_takeOver_24 () trivial rfl
set_option maxHeartbeats 4000000 in
set_option maxRecDepth 100000 in
theorem c_X0_turn (l : Launch) (D : va_G) (cI cZ cH : ClassId) (h a n : Nat) (f : Nat → Nat) (i : Nat) (hn : n ≤ 1000) (hi : i < n) (hf : f i ≤ 1) : Mi l D cI cZ cH yX0_turn wsX0_turn 1 21 [.ref h, .int (nI i)] [(h, .inr (0, [.ref a, .int (nI n)])), (a, .inl (cI, 1000, .inl (aN f)))] (fun (r9 : Int32) (_ : Unit) => r9 = nI (1 - f i)) (fun (_ : Unit) => [(h, .inr (0, [.ref a, .int (nI n)])), (a, .inl (cI, 1000, .inl (aN (va_up f i (1 - f i)))))]) := by
  refine Mi.start (cc := cX0_turn) (nL := 2) (ret := (some .int)) (lv0 := [(0, .ref h), (1, .int (nI i))]) (by decide) rfl (Nat.le_of_ble_eq_true rfl) rfl ?_
  intro pX eX sX mX bX methX cX AX C
  refine j_aload_n C dX0_turn_0 0 rfl 1 rfl ?_
  refine j_iload_n C dX0_turn_1 1 rfl 2 rfl ?_
  refine j_callVi1 (As := [.int (nI i)]) (rest := []) (wr := []) C (c_X0_hasN l D cI cZ cH h a n f i (by omega) (by omega)) gX0_turn_X0_has dX0_turn_2 rfl yd_X0_has (Nat.le_of_ble_eq_true rfl) (Nat.le_of_ble_eq_true rfl) rfl rfl rfl _ rfl (Nat.le_of_ble_eq_true rfl) (Nat.zero_le _) (Nat.zero_le _) [0, 1] [] rfl rfl rfl rfl rfl (by decide) [0, 1] [(h, .inr (0, [.ref a, .int (nI n)])), (a, .inl (cI, 1000, .inl (aN f)))] rfl rfl rfl 5 rfl ?_
  refine j_ifb_ne C dX0_turn_5 11 (by decide) 8 rfl (fun h5 => ?_) (fun h9 => by exfalso; omega)
  refine j_aload_n C dX0_turn_11 0 rfl 12 rfl ?_
  refine j_get C dX0_turn_12 0 0 1 inX0_turn_0 rfl rfl (by decide) rfl rfl rfl 15 rfl ?_
  refine j_iload_n C dX0_turn_15 1 rfl 16 rfl ?_
  refine j_iconst C dX0_turn_16 (nI 1) (by decide) 17 rfl ?_
  refine j_aload_n C dX0_turn_17 0 rfl 18 rfl ?_
  refine j_get C dX0_turn_18 0 0 1 inX0_turn_0 rfl rfl (by decide) rfl rfl rfl 21 rfl ?_
  refine j_iload_n C dX0_turn_21 1 rfl 22 rfl ?_
  refine j_iald C dX0_turn_22 1 rfl (by omega) (Nat.le_of_ble_eq_true rfl) 23 rfl ?_
  refine j_isub C dX0_turn_23 (nI (1 - (f i))) (pk_sub (by omega)) 24 rfl ?_
  refine j_iast C dX0_turn_24 1 rfl (by omega) (Nat.le_of_ble_eq_true rfl) [(h, .inr (0, [.ref a, .int (nI n)])), (a, .inl (cI, 1000, .inl (aN (va_up f i (1 - (f i))))))] rfl 25 rfl ?_
  refine j_aload_n C dX0_turn_25 0 rfl 26 rfl ?_
  refine j_get C dX0_turn_26 0 0 1 inX0_turn_0 rfl rfl (by decide) rfl rfl rfl 29 rfl ?_
  refine j_iload_n C dX0_turn_29 1 rfl 30 rfl ?_
  refine j_iald C dX0_turn_30 1 rfl (by omega) (Nat.le_of_ble_eq_true rfl) 31 rfl ?_
  exact j_iret C dX0_turn_31 () (show (nI ((va_up f i (1 - (f i))) i) : Int32) = nI (1 - f i) from by simp only [va_up, if_pos]) rfl
set_option maxHeartbeats 4000000 in
set_option maxRecDepth 100000 in
theorem c_X0_appendNumber (l : Launch) (D : va_G) (cI cZ cH : ClassId) (h a n : Nat) (f : Nat → Nat) (v wd : Nat) (hv : v < 2 ^ 31) (hwd : wd ≤ 8) (hn : n + wd ≤ 1000) : Mv l D cI cZ cH yX0_appendNumber wsX0_appendNumber 1 21 [.ref h, .int (nI v), .int (nI wd)] [(h, .inr (0, [.ref a, .int (nI n)])), (a, .inl (cI, 1000, .inl (aN f)))] (fun (_ : Unit) => True) (fun (_ : Unit) => [(h, .inr (0, [.ref a, .int (nI (n + wd))])), (a, .inl (cI, 1000, .inl (aN (putL f n (nb v wd)))))]) := by
  refine Mv.start (cc := cX0_appendNumber) (nL := 4) (ret := none) (lv0 := [(0, .ref h), (1, .int (nI v)), (2, .int (nI wd))]) (by decide) rfl (Nat.le_of_ble_eq_true rfl) rfl ?_
  intro pX eX sX mX bX methX cX AX C
  refine j_iload_n C dX0_appendNumber_0 2 rfl 1 rfl ?_
  refine j_iconst C dX0_appendNumber_1 (nI 1) (by decide) 2 rfl ?_
  refine j_isub C dX0_appendNumber_2 (nI wd - nI 1) rfl 3 rfl ?_
  refine j_istore_n C dX0_appendNumber_3 [(3, .int (nI wd - nI 1)), (0, .ref h), (1, .int (nI v)), (2, .int (nI wd))] (by decide) rfl 4 rfl ?_
  refine j_loop2 (fun (k : Nat) (L : List Nat) => L.length + k = wd ∧ L ++ nb v k = nb v wd) (fun (k : Nat) (L : List Nat) => k) (fun (k : Nat) (L : List Nat) => [(h, .inr (0, [.ref a, .int (nI (n + L.length))])), (a, .inl (cI, 1000, .inl (aN (putL f n L))))]) (fun (k : Nat) (L : List Nat) => [(3, .int (nI k - nI 1)), (0, .ref h), (1, .int (nI v)), (2, .int (nI wd))]) ?_ wd ([]) ⟨by simp, by simp⟩ (by rw [putL_nil]; rfl) rfl
  intro k L hI4 ih4
  obtain ⟨hk, hL⟩ := hI4
  show J D AX pX l eX _ sX mX _ bX methX cX 0 0 _ 4 [(h, .inr (0, [.ref a, .int (nI (n + L.length))])), (a, .inl (cI, 1000, .inl (aN (putL f n L))))] [(3, .int (nI k - nI 1)), (0, .ref h), (1, .int (nI v)), (2, .int (nI wd))] 4 []
  refine j_iload_n C dX0_appendNumber_4 0 rfl 5 rfl ?_
  refine j_if_lt C dX0_appendNumber_5 23 (by decide) (q_m1t (by omega)) 8 rfl (fun h5 => ?_) (fun h5 => ?_)
  · have hk0 : k = 0 := by omega
    exact j_vret C dX0_appendNumber_23 () trivial (by subst hk0; simp only [nb, List.append_nil] at hL; rw [hL, nb_length])
  · have hk1 : 1 ≤ k := by omega
    refine j_lveq [(3, .int (nI (k - 1))), (0, .ref h), (1, .int (nI v)), (2, .int (nI wd))] (by rw [pk_sub hk1]) ?_
    refine j_aload_n C dX0_appendNumber_8 1 rfl 9 rfl ?_
    refine j_iload_n C dX0_appendNumber_9 2 rfl 10 rfl ?_
    refine j_iload_n C dX0_appendNumber_10 0 rfl 11 rfl ?_
    refine j_ishr C dX0_appendNumber_11 (nI (v / 2 ^ (k - 1))) (q_shr (by omega) (by omega)) 12 rfl ?_
    have hshr11 := Nat.div_le_self v (2 ^ (k - 1))
    refine j_iconst C dX0_appendNumber_12 (nI 1) (by decide) 13 rfl ?_
    refine j_iand C dX0_appendNumber_13 (nI (v / 2 ^ (k - 1) % 2)) (q_and1 (by have := Nat.div_le_self v (2 ^ (k - 1)); omega)) 14 rfl ?_
    refine j_callVv1 (As := [.int (nI (v / 2 ^ (k - 1) % 2))]) (rest := []) (wr := []) C (c_X0_append l D cI cZ cH h a (n + L.length) (putL f n L) (v / 2 ^ (k - 1) % 2) (by omega)) gX0_appendNumber_X0_append dX0_appendNumber_14 rfl yd_X0_append (Nat.le_of_ble_eq_true rfl) (Nat.le_of_ble_eq_true rfl) rfl rfl rfl _ rfl (Nat.le_of_ble_eq_true rfl) (Nat.zero_le _) (Nat.zero_le _) [0, 1] [] rfl rfl rfl rfl rfl (by decide) [0, 1] [(h, .inr (0, [.ref a, .int (nI ((n + L.length) + 1))])), (a, .inl (cI, 1000, .inl (aN (va_up (putL f n L) (n + L.length) (v / 2 ^ (k - 1) % 2)))))] rfl rfl rfl 17 rfl ?_
    refine j_iinc C dX0_appendNumber_17 0 rfl (nI (k - 1) - nI 1) (q_dec _) [(3, .int (nI (k - 1) - nI 1)), (0, .ref h), (1, .int (nI v)), (2, .int (nI wd))] (by decide) rfl 20 rfl ?_
    refine j_goto C dX0_appendNumber_20 4 (by decide) ?_
    refine j_world [(h, .inr (0, [.ref a, .int (nI (n + (L ++ [v / 2 ^ (k - 1) % 2]).length))])), (a, .inl (cI, 1000, .inl (aN (putL f n (L ++ [v / 2 ^ (k - 1) % 2])))))] (by rw [putL_snoc, List.length_append]; rfl) ?_
    exact ih4 (k - 1) (L ++ [v / 2 ^ (k - 1) % 2]) ⟨by simp only [List.length_append, List.length_cons, List.length_nil]; omega, by rw [← hL, List.append_assoc]; congr 1; obtain ⟨k, rfl⟩ : ∃ z, k = z + 1 := ⟨k - 1, by omega⟩; rfl⟩ (by omega)
set_option maxHeartbeats 4000000 in
set_option maxRecDepth 100000 in
theorem c_X3_takeOver (l : Launch) (D : va_G) (cI cZ cH : ClassId) (h1 r1 o1 t1 u1 oa1 ta1 w1 sz1 ev1 n1 k1 x1 : Nat) (f1 b1 : Nat → Nat) (y1 z1 : Int32) (h2 r2 o2 t2 u2 oa2 ta2 w2 sz2 ev2 n2 k2 x2 : Nat) (f2 b2 : Nat → Nat) (y2 z2 : Int32) (hn2 : n2 ≤ 64) (hk2 : k2 ≤ 1000) : Mv l D cI cZ cH yX3_takeOver wsX3_takeOver 2 51 [.ref h1, .ref h2] [(h1, .inr (3, [.ref r1, .ref o1, .ref t1, .ref u1])), (r1, .inr (7, [.int (nI w1), .int (nI sz1), .int (nI ev1)])), (o1, .inr (6, [.ref oa1, .int (nI n1)])), (oa1, .inl (cI, 64, .inl (aN f1))), (t1, .inr (0, [.ref ta1, .int (nI k1)])), (ta1, .inl (cI, 1000, .inl (aN b1))), (u1, .inr (1, [.int (nI x1), .int y1, .int z1])), (h2, .inr (3, [.ref r2, .ref o2, .ref t2, .ref u2])), (r2, .inr (7, [.int (nI w2), .int (nI sz2), .int (nI ev2)])), (o2, .inr (6, [.ref oa2, .int (nI n2)])), (oa2, .inl (cI, 64, .inl (aN f2))), (t2, .inr (0, [.ref ta2, .int (nI k2)])), (ta2, .inl (cI, 1000, .inl (aN b2))), (u2, .inr (1, [.int (nI x2), .int y2, .int z2]))] (fun (_ : Unit) => True) (fun (_ : Unit) => [(h1, .inr (3, [.ref r1, .ref o1, .ref t1, .ref u1])), (r1, .inr (7, [.int (nI w2), .int (nI sz2), .int (nI ev2)])), (o1, .inr (6, [.ref oa1, .int (nI n2)])), (oa1, .inl (cI, 64, .inl (aN (fun j => if j < n2 then f2 j else f1 j)))), (t1, .inr (0, [.ref ta1, .int (nI k2)])), (ta1, .inl (cI, 1000, .inl (aN (fun j => if j < k2 then b2 j else b1 j)))), (u1, .inr (1, [.int (nI x2), .int y2, .int z2])), (h2, .inr (3, [.ref r2, .ref o2, .ref t2, .ref u2])), (r2, .inr (7, [.int (nI w2), .int (nI sz2), .int (nI ev2)])), (o2, .inr (6, [.ref oa2, .int (nI n2)])), (oa2, .inl (cI, 64, .inl (aN f2))), (t2, .inr (0, [.ref ta2, .int (nI k2)])), (ta2, .inl (cI, 1000, .inl (aN b2))), (u2, .inr (1, [.int (nI x2), .int y2, .int z2]))]) := by
  refine Mv.start (cc := cX3_takeOver) (nL := 2) (ret := none) (lv0 := [(0, .ref h1), (1, .ref h2)]) (by decide) rfl (Nat.le_of_ble_eq_true rfl) rfl ?_
  intro pX eX sX mX bX methX cX AX C
  refine j_aload_n C dX3_takeOver_0 0 rfl 1 rfl ?_
  refine j_get C dX3_takeOver_1 0 0 1 inX3_takeOver_3 rfl rfl (by decide) rfl rfl rfl 4 rfl ?_
  refine j_aload_n C dX3_takeOver_4 1 rfl 5 rfl ?_
  refine j_get C dX3_takeOver_5 7 0 1 inX3_takeOver_3 rfl rfl (by decide) rfl rfl rfl 8 rfl ?_
  refine j_callVv1 (As := [.ref r2]) (rest := []) (wr := [(h1, .inr (3, [.ref r1, .ref o1, .ref t1, .ref u1])), (o1, .inr (6, [.ref oa1, .int (nI n1)])), (oa1, .inl (cI, 64, .inl (aN f1))), (t1, .inr (0, [.ref ta1, .int (nI k1)])), (ta1, .inl (cI, 1000, .inl (aN b1))), (u1, .inr (1, [.int (nI x1), .int y1, .int z1])), (h2, .inr (3, [.ref r2, .ref o2, .ref t2, .ref u2])), (o2, .inr (6, [.ref oa2, .int (nI n2)])), (oa2, .inl (cI, 64, .inl (aN f2))), (t2, .inr (0, [.ref ta2, .int (nI k2)])), (ta2, .inl (cI, 1000, .inl (aN b2))), (u2, .inr (1, [.int (nI x2), .int y2, .int z2]))]) C (c_X7_takeOver l D cI cZ cH r1 w1 sz1 ev1 r2 w2 sz2 ev2 ) gX3_takeOver_X7_takeOver dX3_takeOver_8 rfl yd_X7_takeOver (Nat.le_of_ble_eq_true rfl) (Nat.le_of_ble_eq_true rfl) rfl rfl rfl _ rfl (Nat.le_of_ble_eq_true rfl) (Nat.zero_le _) (Nat.zero_le _) [1, 8] [0, 2, 3, 4, 5, 6, 7, 9, 10, 11, 12, 13] rfl rfl rfl rfl rfl (by decide) [0, 12, 1, 2, 3, 4, 5, 6, 13, 7, 8, 9, 10, 11] [(h1, .inr (3, [.ref r1, .ref o1, .ref t1, .ref u1])), (r1, .inr (7, [.int (nI w2), .int (nI sz2), .int (nI ev2)])), (o1, .inr (6, [.ref oa1, .int (nI n1)])), (oa1, .inl (cI, 64, .inl (aN f1))), (t1, .inr (0, [.ref ta1, .int (nI k1)])), (ta1, .inl (cI, 1000, .inl (aN b1))), (u1, .inr (1, [.int (nI x1), .int y1, .int z1])), (h2, .inr (3, [.ref r2, .ref o2, .ref t2, .ref u2])), (r2, .inr (7, [.int (nI w2), .int (nI sz2), .int (nI ev2)])), (o2, .inr (6, [.ref oa2, .int (nI n2)])), (oa2, .inl (cI, 64, .inl (aN f2))), (t2, .inr (0, [.ref ta2, .int (nI k2)])), (ta2, .inl (cI, 1000, .inl (aN b2))), (u2, .inr (1, [.int (nI x2), .int y2, .int z2]))] rfl rfl rfl 11 rfl ?_
  refine j_aload_n C dX3_takeOver_11 0 rfl 12 rfl ?_
  refine j_get C dX3_takeOver_12 0 1 2 inX3_takeOver_3 rfl rfl (by decide) rfl rfl rfl 15 rfl ?_
  refine j_aload_n C dX3_takeOver_15 1 rfl 16 rfl ?_
  refine j_get C dX3_takeOver_16 7 1 2 inX3_takeOver_3 rfl rfl (by decide) rfl rfl rfl 19 rfl ?_
  refine j_callVv1 (As := [.ref o2]) (rest := []) (wr := [(h1, .inr (3, [.ref r1, .ref o1, .ref t1, .ref u1])), (r1, .inr (7, [.int (nI w2), .int (nI sz2), .int (nI ev2)])), (t1, .inr (0, [.ref ta1, .int (nI k1)])), (ta1, .inl (cI, 1000, .inl (aN b1))), (u1, .inr (1, [.int (nI x1), .int y1, .int z1])), (h2, .inr (3, [.ref r2, .ref o2, .ref t2, .ref u2])), (r2, .inr (7, [.int (nI w2), .int (nI sz2), .int (nI ev2)])), (t2, .inr (0, [.ref ta2, .int (nI k2)])), (ta2, .inl (cI, 1000, .inl (aN b2))), (u2, .inr (1, [.int (nI x2), .int y2, .int z2]))]) C (c_X6_takeOver l D cI cZ cH o1 oa1 n1 f1 o2 oa2 n2 f2 (by omega)) gX3_takeOver_X6_takeOver dX3_takeOver_19 rfl yd_X6_takeOver (Nat.le_of_ble_eq_true rfl) (Nat.le_of_ble_eq_true rfl) rfl rfl rfl _ rfl (Nat.le_of_ble_eq_true rfl) (Nat.zero_le _) (Nat.zero_le _) [2, 3, 9, 10] [0, 1, 4, 5, 6, 7, 8, 11, 12, 13] rfl rfl rfl rfl rfl (by decide) [0, 1, 10, 11, 2, 3, 4, 5, 6, 12, 13, 7, 8, 9] [(h1, .inr (3, [.ref r1, .ref o1, .ref t1, .ref u1])), (r1, .inr (7, [.int (nI w2), .int (nI sz2), .int (nI ev2)])), (o1, .inr (6, [.ref oa1, .int (nI n2)])), (oa1, .inl (cI, 64, .inl (aN (fun j => if j < n2 then f2 j else f1 j)))), (t1, .inr (0, [.ref ta1, .int (nI k1)])), (ta1, .inl (cI, 1000, .inl (aN b1))), (u1, .inr (1, [.int (nI x1), .int y1, .int z1])), (h2, .inr (3, [.ref r2, .ref o2, .ref t2, .ref u2])), (r2, .inr (7, [.int (nI w2), .int (nI sz2), .int (nI ev2)])), (o2, .inr (6, [.ref oa2, .int (nI n2)])), (oa2, .inl (cI, 64, .inl (aN f2))), (t2, .inr (0, [.ref ta2, .int (nI k2)])), (ta2, .inl (cI, 1000, .inl (aN b2))), (u2, .inr (1, [.int (nI x2), .int y2, .int z2]))] rfl rfl rfl 22 rfl ?_
  refine j_aload_n C dX3_takeOver_22 0 rfl 23 rfl ?_
  refine j_get C dX3_takeOver_23 0 2 3 inX3_takeOver_3 rfl rfl (by decide) rfl rfl rfl 26 rfl ?_
  refine j_aload_n C dX3_takeOver_26 1 rfl 27 rfl ?_
  refine j_get C dX3_takeOver_27 7 2 3 inX3_takeOver_3 rfl rfl (by decide) rfl rfl rfl 30 rfl ?_
  refine j_callVv1 (As := [.ref t2]) (rest := []) (wr := [(h1, .inr (3, [.ref r1, .ref o1, .ref t1, .ref u1])), (r1, .inr (7, [.int (nI w2), .int (nI sz2), .int (nI ev2)])), (o1, .inr (6, [.ref oa1, .int (nI n2)])), (oa1, .inl (cI, 64, .inl (aN (fun j => if j < n2 then f2 j else f1 j)))), (u1, .inr (1, [.int (nI x1), .int y1, .int z1])), (h2, .inr (3, [.ref r2, .ref o2, .ref t2, .ref u2])), (r2, .inr (7, [.int (nI w2), .int (nI sz2), .int (nI ev2)])), (o2, .inr (6, [.ref oa2, .int (nI n2)])), (oa2, .inl (cI, 64, .inl (aN f2))), (u2, .inr (1, [.int (nI x2), .int y2, .int z2]))]) C (c_X0_takeOver l D cI cZ cH t1 ta1 k1 b1 t2 ta2 k2 b2 (by omega)) gX3_takeOver_X0_takeOver dX3_takeOver_30 rfl yd_X0_takeOver (Nat.le_of_ble_eq_true rfl) (Nat.le_of_ble_eq_true rfl) rfl rfl rfl _ rfl (Nat.le_of_ble_eq_true rfl) (Nat.zero_le _) (Nat.zero_le _) [4, 5, 11, 12] [0, 1, 2, 3, 6, 7, 8, 9, 10, 13] rfl rfl rfl rfl rfl (by decide) [0, 1, 2, 3, 10, 11, 4, 5, 6, 7, 8, 12, 13, 9] [(h1, .inr (3, [.ref r1, .ref o1, .ref t1, .ref u1])), (r1, .inr (7, [.int (nI w2), .int (nI sz2), .int (nI ev2)])), (o1, .inr (6, [.ref oa1, .int (nI n2)])), (oa1, .inl (cI, 64, .inl (aN (fun j => if j < n2 then f2 j else f1 j)))), (t1, .inr (0, [.ref ta1, .int (nI k2)])), (ta1, .inl (cI, 1000, .inl (aN (fun j => if j < k2 then b2 j else b1 j)))), (u1, .inr (1, [.int (nI x1), .int y1, .int z1])), (h2, .inr (3, [.ref r2, .ref o2, .ref t2, .ref u2])), (r2, .inr (7, [.int (nI w2), .int (nI sz2), .int (nI ev2)])), (o2, .inr (6, [.ref oa2, .int (nI n2)])), (oa2, .inl (cI, 64, .inl (aN f2))), (t2, .inr (0, [.ref ta2, .int (nI k2)])), (ta2, .inl (cI, 1000, .inl (aN b2))), (u2, .inr (1, [.int (nI x2), .int y2, .int z2]))] rfl rfl rfl 33 rfl ?_
  refine j_aload_n C dX3_takeOver_33 0 rfl 34 rfl ?_
  refine j_get C dX3_takeOver_34 0 3 4 inX3_takeOver_3 rfl rfl (by decide) rfl rfl rfl 37 rfl ?_
  refine j_aload_n C dX3_takeOver_37 1 rfl 38 rfl ?_
  refine j_get C dX3_takeOver_38 7 3 4 inX3_takeOver_3 rfl rfl (by decide) rfl rfl rfl 41 rfl ?_
  refine j_callVv1 (As := [.ref u2]) (rest := []) (wr := [(h1, .inr (3, [.ref r1, .ref o1, .ref t1, .ref u1])), (r1, .inr (7, [.int (nI w2), .int (nI sz2), .int (nI ev2)])), (o1, .inr (6, [.ref oa1, .int (nI n2)])), (oa1, .inl (cI, 64, .inl (aN (fun j => if j < n2 then f2 j else f1 j)))), (t1, .inr (0, [.ref ta1, .int (nI k2)])), (ta1, .inl (cI, 1000, .inl (aN (fun j => if j < k2 then b2 j else b1 j)))), (h2, .inr (3, [.ref r2, .ref o2, .ref t2, .ref u2])), (r2, .inr (7, [.int (nI w2), .int (nI sz2), .int (nI ev2)])), (o2, .inr (6, [.ref oa2, .int (nI n2)])), (oa2, .inl (cI, 64, .inl (aN f2))), (t2, .inr (0, [.ref ta2, .int (nI k2)])), (ta2, .inl (cI, 1000, .inl (aN b2)))]) C (c_X1_takeOver l D cI cZ cH u1 x1 y1 z1 u2 x2 y2 z2 ) gX3_takeOver_X1_takeOver dX3_takeOver_41 rfl yd_X1_takeOver (Nat.le_of_ble_eq_true rfl) (Nat.le_of_ble_eq_true rfl) rfl rfl rfl _ rfl (Nat.le_of_ble_eq_true rfl) (Nat.zero_le _) (Nat.zero_le _) [6, 13] [0, 1, 2, 3, 4, 5, 7, 8, 9, 10, 11, 12] rfl rfl rfl rfl rfl (by decide) [0, 1, 2, 3, 4, 5, 12, 6, 7, 8, 9, 10, 11, 13] [(h1, .inr (3, [.ref r1, .ref o1, .ref t1, .ref u1])), (r1, .inr (7, [.int (nI w2), .int (nI sz2), .int (nI ev2)])), (o1, .inr (6, [.ref oa1, .int (nI n2)])), (oa1, .inl (cI, 64, .inl (aN (fun j => if j < n2 then f2 j else f1 j)))), (t1, .inr (0, [.ref ta1, .int (nI k2)])), (ta1, .inl (cI, 1000, .inl (aN (fun j => if j < k2 then b2 j else b1 j)))), (u1, .inr (1, [.int (nI x2), .int y2, .int z2])), (h2, .inr (3, [.ref r2, .ref o2, .ref t2, .ref u2])), (r2, .inr (7, [.int (nI w2), .int (nI sz2), .int (nI ev2)])), (o2, .inr (6, [.ref oa2, .int (nI n2)])), (oa2, .inl (cI, 64, .inl (aN f2))), (t2, .inr (0, [.ref ta2, .int (nI k2)])), (ta2, .inl (cI, 1000, .inl (aN b2))), (u2, .inr (1, [.int (nI x2), .int y2, .int z2]))] rfl rfl rfl 44 rfl ?_
  exact j_vret C dX3_takeOver_44 () trivial rfl
end
